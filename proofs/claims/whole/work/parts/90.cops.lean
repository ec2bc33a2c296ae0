/-! ===== the class's calls, in the words of what is asked ===== -/
def CPost (Γ : GBase) (S S' : PS) (x : Nat) (sp : Nat → BT → Int32 → Prop) (r : Option Value) : Prop := ∃ B' v A', sp 0 B' v ∧ BkI Γ S' x A' B' ∧ FrB S S' ∧ r = some (.int v)
def CPx (Γ : GBase) (S S' : PS) (x : Nat) (sp : Nat → BT → Int32 → Prop) (hnd : Nat → String → Prop) (E : String) : Prop := ∃ k B' v A', hnd k E ∧ sp k B' v ∧ BkI Γ S' x A' B' ∧ FrB S S'
def H1 (a : String) (k : Nat) (E : String) : Prop := k = 1 ∧ E = a
def H2 (a b : String) (k : Nat) (E : String) : Prop := (k = 1 ∧ E = a) ∨ (k = 2 ∧ E = b)
def H3 (a b c : String) (k : Nat) (E : String) : Prop := (k = 1 ∧ E = a) ∨ (k = 2 ∧ E = b) ∨ (k = 3 ∧ E = c)
theorem c_addPuppet {Γ : GBase} (F : FB Γ) (S : PS) (x : Nat) (y z : Int32) (A : AD) (B : BT) (hI : BkI Γ S x A B) : GMet Γ yX5_addPuppet cX5_addPuppet 4 ((some FieldType.int)) 6 6 2150 [.ref x, .int y, .int z] S (fun r S' => CPost Γ S S' x (spAddPuppet B y z) r) (fun E S' => CPx Γ S S' x (spAddPuppet B y z) (H2 xIAE xISE) E) := by
  refine (m_addPuppet F S x y z A B hI).weak (fun r S' h => ?_) (fun E S' h => ?_)
  · obtain ⟨s, o, h1, h2, h3, h4, h5, h6, h7, ⟨A', h8⟩, h9, rfl⟩ := h
    exact ⟨_, _, A', Or.inr (Or.inr ⟨rfl, s, o, h1, h2, h3, h4, h5, h6, h7, rfl, rfl⟩), h8, h9, rfl⟩
  · obtain ⟨rfl, ⟨rfl, h⟩ | ⟨rfl, h1, h2, h3⟩⟩ := h
    · exact ⟨1, B, 0, A, Or.inl ⟨rfl, rfl⟩, Or.inl ⟨rfl, rfl, h⟩, hI, FrB.rf⟩
    · exact ⟨2, B, 0, A, Or.inr ⟨rfl, rfl⟩, Or.inr (Or.inl ⟨rfl, rfl, h1, h2, h3⟩), hI, FrB.rf⟩
theorem c_addPlayer {Γ : GBase} (F : FB Γ) (S : PS) (x : Nat) (y z : Int32) (A : AD) (B : BT) (hI : BkI Γ S x A B) : GMet Γ yX5_addPlayer cX5_addPlayer 4 ((some FieldType.int)) 6 4 1140 [.ref x, .int y, .int z] S (fun r S' => CPost Γ S S' x (spAddPlayer B y z) r) (fun E S' => CPx Γ S S' x (spAddPlayer B y z) (H2 xIAE xISE) E) := by
  refine (m_addPlayer F S x y z A B hI).weak (fun r S' h => ?_) (fun E S' h => ?_)
  · obtain ⟨s, o, h1, h2, h3, h4, h5, h7, ⟨A', h8⟩, h9, rfl⟩ := h
    exact ⟨_, _, A', Or.inr (Or.inr ⟨rfl, s, o, h1, h2, h3, h4, h5, h7, rfl, rfl⟩), h8, h9, rfl⟩
  · obtain ⟨rfl, ⟨rfl, h⟩ | ⟨rfl, h1, h2, h3⟩⟩ := h
    · exact ⟨1, B, 0, A, Or.inl ⟨rfl, rfl⟩, Or.inl ⟨rfl, rfl, h⟩, hI, FrB.rf⟩
    · exact ⟨2, B, 0, A, Or.inr ⟨rfl, rfl⟩, Or.inr (Or.inl ⟨rfl, rfl, h1, h2, h3⟩), hI, FrB.rf⟩
theorem DidW.c {Γ : GBase} {S S' : PS} {x p κ : Nat} {A : AD} {B : BT} {d : D4} {r : Option Value} {y yb yl yt : Int32} (h : DidW Γ S S' x A B p d r) (hp : p < tN B) (hy : y = nI p) (hd : wdW κ yb yl yt d) : CPost Γ S S' x (spWr κ B y yb yl yt) r := by
  obtain ⟨h1, h2, rfl, ⟨A', h4⟩, h5⟩ := h
  exact ⟨_, _, A', Or.inr (Or.inr ⟨p, d, hp, hy, hd, Or.inr ⟨rfl, h1, h2, rfl, rfl⟩⟩), h4, h5, rfl⟩
theorem NotW.c {Γ : GBase} {S S' : PS} {x p κ : Nat} {A : AD} {B : BT} {d : D4} {y yb yl yt : Int32} (h : NotW Γ S S' x A B p d) (hp : p < tN B) (hy : y = nI p) (hd : wdW κ yb yl yt d) : CPx Γ S S' x (spWr κ B y yb yl yt) (H3 xIOB xIAE xISE) xISE := by
  obtain ⟨h1, h2, h3⟩ := h
  exact ⟨3, B, 0, A, Or.inr (Or.inr ⟨rfl, rfl⟩), Or.inr (Or.inr ⟨p, d, hp, hy, hd, Or.inl ⟨rfl, rfl, h1⟩⟩), h2, h3⟩
theorem CPx.w1 {Γ : GBase} {S : PS} {x κ : Nat} {A : AD} {B : BT} {y yb yl yt : Int32} (hI : BkI Γ S x A B) (h : ¬ inR y (tN B)) : CPx Γ S S x (spWr κ B y yb yl yt) (H3 xIOB xIAE xISE) xIOB := ⟨1, B, 0, A, Or.inl ⟨rfl, rfl⟩, Or.inl ⟨rfl, rfl, h⟩, hI, FrB.rf⟩
theorem CPx.w2 {Γ : GBase} {S : PS} {x κ : Nat} {A : AD} {B : BT} {y yb yl yt : Int32} (hI : BkI Γ S x A B) (h : inR y (tN B)) (hg : ¬ gdW κ yb yl yt) : CPx Γ S S x (spWr κ B y yb yl yt) (H3 xIOB xIAE xISE) xIAE := ⟨2, B, 0, A, Or.inr (Or.inl ⟨rfl, rfl⟩), Or.inr (Or.inl ⟨rfl, rfl, h, hg⟩), hI, FrB.rf⟩
theorem c_enter {Γ : GBase} (F : FB Γ) (S : PS) (x : Nat) (y yb yl yt : Int32) (A : AD) (B : BT) (hI : BkI Γ S x A B) : GMet Γ yX5_enter cX5_enter 6 ((some FieldType.int)) 10 91 4440 [.ref x, .int y, .int yb, .int yl, .int yt] S (fun r S' => CPost Γ S S' x (spWr 0 B y yb yl yt) r) (fun E S' => CPx Γ S S' x (spWr 0 B y yb yl yt) (H3 xIOB xIAE xISE) E) := by
  have wd : ∀ b l t, b < 1000 → yb = nI b → l < 20 → yl = nI l → t < 4 → yt = nI t → wdW 0 yb yl yt (0, b, l, t) := fun b l t a1 a2 a3 a4 a5 a6 => ⟨⟨Nat.zero_lt_succ 3, a1, fun _ => a3, fun _ => a5⟩, rfl, a2, fun _ => a4, fun h => absurd (Nat.zero_le _) h, fun _ => a6, fun h => absurd (Or.inl rfl) h⟩
  refine (m_enter F S x y yb yl yt A B hI).weak (fun r S' h => ?_) (fun E S' h => ?_)
  · obtain ⟨p, b, l, t, h1, h2, h3, h4, h5, h6, h7, h8, h9⟩ := h
    exact h9.c h1 h2 (wd b l t h3 h4 h5 h6 h7 h8)
  · rcases h with ⟨rfl, ⟨rfl, h⟩ | ⟨rfl, h, hg⟩⟩ | ⟨rfl, p, b, l, t, h1, h2, h3, h4, h5, h6, h7, h8, h9⟩
    · exact CPx.w1 hI h
    · exact CPx.w2 hI h (fun g => hg ⟨g.1, g.2.1 (by decide), g.2.2 (Or.inl rfl)⟩)
    · exact h9.c h1 h2 (wd b l t h3 h4 h5 h6 h7 h8)
theorem c_move {Γ : GBase} (F : FB Γ) (S : PS) (x : Nat) (y yb yl : Int32) (A : AD) (B : BT) (hI : BkI Γ S x A B) : GMet Γ yX5_move cX5_move 5 ((some FieldType.int)) 10 91 4440 [.ref x, .int y, .int yb, .int yl] S (fun r S' => CPost Γ S S' x (spWr 1 B y yb yl (-1)) r) (fun E S' => CPx Γ S S' x (spWr 1 B y yb yl (-1)) (H3 xIOB xIAE xISE) E) := by
  have wd : ∀ b l, b < 1000 → yb = nI b → l < 20 → yl = nI l → wdW 1 yb yl (-1) (1, b, l, 0) := fun b l a1 a2 a3 a4 => ⟨⟨by show 1 < 4; decide, a1, fun _ => a3, fun h => absurd h (by show ¬ (1 = 0 ∨ 1 = 2); decide)⟩, rfl, a2, fun _ => a4, fun h => absurd (Nat.le_refl _) h, fun h => absurd h (by decide), fun _ => rfl⟩
  refine (m_move F S x y yb yl A B hI).weak (fun r S' h => ?_) (fun E S' h => ?_)
  · obtain ⟨p, b, l, h1, h2, h3, h4, h5, h6, h9⟩ := h
    exact h9.c h1 h2 (wd b l h3 h4 h5 h6)
  · rcases h with ⟨rfl, ⟨rfl, h⟩ | ⟨rfl, h, hg⟩⟩ | ⟨rfl, p, b, l, h1, h2, h3, h4, h5, h6, h9⟩
    · exact CPx.w1 hI h
    · exact CPx.w2 hI h (fun g => hg ⟨g.1, g.2.1 (by decide)⟩)
    · exact h9.c h1 h2 (wd b l h3 h4 h5 h6)
theorem c_shift {Γ : GBase} (F : FB Γ) (S : PS) (x : Nat) (y yb yt : Int32) (A : AD) (B : BT) (hI : BkI Γ S x A B) : GMet Γ yX5_shift cX5_shift 5 ((some FieldType.int)) 10 91 4440 [.ref x, .int y, .int yb, .int yt] S (fun r S' => CPost Γ S S' x (spWr 2 B y yb (-1) yt) r) (fun E S' => CPx Γ S S' x (spWr 2 B y yb (-1) yt) (H3 xIOB xIAE xISE) E) := by
  have wd : ∀ b t, b < 1000 → yb = nI b → t < 4 → yt = nI t → wdW 2 yb (-1) yt (2, b, 0, t) := fun b t a1 a2 a5 a6 => ⟨⟨by show 2 < 4; decide, a1, fun h => absurd h (by show ¬ 2 ≤ 1; decide), fun _ => a5⟩, rfl, a2, fun h => absurd h (by decide), fun _ => rfl, fun _ => a6, fun h => absurd (Or.inr rfl) h⟩
  refine (m_shift F S x y yb yt A B hI).weak (fun r S' h => ?_) (fun E S' h => ?_)
  · obtain ⟨p, b, t, h1, h2, h3, h4, h7, h8, h9⟩ := h
    exact h9.c h1 h2 (wd b t h3 h4 h7 h8)
  · rcases h with ⟨rfl, ⟨rfl, h⟩ | ⟨rfl, h, hg⟩⟩ | ⟨rfl, p, b, t, h1, h2, h3, h4, h7, h8, h9⟩
    · exact CPx.w1 hI h
    · exact CPx.w2 hI h (fun g => hg ⟨g.1, g.2.2 (Or.inr rfl)⟩)
    · exact h9.c h1 h2 (wd b t h3 h4 h7 h8)
theorem c_leave {Γ : GBase} (F : FB Γ) (S : PS) (x : Nat) (y yb : Int32) (A : AD) (B : BT) (hI : BkI Γ S x A B) : GMet Γ yX5_leave cX5_leave 4 ((some FieldType.int)) 10 91 4440 [.ref x, .int y, .int yb] S (fun r S' => CPost Γ S S' x (spWr 3 B y yb (-1) (-1)) r) (fun E S' => CPx Γ S S' x (spWr 3 B y yb (-1) (-1)) (H3 xIOB xIAE xISE) E) := by
  have wd : ∀ b, b < 1000 → yb = nI b → wdW 3 yb (-1) (-1) (3, b, 0, 0) := fun b a1 a2 => ⟨⟨by show 3 < 4; decide, a1, fun h => absurd h (by show ¬ 3 ≤ 1; decide), fun h => absurd h (by show ¬ (3 = 0 ∨ 3 = 2); decide)⟩, rfl, a2, fun h => absurd h (by decide), fun _ => rfl, fun h => absurd h (by decide), fun _ => rfl⟩
  refine (m_leave F S x y yb A B hI).weak (fun r S' h => ?_) (fun E S' h => ?_)
  · obtain ⟨p, b, h1, h2, h3, h4, h9⟩ := h
    exact h9.c h1 h2 (wd b h3 h4)
  · rcases h with ⟨rfl, ⟨rfl, h⟩ | ⟨rfl, h, hg⟩⟩ | ⟨rfl, p, b, h1, h2, h3, h4, h9⟩
    · exact CPx.w1 hI h
    · exact CPx.w2 hI h (fun g => hg g.1)
    · exact h9.c h1 h2 (wd b h3 h4)
theorem c_strike {Γ : GBase} (F : FB Γ) (S : PS) (x : Nat) (y : Int32) (A : AD) (B : BT) (hI : BkI Γ S x A B) : GMet Γ yX5_strike cX5_strike 3 ((some FieldType.int)) 9 85 4390 [.ref x, .int y] S (fun r S' => CPost Γ S S' x (spStrike B y) r) (fun E S' => CPx Γ S S' x (spStrike B y) (H2 xIOB xISE) E) := by
  refine (m_strike F S x y A B hI).weak (fun r S' h => ?_) (fun E S' h => ?_)
  · obtain ⟨c, h1, h2, rfl, ⟨A', h4⟩, h5⟩ := h
    exact ⟨_, _, A', Or.inr (Or.inr ⟨rfl, c, h1, h2, rfl, rfl⟩), h4, h5, rfl⟩
  · rcases h with ⟨rfl, rfl, h⟩ | ⟨rfl, c, h1, h2, h3, h4⟩
    · exact ⟨1, B, 0, A, Or.inl ⟨rfl, rfl⟩, Or.inl ⟨rfl, rfl, h⟩, hI, FrB.rf⟩
    · exact ⟨2, B, 0, A, Or.inr ⟨rfl, rfl⟩, Or.inr (Or.inl ⟨rfl, rfl, c, h1, h2⟩), h3, h4⟩
theorem c_count {Γ : GBase} (F : FB Γ) (S : PS) (x : Nat) (y : Int32) (A : AD) (B : BT) (hI : BkI Γ S x A B) : GMet Γ yX5_count cX5_count 2 ((some FieldType.int)) 3 1 6 [.ref x, .int y] S (fun r S' => CPost Γ S S' x (spCount B y) r) (fun E S' => CPx Γ S S' x (spCount B y) (H1 xIOB) E) := by
  refine (m_count F S x y A B hI).weak (fun r S' h => ?_) (fun E S' h => ?_)
  · obtain ⟨rfl, w, h1, h2, rfl⟩ := h
    exact ⟨_, _, A, Or.inr ⟨rfl, rfl, w, h1, h2, rfl⟩, hI, FrB.rf, rfl⟩
  · obtain ⟨rfl, rfl, h⟩ := h
    exact ⟨1, B, 0, A, ⟨rfl, rfl⟩, Or.inl ⟨rfl, rfl, h⟩, hI, FrB.rf⟩
theorem c_cue {Γ : GBase} (F : FB Γ) (S : PS) (x : Nat) (y z : Int32) (A : AD) (B : BT) (hI : BkI Γ S x A B) : GMet Γ yX5_cue cX5_cue 3 ((some FieldType.int)) 4 2 12 [.ref x, .int y, .int z] S (fun r S' => CPost Γ S S' x (spCue B y z) r) (fun E S' => CPx Γ S S' x (spCue B y z) (H1 xIOB) E) := by
  refine (m_cue F S x y z A B hI).weak (fun r S' h => ?_) (fun E S' h => ?_)
  · obtain ⟨rfl, c, w, h1, h2, h3, rfl⟩ := h
    exact ⟨_, _, A, Or.inr ⟨rfl, rfl, c, w, h1, h2, h3, rfl⟩, hI, FrB.rf, rfl⟩
  · obtain ⟨rfl, rfl, h⟩ := h
    exact ⟨1, B, 0, A, ⟨rfl, rfl⟩, Or.inl ⟨rfl, rfl, h⟩, hI, FrB.rf⟩
theorem c_place {Γ : GBase} (F : FB Γ) (S : PS) (x : Nat) (y z : Int32) (A : AD) (B : BT) (hI : BkI Γ S x A B) : GMet Γ yX5_place cX5_place 4 ((some FieldType.int)) 4 2 12 [.ref x, .int y, .int z] S (fun r S' => CPost Γ S S' x (spPlace B y z) r) (fun E S' => CPx Γ S S' x (spPlace B y z) (H2 xIOB xIAE) E) := by
  refine (m_place F S x y z A B hI).weak (fun r S' h => ?_) (fun E S' h => ?_)
  · obtain ⟨rfl, i, b, h1, h2, h3, h4, rfl⟩ := h
    exact ⟨_, _, A, Or.inr (Or.inr ⟨rfl, rfl, i, b, h1, h2, h3, h4, rfl⟩), hI, FrB.rf, rfl⟩
  · obtain ⟨rfl, ⟨rfl, h⟩ | ⟨rfl, h1, h2⟩⟩ := h
    · exact ⟨1, B, 0, A, Or.inl ⟨rfl, rfl⟩, Or.inl ⟨rfl, rfl, h⟩, hI, FrB.rf⟩
    · exact ⟨2, B, 0, A, Or.inr ⟨rfl, rfl⟩, Or.inr (Or.inl ⟨rfl, rfl, h1, h2⟩), hI, FrB.rf⟩
theorem c_track {Γ : GBase} (F : FB Γ) (S : PS) (x : Nat) (y z : Int32) (A : AD) (B : BT) (hI : BkI Γ S x A B) : GMet Γ yX5_track cX5_track 4 ((some FieldType.int)) 4 2 12 [.ref x, .int y, .int z] S (fun r S' => CPost Γ S S' x (spTrack B y z) r) (fun E S' => CPx Γ S S' x (spTrack B y z) (H2 xIOB xIAE) E) := by
  refine (m_track F S x y z A B hI).weak (fun r S' h => ?_) (fun E S' h => ?_)
  · obtain ⟨rfl, i, b, h1, h2, h3, h4, rfl⟩ := h
    exact ⟨_, _, A, Or.inr (Or.inr ⟨rfl, rfl, i, b, h1, h2, h3, h4, rfl⟩), hI, FrB.rf, rfl⟩
  · obtain ⟨rfl, ⟨rfl, h⟩ | ⟨rfl, h1, h2⟩⟩ := h
    · exact ⟨1, B, 0, A, Or.inl ⟨rfl, rfl⟩, Or.inl ⟨rfl, rfl, h⟩, hI, FrB.rf⟩
    · exact ⟨2, B, 0, A, Or.inr ⟨rfl, rfl⟩, Or.inr (Or.inl ⟨rfl, rfl, h1, h2⟩), hI, FrB.rf⟩
theorem c_onStage {Γ : GBase} (F : FB Γ) (S : PS) (x : Nat) (y : Int32) (A : AD) (B : BT) (hI : BkI Γ S x A B) : GMet Γ yX5_onStage cX5_onStage 5 ((some FieldType.int)) 4 1 6 [.ref x, .int y] S (fun r S' => CPost Γ S S' x (spOnStage B y) r) (fun E S' => CPx Γ S S' x (spOnStage B y) (H1 xIAE) E) := by
  refine (m_onStage F S x y A B hI).weak (fun r S' h => ?_) (fun E S' h => ?_)
  · obtain ⟨rfl, b, h3, h4, rfl⟩ := h
    exact ⟨_, _, A, Or.inr ⟨rfl, rfl, b, h3, h4, rfl⟩, hI, FrB.rf, rfl⟩
  · obtain ⟨rfl, rfl, h⟩ := h
    exact ⟨1, B, 0, A, ⟨rfl, rfl⟩, Or.inl ⟨rfl, rfl, h⟩, hI, FrB.rf⟩
theorem c_clash {Γ : GBase} (F : FB Γ) (S : PS) (x : Nat) (y z : Int32) (A : AD) (B : BT) (hI : BkI Γ S x A B) : GMet Γ yX5_clash cX5_clash 5 ((some FieldType.int)) 4 3 18 [.ref x, .int y, .int z] S (fun r S' => CPost Γ S S' x (spClash B y z) r) (fun E S' => CPx Γ S S' x (spClash B y z) (H2 xIOB xIAE) E) := by
  refine (m_clash F S x y z A B hI).weak (fun r S' h => ?_) (fun E S' h => ?_)
  · obtain ⟨rfl, i, b, h1, h2, h3, h4, h5, rfl⟩ := h
    exact ⟨_, _, A, Or.inr (Or.inr ⟨rfl, rfl, i, b, h1, h2, h3, h4, h5, rfl⟩), hI, FrB.rf, rfl⟩
  · obtain ⟨rfl, ⟨rfl, h⟩ | ⟨rfl, h1, h2⟩⟩ := h
    · exact ⟨1, B, 0, A, Or.inl ⟨rfl, rfl⟩, Or.inl ⟨rfl, rfl, h⟩, hI, FrB.rf⟩
    · exact ⟨2, B, 0, A, Or.inr ⟨rfl, rfl⟩, Or.inr (Or.inl ⟨rfl, rfl, h1, h2⟩), hI, FrB.rf⟩
theorem c_beats {Γ : GBase} (F : FB Γ) (S : PS) (x : Nat) (y : Int32) (A : AD) (B : BT) (hI : BkI Γ S x A B) : GMet Γ yX5_beats cX5_beats 6 ((some FieldType.int)) 4 1 6 [.ref x, .int y] S (fun r S' => CPost Γ S S' x (spBeats B y) r) (fun E S' => CPx Γ S S' x (spBeats B y) (H1 xIOB) E) := by
  refine (m_beats F S x y A B hI).weak (fun r S' h => ?_) (fun E S' h => ?_)
  · obtain ⟨rfl, b, h3, h4, rfl⟩ := h
    exact ⟨_, _, A, Or.inr ⟨rfl, rfl, b, h3, h4, rfl⟩, hI, FrB.rf, rfl⟩
  · obtain ⟨rfl, rfl, h⟩ := h
    exact ⟨1, B, 0, A, ⟨rfl, rfl⟩, Or.inl ⟨rfl, rfl, h⟩, hI, FrB.rf⟩
theorem c_stays {Γ : GBase} (F : FB Γ) (S : PS) (x : Nat) (y : Int32) (A : AD) (B : BT) (hI : BkI Γ S x A B) : GMet Γ yX5_stays cX5_stays 2 ((some FieldType.int)) 4 1 6 [.ref x, .int y] S (fun r S' => CPost Γ S S' x (spStays B y) r) (fun E S' => CPx Γ S S' x (spStays B y) (H1 xIOB) E) := by
  refine (m_stays F S x y A B hI).weak (fun r S' h => ?_) (fun E S' h => ?_)
  · obtain ⟨rfl, b, h3, h4, rfl⟩ := h
    exact ⟨_, _, A, Or.inr ⟨rfl, rfl, b, h3, h4, rfl⟩, hI, FrB.rf, rfl⟩
  · obtain ⟨rfl, rfl, h⟩ := h
    exact ⟨1, B, 0, A, ⟨rfl, rfl⟩, Or.inl ⟨rfl, rfl, h⟩, hI, FrB.rf⟩
theorem c_stay {Γ : GBase} (F : FB Γ) (S : PS) (x : Nat) (y z w : Int32) (A : AD) (B : BT) (hI : BkI Γ S x A B) : GMet Γ yX5_stay cX5_stay 5 ((some FieldType.int)) 9 42 4012 [.ref x, .int y, .int z, .int w] S (fun r S' => CPost Γ S S' x (spStay B y z w) r) (fun E S' => CPx Γ S S' x (spStay B y z w) (H1 xIOB) E) := by
  refine (m_stay F S x y z w A B hI).weak (fun r S' h => ?_) (fun E S' h => ?_)
  · obtain ⟨h1, h2, i, j, v, h3, h4, h5, h6, h7, h8, rfl⟩ := h
    exact ⟨_, _, A, Or.inr ⟨rfl, rfl, i, j, v, h3, h4, h5, h6, h7, h8, rfl⟩, h1, h2, rfl⟩
  · obtain ⟨h1, h2, rfl, h⟩ := h
    exact ⟨1, B, 0, A, ⟨rfl, rfl⟩, Or.inl ⟨rfl, rfl, h⟩, h1, h2⟩
theorem c_hands {Γ : GBase} (F : FB Γ) (S : PS) (x : Nat) (y z : Int32) (A : AD) (B : BT) (hI : BkI Γ S x A B) : GMet Γ yX5_hands cX5_hands 4 ((some FieldType.int)) 9 42 4012 [.ref x, .int y, .int z] S (fun r S' => CPost Γ S S' x (spHands B y z) r) (fun E S' => CPx Γ S S' x (spHands B y z) (H2 xIOB xIAE) E) := by
  refine (m_hands F S x y z A B hI).weak (fun r S' h => ?_) (fun E S' h => ?_)
  · obtain ⟨a1, a2, i, b, h1, h2, h3, h4, rfl⟩ := h
    exact ⟨_, _, A, Or.inr (Or.inr ⟨rfl, rfl, i, b, h1, h2, h3, h4, rfl⟩), a1, a2, rfl⟩
  · obtain ⟨rfl, ⟨rfl, h⟩ | ⟨rfl, h1, h2⟩⟩ := h
    · exact ⟨1, B, 0, A, Or.inl ⟨rfl, rfl⟩, Or.inl ⟨rfl, rfl, h⟩, hI, FrB.rf⟩
    · exact ⟨2, B, 0, A, Or.inr ⟨rfl, rfl⟩, Or.inr (Or.inl ⟨rfl, rfl, h1, h2⟩), hI, FrB.rf⟩
theorem c_load {Γ : GBase} (F : FB Γ) (S : PS) (x : Nat) (y : Int32) (A : AD) (B : BT) (hI : BkI Γ S x A B) : GMet Γ yX5_load cX5_load 3 ((some FieldType.int)) 9 41 4006 [.ref x, .int y] S (fun r S' => CPost Γ S S' x (spLoad B y) r) (fun E S' => CPx Γ S S' x (spLoad B y) (H1 xIOB) E) := by
  refine (m_load F S x y A B hI).weak (fun r S' h => ?_) (fun E S' h => ?_)
  · obtain ⟨a1, a2, b, h3, h4, rfl⟩ := h
    exact ⟨_, _, A, Or.inr ⟨rfl, rfl, b, h3, h4, rfl⟩, a1, a2, rfl⟩
  · obtain ⟨rfl, rfl, h⟩ := h
    exact ⟨1, B, 0, A, ⟨rfl, rfl⟩, Or.inl ⟨rfl, rfl, h⟩, hI, FrB.rf⟩
theorem c_note {Γ : GBase} (F : FB Γ) (S : PS) (x : Nat) (y z : Int32) (A : AD) (B : BT) (hI : BkI Γ S x A B) : GMet Γ yX5_note cX5_note 4 ((some FieldType.int)) 4 2 12 [.ref x, .int y, .int z] S (fun r S' => CPost Γ S S' x (spNote B y z) r) (fun E S' => CPx Γ S S' x (spNote B y z) (H3 xIOB xIAE xISE) E) := by
  refine (m_note F S x y z A B hI).weak (fun r S' h => ?_) (fun E S' h => ?_)
  · obtain ⟨c, h1, h2, h3, h4, h5, rfl⟩ := h
    exact ⟨_, _, A, Or.inr (Or.inr (Or.inr ⟨rfl, c, h1, h2, h3, rfl, rfl⟩)), h4, h5, rfl⟩
  · obtain ⟨rfl, ⟨rfl, h⟩ | ⟨rfl, h1, h2⟩ | ⟨rfl, c, h1, h2, h3⟩⟩ := h
    · exact ⟨1, B, 0, A, Or.inl ⟨rfl, rfl⟩, Or.inl ⟨rfl, rfl, h⟩, hI, FrB.rf⟩
    · exact ⟨2, B, 0, A, Or.inr (Or.inl ⟨rfl, rfl⟩), Or.inr (Or.inl ⟨rfl, rfl, h1, h2⟩), hI, FrB.rf⟩
    · exact ⟨3, B, 0, A, Or.inr (Or.inr ⟨rfl, rfl⟩), Or.inr (Or.inr (Or.inl ⟨rfl, rfl, c, h1, h2, h3⟩)), hI, FrB.rf⟩
