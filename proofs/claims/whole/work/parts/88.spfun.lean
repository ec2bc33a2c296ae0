/-! ===== what the document asks is one thing: exception, book, answer ===== -/
def FnS (sp : Nat → BT → Int32 → Prop) : Prop := ∀ k B v k' B' v', sp k B v → sp k' B' v' → k = k' ∧ B = B' ∧ (k = 0 → v = v')
theorem inR_1 {y : Int32} {i j n : Nat} (h1 : y = nI i) (h2 : y = nI j) (hi : i < n) (hj : j < n) (hn : n ≤ 1000) : i = j := nI_inj (by omega) (by omega) (h1.symm.trans h2)
theorem isC_1 {B : BT} {y : Int32} {c c' : Nat} (hV : VB B) (h : isC B y c) (h' : isC B y c') : c = c' := inR_1 h.2.1 h'.2.1 h.1 h'.1 (by have := hV.2.2.1; omega)
theorem fnCount {B : BT} (hV : VB B) (y : Int32) : FnS (spCount B y) := by
  intro k B1 v k' B2 v' h h'
  rcases h with ⟨rfl, rfl, h1⟩ | ⟨rfl, rfl, w, h1, h2, h3⟩ <;> rcases h' with ⟨rfl, rfl, g1⟩ | ⟨rfl, rfl, w', g1, g2, g3⟩
  · exact ⟨rfl, rfl, fun e => absurd e (by decide)⟩
  · exact absurd ⟨w', g1, g2⟩ h1
  · exact absurd ⟨w, h1, h2⟩ g1
  · have e := inR_1 h2 g2 h1 g1 (by omega)
    subst e
    exact ⟨rfl, rfl, fun _ => h3.trans g3.symm⟩
theorem fnCue {B : BT} (hV : VB B) (y z : Int32) : FnS (spCue B y z) := by
  intro k B1 v k' B2 v' h h'
  rcases h with ⟨rfl, rfl, h1⟩ | ⟨rfl, rfl, c, w, h1, h2, h3, h4⟩ <;> rcases h' with ⟨rfl, rfl, g1⟩ | ⟨rfl, rfl, c', w', g1, g2, g3, g4⟩
  · exact ⟨rfl, rfl, fun e => absurd e (by decide)⟩
  · exact (h1.elim (fun q => q c' g1) (fun q => q ⟨w', g2, g3⟩)).elim
  · exact (g1.elim (fun q => q c h1) (fun q => q ⟨w, h2, h3⟩)).elim
  · have e := isC_1 hV h1 g1
    have e2 := inR_1 h3 g3 h2 g2 (by omega)
    subst e; subst e2
    exact ⟨rfl, rfl, fun _ => h4.trans g4.symm⟩
theorem fnAddPuppet (B : BT) (y z : Int32) : FnS (spAddPuppet B y z) := by
  intro k B1 v k' B2 v' h h'
  have pos : ∀ s o, s ≤ 9 → 1 ≤ s → y = nI s → 1 ≤ o → o ≤ 2 → z = nI o → in1 y 9 ∧ in1 z 2 := fun s o a b c d e f => ⟨⟨s, b, a, c⟩, ⟨o, d, e, f⟩⟩
  rcases h with ⟨rfl, rfl, h1⟩ | ⟨rfl, rfl, h1, h2, h3⟩ | ⟨rfl, s, o, a1, a2, a3, a4, a5, a6, a7, rfl, rfl⟩ <;> rcases h' with ⟨rfl, rfl, g1⟩ | ⟨rfl, rfl, g1, g2, g3⟩ | ⟨rfl, s', o', b1, b2, b3, b4, b5, b6, b7, rfl, rfl⟩
  · exact ⟨rfl, rfl, fun e => absurd e (by decide)⟩
  · exact absurd ⟨g1, g2⟩ h1
  · exact absurd (pos _ _ b1 b2 b3 b4 b5 b6) h1
  · exact absurd ⟨h1, h2⟩ g1
  · exact ⟨rfl, rfl, fun e => absurd e (by decide)⟩
  · omega
  · exact absurd (pos _ _ a1 a2 a3 a4 a5 a6) g1
  · omega
  · have e := inR_1 (n := 10) a3 b3 (by omega) (by omega) (by omega)
    have e2 := inR_1 (n := 3) a6 b6 (by omega) (by omega) (by omega)
    subst e; subst e2
    exact ⟨rfl, rfl, fun _ => rfl⟩
theorem fnAddPlayer (B : BT) (y z : Int32) : FnS (spAddPlayer B y z) := by
  intro k B1 v k' B2 v' h h'
  have pos : ∀ s o, 1 ≤ s → s ≤ 20 → y = nI s → o < 20 → z = nI o → in1 y 20 ∧ inR z 20 := fun s o a b c d e => ⟨⟨s, a, b, c⟩, ⟨o, d, e⟩⟩
  rcases h with ⟨rfl, rfl, h1⟩ | ⟨rfl, rfl, h1, h2, h3⟩ | ⟨rfl, s, o, a1, a2, a3, a4, a5, a7, rfl, rfl⟩ <;> rcases h' with ⟨rfl, rfl, g1⟩ | ⟨rfl, rfl, g1, g2, g3⟩ | ⟨rfl, s', o', b1, b2, b3, b4, b5, b7, rfl, rfl⟩
  · exact ⟨rfl, rfl, fun e => absurd e (by decide)⟩
  · exact absurd ⟨g1, g2⟩ h1
  · exact absurd (pos _ _ b1 b2 b3 b4 b5) h1
  · exact absurd ⟨h1, h2⟩ g1
  · exact ⟨rfl, rfl, fun e => absurd e (by decide)⟩
  · omega
  · exact absurd (pos _ _ a1 a2 a3 a4 a5) g1
  · omega
  · have e := inR_1 (n := 21) a3 b3 (by omega) (by omega) (by omega)
    have e2 := inR_1 (n := 20) a5 b5 a4 b4 (by omega)
    subst e; subst e2
    exact ⟨rfl, rfl, fun _ => rfl⟩
theorem fnW {B : BT} {p : Nat} {d : D4} : FnS (spW B p d) := by
  intro k B1 v k' B2 v' h h'
  rcases h with ⟨rfl, rfl, h1⟩ | ⟨rfl, h0, h1, rfl, rfl⟩ <;> rcases h' with ⟨rfl, rfl, g1⟩ | ⟨rfl, g0, g1, rfl, rfl⟩
  · exact ⟨rfl, rfl, fun e => absurd e (by decide)⟩
  · rcases h1 with h1 | h1
    · omega
    · rw [h1] at g1; cases g1
  · rcases g1 with g1 | g1
    · omega
    · rw [g1] at h1; cases h1
  · exact ⟨rfl, rfl, fun _ => rfl⟩
theorem spW_k {B : BT} {p : Nat} {d : D4} {k : Nat} {B' : BT} {v : Int32} (h : spW B p d k B' v) : k = 0 ∨ k = 3 := h.elim (fun q => Or.inr q.1) (fun q => Or.inl q.1)
theorem wdW_gd {κ : Nat} {yb yl yt : Int32} {d : D4} (h : wdW κ yb yl yt d) : gdW κ yb yl yt := by
  obtain ⟨⟨o1, o2, o3, o4⟩, h1, h2, h3, h4, h5, h6⟩ := h
  exact ⟨⟨_, o2, h2⟩, fun q => ⟨_, o3 (by omega), h3 q⟩, fun q => ⟨_, o4 (by omega), h5 q⟩⟩
theorem wdW_1 {κ : Nat} {yb yl yt : Int32} {d e : D4} (h : wdW κ yb yl yt d) (h' : wdW κ yb yl yt e) : d = e := by
  obtain ⟨⟨o1, o2, o3, o4⟩, h1, h2, h3, h4, h5, h6⟩ := h
  obtain ⟨⟨p1, p2, p3, p4⟩, g1, g2, g3, g4, g5, g6⟩ := h'
  have e1 : d.1 = e.1 := h1.trans g1.symm
  have e2 : d.2.1 = e.2.1 := inR_1 h2 g2 o2 p2 (by omega)
  have e3 : d.2.2.1 = e.2.2.1 := by
    by_cases q : κ ≤ 1
    · exact inR_1 (h3 q) (g3 q) (o3 (by omega)) (p3 (by omega)) (by omega)
    · rw [h4 q, g4 q]
  have e4 : d.2.2.2 = e.2.2.2 := by
    by_cases q : κ = 0 ∨ κ = 2
    · exact inR_1 (h5 q) (g5 q) (o4 (by omega)) (p4 (by omega)) (by omega)
    · rw [h6 q, g6 q]
  exact Prod.ext e1 (Prod.ext e2 (Prod.ext e3 e4))
theorem fnWr {B : BT} (hV : VB B) (κ : Nat) (y yb yl yt : Int32) : FnS (spWr κ B y yb yl yt) := by
  intro k B1 v k' B2 v' h h'
  have h8 := hV.1
  rcases h with ⟨rfl, rfl, h1⟩ | ⟨rfl, rfl, h1, h2⟩ | ⟨p, d, a1, a2, a3, a4⟩ <;> rcases h' with ⟨rfl, rfl, g1⟩ | ⟨rfl, rfl, g1, g2⟩ | ⟨p', d', b1, b2, b3, b4⟩
  · exact ⟨rfl, rfl, fun e => absurd e (by decide)⟩
  · exact absurd g1 h1
  · exact absurd ⟨p', b1, b2⟩ h1
  · exact absurd h1 g1
  · exact ⟨rfl, rfl, fun e => absurd e (by decide)⟩
  · exact absurd (wdW_gd b3) h2
  · exact absurd ⟨p, a1, a2⟩ g1
  · exact absurd (wdW_gd a3) g2
  · have e := inR_1 a2 b2 a1 b1 (by omega)
    have e2 := wdW_1 a3 b3
    subst e; subst e2
    exact fnW _ _ _ _ _ _ a4 b4
theorem fnStrike {B : BT} (hV : VB B) (y : Int32) : FnS (spStrike B y) := by
  intro k B1 v k' B2 v' h h'
  rcases h with ⟨rfl, rfl, h1⟩ | ⟨rfl, rfl, c, h1, h2⟩ | ⟨rfl, c, h1, h2, rfl, rfl⟩ <;> rcases h' with ⟨rfl, rfl, g1⟩ | ⟨rfl, rfl, c', g1, g2⟩ | ⟨rfl, c', g1, g2, rfl, rfl⟩
  · exact ⟨rfl, rfl, fun e => absurd e (by decide)⟩
  · exact absurd g1 (h1 c')
  · exact absurd g1 (h1 c')
  · exact absurd h1 (g1 c)
  · exact ⟨rfl, rfl, fun e => absurd e (by decide)⟩
  · rw [isC_1 hV h1 g1, g2] at h2; cases h2
  · exact absurd h1 (g1 c)
  · rw [isC_1 hV h1 g1, g2] at h2; cases h2
  · rw [isC_1 hV h1 g1]
    exact ⟨rfl, rfl, fun _ => rfl⟩
theorem fnNote {B : BT} (hV : VB B) (y z : Int32) : FnS (spNote B y z) := by
  intro k B1 v k' B2 v' h h'
  rcases h with ⟨rfl, rfl, h1⟩ | ⟨rfl, rfl, ⟨c, h1⟩, h2⟩ | ⟨rfl, rfl, c, h1, h2, h3⟩ | ⟨rfl, c, h1, h2, h3, rfl, rfl⟩ <;> rcases h' with ⟨rfl, rfl, g1⟩ | ⟨rfl, rfl, ⟨c', g1⟩, g2⟩ | ⟨rfl, rfl, c', g1, g2, g3⟩ | ⟨rfl, c', g1, g2, g3, rfl, rfl⟩
  · exact ⟨rfl, rfl, fun e => absurd e (by decide)⟩
  · exact absurd g1 (h1 c')
  · exact absurd g1 (h1 c')
  · exact absurd g1 (h1 c')
  · exact absurd h1 (g1 c)
  · exact ⟨rfl, rfl, fun e => absurd e (by decide)⟩
  · exact absurd g2 h2
  · exact absurd g2 h2
  · exact absurd h1 (g1 c)
  · exact absurd h2 g2
  · exact ⟨rfl, rfl, fun e => absurd e (by decide)⟩
  · rw [isC_1 hV h1 g1] at h3; omega
  · exact absurd h1 (g1 c)
  · exact absurd h2 g2
  · rw [isC_1 hV h1 g1] at h3; omega
  · rw [isC_1 hV h1 g1]
    exact ⟨rfl, rfl, fun _ => rfl⟩
theorem fnPlace {B : BT} (hV : VB B) (y z : Int32) : FnS (spPlace B y z) := by
  intro k B1 v k' B2 v' h h'
  have h8 := hV.1
  rcases h with ⟨rfl, rfl, h1⟩ | ⟨rfl, rfl, h1, h2⟩ | ⟨rfl, rfl, i, b, a1, a2, a3, a4, rfl⟩ <;> rcases h' with ⟨rfl, rfl, g1⟩ | ⟨rfl, rfl, g1, g2⟩ | ⟨rfl, rfl, i', b', b1, b2, b3, b4, rfl⟩
  · exact ⟨rfl, rfl, fun e => absurd e (by decide)⟩
  · exact absurd g1 h1
  · exact absurd ⟨i', b1, b2⟩ h1
  · exact absurd h1 g1
  · exact ⟨rfl, rfl, fun e => absurd e (by decide)⟩
  · exact absurd ⟨b', b3, b4⟩ h2
  · exact absurd ⟨i, a1, a2⟩ g1
  · exact absurd ⟨b, a3, a4⟩ g2
  · rw [inR_1 a2 b2 a1 b1 (by omega), inR_1 a4 b4 a3 b3 (by omega)]
    exact ⟨rfl, rfl, fun _ => rfl⟩
theorem fnTrack {B : BT} (hV : VB B) (y z : Int32) : FnS (spTrack B y z) := by
  intro k B1 v k' B2 v' h h'
  have h8 := hV.1
  rcases h with ⟨rfl, rfl, h1⟩ | ⟨rfl, rfl, h1, h2⟩ | ⟨rfl, rfl, i, b, a1, a2, a3, a4, rfl⟩ <;> rcases h' with ⟨rfl, rfl, g1⟩ | ⟨rfl, rfl, g1, g2⟩ | ⟨rfl, rfl, i', b', b1, b2, b3, b4, rfl⟩
  · exact ⟨rfl, rfl, fun e => absurd e (by decide)⟩
  · exact absurd g1 h1
  · exact absurd ⟨i', b1, b2⟩ h1
  · exact absurd h1 g1
  · exact ⟨rfl, rfl, fun e => absurd e (by decide)⟩
  · exact absurd ⟨b', b3, b4⟩ h2
  · exact absurd ⟨i, a1, a2⟩ g1
  · exact absurd ⟨b, a3, a4⟩ g2
  · rw [inR_1 a2 b2 a1 b1 (by omega), inR_1 a4 b4 a3 b3 (by omega)]
    exact ⟨rfl, rfl, fun _ => rfl⟩
theorem fnHands {B : BT} (hV : VB B) (y z : Int32) : FnS (spHands B y z) := by
  intro k B1 v k' B2 v' h h'
  have h8 := hV.2.1
  rcases h with ⟨rfl, rfl, h1⟩ | ⟨rfl, rfl, h1, h2⟩ | ⟨rfl, rfl, i, b, a1, a2, a3, a4, rfl⟩ <;> rcases h' with ⟨rfl, rfl, g1⟩ | ⟨rfl, rfl, g1, g2⟩ | ⟨rfl, rfl, i', b', b1, b2, b3, b4, rfl⟩
  · exact ⟨rfl, rfl, fun e => absurd e (by decide)⟩
  · exact absurd g1 h1
  · exact absurd ⟨i', b1, b2⟩ h1
  · exact absurd h1 g1
  · exact ⟨rfl, rfl, fun e => absurd e (by decide)⟩
  · exact absurd ⟨b', b3, b4⟩ h2
  · exact absurd ⟨i, a1, a2⟩ g1
  · exact absurd ⟨b, a3, a4⟩ g2
  · rw [inR_1 a2 b2 a1 b1 (by omega), inR_1 a4 b4 a3 b3 (by omega)]
    exact ⟨rfl, rfl, fun _ => rfl⟩
theorem fnOnStage (B : BT) (z : Int32) : FnS (spOnStage B z) := by
  intro k B1 v k' B2 v' h h'
  rcases h with ⟨rfl, rfl, h1⟩ | ⟨rfl, rfl, b, a1, a2, rfl⟩ <;> rcases h' with ⟨rfl, rfl, g1⟩ | ⟨rfl, rfl, b', b1, b2, rfl⟩
  · exact ⟨rfl, rfl, fun e => absurd e (by decide)⟩
  · exact absurd ⟨b', b1, b2⟩ h1
  · exact absurd ⟨b, a1, a2⟩ g1
  · rw [inR_1 a2 b2 a1 b1 (by omega)]
    exact ⟨rfl, rfl, fun _ => rfl⟩
set_option maxRecDepth 100000 in
theorem fnClash {B : BT} (hV : VB B) (y z : Int32) : FnS (spClash B y z) := by
  intro k B1 v k' B2 v' h h'
  have h8 := hV.1
  rcases h with ⟨rfl, rfl, h1⟩ | ⟨rfl, rfl, h1, h2⟩ | ⟨rfl, rfl, i, j, a1, a2, a3, a4, a5, rfl⟩ <;> rcases h' with ⟨rfl, rfl, g1⟩ | ⟨rfl, rfl, g1, g2⟩ | ⟨rfl, rfl, i', j', b1, b2, b3, b4, b5, rfl⟩
  · exact ⟨rfl, rfl, fun e => absurd e (by decide)⟩
  · rcases h1 with h1 | h1
    · exact absurd g1 h1
    · rw [← g2] at h1; exact absurd g1 h1
  · rcases h1 with h1 | h1
    · exact absurd ⟨i', b1, b2⟩ h1
    · exact absurd ⟨j', b3, b4⟩ h1
  · rcases g1 with g1 | g1
    · exact absurd h1 g1
    · rw [← h2] at g1; exact absurd h1 g1
  · exact ⟨rfl, rfl, fun e => absurd e (by decide)⟩
  · exact absurd (inR_1 b2 (h2.trans b4) b1 b3 (by omega)) b5
  · rcases g1 with g1 | g1
    · exact absurd ⟨i, a1, a2⟩ g1
    · exact absurd ⟨j, a3, a4⟩ g1
  · exact absurd (inR_1 a2 (g2.trans a4) a1 a3 (by omega)) a5
  · rw [inR_1 a2 b2 a1 b1 (by omega), inR_1 a4 b4 a3 b3 (by omega)]
    exact ⟨rfl, rfl, fun _ => rfl⟩
theorem fnBeats {B : BT} (hV : VB B) (y : Int32) : FnS (spBeats B y) := by
  intro k B1 v k' B2 v' h h'
  have h8 := hV.1
  rcases h with ⟨rfl, rfl, h1⟩ | ⟨rfl, rfl, b, a1, a2, rfl⟩ <;> rcases h' with ⟨rfl, rfl, g1⟩ | ⟨rfl, rfl, b', b1, b2, rfl⟩
  · exact ⟨rfl, rfl, fun e => absurd e (by decide)⟩
  · exact absurd ⟨b', b1, b2⟩ h1
  · exact absurd ⟨b, a1, a2⟩ g1
  · rw [inR_1 a2 b2 a1 b1 (by omega)]
    exact ⟨rfl, rfl, fun _ => rfl⟩
theorem fnStays {B : BT} (hV : VB B) (y : Int32) : FnS (spStays B y) := by
  intro k B1 v k' B2 v' h h'
  have h8 := hV.1
  rcases h with ⟨rfl, rfl, h1⟩ | ⟨rfl, rfl, b, a1, a2, rfl⟩ <;> rcases h' with ⟨rfl, rfl, g1⟩ | ⟨rfl, rfl, b', b1, b2, rfl⟩
  · exact ⟨rfl, rfl, fun e => absurd e (by decide)⟩
  · exact absurd ⟨b', b1, b2⟩ h1
  · exact absurd ⟨b, a1, a2⟩ g1
  · rw [inR_1 a2 b2 a1 b1 (by omega)]
    exact ⟨rfl, rfl, fun _ => rfl⟩
theorem fnLoad {B : BT} (hV : VB B) (y : Int32) : FnS (spLoad B y) := by
  intro k B1 v k' B2 v' h h'
  have h8 := hV.2.1
  rcases h with ⟨rfl, rfl, h1⟩ | ⟨rfl, rfl, b, a1, a2, rfl⟩ <;> rcases h' with ⟨rfl, rfl, g1⟩ | ⟨rfl, rfl, b', b1, b2, rfl⟩
  · exact ⟨rfl, rfl, fun e => absurd e (by decide)⟩
  · exact absurd ⟨b', b1, b2⟩ h1
  · exact absurd ⟨b, a1, a2⟩ g1
  · rw [inR_1 a2 b2 a1 b1 (by omega)]
    exact ⟨rfl, rfl, fun _ => rfl⟩
theorem fnStay {B : BT} (hV : VB B) (y z w : Int32) : FnS (spStay B y z w) := by
  intro k B1 v k' B2 v' h h'
  have h8 := hV.1
  have h40 : ∀ p, p < tN B → (stL (dsB B p)).length ≤ 40 := fun p hp => by
    have h9 := stL_len (dsB B p)
    have := hV.lenD hp
    omega
  have no : ∀ i j u, i < tN B → y = nI i → j < (stL (dsB B i)).length → z = nI j → u < 3 → w = nI u → ¬ (¬ inR y (tN B) ∨ ∃ i, i < tN B ∧ y = nI i ∧ (¬ inR z (stL (dsB B i)).length ∨ ¬ inR w 3)) := by
    intro i j u c1 c2 c3 c4 c5 c6 hh
    rcases hh with hh | ⟨i', d1, d2, d3⟩
    · exact hh ⟨i, c1, c2⟩
    · rw [inR_1 d2 c2 d1 c1 (by omega)] at d3
      rcases d3 with d3 | d3
      · exact d3 ⟨j, c3, c4⟩
      · exact d3 ⟨u, c5, c6⟩
  rcases h with ⟨rfl, rfl, h1⟩ | ⟨rfl, rfl, i, j, u, a1, a2, a3, a4, a5, a6, rfl⟩ <;> rcases h' with ⟨rfl, rfl, g1⟩ | ⟨rfl, rfl, i', j', u', b1, b2, b3, b4, b5, b6, rfl⟩
  · exact ⟨rfl, rfl, fun e => absurd e (by decide)⟩
  · exact absurd h1 (no _ _ _ b1 b2 b3 b4 b5 b6)
  · exact absurd g1 (no _ _ _ a1 a2 a3 a4 a5 a6)
  · have e1 := inR_1 a2 b2 a1 b1 (by omega)
    subst e1
    have := h40 i a1
    rw [inR_1 a4 b4 a3 b3 (by omega), inR_1 a6 b6 a5 b5 (by omega)]
    exact ⟨rfl, rfl, fun _ => rfl⟩
