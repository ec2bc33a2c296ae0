/-! ===== the book's world: what its objects say ===== -/
def rmap (f : Nat → Nat) (n : Nat) : List Nat := (List.range n).map f
theorem rmap_len (f : Nat → Nat) (n : Nat) : (rmap f n).length = n := by simp [rmap]
theorem rmap_get {f : Nat → Nat} {n i : Nat} (h : i < n) : (rmap f n)[i]? = some (f i) := by
  simp [rmap, h]
theorem rmap_snoc {f : Nat → Nat} {n v : Nat} : rmap f n ++ [v] = rmap (va_up f n v) (n + 1) := by
  unfold rmap
  rw [List.range_succ, List.map_append, List.map_cons, List.map_nil, va_up_self]
  congr 1
  refine List.map_congr_left (fun i hi => ?_)
  rw [va_up_ne _ _ (by have := List.mem_range.mp hi; omega)]
theorem rmap_mem {f : Nat → Nat} {n v : Nat} : v ∈ rmap f n ↔ ∃ i, i < n ∧ f i = v := by
  simp [rmap]
/-- a list of the book: its field, its owner, its elements -/
def BkL (Γ : GBase) (S : PS) (x f o : Nat) (xs : List Nat) : Prop := ∃ L, pP S f x = some L ∧ pW S L = o ∧ isL Γ S L xs
theorem BkL.fr {Γ : GBase} {S S' : PS} {mo ma : Nat → Nat → Prop} {x f o : Nat} {xs : List Nat} (hx : al S x 5) (h : BkL Γ S x f o xs) (hf : Fr S S' mo ma) (h1 : ¬ mo f x) (h2 : ∀ L g, al S L 7 → pW S L = o → ¬ mo g L) (h3 : ∀ L E, al S L 7 → pW S L = o → al S E 12 → pW S E = L → ¬ ma L E) : BkL Γ S' x f o xs := by
  obtain ⟨L, e1, e2, e3⟩ := h
  exact ⟨L, ((hf x hx.1).2.2.2.2.1 f h1).2.trans e1, (hf L e3.1.1).2.2.2.1.trans e2, e3.fr hf (h2 L _ e3.1 e2) (h2 L _ e3.1 e2) (fun E hE hw => h3 L E e3.1 e2 hE hw)⟩
def PupA (Γ : GBase) (S : PS) (a i w h : Nat) (cs ts : List Nat) (ds : List D4) : Prop := ∃ LS LT TA TB, PupF Γ S a LS LT TA TB ∧ PupN S a i w h ∧ pW S LS = 8 * a + 1 ∧ pW S LT = 8 * a + 2 ∧ isL Γ S LS cs ∧ isL Γ S LT ts ∧ StaysI S a ts (stL ds) ∧ ∀ b, b < 1000 → pR S TA b = zO (plL ds b) ∧ pR S TB b = zO (trL ds b)
/-- nothing of puppet a is touched -/
def OffP (S : PS) (mo ma : Nat → Nat → Prop) (a : Nat) : Prop := (∀ f, ¬ mo f a) ∧ (∀ L f, al S L 7 → pW S L = 8 * a + 1 ∨ pW S L = 8 * a + 2 → ¬ mo f L) ∧ (∀ t f, al S t 4 → pP S 128 t = some a → 128 ≤ f → f ≤ 130 → ¬ mo f t) ∧ (∀ T, al S T 8 → pW S T = a → ¬ ma a T) ∧ ∀ L E, al S L 7 → pW S L = 8 * a + 1 ∨ pW S L = 8 * a + 2 → al S E 12 → pW S E = L → ¬ ma L E
theorem PupA.fr {Γ : GBase} {S S' : PS} {mo ma : Nat → Nat → Prop} {a i w h : Nat} {cs ts : List Nat} {ds : List D4} (hp : PupA Γ S a i w h cs ts ds) (hf : Fr S S' mo ma) (ho : OffP S mo ma a) : PupA Γ S' a i w h cs ts ds := by
  obtain ⟨LS, LT, TA, TB, h1, h2, h3, h4, h5, h6, h7, h8⟩ := hp
  obtain ⟨o1, o2, o3, o4, o5⟩ := ho
  have ha := h1.1
  have fa := (hf a ha.1).2.2.2.2.1
  refine ⟨LS, LT, TA, TB, h1.fr hf o1, ⟨(fa _ (o1 _)).1.trans h2.1, (fa _ (o1 _)).1.trans h2.2.1, (fa _ (o1 _)).1.trans h2.2.2.1, (fa _ (o1 _)).1.trans h2.2.2.2⟩, (hf LS h5.1.1).2.2.2.1.trans h3, (hf LT h6.1.1).2.2.2.1.trans h4, h5.fr hf (o2 LS _ h5.1 (Or.inl h3)) (o2 LS _ h5.1 (Or.inl h3)) (fun E hE hw => o5 LS E h5.1 (Or.inl h3) hE hw), h6.fr hf (o2 LT _ h6.1 (Or.inr h4)) (o2 LT _ h6.1 (Or.inr h4)) (fun E hE hw => o5 LT E h6.1 (Or.inr h4) hE hw), h7.fr hf (fun t ht f g1 g2 => ?_), fun b hb => ?_⟩
  · obtain ⟨j, hj⟩ := List.getElem?_of_mem ht
    have hjl := (List.getElem?_eq_some_iff.mp hj).1
    have := h7.2.2 j t _ hj (List.getElem?_eq_getElem (by rw [← h7.1]; exact hjl))
    exact o3 t f this.1 this.2.1 g1 g2
  · have hA := h1.2.2.2.2.2.1
    have hB := h1.2.2.2.2.2.2.1
    rw [((hf TA hA.1.1).2.2.2.2.2 (by rw [hA.2.2]; exact o4 TA hA.1 hA.2.2)).1, ((hf TB hB.1.1).2.2.2.2.2 (by rw [hB.2.2]; exact o4 TB hB.1 hB.2.2)).1]
    exact h8 b hb
def PlyA (S : PS) (a st ho : Nat) : Prop := al S a 2 ∧ pI S 64 a = nI st ∧ pI S 65 a = nI ho ∧ ∃ T, pP S 66 a = some T ∧ RowI S T a 1000
theorem PlyA.fr {S S' : PS} {mo ma : Nat → Nat → Prop} {a st ho : Nat} (h : PlyA S a st ho) (hf : Fr S S' mo ma) (h1 : ∀ f, ¬ mo f a) : PlyA S' a st ho := by
  obtain ⟨g1, g2, g3, T, g4, g5⟩ := h
  have fa := (hf a g1.1).2.2.2.2.1
  exact ⟨g1.fr hf, (fa _ (h1 _)).1.trans g2, (fa _ (h1 _)).1.trans g3, T, (fa _ (h1 _)).2.trans g4, g5.fr hf⟩
def CueA (S : PS) (c p : Nat) (d : D4) (sk : Bool) (nt : Nat) (sl : Int) (so : Nat) : Prop := CueObj S c d ∧ pP S 1 c = some p ∧ pI S 5 c = (if sk = true then 1 else 0) ∧ pI S 6 c = nI nt ∧ pI S 7 c = Int32.ofInt sl ∧ pI S 8 c = nI so ∧ (¬ d.1 ≤ 1 → pI S 3 c = -1) ∧ (¬ (d.1 = 0 ∨ d.1 = 2) → pI S 4 c = -1)
theorem CueA.fr {S S' : PS} {mo ma : Nat → Nat → Prop} {c p : Nat} {d : D4} {sk : Bool} {nt : Nat} {sl : Int} {so : Nat} (h : CueA S c p d sk nt sl so) (hf : Fr S S' mo ma) (h1 : ∀ f, ¬ mo f c) : CueA S' c p d sk nt sl so := by
  obtain ⟨g1, g2, g3, g4, g5, g6, g7, g8⟩ := h
  have fa := (hf c g1.1.1).2.2.2.2.1
  exact ⟨g1.fr hf (fun f _ => h1 f), (fa _ (h1 _)).2.trans g2, (fa _ (h1 _)).1.trans g3, (fa _ (h1 _)).1.trans g4, (fa _ (h1 _)).1.trans g5, (fa _ (h1 _)).1.trans g6, fun h => (fa _ (h1 _)).1.trans (g7 h), fun h => (fa _ (h1 _)).1.trans (g8 h)⟩
/-- addresses: puppets, players, cues, the puppets' stays -/
abbrev AD : Type := (Nat → Nat) × (Nat → Nat) × (Nat → Nat) × (Nat → List Nat)
abbrev dP (A : AD) : Nat → Nat := A.1
abbrev dY (A : AD) : Nat → Nat := A.2.1
abbrev dC (A : AD) : Nat → Nat := A.2.2.1
abbrev dT (A : AD) : Nat → List Nat := A.2.2.2
def injN (f : Nat → Nat) (n : Nat) : Prop := ∀ i j, i < n → j < n → f i = f j → i = j
def PupsI (Γ : GBase) (S : PS) (A : AD) (B : BT) : Prop := injN (dP A) (tN B) ∧ ∀ i, i < tN B → PupA Γ S (dP A i) i (tW B i) (tH B i) ((scB B i).map (dC A)) (dT A i) (dsB B i)
def PlysI (S : PS) (A : AD) (B : BT) : Prop := injN (dY A) (tQ B) ∧ ∀ q, q < tQ B → PlyA S (dY A q) (tT B q) (tO B q)
def CuesI (S : PS) (A : AD) (B : BT) : Prop := injN (dC A) (tC B) ∧ ∀ c, c < tC B → CueA S (dC A c) (dP A (tU B c).1) (tU B c).2 (tK B c) (tE B c) (tL B c) (tF B c)
/-- if the casting stands: the order, the stays' players, what the players hold -/
def CastV (S : PS) (x : Nat) (A : AD) (B : BT) (os : List Nat) : Prop := isOrd (ctB B) (ordB B) ∧ os = (ordB B).map (fun a => (dT A a.1).getD a.2 0) ∧ (∀ p j t, p < tN B → (dT A p)[j]? = some t → pI S 131 t = zO (castB B p j)) ∧ ∀ q T, q < tQ B → pP S 66 (dY A q) = some T → RowH S T (hmB B q)
def BkI (Γ : GBase) (S : PS) (x : Nat) (A : AD) (B : BT) : Prop := al S x 5 ∧ BkL Γ S x 160 (8 * x + 3) (rmap (dP A) (tN B)) ∧ BkL Γ S x 161 (8 * x + 4) (rmap (dY A) (tQ B)) ∧ BkL Γ S x 162 (8 * x + 5) (rmap (dC A) (tC B)) ∧ (∃ os, BkL Γ S x 163 (8 * x + 6) os ∧ (∀ t, t ∈ os → al S t 4) ∧ os.length ≤ 60 ∧ (pI S 165 x = 0 ∨ (pI S 165 x = 1 ∧ CastV S x A B os))) ∧ pI S 164 x = nI (cntN (tK B) (tC B)) ∧ (pI S 166 x = 0 ∨ (pI S 166 x = 1 ∧ pI S 167 x = nI (clN B))) ∧ PupsI Γ S A B ∧ PlysI S A B ∧ CuesI S A B ∧ VB B
