def BkW (Γ : GBase) (S : PS) (x : Nat) (A : AD) (B : BT) : Prop := al S x 5 ∧ BkL Γ S x 160 (8 * x + 3) (rmap (dP A) (tN B)) ∧ BkL Γ S x 161 (8 * x + 4) (rmap (dY A) (tQ B)) ∧ BkL Γ S x 162 (8 * x + 5) (rmap (dC A) (tC B)) ∧ (∃ os, BkL Γ S x 163 (8 * x + 6) os ∧ (∀ t, t ∈ os → al S t 4) ∧ os.length ≤ 60) ∧ pI S 164 x = nI (cntN (tK B) (tC B)) ∧ PupsI Γ S A B ∧ PlysI S A B ∧ CuesI S A B ∧ VB B
theorem BkW.frX {Γ : GBase} {S S' : PS} {x : Nat} {A : AD} {B : BT} (h : BkW Γ S x A B) (hf : Fr S S' (fun f b => b = x ∧ 165 ≤ f) maN) : BkW Γ S' x A B := by
  obtain ⟨a1, a2, a3, a4, ⟨os, a5, a6, a7⟩, a9, a11, a12, a13, a14⟩ := h
  have hk : ∀ f b k, al S b k → k ≠ 5 → ¬ (b = x ∧ 165 ≤ f) := fun f b k hb hk h => (hb.kne a1 hk) h.1
  have bl : ∀ f o xs, f < 165 → BkL Γ S x f o xs → BkL Γ S' x f o xs := fun f o xs f2 hb => hb.fr a1 hf (fun h => by omega) (fun L' g hL _ => hk g L' 7 hL (by decide)) (fun L' E' hL _ hE hw h => h)
  exact ⟨a1.fr hf, bl _ _ _ (by decide) a2, bl _ _ _ (by decide) a3, bl _ _ _ (by decide) a4, ⟨os, bl _ _ _ (by decide) a5, fun t ht => (a6 t ht).fr hf, a7⟩, ((hf x a1.1).2.2.2.2.1 164 (fun h => by omega)).1.trans a9, a11.fr hf (fun i hi => by
    have ha := a11.al i hi
    exact ⟨fun f => hk f _ 3 ha (by decide), fun L' f hL _ => hk f L' 7 hL (by decide), fun t f ht _ _ _ => hk f t 4 ht (by decide), fun T hT hw h => h, fun L' E' hL _ hE hw h => h⟩), a12.fr hf (fun a f ha => hk f a 2 ha (by decide)), a13.fr hf (fun a f ha => hk f a 0 ha (by decide)), a14⟩
theorem BkW.i {Γ : GBase} {S : PS} {x : Nat} {A : AD} {B : BT} (h : BkW Γ S x A B) (h5 : pI S 165 x = 0) (h6 : pI S 166 x = 0) : BkI Γ S x A B := by
  obtain ⟨a1, a2, a3, a4, ⟨os, a5, a6, a7⟩, a9, a11, a12, a13, a14⟩ := h
  exact ⟨a1, a2, a3, a4, ⟨os, a5, a6, a7, Or.inl h5⟩, a9, Or.inl h6, a11, a12, a13, a14⟩
theorem fr_two {S : PS} {x f g : Nat} {v w : Int32} (h1 : 165 ≤ f) (h2 : 165 ≤ g) : Fr S (uI (uI S f x v) g x w) (fun f b => b = x ∧ 165 ≤ f) maN := Fr.tr (mo := fun f b => b = x ∧ 165 ≤ f) (ma := maN) (mo' := fun f b => b = x ∧ 165 ≤ f) (ma' := maN) (fr_uI ⟨rfl, h1⟩) (fr_uI ⟨rfl, h2⟩) (fun _ _ _ h => h.elim id id) (fun _ _ _ h => h.elim id id)
theorem m_forget {Γ : GBase} (F : FB Γ) (S : PS) (x : Nat) (A : AD) (B : BT) (hI : BkW Γ S x A B) : GMet Γ yX5_forgetWhatWasFound cX5_forgetWhatWasFound 1 ((none : Option FieldType)) 0 0 0 [.ref x] S (fun r S' => r = none ∧ BkI Γ S' x A B ∧ FrB S S') noX := by
  have hx := hI.1
  refine GMet.of (loc0 := [(0, .ref x)]) F (by decide +kernel) rfl (Nat.le_of_ble_eq_true rfl) (fun X C R Tb nm => ?_)
  refine g_aload_n C dX5_forgetWhatWasFound_0 rfl rfl ?_
  refine g_iconst C dX5_forgetWhatWasFound_1 (v := 0) (by decide) ?_
  refine pu_Book_castingStands C tw_1_61 (by exact hx) (by first | exact Or.inl rfl | exact Or.inr rfl) dX5_forgetWhatWasFound_2 ?_
  refine g_aload_n C dX5_forgetWhatWasFound_5 rfl rfl ?_
  refine g_iconst C dX5_forgetWhatWasFound_6 (v := 0) (by decide) ?_
  refine pu_Book_clashesStand C tw_1_62 (by exact hx) (by first | exact Or.inl rfl | exact Or.inr rfl) dX5_forgetWhatWasFound_7 ?_
  refine g_vret C R (by omega) (by omega) dX5_forgetWhatWasFound_10 ?_
  have hf : Fr S (uI (uI S 165 x 0) 166 x 0) (fun f b => b = x ∧ 165 ≤ f) maN := fr_two (by decide) (by decide)
  exact ⟨rfl, (hI.frX hf).i (by rw [uI_ne (Or.inl (by decide)), uI_q]) uI_q, FrB.of hf (fun f b hb h => (hb.kne hx (by decide)) h.1) (fun b _ _ h => h)⟩
theorem BkL.frT {Γ : GBase} {S S' : PS} {x f o p LS LT TA TB : Nat} {xs : List Nat} (hx : al S x 5) (h : BkL Γ S x f o xs) (hP : PupF Γ S p LS LT TA TB) (hf : Fr S S' (moT LS LT) (maT LS LT TA TB)) (h1 : pW S LS ≠ o) (h2 : pW S LT ≠ o) : BkL Γ S' x f o xs := by
  have hLS := hP.2.2.2.2.2.2.2.2.2.1
  have hLT := hP.2.2.2.2.2.2.2.2.2.2
  refine h.fr hx hf (fun e => e.elim (hx.kne hLS (by decide)) (hx.kne hLT (by decide))) (fun L' g _ hw e => ?_) (fun L' E _ hw hE _ e => ?_)
  · rcases e with e | e
    · rw [e] at hw; exact h1 hw
    · rw [e] at hw; exact h2 hw
  · rcases e with e | e | e | e
    · rw [e] at hw; exact h1 hw
    · rw [e] at hw; exact h2 hw
    · exact (hE.kne hP.2.2.2.2.2.1.1 (by decide)) e
    · exact (hE.kne hP.2.2.2.2.2.2.1.1 (by decide)) e
/-- what a puppet is, when its script was changed and played -/
theorem PupA.took {Γ : GBase} {S S' : PS} {a i w h LS LT TA TB : Nat} {cs ts cs' : List Nat} {ds ds' : List D4} (hp : PupA Γ S a i w h cs ts ds) (hP : PupF Γ S a LS LT TA TB) (hf : Fr S S' (moT LS LT) (maT LS LT TA TB)) (hL : isL Γ S' LS cs') (hV : PupV Γ S' a LT TA TB ds') : ∃ ts', PupA Γ S' a i w h cs' ts' ds' := by
  obtain ⟨LS1, LT1, TA1, TB1, p1, p2, p3, p4, p5, p6, p7, p8⟩ := hp
  have e1 : LS1 = LS := Option.some.inj (p1.2.1.symm.trans hP.2.1)
  have e2 : LT1 = LT := Option.some.inj (p1.2.2.1.symm.trans hP.2.2.1)
  have e3 : TA1 = TA := Option.some.inj (p1.2.2.2.1.symm.trans hP.2.2.2.1)
  have e4 : TB1 = TB := Option.some.inj (p1.2.2.2.2.1.symm.trans hP.2.2.2.2.1)
  subst e1; subst e2; subst e3; subst e4
  have ha := p1.1
  have na : ∀ f, ¬ moT LS1 LT1 f a := fun f e => e.elim (ha.kne p5.1 (by decide)) (ha.kne p6.1 (by decide))
  have fa := (hf _ ha.1).2.2.2.2.1
  obtain ⟨⟨ts', h1, h2⟩, h3⟩ := hV
  exact ⟨ts', LS1, LT1, TA1, TB1, p1.fr hf na, ⟨(fa _ (na _)).1.trans p2.1, (fa _ (na _)).1.trans p2.2.1, (fa _ (na _)).1.trans p2.2.2.1, (fa _ (na _)).1.trans p2.2.2.2⟩, (hf LS1 p5.1.1).2.2.2.1.trans p3, (hf LT1 p6.1.1).2.2.2.1.trans p4, hL, h1, h2, h3⟩
