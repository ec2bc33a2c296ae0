/-! ===== what stands when other things are touched ===== -/
def FrB (S S' : PS) : Prop := Fr S S' (fun _ b => ¬ al S b 9) (fun o _ => ¬ al S o 9)
theorem FrB.rf {S : PS} : FrB S S := Fr.rf
theorem FrB.of {S S' : PS} {mo ma : Nat → Nat → Prop} (h : Fr S S' mo ma) (h1 : ∀ f b, al S b 9 → ¬ mo f b) (h2 : ∀ b, b ∈ pL S → al S (pW S b) 9 → ¬ ma (pW S b) b) : FrB S S' := fun b hb =>
  ⟨(h b hb).1, (h b hb).2.1, (h b hb).2.2.1, (h b hb).2.2.2.1, fun f hm => (h b hb).2.2.2.2.1 f (fun hmo => hm (fun ha => h1 f b ha hmo)), fun hm => (h b hb).2.2.2.2.2 (h2 b hb (Classical.not_not.mp hm))⟩
theorem FrB.tr {S S1 S2 : PS} (h1 : FrB S S1) (h2 : FrB S1 S2) : FrB S S2 := Fr.tr h1 h2 (fun f b _ h ha => h.elim (fun q => q ha) (fun q => q (ha.fr h1))) (fun o b _ h ha => h.elim (fun q => q ha) (fun q => q (ha.fr h1)))
theorem PupsI.fr {Γ : GBase} {S S' : PS} {mo ma : Nat → Nat → Prop} {A : AD} {B : BT} (h : PupsI Γ S A B) (hf : Fr S S' mo ma) (ho : ∀ i, i < tN B → OffP S mo ma (dP A i)) : PupsI Γ S' A B := ⟨h.1, fun i hi => (h.2 i hi).fr hf (ho i hi)⟩
theorem PlysI.fr {S S' : PS} {mo ma : Nat → Nat → Prop} {A : AD} {B : BT} (h : PlysI S A B) (hf : Fr S S' mo ma) (ho : ∀ a f, al S a 2 → ¬ mo f a) : PlysI S' A B := ⟨h.1, fun q hq => (h.2 q hq).fr hf (fun f => ho _ f (h.2 q hq).1)⟩
theorem CuesI.fr {S S' : PS} {mo ma : Nat → Nat → Prop} {A : AD} {B : BT} (h : CuesI S A B) (hf : Fr S S' mo ma) (ho : ∀ a f, al S a 0 → ¬ mo f a) : CuesI S' A B := ⟨h.1, fun c hc => (h.2 c hc).fr hf (fun f => ho _ f (h.2 c hc).1.1)⟩
theorem PupA.st {Γ : GBase} {S : PS} {a i w h : Nat} {cs ts : List Nat} {ds : List D4} (hp : PupA Γ S a i w h cs ts ds) {j t : Nat} (ht : ts[j]? = some t) : ∃ s, (stL ds)[j]? = some s ∧ StayO S t a s := by
  obtain ⟨LS, LT, TA, TB, -, -, -, -, -, -, h7, -⟩ := hp
  have hjl := (List.getElem?_eq_some_iff.mp ht).1
  exact ⟨_, List.getElem?_eq_getElem (by rw [← h7.1]; exact hjl), h7.2.2 j t _ ht (List.getElem?_eq_getElem (by rw [← h7.1]; exact hjl))⟩
theorem CastV.fr {Γ : GBase} {S S' : PS} {mo ma : Nat → Nat → Prop} {x : Nat} {A : AD} {B : BT} {os : List Nat} (h : CastV S x A B os) (hP : PupsI Γ S A B) (hY : PlysI S A B) (hf : Fr S S' mo ma) (h1 : ∀ t, al S t 4 → ¬ mo 131 t) (h2 : ∀ a, al S a 2 → ¬ mo 66 a) (h3 : ∀ T a, al S T 8 → al S a 2 → pW S T = a → ¬ ma a T) : CastV S' x A B os := by
  obtain ⟨c1, c2, c3, c4⟩ := h
  refine ⟨c1, c2, fun p j t hp ht => ?_, fun q T hq hT b hb => ?_⟩
  · obtain ⟨s, _, hs⟩ := (hP.2 p hp).st ht
    rw [((hf t hs.1.1).2.2.2.2.1 131 (h1 t hs.1)).1]
    exact c3 p j t hp ht
  · have ha := (hY.2 q hq).1
    rw [((hf _ ha.1).2.2.2.2.1 66 (h2 _ ha)).2] at hT
    obtain ⟨T', hT1, hT2⟩ := (hY.2 q hq).2.2.2
    have e : T' = T := by rw [hT1] at hT; exact Option.some.inj hT
    rw [e] at hT2
    rw [((hf T hT2.1.1).2.2.2.2.2 (by rw [hT2.2.2]; exact h3 T _ hT2.1 ha hT2.2.2)).1]
    exact c4 q T hq hT b hb
def setN (B : BT) (E : Nat → Nat) (L : Nat → Int) (G : Nat → Nat) : BT := (B.1, B.2.1, B.2.2.1, B.2.2.2.1, B.2.2.2.2.1, B.2.2.2.2.2.1, B.2.2.2.2.2.2.1, B.2.2.2.2.2.2.2.1, B.2.2.2.2.2.2.2.2.1, E, L, G)
/-- the book with other notes, fields of its own, cues -/
theorem BkI.fr0 {Γ : GBase} {S S' : PS} {mo ma : Nat → Nat → Prop} {x : Nat} {A : AD} {B : BT} {E : Nat → Nat} {L : Nat → Int} {G : Nat → Nat} (h : BkI Γ S x A B) (hf : Fr S S' mo ma) (hk : ∀ f b k, al S b k → k = 2 ∨ k = 3 ∨ k = 4 ∨ k = 7 → ¬ mo f b) (hx : ∀ f, 160 ≤ f → f ≤ 164 → ¬ mo f x) (hr : ∀ T o, al S T 8 ∨ al S T 12 → al S o 2 ∨ al S o 3 ∨ al S o 7 → pW S T = o → ¬ ma o T) (hC : CuesI S' A (setN B E L G)) (hV : VB (setN B E L G)) (h5 : pI S' 165 x = 0 ∨ pI S' 165 x = pI S 165 x) (h6 : pI S' 166 x = 0 ∨ (pI S' 166 x = pI S 166 x ∧ pI S' 167 x = pI S 167 x) ∨ (pI S' 166 x = 1 ∧ pI S' 167 x = nI (clN B))) : BkI Γ S' x A (setN B E L G) := by
  obtain ⟨a1, a2, a3, a4, ⟨os, a5, a6, a7, a8⟩, a9, a10, a11, a12, a13, a14⟩ := h
  have bl : ∀ f o xs, 160 ≤ f → f ≤ 164 → BkL Γ S x f o xs → BkL Γ S' x f o xs := fun f o xs f1 f2 hb => hb.fr a1 hf (hx f f1 f2) (fun L' g hL _ => hk g L' 7 hL (by decide)) (fun L' E' hL _ hE hw => hr E' L' (Or.inr hE) (Or.inr (Or.inr hL)) hw)
  have b11 : PupsI Γ S' A B := a11.fr hf (fun i hi => by
    have ha := a11.al i hi
    exact ⟨fun f => hk f _ 3 ha (by decide), fun L' f hL _ => hk f L' 7 hL (by decide), fun t f ht _ _ _ => hk f t 4 ht (by decide), fun T hT hw => hr T _ (Or.inl hT) (Or.inr (Or.inl ha)) hw, fun L' E' hL _ hE hw => hr E' L' (Or.inr hE) (Or.inr (Or.inr hL)) hw⟩)
  have b12 : PlysI S' A B := a12.fr hf (fun a f ha => hk f a 2 ha (by decide))
  refine ⟨a1.fr hf, bl _ _ _ (by decide) (by decide) a2, bl _ _ _ (by decide) (by decide) a3, bl _ _ _ (by decide) (by decide) a4, ⟨os, bl _ _ _ (by decide) (by decide) a5, fun t ht => (a6 t ht).fr hf, a7, ?_⟩, (((hf x a1.1).2.2.2.2.1 164 (hx 164 (by decide) (by decide))).1).trans a9, ?_, b11, b12, hC, hV⟩
  · rcases h5 with h5 | h5
    · exact Or.inl h5
    · rcases a8 with a8 | ⟨a8, a8'⟩
      · exact Or.inl (h5.trans a8)
      · exact Or.inr ⟨h5.trans a8, a8'.fr a11 a12 hf (fun t ht => hk _ t 4 ht (by decide)) (fun a ha => hk _ a 2 ha (by decide)) (fun T a hT ha hw => hr T a (Or.inl hT) (Or.inl ha) hw)⟩
  · rcases h6 with h6 | ⟨h6, h7⟩ | h6
    · exact Or.inl h6
    · rcases a10 with a10 | ⟨a10, a10'⟩
      · exact Or.inl (h6.trans a10)
      · exact Or.inr ⟨h6.trans a10, h7.trans a10'⟩
    · exact Or.inr h6
/-- nothing of the book is touched -/
theorem BkI.frA {Γ : GBase} {S S' : PS} {mo ma : Nat → Nat → Prop} {x : Nat} {A : AD} {B : BT} (h : BkI Γ S x A B) (hf : Fr S S' mo ma) (hk : ∀ f b k, al S b k → k = 0 ∨ k = 2 ∨ k = 3 ∨ k = 4 ∨ k = 5 ∨ k = 7 → ¬ mo f b) (hr : ∀ T o, al S T 8 ∨ al S T 12 → al S o 2 ∨ al S o 3 ∨ al S o 7 → pW S T = o → ¬ ma o T) : BkI Γ S' x A B := by
  have hx : ∀ f, ¬ mo f x := fun f => hk f x 5 h.1 (by decide)
  have e : ∀ f, pI S' f x = pI S f x := fun f => ((hf x h.1.1).2.2.2.2.1 f (hx f)).1
  exact h.fr0 (E := tE B) (L := tL B) (G := tF B) hf (fun f b k hb hk' => hk f b k hb (by omega)) (fun f _ _ => hx f) hr (h.2.2.2.2.2.2.2.2.2.1.fr hf (fun a f ha => hk f a 0 ha (by decide))) h.2.2.2.2.2.2.2.2.2.2 (Or.inr (e 165)) (Or.inr (Or.inl ⟨e 166, e 167⟩))
/-- a cue noted once more -/
def noteB (B : BT) (c : Nat) (z : Int) : BT := setN B (va_up (tE B) c (tE B c + 1)) (va_up (tL B) c (tL B c + z)) (va_up (tF B) c (tF B c + z.natAbs))
theorem noteB_V {B : BT} (h : VB B) {c : Nat} {z : Int} (hc : c < tC B) (h20 : tE B c < 20) (h1 : -50 ≤ z) (h2 : z ≤ 50) : VB (noteB B c z) := by
  obtain ⟨a1, a2, a3, a4, a5, a6, a7, a8, a9⟩ := h
  refine ⟨a1, a2, a3, a4, a5, a6, a7, fun c' hc' => ?_, fun c' hc' => ?_⟩
  · have := a8 c' hc'
    by_cases e : c' = c
    · subst e
      show va_up (tE B) c' (tE B c' + 1) c' ≤ 20 ∧ -(50 * ((va_up (tE B) c' (tE B c' + 1) c' : Nat) : Int)) ≤ va_up (tL B) c' (tL B c' + z) c' ∧ va_up (tL B) c' (tL B c' + z) c' ≤ 50 * ((va_up (tE B) c' (tE B c' + 1) c' : Nat) : Int) ∧ va_up (tF B) c' (tF B c' + z.natAbs) c' ≤ 50 * va_up (tE B) c' (tE B c' + 1) c'
      rw [va_up_self, va_up_self, va_up_self]
      omega
    · show va_up (tE B) c (tE B c + 1) c' ≤ 20 ∧ -(50 * ((va_up (tE B) c (tE B c + 1) c' : Nat) : Int)) ≤ va_up (tL B) c (tL B c + z) c' ∧ va_up (tL B) c (tL B c + z) c' ≤ 50 * ((va_up (tE B) c (tE B c + 1) c' : Nat) : Int) ∧ va_up (tF B) c (tF B c + z.natAbs) c' ≤ 50 * va_up (tE B) c (tE B c + 1) c'
      rw [va_up_ne _ _ e, va_up_ne _ _ e, va_up_ne _ _ e]
      exact this
  · have e : c' ≠ c := by
      intro e
      rw [e] at hc'
      have : tC B ≤ c := hc'
      omega
    show tK B c' = false ∧ va_up (tE B) c (tE B c + 1) c' = 0 ∧ va_up (tL B) c (tL B c + z) c' = 0 ∧ va_up (tF B) c (tF B c + z.natAbs) c' = 0
    rw [va_up_ne _ _ e, va_up_ne _ _ e, va_up_ne _ _ e]
    exact a9 c' hc'
