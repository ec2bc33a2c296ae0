def PupR (S : PS) (a : Nat) (ds : List D4) : Prop := al S a 3 ∧ good ds ∧ ∃ TA TB, pP S 102 a = some TA ∧ pP S 103 a = some TB ∧ al S TA 8 ∧ pN S TA = 1000 ∧ al S TB 8 ∧ pN S TB = 1000 ∧ ∀ b, b < 1000 → pR S TA b = zO (plL ds b) ∧ pR S TB b = zO (trL ds b)
theorem PupsI.r {Γ : GBase} {S : PS} {A : AD} {B : BT} (h : PupsI Γ S A B) (hV : VB B) {i : Nat} (hi : i < tN B) : PupR S (dP A i) (dsB B i) := by
  obtain ⟨LS, LT, TA, TB, p1, -, -, -, -, -, -, p3⟩ := h.2 i hi
  exact ⟨p1.1, hV.good hi, TA, TB, p1.2.2.2.1, p1.2.2.2.2.1, p1.2.2.2.2.2.1.1, p1.2.2.2.2.2.1.2.1, p1.2.2.2.2.2.2.1.1, p1.2.2.2.2.2.2.1.2.1, p3⟩
def isB (v : Int32) (P : Prop) : Prop := (v = 1 ∧ P) ∨ (v = 0 ∧ ¬ P)
theorem isB.pos {v : Int32} {P : Prop} (h : isB v P) (hv : v ≠ 0) : P := h.elim (fun q => q.2) (fun q => absurd q.1 hv)
theorem isB.neg {v : Int32} {P : Prop} (h : isB v P) (hv : v = 0) : ¬ P := h.elim (fun q => by rw [q.1] at hv; exact absurd hv (by decide)) (fun q => q.2)
theorem isB.z1 {v : Int32} {P : Prop} (h : isB v P) : (v &&& 1) = v := h.elim (fun q => by rw [q.1]; decide) (fun q => by rw [q.1]; decide)
