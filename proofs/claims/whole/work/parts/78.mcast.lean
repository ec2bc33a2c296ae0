/-! ===== the model's casting: the stays in their order, built one by one ===== -/
theorem sum1_up (f : Nat → Nat) (i : Nat) : ∀ n, sum1 (va_up f i (f i + 1)) n = sum1 f n + (if i < n then 1 else 0) := by
  intro n
  induction n with
  | zero => rfl
  | succ n ih =>
    simp only [sum1, ih]
    by_cases e : n = i
    · subst e
      rw [va_up_self, if_neg (Nat.lt_irrefl _), if_pos (by omega)]
      omega
    · rw [va_up_ne _ _ e]
      by_cases h : i < n
      · rw [if_pos h, if_pos (by omega)]; omega
      · rw [if_neg h, if_neg (by omega)]; omega
theorem sum1_mono {f g : Nat → Nat} : ∀ n, (∀ i, i < n → f i ≤ g i) → sum1 f n ≤ sum1 g n := by
  intro n
  induction n with
  | zero => intro _; exact Nat.le_refl _
  | succ n ih => intro h; simp only [sum1]; have := ih (fun i hi => h i (by omega)); have := h n (by omega); omega
theorem sum1_eqs {f g : Nat → Nat} : ∀ n, (∀ i, i < n → f i ≤ g i) → sum1 g n ≤ sum1 f n → ∀ i, i < n → f i = g i := by
  intro n
  induction n with
  | zero => intro _ _ i hi; exact absurd hi (Nat.not_lt_zero i)
  | succ n ih =>
    intro h he i hi
    simp only [sum1] at he
    have h1 := sum1_mono n (fun i hi => h i (by omega))
    have h2 := h n (by omega)
    by_cases e : i = n
    · subst e; omega
    · exact ih (fun i hi => h i (by omega)) (by omega) i (by omega)
def lnC (C : CT) (p : Nat) : Nat := (cS C p).length
def CIn (C : CT) (l : List (Nat × Nat)) (nx : Nat → Nat) : Prop := l.Pairwise (fun a b => okey C a < okey C b) ∧ (∀ a, a ∈ l ↔ (a.1 < cN C ∧ a.2 < nx a.1)) ∧ (∀ p, p < cN C → nx p ≤ lnC C p) ∧ (∀ a p, a ∈ l → p < cN C → nx p < lnC C p → okey C a < okey C (p, nx p)) ∧ l.length = sum1 nx (cN C)
theorem CIn.nil (C : CT) : CIn C [] (fun _ => 0) := ⟨List.Pairwise.nil, fun a => ⟨fun h => (by cases h), fun h => absurd h.2 (Nat.not_lt_zero _)⟩, fun p _ => Nat.zero_le _, fun a p h => (by cases h), (sum1_zero _).symm⟩
theorem CIn.done {C : CT} {l : List (Nat × Nat)} {nx : Nat → Nat} (h : CIn C l nx) (he : sum1 (lnC C) (cN C) ≤ l.length) : isOrd C l := by
  obtain ⟨h1, h2, h3, h4, h5⟩ := h
  have e := sum1_eqs (cN C) h3 (by omega)
  refine ⟨h1, fun a => (h2 a).trans ⟨fun q => ⟨q.1, by have := e a.1 q.1; unfold lnC at this; have := q.2; omega⟩, fun q => ⟨q.1, by have := e a.1 q.1; unfold lnC at this; have := q.2; omega⟩⟩⟩
theorem CIn.ex {C : CT} {l : List (Nat × Nat)} {nx : Nat → Nat} (h : CIn C l nx) (he : l.length < sum1 (lnC C) (cN C)) : ∃ p, p < cN C ∧ nx p < lnC C p := by
  obtain ⟨h1, h2, h3, h4, h5⟩ := h
  refine Classical.byContradiction (fun hn => ?_)
  have : sum1 (lnC C) (cN C) ≤ sum1 nx (cN C) := sum1_mono _ (fun i hi => by
    rcases Nat.lt_or_ge (nx i) (lnC C i) with w | w
    · exact absurd ⟨i, hi, w⟩ hn
    · exact w)
  omega
theorem okey_nx {C : CT} (hw : WC C) {f j : Nat} (hf : f < cN C) (hj : j + 1 < lnC C f) : okey C (f, j) < okey C (f, j + 1) := by
  obtain ⟨s, hs⟩ : ∃ s, (cS C f)[j]? = some s := ⟨_, List.getElem?_eq_getElem (by unfold lnC at hj; omega)⟩
  obtain ⟨t, ht⟩ : ∃ t, (cS C f)[j + 1]? = some t := ⟨_, List.getElem?_eq_getElem (by unfold lnC at hj; omega)⟩
  have := chain_lt (hw f hf).1 hs ht (Nat.lt_succ_self j)
  unfold okey
  simp only [hs, ht]
  omega
theorem CIn.step {C : CT} {l : List (Nat × Nat)} {nx : Nat → Nat} {f : Nat} (hw : WC C) (h8 : cN C ≤ 8) (h : CIn C l nx) (hf : f < cN C) (hc : nx f < lnC C f) (hmin : ∀ p, p < cN C → nx p < lnC C p → okey C (f, nx f) ≤ okey C (p, nx p)) : CIn C (l ++ [(f, nx f)]) (va_up nx f (nx f + 1)) := by
  obtain ⟨h1, h2, h3, h4, h5⟩ := h
  refine ⟨?_, fun a => ?_, fun p hp => ?_, fun a p ha hp hn => ?_, ?_⟩
  · refine List.pairwise_append.mpr ⟨h1, List.pairwise_singleton _ _, fun a ha b hb => ?_⟩
    rw [List.mem_singleton.mp hb]
    exact h4 a f ha hf hc
  · rw [List.mem_append, h2 a]
    constructor
    · rintro (⟨q1, q2⟩ | q)
      · by_cases e : a.1 = f
        · rw [e, va_up_self]
          rw [e] at q2
          exact ⟨hf, by omega⟩
        · rw [va_up_ne _ _ e]; exact ⟨q1, q2⟩
      · rw [List.mem_singleton.mp q]
        exact ⟨hf, by rw [va_up_self]; exact Nat.lt_succ_self _⟩
    · rintro ⟨q1, q2⟩
      by_cases e : a.1 = f
      · rw [e, va_up_self] at q2
        by_cases e2 : a.2 = nx f
        · right
          rw [List.mem_singleton]
          exact Prod.ext e e2
        · left
          rw [e]
          exact ⟨hf, by omega⟩
      · rw [va_up_ne _ _ e] at q2
        exact Or.inl ⟨q1, q2⟩
  · by_cases e : p = f
    · rw [e, va_up_self]; exact hc
    · rw [va_up_ne _ _ e]; exact h3 p hp
  · have key : okey C (f, nx f) < okey C (p, va_up nx f (nx f + 1) p) := by
      by_cases e : p = f
      · rw [e, va_up_self] at hn ⊢
        exact okey_nx hw hf hn
      · rw [va_up_ne _ _ e] at hn ⊢
        have := hmin p hp hn
        have hne : okey C (f, nx f) ≠ okey C (p, nx p) := by
          unfold okey
          simp only
          omega
        omega
    rcases List.mem_append.mp ha with ha | ha
    · exact Nat.lt_trans (h4 a f ha hf hc) key
    · rw [List.mem_singleton.mp ha]; exact key
  · rw [List.length_append, sum1_up, if_pos hf, h5]
    rfl
theorem CIn.nodup {C : CT} {l : List (Nat × Nat)} {nx : Nat → Nat} (h : CIn C l nx) : l.Nodup := h.1.imp (fun hab => fun e => by rw [e] at hab; omega)
theorem CIn.casti {C : CT} {l : List (Nat × Nat)} {nx : Nat → Nat} (h : CIn C l nx) : castI C l (castL C l noA) := by
  have := castI_take (C := C) h.nodup l.length (Nat.le_refl _)
  rw [List.take_length] at this
  exact this
theorem va_up_up {α : Type} (f : Nat → α) (i : Nat) (x y : α) : va_up (va_up f i x) i y = va_up f i y := by
  funext j
  by_cases e : j = i
  · rw [e, va_up_self, va_up_self]
  · rw [va_up_ne _ _ e, va_up_ne _ _ e, va_up_ne _ _ e]
/-- the least of the candidates below n -/
def isMin (C : CT) (nx : Nat → Nat) (n : Nat) (o : Option Nat) : Prop := match o with
  | none => ∀ p, p < n → ¬ nx p < lnC C p
  | some f => f < n ∧ nx f < lnC C f ∧ ∀ p, p < n → nx p < lnC C p → okey C (f, nx f) ≤ okey C (p, nx p)
theorem isMin.skip {C : CT} {nx : Nat → Nat} {n : Nat} {o : Option Nat} (h : isMin C nx n o) (hk : ¬ nx n < lnC C n ∨ ∃ f, o = some f ∧ okey C (f, nx f) ≤ okey C (n, nx n)) : isMin C nx (n + 1) o := by
  cases o with
  | none =>
    intro p hp
    rcases hk with hk | ⟨f, hf, _⟩
    · by_cases e : p = n
      · rw [e]; exact hk
      · exact h p (by omega)
    · cases hf
  | some f =>
    refine ⟨by have := h.1; omega, h.2.1, fun p hp hc => ?_⟩
    by_cases e : p = n
    · rcases hk with hk | ⟨f', hf, h9⟩
      · rw [e] at hc; exact absurd hc hk
      · cases hf; rw [e]; exact h9
    · exact h.2.2 p (by omega) hc
theorem isMin.take {C : CT} {nx : Nat → Nat} {n : Nat} {o : Option Nat} (h : isMin C nx n o) (hk : nx n < lnC C n) (hb : ∀ f, o = some f → okey C (n, nx n) ≤ okey C (f, nx f)) : isMin C nx (n + 1) (some n) := by
  refine ⟨Nat.lt_succ_self n, hk, fun p hp hc => ?_⟩
  by_cases e : p = n
  · rw [e]; exact Nat.le_refl _
  · cases o with
    | none => exact absurd hc (h p (by omega))
    | some f => exact Nat.le_trans (hb f rfl) (h.2.2 p (by omega) hc)
theorem Fr.uRq {S S' : PS} {mo ma : Nat → Nat → Prop} {q : Nat} {r : Nat → Int32} (h : Fr S S' mo ma) (hq : q ∉ pL S) : Fr S (uR S' q r) mo ma := fun b hb => by
  obtain ⟨k1, k2, k3, k4, k5, k6⟩ := h b hb
  refine ⟨k1, k2, k3, k4, k5, fun hn => ?_⟩
  rw [uR_ne (mem_ne hb hq)]
  exact k6 hn
theorem kp_uRq {S : PS} {m q : Nat} {rr : Nat → Nat} {r : Nat → Int32} {Fs Gs : Nat → Prop} (hq : ∀ f, isRw f → rr f ≠ q) : Kp S (uR S q r) m rr Fs Gs :=
  ⟨fun b k h => h, fun f _ => ⟨rfl, rfl⟩, fun f hf => ⟨rfl, rfl, fun _ => uR_ne (hq f hf)⟩⟩
theorem kp_nA {S : PS} {m q k n : Nat} {rr : Nat → Nat} {Fs Gs : Nat → Prop} (hM : MdF S m rr) (hq : q ∉ pL S) : Kp S (nA S q k n) m rr Fs Gs := by
  refine ⟨fun b k h => h.nA hq, fun f _ => ⟨rfl, rfl⟩, fun f hf => ?_⟩
  have hne : rr f ≠ q := mem_ne (hM.2.1 f hf).2.1.1 hq
  exact ⟨nA_N hne, rfl, fun _ => va_up_ne _ _ hne⟩
