/-! ===== the model works a puppet's beats out ===== -/
def sgn (x : Int32) : Int32 := (x >>> ((31 : Int32) &&& 31)) ||| (((-x).toUInt32 >>> ((31 : Int32).toUInt32 &&& Int32.toUInt32 31)).toInt32)
theorem sgn_ok : ∀ u, u < 20 → ∀ g, g < 20 → nI u + sgn (nI g - nI u) = nI (towards u g) := by decide +kernel
theorem md_signum {Γ : GBase} (F : FB Γ) (S : PS) (x : Int32) : GMet Γ yJ6_signum_0f7a4 cJ6_signum_0f7a4 1 ((some FieldType.int)) 0 0 0 [.int x] S (fun r S' => S = S' ∧ r = some (.int (sgn x))) noX := by
  refine GMet.of (loc0 := [(0, .int x)]) F (by decide +kernel) rfl (Nat.le_of_ble_eq_true rfl) (fun X C R Tb nm => ?_)
  refine g_iload_n C dJ6_signum_0f7a4_0 rfl rfl ?_
  refine g_bipush C dJ6_signum_0f7a4_1 (v := 31) (by decide) ?_
  refine g_ishr C dJ6_signum_0f7a4_3 ?_
  refine g_iload_n C dJ6_signum_0f7a4_4 rfl rfl ?_
  refine g_ineg C dJ6_signum_0f7a4_5 ?_
  refine g_bipush C dJ6_signum_0f7a4_6 (v := 31) (by decide) ?_
  refine g_iushr C dJ6_signum_0f7a4_8 ?_
  refine g_ior C dJ6_signum_0f7a4_9 ?_
  refine g_iret C R rfl (by omega) (by omega) dJ6_signum_0f7a4_10 ?_
  exact ⟨rfl, rfl⟩
def WOut (S S' : PS) (m : Nat) (rr : Nat → Nat) (p : Nat) (ds t : List D4) (b : Nat) : Prop := FrM S S' m ∧ Kp S S' m rr nF (fun g => 207 ≤ g ∧ g ≤ 212) ∧ (pR S' (rr 210) p = nI (stL t).length ∧ ∀ x, x ≠ p → pR S' (rr 210) x = pR S (rr 210) x) ∧ (∀ j s, (stL t)[j]? = some s → pR S' (rr 211) (40 * p + j) = nI s.1 ∧ pR S' (rr 212) (40 * p + j) = nI s.2) ∧ (∀ x, x < 40 * p ∨ 40 * p + 40 ≤ x → pR S' (rr 211) x = pR S (rr 211) x ∧ pR S' (rr 212) x = pR S (rr 212) x) ∧ (∀ b', b' < b → pR S' (rr 207) (1000 * p + b') = zO (plL ds b') ∧ pR S' (rr 208) (1000 * p + b') = zO (trL ds b') ∧ pR S' (rr 209) (1000 * p + b') = nI (stL (upTo ds b')).length - 1) ∧ (∀ x, x < 1000 * p ∨ 1000 * p + 1000 ≤ x → pR S' (rr 207) x = pR S (rr 207) x ∧ pR S' (rr 208) x = pR S (rr 208) x ∧ pR S' (rr 209) x = pR S (rr 209) x)
theorem WOut.mdB {S S' : PS} {m : Nat} {rr : Nat → Nat} {p : Nat} {ds t : List D4} {b : Nat} {B : BT} (h : WOut S S' m rr p ds t b) (hB : MdB S m rr B) : MdB S' m rr B := (h.2.1.mono (fun f hf => hf.elim) (fun g hg => ⟨hg.1, by have := hg.2; omega⟩)).mdB hB
theorem WOut.enter {S S' S2 : PS} {m : Nat} {rr : Nat → Nat} {p : Nat} {ds t : List D4} {b : Nat} {d : D4} (h : WOut S S' m rr p ds t b) (hf : FrM S' S2 m) (k : Kp S' S2 m rr nF (fun g => 210 ≤ g ∧ g ≤ 212)) (h0 : d.1 = 0) (hl : (stL t).length < 40) (e1 : pR S2 (rr 211) = va_up (pR S' (rr 211)) (40 * p + (stL t).length) (nI d.2.1)) (e2 : pR S2 (rr 212) = va_up (pR S' (rr 212)) (40 * p + (stL t).length) (nI 1000)) (e0 : pR S2 (rr 210) = va_up (pR S' (rr 210)) p (nI ((stL t).length + 1))) : WOut S S2 m rr p ds (t ++ [d]) b := by
  obtain ⟨a1, a2, a3, a4, a5, a6, a7⟩ := h
  have es : stL (t ++ [d]) = stL t ++ [(d.2.1, 1000)] := by
    unfold stL
    rw [List.foldl_append]
    simp [sStep, h0]
  refine ⟨a1.tr hf, a2.tr (k.mono (fun f h => h) (fun g h => ⟨by have := h.1; omega, h.2⟩)), ⟨?_, fun x hx => ?_⟩, fun j s hs => ?_, fun x hx => ?_, ?_, ?_⟩
  · rw [e0, es, va_up_self, List.length_append]
    rfl
  · rw [e0, va_up_ne _ _ hx]; exact a3.2 x hx
  · rw [es] at hs
    rw [e1, e2]
    rcases Nat.lt_or_ge j (stL t).length with w | w
    · rw [List.getElem?_append_left w] at hs
      rw [va_up_ne _ _ (by omega), va_up_ne _ _ (by omega)]
      exact a4 j s hs
    · rw [List.getElem?_append_right w] at hs
      have hj := (List.getElem?_eq_some_iff.mp hs).1
      simp only [List.length_cons, List.length_nil] at hj
      have ej : j = (stL t).length := by omega
      subst ej
      rw [Nat.sub_self] at hs
      cases hs
      rw [va_up_self, va_up_self]
      exact ⟨rfl, rfl⟩
  · rw [e1, e2, va_up_ne _ _ (by omega), va_up_ne _ _ (by omega)]
    exact a5 x hx
  · rw [k.r i_207 (by decide), k.r i_208 (by decide), k.r i_209 (by decide)]; exact a6
  · rw [k.r i_207 (by decide), k.r i_208 (by decide), k.r i_209 (by decide)]; exact a7
theorem WOut.same {S S' : PS} {m : Nat} {rr : Nat → Nat} {p : Nat} {ds t : List D4} {b : Nat} {d : D4} (h : WOut S S' m rr p ds t b) (h0 : d.1 ≠ 0) (h3 : d.1 ≠ 3) : WOut S S' m rr p ds (t ++ [d]) b := by
  have es : stL (t ++ [d]) = stL t := by
    unfold stL
    rw [List.foldl_append]
    simp [sStep, h0, h3]
  unfold WOut
  rw [es]
  exact h
theorem WOut.leave {S S' S2 : PS} {m : Nat} {rr : Nat → Nat} {p n : Nat} {ds t : List D4} {b : Nat} {d : D4} (h : WOut S S' m rr p ds t b) (hf : FrM S' S2 m) (k : Kp S' S2 m rr nF (fun g => g = 212)) (h3 : d.1 = 3) (hn : (stL t).length = n + 1) (hl : n < 40) (e2 : pR S2 (rr 212) = va_up (pR S' (rr 212)) (40 * p + n) (nI d.2.1)) : WOut S S2 m rr p ds (t ++ [d]) b := by
  obtain ⟨a1, a2, a3, a4, a5, a6, a7⟩ := h
  obtain ⟨q, hq⟩ : ∃ q, (stL t)[n]? = some q := ⟨_, List.getElem?_eq_getElem (by omega)⟩
  have hlast : (stL t).getLast? = some q := by
    rw [List.getLast?_eq_getElem?, hn]
    exact hq
  have es : stL (t ++ [d]) = (stL t).dropLast ++ [(q.1, d.2.1)] := by
    have e : stL (t ++ [d]) = sStep (stL t) d := by
      unfold stL
      rw [List.foldl_append]
      rfl
    rw [e]
    unfold sStep
    rw [if_neg (by omega), if_pos h3, hlast]
  have hdl : (stL t).dropLast.length = n := by rw [List.length_dropLast, hn]; rfl
  refine ⟨a1.tr hf, a2.tr (k.mono (fun f h => h) (fun g h => by subst h; exact ⟨by decide, by decide⟩)), ⟨?_, fun x hx => ?_⟩, fun j s hs => ?_, fun x hx => ?_, ?_, ?_⟩
  · rw [k.r i_210 (by decide), es, List.length_append, hdl, a3.1, hn]
    rfl
  · rw [k.r i_210 (by decide)]; exact a3.2 x hx
  · rw [es] at hs
    rw [k.r i_211 (by decide), e2]
    rcases Nat.lt_or_ge j n with w | w
    · rw [List.getElem?_append_left (by omega), List.getElem?_dropLast, if_pos (by omega)] at hs
      rw [va_up_ne _ _ (by omega)]
      exact a4 j s hs
    · rw [List.getElem?_append_right (by omega), hdl] at hs
      have hj := (List.getElem?_eq_some_iff.mp hs).1
      simp only [List.length_cons, List.length_nil] at hj
      have ej : j = n := by omega
      subst ej
      rw [Nat.sub_self] at hs
      cases hs
      rw [va_up_self]
      exact ⟨(a4 j q hq).1, rfl⟩
  · rw [k.r i_211 (by decide), e2, va_up_ne _ _ (by omega)]
    exact a5 x hx
  · rw [k.r i_207 (by decide), k.r i_208 (by decide), k.r i_209 (by decide)]; exact a6
  · rw [k.r i_207 (by decide), k.r i_208 (by decide), k.r i_209 (by decide)]; exact a7
theorem WOut.beat {S S' S2 : PS} {m : Nat} {rr : Nat → Nat} {p : Nat} {ds t : List D4} {b : Nat} (h : WOut S S' m rr p ds t b) (hf : FrM S' S2 m) (k : Kp S' S2 m rr nF (fun g => 207 ≤ g ∧ g ≤ 209)) (ht : t = upTo ds b) (hb : b < 1000) (e7 : pR S2 (rr 207) = va_up (pR S' (rr 207)) (1000 * p + b) (zO (plL ds b))) (e8 : pR S2 (rr 208) = va_up (pR S' (rr 208)) (1000 * p + b) (zO (trL ds b))) (e9 : pR S2 (rr 209) = va_up (pR S' (rr 209)) (1000 * p + b) (nI (stL t).length - 1)) : WOut S S2 m rr p ds t (b + 1) := by
  obtain ⟨a1, a2, a3, a4, a5, a6, a7⟩ := h
  refine ⟨a1.tr hf, a2.tr (k.mono (fun f h => h) (fun g h => ⟨h.1, by have := h.2; omega⟩)), ?_, ?_, ?_, fun b' hb' => ?_, fun x hx => ?_⟩
  · rw [k.r i_210 (by decide)]; exact a3
  · rw [k.r i_211 (by decide), k.r i_212 (by decide)]; exact a4
  · rw [k.r i_211 (by decide), k.r i_212 (by decide)]; exact a5
  · rw [e7, e8, e9]
    by_cases e : b' = b
    · subst e
      rw [va_up_self, va_up_self, va_up_self, ht]
      exact ⟨rfl, rfl, rfl⟩
    · rw [va_up_ne _ _ (by omega), va_up_ne _ _ (by omega), va_up_ne _ _ (by omega)]
      exact a6 b' (by omega)
  · rw [e7, e8, e9, va_up_ne _ _ (by omega), va_up_ne _ _ (by omega), va_up_ne _ _ (by omega)]
    exact a7 x hx
theorem st_ne : ∀ (l : List D4) (p : PT) (s : List (Nat × Nat)), (p.isSome = true → s ≠ []) → ((l.foldl pFollow p).isSome = true → l.foldl sStep s ≠ []) := by
  intro l
  induction l with
  | nil => intro p s h; exact h
  | cons d l ih =>
    intro p s h
    refine ih (pFollow p d) (sStep s d) (fun hp => ?_)
    unfold sStep
    by_cases h0 : d.1 = 0
    · rw [if_pos h0]; simp
    · rw [if_neg h0]
      have hps : p.isSome = true := by
        cases p with
        | none => simp [pFollow, h0] at hp
        | some q => rfl
      by_cases h3 : d.1 = 3
      · rw [if_pos h3]
        split
        · exact h hps
        · simp
      · rw [if_neg h3]; exact h hps
theorem kix (p b : Nat) : (1000 : Int32) * nI p + nI b = nI (1000 * p + b) := by
  rw [show (1000 : Int32) = nI 1000 from rfl, pk_mul, nI_add]
theorem fix40 (p b : Nat) : (40 : Int32) * nI p + nI b = nI (40 * p + b) := by
  rw [show (40 : Int32) = nI 40 from rfl, pk_mul, nI_add]
