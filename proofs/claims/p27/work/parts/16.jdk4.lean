/-! ===== lists: remove, clear; Arrays.fill; Integer.signum ===== -/
/-- a list with its row E, which isn't the empty one -/
def isE (S : PS) (a E : Nat) (xs : List Nat) : Prop := al S a 7 ∧ pI S 226 a = nI xs.length ∧ pP S 225 a = some E ∧ al S E 12 ∧ pW S E = a ∧ 0 < pN S E ∧ xs.length ≤ pN S E ∧ pN S E ≤ 100 ∧ ∀ j, j < xs.length → pRP S E j = xs[j]?
theorem isL.E {Γ : GBase} {S : PS} {a : Nat} {xs : List Nat} (h : isL Γ S a xs) (h0 : 0 < xs.length) : ∃ E, isE S a E xs := by
  obtain ⟨ha, hs, E, hE, hc | ⟨c1, c2, c3, c4, c5, c6⟩⟩ := h
  · exfalso; rw [hc.2] at h0; simp at h0
  · exact ⟨E, ha, hs, hE, c1, c2, c3, c4, c5, c6⟩
theorem uRP_uRP {S : PS} {a : Nat} {r r' : Nat → Option Nat} : uRP (uRP S a r) a r' = uRP S a r' := by
  obtain ⟨s1, s2, s3, s4, s5, s6, s7, s8, s9, s10⟩ := S
  simp only [uRP, Prod.mk.injEq, true_and, and_true]
  funext b
  by_cases hb : b = a
  · subst hb; rw [va_up_self, va_up_self]
  · rw [va_up_ne _ _ hb, va_up_ne _ _ hb, va_up_ne _ _ hb]
theorem isE.rem {Γ : GBase} {S : PS} {a E i : Nat} {xs : List Nat} (h : isE S a E xs) (hi : i < xs.length) {row : Nat → Option Nat} (hrow : ∀ j, j < xs.length - 1 → row j = (remL xs i)[j]?) : ∀ S2, S2 = uRP (uI S 226 a (nI (xs.length - 1))) E row → isL Γ S2 a (remL xs i) ∧ Fr S S2 (moL a) (maL a) := by
  rintro S2 rfl
  obtain ⟨h1, h2, h3, h4, h5, h6, h7, h8, h9⟩ := h
  refine ⟨⟨h1, ?_, E, h3, Or.inr ⟨h4, h5, h6, ?_, h8, fun j hj => ?_⟩⟩, fun b hb => ?_⟩
  · show pI (uI S 226 a _) 226 a = _
    rw [uI_q, remL_len hi]
  · show (remL xs i).length ≤ pN S E
    rw [remL_len hi]; omega
  · rw [remL_len hi] at hj
    rw [uRP_q]; exact hrow j hj
  · refine ⟨hb, rfl, rfl, rfl, fun f hf => ⟨(uI_ne (S := S) (Or.inr hf)).trans rfl, rfl⟩, fun hf => ⟨rfl, rfl, rfl, ?_⟩⟩
    have hne : b ≠ E := fun q => hf (by rw [q]; exact h5)
    exact uRP_ne (S := uI S 226 a _) hne
theorem isE.uI224 {S : PS} {a b E : Nat} {xs : List Nat} {z : Int32} (h : isE S a E xs) : isE (uI S 224 b z) a E xs := by
  obtain ⟨h1, h2, h3, h4, h5, h6, h7, h8, h9⟩ := h
  exact ⟨h1, (uI_ne (Or.inl (by decide))).trans h2, h3, h4, h5, h6, h7, h8, h9⟩
theorem m_fastRemove {Γ : GBase} (F : FB Γ) (S : PS) (a E i kv : Nat) (xs : List Nat) (hE : isE S a E xs) (hi : i < xs.length) (h8 : kv < 8) (hel : ∀ x, x ∈ xs → al S x kv) : GMet Γ yJx4a65c_fastRemove_b59b0 cJx4a65c_fastRemove_b59b0 4 ((none : Option FieldType)) 0 0 0 [.ref a, .ref E, .int (nI i)] S (fun r S' => r = none ∧ isL Γ S' a (remL xs i) ∧ Fr S S' (moL a) (maL a)) noX := by
  refine GMet.of (loc0 := [(0, .ref a), (1, .ref E), (2, .int (nI i))]) F (by decide +kernel) rfl (Nat.le_of_ble_eq_true rfl) (fun X C R Tb nm => ?_)
  refine g_aload_n C dJx4a65c_fastRemove_b59b0_0 rfl rfl ?_
  refine g_dup C dJx4a65c_fastRemove_b59b0_1 rfl ?_
  refine ge_AL_modCount C tw_1_47 (by exact hE.1) rfl dJx4a65c_fastRemove_b59b0_2 ?_
  refine g_iconst C dJx4a65c_fastRemove_b59b0_5 (v := 1) (by decide) ?_
  refine g_iadd C dJx4a65c_fastRemove_b59b0_6 ?_
  refine pu_AL_modCount C tw_1_47 (by exact hE.1) dJx4a65c_fastRemove_b59b0_7 ?_
  generalize hm : pI S 224 a + 1 = mm
  have hF0 : Fr S (uI S 224 a mm) (moL a) (maL a) := fr_uI rfl
  have hE0 : isE (uI S 224 a mm) a E xs := hE.uI224
  have hel0 : ∀ x, x ∈ xs → al (uI S 224 a mm) x kv := hel
  generalize uI S 224 a mm = S0 at hF0 hE0 hel0 ⊢
  obtain ⟨h1, h2, h3, h4, h5, h6, h7, h10, h9⟩ := id hE0
  refine g_aload_n C dJx4a65c_fastRemove_b59b0_10 rfl rfl ?_
  refine ge_AL_size C tw_1_45 (by exact h1) (by exact h2) dJx4a65c_fastRemove_b59b0_11 ?_
  refine g_iconst C dJx4a65c_fastRemove_b59b0_14 (v := 1) (by decide) ?_
  refine g_isub C dJx4a65c_fastRemove_b59b0_15 ?_
  rw [show nI xs.length - 1 = nI (xs.length - 1) from pk_sub (b := 1) (by omega)]
  refine g_dup C dJx4a65c_fastRemove_b59b0_16 rfl ?_
  refine g_istore_n C dJx4a65c_fastRemove_b59b0_17 rfl (by decide) rfl ?_
  refine g_iload_n C dJx4a65c_fastRemove_b59b0_18 rfl rfl ?_
  have kend : ∀ row, (∀ j, j < xs.length - 1 → row j = (remL xs i)[j]?) → GW Γ X (uRP S0 E row) 0 0 34 [(0, .ref a), (1, .ref E), (2, .int (nI i)), (3, .int (nI (xs.length - 1)))] [] := by
    intro row hrow
    refine g_aload_n C dJx4a65c_fastRemove_b59b0_34 rfl rfl ?_
    refine g_aload_n C dJx4a65c_fastRemove_b59b0_35 rfl rfl ?_
    refine g_iload_n C dJx4a65c_fastRemove_b59b0_36 rfl rfl ?_
    refine g_dup_x1 C dJx4a65c_fastRemove_b59b0_37 rfl rfl ?_
    refine pu_AL_size C tw_1_45 (by exact h1) dJx4a65c_fastRemove_b59b0_38 ?_
    refine g_null C dJx4a65c_fastRemove_b59b0_41 ?_
    refine g_stQN C  rfl (by exact h4) (by show _ < pN S0 E; omega) (by omega) dJx4a65c_fastRemove_b59b0_42 ?_
    refine g_vret C R (by omega) (by omega) dJx4a65c_fastRemove_b59b0_43 ?_
    have e : uRP (uI (uRP S0 E row) 226 a (nI (xs.length - 1))) E (va_up (pRP (uI (uRP S0 E row) 226 a (nI (xs.length - 1))) E) (xs.length - 1) none) = uRP (uI S0 226 a (nI (xs.length - 1))) E (va_up row (xs.length - 1) none) := by
      show uRP (uRP (uI S0 226 a (nI (xs.length - 1))) E row) E (va_up (pRP (uRP S0 E row) E) (xs.length - 1) none) = _
      rw [uRP_uRP, uRP_q]
    rw [e]
    obtain ⟨p1, p2⟩ := hE0.rem (Γ := Γ) hi (row := va_up row (xs.length - 1) none) (fun j hj => by rw [va_up_ne _ _ (by omega)]; exact hrow j hj) _ rfl
    exact ⟨rfl, p1, hF0.trL p2⟩
  refine g_icmp_le C dJx4a65c_fastRemove_b59b0_19 (tgt := 34) (by decide) (fun c => ?_) (fun c => ?_)
  · have hlast : i = xs.length - 1 := by
      rcases Nat.lt_or_ge i (xs.length - 1) with q | q
      · exact absurd c (nI_ge q (by omega))
      · omega
    rw [← uRP_self S0 E]
    refine g_sub [(0, _), (1, _), (2, _), (3, _)] ⟨rfl, rfl, rfl, rfl, trivial⟩ ?_
    refine kend _ (fun j hj => ?_)
    rw [remL_get hi, if_pos (by omega), h9 j (by omega)]
  · refine g_aload_n C dJx4a65c_fastRemove_b59b0_22 rfl rfl ?_
    refine g_iload_n C dJx4a65c_fastRemove_b59b0_23 rfl rfl ?_
    refine g_iconst C dJx4a65c_fastRemove_b59b0_24 (v := 1) (by decide) ?_
    refine g_iadd C dJx4a65c_fastRemove_b59b0_25 ?_
    rw [nI_1]
    refine g_aload_n C dJx4a65c_fastRemove_b59b0_26 rfl rfl ?_
    refine g_iload_n C dJx4a65c_fastRemove_b59b0_27 rfl rfl ?_
    refine g_iload_n C dJx4a65c_fastRemove_b59b0_28 rfl rfl ?_
    refine g_iload_n C dJx4a65c_fastRemove_b59b0_29 rfl rfl ?_
    refine g_isub C dJx4a65c_fastRemove_b59b0_30 ?_
    rw [pk_sub (by omega)]
    refine g_copyQ C tw_2_54 (sp := i + 1) (dp := i) (m := xs.length - 1 - i) (kv := kv) rfl rfl rfl h4 h4 (by omega) (by omega) (by omega) h8 (fun j hj w hw => hel0 w (by rw [h9 _ (by omega)] at hw; exact List.mem_of_getElem? hw)) (by simp [Value.category]) dJx4a65c_fastRemove_b59b0_31 ?_
    refine g_sub [(0, _), (1, _), (2, _), (3, _)] ⟨rfl, rfl, rfl, rfl, trivial⟩ ?_
    refine kend _ (fun j hj => ?_)
    rw [remL_get hi]
    by_cases c2 : j < i
    · rw [if_pos c2, pk_cpy_out (Or.inl (by omega)), h9 j (by omega)]
    · rw [if_neg c2, pk_cpy_in (by omega) (by omega), h9 _ (by omega)]
      congr 1; omega
theorem m_remove {Γ : GBase} (F : FB Γ) (S : PS) (a i kv v : Nat) (xs : List Nat) (hL : isL Γ S a xs) (hi : xs[i]? = some v) (h8 : kv < 8) (hel : ∀ x, x ∈ xs → al S x kv) : GMet Γ yJx4a65c_remove_915e3 cJx4a65c_remove_915e3 4 ((some (FieldType.object "java/lang/Object"))) 2 0 0 [.ref a, .int (nI i)] S (fun r S' => r = some (.ref v) ∧ isL Γ S' a (remL xs i) ∧ Fr S S' (moL a) (maL a)) noX := by
  have hlen := hL.len
  have hil : i < xs.length := (List.getElem?_eq_some_iff.mp hi).1
  obtain ⟨E, hE⟩ := hL.E (by omega)
  obtain ⟨h1, h2, h3, h4, h5, h6, h7, h10, h9⟩ := id hE
  refine GMet.of (loc0 := [(0, .ref a), (1, .int (nI i))]) F (by decide +kernel) rfl (Nat.le_of_ble_eq_true rfl) (fun X C R Tb nm => ?_)
  refine g_iload_n C dJx4a65c_remove_915e3_0 rfl rfl ?_
  refine g_aload_n C dJx4a65c_remove_915e3_1 rfl rfl ?_
  refine ge_AL_size C tw_1_45 (by exact h1) (by exact h2) dJx4a65c_remove_915e3_2 ?_
  refine g_callS C gy_J15_checkIndex_7cf53 tw_1_165 tw_1_166 (by decide) (m_checkIndex F S i xs.length hil (by omega)) rfl rfl (Nat.le_of_ble_eq_true rfl) (by omega) (by omega) dJx4a65c_remove_915e3_5 (fun _ _ h9 => h9.elim) ?_
  rintro _ _ ⟨rfl, rfl⟩
  refine g_pop C dJx4a65c_remove_915e3_8 rfl ?_
  refine g_aload_n C dJx4a65c_remove_915e3_9 rfl rfl ?_
  refine ge_AL_elementData C tw_1_44 (by exact h1) (by exact h3) dJx4a65c_remove_915e3_10 ?_
  refine g_astore_n C dJx4a65c_remove_915e3_13 rfl (by decide) rfl ?_
  refine g_aload_n C dJx4a65c_remove_915e3_14 rfl rfl ?_
  refine g_iload_n C dJx4a65c_remove_915e3_15 rfl rfl ?_
  refine g_ldQ C rfl h4 (by omega) (by omega) ((h9 i hil).trans hi) dJx4a65c_remove_915e3_16 ?_
  refine g_astore_n C dJx4a65c_remove_915e3_17 rfl (by decide) rfl ?_
  refine g_aload_n C dJx4a65c_remove_915e3_18 rfl rfl ?_
  refine g_aload_n C dJx4a65c_remove_915e3_19 rfl rfl ?_
  refine g_iload_n C dJx4a65c_remove_915e3_20 rfl rfl ?_
  refine g_callV C gy_Jx4a65c_fastRemove_b59b0 tw_3_95 tw_3_97 ts_18 (by decide) (kk := 7) rfl rfl (by exact h1) (m_fastRemove F S a E i kv xs hE hil h8 hel) rfl rfl (Nat.le_of_ble_eq_true rfl) (by omega) (by omega) dJx4a65c_remove_915e3_21 (fun _ _ h9 => h9.elim) ?_
  rintro _ _ ⟨rfl, p1, p2⟩
  refine g_aload_n C dJx4a65c_remove_915e3_24 rfl rfl ?_
  refine g_aret C R (Or.inl ⟨_, rfl⟩) (by omega) (by omega) dJx4a65c_remove_915e3_25 ?_
  exact ⟨rfl, p1, p2⟩
theorem m_clear {Γ : GBase} (F : FB Γ) (S : PS) (a : Nat) (xs : List Nat) (hL : isL Γ S a xs) : GMet Γ yJx4a65c_clear_da8c8 cJx4a65c_clear_da8c8 4 ((none : Option FieldType)) 0 0 0 [.ref a] S (fun r S' => r = none ∧ isL Γ S' a [] ∧ Fr S S' (moL a) (maL a)) noX := by
  have hlen := hL.len
  obtain ⟨ha, hs, E, hE, hc⟩ := hL
  refine GMet.of (loc0 := [(0, .ref a)]) F (by decide +kernel) rfl (Nat.le_of_ble_eq_true rfl) (fun X C R Tb nm => ?_)
  refine g_aload_n C dJx4a65c_clear_da8c8_0 rfl rfl ?_
  refine g_dup C dJx4a65c_clear_da8c8_1 rfl ?_
  refine ge_AL_modCount C tw_1_47 (by exact ha) rfl dJx4a65c_clear_da8c8_2 ?_
  refine g_iconst C dJx4a65c_clear_da8c8_5 (v := 1) (by decide) ?_
  refine g_iadd C dJx4a65c_clear_da8c8_6 ?_
  refine pu_AL_modCount C tw_1_47 (by exact ha) dJx4a65c_clear_da8c8_7 ?_
  refine g_aload_n C dJx4a65c_clear_da8c8_10 rfl rfl ?_
  refine ge_AL_elementData C tw_1_44 (by exact ha) (by exact hE) dJx4a65c_clear_da8c8_11 ?_
  refine g_astore_n C dJx4a65c_clear_da8c8_14 rfl (by decide) rfl ?_
  refine g_aload_n C dJx4a65c_clear_da8c8_15 rfl rfl ?_
  refine ge_AL_size C tw_1_45 (by exact ha) (by exact hs) dJx4a65c_clear_da8c8_16 ?_
  refine g_istore_n C dJx4a65c_clear_da8c8_19 rfl (by decide) rfl ?_
  refine g_aload_n C dJx4a65c_clear_da8c8_20 rfl rfl ?_
  refine g_iconst C dJx4a65c_clear_da8c8_21 (v := 0) (by decide) ?_
  refine g_dup_x1 C dJx4a65c_clear_da8c8_22 rfl rfl ?_
  refine pu_AL_size C tw_1_45 (by exact ha) dJx4a65c_clear_da8c8_23 ?_
  refine g_istore_n C dJx4a65c_clear_da8c8_26 rfl (by decide) rfl ?_
  generalize hm : pI S 224 a + 1 = mm
  have hF0 : Fr S (uI (uI S 224 a mm) 226 a 0) (moL a) (maL a) := Fr.trL (fr_uI rfl) (fr_uI rfl)
  have hs0 : pI (uI (uI S 224 a mm) 226 a 0) 226 a = nI 0 := uI_q
  have ha0 : al (uI (uI S 224 a mm) 226 a 0) a 7 := ha
  have hE0 : pP (uI (uI S 224 a mm) 226 a 0) 225 a = some E := hE
  have hc0 : (E = bE Γ ∧ xs = []) ∨ (al (uI (uI S 224 a mm) 226 a 0) E 12 ∧ pW (uI (uI S 224 a mm) 226 a 0) E = a ∧ 0 < pN (uI (uI S 224 a mm) 226 a 0) E ∧ xs.length ≤ pN (uI (uI S 224 a mm) 226 a 0) E ∧ pN (uI (uI S 224 a mm) 226 a 0) E ≤ 100) := by
    rcases hc with h | ⟨c1, c2, c3, c4, c5, c6⟩
    · exact Or.inl h
    · exact Or.inr ⟨c1, c2, c3, c4, c5⟩
  refine g_know (fun hAA => ?_)
  have hnE : bE Γ ∉ pL S := fun q => g_E0 F hAA q
  generalize uI (uI S 224 a mm) 226 a 0 = S0 at hF0 hs0 ha0 hE0 hc0 ⊢
  have loop : ∀ (m i : Nat) (row : Nat → Option Nat), i + m = xs.length → GW Γ X (uRP S0 E row) 0 0 27 [(0, .ref a), (1, .ref E), (2, .int (nI xs.length)), (3, .int (nI i))] [] := by
    intro m
    induction m with
    | zero =>
      intro i row hi
      refine g_iload_n C dJx4a65c_clear_da8c8_27 rfl rfl ?_
      refine g_iload_n C dJx4a65c_clear_da8c8_28 rfl rfl ?_
      refine g_icmp_ge C dJx4a65c_clear_da8c8_29 (tgt := 42) (by decide) (fun c => ?_) (fun c => ?_)
      · refine g_vret C R (by omega) (by omega) dJx4a65c_clear_da8c8_42 ?_
        refine ⟨rfl, ⟨ha0, hs0, E, hE0, ?_⟩, ?_⟩
        · rcases hc0 with h | ⟨c1, c2, c3, c4, c5⟩
          · exact Or.inl ⟨h.1, rfl⟩
          · exact Or.inr ⟨c1, c2, c3, Nat.zero_le _, c5, fun j hj => absurd hj (Nat.not_lt_zero _)⟩
        · rcases hc0 with ⟨e1, e2⟩ | ⟨c1, c2, c3, c4, c5⟩
          · refine hF0.tr (ma' := fun _ b => b = E) (mo' := fun _ _ => False) (fr_uRP rfl) (fun _ _ _ h => h.elim id False.elim) (fun o b hb h => ?_)
            rcases h with h | h
            · exact h
            · exact absurd (by rw [← e1, ← h]; exact hb) hnE
          · exact hF0.trL (fr_uRP c2)
      · exact absurd (nI_le (by omega) (by omega)) c
    | succ m ih =>
      intro i row hi
      refine g_iload_n C dJx4a65c_clear_da8c8_27 rfl rfl ?_
      refine g_iload_n C dJx4a65c_clear_da8c8_28 rfl rfl ?_
      refine g_icmp_ge C dJx4a65c_clear_da8c8_29 (tgt := 42) (by decide) (fun c => ?_) (fun c => ?_)
      · exact absurd c (nI_ge (by omega) (by omega))
      · rcases hc0 with ⟨e1, e2⟩ | ⟨c1, c2, c3, c4, c5⟩
        · exfalso; rw [e2] at hi; simp at hi
        · refine g_aload_n C dJx4a65c_clear_da8c8_32 rfl rfl ?_
          refine g_iload_n C dJx4a65c_clear_da8c8_33 rfl rfl ?_
          refine g_null C dJx4a65c_clear_da8c8_34 ?_
          refine g_stQN C  rfl (by exact c1) (by show _ < pN S0 E; omega) (by omega) dJx4a65c_clear_da8c8_35 ?_
          refine g_iinc C dJx4a65c_clear_da8c8_36 rfl (by first | exact inc1 _ | exact rfl) (by decide) rfl ?_
          refine g_goto C dJx4a65c_clear_da8c8_39 (tgt := 27) (by decide) ?_
          refine g_sub [(0, _), (1, _), (2, _), (3, _)] ⟨rfl, rfl, rfl, rfl, trivial⟩ ?_
          rw [uRP_uRP]
          exact ih (i + 1) _ (by omega)
  rw [← uRP_self S0 E]
  refine g_sub [(0, _), (1, _), (2, _), (3, _)] ⟨rfl, rfl, rfl, rfl, trivial⟩ ?_
  exact loop xs.length 0 _ (by omega)
theorem uR_q {S : PS} {a : Nat} {r : Nat → Int32} : pR (uR S a r) a = r := va_up_self _ _ _
theorem uR_ne {S : PS} {a b : Nat} {r : Nat → Int32} (h : b ≠ a) : pR (uR S a r) b = pR S b := va_up_ne _ _ h
theorem uR_uR {S : PS} {a : Nat} {r r' : Nat → Int32} : uR (uR S a r) a r' = uR S a r' := by
  obtain ⟨s1, s2, s3, s4, s5, s6, s7, s8, s9, s10⟩ := S
  simp only [uR, Prod.mk.injEq, true_and, and_true]
  funext b
  by_cases hb : b = a
  · subst hb; rw [va_up_self, va_up_self]
  · rw [va_up_ne _ _ hb, va_up_ne _ _ hb, va_up_ne _ _ hb]
theorem uR_self (S : PS) (a : Nat) : uR S a (pR S a) = S := by
  obtain ⟨s1, s2, s3, s4, s5, s6, s7, s8, s9, s10⟩ := S
  simp only [uR, pR, Prod.mk.injEq, true_and, and_true]
  funext b
  by_cases hb : b = a
  · subst hb; exact va_up_self _ _ _
  · exact va_up_ne _ _ hb
theorem m_fill {Γ : GBase} (F : FB Γ) (S : PS) (T : Nat) (v : Int32) (hT : al S T 8) (hN : pN S T ≤ 1000000) : GMet Γ yJ7_fill_53178 cJ7_fill_53178 4 ((none : Option FieldType)) 0 0 0 [.ref T, .int v] S (fun r S' => r = none ∧ ∃ row, S' = uR S T row ∧ ∀ j, j < pN S T → row j = v) noX := by
  refine GMet.of (loc0 := [(0, .ref T), (1, .int v)]) F (by decide +kernel) rfl (Nat.le_of_ble_eq_true rfl) (fun X C R Tb nm => ?_)
  have loop : ∀ (m i : Nat) (row : Nat → Int32), i + m = pN S T → (∀ j, j < i → row j = v) → GW Γ X (uR S T row) 0 0 5 [(0, .ref T), (1, .int v), (2, .int (nI i)), (3, .int (nI (pN S T)))] [] := by
    intro m
    induction m with
    | zero =>
      intro i row hi hr
      refine g_iload_n C dJ7_fill_53178_5 rfl rfl ?_
      refine g_iload_n C dJ7_fill_53178_6 rfl rfl ?_
      refine g_icmp_ge C dJ7_fill_53178_7 (tgt := 20) (by decide) (fun c => ?_) (fun c => ?_)
      · refine g_vret C R (by omega) (by omega) dJ7_fill_53178_20 ?_
        exact ⟨rfl, row, rfl, fun j hj => hr j (by omega)⟩
      · exact absurd (nI_le (by omega) (by omega)) c
    | succ m ih =>
      intro i row hi hr
      refine g_iload_n C dJ7_fill_53178_5 rfl rfl ?_
      refine g_iload_n C dJ7_fill_53178_6 rfl rfl ?_
      refine g_icmp_ge C dJ7_fill_53178_7 (tgt := 20) (by decide) (fun c => ?_) (fun c => ?_)
      · exact absurd c (nI_ge (by omega) (by omega))
      · refine g_aload_n C dJ7_fill_53178_10 rfl rfl ?_
        refine g_iload_n C dJ7_fill_53178_11 rfl rfl ?_
        refine g_iload_n C dJ7_fill_53178_12 rfl rfl ?_
        refine g_stI C rfl (by exact hT) (by show i < pN S T; omega) (by omega) dJ7_fill_53178_13 ?_
        refine g_iinc C dJ7_fill_53178_14 rfl (by first | exact inc1 _ | exact rfl) (by decide) rfl ?_
        refine g_goto C dJ7_fill_53178_17 (tgt := 5) (by decide) ?_
        rw [uR_uR, uR_q]
        refine g_sub [(0, _), (1, _), (2, _), (3, _)] ⟨rfl, rfl, rfl, rfl, trivial⟩ ?_
        refine ih (i + 1) _ (by omega) (fun j hj => ?_)
        by_cases c2 : j = i
        · rw [c2, va_up_self]
        · rw [va_up_ne _ _ c2]; exact hr j (by omega)
  refine g_iconst C dJ7_fill_53178_0 (v := 0) (by decide) ?_
  refine g_istore_n C dJ7_fill_53178_1 rfl (by decide) rfl ?_
  refine g_aload_n C dJ7_fill_53178_2 rfl rfl ?_
  refine g_alen C (by decide) hT dJ7_fill_53178_3 ?_
  refine g_istore_n C dJ7_fill_53178_4 rfl (by decide) rfl ?_
  rw [← uR_self S T]
  refine g_sub [(0, _), (1, _), (2, _), (3, _)] ⟨rfl, rfl, rfl, rfl, trivial⟩ ?_
  exact loop (pN S T) 0 _ (by omega) (fun j hj => absurd hj (Nat.not_lt_zero _))
/-- the sign, as Integer.signum has it, of a small number -/
def sgnZ (z : Int) : Int32 := if z < 0 then -1 else if z = 0 then 0 else 1
theorem sgn_all : ∀ n : Nat, n < 201 → (((Int32.ofInt ((n : Int) - 100)) >>> ((31 : Int32) &&& 31)) ||| (((-(Int32.ofInt ((n : Int) - 100))).toUInt32 >>> ((31 : Int32).toUInt32 &&& Int32.toUInt32 31)).toInt32)) = sgnZ ((n : Int) - 100) := by decide +kernel
