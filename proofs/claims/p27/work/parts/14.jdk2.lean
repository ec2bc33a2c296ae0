/-! ===== the JDK's methods that make and change lists ===== -/
theorem nA_K {S : PS} {q k m b : Nat} (h : b ≠ q) : pK (nA S q k m) b = pK S b := va_up_ne _ _ h
theorem nA_N {S : PS} {q k m b : Nat} (h : b ≠ q) : pN (nA S q k m) b = pN S b := va_up_ne _ _ h
theorem nA_Nq {S : PS} {q k m : Nat} : pN (nA S q k m) q = m := va_up_self _ _ _
theorem nA_RP {S : PS} {q k m b : Nat} (h : b ≠ q) : pRP (nA S q k m) b = pRP S b := va_up_ne _ _ h
theorem nA_RPq {S : PS} {q k m : Nat} : pRP (nA S q k m) q = fun _ => none := va_up_self _ _ _
theorem uRP_q {S : PS} {q : Nat} {r : Nat → Option Nat} : pRP (uRP S q r) q = r := va_up_self _ _ _
theorem uRP_ne {S : PS} {q b : Nat} {r : Nat → Option Nat} (h : b ≠ q) : pRP (uRP S q r) b = pRP S b := va_up_ne _ _ h
theorem uW_q {S : PS} {q o : Nat} : pW (uW S q o) q = o := va_up_self _ _ _
theorem uW_ne {S : PS} {q o b : Nat} (h : b ≠ q) : pW (uW S q o) b = pW S b := va_up_ne _ _ h
theorem uP_q {S : PS} {f a : Nat} {v : Option Nat} : pP (uP S f a v) f a = v := by simp [pP, uP]
theorem uI_q {S : PS} {f a : Nat} {v : Int32} : pI (uI S f a v) f a = v := by simp [pI, uI]
theorem uI_ne {S : PS} {f a g b : Nat} {v : Int32} (h : g ≠ f ∨ b ≠ a) : pI (uI S f a v) g b = pI S g b := by
  simp only [pI, uI]
  rcases h with h | h
  · rw [if_neg h]
  · rw [if_neg h]; simp
theorem uP_ne {S : PS} {f a g b : Nat} {v : Option Nat} (h : g ≠ f ∨ b ≠ a) : pP (uP S f a v) g b = pP S g b := by
  simp only [pP, uP]
  rcases h with h | h
  · rw [if_neg h]
  · rw [if_neg h]; simp
theorem al.uI {S : PS} {f b a k : Nat} {v : Int32} (h : al S a k) : al (uI S f b v) a k := h
theorem al.uP {S : PS} {f b a k : Nat} {v : Option Nat} (h : al S a k) : al (uP S f b v) a k := h
theorem al.uR {S : PS} {b a k : Nat} {r : Nat → Int32} (h : al S a k) : al (uR S b r) a k := h
theorem al.uRP {S : PS} {b a k : Nat} {r : Nat → Option Nat} (h : al S a k) : al (uRP S b r) a k := h
theorem al.uW {S : PS} {b a k o : Nat} (h : al S a k) : al (uW S b o) a k := h
/-- put in at a place, taken out of a place -/
def insL (xs : List Nat) (j v : Nat) : List Nat := xs.take j ++ v :: xs.drop j
def remL (xs : List Nat) (j : Nat) : List Nat := xs.take j ++ xs.drop (j + 1)
theorem insL_len {xs : List Nat} {j v : Nat} (h : j ≤ xs.length) : (insL xs j v).length = xs.length + 1 := by simp [insL]; omega
theorem remL_len {xs : List Nat} {j : Nat} (h : j < xs.length) : (remL xs j).length = xs.length - 1 := by simp [remL]; omega
theorem insL_get {xs : List Nat} {j v : Nat} (h : j ≤ xs.length) (i : Nat) : (insL xs j v)[i]? = if i < j then xs[i]? else if i = j then some v else xs[i - 1]? := by
  unfold insL
  by_cases h1 : i < j
  · rw [if_pos h1, List.getElem?_append_left (by simp; omega), List.getElem?_take, if_pos h1]
  · rw [if_neg h1, List.getElem?_append_right (by simp; omega)]
    have e : (xs.take j).length = j := by simp; omega
    rw [e]
    by_cases h2 : i = j
    · rw [if_pos h2, h2]; simp
    · rw [if_neg h2]
      obtain ⟨m, rfl⟩ : ∃ m, i = j + m + 1 := ⟨i - j - 1, by omega⟩
      rw [show j + m + 1 - j = m + 1 by omega, List.getElem?_cons_succ, List.getElem?_drop]
      rfl
theorem remL_get {xs : List Nat} {j : Nat} (h : j < xs.length) (i : Nat) : (remL xs j)[i]? = if i < j then xs[i]? else xs[i + 1]? := by
  unfold remL
  have e : (xs.take j).length = j := by simp; omega
  by_cases h1 : i < j
  · rw [if_pos h1, List.getElem?_append_left (by omega), List.getElem?_take, if_pos h1]
  · rw [if_neg h1, List.getElem?_append_right (by omega), e, List.getElem?_drop]
    congr 1; omega
theorem m_newLength {Γ : GBase} (F : FB Γ) (S : PS) (x y z : Nat) (hx : x ≤ 1000) (hy : y ≤ 1000) (hz : z ≤ 1000) (h0 : 0 < x) : GMet Γ yJ8_newLength_cabcc cJ8_newLength_cabcc 4 ((some FieldType.int)) 0 0 0 [.int (nI x), .int (nI y), .int (nI z)] S (fun v S' => v = some (.int (nI (x + max y z))) ∧ S = S') noX := by
  have e : (if nI y < nI z then nI z else nI y) = nI (max y z) := by
    by_cases h : y < z
    · rw [if_pos (nI_lt h (by omega)), Nat.max_eq_right (by omega)]
    · rw [if_neg (nI_nlt (by omega) (by omega)), Nat.max_eq_left (by omega)]
  refine GMet.of (loc0 := [(0, .int (nI x)), (1, .int (nI y)), (2, .int (nI z))]) F (by decide +kernel) rfl (Nat.le_of_ble_eq_true rfl) (fun X C R Tb nm => ?_)
  refine g_iload_n C dJ8_newLength_cabcc_0 rfl rfl ?_
  refine g_iload_n C dJ8_newLength_cabcc_1 rfl rfl ?_
  refine g_iload_n C dJ8_newLength_cabcc_2 rfl rfl ?_
  refine g_max C tw_2_16 (by simp [Value.category]) (by omega) (by omega) dJ8_newLength_cabcc_3 ?_
  rw [e]
  refine g_iadd C dJ8_newLength_cabcc_6 ?_
  refine g_istore_n C dJ8_newLength_cabcc_7 rfl (by decide) rfl ?_
  refine g_iconst C dJ8_newLength_cabcc_8 (v := 0) (by decide) ?_
  refine g_iload_n C dJ8_newLength_cabcc_9 rfl rfl ?_
  rw [nI_add]
  refine g_icmp_ge C dJ8_newLength_cabcc_10 (tgt := 21) (by decide) (fun c => ?_) (fun c => ?_)
  · exact absurd c (nI_nle (by omega) (by omega))
  · refine g_iload_n C dJ8_newLength_cabcc_13 rfl rfl ?_
    refine g_ldc C (v := 2147483639) tw_2_19 dJ8_newLength_cabcc_14 ?_
    refine g_icmp_gt C dJ8_newLength_cabcc_16 (tgt := 21) (by decide) (fun c2 => ?_) (fun c2 => ?_)
    · exfalso
      rw [Int32.lt_iff_toInt_lt, nI_toInt (by omega)] at c2
      have e9 : (2147483639 : Int32).toInt = 2147483639 := by decide +kernel
      omega
    · refine g_iload_n C dJ8_newLength_cabcc_19 rfl rfl ?_
      refine g_iret C R rfl (by omega) (by omega) dJ8_newLength_cabcc_20 ?_
      exact ⟨rfl, rfl⟩
theorem m_copyOf3 {Γ : GBase} (F : FB Γ) (S : PS) (E m mi kv : Nat) (hM : va_Mi "[Ljava/lang/Object;" mi (bS Γ)) (hE : al S E 12) (h1 : pN S E ≤ m) (hm : m ≤ 100) (h8 : kv < 8) (hel : ∀ j, j < pN S E → ∀ v, pRP S E j = some v → al S v kv) : GMet Γ yJ7_copyOf_6403c cJ7_copyOf_6403c 4 ((some (FieldType.array (FieldType.object "java/lang/Object")))) 0 1 100 [.ref E, .int (nI m), .ref mi] S (fun v S' => ∃ q row, v = some (.ref q) ∧ q ∉ pL S ∧ (∀ j, j < pN S E → row j = pRP S E j) ∧ S' = uRP (nA S q 12 m) q row) noX := by
  refine GMet.of (loc0 := [(0, .ref E), (1, .int (nI m)), (2, .ref mi)]) F (by decide +kernel) rfl (Nat.le_of_ble_eq_true rfl) (fun X C R Tb nm => ?_)
  refine g_aload_n C dJ7_copyOf_6403c_0 rfl rfl ?_
  refine g_ldcM C hM tw_2_43 dJ7_copyOf_6403c_1 ?_
  refine g_acmp_ne C dJ7_copyOf_6403c_3 (tgt := 13) (by decide) (fun c => ?_) (fun c => ?_)
  · exact absurd rfl c
  · refine g_iload_n C dJ7_copyOf_6403c_6 rfl rfl ?_
    refine g_naQ C tw_2_45 rfl (by omega) (by omega) (by omega) dJ7_copyOf_6403c_7 (fun q hq => ?_)
    refine g_goto C dJ7_copyOf_6403c_10 (tgt := 24) (by decide) ?_
    have hE1 := hE.nA (k := 12) (m := m) hq
    have hEq := hE.ne hq
    refine g_astore_n C dJ7_copyOf_6403c_24 rfl (by decide) rfl ?_
    refine g_aload_n C dJ7_copyOf_6403c_25 rfl rfl ?_
    refine g_iconst C dJ7_copyOf_6403c_26 (v := 0) (by decide) ?_
    refine g_aload_n C dJ7_copyOf_6403c_27 rfl rfl ?_
    refine g_iconst C dJ7_copyOf_6403c_28 (v := 0) (by decide) ?_
    refine g_aload_n C dJ7_copyOf_6403c_29 rfl rfl ?_
    refine g_alen C (by decide) hE1 dJ7_copyOf_6403c_30 ?_
    refine g_iload_n C dJ7_copyOf_6403c_31 rfl rfl ?_
    have emin : (if nI m < nI (pN (nA S q 12 m) E) then nI m else nI (pN (nA S q 12 m) E)) = nI (pN S E) := by
      rw [nA_N hEq, if_neg (nI_nlt h1 (by omega))]
    refine g_min C tw_2_46 tw_2_47 tw_2_48 tw_1_13 (by simp [Value.category]) (by omega) (by omega) dJ7_copyOf_6403c_32 ?_
    rw [emin]
    refine g_copyQ C tw_2_49 (sp := 0) (dp := 0) (m := pN S E) (kv := kv) rfl rfl rfl hE1 al_nA (by rw [nA_N hEq]; omega) (by rw [nA_Nq]; omega) (by rw [nA_N hEq, nA_Nq]; omega) h8 (fun i hi v hv => by rw [nA_RP hEq] at hv; exact (hel _ (by omega) v hv).nA hq) (by simp [Value.category]) dJ7_copyOf_6403c_35 ?_
    refine g_aload_n C dJ7_copyOf_6403c_38 rfl rfl ?_
    refine g_aret C R (Or.inr ⟨_, rfl⟩) (by omega) (by omega) dJ7_copyOf_6403c_39 ?_
    refine ⟨q, _, rfl, hq, fun j hj => ?_, rfl⟩
    rw [pk_cpy_in (by omega) (by omega), nA_RP hEq]
    congr 1; omega
theorem m_copyOf2 {Γ : GBase} (F : FB Γ) (S : PS) (E m kv : Nat) (hE : al S E 12) (h1 : pN S E ≤ m) (hm : m ≤ 100) (h8 : kv < 8) (hel : ∀ j, j < pN S E → ∀ v, pRP S E j = some v → al S v kv) : GMet Γ yJ7_copyOf_1904c cJ7_copyOf_1904c 2 ((some (FieldType.array (FieldType.object "java/lang/Object")))) 1 1 100 [.ref E, .int (nI m)] S (fun v S' => ∃ q row, v = some (.ref q) ∧ q ∉ pL S ∧ (∀ j, j < pN S E → row j = pRP S E j) ∧ S' = uRP (nA S q 12 m) q row) noX := by
  obtain ⟨mi, hM⟩ := va_Mi.of (flat_of_before _ F.2.2.2.1 (.isRef (.mirror "[Ljava/lang/Object;")) (by decide +kernel))
  refine GMet.of (loc0 := [(0, .ref E), (1, .int (nI m))]) F (by decide +kernel) rfl (Nat.le_of_ble_eq_true rfl) (fun X C R Tb nm => ?_)
  refine g_aload_n C dJ7_copyOf_1904c_0 rfl rfl ?_
  refine g_iload_n C dJ7_copyOf_1904c_1 rfl rfl ?_
  refine g_aload_n C dJ7_copyOf_1904c_2 rfl rfl ?_
  refine g_getClassQ C hM hE tw_2_26 (by simp [Value.category]) dJ7_copyOf_1904c_3 ?_
  refine g_callS C gy_J7_copyOf_6403c tw_2_40 tw_2_41 (by decide) (m_copyOf3 F S E m mi kv hM hE h1 hm h8 hel) rfl rfl (Nat.le_of_ble_eq_true rfl) (by omega) (by omega) dJ7_copyOf_1904c_6 (fun _ _ h9 => h9.elim) ?_
  rintro _ _ ⟨q, row, rfl, hq, hr, rfl⟩
  refine g_aret C R (Or.inr ⟨_, rfl⟩) (by omega) (by omega) dJ7_copyOf_1904c_9 ?_
  exact ⟨q, row, rfl, hq, hr, rfl⟩
theorem m_grow1 {Γ : GBase} (F : FB Γ) (S : PS) (a kv : Nat) (xs : List Nat) (hL : isL Γ S a xs) (hfull : ∀ E, pP S 225 a = some E → al S E 12 → pN S E = xs.length) (h60 : xs.length ≤ 60) (h8 : kv < 8) (hel : ∀ x, x ∈ xs → al S x kv) : GMet Γ yJx4a65c_grow_92f84 cJx4a65c_grow_92f84 4 ((some (FieldType.array (FieldType.object "java/lang/Object")))) 2 1 100 [.ref a, .int (nI (xs.length + 1))] S (fun v S' => ∃ q N row, v = some (.ref q) ∧ q ∉ pL S ∧ xs.length < N ∧ N ≤ 100 ∧ (∀ j, j < xs.length → row j = xs[j]?) ∧ S' = uP (uRP (nA S q 12 N) q row) 225 a (some q)) noX := by
  obtain ⟨ha, hs, E, hE, hc | ⟨c1, c2, c3, c4, c5, c6⟩⟩ := hL
  · obtain ⟨rfl, rfl⟩ := hc
    refine GMet.of (loc0 := [(0, .ref a), (1, .int (nI 1))]) F (by decide +kernel) rfl (Nat.le_of_ble_eq_true rfl) (fun X C R Tb nm => ?_)
    refine g_aload_n C dJx4a65c_grow_92f84_0 rfl rfl ?_
    refine ge_AL_elementData C tw_1_44 (by exact ha) (by exact hE) dJx4a65c_grow_92f84_1 ?_
    refine g_alenE0 C dJx4a65c_grow_92f84_4 ?_
    refine g_istore_n C dJx4a65c_grow_92f84_5 rfl (by decide) rfl ?_
    refine g_iload_n C dJx4a65c_grow_92f84_6 rfl rfl ?_
    refine g_if_gt C dJx4a65c_grow_92f84_7 (tgt := 20) (by decide) (fun c => ?_) (fun c => ?_)
    · exact absurd c (by decide)
    · refine g_aload_n C dJx4a65c_grow_92f84_10 rfl rfl ?_
      refine ge_AL_elementData C tw_1_44 (by exact ha) (by exact hE) dJx4a65c_grow_92f84_11 ?_
      refine g_getE0 C tw_1_42 dJx4a65c_grow_92f84_14 ?_
      refine g_acmp_eq C dJx4a65c_grow_92f84_17 (tgt := 45) (by decide) (fun c2 => ?_) (fun c2 => ?_)
      · refine g_aload_n C dJx4a65c_grow_92f84_45 rfl rfl ?_
        refine g_bipush C dJx4a65c_grow_92f84_46 (v := 10) (by decide) ?_
        refine g_iload_n C dJx4a65c_grow_92f84_48 rfl rfl ?_
        refine g_max C tw_2_52 (by simp [Value.category]) (by omega) (by omega) dJx4a65c_grow_92f84_49 ?_
        rw [show (if (10 : Int32) < nI 1 then nI 1 else 10) = nI 10 by decide]
        refine g_naQ C tw_2_53 rfl (by omega) (by omega) (by omega) dJx4a65c_grow_92f84_52 (fun q hq => ?_)
        refine g_dup_x1 C dJx4a65c_grow_92f84_55 rfl rfl ?_
        refine pu_AL_elementData C tw_1_44 (by exact ha.nA hq) dJx4a65c_grow_92f84_56 ?_
        refine g_aret C R (Or.inr ⟨_, rfl⟩) (by omega) (by omega) dJx4a65c_grow_92f84_59 ?_
        refine ⟨q, 10, fun _ => none, rfl, hq, by simp, by omega, fun j hj => absurd hj (by simp), ?_⟩
        have e := uRP_self (nA S q 12 10) q
        rw [nA_RPq] at e
        rw [e]
      · exact absurd rfl c2
  · have hN : pN S E = xs.length := hfull E hE c1
    refine GMet.of (loc0 := [(0, .ref a), (1, .int (nI (xs.length + 1)))]) F (by decide +kernel) rfl (Nat.le_of_ble_eq_true rfl) (fun X C R Tb nm => ?_)
    refine g_aload_n C dJx4a65c_grow_92f84_0 rfl rfl ?_
    refine ge_AL_elementData C tw_1_44 (by exact ha) (by exact hE) dJx4a65c_grow_92f84_1 ?_
    refine g_alen C (by decide) c1 dJx4a65c_grow_92f84_4 ?_
    refine g_istore_n C dJx4a65c_grow_92f84_5 rfl (by decide) rfl ?_
    refine g_iload_n C dJx4a65c_grow_92f84_6 rfl rfl ?_
    rw [hN]
    refine g_if_gt C dJx4a65c_grow_92f84_7 (tgt := 20) (by decide) (fun c => ?_) (fun c => ?_)
    · refine g_iload_n C dJx4a65c_grow_92f84_20 rfl rfl ?_
      refine g_iload_n C dJx4a65c_grow_92f84_21 rfl rfl ?_
      refine g_iload_n C dJx4a65c_grow_92f84_22 rfl rfl ?_
      refine g_isub C dJx4a65c_grow_92f84_23 ?_
      refine g_iload_n C dJx4a65c_grow_92f84_24 rfl rfl ?_
      refine g_iconst C dJx4a65c_grow_92f84_25 (v := 1) (by decide) ?_
      refine g_ishr C dJx4a65c_grow_92f84_26 ?_
      rw [show nI (xs.length + 1) - nI xs.length = nI 1 by rw [pk_sub (by omega)]; congr 1; omega, pk_shrN (by omega) _ 1 (by decide)]
      refine g_callS C gy_J8_newLength_cabcc tw_2_13 tw_2_14 (by decide) (m_newLength F S xs.length 1 (xs.length / 2 ^ 1) (by omega) (by omega) (by omega) (by omega)) rfl rfl (Nat.le_of_ble_eq_true rfl) (by omega) (by omega) dJx4a65c_grow_92f84_27 (fun _ _ h9 => h9.elim) ?_
      rintro _ _ ⟨rfl, rfl⟩
      refine g_istore_n C dJx4a65c_grow_92f84_30 rfl (by decide) rfl ?_
      refine g_aload_n C dJx4a65c_grow_92f84_31 rfl rfl ?_
      refine g_aload_n C dJx4a65c_grow_92f84_32 rfl rfl ?_
      refine ge_AL_elementData C tw_1_44 (by exact ha) (by exact hE) dJx4a65c_grow_92f84_33 ?_
      refine g_iload_n C dJx4a65c_grow_92f84_36 rfl rfl ?_
      have hb : pN S E ≤ xs.length + max 1 (xs.length / 2 ^ 1) := by omega
      have hb2 : xs.length + max 1 (xs.length / 2 ^ 1) ≤ 100 := by omega
      refine g_callS C gy_J7_copyOf_1904c tw_2_23 tw_2_24 (by decide) (m_copyOf2 F S E (xs.length + max 1 (xs.length / 2 ^ 1)) kv c1 hb hb2 h8 (fun j hj v hv => hel v (by rw [c6 j (by omega)] at hv; exact List.mem_of_getElem? hv))) rfl rfl (Nat.le_of_ble_eq_true rfl) (by omega) (by omega) dJx4a65c_grow_92f84_37 (fun _ _ h9 => h9.elim) ?_
      rintro _ _ ⟨q, row, rfl, hq, hr, rfl⟩
      refine g_dup_x1 C dJx4a65c_grow_92f84_40 rfl rfl ?_
      refine pu_AL_elementData C tw_1_44 (by exact (ha.nA hq).uRP) dJx4a65c_grow_92f84_41 ?_
      refine g_aret C R (Or.inr ⟨_, rfl⟩) (by omega) (by omega) dJx4a65c_grow_92f84_44 ?_
      refine ⟨q, _, row, rfl, hq, by omega, hb2, fun j hj => ?_, rfl⟩
      rw [hr j (by omega), c6 j hj]
    · exact absurd c (fun h => h (by have := nI_lt (a := 0) (b := xs.length) (by omega) (by omega); exact this))
theorem m_grow {Γ : GBase} (F : FB Γ) (S : PS) (a kv : Nat) (xs : List Nat) (hL : isL Γ S a xs) (hfull : ∀ E, pP S 225 a = some E → al S E 12 → pN S E = xs.length) (h60 : xs.length ≤ 60) (h8 : kv < 8) (hel : ∀ x, x ∈ xs → al S x kv) : GMet Γ yJx4a65c_grow_d5877 cJx4a65c_grow_d5877 1 ((some (FieldType.array (FieldType.object "java/lang/Object")))) 3 1 100 [.ref a] S (fun v S' => ∃ q N row, v = some (.ref q) ∧ q ∉ pL S ∧ xs.length < N ∧ N ≤ 100 ∧ (∀ j, j < xs.length → row j = xs[j]?) ∧ S' = uP (uRP (nA S q 12 N) q row) 225 a (some q)) noX := by
  refine GMet.of (loc0 := [(0, .ref a)]) F (by decide +kernel) rfl (Nat.le_of_ble_eq_true rfl) (fun X C R Tb nm => ?_)
  refine g_aload_n C dJx4a65c_grow_d5877_0 rfl rfl ?_
  refine g_aload_n C dJx4a65c_grow_d5877_1 rfl rfl ?_
  refine ge_AL_size C tw_1_45 (by exact hL.1) (by exact hL.2.1) dJx4a65c_grow_d5877_2 ?_
  refine g_iconst C dJx4a65c_grow_d5877_5 (v := 1) (by decide) ?_
  refine g_iadd C dJx4a65c_grow_d5877_6 ?_
  rw [nI_1]
  refine g_callV C gy_Jx4a65c_grow_92f84 tw_2_9 tw_2_11 ts_7 (by decide) (kk := 7) rfl rfl (by exact hL.1) (m_grow1 F S a kv xs hL hfull h60 h8 hel) rfl rfl (Nat.le_of_ble_eq_true rfl) (by omega) (by omega) dJx4a65c_grow_d5877_7 (fun _ _ h9 => h9.elim) ?_
  rintro _ _ ⟨q, N, row, rfl, hq, h1, h2, h3, rfl⟩
  refine g_aret C R (Or.inr ⟨_, rfl⟩) (by omega) (by omega) dJx4a65c_grow_d5877_10 ?_
  exact ⟨q, N, row, rfl, hq, h1, h2, h3, rfl⟩
