/-! ===== constructors of Cue, Player, Puppet; the class Player ===== -/
theorem nb_and (a b : Nat) : nI a &&& nI b = nI (a &&& b) := by
  apply Int32.toBitVec_inj.mp
  apply BitVec.eq_of_toNat_eq
  simp only [nI, Int32.toBitVec_and, BitVec.toNat_and]
  show (BitVec.ofNat 32 a).toNat &&& (BitVec.ofNat 32 b).toNat = (BitVec.ofNat 32 (a &&& b)).toNat
  simp only [BitVec.toNat_ofNat]
  rw [Nat.and_mod_two_pow]
theorem nb_or (a b : Nat) : nI a ||| nI b = nI (a ||| b) := by
  apply Int32.toBitVec_inj.mp
  apply BitVec.eq_of_toNat_eq
  simp only [nI, Int32.toBitVec_or, BitVec.toNat_or]
  show (BitVec.ofNat 32 a).toNat ||| (BitVec.ofNat 32 b).toNat = (BitVec.ofNat 32 (a ||| b)).toNat
  simp only [BitVec.toNat_ofNat]
  rw [Nat.or_mod_two_pow]
theorem nb_bit : ∀ i, i < 8 → (1 : Int32) <<< (nI i &&& 31) = nI (2 ^ i) := by decide +kernel
theorem nb_test {m i : Nat} (hm : m < 256) (hi : i < 8) : nI (m &&& 2 ^ i) = 0 ↔ m.testBit i = false := by
  have hlt : m &&& 2 ^ i < 256 := Nat.lt_of_le_of_lt Nat.and_le_left hm
  constructor
  · intro h
    cases hb : m.testBit i with
    | false => rfl
    | true =>
      exfalso
      have h2 : m &&& 2 ^ i ≠ 0 := by
        intro h0
        have := congrArg (fun z => z.testBit i) h0
        simp [Nat.testBit_and, hb] at this
      exact nI_ne0 (by omega) (by omega) h
  · intro h
    have h2 : m &&& 2 ^ i = 0 := by
      apply Nat.eq_of_testBit_eq
      intro j
      simp only [Nat.testBit_and, Nat.testBit_two_pow, Nat.zero_testBit]
      by_cases hj : i = j
      · subst hj; simp [h]
      · simp [hj]
    rw [h2]; rfl
theorem m_Cue_init {Γ : GBase} (F : FB Γ) (S : PS) (c a : Nat) (x0 x2 x3 x4 : Int32) (hc : al S c 0) : GMet Γ yX0_init cX0_init 6 ((none : Option FieldType)) 1 0 0 [.ref c, .int x0, .ref a, .int x2, .int x3, .int x4] S (fun r S' => r = none ∧ Fr S S' (moO c) maN ∧ pI S' 0 c = x0 ∧ pP S' 1 c = some a ∧ pI S' 2 c = x2 ∧ pI S' 3 c = x3 ∧ pI S' 4 c = x4 ∧ pI S' 5 c = 0 ∧ pI S' 6 c = 0 ∧ pI S' 7 c = 0 ∧ pI S' 8 c = 0) noX := by
  refine GMet.of (loc0 := [(0, .ref c), (1, .int x0), (2, .ref a), (3, .int x2), (4, .int x3), (5, .int x4)]) F (by decide +kernel) rfl (Nat.le_of_ble_eq_true rfl) (fun X C R Tb nm => ?_)
  refine g_aload_n C dX0_init_0 rfl rfl ?_
  refine g_objInit C tw_2_237 tw_1_28 tw_1_29 dX0_init_1 (by simp [Value.category]) ?_
  refine g_aload_n C dX0_init_4 rfl rfl ?_
  refine g_iconst C dX0_init_5 (v := 0) (by decide) ?_
  refine pu_Cue_isStruck C tw_3_10 (by exact hc) (by first | exact Or.inl rfl | exact Or.inr rfl) dX0_init_6 ?_
  refine g_aload_n C dX0_init_9 rfl rfl ?_
  refine g_iconst C dX0_init_10 (v := 0) (by decide) ?_
  refine pu_Cue_notes C tw_3_11 (by exact hc) dX0_init_11 ?_
  refine g_aload_n C dX0_init_14 rfl rfl ?_
  refine g_iconst C dX0_init_15 (v := 0) (by decide) ?_
  refine pu_Cue_sumLate C tw_3_12 (by exact hc) dX0_init_16 ?_
  refine g_aload_n C dX0_init_19 rfl rfl ?_
  refine g_iconst C dX0_init_20 (v := 0) (by decide) ?_
  refine pu_Cue_sumOff C tw_3_13 (by exact hc) dX0_init_21 ?_
  refine g_aload_n C dX0_init_24 rfl rfl ?_
  refine g_iload_n C dX0_init_25 rfl rfl ?_
  refine pu_Cue_kind C tw_2_238 nm (by exact hc) dX0_init_26 ?_
  refine g_aload_n C dX0_init_29 rfl rfl ?_
  refine g_aload_n C dX0_init_30 rfl rfl ?_
  refine pu_Cue_puppet C tw_3_1 nm (by exact hc) dX0_init_31 ?_
  refine g_aload_n C dX0_init_34 rfl rfl ?_
  refine g_iload_n C dX0_init_35 rfl rfl ?_
  refine pu_Cue_beat C tw_3_3 nm (by exact hc) dX0_init_36 ?_
  refine g_aload_n C dX0_init_39 rfl rfl ?_
  refine g_iload C dX0_init_40 rfl ?_
  refine pu_Cue_place C tw_3_6 nm (by exact hc) dX0_init_42 ?_
  refine g_aload_n C dX0_init_45 rfl rfl ?_
  refine g_iload C dX0_init_46 rfl ?_
  refine pu_Cue_track C tw_3_8 nm (by exact hc) dX0_init_48 ?_
  refine g_vret C R (by omega) (by omega) dX0_init_51 ?_
  refine ⟨rfl, ?_, ?_⟩
  · exact Fr.trO (Fr.trO (Fr.trO (Fr.trO (Fr.trO (Fr.trO (Fr.trO (Fr.trO (fr_uI rfl) (fr_uI rfl)) (fr_uI rfl)) (fr_uI rfl)) (fr_uI rfl)) (fr_uP rfl)) (fr_uI rfl)) (fr_uI rfl)) (fr_uI rfl)
  · simp [pI, uI, pP, uP]
theorem m_Player_init {Γ : GBase} (F : FB Γ) (S : PS) (a : Nat) (x y : Int32) (ha : al S a 2) : GMet Γ yX2_init cX2_init 3 ((none : Option FieldType)) 1 1 1000 [.ref a, .int x, .int y] S (fun r S' => r = none ∧ Fr S S' (moO a) maN ∧ pI S' 64 a = x ∧ pI S' 65 a = y ∧ ∃ T, pP S' 66 a = some T ∧ RowI S' T a 1000) noX := by
  refine GMet.of (loc0 := [(0, .ref a), (1, .int x), (2, .int y)]) F (by decide +kernel) rfl (Nat.le_of_ble_eq_true rfl) (fun X C R Tb nm => ?_)
  refine g_aload_n C dX2_init_0 rfl rfl ?_
  refine g_objInit C tw_2_205 tw_1_28 tw_1_29 dX2_init_1 (by simp [Value.category]) ?_
  refine g_aload_n C dX2_init_4 rfl rfl ?_
  refine g_sipush C dX2_init_5 (v := 1000) (by decide) ?_
  rw [show (1000 : Int32) = nI 1000 from rfl]
  refine g_naI C rfl (by omega) (by omega) (by omega) dX2_init_8 (fun T hT => ?_)
  have h1 : al (nA S T 8 1000) a 2 := ha.nA hT
  refine pu_Player_heldAt C tw_2_210 nm (by exact h1) dX2_init_10 ?_
  refine g_aload_n C dX2_init_13 rfl rfl ?_
  refine g_iload_n C dX2_init_14 rfl rfl ?_
  refine pu_Player_strength C tw_2_206 nm (by exact h1) dX2_init_15 ?_
  refine g_aload_n C dX2_init_18 rfl rfl ?_
  refine g_iload_n C dX2_init_19 rfl rfl ?_
  refine pu_Player_placeAtFirst C tw_2_208 nm (by exact h1) dX2_init_20 ?_
  refine g_own T a ?_
  refine g_vret C R (by omega) (by omega) dX2_init_23 ?_
  refine ⟨rfl, ?_, ?_, ?_, T, ?_, ?_⟩
  · have e1 : Fr (nA S T 8 1000) (uI (uI (uP (nA S T 8 1000) 66 a (some T)) 64 a x) 65 a y) (moO a) maN := Fr.trO (Fr.trO (fr_uP rfl) (fr_uI rfl)) (fr_uI rfl)
    have e2 : Fr S (uI (uI (uP (nA S T 8 1000) 66 a (some T)) 64 a x) 65 a y) (moO a) maN := (fr_newA (mo := moN) (ma := maN) hT).tr e1 (fun _ _ _ h => h.elim False.elim id) (fun _ _ _ h => h.elim id id)
    intro b hb
    obtain ⟨f1, f2, f3, f4, f5, f6⟩ := e2 b hb
    exact ⟨f1, f2, f3, (uW_ne (mem_ne hb hT)).trans f4, f5, f6⟩
  · simp [pI, uI, uW, uP]
  · simp [pI, uI, uW, uP]
  · simp [pP, uI, uW, uP]
  · refine ⟨?_, ?_, uW_q⟩
    · exact (al_nA (S := S) (a := T) (k := 8) (m := 1000))
    · exact nA_Nq (S := S) (q := T) (k := 8) (m := 1000)
/-- a row of sets of puppets -/
def RowH (S : PS) (T : Nat) (hm : Nat → Nat) : Prop := ∀ b, b < 1000 → pR S T b = nI (hm b) ∧ hm b < 256
theorem m_holds {Γ : GBase} (F : FB Γ) (S : PS) (a T p i b : Nat) (hm : Nat → Nat) (ha : al S a 2) (hT : pP S 66 a = some T) (hR : RowI S T a 1000) (hH : RowH S T hm) (hp : al S p 3) (hbit : pI S 97 p = nI (2 ^ i)) (hi : i < 8) (hb : b < 1000) : GMet Γ yX2_holds cX2_holds 3 ((some FieldType.boolean)) 0 0 0 [.ref a, .ref p, .int (nI b)] S (fun r S' => r = some (.int (if (hm b).testBit i then 1 else 0)) ∧ S = S') noX := by
  obtain ⟨h1, h2⟩ := hH b hb
  refine GMet.of (loc0 := [(0, .ref a), (1, .ref p), (2, .int (nI b))]) F (by decide +kernel) rfl (Nat.le_of_ble_eq_true rfl) (fun X C R Tb nm => ?_)
  refine g_aload_n C dX2_holds_0 rfl rfl ?_
  refine ge_Player_heldAt C tw_2_210 (by exact ha) (by exact hT) dX2_holds_1 ?_
  refine g_iload_n C dX2_holds_4 rfl rfl ?_
  refine g_ldI C rfl hR.1 (by rw [hR.2.1]; exact hb) (by omega) h1 dX2_holds_5 ?_
  refine g_aload_n C dX2_holds_6 rfl rfl ?_
  refine ge_Puppet_bit C tw_2_154 (by exact hp) (by exact hbit) dX2_holds_7 ?_
  refine g_iand C dX2_holds_10 ?_
  rw [nb_and]
  refine g_if_eq C dX2_holds_11 (tgt := 18) (by decide) (fun c => ?_) (fun c => ?_)
  · refine g_iconst C dX2_holds_18 (v := 0) (by decide) ?_
    refine g_iret C R rfl (by omega) (by omega) dX2_holds_19 ?_
    have := (nb_test h2 hi).mp c
    refine ⟨?_, rfl⟩
    rw [this]; rfl
  · refine g_iconst C dX2_holds_14 (v := 1) (by decide) ?_
    refine g_goto C dX2_holds_15 (tgt := 19) (by decide) ?_
    refine g_iret C R rfl (by omega) (by omega) dX2_holds_19 ?_
    refine ⟨?_, rfl⟩
    cases ht : (hm b).testBit i with
    | true => rfl
    | false => exact absurd ((nb_test h2 hi).mpr ht) c
theorem m_putDownAll {Γ : GBase} (F : FB Γ) (S : PS) (a T : Nat) (ha : al S a 2) (hT : pP S 66 a = some T) (hR : RowI S T a 1000) : GMet Γ yX2_putDownAll cX2_putDownAll 1 ((none : Option FieldType)) 1 0 0 [.ref a] S (fun r S' => r = none ∧ ∃ row, S' = uR S T row ∧ ∀ b, b < 1000 → row b = 0) noX := by
  refine GMet.of (loc0 := [(0, .ref a)]) F (by decide +kernel) rfl (Nat.le_of_ble_eq_true rfl) (fun X C R Tb nm => ?_)
  refine g_aload_n C dX2_putDownAll_0 rfl rfl ?_
  refine ge_Player_heldAt C tw_2_210 (by exact ha) (by exact hT) dX2_putDownAll_1 ?_
  refine g_iconst C dX2_putDownAll_4 (v := 0) (by decide) ?_
  refine g_callS C gy_J7_fill_53178 tw_1_222 tw_1_223 (by decide) (m_fill F S T 0 hR.1 (by rw [hR.2.1]; omega)) rfl rfl (Nat.le_of_ble_eq_true rfl) (by omega) (by omega) dX2_putDownAll_5 (fun _ _ h9 => h9.elim) ?_
  rintro _ _ ⟨rfl, row, rfl, hrow⟩
  refine g_vret C R (by omega) (by omega) dX2_putDownAll_8 ?_
  exact ⟨rfl, row, rfl, fun b hb => hrow b (by rw [hR.2.1]; exact hb)⟩
theorem m_take {Γ : GBase} (F : FB Γ) (S : PS) (a T t p i b0 b1 : Nat) (hm : Nat → Nat) (ha : al S a 2) (hT : pP S 66 a = some T) (hR : RowI S T a 1000) (hH : RowH S T hm) (hs : StayO S t p (b0, b1)) (hp : al S p 3) (hbit : pI S 97 p = nI (2 ^ i)) (hi : i < 8) : GMet Γ yX2_take cX2_take 3 ((none : Option FieldType)) 0 0 0 [.ref a, .ref t] S (fun r S' => r = none ∧ ∃ row, S' = uR S T row ∧ RowH S' T (fun b => if b0 ≤ b ∧ b < b1 then hm b ||| 2 ^ i else hm b)) noX := by
  obtain ⟨s1, s2, s3, s4, s5, s6⟩ := hs
  simp only at s3 s4 s5 s6
  refine GMet.of (loc0 := [(0, .ref a), (1, .ref t)]) F (by decide +kernel) rfl (Nat.le_of_ble_eq_true rfl) (fun X C R Tb nm => ?_)
  have loop : ∀ (m j : Nat) (row : Nat → Int32), j + m = max b0 b1 → b0 ≤ j → (∀ b, b < 1000 → row b = nI (if b0 ≤ b ∧ b < j then hm b ||| 2 ^ i else hm b)) → GW Γ X (uR S T row) 0 0 5 [(0, .ref a), (1, .ref t), (2, .int (nI j))] [] := by
    intro m
    induction m with
    | zero =>
      intro j row hj h0 hr
      refine g_iload_n C dX2_take_5 rfl rfl ?_
      refine g_aload_n C dX2_take_6 rfl rfl ?_
      refine ge_Stay_end C tw_3_133 (by exact s1) (by exact s4) dX2_take_7 ?_
      refine g_icmp_ge C dX2_take_10 (tgt := 35) (by decide) (fun c => ?_) (fun c => ?_)
      · refine g_vret C R (by omega) (by omega) dX2_take_35 ?_
        refine ⟨rfl, row, rfl, fun b hb => ?_⟩
        rw [uR_q, hr b hb]
        have hlt : (hm b) < 256 := (hH b hb).2
        have h2i : 2 ^ i < 256 := Nat.lt_of_lt_of_le (Nat.pow_lt_pow_right (by decide) hi) (by decide)
        refine ⟨?_, ?_⟩
        · congr 1
          show (if b0 ≤ b ∧ b < j then hm b ||| 2 ^ i else hm b) = (if b0 ≤ b ∧ b < b1 then hm b ||| 2 ^ i else hm b)
          by_cases hc : b0 ≤ b ∧ b < b1
          · rw [if_pos hc, if_pos (by omega)]
          · rw [if_neg hc, if_neg (by omega)]
        · show (if b0 ≤ b ∧ b < b1 then hm b ||| 2 ^ i else hm b) < 256
          split
          · exact Nat.or_lt_two_pow (n := 8) hlt h2i
          · exact hlt
      · exact absurd (nI_le (by omega) (by omega)) c
    | succ m ih =>
      intro j row hj h0 hr
      by_cases hge : b1 ≤ j
      · exfalso; omega
      · refine g_iload_n C dX2_take_5 rfl rfl ?_
        refine g_aload_n C dX2_take_6 rfl rfl ?_
        refine ge_Stay_end C tw_3_133 (by exact s1) (by exact s4) dX2_take_7 ?_
        refine g_icmp_ge C dX2_take_10 (tgt := 35) (by decide) (fun c => ?_) (fun c => ?_)
        · exact absurd c (nI_ge (by omega) (by omega))
        · refine g_aload_n C dX2_take_13 rfl rfl ?_
          refine ge_Player_heldAt C tw_2_210 (by exact ha) (by exact hT) dX2_take_14 ?_
          refine g_iload_n C dX2_take_17 rfl rfl ?_
          refine g_dup2 C dX2_take_18 rfl rfl ?_
          refine g_ldI C rfl (by exact hR.1) (by show j < pN S T; rw [hR.2.1]; omega) (by omega) ((congrFun uR_q j).trans (hr j (by omega))) dX2_take_19 ?_
          refine g_aload_n C dX2_take_20 rfl rfl ?_
          refine ge_Stay_puppet C tw_3_127 (by exact s1) (by exact s2) dX2_take_21 ?_
          refine ge_Puppet_bit C tw_2_154 (by exact hp) (by exact hbit) dX2_take_24 ?_
          refine g_ior C dX2_take_27 ?_
          rw [if_neg (show ¬ (b0 ≤ j ∧ j < j) by omega), nb_or]
          refine g_stI C rfl (by exact hR.1) (by show j < pN S T; rw [hR.2.1]; omega) (by omega) dX2_take_28 ?_
          refine g_iinc C dX2_take_29 rfl (by first | exact inc1 _ | exact rfl) (by decide) rfl ?_
          refine g_goto C dX2_take_32 (tgt := 5) (by decide) ?_
          rw [uR_uR, uR_q]
          refine g_sub [(0, _), (1, _), (2, _)] ⟨rfl, rfl, rfl, trivial⟩ ?_
          refine ih (j + 1) _ (by omega) (by omega) (fun b hb => ?_)
          by_cases hbj : b = j
          · subst hbj
            rw [va_up_self, if_pos (by omega)]
          · rw [va_up_ne _ _ hbj, hr b hb]
            congr 1
            by_cases hc : b0 ≤ b ∧ b < j
            · rw [if_pos hc, if_pos (by omega)]
            · rw [if_neg hc, if_neg (by omega)]
  refine g_aload_n C dX2_take_0 rfl rfl ?_
  refine ge_Stay_begin C tw_3_130 (by exact s1) (by exact s3) dX2_take_1 ?_
  refine g_istore_n C dX2_take_4 rfl (by decide) rfl ?_
  refine g_sub [(0, _), (1, _), (2, _)] ⟨rfl, rfl, rfl, trivial⟩ ?_
  have e0 := loop (max b0 b1 - b0) b0 (pR S T) (by omega) (Nat.le_refl _) (fun b hb => by rw [if_neg (by omega)]; exact (hH b hb).1)
  rw [uR_self] at e0
  exact e0
/-- how many of the first n have P -/
def cntN (P : Nat → Bool) : Nat → Nat
  | 0 => 0
  | n + 1 => cntN P n + (if P n then 1 else 0)
theorem cntN_le (P : Nat → Bool) : ∀ n, cntN P n ≤ n := by
  intro n
  induction n with
  | zero => exact Nat.le_refl _
  | succ n ih => simp only [cntN]; split <;> omega
theorem cntN_congr {P Q : Nat → Bool} : ∀ n, (∀ i, i < n → P i = Q i) → cntN P n = cntN Q n := by
  intro n
  induction n with
  | zero => intro _; rfl
  | succ n ih => intro h; simp only [cntN]; rw [ih (fun i hi => h i (by omega)), h n (by omega)]
theorem m_busyBeats {Γ : GBase} (F : FB Γ) (S : PS) (a T : Nat) (hm : Nat → Nat) (ha : al S a 2) (hT : pP S 66 a = some T) (hR : RowI S T a 1000) (hH : RowH S T hm) : GMet Γ yX2_busyBeats cX2_busyBeats 3 ((some FieldType.int)) 0 0 0 [.ref a] S (fun r S' => r = some (.int (nI (cntN (fun b => hm b != 0) 1000))) ∧ S = S') noX := by
  refine GMet.of (loc0 := [(0, .ref a)]) F (by decide +kernel) rfl (Nat.le_of_ble_eq_true rfl) (fun X C R Tb nm => ?_)
  have loop : ∀ (m j : Nat), j + m = 1000 → GW Γ X S 0 0 4 [(0, .ref a), (1, .int (nI (cntN (fun b => hm b != 0) j))), (2, .int (nI j))] [] := by
    intro m
    induction m with
    | zero =>
      intro j hj
      have e1 : j = 1000 := by omega
      subst e1
      refine g_iload_n C dX2_busyBeats_4 rfl rfl ?_
      refine g_sipush C dX2_busyBeats_5 (v := 1000) (by decide) ?_
      rw [show (1000 : Int32) = nI 1000 from rfl]
      refine g_icmp_ge C dX2_busyBeats_8 (tgt := 29) (by decide) (fun c => ?_) (fun c => ?_)
      · refine g_iload_n C dX2_busyBeats_29 rfl rfl ?_
        refine g_iret C R rfl (by omega) (by omega) dX2_busyBeats_30 ?_
        exact ⟨rfl, rfl⟩
      · exact absurd (nI_le (Nat.le_refl _) (by omega)) c
    | succ m ih =>
      intro j hj
      refine g_iload_n C dX2_busyBeats_4 rfl rfl ?_
      refine g_sipush C dX2_busyBeats_5 (v := 1000) (by decide) ?_
      rw [show (1000 : Int32) = nI 1000 from rfl]
      refine g_icmp_ge C dX2_busyBeats_8 (tgt := 29) (by decide) (fun c => ?_) (fun c => ?_)
      · exact absurd c (nI_ge (by omega) (by omega))
      · refine g_aload_n C dX2_busyBeats_11 rfl rfl ?_
        refine ge_Player_heldAt C tw_2_210 (by exact ha) (by exact hT) dX2_busyBeats_12 ?_
        refine g_iload_n C dX2_busyBeats_15 rfl rfl ?_
        refine g_ldI C rfl hR.1 (by rw [hR.2.1]; omega) (by omega) (hH j (by omega)).1 dX2_busyBeats_16 ?_
        refine g_if_eq C dX2_busyBeats_17 (tgt := 23) (by decide) (fun c2 => ?_) (fun c2 => ?_)
        · refine g_iinc C dX2_busyBeats_23 rfl (by first | exact inc1 _ | exact rfl) (by decide) rfl ?_
          refine g_goto C dX2_busyBeats_26 (tgt := 4) (by decide) ?_
          refine g_sub [(0, _), (1, _), (2, _)] ⟨rfl, rfl, rfl, trivial⟩ ?_
          have h0 : hm j = 0 := by
            rcases Nat.eq_zero_or_pos (hm j) with q | q
            · exact q
            · exact absurd c2 (nI_ne0 q (by have := (hH j (by omega)).2; omega))
          have e2 : cntN (fun b => hm b != 0) (j + 1) = cntN (fun b => hm b != 0) j := by simp [cntN, h0]
          rw [← e2]
          exact ih (j + 1) (by omega)
        · refine g_iinc C dX2_busyBeats_20 rfl (by first | exact inc1 _ | exact rfl) (by decide) rfl ?_
          refine g_iinc C dX2_busyBeats_23 rfl (by first | exact inc1 _ | exact rfl) (by decide) rfl ?_
          refine g_goto C dX2_busyBeats_26 (tgt := 4) (by decide) ?_
          refine g_sub [(0, _), (1, _), (2, _)] ⟨rfl, rfl, rfl, trivial⟩ ?_
          have h0 : hm j ≠ 0 := fun q => c2 (by rw [q]; rfl)
          have e2 : cntN (fun b => hm b != 0) (j + 1) = cntN (fun b => hm b != 0) j + 1 := by simp [cntN, h0]
          rw [← e2]
          exact ih (j + 1) (by omega)
  refine g_iconst C dX2_busyBeats_0 (v := 0) (by decide) ?_
  refine g_istore_n C dX2_busyBeats_1 rfl (by decide) rfl ?_
  refine g_iconst C dX2_busyBeats_2 (v := 0) (by decide) ?_
  refine g_istore_n C dX2_busyBeats_3 rfl (by decide) rfl ?_
  refine g_sub [(0, _), (1, _), (2, _)] ⟨rfl, rfl, rfl, trivial⟩ ?_
  exact loop 1000 0 (by omega)
/-- a puppet's fixed numbers -/
def PupN (S : PS) (a i w h : Nat) : Prop := pI S 96 a = nI i ∧ pI S 97 a = nI (2 ^ i) ∧ pI S 98 a = nI w ∧ pI S 99 a = nI h
/-- a fresh list, given to the field f of a, its owner noted -/
theorem newlist {Γ : GBase} {S S1 : PS} {a q f o k : Nat} (hq : q ∉ pL S) (ha : al S a k) (h1 : S1 = uW (uP (uP (uI (nO S q 7) 224 q 0) 225 q (some (bE Γ))) f a (some q)) q o) : isL Γ S1 q [] ∧ pW S1 q = o ∧ pP S1 f a = some q ∧ al S1 q 7 ∧ Fr S S1 (fun g b => b = a ∧ g = f) maN := by
  subst h1
  have haq : a ≠ q := ha.ne hq
  refine ⟨⟨al_nO, ?_, bE Γ, ?_, Or.inl ⟨rfl, rfl⟩⟩, uW_q, uP_q (S := uP (uI (nO S q 7) 224 q 0) 225 q (some (bE Γ))) (f := f) (a := a) (v := some q), al_nO, ?_⟩
  · simp [pI, uW, uP, uI, nO, nI]
  · have : pP (uP (uP (uI (nO S q 7) 224 q 0) 225 q (some (bE Γ))) f a (some q)) 225 q = pP (uP (uI (nO S q 7) 224 q 0) 225 q (some (bE Γ))) 225 q := uP_ne (Or.inr haq.symm)
    exact this.trans uP_q
  · intro b hb
    have hbq : b ≠ q := mem_ne hb hq
    refine ⟨List.mem_append_left _ hb, va_up_ne _ _ hbq, rfl, uW_ne hbq, fun g hg => ⟨?_, ?_⟩, fun _ => ⟨rfl, rfl, rfl, rfl⟩⟩
    · simp [pI, uW, uP, uI, nO, hbq]
    · have e1 : pP (uP (uP (uI (nO S q 7) 224 q 0) 225 q (some (bE Γ))) f a (some q)) g b = pP (uP (uI (nO S q 7) 224 q 0) 225 q (some (bE Γ))) g b := uP_ne (by
        by_cases hgf : g = f
        · exact Or.inr (fun h => hg ⟨h, hgf⟩)
        · exact Or.inl hgf)
      have e2 : pP (uP (uI (nO S q 7) 224 q 0) 225 q (some (bE Γ))) g b = pP (uI (nO S q 7) 224 q 0) g b := uP_ne (Or.inr hbq)
      refine e1.trans (e2.trans ?_)
      simp [pP, uI, nO, hbq]
/-- a fresh int row, given to the field f of a, its owner noted -/
theorem newrow {S S1 : PS} {a q f o n k : Nat} (hq : q ∉ pL S) (ha : al S a k) (h1 : S1 = uW (uP (nA S q 8 n) f a (some q)) q o) : RowI S1 q o n ∧ pP S1 f a = some q ∧ Fr S S1 (fun g b => b = a ∧ g = f) maN := by
  subst h1
  refine ⟨⟨al_nA (S := S) (a := q) (k := 8) (m := n), nA_Nq (S := S) (q := q) (k := 8) (m := n), uW_q⟩, uP_q (S := nA S q 8 n) (f := f) (a := a) (v := some q), ?_⟩
  intro b hb
  have hbq : b ≠ q := mem_ne hb hq
  refine ⟨List.mem_append_left _ hb, va_up_ne _ _ hbq, va_up_ne _ _ hbq, uW_ne hbq, fun g hg => ⟨rfl, ?_⟩, fun _ => ⟨va_up_ne _ _ hbq, va_up_ne _ _ hbq, va_up_ne _ _ hbq, va_up_ne _ _ hbq⟩⟩
  exact uP_ne (S := nA S q 8 n) (by
    by_cases hgf : g = f
    · exact Or.inr (fun h => hg ⟨h, hgf⟩)
    · exact Or.inl hgf)
theorem Fr.trF {S S1 S2 : PS} {a : Nat} {p q : Nat → Nat → Prop} (h1 : Fr S S1 (moO a) maN) (h2 : Fr S1 S2 p q) (hp : ∀ f b, p f b → b = a) (hq : ∀ o b, ¬ q o b) : Fr S S2 (moO a) maN := h1.tr h2 (fun f b _ h => h.elim id (hp f b)) (fun o b _ h => h.elim id (fun x => hq o b x))
theorem m_Puppet_init {Γ : GBase} (F : FB Γ) (S : PS) (a i w h : Nat) (ha : al S a 3) (hi : i < 8) : GMet Γ yX3_init cX3_init 4 ((none : Option FieldType)) 3 4 2006 [.ref a, .int (nI i), .int (nI w), .int (nI h)] S (fun r S' => r = none ∧ Fr S S' (moO a) maN ∧ PupN S' a i w h ∧ ∃ LS LT TA TB, PupF Γ S' a LS LT TA TB ∧ isL Γ S' LS [] ∧ pW S' LS = 8 * a + 1 ∧ pW S' LT = 8 * a + 2 ∧ PupV Γ S' a LT TA TB []) noX := by
  refine GMet.of (loc0 := [(0, .ref a), (1, .int (nI i)), (2, .int (nI w)), (3, .int (nI h))]) F (by decide +kernel) rfl (Nat.le_of_ble_eq_true rfl) (fun X C R Tb nm => ?_)
  refine g_aload_n C dX3_init_0 rfl rfl ?_
  refine g_objInit C tw_2_148 tw_1_28 tw_1_29 dX3_init_1 (by simp [Value.category]) ?_
  refine g_aload_n C dX3_init_4 rfl rfl ?_
  refine g_new C kd_7 tw_2_149 tw_1_31 tw_1_4 (by omega) (by omega) dX3_init_5 (fun LS hLS => ?_)
  refine g_dup C dX3_init_8 rfl ?_
  refine g_callI C gy_Jx4a65c_init_da8c8 tw_2_150 tw_1_33 rfl rfl (by decide) (m_ALinit F _ LS al_nO) rfl rfl (Nat.le_of_ble_eq_true rfl) (by omega) (by omega) dX3_init_9 ?_
  rintro _ _ ⟨rfl, rfl⟩
  refine pu_Puppet_script C tw_2_159 nm (by exact (ha.nO hLS)) dX3_init_12 ?_
  refine g_own LS (8 * a + 1) ?_
  obtain ⟨a1, a2, a3, a4, a5⟩ := newlist (Γ := Γ) (f := 100) (o := 8 * a + 1) hLS ha rfl
  have hA1 := ha.fr a5
  generalize uW (uP (uP (uI (nO S LS 7) 224 LS 0) 225 LS (some (bE Γ))) 100 a (some LS)) LS (8 * a + 1) = S1 at a1 a2 a3 a4 a5 hA1 ⊢
  refine g_aload_n C dX3_init_15 rfl rfl ?_
  refine g_new C kd_7 tw_2_149 tw_1_31 tw_1_4 (by omega) (by omega) dX3_init_16 (fun LT hLT => ?_)
  refine g_dup C dX3_init_19 rfl ?_
  refine g_callI C gy_Jx4a65c_init_da8c8 tw_2_150 tw_1_33 rfl rfl (by decide) (m_ALinit F _ LT al_nO) rfl rfl (Nat.le_of_ble_eq_true rfl) (by omega) (by omega) dX3_init_20 ?_
  rintro _ _ ⟨rfl, rfl⟩
  refine pu_Puppet_stayList C tw_2_160 nm (by exact (hA1.nO hLT)) dX3_init_23 ?_
  refine g_own LT (8 * a + 2) ?_
  obtain ⟨b1, b2, b3, b4, b5⟩ := newlist (Γ := Γ) (f := 101) (o := 8 * a + 2) hLT hA1 rfl
  have hA2 := hA1.fr b5
  have hST : LS ≠ LT := a4.ne hLT
  generalize uW (uP (uP (uI (nO S1 LT 7) 224 LT 0) 225 LT (some (bE Γ))) 101 a (some LT)) LT (8 * a + 2) = S2 at b1 b2 b3 b4 b5 hA2 ⊢
  refine g_aload_n C dX3_init_26 rfl rfl ?_
  refine g_sipush C dX3_init_27 (v := 1000) (by decide) ?_
  rw [show (1000 : Int32) = nI 1000 from rfl]
  refine g_naI C rfl (by omega) (by omega) (by omega) dX3_init_30 (fun TA hTA => ?_)
  refine pu_Puppet_placeAt C tw_2_162 nm (by exact (hA2.nA hTA)) dX3_init_32 ?_
  refine g_own TA a ?_
  obtain ⟨c1, c2, c3⟩ := newrow (f := 102) (o := a) (n := 1000) hTA hA2 rfl
  have hA3 := hA2.fr c3
  generalize uW (uP (nA S2 TA 8 1000) 102 a (some TA)) TA a = S3 at c1 c2 c3 hA3 ⊢
  refine g_aload_n C dX3_init_35 rfl rfl ?_
  refine g_sipush C dX3_init_36 (v := 1000) (by decide) ?_
  rw [show (1000 : Int32) = nI 1000 from rfl]
  refine g_naI C rfl (by omega) (by omega) (by omega) dX3_init_39 (fun TB hTB => ?_)
  refine pu_Puppet_trackAt C tw_2_164 nm (by exact (hA3.nA hTB)) dX3_init_41 ?_
  refine g_own TB a ?_
  obtain ⟨d1, d2, d3⟩ := newrow (f := 103) (o := a) (n := 1000) hTB hA3 rfl
  have hA4 := hA3.fr d3
  have hTT : TA ≠ TB := c1.1.ne hTB
  generalize uW (uP (nA S3 TB 8 1000) 103 a (some TB)) TB a = S4 at d1 d2 d3 hA4 ⊢
  refine g_aload_n C dX3_init_44 rfl rfl ?_
  refine g_iload_n C dX3_init_45 rfl rfl ?_
  refine pu_Puppet_number C tw_2_152 nm (by exact hA4) dX3_init_46 ?_
  refine g_aload_n C dX3_init_49 rfl rfl ?_
  refine g_iconst C dX3_init_50 (v := 1) (by decide) ?_
  refine g_iload_n C dX3_init_51 rfl rfl ?_
  refine g_ishl C dX3_init_52 ?_
  rw [nb_bit i hi]
  refine pu_Puppet_bit C tw_2_153 nm (by exact hA4) dX3_init_53 ?_
  refine g_aload_n C dX3_init_56 rfl rfl ?_
  refine g_iload_n C dX3_init_57 rfl rfl ?_
  refine pu_Puppet_weight C tw_2_155 nm (by exact hA4) dX3_init_58 ?_
  refine g_aload_n C dX3_init_61 rfl rfl ?_
  refine g_iload_n C dX3_init_62 rfl rfl ?_
  refine pu_Puppet_handsNeeded C tw_2_157 nm (by exact hA4) dX3_init_63 ?_
  have e4 : Fr S4 (uI (uI (uI (uI S4 96 a (nI i)) 97 a (nI (2 ^ i))) 98 a (nI w)) 99 a (nI h)) (fun g b => b = a ∧ g < 100) maN := by
    have t : ∀ {X Y Z : PS}, Fr X Y (fun g b => b = a ∧ g < 100) maN → Fr Y Z (fun g b => b = a ∧ g < 100) maN → Fr X Z (fun g b => b = a ∧ g < 100) maN := fun h1 h2 => h1.tr h2 (fun _ _ _ h => h.elim id id) (fun _ _ _ h => h.elim id id)
    exact t (t (t (fr_uI ⟨rfl, by decide⟩) (fr_uI ⟨rfl, by decide⟩)) (fr_uI ⟨rfl, by decide⟩)) (fr_uI ⟨rfl, by decide⟩)
  have n4 : PupN (uI (uI (uI (uI S4 96 a (nI i)) 97 a (nI (2 ^ i))) 98 a (nI w)) 99 a (nI h)) a i w h := by simp [PupN, pI, uI]
  have hA5 := hA4.fr e4
  generalize uI (uI (uI (uI S4 96 a (nI i)) 97 a (nI (2 ^ i))) 98 a (nI w)) 99 a (nI h) = S5 at e4 n4 hA5 ⊢
  have p4 : ∀ {g x}, 100 ≤ g → pP S4 g a = some x → pP S5 g a = some x := fun {g x} hg hx => ((e4 a hA4.1).2.2.2.2.1 g (fun q => absurd q.2 (by omega))).2.trans hx
  have p3 : ∀ {g x}, g ≠ 103 → pP S3 g a = some x → pP S4 g a = some x := fun {g x} hg hx => ((d3 a hA3.1).2.2.2.2.1 g (fun q => absurd q.2 hg)).2.trans hx
  have p2 : ∀ {g x}, g ≠ 102 → pP S2 g a = some x → pP S3 g a = some x := fun {g x} hg hx => ((c3 a hA2.1).2.2.2.2.1 g (fun q => absurd q.2 hg)).2.trans hx
  have p1 : ∀ {g x}, g ≠ 101 → pP S1 g a = some x → pP S2 g a = some x := fun {g x} hg hx => ((b5 a hA1.1).2.2.2.2.1 g (fun q => absurd q.2 hg)).2.trans hx
  have hTA5 : pP S5 102 a = some TA := p4 (by decide) (p3 (by decide) c2)
  have hTB5 : pP S5 103 a = some TB := p4 (by decide) d2
  have hLS5 : pP S5 100 a = some LS := p4 (by decide) (p3 (by decide) (p2 (by decide) (p1 (by decide) a3)))
  have hLT5 : pP S5 101 a = some LT := p4 (by decide) (p3 (by decide) (p2 (by decide) b3))
  have rA5 : RowI S5 TA a 1000 := (c1.fr d3).fr e4
  have rB5 : RowI S5 TB a 1000 := d1.fr e4
  refine g_aload_n C dX3_init_66 rfl rfl ?_
  refine ge_Puppet_placeAt C tw_2_162 (by exact hA5) (by exact hTA5) dX3_init_67 ?_
  refine g_iconst C dX3_init_70 (v := -1) (by decide) ?_
  refine g_callS C gy_J7_fill_53178 tw_2_151 tw_1_223 (by decide) (m_fill F S5 TA (-1) rA5.1 (by rw [rA5.2.1]; omega)) rfl rfl (Nat.le_of_ble_eq_true rfl) (by omega) (by omega) dX3_init_71 (fun _ _ h9 => h9.elim) ?_
  rintro _ _ ⟨rfl, rowA, rfl, hrA⟩
  refine g_aload_n C dX3_init_74 rfl rfl ?_
  refine ge_Puppet_trackAt C tw_2_164 (by exact hA5) (by exact hTB5) dX3_init_75 ?_
  refine g_iconst C dX3_init_78 (v := -1) (by decide) ?_
  refine g_callS C gy_J7_fill_53178 tw_2_151 tw_1_223 (by decide) (m_fill F _ TB (-1) rB5.1 (by show pN S5 TB ≤ _; rw [rB5.2.1]; omega)) rfl rfl (Nat.le_of_ble_eq_true rfl) (by omega) (by omega) dX3_init_79 (fun _ _ h9 => h9.elim) ?_
  rintro _ _ ⟨rfl, rowB, rfl, hrB⟩
  refine g_vret C R (by omega) (by omega) dX3_init_82 ?_
  have f5 : Fr S5 (uR (uR S5 TA rowA) TB rowB) moN (ma2 TA TB) := (fr_uR (mo := moN) (ma := ma2 TA TB) (Or.inl rfl)).tr (fr_uR (mo := moN) (ma := ma2 TA TB) (Or.inr rfl)) (fun _ _ _ h => h.elim id id) (fun _ _ _ h => h.elim id id)
  have hk12 : ∀ E, al S5 E 12 → ∀ o, ¬ ma2 TA TB o E := fun E hE o h => by
    rcases h with h | h
    · exact (hE.kne rA5.1 (by decide)) h
    · exact (hE.kne rB5.1 (by decide)) h
  have aL : isL Γ S5 LS [] := (((a1.fr b5 (fun q => hST.symm (by have := q.1; omega)) (fun q => absurd q.2 (by decide)) (fun _ _ _ => id)).fr c3 (fun q => absurd q.2 (by decide)) (fun q => absurd q.2 (by decide)) (fun _ _ _ => id)).fr d3 (fun q => absurd q.2 (by decide)) (fun q => absurd q.2 (by decide)) (fun _ _ _ => id)).fr e4 (fun q => absurd q.2 (by decide)) (fun q => absurd q.2 (by decide)) (fun _ _ _ => id)
  have bL : isL Γ S5 LT [] := ((b1.fr c3 (fun q => absurd q.2 (by decide)) (fun q => absurd q.2 (by decide)) (fun _ _ _ => id)).fr d3 (fun q => absurd q.2 (by decide)) (fun q => absurd q.2 (by decide)) (fun _ _ _ => id)).fr e4 (fun q => absurd q.2 (by decide)) (fun q => absurd q.2 (by decide)) (fun _ _ _ => id)
  have wS : pW S5 LS = 8 * a + 1 := (e4 LS (((a4.fr b5).fr c3).fr d3).1).2.2.2.1.trans ((d3 LS ((a4.fr b5).fr c3).1).2.2.2.1.trans ((c3 LS (a4.fr b5).1).2.2.2.1.trans ((b5 LS a4.1).2.2.2.1.trans a2)))
  have wT : pW S5 LT = 8 * a + 2 := (e4 LT ((b4.fr c3).fr d3).1).2.2.2.1.trans ((d3 LT (b4.fr c3).1).2.2.2.1.trans ((c3 LT b4.1).2.2.2.1.trans b2))
  have FA : Fr S S5 (moO a) maN := (((((Fr.rf (S := S) (mo := moO a) (ma := maN)).trF a5 (fun _ _ q => q.1) (fun _ _ => id)).trF b5 (fun _ _ q => q.1) (fun _ _ => id)).trF c3 (fun _ _ q => q.1) (fun _ _ => id)).trF d3 (fun _ _ q => q.1) (fun _ _ => id)).trF e4 (fun _ _ q => q.1) (fun _ _ => id)
  have hnewA : TA ∉ pL S := fun q => hTA (b5 TA (a5 TA q).1).1
  have hnewB : TB ∉ pL S := fun q => hTB (c3 TB (b5 TB (a5 TB q).1).1).1
  refine ⟨rfl, FA.tr f5 (fun _ _ _ q => q.elim id False.elim) (fun o b hb q => q.elim id (fun q2 => by
    rcases q2 with q2 | q2
    · exact absurd q2 (mem_ne hb hnewA)
    · exact absurd q2 (mem_ne hb hnewB))), n4, LS, LT, TA, TB, ⟨hA5, hLS5, hLT5, hTA5, hTB5, rA5.fr f5, rB5.fr f5, hTT, hST, aL.1, bL.1⟩, aL.fr f5 id id (fun E hE _ => hk12 E hE _), wS, wT, ⟨[], bL.fr f5 id id (fun E hE _ => hk12 E hE _), rfl, List.nodup_nil, fun i t q h => nomatch h⟩, fun b hb => ?_⟩
  rw [uR_ne hTT, uR_q, uR_q]
  rw [hrA b (by rw [rA5.2.1]; exact hb), hrB b (by show b < pN S5 TB; rw [rB5.2.1]; exact hb)]
  exact ⟨rfl, rfl⟩
