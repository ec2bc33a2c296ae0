def spClash (B : BT) (y z : Int32) (k : Nat) (B' : BT) (v : Int32) : Prop := (k = 1 ∧ B' = B ∧ (¬ inR y (tN B) ∨ ¬ inR z (tN B))) ∨ (k = 2 ∧ B' = B ∧ inR y (tN B) ∧ y = z) ∨ (k = 0 ∧ B' = B ∧ ∃ i j, i < tN B ∧ y = nI i ∧ j < tN B ∧ z = nI j ∧ i ≠ j ∧ v = zO (fcB B i j))
theorem md_clash {Γ : GBase} (F : FB Γ) (S : PS) (m : Nat) (y z : Int32) (rr : Nat → Nat) (B : BT) (hI : MdI S m rr B) : GMet Γ yX6_clash cX6_clash 3 ((some FieldType.int)) 6 1 8 [.ref m, .int y, .int z] S (fun r S' => MdO S S' m rr (spClash B y z) r) noX := by
  have hB := hI.1
  have h8 := hB.v.1
  refine GMet.of (loc0 := [(0, .ref m), (1, .int y), (2, .int z)]) F (by decide +kernel) rfl (Nat.le_of_ble_eq_true rfl) (fun X C R Tb nm => ?_)
  have no : (¬ inR y (tN B) ∨ ¬ inR z (tN B)) → GW Γ X S 0 0 17 [(0, .ref m), (1, .int y), (2, .int z)] [.ref m] := by
    intro h
    refine g_iconst C dX6_clash_17 (v := 1) (by decide) ?_
    refine g_goto C dX6_clash_18 (tgt := 31) (by decide) ?_
    refine pu_Model_thrown C tw_5_89 (by exact hB.m) dX6_clash_31 ?_
    refine g_aload_n C dX6_clash_34 rfl rfl ?_
    refine ge_Model_thrown C tw_5_89 (by exact hB.m) (by exact uI_q) dX6_clash_35 ?_
    refine g_if_eq C dX6_clash_38 (tgt := 43) (by decide) (fun c2 => ?_) (fun c2 => ?_)
    · exact absurd c2 (by decide)
    · refine g_iconst C dX6_clash_41 (v := 0) (by decide) ?_
      refine g_iret C R rfl (by omega) (by omega) dX6_clash_42 ?_
      exact MdO.no1 (k := 1) hI (by decide) (fun v => Or.inl ⟨rfl, rfl, h⟩)
  refine g_aload_n C dX6_clash_0 rfl rfl ?_
  refine g_aload_n C dX6_clash_1 rfl rfl ?_
  refine g_iload_n C dX6_clash_2 rfl rfl ?_
  refine g_callV C gy_X6_isPuppet tw_5_184 tw_5_186 ts_28 (by decide) (kk := 6) rfl rfl (by exact hB.m) (md_isPuppet F S m (tN B) y hB.m hB.n h8) rfl rfl (Nat.le_of_ble_eq_true rfl) (by omega) (by omega) dX6_clash_3 (fun _ _ h9 => h9.elim) ?_
  rintro _ _ ⟨rfl, v, hv, rfl⟩
  refine g_if_eq C dX6_clash_6 (tgt := 17) (by decide) (fun c1 => ?_) (fun c1 => ?_)
  · exact no (Or.inl (hv.neg c1))
  · obtain ⟨i, hi, rfl⟩ := hv.pos c1
    refine g_aload_n C dX6_clash_9 rfl rfl ?_
    refine g_iload_n C dX6_clash_10 rfl rfl ?_
    refine g_callV C gy_X6_isPuppet tw_5_184 tw_5_186 ts_28 (by decide) (kk := 6) rfl rfl (by exact hB.m) (md_isPuppet F S m (tN B) z hB.m hB.n h8) rfl rfl (Nat.le_of_ble_eq_true rfl) (by omega) (by omega) dX6_clash_11 (fun _ _ h9 => h9.elim) ?_
    rintro _ _ ⟨rfl, v2, hv2, rfl⟩
    refine g_if_ne C dX6_clash_14 (tgt := 21) (by decide) (fun c2 => ?_) (fun c2 => ?_)
    · obtain ⟨j, hj, rfl⟩ := hv2.pos c2
      refine g_iload_n C dX6_clash_21 rfl rfl ?_
      refine g_iload_n C dX6_clash_22 rfl rfl ?_
      refine g_icmp_ne C dX6_clash_23 (tgt := 30) (by decide) (fun c3 => ?_) (fun c3 => ?_)
      · refine g_iconst C dX6_clash_30 (v := 0) (by decide) ?_
        refine pu_Model_thrown C tw_5_89 (by exact hB.m) dX6_clash_31 ?_
        refine g_aload_n C dX6_clash_34 rfl rfl ?_
        refine ge_Model_thrown C tw_5_89 (by exact hB.m) (by exact uI_q) dX6_clash_35 ?_
        refine g_if_eq C dX6_clash_38 (tgt := 43) (by decide) (fun c4 => ?_) (fun c4 => ?_)
        · refine g_aload_n C dX6_clash_43 rfl rfl ?_
          refine g_callV C gy_X6_workOut tw_6_12 tw_6_14 ts_37 (by decide) (kk := 6) rfl rfl (by exact hB.m) (md_workOut F _ m rr B (hI.thr 0)) rfl rfl (Nat.le_of_ble_eq_true rfl) (by omega) (by omega) dX6_clash_44 (fun _ _ h9 => h9.elim) ?_
          rintro _ _ ⟨rfl, hw⟩
          refine g_aload_n C dX6_clash_47 rfl rfl ?_
          refine g_iload_n C dX6_clash_48 rfl rfl ?_
          refine g_iload_n C dX6_clash_49 rfl rfl ?_
          refine g_callV C gy_X6_firstClash tw_6_55 tw_6_57 ts_44 (by decide) (kk := 6) rfl rfl (by exact hw.1.m) (md_firstClash F _ m i j rr B hw.1 hw.2.2.1.pl hi hj) rfl rfl (Nat.le_of_ble_eq_true rfl) (by omega) (by omega) dX6_clash_50 (fun _ _ h9 => h9.elim) ?_
          rintro _ _ ⟨rfl, rfl⟩
          refine g_iret C R rfl (by omega) (by omega) dX6_clash_53 ?_
          exact MdO.ok hw FrM.i uI_q (Or.inr (Or.inr ⟨rfl, rfl, i, j, hi, rfl, hj, rfl, fun e => c3 (by rw [e]), rfl⟩))
        · exact absurd rfl c4
      · refine g_iconst C dX6_clash_26 (v := 2) (by decide) ?_
        refine g_goto C dX6_clash_27 (tgt := 31) (by decide) ?_
        refine pu_Model_thrown C tw_5_89 (by exact hB.m) dX6_clash_31 ?_
        refine g_aload_n C dX6_clash_34 rfl rfl ?_
        refine ge_Model_thrown C tw_5_89 (by exact hB.m) (by exact uI_q) dX6_clash_35 ?_
        refine g_if_eq C dX6_clash_38 (tgt := 43) (by decide) (fun c4 => ?_) (fun c4 => ?_)
        · exact absurd c4 (by decide)
        · refine g_iconst C dX6_clash_41 (v := 0) (by decide) ?_
          refine g_iret C R rfl (by omega) (by omega) dX6_clash_42 ?_
          exact MdO.no1 (k := 2) hI (by decide) (fun v => Or.inr (Or.inl ⟨rfl, rfl, ⟨i, hi, rfl⟩, c3⟩))
    · refine g_sub [(0, _), (1, _), (2, _)] ⟨rfl, rfl, rfl, trivial⟩ ?_
      exact no (Or.inr (hv2.neg c2))
theorem sum1_stop {f : Nat → Nat} {a : Nat} : ∀ n, (∀ i, a ≤ i → f i = 0) → a ≤ n → sum1 f n = sum1 f a := by
  intro n
  induction n with
  | zero => intro _ h; rw [Nat.le_zero.mp h]
  | succ n ih =>
    intro h ha
    by_cases e : a = n + 1
    · rw [e]
    · simp only [sum1]
      rw [ih h (by omega), h n (by omega)]
      rfl
noncomputable def cpr (B : BT) (a b : Nat) : Nat := if b < a ∧ fcB B a b ≠ none then 1 else 0
theorem clN_cpr (B : BT) : clN B = sum1 (fun a => sum1 (cpr B a) a) (tN B) := by
  rw [clN_swap]
  refine sum1_congr _ (fun a ha => ?_)
  refine sum1_stop (f := cpr B a) (tN B) (fun i hi => ?_) (by omega)
  unfold cpr
  rw [if_neg (by omega)]
theorem cpr_le (B : BT) (a b : Nat) : cpr B a b ≤ 1 := by unfold cpr; split <;> omega
theorem md_allClashes {Γ : GBase} (F : FB Γ) (S : PS) (m : Nat) (rr : Nat → Nat) (B : BT) (hB : MdB S m rr B) (hP : PlV S rr B) : GMet Γ yX6_allClashes cX6_allClashes 4 ((some FieldType.int)) 3 0 0 [.ref m] S (fun r S' => S = S' ∧ r = some (.int (nI (clN B)))) noX := by
  have h8 := hB.v.1
  refine GMet.of (loc0 := [(0, .ref m)]) F (by decide +kernel) rfl (Nat.le_of_ble_eq_true rfl) (fun X C R Tb nm => ?_)
  have outer : ∀ (k a : Nat), a + k = tN B → GW Γ X S 0 0 4 [(0, .ref m), (1, .int (nI (sum1 (fun a => sum1 (cpr B a) a) a))), (2, .int (nI a))] [] := by
    intro k
    induction k with
    | zero =>
      intro a ha
      have ea : a = tN B := by omega
      subst ea
      refine g_iload_n C dX6_allClashes_4 rfl rfl ?_
      refine g_aload_n C dX6_allClashes_5 rfl rfl ?_
      refine ge_Model_puppets C tw_5_90 (by exact hB.m) (by exact hB.n) dX6_allClashes_6 ?_
      refine g_icmp_ge C dX6_allClashes_9 (tgt := 49) (by decide) (fun c1 => ?_) (fun c1 => ?_)
      · refine g_iload_n C dX6_allClashes_49 rfl rfl ?_
        refine g_iret C R rfl (by omega) (by omega) dX6_allClashes_50 ?_
        rw [clN_cpr]
        exact ⟨rfl, rfl⟩
      · exact absurd (nI_le (Nat.le_refl _) (by omega)) c1
    | succ k ih =>
      intro a ha
      have haN : a < tN B := by omega
      have inner : ∀ (k b : Nat), b + k = a → GW Γ X S 0 0 14 [(0, .ref m), (1, .int (nI (sum1 (fun a => sum1 (cpr B a) a) a + sum1 (cpr B a) b))), (2, .int (nI a)), (3, .int (nI b))] [] := by
        intro k
        induction k with
        | zero =>
          intro b hb
          have eb : b = a := by omega
          subst eb
          refine g_iload_n C dX6_allClashes_14 rfl rfl ?_
          refine g_iload_n C dX6_allClashes_15 rfl rfl ?_
          refine g_icmp_ge C dX6_allClashes_16 (tgt := 43) (by decide) (fun c1 => ?_) (fun c1 => ?_)
          · refine g_iinc C dX6_allClashes_43 rfl (by first | exact inc1 _ | exact rfl) (by decide) rfl ?_
            refine g_goto C dX6_allClashes_46 (tgt := 4) (by decide) ?_
            refine g_sub [(0, _), (1, _), (2, _)] ⟨rfl, rfl, rfl, trivial⟩ ?_
            exact ih (b + 1) (by omega)
          · exact absurd (nI_le (Nat.le_refl _) (by omega)) c1
        | succ k ih2 =>
          intro b hb
          have hbN : b < tN B := by omega
          have nx := ih2 (b + 1) (by omega)
          refine g_iload_n C dX6_allClashes_14 rfl rfl ?_
          refine g_iload_n C dX6_allClashes_15 rfl rfl ?_
          refine g_icmp_ge C dX6_allClashes_16 (tgt := 43) (by decide) (fun c1 => ?_) (fun c1 => ?_)
          · exact absurd c1 (nI_ge (by omega) (by omega))
          · refine g_iload_n C dX6_allClashes_19 rfl rfl ?_
            refine g_aload_n C dX6_allClashes_20 rfl rfl ?_
            refine g_iload_n C dX6_allClashes_21 rfl rfl ?_
            refine g_iload_n C dX6_allClashes_22 rfl rfl ?_
            refine g_callV C gy_X6_firstClash tw_6_55 tw_6_57 ts_44 (by decide) (kk := 6) rfl rfl (by exact hB.m) (md_firstClash F S m a b rr B hB hP haN hbN) rfl rfl (Nat.le_of_ble_eq_true rfl) (by omega) (by omega) dX6_allClashes_23 (fun _ _ h9 => h9.elim) ?_
            rintro _ _ ⟨rfl, rfl⟩
            refine g_iconst C dX6_allClashes_26 (v := -1) (by decide) ?_
            refine g_icmp_ne C dX6_allClashes_27 (tgt := 34) (by decide) (fun c2 => ?_) (fun c2 => ?_)
            · have e : cpr B a b = 1 := by
                unfold cpr
                rw [if_pos ⟨by omega, fun h => c2 (by rw [h]; rfl)⟩]
              refine g_iconst C dX6_allClashes_34 (v := 1) (by decide) ?_
              rw [show (1 : Int32) = nI 1 from rfl]
              refine g_iadd C dX6_allClashes_35 ?_
              rw [nI_add]
              refine g_istore_n C dX6_allClashes_36 rfl (by decide) rfl ?_
              refine g_iinc C dX6_allClashes_37 rfl (by first | exact inc1 _ | exact rfl) (by decide) rfl ?_
              refine g_goto C dX6_allClashes_40 (tgt := 14) (by decide) ?_
              simp only [sum1, e] at nx
              rw [← Nat.add_assoc] at nx
              refine g_sub [(0, _), (1, _), (2, _), (3, _)] ⟨rfl, rfl, rfl, rfl, trivial⟩ ?_
              exact nx
            · have e : cpr B a b = 0 := by
                unfold cpr
                rw [if_neg (fun h => h.2 (fcB_z.mp c2))]
              refine g_iconst C dX6_allClashes_30 (v := 0) (by decide) ?_
              refine g_goto C dX6_allClashes_31 (tgt := 35) (by decide) ?_
              rw [show (0 : Int32) = nI 0 from rfl]
              refine g_iadd C dX6_allClashes_35 ?_
              rw [nI_add]
              refine g_istore_n C dX6_allClashes_36 rfl (by decide) rfl ?_
              refine g_iinc C dX6_allClashes_37 rfl (by first | exact inc1 _ | exact rfl) (by decide) rfl ?_
              refine g_goto C dX6_allClashes_40 (tgt := 14) (by decide) ?_
              simp only [sum1, e] at nx
              rw [← Nat.add_assoc] at nx
              refine g_sub [(0, _), (1, _), (2, _), (3, _)] ⟨rfl, rfl, rfl, rfl, trivial⟩ ?_
              exact nx
      refine g_iload_n C dX6_allClashes_4 rfl rfl ?_
      refine g_aload_n C dX6_allClashes_5 rfl rfl ?_
      refine ge_Model_puppets C tw_5_90 (by exact hB.m) (by exact hB.n) dX6_allClashes_6 ?_
      refine g_icmp_ge C dX6_allClashes_9 (tgt := 49) (by decide) (fun c1 => ?_) (fun c1 => ?_)
      · exact absurd c1 (nI_ge haN (by omega))
      · refine g_iconst C dX6_allClashes_12 (v := 0) (by decide) ?_
        refine g_istore_n C dX6_allClashes_13 rfl (by decide) rfl ?_
        refine g_sub [(0, _), (1, _), (2, _), (3, _)] ⟨rfl, rfl, rfl, rfl, trivial⟩ ?_
        exact inner a 0 (by omega)
  refine g_iconst C dX6_allClashes_0 (v := 0) (by decide) ?_
  refine g_istore_n C dX6_allClashes_1 rfl (by decide) rfl ?_
  refine g_iconst C dX6_allClashes_2 (v := 0) (by decide) ?_
  refine g_istore_n C dX6_allClashes_3 rfl (by decide) rfl ?_
  refine g_sub [(0, _), (1, _), (2, _)] ⟨rfl, rfl, rfl, trivial⟩ ?_
  exact outer (tN B) 0 (by omega)
def MdV (S S' : PS) (m : Nat) (rr : Nat → Nat) (B : BT) : Prop := MdI S' m rr B ∧ FrM S S' m
theorem md_clashes {Γ : GBase} (F : FB Γ) (S : PS) (m : Nat) (rr : Nat → Nat) (B : BT) (hI : MdI S m rr B) : GMet Γ yX6_clashes cX6_clashes 1 ((some FieldType.int)) 6 1 8 [.ref m] S (fun r S' => MdV S S' m rr B ∧ r = some (.int (nI (clN B)))) noX := by
  have hB1 : MdB (uI S 192 m 0) m rr B := (hI.thr 0).1
  refine GMet.of (loc0 := [(0, .ref m)]) F (by decide +kernel) rfl (Nat.le_of_ble_eq_true rfl) (fun X C R Tb nm => ?_)
  refine g_aload_n C dX6_clashes_0 rfl rfl ?_
  refine g_iconst C dX6_clashes_1 (v := 0) (by decide) ?_
  refine pu_Model_thrown C tw_5_89 (by exact hI.1.m) dX6_clashes_2 ?_
  refine g_aload_n C dX6_clashes_5 rfl rfl ?_
  refine g_callV C gy_X6_workOut tw_6_12 tw_6_14 ts_37 (by decide) (kk := 6) rfl rfl (by exact hB1.m) (md_workOut F _ m rr B (hI.thr 0)) rfl rfl (Nat.le_of_ble_eq_true rfl) (by omega) (by omega) dX6_clashes_6 (fun _ _ h9 => h9.elim) ?_
  rintro _ _ ⟨rfl, hw⟩
  refine g_aload_n C dX6_clashes_9 rfl rfl ?_
  refine g_callV C gy_X6_allClashes tw_6_67 tw_6_69 ts_46 (by decide) (kk := 6) rfl rfl (by exact hw.1.m) (md_allClashes F _ m rr B hw.1 hw.2.2.1.pl) rfl rfl (Nat.le_of_ble_eq_true rfl) (by omega) (by omega) dX6_clashes_10 (fun _ _ h9 => h9.elim) ?_
  rintro _ _ ⟨rfl, rfl⟩
  refine g_iret C R rfl (by omega) (by omega) dX6_clashes_13 ?_
  exact ⟨⟨hw.i, FrM.i.tr hw.2.2.2.1⟩, rfl⟩
def spBeats (B : BT) (y : Int32) (k : Nat) (B' : BT) (v : Int32) : Prop := (k = 1 ∧ B' = B ∧ ¬ inR y (tN B)) ∨ (k = 0 ∧ B' = B ∧ ∃ i, i < tN B ∧ y = nI i ∧ v = nI (sumS (stL (dsB B i))))
theorem md_beats {Γ : GBase} (F : FB Γ) (S : PS) (m : Nat) (y : Int32) (rr : Nat → Nat) (B : BT) (hI : MdI S m rr B) : GMet Γ yX6_beats cX6_beats 4 ((some FieldType.int)) 6 1 8 [.ref m, .int y] S (fun r S' => MdO S S' m rr (spBeats B y) r) noX := by
  have hB1 : MdB (uI S 192 m 0) m rr B := (hI.thr 0).1
  have h8 := hB1.v.1
  refine GMet.of (loc0 := [(0, .ref m), (1, .int y)]) F (by decide +kernel) rfl (Nat.le_of_ble_eq_true rfl) (fun X C R Tb nm => ?_)
  refine g_aload_n C dX6_beats_0 rfl rfl ?_
  refine g_iconst C dX6_beats_1 (v := 0) (by decide) ?_
  refine pu_Model_thrown C tw_5_89 (by exact hI.1.m) dX6_beats_2 ?_
  refine g_aload_n C dX6_beats_5 rfl rfl ?_
  refine g_iload_n C dX6_beats_6 rfl rfl ?_
  refine g_callV C gy_X6_isPuppet tw_5_184 tw_5_186 ts_28 (by decide) (kk := 6) rfl rfl (by exact hB1.m) (md_isPuppet F _ m (tN B) y hB1.m hB1.n h8) rfl rfl (Nat.le_of_ble_eq_true rfl) (by omega) (by omega) dX6_beats_7 (fun _ _ h9 => h9.elim) ?_
  rintro _ _ ⟨rfl, v, hv, rfl⟩
  refine g_if_ne C dX6_beats_10 (tgt := 19) (by decide) (fun c1 => ?_) (fun c1 => ?_)
  · obtain ⟨i, hi, rfl⟩ := hv.pos c1
    have hg := hB1.v.good hi
    refine g_aload_n C dX6_beats_19 rfl rfl ?_
    refine g_callV C gy_X6_workOut tw_6_12 tw_6_14 ts_37 (by decide) (kk := 6) rfl rfl (by exact hB1.m) (md_workOut F _ m rr B (hI.thr 0)) rfl rfl (Nat.le_of_ble_eq_true rfl) (by omega) (by omega) dX6_beats_20 (fun _ _ h9 => h9.elim) ?_
    rintro _ _ ⟨rfl, hw⟩
    rename_i S2
    have gB := hw.1
    have loop : ∀ (k b : Nat), b + k = 1000 → GW Γ X S2 1 8 27 [(0, .ref m), (1, .int (nI i)), (2, .int (nI (cntN (fun b => (plL (dsB B i) b).isSome) b))), (3, .int (nI b))] [] := by
      intro k
      induction k with
      | zero =>
        intro b hb
        have eb : b = 1000 := by omega
        subst eb
        refine g_iload_n C dX6_beats_27 rfl rfl ?_
        refine g_sipush C dX6_beats_28 (v := 1000) (by decide) ?_
        refine g_icmp_ge C dX6_beats_31 (tgt := 58) (by decide) (fun c2 => ?_) (fun c2 => ?_)
        · refine g_iload_n C dX6_beats_58 rfl rfl ?_
          refine g_iret C R rfl (by omega) (by omega) dX6_beats_59 ?_
          refine MdO.ok hw FrM.i uI_q (Or.inr ⟨rfl, rfl, i, hi, rfl, ?_⟩)
          rw [hg.beats]
        · exact absurd (nI_le (a := 1000) (Nat.le_refl _) (by omega)) c2
      | succ k ih =>
        intro b hb
        have nx := ih (b + 1) (by omega)
        refine g_iload_n C dX6_beats_27 rfl rfl ?_
        refine g_sipush C dX6_beats_28 (v := 1000) (by decide) ?_
        refine g_icmp_ge C dX6_beats_31 (tgt := 58) (by decide) (fun c2 => ?_) (fun c2 => ?_)
        · exact absurd c2 (nI_ge (b := 1000) (by omega) (by omega))
        · refine g_iload_n C dX6_beats_34 rfl rfl ?_
          refine g_aload_n C dX6_beats_35 rfl rfl ?_
          refine g_iload_n C dX6_beats_36 rfl rfl ?_
          refine g_iload_n C dX6_beats_37 rfl rfl ?_
          refine g_callV C gy_X6_placeAt tw_6_35 tw_6_37 ts_42 (by decide) (kk := 6) rfl rfl (by exact gB.m) (md_placeAt F _ m i b rr B gB hw.2.2.1.pl hi (by omega)) rfl rfl (Nat.le_of_ble_eq_true rfl) (by omega) (by omega) dX6_beats_38 (fun _ _ h9 => h9.elim) ?_
          rintro _ _ ⟨rfl, rfl⟩
          refine g_iconst C dX6_beats_41 (v := -1) (by decide) ?_
          refine g_icmp_ne C dX6_beats_42 (tgt := 49) (by decide) (fun c3 => ?_) (fun c3 => ?_)
          · have e : (plL (dsB B i) b).isSome = true := by
              cases h : plL (dsB B i) b with
              | none => rw [h] at c3; exact absurd rfl c3
              | some w => rfl
            refine g_iconst C dX6_beats_49 (v := 1) (by decide) ?_
            rw [show (1 : Int32) = nI 1 from rfl]
            refine g_iadd C dX6_beats_50 ?_
            rw [nI_add]
            refine g_istore_n C dX6_beats_51 rfl (by decide) rfl ?_
            refine g_iinc C dX6_beats_52 rfl (by first | exact inc1 _ | exact rfl) (by decide) rfl ?_
            refine g_goto C dX6_beats_55 (tgt := 27) (by decide) ?_
            simp only [cntN, e, if_true] at nx
            refine g_sub [(0, _), (1, _), (2, _), (3, _)] ⟨rfl, rfl, rfl, rfl, trivial⟩ ?_
            exact nx
          · have e : (plL (dsB B i) b).isSome = false := by rw [(hg.plz b).mp c3]; rfl
            refine g_iconst C dX6_beats_45 (v := 0) (by decide) ?_
            refine g_goto C dX6_beats_46 (tgt := 50) (by decide) ?_
            rw [show (0 : Int32) = nI 0 from rfl]
            refine g_iadd C dX6_beats_50 ?_
            rw [nI_add]
            refine g_istore_n C dX6_beats_51 rfl (by decide) rfl ?_
            refine g_iinc C dX6_beats_52 rfl (by first | exact inc1 _ | exact rfl) (by decide) rfl ?_
            refine g_goto C dX6_beats_55 (tgt := 27) (by decide) ?_
            simp only [cntN, e] at nx
            refine g_sub [(0, _), (1, _), (2, _), (3, _)] ⟨rfl, rfl, rfl, rfl, trivial⟩ ?_
            exact nx
    refine g_iconst C dX6_beats_23 (v := 0) (by decide) ?_
    refine g_istore_n C dX6_beats_24 rfl (by decide) rfl ?_
    refine g_iconst C dX6_beats_25 (v := 0) (by decide) ?_
    refine g_istore_n C dX6_beats_26 rfl (by decide) rfl ?_
    refine g_sub [(0, _), (1, _), (2, _), (3, _)] ⟨rfl, rfl, rfl, rfl, trivial⟩ ?_
    exact loop 1000 0 (by omega)
  · refine g_aload_n C dX6_beats_13 rfl rfl ?_
    refine g_iconst C dX6_beats_14 (v := 1) (by decide) ?_
    refine g_callV C gy_X6_fail tw_5_168 tw_5_170 ts_26 (by decide) (kk := 6) rfl rfl (by exact hB1.m) (md_fail F _ m 1 hB1.m) rfl rfl (Nat.le_of_ble_eq_true rfl) (by omega) (by omega) dX6_beats_15 (fun _ _ h9 => h9.elim) ?_
    rintro _ _ ⟨rfl, rfl⟩
    refine g_iret C R rfl (by omega) (by omega) dX6_beats_18 ?_
    exact MdO.no (k := 1) hI (by decide) (fun v => Or.inl ⟨rfl, rfl, hv.neg c1⟩)
def spStays (B : BT) (y : Int32) (k : Nat) (B' : BT) (v : Int32) : Prop := (k = 1 ∧ B' = B ∧ ¬ inR y (tN B)) ∨ (k = 0 ∧ B' = B ∧ ∃ i, i < tN B ∧ y = nI i ∧ v = nI (stL (dsB B i)).length)
theorem md_stays {Γ : GBase} (F : FB Γ) (S : PS) (m : Nat) (y : Int32) (rr : Nat → Nat) (B : BT) (hI : MdI S m rr B) : GMet Γ yX6_stays cX6_stays 2 ((some FieldType.int)) 6 1 8 [.ref m, .int y] S (fun r S' => MdO S S' m rr (spStays B y) r) noX := by
  have hB1 : MdB (uI S 192 m 0) m rr B := (hI.thr 0).1
  have h8 := hB1.v.1
  refine GMet.of (loc0 := [(0, .ref m), (1, .int y)]) F (by decide +kernel) rfl (Nat.le_of_ble_eq_true rfl) (fun X C R Tb nm => ?_)
  refine g_aload_n C dX6_stays_0 rfl rfl ?_
  refine g_iconst C dX6_stays_1 (v := 0) (by decide) ?_
  refine pu_Model_thrown C tw_5_89 (by exact hI.1.m) dX6_stays_2 ?_
  refine g_aload_n C dX6_stays_5 rfl rfl ?_
  refine g_iload_n C dX6_stays_6 rfl rfl ?_
  refine g_callV C gy_X6_isPuppet tw_5_184 tw_5_186 ts_28 (by decide) (kk := 6) rfl rfl (by exact hB1.m) (md_isPuppet F _ m (tN B) y hB1.m hB1.n h8) rfl rfl (Nat.le_of_ble_eq_true rfl) (by omega) (by omega) dX6_stays_7 (fun _ _ h9 => h9.elim) ?_
  rintro _ _ ⟨rfl, v, hv, rfl⟩
  refine g_if_ne C dX6_stays_10 (tgt := 19) (by decide) (fun c1 => ?_) (fun c1 => ?_)
  · obtain ⟨i, hi, rfl⟩ := hv.pos c1
    refine g_aload_n C dX6_stays_19 rfl rfl ?_
    refine g_callV C gy_X6_workOut tw_6_12 tw_6_14 ts_37 (by decide) (kk := 6) rfl rfl (by exact hB1.m) (md_workOut F _ m rr B (hI.thr 0)) rfl rfl (Nat.le_of_ble_eq_true rfl) (by omega) (by omega) dX6_stays_20 (fun _ _ h9 => h9.elim) ?_
    rintro _ _ ⟨rfl, hw⟩
    refine g_aload_n C dX6_stays_23 rfl rfl ?_
    refine ge_Model_manyStays C tw_5_107 (by exact hw.1.m) (by exact hw.1.f.r i_210) dX6_stays_24 ?_
    refine g_iload_n C dX6_stays_27 rfl rfl ?_
    refine g_ldI C rfl (hw.1.f.i i_210 rfl) (hw.1.f.lt i_210 (n := 8) rfl (by omega)) (by omega) (hw.2.2.1.2.2.1 i hi) dX6_stays_28 ?_
    refine g_iret C R rfl (by omega) (by omega) dX6_stays_29 ?_
    exact MdO.ok hw FrM.i uI_q (Or.inr ⟨rfl, rfl, i, hi, rfl, rfl⟩)
  · refine g_aload_n C dX6_stays_13 rfl rfl ?_
    refine g_iconst C dX6_stays_14 (v := 1) (by decide) ?_
    refine g_callV C gy_X6_fail tw_5_168 tw_5_170 ts_26 (by decide) (kk := 6) rfl rfl (by exact hB1.m) (md_fail F _ m 1 hB1.m) rfl rfl (Nat.le_of_ble_eq_true rfl) (by omega) (by omega) dX6_stays_15 (fun _ _ h9 => h9.elim) ?_
    rintro _ _ ⟨rfl, rfl⟩
    refine g_iret C R rfl (by omega) (by omega) dX6_stays_18 ?_
    exact MdO.no (k := 1) hI (by decide) (fun v => Or.inl ⟨rfl, rfl, hv.neg c1⟩)
theorem md_stayTold {Γ : GBase} (F : FB Γ) (S : PS) (m p j w : Nat) (rr : Nat → Nat) (B : BT) (hB : MdB S m rr B) (hF : FreshV S rr B) (hp : p < tN B) (hj : j < (stL (dsB B p)).length) (hw : w < 3) : GMet Γ yX6_stayTold cX6_stayTold 5 ((some FieldType.int)) 0 0 0 [.ref m, .int (nI p), .int (nI j), .int (nI w)] S (fun r S' => S = S' ∧ r = some (.int (stW B p j w))) noX := by
  have h8 := hB.v.1
  have h40 : (stL (dsB B p)).length ≤ 40 := by
    have h9 := stL_len (dsB B p)
    have := hB.v.lenD hp
    omega
  obtain ⟨s, hs⟩ : ∃ s, (stL (dsB B p))[j]? = some s := ⟨_, List.getElem?_eq_getElem hj⟩
  obtain ⟨f1, f2, f3⟩ := hF.2.2.2 p j s hp hs
  refine GMet.of (loc0 := [(0, .ref m), (1, .int (nI p)), (2, .int (nI j)), (3, .int (nI w))]) F (by decide +kernel) rfl (Nat.le_of_ble_eq_true rfl) (fun X C R Tb nm => ?_)
  refine g_bipush C dX6_stayTold_0 (v := 40) (by decide) ?_
  refine g_iload_n C dX6_stayTold_2 rfl rfl ?_
  refine g_imul C dX6_stayTold_3 ?_
  refine g_iload_n C dX6_stayTold_4 rfl rfl ?_
  refine g_iadd C dX6_stayTold_5 ?_
  rw [fix40]
  refine g_istore C dX6_stayTold_6 (by decide) rfl ?_
  refine g_iload_n C dX6_stayTold_8 rfl rfl ?_
  refine g_if_ne C dX6_stayTold_9 (tgt := 22) (by decide) (fun c1 => ?_) (fun c1 => ?_)
  · refine g_iload_n C dX6_stayTold_22 rfl rfl ?_
    refine g_iconst C dX6_stayTold_23 (v := 1) (by decide) ?_
    refine g_icmp_ne C dX6_stayTold_24 (tgt := 37) (by decide) (fun c2 => ?_) (fun c2 => ?_)
    · have h0 : w ≠ 0 := fun e => c1 (by rw [e]; rfl)
      have h1 : w ≠ 1 := fun e => c2 (by rw [e]; rfl)
      refine g_aload_n C dX6_stayTold_37 rfl rfl ?_
      refine ge_Model_cast C tw_5_110 (by exact hB.m) (by exact hB.f.r i_213) dX6_stayTold_38 ?_
      refine g_iload C dX6_stayTold_41 rfl ?_
      refine g_ldI C rfl (hB.f.i i_213 rfl) (hB.f.lt i_213 (n := 320) rfl (by omega)) (by omega) f3 dX6_stayTold_43 ?_
      refine g_iret C R rfl (by omega) (by omega) dX6_stayTold_44 ?_
      refine ⟨rfl, ?_⟩
      unfold stW
      rw [hs]
      simp [h0, h1]
    · have h1 := (nI_eq (b := 1) (by omega) (by omega)).mp c2
      refine g_aload_n C dX6_stayTold_27 rfl rfl ?_
      refine ge_Model_ends C tw_5_109 (by exact hB.m) (by exact hB.f.r i_212) dX6_stayTold_28 ?_
      refine g_iload C dX6_stayTold_31 rfl ?_
      refine g_ldI C rfl (hB.f.i i_212 rfl) (hB.f.lt i_212 (n := 320) rfl (by omega)) (by omega) f2 dX6_stayTold_33 ?_
      refine g_goto C dX6_stayTold_34 (tgt := 44) (by decide) ?_
      refine g_iret C R rfl (by omega) (by omega) dX6_stayTold_44 ?_
      refine ⟨rfl, ?_⟩
      unfold stW
      rw [hs]
      simp [h1]
  · have h0 := (nI_eq (b := 0) (by omega) (by omega)).mp c1
    refine g_aload_n C dX6_stayTold_12 rfl rfl ?_
    refine ge_Model_begins C tw_5_108 (by exact hB.m) (by exact hB.f.r i_211) dX6_stayTold_13 ?_
    refine g_iload C dX6_stayTold_16 rfl ?_
    refine g_ldI C rfl (hB.f.i i_211 rfl) (hB.f.lt i_211 (n := 320) rfl (by omega)) (by omega) f1 dX6_stayTold_18 ?_
    refine g_goto C dX6_stayTold_19 (tgt := 44) (by decide) ?_
    refine g_iret C R rfl (by omega) (by omega) dX6_stayTold_44 ?_
    refine ⟨rfl, ?_⟩
    unfold stW
    rw [hs]
    simp [h0]
def spStay (B : BT) (y z w : Int32) (k : Nat) (B' : BT) (v : Int32) : Prop := (k = 1 ∧ B' = B ∧ (¬ inR y (tN B) ∨ ∃ i, i < tN B ∧ y = nI i ∧ (¬ inR z (stL (dsB B i)).length ∨ ¬ inR w 3))) ∨ (k = 0 ∧ B' = B ∧ ∃ i j u, i < tN B ∧ y = nI i ∧ j < (stL (dsB B i)).length ∧ z = nI j ∧ u < 3 ∧ w = nI u ∧ v = stW B i j u)
theorem md_stay {Γ : GBase} (F : FB Γ) (S : PS) (m : Nat) (y z w : Int32) (rr : Nat → Nat) (B : BT) (hI : MdI S m rr B) : GMet Γ yX6_stay cX6_stay 4 ((some FieldType.int)) 6 1 8 [.ref m, .int y, .int z, .int w] S (fun r S' => MdO S S' m rr (spStay B y z w) r) noX := by
  have hB1 : MdB (uI S 192 m 0) m rr B := (hI.thr 0).1
  have h8 := hB1.v.1
  refine GMet.of (loc0 := [(0, .ref m), (1, .int y), (2, .int z), (3, .int w)]) F (by decide +kernel) rfl (Nat.le_of_ble_eq_true rfl) (fun X C R Tb nm => ?_)
  refine g_aload_n C dX6_stay_0 rfl rfl ?_
  refine g_iconst C dX6_stay_1 (v := 0) (by decide) ?_
  refine pu_Model_thrown C tw_5_89 (by exact hI.1.m) dX6_stay_2 ?_
  refine g_aload_n C dX6_stay_5 rfl rfl ?_
  refine g_iload_n C dX6_stay_6 rfl rfl ?_
  refine g_callV C gy_X6_isPuppet tw_5_184 tw_5_186 ts_28 (by decide) (kk := 6) rfl rfl (by exact hB1.m) (md_isPuppet F _ m (tN B) y hB1.m hB1.n h8) rfl rfl (Nat.le_of_ble_eq_true rfl) (by omega) (by omega) dX6_stay_7 (fun _ _ h9 => h9.elim) ?_
  rintro _ _ ⟨rfl, v, hv, rfl⟩
  refine g_if_ne C dX6_stay_10 (tgt := 19) (by decide) (fun c1 => ?_) (fun c1 => ?_)
  · obtain ⟨i, hi, rfl⟩ := hv.pos c1
    have h40 : (stL (dsB B i)).length ≤ 40 := by
      have h9 := stL_len (dsB B i)
      have := hB1.v.lenD hi
      omega
    refine g_aload_n C dX6_stay_19 rfl rfl ?_
    refine g_callV C gy_X6_workOut tw_6_12 tw_6_14 ts_37 (by decide) (kk := 6) rfl rfl (by exact hB1.m) (md_workOut F _ m rr B (hI.thr 0)) rfl rfl (Nat.le_of_ble_eq_true rfl) (by omega) (by omega) dX6_stay_20 (fun _ _ h9 => h9.elim) ?_
    rintro _ _ ⟨rfl, hw⟩
    rename_i S2
    have no : (¬ inR z (stL (dsB B i)).length ∨ ¬ inR w 3) → GW Γ X S2 1 8 58 [(0, .ref m), (1, .int (nI i)), (2, .int z), (3, .int w)] [] := by
      intro h
      refine g_aload_n C dX6_stay_58 rfl rfl ?_
      refine g_iconst C dX6_stay_59 (v := 1) (by decide) ?_
      refine g_callV C gy_X6_fail tw_5_168 tw_5_170 ts_26 (by decide) (kk := 6) rfl rfl (by exact hw.1.m) (md_fail F _ m 1 hw.1.m) rfl rfl (Nat.le_of_ble_eq_true rfl) (by omega) (by omega) dX6_stay_60 (fun _ _ h9 => h9.elim) ?_
      rintro _ _ ⟨rfl, rfl⟩
      refine g_iret C R rfl (by omega) (by omega) dX6_stay_63 ?_
      exact ⟨1, B, 0, 0, Or.inl ⟨rfl, rfl, Or.inr ⟨i, hi, rfl, h⟩⟩, hw.i.thr 1, uI_q, (FrM.i.tr hw.2.2.2.1).tr FrM.i, rfl, fun e => absurd e (by decide)⟩
    refine g_iload_n C dX6_stay_23 rfl rfl ?_
    refine g_iconst C dX6_stay_24 (v := 0) (by decide) ?_
    refine g_aload_n C dX6_stay_25 rfl rfl ?_
    refine ge_Model_manyStays C tw_5_107 (by exact hw.1.m) (by exact hw.1.f.r i_210) dX6_stay_26 ?_
    refine g_iload_n C dX6_stay_29 rfl rfl ?_
    refine g_ldI C rfl (hw.1.f.i i_210 rfl) (hw.1.f.lt i_210 (n := 8) rfl (by omega)) (by omega) (hw.2.2.1.2.2.1 i hi) dX6_stay_30 ?_
    refine g_iconst C dX6_stay_31 (v := 1) (by decide) ?_
    refine g_isub C dX6_stay_32 ?_
    refine g_callS C gy_X6_isIn tw_5_165 tw_5_166 (by decide) (md_isIn F _ z 0 (nI (stL (dsB B i)).length - 1)) rfl rfl (Nat.le_of_ble_eq_true rfl) (by omega) (by omega) dX6_stay_33 (fun _ _ h9 => h9.elim) ?_
    rintro _ _ ⟨rfl, v1, hv1, rfl⟩
    rw [inR_in (by omega)] at hv1
    refine g_if_eq C dX6_stay_36 (tgt := 58) (by decide) (fun c2 => ?_) (fun c2 => ?_)
    · refine g_sub [(0, _), (1, _), (2, _), (3, _)] ⟨rfl, rfl, rfl, rfl, trivial⟩ ?_
      exact no (Or.inl (hv1.neg c2))
    · obtain ⟨j, hj, rfl⟩ := hv1.pos c2
      refine g_iload_n C dX6_stay_39 rfl rfl ?_
      refine g_iconst C dX6_stay_40 (v := 0) (by decide) ?_
      refine g_iconst C dX6_stay_41 (v := 2) (by decide) ?_
      refine g_callS C gy_X6_isIn tw_5_165 tw_5_166 (by decide) (md_isIn F _ w 0 2) rfl rfl (Nat.le_of_ble_eq_true rfl) (by omega) (by omega) dX6_stay_42 (fun _ _ h9 => h9.elim) ?_
      rintro _ _ ⟨rfl, v2, hv2, rfl⟩
      rw [show (2 : Int32) = nI 3 - 1 from by decide, inR_in (by omega)] at hv2
      refine g_if_eq C dX6_stay_45 (tgt := 58) (by decide) (fun c3 => ?_) (fun c3 => ?_)
      · refine g_sub [(0, _), (1, _), (2, _), (3, _)] ⟨rfl, rfl, rfl, rfl, trivial⟩ ?_
        exact no (Or.inr (hv2.neg c3))
      · obtain ⟨u, hu, rfl⟩ := hv2.pos c3
        refine g_aload_n C dX6_stay_48 rfl rfl ?_
        refine g_iload_n C dX6_stay_49 rfl rfl ?_
        refine g_iload_n C dX6_stay_50 rfl rfl ?_
        refine g_iload_n C dX6_stay_51 rfl rfl ?_
        refine g_callV C gy_X6_stayTold tw_6_83 tw_6_85 ts_47 (by decide) (kk := 6) rfl rfl (by exact hw.1.m) (md_stayTold F _ m i j u rr B hw.1 hw.2.2.1 hi hj hu) rfl rfl (Nat.le_of_ble_eq_true rfl) (by omega) (by omega) dX6_stay_52 (fun _ _ h9 => h9.elim) ?_
        rintro _ _ ⟨rfl, rfl⟩
        refine g_goto C dX6_stay_55 (tgt := 63) (by decide) ?_
        refine g_iret C R rfl (by omega) (by omega) dX6_stay_63 ?_
        exact MdO.ok hw FrM.i uI_q (Or.inr ⟨rfl, rfl, i, j, u, hi, rfl, hj, rfl, hu, rfl, rfl⟩)
  · refine g_aload_n C dX6_stay_13 rfl rfl ?_
    refine g_iconst C dX6_stay_14 (v := 1) (by decide) ?_
    refine g_callV C gy_X6_fail tw_5_168 tw_5_170 ts_26 (by decide) (kk := 6) rfl rfl (by exact hB1.m) (md_fail F _ m 1 hB1.m) rfl rfl (Nat.le_of_ble_eq_true rfl) (by omega) (by omega) dX6_stay_15 (fun _ _ h9 => h9.elim) ?_
    rintro _ _ ⟨rfl, rfl⟩
    refine g_iret C R rfl (by omega) (by omega) dX6_stay_18 ?_
    exact MdO.no (k := 1) hI (by decide) (fun v => Or.inl ⟨rfl, rfl, Or.inl (hv.neg c1)⟩)
