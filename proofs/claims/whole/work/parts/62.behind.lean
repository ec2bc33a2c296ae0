theorem md_isBehind {Γ : GBase} (F : FB Γ) (S : PS) (m c o nc : Nat) (rw : Nat → Nat) (cu : Nat → Nat × D4) (sk : Nat → Bool) (hM : MdF S m rw) (hT : TabV S m rw nc cu sk) (hc : c < nc) (ho : o < nc) : GMet Γ yX6_isBehind cX6_isBehind 3 ((some FieldType.boolean)) 1 0 0 [.ref m, .int (nI c), .int (nI o)] S (fun r S' => S = S' ∧ ∃ v, isB v (ckey cu o < ckey cu c) ∧ r = some (.int v)) noX := by
  have h40 := hT.2.1
  have b1 := (hT.2.2.1 c hc).1.2.1
  have b2 := (hT.2.2.1 o ho).1.2.1
  refine GMet.of (loc0 := [(0, .ref m), (1, .int (nI c)), (2, .int (nI o))]) F (by decide +kernel) rfl (Nat.le_of_ble_eq_true rfl) (fun X C R Tb nm => ?_)
  refine g_aload_n C dX6_isBehind_0 rfl rfl ?_
  refine g_iload_n C dX6_isBehind_1 rfl rfl ?_
  refine g_callV C gy_X6_beat tw_5_207 tw_5_209 ts_33 (by decide) (kk := 6) rfl rfl (by exact hM.1) (md_beat F S m c nc rw cu sk hM hT hc) rfl rfl (Nat.le_of_ble_eq_true rfl) (by omega) (by omega) dX6_isBehind_2 (fun _ _ h9 => h9.elim) ?_
  rintro _ _ ⟨rfl, rfl⟩
  refine g_aload_n C dX6_isBehind_5 rfl rfl ?_
  refine g_iload_n C dX6_isBehind_6 rfl rfl ?_
  refine g_callV C gy_X6_beat tw_5_207 tw_5_209 ts_33 (by decide) (kk := 6) rfl rfl (by exact hM.1) (md_beat F S m o nc rw cu sk hM hT ho) rfl rfl (Nat.le_of_ble_eq_true rfl) (by omega) (by omega) dX6_isBehind_7 (fun _ _ h9 => h9.elim) ?_
  rintro _ _ ⟨rfl, rfl⟩
  refine g_icmp_gt C dX6_isBehind_10 (tgt := 31) (by decide) (fun c1 => ?_) (fun c1 => ?_)
  · refine g_iconst C dX6_isBehind_31 (v := 1) (by decide) ?_
    refine g_goto C dX6_isBehind_32 (tgt := 36) (by decide) ?_
    refine g_iret C R rfl (by omega) (by omega) dX6_isBehind_36 ?_
    refine ⟨rfl, 1, Or.inl ⟨rfl, ?_⟩, rfl⟩
    have := (nI_ltI (by omega) (by omega)).mp c1
    unfold ckey
    omega
  · have e1 : (cu c).2.2.1 ≤ (cu o).2.2.1 := by
      rcases Nat.lt_or_ge (cu o).2.2.1 (cu c).2.2.1 with w | w
      · exact absurd (nI_lt w (by omega)) c1
      · exact w
    refine g_aload_n C dX6_isBehind_13 rfl rfl ?_
    refine g_iload_n C dX6_isBehind_14 rfl rfl ?_
    refine g_callV C gy_X6_beat tw_5_207 tw_5_209 ts_33 (by decide) (kk := 6) rfl rfl (by exact hM.1) (md_beat F S m c nc rw cu sk hM hT hc) rfl rfl (Nat.le_of_ble_eq_true rfl) (by omega) (by omega) dX6_isBehind_15 (fun _ _ h9 => h9.elim) ?_
    rintro _ _ ⟨rfl, rfl⟩
    refine g_aload_n C dX6_isBehind_18 rfl rfl ?_
    refine g_iload_n C dX6_isBehind_19 rfl rfl ?_
    refine g_callV C gy_X6_beat tw_5_207 tw_5_209 ts_33 (by decide) (kk := 6) rfl rfl (by exact hM.1) (md_beat F S m o nc rw cu sk hM hT ho) rfl rfl (Nat.le_of_ble_eq_true rfl) (by omega) (by omega) dX6_isBehind_20 (fun _ _ h9 => h9.elim) ?_
    rintro _ _ ⟨rfl, rfl⟩
    refine g_icmp_ne C dX6_isBehind_23 (tgt := 35) (by decide) (fun c2 => ?_) (fun c2 => ?_)
    · refine g_iconst C dX6_isBehind_35 (v := 0) (by decide) ?_
      refine g_iret C R rfl (by omega) (by omega) dX6_isBehind_36 ?_
      refine ⟨rfl, 0, Or.inr ⟨rfl, fun h => c2 ?_⟩, rfl⟩
      unfold ckey at h
      rw [show (cu c).2.2.1 = (cu o).2.2.1 by omega]
    · have e2 := (nI_eq (by omega) (by omega)).mp c2
      refine g_iload_n C dX6_isBehind_26 rfl rfl ?_
      refine g_iload_n C dX6_isBehind_27 rfl rfl ?_
      refine g_icmp_le C dX6_isBehind_28 (tgt := 35) (by decide) (fun c3 => ?_) (fun c3 => ?_)
      · refine g_iconst C dX6_isBehind_35 (v := 0) (by decide) ?_
        refine g_iret C R rfl (by omega) (by omega) dX6_isBehind_36 ?_
        refine ⟨rfl, 0, Or.inr ⟨rfl, fun h => ?_⟩, rfl⟩
        have := (nI_leI (by omega) (by omega)).mp c3
        unfold ckey at h
        omega
      · refine g_iconst C dX6_isBehind_31 (v := 1) (by decide) ?_
        refine g_goto C dX6_isBehind_32 (tgt := 36) (by decide) ?_
        refine g_iret C R rfl (by omega) (by omega) dX6_isBehind_36 ?_
        refine ⟨rfl, 1, Or.inl ⟨rfl, ?_⟩, rfl⟩
        have : o < c := by
          rcases Nat.lt_or_ge o c with w | w
          · exact w
          · exact absurd (nI_le w (by omega)) c3
        unfold ckey
        omega
/-- the cue at place i of a list, none behind it -/
def cueZ (l : List Nat) (i : Nat) : Int32 := zO l[i]?
/-- best is the least of the cues below n that K has -/
def isBest (cu : Nat → Nat × D4) (K : Nat → Prop) (n : Nat) (o : Option Nat) : Prop := match o with
  | none => ∀ c, c < n → ¬ K c
  | some b => b < n ∧ K b ∧ ∀ c, c < n → K c → ckey cu b ≤ ckey cu c
