/-- what a call of mean does -/
def MdD (S S' : PS) (m : Nat) (rr : Nat → Nat) (B : BT) (y : Int32) (r : Option Value) : Prop := ∃ k u, ((k = 1 ∧ noC B y) ∨ (k = 0 ∧ ∃ c, isC B y c ∧ u = meanB B c)) ∧ MdI S' m rr B ∧ pI S' 192 m = nI k ∧ FrM S S' m ∧ r = some (.double u)
theorem md_mean {Γ : GBase} (F : FB Γ) (S : PS) (m : Nat) (y : Int32) (rr : Nat → Nat) (B : BT) (hI : MdI S m rr B) : GMet Γ yX6_mean cX6_mean 2 ((some FieldType.double)) 2 0 0 [.ref m, .int y] S (fun r S' => MdD S S' m rr B y r) noX := by
  have hB := hI.1
  have hB1 : MdB (uI S 192 m 0) m rr B := (hI.thr 0).1
  have hB2 : MdB (uI S 192 m 1) m rr B := (hI.thr 1).1
  have h40 := hB.v.2.2.1
  refine GMet.of (loc0 := [(0, .ref m), (1, .int y)]) F (by decide +kernel) rfl (Nat.le_of_ble_eq_true rfl) (fun X C R Tb nm => ?_)
  refine g_aload_n C dX6_mean_0 rfl rfl ?_
  refine g_aload_n C dX6_mean_1 rfl rfl ?_
  refine g_iload_n C dX6_mean_2 rfl rfl ?_
  refine g_callV C gy_X6_isCue tw_5_232 tw_5_234 ts_35 (by decide) (kk := 6) rfl rfl (by exact hB.m) (md_isCue F S m y rr B hB) rfl rfl (Nat.le_of_ble_eq_true rfl) (by omega) (by omega) dX6_mean_3 (fun _ _ h9 => h9.elim) ?_
  rintro _ _ ⟨rfl, v, hv, rfl⟩
  refine g_if_eq C dX6_mean_6 (tgt := 13) (by decide) (fun c1 => ?_) (fun c1 => ?_)
  · refine g_iconst C dX6_mean_13 (v := 1) (by decide) ?_
    refine pu_Model_thrown C tw_5_89 (by exact hB.m) dX6_mean_14 ?_
    refine g_aload_n C dX6_mean_17 rfl rfl ?_
    refine ge_Model_thrown C tw_5_89 (by exact hB2.m) (by exact uI_q) dX6_mean_18 ?_
    refine g_if_ne C dX6_mean_21 (tgt := 33) (by decide) (fun c2 => ?_) (fun c2 => ?_)
    · refine g_dconst0 C dX6_mean_33 ?_
      refine g_goto C dX6_mean_34 (tgt := 52) (by decide) ?_
      refine g_dret C R (by omega) (by omega) dX6_mean_52 ?_
      exact ⟨1, _, Or.inl ⟨rfl, noC_of (hv.neg c1)⟩, hI.thr 1, uI_q, FrM.i, rfl⟩
    · exact absurd c2 (by decide)
  · obtain ⟨c, hc⟩ := hv.pos c1
    have hc0 := hc
    obtain ⟨hcn, rfl, hck⟩ := hc
    have hs := hB.v.2.2.2.2.2.2.2.1 c hcn
    have hcu := hB1.cu c (by omega)
    refine g_iconst C dX6_mean_9 (v := 0) (by decide) ?_
    refine g_goto C dX6_mean_10 (tgt := 14) (by decide) ?_
    refine pu_Model_thrown C tw_5_89 (by exact hB.m) dX6_mean_14 ?_
    refine g_aload_n C dX6_mean_17 rfl rfl ?_
    refine ge_Model_thrown C tw_5_89 (by exact hB1.m) (by exact uI_q) dX6_mean_18 ?_
    refine g_if_ne C dX6_mean_21 (tgt := 33) (by decide) (fun c2 => ?_) (fun c2 => ?_)
    · exact absurd rfl c2
    · refine g_aload_n C dX6_mean_24 rfl rfl ?_
      refine ge_Model_noted C tw_5_100 (by exact hB1.m) (by exact hB1.f.r i_203) dX6_mean_25 ?_
      refine g_iload_n C dX6_mean_28 rfl rfl ?_
      refine g_ldI C rfl (hB1.f.i i_203 rfl) (hB1.f.lt i_203 (n := 40) rfl (by omega)) (by omega) hcu.2.1 dX6_mean_29 ?_
      rcases Nat.eq_zero_or_pos (tE B c) with h0 | h0
      · refine g_if_ne C dX6_mean_30 (tgt := 37) (by decide) (fun c3 => ?_) (fun c3 => ?_)
        · exact absurd (by rw [h0]; rfl) c3
        · refine g_dconst0 C dX6_mean_33 ?_
          refine g_goto C dX6_mean_34 (tgt := 52) (by decide) ?_
          refine g_dret C R (by omega) (by omega) dX6_mean_52 ?_
          exact ⟨0, _, Or.inr ⟨rfl, c, hc0, by unfold meanB; rw [if_pos h0]⟩, hI.thr 0, uI_q, FrM.i, rfl⟩
      · have hno := nan_no h0 hs.1 hs.2.1 hs.2.2.1
        refine g_if_ne C dX6_mean_30 (tgt := 37) (by decide) (fun c3 => ?_) (fun c3 => ?_)
        · refine g_aload_n C dX6_mean_37 rfl rfl ?_
          refine ge_Model_sums C tw_5_101 (by exact hB1.m) (by exact hB1.f.r i_204) dX6_mean_38 ?_
          refine g_iload_n C dX6_mean_41 rfl rfl ?_
          refine g_ldI C rfl (hB1.f.i i_204 rfl) (hB1.f.lt i_204 (n := 40) rfl (by omega)) (by omega) hcu.2.2.1 dX6_mean_42 ?_
          refine g_i2d C dX6_mean_43 ?_
          refine g_aload_n C dX6_mean_44 rfl rfl ?_
          refine ge_Model_noted C tw_5_100 (by exact hB1.m) (by exact hB1.f.r i_203) dX6_mean_45 ?_
          refine g_iload_n C dX6_mean_48 rfl rfl ?_
          refine g_ldI C rfl (hB1.f.i i_203 rfl) (hB1.f.lt i_203 (n := 40) rfl (by omega)) (by omega) hcu.2.1 dX6_mean_49 ?_
          refine g_i2d C dX6_mean_50 ?_
          refine g_ddiv C dX6_mean_51 hno.1 ?_
          refine g_dret C R (by omega) (by omega) dX6_mean_52 ?_
          exact ⟨0, _, Or.inr ⟨rfl, c, hc0, by unfold meanB; rw [if_neg (by omega)]⟩, hI.thr 0, uI_q, FrM.i, rfl⟩
        · exact absurd c3 (by intro e; have := nI_inj (b := 0) (by omega) (by omega) e; omega)
theorem md_worst {Γ : GBase} (F : FB Γ) (S : PS) (m : Nat) (rr : Nat → Nat) (B : BT) (hI : MdI S m rr B) : GMet Γ yX6_worst cX6_worst 3 ((some FieldType.int)) 2 0 0 [.ref m] S (fun r S' => MdI S' m rr B ∧ FrM S S' m ∧ r = some (.int (zO (wst B (tC B))))) noX := by
  have hB := hI.1
  have hB1 : MdB (uI S 192 m 0) m rr B := (hI.thr 0).1
  have h40 := hB.v.2.2.1
  have hsm := hB.v.2.2.2.2.2.2.2.1
  refine GMet.of (loc0 := [(0, .ref m)]) F (by decide +kernel) rfl (Nat.le_of_ble_eq_true rfl) (fun X C R Tb nm => ?_)
  have loop : ∀ (k i : Nat), i + k = tC B → GW Γ X (uI S 192 m 0) 0 0 9 [(0, .ref m), (1, .int (zO (wst B i))), (2, .int (nI i))] [] := by
    intro k
    induction k with
    | zero =>
      intro i hi
      refine g_iload_n C dX6_worst_9 rfl rfl ?_
      refine g_aload_n C dX6_worst_10 rfl rfl ?_
      refine ge_Model_cues C tw_5_96 (by exact hB1.m) (by exact hB1.c) dX6_worst_11 ?_
      refine g_icmp_ge C dX6_worst_14 (tgt := 63) (by decide) (fun c1 => ?_) (fun c1 => ?_)
      · refine g_iload_n C dX6_worst_63 rfl rfl ?_
        rw [show i = tC B by omega]
        refine g_iret C R rfl (by omega) (by omega) dX6_worst_64 ?_
        exact ⟨hI.thr 0, FrM.i, rfl⟩
      · exact absurd (nI_le (by omega) (by omega)) c1
    | succ k ih =>
      intro i hi
      have hin : i < tC B := by omega
      have hcu := hB1.cu i (by omega)
      have hs := hsm i hin
      have next : wst B (i + 1) = wst B i → GW Γ X (uI S 192 m 0) 0 0 57 [(0, .ref m), (1, .int (zO (wst B i))), (2, .int (nI i))] [] := by
        intro e
        refine g_iinc C dX6_worst_57 rfl (by first | exact inc1 _ | exact rfl) (by decide) rfl ?_
        refine g_goto C dX6_worst_60 (tgt := 9) (by decide) ?_
        rw [← e]
        refine g_sub [(0, _), (1, _), (2, _)] ⟨rfl, rfl, rfl, trivial⟩ ?_
        exact ih (i + 1) (by omega)
      have take : wst B (i + 1) = some i → GW Γ X (uI S 192 m 0) 0 0 55 [(0, .ref m), (1, .int (zO (wst B i))), (2, .int (nI i))] [] := by
        intro e
        refine g_iload_n C dX6_worst_55 rfl rfl ?_
        refine g_istore_n C dX6_worst_56 rfl (by decide) rfl ?_
        refine g_iinc C dX6_worst_57 rfl (by first | exact inc1 _ | exact rfl) (by decide) rfl ?_
        refine g_goto C dX6_worst_60 (tgt := 9) (by decide) ?_
        have nx := ih (i + 1) (by omega)
        rw [e] at nx
        refine g_sub [(0, _), (1, _), (2, _)] ⟨rfl, rfl, rfl, trivial⟩ ?_
        exact nx
      refine g_iload_n C dX6_worst_9 rfl rfl ?_
      refine g_aload_n C dX6_worst_10 rfl rfl ?_
      refine ge_Model_cues C tw_5_96 (by exact hB1.m) (by exact hB1.c) dX6_worst_11 ?_
      refine g_icmp_ge C dX6_worst_14 (tgt := 63) (by decide) (fun c1 => ?_) (fun c1 => ?_)
      · exact absurd c1 (nI_ge hin (by omega))
      · refine g_aload_n C dX6_worst_17 rfl rfl ?_
        refine ge_Model_areStruck C tw_5_98 (by exact hB1.m) (by exact hB1.f.r i_201) dX6_worst_18 ?_
        refine g_iload_n C dX6_worst_21 rfl rfl ?_
        refine g_ldZ C rfl hB1.f.z (hB1.f.lt i_201 (n := 40) rfl (by omega)) (by omega) hcu.1 dX6_worst_22 ?_
        cases hk : tK B i with
        | true =>
          refine g_if_ne C dX6_worst_23 (tgt := 57) (by decide) (fun c2 => ?_) (fun c2 => ?_)
          · exact next (wst_no (Or.inl hk))
          · exact absurd c2 (by decide)
        | false =>
          refine g_if_ne C dX6_worst_23 (tgt := 57) (by decide) (fun c2 => ?_) (fun c2 => ?_)
          · exact absurd rfl c2
          · refine g_aload_n C dX6_worst_26 rfl rfl ?_
            refine ge_Model_noted C tw_5_100 (by exact hB1.m) (by exact hB1.f.r i_203) dX6_worst_27 ?_
            refine g_iload_n C dX6_worst_30 rfl rfl ?_
            refine g_ldI C rfl (hB1.f.i i_203 rfl) (hB1.f.lt i_203 (n := 40) rfl (by omega)) (by omega) hcu.2.1 dX6_worst_31 ?_
            refine g_if_le C dX6_worst_32 (tgt := 57) (by decide) (fun c3 => ?_) (fun c3 => ?_)
            · refine next (wst_no (Or.inr (Or.inl ?_)))
              have := (nI_leI (b := 0) (by omega) (by omega)).mp c3
              omega
            · have hp : 0 < tE B i := by
                rcases Nat.eq_zero_or_pos (tE B i) with w | w
                · exact absurd (by rw [w]; decide) c3
                · exact w
              refine g_iload_n C dX6_worst_35 rfl rfl ?_
              refine g_iconst C dX6_worst_36 (v := -1) (by decide) ?_
              refine g_icmp_eq C dX6_worst_37 (tgt := 55) (by decide) (fun c4 => ?_) (fun c4 => ?_)
              · have e0 : wst B i = none := (zO_m1 (fun v hv => by have := wst_lt B i v hv; omega)).mp c4
                exact take (wst_yes hk hp (fun b hb => by rw [e0] at hb; cases hb))
              · obtain ⟨b, hb⟩ : ∃ b, wst B i = some b := by
                  cases hw : wst B i with
                  | none => rw [hw] at c4; exact absurd rfl c4
                  | some b => exact ⟨b, rfl⟩
                have hbi := wst_lt B i b hb
                have hcb := hB1.cu b (by omega)
                have hsb := hsm b (by omega)
                have eb : zO (wst B i) = nI b := by rw [hb]; rfl
                refine g_aload_n C dX6_worst_40 rfl rfl ?_
                refine ge_Model_greatness C tw_5_102 (by exact hB1.m) (by exact hB1.f.r i_205) dX6_worst_41 ?_
                refine g_iload_n C dX6_worst_44 rfl rfl ?_
                refine g_ldI C rfl (hB1.f.i i_205 rfl) (hB1.f.lt i_205 (n := 40) rfl (by omega)) (by omega) hcu.2.2.2 dX6_worst_45 ?_
                refine g_aload_n C dX6_worst_46 rfl rfl ?_
                refine ge_Model_greatness C tw_5_102 (by exact hB1.m) (by exact hB1.f.r i_205) dX6_worst_47 ?_
                refine g_iload_n C dX6_worst_50 rfl rfl ?_
                refine g_ldI C eb (hB1.f.i i_205 rfl) (hB1.f.lt i_205 (n := 40) rfl (by omega)) (by omega) hcb.2.2.2 dX6_worst_51 ?_
                refine g_icmp_le C dX6_worst_52 (tgt := 57) (by decide) (fun c5 => ?_) (fun c5 => ?_)
                · refine next (wst_no (Or.inr (Or.inr ⟨b, hb, ?_⟩)))
                  exact (nI_leI (by omega) (by omega)).mp c5
                · refine take (wst_yes hk hp (fun b' hb' => ?_))
                  rw [hb] at hb'
                  cases hb'
                  rcases Nat.lt_or_ge (tF B b) (tF B i) with w | w
                  · exact w
                  · exact absurd (nI_le w (by omega)) c5
  refine g_aload_n C dX6_worst_0 rfl rfl ?_
  refine g_iconst C dX6_worst_1 (v := 0) (by decide) ?_
  refine pu_Model_thrown C tw_5_89 (by exact hB.m) dX6_worst_2 ?_
  refine g_iconst C dX6_worst_5 (v := -1) (by decide) ?_
  refine g_istore_n C dX6_worst_6 rfl (by decide) rfl ?_
  refine g_iconst C dX6_worst_7 (v := 0) (by decide) ?_
  refine g_istore_n C dX6_worst_8 rfl (by decide) rfl ?_
  refine g_sub [(0, _), (1, _), (2, _)] ⟨rfl, rfl, rfl, trivial⟩ ?_
  exact loop (tC B) 0 (by omega)
