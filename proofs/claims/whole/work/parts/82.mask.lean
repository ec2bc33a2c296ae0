/-! ===== what the model is asked ===== -/
theorem FreshV.pl {S : PS} {rr : Nat → Nat} {B : BT} (h : FreshV S rr B) : PlV S rr B := h.2.1
theorem FreshV.ca {S : PS} {rr : Nat → Nat} {B : BT} (h : FreshV S rr B) : CaV S rr B (castB B) := fun p j s hp hs => (h.2.2.2 p j s hp hs).2.2
theorem MdO.ok {S S1 S2 : PS} {m : Nat} {rr : Nat → Nat} {B : BT} {sp : Nat → BT → Int32 → Prop} {v : Int32} (h : MdW S1 S2 m rr B) (h1 : FrM S S1 m) (t : pI S1 192 m = 0) (hs : sp 0 B v) : MdO S S2 m rr sp (some (.int v)) := ⟨0, B, v, v, hs, h.i, h.2.2.2.2.trans t, h1.tr h.2.2.2.1, rfl, fun _ => rfl⟩
theorem MdO.no1 {S : PS} {m : Nat} {rr : Nat → Nat} {B : BT} {sp : Nat → BT → Int32 → Prop} {k : Nat} (h : MdI S m rr B) (hk : k ≠ 0) (hs : ∀ v, sp k B v) : MdO S (uI S 192 m (nI k)) m rr sp (some (.int 0)) :=
  ⟨k, B, 0, 0, hs 0, h.thr _, uI_q, FrM.i, rfl, fun e => absurd e hk⟩
theorem md_whyBeat {Γ : GBase} (F : FB Γ) (S : PS) (m : Nat) (z : Int32) : GMet Γ yX6_whyBeat cX6_whyBeat 2 ((some FieldType.int)) 2 0 0 [.ref m, .int z] S (fun r S' => S = S' ∧ ∃ v, ((inR z 1000 ∧ v = 0) ∨ (¬ inR z 1000 ∧ v = 2)) ∧ r = some (.int v)) noX := by
  refine GMet.of (loc0 := [(0, .ref m), (1, .int z)]) F (by decide +kernel) rfl (Nat.le_of_ble_eq_true rfl) (fun X C R Tb nm => ?_)
  refine g_iload_n C dX6_whyBeat_0 rfl rfl ?_
  refine g_callS C gy_X6_isBeat tw_5_188 tw_5_189 (by decide) (md_isBeat F S z) rfl rfl (Nat.le_of_ble_eq_true rfl) (by omega) (by omega) dX6_whyBeat_1 (fun _ _ h9 => h9.elim) ?_
  rintro _ _ ⟨rfl, v, hv, rfl⟩
  refine g_if_eq C dX6_whyBeat_4 (tgt := 11) (by decide) (fun c1 => ?_) (fun c1 => ?_)
  · refine g_iconst C dX6_whyBeat_11 (v := 2) (by decide) ?_
    refine g_iret C R rfl (by omega) (by omega) dX6_whyBeat_12 ?_
    exact ⟨rfl, 2, Or.inr ⟨hv.neg c1, rfl⟩, rfl⟩
  · refine g_iconst C dX6_whyBeat_7 (v := 0) (by decide) ?_
    refine g_goto C dX6_whyBeat_8 (tgt := 12) (by decide) ?_
    refine g_iret C R rfl (by omega) (by omega) dX6_whyBeat_12 ?_
    exact ⟨rfl, 0, Or.inl ⟨hv.pos c1, rfl⟩, rfl⟩
def spPlace (B : BT) (y z : Int32) (k : Nat) (B' : BT) (v : Int32) : Prop := (k = 1 ∧ B' = B ∧ ¬ inR y (tN B)) ∨ (k = 2 ∧ B' = B ∧ inR y (tN B) ∧ ¬ inR z 1000) ∨ (k = 0 ∧ B' = B ∧ ∃ i b, i < tN B ∧ y = nI i ∧ b < 1000 ∧ z = nI b ∧ v = zO (plL (dsB B i) b))
def spTrack (B : BT) (y z : Int32) (k : Nat) (B' : BT) (v : Int32) : Prop := (k = 1 ∧ B' = B ∧ ¬ inR y (tN B)) ∨ (k = 2 ∧ B' = B ∧ inR y (tN B) ∧ ¬ inR z 1000) ∨ (k = 0 ∧ B' = B ∧ ∃ i b, i < tN B ∧ y = nI i ∧ b < 1000 ∧ z = nI b ∧ v = zO (trL (dsB B i) b))
theorem md_place {Γ : GBase} (F : FB Γ) (S : PS) (m : Nat) (y z : Int32) (rr : Nat → Nat) (B : BT) (hI : MdI S m rr B) : GMet Γ yX6_place cX6_place 3 ((some FieldType.int)) 6 1 8 [.ref m, .int y, .int z] S (fun r S' => MdO S S' m rr (spPlace B y z) r) noX := by
  have hB := hI.1
  have h8 := hB.v.1
  refine GMet.of (loc0 := [(0, .ref m), (1, .int y), (2, .int z)]) F (by decide +kernel) rfl (Nat.le_of_ble_eq_true rfl) (fun X C R Tb nm => ?_)
  refine g_aload_n C dX6_place_0 rfl rfl ?_
  refine g_aload_n C dX6_place_1 rfl rfl ?_
  refine g_iload_n C dX6_place_2 rfl rfl ?_
  refine g_callV C gy_X6_isPuppet tw_5_184 tw_5_186 ts_28 (by decide) (kk := 6) rfl rfl (by exact hB.m) (md_isPuppet F S m (tN B) y hB.m hB.n h8) rfl rfl (Nat.le_of_ble_eq_true rfl) (by omega) (by omega) dX6_place_3 (fun _ _ h9 => h9.elim) ?_
  rintro _ _ ⟨rfl, v, hv, rfl⟩
  refine g_if_eq C dX6_place_6 (tgt := 17) (by decide) (fun c1 => ?_) (fun c1 => ?_)
  · refine g_iconst C dX6_place_17 (v := 1) (by decide) ?_
    refine pu_Model_thrown C tw_5_89 (by exact hB.m) dX6_place_18 ?_
    refine g_aload_n C dX6_place_21 rfl rfl ?_
    refine ge_Model_thrown C tw_5_89 (by exact hB.m) (by exact uI_q) dX6_place_22 ?_
    refine g_if_eq C dX6_place_25 (tgt := 30) (by decide) (fun c2 => ?_) (fun c2 => ?_)
    · exact absurd c2 (by decide)
    · refine g_iconst C dX6_place_28 (v := 0) (by decide) ?_
      refine g_iret C R rfl (by omega) (by omega) dX6_place_29 ?_
      exact MdO.no1 (k := 1) hI (by decide) (fun v => Or.inl ⟨rfl, rfl, hv.neg c1⟩)
  · obtain ⟨i, hi, rfl⟩ := hv.pos c1
    refine g_aload_n C dX6_place_9 rfl rfl ?_
    refine g_iload_n C dX6_place_10 rfl rfl ?_
    refine g_callV C gy_X6_whyBeat tw_6_8 tw_6_10 ts_36 (by decide) (kk := 6) rfl rfl (by exact hB.m) (md_whyBeat F S m z) rfl rfl (Nat.le_of_ble_eq_true rfl) (by omega) (by omega) dX6_place_11 (fun _ _ h9 => h9.elim) ?_
    rintro _ _ ⟨rfl, v2, hw, rfl⟩
    rcases hw with ⟨hz, rfl⟩ | ⟨hz, rfl⟩
    · obtain ⟨b, hb, rfl⟩ := hz
      refine g_goto C dX6_place_14 (tgt := 18) (by decide) ?_
      refine pu_Model_thrown C tw_5_89 (by exact hB.m) dX6_place_18 ?_
      refine g_aload_n C dX6_place_21 rfl rfl ?_
      refine ge_Model_thrown C tw_5_89 (by exact hB.m) (by exact uI_q) dX6_place_22 ?_
      refine g_if_eq C dX6_place_25 (tgt := 30) (by decide) (fun c2 => ?_) (fun c2 => ?_)
      · refine g_aload_n C dX6_place_30 rfl rfl ?_
        refine g_callV C gy_X6_workOut tw_6_12 tw_6_14 ts_37 (by decide) (kk := 6) rfl rfl (by exact hB.m) (md_workOut F _ m rr B (hI.thr 0)) rfl rfl (Nat.le_of_ble_eq_true rfl) (by omega) (by omega) dX6_place_31 (fun _ _ h9 => h9.elim) ?_
        rintro _ _ ⟨rfl, hw⟩
        refine g_aload_n C dX6_place_34 rfl rfl ?_
        refine g_iload_n C dX6_place_35 rfl rfl ?_
        refine g_iload_n C dX6_place_36 rfl rfl ?_
        refine g_callV C gy_X6_placeAt tw_6_35 tw_6_37 ts_42 (by decide) (kk := 6) rfl rfl (by exact hw.1.m) (md_placeAt F _ m i b rr B hw.1 hw.2.2.1.pl hi hb) rfl rfl (Nat.le_of_ble_eq_true rfl) (by omega) (by omega) dX6_place_37 (fun _ _ h9 => h9.elim) ?_
        rintro _ _ ⟨rfl, rfl⟩
        refine g_iret C R rfl (by omega) (by omega) dX6_place_40 ?_
        exact MdO.ok hw FrM.i uI_q (Or.inr (Or.inr ⟨rfl, rfl, i, b, hi, rfl, hb, rfl, rfl⟩))
      · exact absurd rfl c2
    · refine g_goto C dX6_place_14 (tgt := 18) (by decide) ?_
      refine pu_Model_thrown C tw_5_89 (by exact hB.m) dX6_place_18 ?_
      refine g_aload_n C dX6_place_21 rfl rfl ?_
      refine ge_Model_thrown C tw_5_89 (by exact hB.m) (by exact uI_q) dX6_place_22 ?_
      refine g_if_eq C dX6_place_25 (tgt := 30) (by decide) (fun c2 => ?_) (fun c2 => ?_)
      · exact absurd c2 (by decide)
      · refine g_iconst C dX6_place_28 (v := 0) (by decide) ?_
        refine g_iret C R rfl (by omega) (by omega) dX6_place_29 ?_
        exact MdO.no1 (k := 2) hI (by decide) (fun v => Or.inr (Or.inl ⟨rfl, rfl, ⟨i, hi, rfl⟩, hz⟩))
theorem md_track {Γ : GBase} (F : FB Γ) (S : PS) (m : Nat) (y z : Int32) (rr : Nat → Nat) (B : BT) (hI : MdI S m rr B) : GMet Γ yX6_track cX6_track 3 ((some FieldType.int)) 6 1 8 [.ref m, .int y, .int z] S (fun r S' => MdO S S' m rr (spTrack B y z) r) noX := by
  have hB := hI.1
  have h8 := hB.v.1
  refine GMet.of (loc0 := [(0, .ref m), (1, .int y), (2, .int z)]) F (by decide +kernel) rfl (Nat.le_of_ble_eq_true rfl) (fun X C R Tb nm => ?_)
  refine g_aload_n C dX6_track_0 rfl rfl ?_
  refine g_aload_n C dX6_track_1 rfl rfl ?_
  refine g_iload_n C dX6_track_2 rfl rfl ?_
  refine g_callV C gy_X6_isPuppet tw_5_184 tw_5_186 ts_28 (by decide) (kk := 6) rfl rfl (by exact hB.m) (md_isPuppet F S m (tN B) y hB.m hB.n h8) rfl rfl (Nat.le_of_ble_eq_true rfl) (by omega) (by omega) dX6_track_3 (fun _ _ h9 => h9.elim) ?_
  rintro _ _ ⟨rfl, v, hv, rfl⟩
  refine g_if_eq C dX6_track_6 (tgt := 17) (by decide) (fun c1 => ?_) (fun c1 => ?_)
  · refine g_iconst C dX6_track_17 (v := 1) (by decide) ?_
    refine pu_Model_thrown C tw_5_89 (by exact hB.m) dX6_track_18 ?_
    refine g_aload_n C dX6_track_21 rfl rfl ?_
    refine ge_Model_thrown C tw_5_89 (by exact hB.m) (by exact uI_q) dX6_track_22 ?_
    refine g_if_eq C dX6_track_25 (tgt := 30) (by decide) (fun c2 => ?_) (fun c2 => ?_)
    · exact absurd c2 (by decide)
    · refine g_iconst C dX6_track_28 (v := 0) (by decide) ?_
      refine g_iret C R rfl (by omega) (by omega) dX6_track_29 ?_
      exact MdO.no1 (k := 1) hI (by decide) (fun v => Or.inl ⟨rfl, rfl, hv.neg c1⟩)
  · obtain ⟨i, hi, rfl⟩ := hv.pos c1
    refine g_aload_n C dX6_track_9 rfl rfl ?_
    refine g_iload_n C dX6_track_10 rfl rfl ?_
    refine g_callV C gy_X6_whyBeat tw_6_8 tw_6_10 ts_36 (by decide) (kk := 6) rfl rfl (by exact hB.m) (md_whyBeat F S m z) rfl rfl (Nat.le_of_ble_eq_true rfl) (by omega) (by omega) dX6_track_11 (fun _ _ h9 => h9.elim) ?_
    rintro _ _ ⟨rfl, v2, hw, rfl⟩
    rcases hw with ⟨hz, rfl⟩ | ⟨hz, rfl⟩
    · obtain ⟨b, hb, rfl⟩ := hz
      refine g_goto C dX6_track_14 (tgt := 18) (by decide) ?_
      refine pu_Model_thrown C tw_5_89 (by exact hB.m) dX6_track_18 ?_
      refine g_aload_n C dX6_track_21 rfl rfl ?_
      refine ge_Model_thrown C tw_5_89 (by exact hB.m) (by exact uI_q) dX6_track_22 ?_
      refine g_if_eq C dX6_track_25 (tgt := 30) (by decide) (fun c2 => ?_) (fun c2 => ?_)
      · refine g_aload_n C dX6_track_30 rfl rfl ?_
        refine g_callV C gy_X6_workOut tw_6_12 tw_6_14 ts_37 (by decide) (kk := 6) rfl rfl (by exact hB.m) (md_workOut F _ m rr B (hI.thr 0)) rfl rfl (Nat.le_of_ble_eq_true rfl) (by omega) (by omega) dX6_track_31 (fun _ _ h9 => h9.elim) ?_
        rintro _ _ ⟨rfl, hw⟩
        refine g_aload_n C dX6_track_34 rfl rfl ?_
        refine g_iload_n C dX6_track_35 rfl rfl ?_
        refine g_iload_n C dX6_track_36 rfl rfl ?_
        refine g_callV C gy_X6_trackAt tw_6_43 tw_6_45 ts_43 (by decide) (kk := 6) rfl rfl (by exact hw.1.m) (md_trackAt F _ m i b rr B hw.1 hw.2.2.1.pl hi hb) rfl rfl (Nat.le_of_ble_eq_true rfl) (by omega) (by omega) dX6_track_37 (fun _ _ h9 => h9.elim) ?_
        rintro _ _ ⟨rfl, rfl⟩
        refine g_iret C R rfl (by omega) (by omega) dX6_track_40 ?_
        exact MdO.ok hw FrM.i uI_q (Or.inr (Or.inr ⟨rfl, rfl, i, b, hi, rfl, hb, rfl, rfl⟩))
      · exact absurd rfl c2
    · refine g_goto C dX6_track_14 (tgt := 18) (by decide) ?_
      refine pu_Model_thrown C tw_5_89 (by exact hB.m) dX6_track_18 ?_
      refine g_aload_n C dX6_track_21 rfl rfl ?_
      refine ge_Model_thrown C tw_5_89 (by exact hB.m) (by exact uI_q) dX6_track_22 ?_
      refine g_if_eq C dX6_track_25 (tgt := 30) (by decide) (fun c2 => ?_) (fun c2 => ?_)
      · exact absurd c2 (by decide)
      · refine g_iconst C dX6_track_28 (v := 0) (by decide) ?_
        refine g_iret C R rfl (by omega) (by omega) dX6_track_29 ?_
        exact MdO.no1 (k := 2) hI (by decide) (fun v => Or.inr (Or.inl ⟨rfl, rfl, ⟨i, hi, rfl⟩, hz⟩))
def spOnStage (B : BT) (z : Int32) (k : Nat) (B' : BT) (v : Int32) : Prop := (k = 1 ∧ B' = B ∧ ¬ inR z 1000) ∨ (k = 0 ∧ B' = B ∧ ∃ b, b < 1000 ∧ z = nI b ∧ v = nI (maskN (fun p => (plL (dsB B p) b).isSome) (tN B)))
theorem md_onStage {Γ : GBase} (F : FB Γ) (S : PS) (m : Nat) (z : Int32) (rr : Nat → Nat) (B : BT) (hI : MdI S m rr B) : GMet Γ yX6_onStage cX6_onStage 4 ((some FieldType.int)) 6 1 8 [.ref m, .int z] S (fun r S' => MdO S S' m rr (spOnStage B z) r) noX := by
  have hB1 : MdB (uI S 192 m 0) m rr B := (hI.thr 0).1
  have h8 := hB1.v.1
  refine GMet.of (loc0 := [(0, .ref m), (1, .int z)]) F (by decide +kernel) rfl (Nat.le_of_ble_eq_true rfl) (fun X C R Tb nm => ?_)
  refine g_aload_n C dX6_onStage_0 rfl rfl ?_
  refine g_iconst C dX6_onStage_1 (v := 0) (by decide) ?_
  refine pu_Model_thrown C tw_5_89 (by exact hI.1.m) dX6_onStage_2 ?_
  refine g_iload_n C dX6_onStage_5 rfl rfl ?_
  refine g_callS C gy_X6_isBeat tw_5_188 tw_5_189 (by decide) (md_isBeat F _ z) rfl rfl (Nat.le_of_ble_eq_true rfl) (by omega) (by omega) dX6_onStage_6 (fun _ _ h9 => h9.elim) ?_
  rintro _ _ ⟨rfl, v, hv, rfl⟩
  refine g_if_ne C dX6_onStage_9 (tgt := 18) (by decide) (fun c1 => ?_) (fun c1 => ?_)
  · obtain ⟨b, hb, rfl⟩ := hv.pos c1
    refine g_aload_n C dX6_onStage_18 rfl rfl ?_
    refine g_callV C gy_X6_workOut tw_6_12 tw_6_14 ts_37 (by decide) (kk := 6) rfl rfl (by exact hB1.m) (md_workOut F _ m rr B (hI.thr 0)) rfl rfl (Nat.le_of_ble_eq_true rfl) (by omega) (by omega) dX6_onStage_19 (fun _ _ h9 => h9.elim) ?_
    rintro _ _ ⟨rfl, hw⟩
    rename_i S2
    have gB := hw.1
    have loop : ∀ (k i : Nat), i + k = tN B → GW Γ X S2 1 8 26 [(0, .ref m), (1, .int (nI b)), (2, .int (nI (maskN (fun p => (plL (dsB B p) b).isSome) i))), (3, .int (nI i))] [] := by
      intro k
      induction k with
      | zero =>
        intro i hi
        have ei : i = tN B := by omega
        subst ei
        refine g_iload_n C dX6_onStage_26 rfl rfl ?_
        refine g_aload_n C dX6_onStage_27 rfl rfl ?_
        refine ge_Model_puppets C tw_5_90 (by exact gB.m) (by exact gB.n) dX6_onStage_28 ?_
        refine g_icmp_ge C dX6_onStage_31 (tgt := 56) (by decide) (fun c2 => ?_) (fun c2 => ?_)
        · refine g_iload_n C dX6_onStage_56 rfl rfl ?_
          refine g_iret C R rfl (by omega) (by omega) dX6_onStage_57 ?_
          exact MdO.ok hw FrM.i uI_q (Or.inr ⟨rfl, rfl, b, hb, rfl, rfl⟩)
        · exact absurd (nI_le (Nat.le_refl _) (by omega)) c2
      | succ k ih =>
        intro i hi
        have hiN : i < tN B := by omega
        have hg := hB1.v.good hiN
        have nx := ih (i + 1) (by omega)
        refine g_iload_n C dX6_onStage_26 rfl rfl ?_
        refine g_aload_n C dX6_onStage_27 rfl rfl ?_
        refine ge_Model_puppets C tw_5_90 (by exact gB.m) (by exact gB.n) dX6_onStage_28 ?_
        refine g_icmp_ge C dX6_onStage_31 (tgt := 56) (by decide) (fun c2 => ?_) (fun c2 => ?_)
        · exact absurd c2 (nI_ge hiN (by omega))
        · refine g_aload_n C dX6_onStage_34 rfl rfl ?_
          refine g_iload_n C dX6_onStage_35 rfl rfl ?_
          refine g_iload_n C dX6_onStage_36 rfl rfl ?_
          refine g_callV C gy_X6_placeAt tw_6_35 tw_6_37 ts_42 (by decide) (kk := 6) rfl rfl (by exact gB.m) (md_placeAt F _ m i b rr B gB hw.2.2.1.pl hiN hb) rfl rfl (Nat.le_of_ble_eq_true rfl) (by omega) (by omega) dX6_onStage_37 (fun _ _ h9 => h9.elim) ?_
          rintro _ _ ⟨rfl, rfl⟩
          refine g_iconst C dX6_onStage_40 (v := -1) (by decide) ?_
          refine g_icmp_eq C dX6_onStage_41 (tgt := 50) (by decide) (fun c3 => ?_) (fun c3 => ?_)
          · have e : maskN (fun p => (plL (dsB B p) b).isSome) (i + 1) = maskN (fun p => (plL (dsB B p) b).isSome) i := by
              simp [maskN, (hg.plz b).mp c3]
            rw [e] at nx
            refine g_iinc C dX6_onStage_50 rfl (by first | exact inc1 _ | exact rfl) (by decide) rfl ?_
            refine g_goto C dX6_onStage_53 (tgt := 26) (by decide) ?_
            refine g_sub [(0, _), (1, _), (2, _), (3, _)] ⟨rfl, rfl, rfl, rfl, trivial⟩ ?_
            exact nx
          · have e : maskN (fun p => (plL (dsB B p) b).isSome) (i + 1) = maskN (fun p => (plL (dsB B p) b).isSome) i ||| 2 ^ i := by
              have hs : (plL (dsB B i) b).isSome = true := by
                cases h : plL (dsB B i) b with
                | none => exact absurd ((hg.plz b).mpr h) c3
                | some w => rfl
              simp [maskN, hs]
            rw [e] at nx
            refine g_iload_n C dX6_onStage_44 rfl rfl ?_
            refine g_iconst C dX6_onStage_45 (v := 1) (by decide) ?_
            refine g_iload_n C dX6_onStage_46 rfl rfl ?_
            refine g_ishl C dX6_onStage_47 ?_
            rw [nb_bit i (by omega)]
            refine g_ior C dX6_onStage_48 ?_
            rw [nb_or]
            refine g_istore_n C dX6_onStage_49 rfl (by decide) rfl ?_
            refine g_iinc C dX6_onStage_50 rfl (by first | exact inc1 _ | exact rfl) (by decide) rfl ?_
            refine g_goto C dX6_onStage_53 (tgt := 26) (by decide) ?_
            refine g_sub [(0, _), (1, _), (2, _), (3, _)] ⟨rfl, rfl, rfl, rfl, trivial⟩ ?_
            exact nx
    refine g_iconst C dX6_onStage_22 (v := 0) (by decide) ?_
    refine g_istore_n C dX6_onStage_23 rfl (by decide) rfl ?_
    refine g_iconst C dX6_onStage_24 (v := 0) (by decide) ?_
    refine g_istore_n C dX6_onStage_25 rfl (by decide) rfl ?_
    refine g_sub [(0, _), (1, _), (2, _), (3, _)] ⟨rfl, rfl, rfl, rfl, trivial⟩ ?_
    exact loop (tN B) 0 (by omega)
  · refine g_aload_n C dX6_onStage_12 rfl rfl ?_
    refine g_iconst C dX6_onStage_13 (v := 1) (by decide) ?_
    refine g_callV C gy_X6_fail tw_5_168 tw_5_170 ts_26 (by decide) (kk := 6) rfl rfl (by exact hB1.m) (md_fail F _ m 1 hB1.m) rfl rfl (Nat.le_of_ble_eq_true rfl) (by omega) (by omega) dX6_onStage_14 (fun _ _ h9 => h9.elim) ?_
    rintro _ _ ⟨rfl, rfl⟩
    refine g_iret C R rfl (by omega) (by omega) dX6_onStage_17 ?_
    exact MdO.no (k := 1) hI (by decide) (fun v => Or.inl ⟨rfl, rfl, hv.neg c1⟩)
theorem md_areOnOneTrack {Γ : GBase} (F : FB Γ) (S : PS) (m p q t : Nat) (rr : Nat → Nat) (B : BT) (hB : MdB S m rr B) (hP : PlV S rr B) (hp : p < tN B) (hq : q < tN B) (ht : t < 1000) : GMet Γ yX6_areOnOneTrack cX6_areOnOneTrack 4 ((some FieldType.boolean)) 1 0 0 [.ref m, .int (nI p), .int (nI q), .int (nI t)] S (fun r S' => S = S' ∧ ∃ v, isB v (oneT (dsB B p) (dsB B q) t) ∧ r = some (.int v)) noX := by
  have hgp := hB.v.good hp
  have hgq := hB.v.good hq
  refine GMet.of (loc0 := [(0, .ref m), (1, .int (nI p)), (2, .int (nI q)), (3, .int (nI t))]) F (by decide +kernel) rfl (Nat.le_of_ble_eq_true rfl) (fun X C R Tb nm => ?_)
  have no : ¬ oneT (dsB B p) (dsB B q) t → GW Γ X S 0 0 39 [(0, .ref m), (1, .int (nI p)), (2, .int (nI q)), (3, .int (nI t))] [] := by
    intro h
    refine g_iconst C dX6_areOnOneTrack_39 (v := 0) (by decide) ?_
    refine g_iret C R rfl (by omega) (by omega) dX6_areOnOneTrack_40 ?_
    exact ⟨rfl, 0, Or.inr ⟨rfl, h⟩, rfl⟩
  refine g_aload_n C dX6_areOnOneTrack_0 rfl rfl ?_
  refine g_iload_n C dX6_areOnOneTrack_1 rfl rfl ?_
  refine g_iload_n C dX6_areOnOneTrack_2 rfl rfl ?_
  refine g_callV C gy_X6_placeAt tw_6_35 tw_6_37 ts_42 (by decide) (kk := 6) rfl rfl (by exact hB.m) (md_placeAt F S m p t rr B hB hP hp ht) rfl rfl (Nat.le_of_ble_eq_true rfl) (by omega) (by omega) dX6_areOnOneTrack_3 (fun _ _ h9 => h9.elim) ?_
  rintro _ _ ⟨rfl, rfl⟩
  refine g_iconst C dX6_areOnOneTrack_6 (v := -1) (by decide) ?_
  refine g_icmp_eq C dX6_areOnOneTrack_7 (tgt := 39) (by decide) (fun c1 => ?_) (fun c1 => ?_)
  · refine no (fun h => ?_)
    have h1 := h.1
    rw [plL_trL, (hgp.plz t).mp c1] at h1
    cases h1
  · refine g_aload_n C dX6_areOnOneTrack_10 rfl rfl ?_
    refine g_iload_n C dX6_areOnOneTrack_11 rfl rfl ?_
    refine g_iload_n C dX6_areOnOneTrack_12 rfl rfl ?_
    refine g_callV C gy_X6_placeAt tw_6_35 tw_6_37 ts_42 (by decide) (kk := 6) rfl rfl (by exact hB.m) (md_placeAt F S m q t rr B hB hP hq ht) rfl rfl (Nat.le_of_ble_eq_true rfl) (by omega) (by omega) dX6_areOnOneTrack_13 (fun _ _ h9 => h9.elim) ?_
    rintro _ _ ⟨rfl, rfl⟩
    refine g_iconst C dX6_areOnOneTrack_16 (v := -1) (by decide) ?_
    refine g_icmp_eq C dX6_areOnOneTrack_17 (tgt := 39) (by decide) (fun c2 => ?_) (fun c2 => ?_)
    · refine no (fun h => ?_)
      have h1 := h.1
      rw [h.2, plL_trL, (hgq.plz t).mp c2] at h1
      cases h1
    · refine g_aload_n C dX6_areOnOneTrack_20 rfl rfl ?_
      refine g_iload_n C dX6_areOnOneTrack_21 rfl rfl ?_
      refine g_iload_n C dX6_areOnOneTrack_22 rfl rfl ?_
      refine g_callV C gy_X6_trackAt tw_6_43 tw_6_45 ts_43 (by decide) (kk := 6) rfl rfl (by exact hB.m) (md_trackAt F S m p t rr B hB hP hp ht) rfl rfl (Nat.le_of_ble_eq_true rfl) (by omega) (by omega) dX6_areOnOneTrack_23 (fun _ _ h9 => h9.elim) ?_
      rintro _ _ ⟨rfl, rfl⟩
      refine g_aload_n C dX6_areOnOneTrack_26 rfl rfl ?_
      refine g_iload_n C dX6_areOnOneTrack_27 rfl rfl ?_
      refine g_iload_n C dX6_areOnOneTrack_28 rfl rfl ?_
      refine g_callV C gy_X6_trackAt tw_6_43 tw_6_45 ts_43 (by decide) (kk := 6) rfl rfl (by exact hB.m) (md_trackAt F S m q t rr B hB hP hq ht) rfl rfl (Nat.le_of_ble_eq_true rfl) (by omega) (by omega) dX6_areOnOneTrack_29 (fun _ _ h9 => h9.elim) ?_
      rintro _ _ ⟨rfl, rfl⟩
      refine g_icmp_ne C dX6_areOnOneTrack_32 (tgt := 39) (by decide) (fun c3 => ?_) (fun c3 => ?_)
      · exact no (fun h => c3 (by rw [h.2]))
      · refine g_iconst C dX6_areOnOneTrack_35 (v := 1) (by decide) ?_
        refine g_goto C dX6_areOnOneTrack_36 (tgt := 40) (by decide) ?_
        refine g_iret C R rfl (by omega) (by omega) dX6_areOnOneTrack_40 ?_
        refine ⟨rfl, 1, Or.inl ⟨rfl, ?_, (hgp.tri hgq t t).mp c3⟩, rfl⟩
        rw [plL_trL]
        cases h : plL (dsB B p) t with
        | none => exact absurd ((hgp.plz t).mpr h) c1
        | some w => rfl
theorem md_firstClash {Γ : GBase} (F : FB Γ) (S : PS) (m p q : Nat) (rr : Nat → Nat) (B : BT) (hB : MdB S m rr B) (hP : PlV S rr B) (hp : p < tN B) (hq : q < tN B) : GMet Γ yX6_firstClash cX6_firstClash 4 ((some FieldType.int)) 2 0 0 [.ref m, .int (nI p), .int (nI q)] S (fun r S' => S = S' ∧ r = some (.int (zO (fcB B p q)))) noX := by
  have hgp := hB.v.good hp
  have hgq := hB.v.good hq
  refine GMet.of (loc0 := [(0, .ref m), (1, .int (nI p)), (2, .int (nI q))]) F (by decide +kernel) rfl (Nat.le_of_ble_eq_true rfl) (fun X C R Tb nm => ?_)
  have loop : ∀ (k t : Nat), t + k = 1000 → (∀ t', t' < t → ¬ clD (dsB B p) (dsB B q) t') → GW Γ X S 0 0 2 [(0, .ref m), (1, .int (nI p)), (2, .int (nI q)), (3, .int (nI t))] [] := by
    intro k
    induction k with
    | zero =>
      intro t ht hno
      have et : t = 1000 := by omega
      refine g_iload_n C dX6_firstClash_2 rfl rfl ?_
      refine g_sipush C dX6_firstClash_3 (v := 1000) (by decide) ?_
      refine g_icmp_ge C dX6_firstClash_6 (tgt := 102) (by decide) (fun c1 => ?_) (fun c1 => ?_)
      · refine g_iconst C dX6_firstClash_102 (v := -1) (by decide) ?_
        refine g_iret C R rfl (by omega) (by omega) dX6_firstClash_103 ?_
        have e : fcB B p q = none := pick_none (fun i hi => hno i (by omega))
        rw [e]
        exact ⟨rfl, rfl⟩
      · exact absurd (nI_le (a := 1000) (by omega) (by omega)) c1
    | succ k ih =>
      intro t ht hno
      have ht1 : t < 1000 := by omega
      have next : ¬ clD (dsB B p) (dsB B q) t → GW Γ X S 0 0 96 [(0, .ref m), (1, .int (nI p)), (2, .int (nI q)), (3, .int (nI t))] [] := by
        intro h
        refine g_iinc C dX6_firstClash_96 rfl (by first | exact inc1 _ | exact rfl) (by decide) rfl ?_
        refine g_goto C dX6_firstClash_99 (tgt := 2) (by decide) ?_
        refine g_sub [(0, _), (1, _), (2, _), (3, _)] ⟨rfl, rfl, rfl, rfl, trivial⟩ ?_
        exact ih (t + 1) (by omega) (fun t' ht' => by
          by_cases e : t' = t
          · rw [e]; exact h
          · exact hno t' (by omega))
      have found : clD (dsB B p) (dsB B q) t → zO (fcB B p q) = nI t := fun h => by
        have e : fcB B p q = some t := pick_some ht1 h hno
        rw [e]
        rfl
      refine g_iload_n C dX6_firstClash_2 rfl rfl ?_
      refine g_sipush C dX6_firstClash_3 (v := 1000) (by decide) ?_
      refine g_icmp_ge C dX6_firstClash_6 (tgt := 102) (by decide) (fun c1 => ?_) (fun c1 => ?_)
      · exact absurd c1 (nI_ge (b := 1000) (by omega) (by omega))
      · refine g_aload_n C dX6_firstClash_9 rfl rfl ?_
        refine g_iload_n C dX6_firstClash_10 rfl rfl ?_
        refine g_iload_n C dX6_firstClash_11 rfl rfl ?_
        refine g_iload_n C dX6_firstClash_12 rfl rfl ?_
        refine g_callV C gy_X6_areOnOneTrack tw_6_59 tw_6_61 ts_45 (by decide) (kk := 6) rfl rfl (by exact hB.m) (md_areOnOneTrack F S m p q t rr B hB hP hp hq ht1) rfl rfl (Nat.le_of_ble_eq_true rfl) (by omega) (by omega) dX6_firstClash_13 (fun _ _ h9 => h9.elim) ?_
        rintro _ _ ⟨rfl, v, hv, rfl⟩
        refine g_if_ne C dX6_firstClash_16 (tgt := 22) (by decide) (fun c2 => ?_) (fun c2 => ?_)
        · have hone := hv.pos c2
          refine g_aload_n C dX6_firstClash_22 rfl rfl ?_
          refine g_iload_n C dX6_firstClash_23 rfl rfl ?_
          refine g_iload_n C dX6_firstClash_24 rfl rfl ?_
          refine g_callV C gy_X6_placeAt tw_6_35 tw_6_37 ts_42 (by decide) (kk := 6) rfl rfl (by exact hB.m) (md_placeAt F S m p t rr B hB hP hp ht1) rfl rfl (Nat.le_of_ble_eq_true rfl) (by omega) (by omega) dX6_firstClash_25 (fun _ _ h9 => h9.elim) ?_
          rintro _ _ ⟨rfl, rfl⟩
          refine g_aload_n C dX6_firstClash_28 rfl rfl ?_
          refine g_iload_n C dX6_firstClash_29 rfl rfl ?_
          refine g_iload_n C dX6_firstClash_30 rfl rfl ?_
          refine g_callV C gy_X6_placeAt tw_6_35 tw_6_37 ts_42 (by decide) (kk := 6) rfl rfl (by exact hB.m) (md_placeAt F S m q t rr B hB hP hq ht1) rfl rfl (Nat.le_of_ble_eq_true rfl) (by omega) (by omega) dX6_firstClash_31 (fun _ _ h9 => h9.elim) ?_
          rintro _ _ ⟨rfl, rfl⟩
          refine g_icmp_ne C dX6_firstClash_34 (tgt := 39) (by decide) (fun c3 => ?_) (fun c3 => ?_)
          · have n1 : ¬ plL (dsB B p) t = plL (dsB B q) t := fun e => c3 (by rw [e])
            refine g_iload_n C dX6_firstClash_39 rfl rfl ?_
            refine g_iconst C dX6_firstClash_40 (v := 1) (by decide) ?_
            refine g_iadd C dX6_firstClash_41 ?_
            rw [nI_1]
            refine g_sipush C dX6_firstClash_42 (v := 1000) (by decide) ?_
            refine g_icmp_ge C dX6_firstClash_45 (tgt := 96) (by decide) (fun c4 => ?_) (fun c4 => ?_)
            · have := (nI_leI (a := 1000) (by omega) (by omega)).mp c4
              exact next (fun h => h.2.elim n1 (fun g => by have := g.1; omega))
            · have ht2 : t + 1 < 1000 := by
                rcases Nat.lt_or_ge (t + 1) 1000 with w | w
                · exact w
                · exact absurd (nI_le (a := 1000) w (by omega)) c4
              refine g_aload_n C dX6_firstClash_48 rfl rfl ?_
              refine g_iload_n C dX6_firstClash_49 rfl rfl ?_
              refine g_iload_n C dX6_firstClash_50 rfl rfl ?_
              refine g_iload_n C dX6_firstClash_51 rfl rfl ?_
              refine g_iconst C dX6_firstClash_52 (v := 1) (by decide) ?_
              refine g_iadd C dX6_firstClash_53 ?_
              rw [nI_1]
              refine g_callV C gy_X6_areOnOneTrack tw_6_59 tw_6_61 ts_45 (by decide) (kk := 6) rfl rfl (by exact hB.m) (md_areOnOneTrack F S m p q (t + 1) rr B hB hP hp hq ht2) rfl rfl (Nat.le_of_ble_eq_true rfl) (by omega) (by omega) dX6_firstClash_54 (fun _ _ h9 => h9.elim) ?_
              rintro _ _ ⟨rfl, v2, hv2, rfl⟩
              refine g_if_eq C dX6_firstClash_57 (tgt := 96) (by decide) (fun c5 => ?_) (fun c5 => ?_)
              · refine g_sub [(0, _), (1, _), (2, _), (3, _)] ⟨rfl, rfl, rfl, rfl, trivial⟩ ?_
                exact next (fun h => h.2.elim n1 (fun g => hv2.neg c5 g.2.1))
              · have hone2 := hv2.pos c5
                refine g_aload_n C dX6_firstClash_60 rfl rfl ?_
                refine g_iload_n C dX6_firstClash_61 rfl rfl ?_
                refine g_iload_n C dX6_firstClash_62 rfl rfl ?_
                refine g_callV C gy_X6_placeAt tw_6_35 tw_6_37 ts_42 (by decide) (kk := 6) rfl rfl (by exact hB.m) (md_placeAt F S m p t rr B hB hP hp ht1) rfl rfl (Nat.le_of_ble_eq_true rfl) (by omega) (by omega) dX6_firstClash_63 (fun _ _ h9 => h9.elim) ?_
                rintro _ _ ⟨rfl, rfl⟩
                refine g_aload_n C dX6_firstClash_66 rfl rfl ?_
                refine g_iload_n C dX6_firstClash_67 rfl rfl ?_
                refine g_iload_n C dX6_firstClash_68 rfl rfl ?_
                refine g_iconst C dX6_firstClash_69 (v := 1) (by decide) ?_
                refine g_iadd C dX6_firstClash_70 ?_
                rw [nI_1]
                refine g_callV C gy_X6_placeAt tw_6_35 tw_6_37 ts_42 (by decide) (kk := 6) rfl rfl (by exact hB.m) (md_placeAt F S m q (t + 1) rr B hB hP hq ht2) rfl rfl (Nat.le_of_ble_eq_true rfl) (by omega) (by omega) dX6_firstClash_71 (fun _ _ h9 => h9.elim) ?_
                rintro _ _ ⟨rfl, rfl⟩
                refine g_icmp_ne C dX6_firstClash_74 (tgt := 96) (by decide) (fun c6 => ?_) (fun c6 => ?_)
                · refine g_sub [(0, _), (1, _), (2, _), (3, _)] ⟨rfl, rfl, rfl, rfl, trivial⟩ ?_
                  exact next (fun h => h.2.elim n1 (fun g => c6 (by rw [g.2.2.1])))
                · have e1 := (hgp.pli hgq t (t + 1)).mp c6
                  refine g_aload_n C dX6_firstClash_77 rfl rfl ?_
                  refine g_iload_n C dX6_firstClash_78 rfl rfl ?_
                  refine g_iload_n C dX6_firstClash_79 rfl rfl ?_
                  refine g_callV C gy_X6_placeAt tw_6_35 tw_6_37 ts_42 (by decide) (kk := 6) rfl rfl (by exact hB.m) (md_placeAt F S m q t rr B hB hP hq ht1) rfl rfl (Nat.le_of_ble_eq_true rfl) (by omega) (by omega) dX6_firstClash_80 (fun _ _ h9 => h9.elim) ?_
                  rintro _ _ ⟨rfl, rfl⟩
                  refine g_aload_n C dX6_firstClash_83 rfl rfl ?_
                  refine g_iload_n C dX6_firstClash_84 rfl rfl ?_
                  refine g_iload_n C dX6_firstClash_85 rfl rfl ?_
                  refine g_iconst C dX6_firstClash_86 (v := 1) (by decide) ?_
                  refine g_iadd C dX6_firstClash_87 ?_
                  rw [nI_1]
                  refine g_callV C gy_X6_placeAt tw_6_35 tw_6_37 ts_42 (by decide) (kk := 6) rfl rfl (by exact hB.m) (md_placeAt F S m p (t + 1) rr B hB hP hp ht2) rfl rfl (Nat.le_of_ble_eq_true rfl) (by omega) (by omega) dX6_firstClash_88 (fun _ _ h9 => h9.elim) ?_
                  rintro _ _ ⟨rfl, rfl⟩
                  refine g_icmp_ne C dX6_firstClash_91 (tgt := 96) (by decide) (fun c7 => ?_) (fun c7 => ?_)
                  · refine g_sub [(0, _), (1, _), (2, _), (3, _)] ⟨rfl, rfl, rfl, rfl, trivial⟩ ?_
                    exact next (fun h => h.2.elim n1 (fun g => c7 (by rw [g.2.2.2])))
                  · have e2 := (hgq.pli hgp t (t + 1)).mp c7
                    refine g_iload_n C dX6_firstClash_94 rfl rfl ?_
                    refine g_iret C R rfl (by omega) (by omega) dX6_firstClash_95 ?_
                    rw [found ⟨hone, Or.inr ⟨ht2, hone2, e1, e2⟩⟩]
                    exact ⟨rfl, rfl⟩
          · have e1 := (hgp.pli hgq t t).mp c3
            refine g_iload_n C dX6_firstClash_37 rfl rfl ?_
            refine g_iret C R rfl (by omega) (by omega) dX6_firstClash_38 ?_
            rw [found ⟨hone, Or.inl e1⟩]
            exact ⟨rfl, rfl⟩
        · refine g_goto C dX6_firstClash_19 (tgt := 96) (by decide) ?_
          refine g_sub [(0, _), (1, _), (2, _), (3, _)] ⟨rfl, rfl, rfl, rfl, trivial⟩ ?_
          exact next (fun h => hv.neg c2 h.1)
  refine g_iconst C dX6_firstClash_0 (v := 0) (by decide) ?_
  refine g_istore_n C dX6_firstClash_1 rfl (by decide) rfl ?_
  refine g_sub [(0, _), (1, _), (2, _), (3, _)] ⟨rfl, rfl, rfl, rfl, trivial⟩ ?_
  exact loop 1000 0 (by omega) (fun t' ht' => absurd ht' (Nat.not_lt_zero t'))
