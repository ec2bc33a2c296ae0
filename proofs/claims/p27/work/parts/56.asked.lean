theorem BkI.cast {Γ : GBase} {S : PS} {x : Nat} {A : AD} {B : BT} (h : BkI Γ S x A B) (h5 : pI S 165 x = 1) : ∃ os, BkL Γ S x 163 (8 * x + 6) os ∧ CastV S x A B os := by
  obtain ⟨-, -, -, -, ⟨os, a5, -, -, a8⟩, -⟩ := h
  rcases a8 with a8 | ⟨_, a8⟩
  · rw [h5] at a8; exact absurd a8 (by decide)
  · exact ⟨os, a5, a8⟩
noncomputable def stW (B : BT) (i j w : Nat) : Int32 := match (stL (dsB B i))[j]? with
  | some s => if w = 0 then nI s.1 else if w = 1 then nI s.2 else zO (castB B i j)
  | none => 0
theorem m_hands {Γ : GBase} (F : FB Γ) (S : PS) (x : Nat) (y z : Int32) (A : AD) (B : BT) (hI : BkI Γ S x A B) : GMet Γ yX5_hands cX5_hands 4 ((some FieldType.int)) 9 42 4012 [.ref x, .int y, .int z] S (fun r S' => BkI Γ S' x A B ∧ FrB S S' ∧ ∃ q b, q < tQ B ∧ y = nI q ∧ b < 1000 ∧ z = nI b ∧ r = some (.int (nI (hmB B q b)))) (fun E S' => S = S' ∧ ((E = xIOB ∧ ¬ inR y (tQ B)) ∨ (E = xIAE ∧ inR y (tQ B) ∧ ¬ inR z 1000))) := by
  have hI0 := hI
  obtain ⟨hx, -, hL, -, -, -, -, -, hY, -⟩ := hI
  refine GMet.of (loc0 := [(0, .ref x), (1, .int y), (2, .int z)]) F (by decide +kernel) rfl (Nat.le_of_ble_eq_true rfl) (fun X C R Tb nm => ?_)
  refine g_aload_n C dX5_hands_0 rfl rfl ?_
  refine g_iload_n C dX5_hands_1 rfl rfl ?_
  refine g_callV C gy_X5_playerNumbered tw_2_97 tw_2_99 ts_13 (by decide) (kk := 5) rfl rfl (by exact hx) (m_playerNumbered F S x y _ _ _ hx hL hY.aL) rfl rfl (Nat.le_of_ble_eq_true rfl) (by omega) (by omega) dX5_hands_2 (fun _ _ h9 => g_out C R Tb (by omega) (by omega) ⟨h9.2.1, Or.inl ⟨h9.1, h9.2.2⟩⟩) ?_
  rintro _ _ ⟨rfl, q, hq, hyq, rfl⟩
  refine g_astore_n C dX5_hands_5 rfl (by decide) rfl ?_
  refine g_iload_n C dX5_hands_6 rfl rfl ?_
  refine g_callS C gy_X5_requireBeat tw_1_176 tw_1_177 (by decide) (m_requireBeat F S z) rfl rfl (Nat.le_of_ble_eq_true rfl) (by omega) (by omega) dX5_hands_7 (fun _ _ h9 => g_out C R Tb (by omega) (by omega) ⟨h9.2.1, Or.inr ⟨h9.1, ⟨q, hq, hyq⟩, h9.2.2⟩⟩) ?_
  rintro _ _ ⟨⟨rfl, rfl⟩, b, hb, hzb⟩
  rw [hzb]
  refine g_aload_n C dX5_hands_10 rfl rfl ?_
  refine g_callV C gy_X5_findCasting tw_1_213 tw_1_215 ts_2 (by decide) (kk := 5) rfl rfl (by exact hx) (m_findCasting F S x A B hI0) rfl rfl (Nat.le_of_ble_eq_true rfl) (by omega) (by omega) dX5_hands_11 (fun _ _ h9 => h9.elim) ?_
  rintro _ _ ⟨rfl, hI2, h5, hF⟩
  rename_i S2
  obtain ⟨os, _, hc⟩ := hI2.cast h5
  obtain ⟨y1, _, _, T, y4, y5⟩ := hI2.2.2.2.2.2.2.2.2.1.2 q hq
  have hH := hc.2.2.2 q T hq y4
  refine g_aload_n C dX5_hands_14 rfl rfl ?_
  refine ge_Player_heldAt C tw_2_211 (by exact y1) (by exact y4) dX5_hands_15 ?_
  refine g_iload_n C dX5_hands_18 rfl rfl ?_
  refine g_ldI C rfl y5.1 (by rw [y5.2.1]; exact hb) (by omega) (hH b hb).1 dX5_hands_19 ?_
  refine g_iret C R rfl (by omega) (by omega) dX5_hands_20 ?_
  exact ⟨hI2, hF.b, q, b, hq, hyq, hb, hzb, rfl⟩
theorem m_load {Γ : GBase} (F : FB Γ) (S : PS) (x : Nat) (y : Int32) (A : AD) (B : BT) (hI : BkI Γ S x A B) : GMet Γ yX5_load cX5_load 3 ((some FieldType.int)) 9 41 4006 [.ref x, .int y] S (fun r S' => BkI Γ S' x A B ∧ FrB S S' ∧ ∃ q, q < tQ B ∧ y = nI q ∧ r = some (.int (nI (cntN (fun b => hmB B q b != 0) 1000)))) (fun E S' => S = S' ∧ E = xIOB ∧ ¬ inR y (tQ B)) := by
  have hI0 := hI
  obtain ⟨hx, -, hL, -, -, -, -, -, hY, -⟩ := hI
  refine GMet.of (loc0 := [(0, .ref x), (1, .int y)]) F (by decide +kernel) rfl (Nat.le_of_ble_eq_true rfl) (fun X C R Tb nm => ?_)
  refine g_aload_n C dX5_load_0 rfl rfl ?_
  refine g_iload_n C dX5_load_1 rfl rfl ?_
  refine g_callV C gy_X5_playerNumbered tw_2_97 tw_2_99 ts_13 (by decide) (kk := 5) rfl rfl (by exact hx) (m_playerNumbered F S x y _ _ _ hx hL hY.aL) rfl rfl (Nat.le_of_ble_eq_true rfl) (by omega) (by omega) dX5_load_2 (fun _ _ h9 => g_out C R Tb (by omega) (by omega) ⟨h9.2.1, h9.1, h9.2.2⟩) ?_
  rintro _ _ ⟨rfl, q, hq, hyq, rfl⟩
  refine g_astore_n C dX5_load_5 rfl (by decide) rfl ?_
  refine g_aload_n C dX5_load_6 rfl rfl ?_
  refine g_callV C gy_X5_findCasting tw_1_213 tw_1_215 ts_2 (by decide) (kk := 5) rfl rfl (by exact hx) (m_findCasting F S x A B hI0) rfl rfl (Nat.le_of_ble_eq_true rfl) (by omega) (by omega) dX5_load_7 (fun _ _ h9 => h9.elim) ?_
  rintro _ _ ⟨rfl, hI2, h5, hF⟩
  rename_i S2
  obtain ⟨os, _, hc⟩ := hI2.cast h5
  obtain ⟨y1, _, _, T, y4, y5⟩ := hI2.2.2.2.2.2.2.2.2.1.2 q hq
  have hH := hc.2.2.2 q T hq y4
  refine g_aload_n C dX5_load_10 rfl rfl ?_
  refine g_callV C gy_X2_busyBeats tw_2_106 tw_2_107 tw_2_108 (by decide) (kk := 2) rfl rfl (by exact y1) (m_busyBeats F S2 (dY A q) T (hmB B q) y1 y4 y5 hH) rfl rfl (Nat.le_of_ble_eq_true rfl) (by omega) (by omega) dX5_load_11 (fun _ _ h9 => h9.elim) ?_
  rintro _ _ ⟨rfl, rfl⟩
  refine g_iret C R rfl (by omega) (by omega) dX5_load_14 ?_
  exact ⟨hI2, hF.b, q, hq, hyq, rfl⟩
theorem m_stay {Γ : GBase} (F : FB Γ) (S : PS) (x : Nat) (y z w : Int32) (A : AD) (B : BT) (hI : BkI Γ S x A B) : GMet Γ yX5_stay cX5_stay 5 ((some FieldType.int)) 9 42 4012 [.ref x, .int y, .int z, .int w] S (fun r S' => BkI Γ S' x A B ∧ FrB S S' ∧ ∃ i j v, i < tN B ∧ y = nI i ∧ j < (stL (dsB B i)).length ∧ z = nI j ∧ v < 3 ∧ w = nI v ∧ r = some (.int (stW B i j v))) (fun E S' => BkI Γ S' x A B ∧ FrB S S' ∧ E = xIOB ∧ (¬ inR y (tN B) ∨ ∃ i, i < tN B ∧ y = nI i ∧ (¬ inR z (stL (dsB B i)).length ∨ ¬ inR w 3))) := by
  have hI0 := hI
  obtain ⟨hx, hL, -, -, -, -, -, hP, -, -, hV⟩ := hI
  refine GMet.of (loc0 := [(0, .ref x), (1, .int y), (2, .int z), (3, .int w)]) F (by decide +kernel) rfl (Nat.le_of_ble_eq_true rfl) (fun X C R Tb nm => ?_)
  refine g_aload_n C dX5_stay_0 rfl rfl ?_
  refine g_iload_n C dX5_stay_1 rfl rfl ?_
  refine g_callV C gy_X5_puppetNumbered tw_1_85 tw_1_87 ts_0 (by decide) (kk := 5) rfl rfl (by exact hx) (m_puppetNumbered F S x y _ _ _ hx hL hP.al) rfl rfl (Nat.le_of_ble_eq_true rfl) (by omega) (by omega) dX5_stay_2 (fun _ _ h9 => g_out C R Tb (by omega) (by omega) (by rw [← h9.2.1]; exact ⟨hI0, FrB.rf, h9.1, Or.inl h9.2.2⟩)) ?_
  rintro _ _ ⟨rfl, i, hi, hyi, rfl⟩
  obtain ⟨LS, LT, TA, TB, p1, -, -, -, -, hT, hS, -⟩ := hP.2 i hi
  have hTl := hT.len
  refine ge_Puppet_stayList C tw_2_161 (by exact p1.1) (by exact p1.2.2.1) dX5_stay_5 ?_
  refine g_astore C dX5_stay_8 (by decide) rfl ?_
  refine g_iload_n C dX5_stay_10 rfl rfl ?_
  refine g_if_lt C dX5_stay_11 (tgt := 23) (by decide) (fun c1 => ?_) (fun c1 => ?_)
  · refine g_throwS C R Tb (kk := 5) rfl rfl tx_IOB tw_1_212 dX5_stay_23 dX5_stay_26 dX5_stay_27 dX5_stay_29 dX5_stay_32 (by decide) (by simp [Value.category]) (by omega) (by omega) ?_
    exact ⟨hI0, FrB.rf, rfl, Or.inr ⟨i, hi, hyi, Or.inl (inR_neg (by rw [← hS.1]; omega) c1)⟩⟩
  · refine g_iload_n C dX5_stay_14 rfl rfl ?_
    refine g_aload C dX5_stay_15 rfl ?_
    refine g_callV C gy_Jx4a65c_size_8abf5 tw_1_89 tw_1_90 tw_1_91 (by decide) (kk := 7) rfl rfl (by exact hT.1) (m_size F S LT _ hT) rfl rfl (Nat.le_of_ble_eq_true rfl) (by omega) (by omega) dX5_stay_17 (fun _ _ h9 => h9.elim) ?_
    rintro _ _ ⟨rfl, rfl⟩
    rw [hS.1]
    refine g_icmp_lt C dX5_stay_20 (tgt := 33) (by decide) (fun c2 => ?_) (fun c2 => ?_)
    · obtain ⟨j, hj, hzj⟩ := inR_of (by rw [← hS.1]; omega) c1 c2
      rw [hzj]
      refine g_aload_n C dX5_stay_33 rfl rfl ?_
      refine g_callV C gy_X5_findCasting tw_1_213 tw_1_215 ts_2 (by decide) (kk := 5) rfl rfl (by exact hx) (m_findCasting F S x A B hI0) rfl rfl (Nat.le_of_ble_eq_true rfl) (by omega) (by omega) dX5_stay_34 (fun _ _ h9 => h9.elim) ?_
      rintro _ _ ⟨rfl, hI2, h5, hF⟩
      rename_i S2
      obtain ⟨os, _, hc⟩ := hI2.cast h5
      obtain ⟨LS2, LT2, _, _, r1, -, -, -, -, hT2, hS2, -⟩ := hI2.2.2.2.2.2.2.2.1.2 i hi
      have e1 : pP S2 101 (dP A i) = some LT := ((hF _ p1.1.1).2.2.2.2.1 101 (fun h => h (Or.inr p1.1))).2.trans p1.2.2.1
      have e2 : LT2 = LT := Option.some.inj (r1.2.2.1.symm.trans e1)
      subst e2
      obtain ⟨t, ht⟩ : ∃ t, (dT A i)[j]? = some t := ⟨_, List.getElem?_eq_getElem (by rw [hS2.1]; exact hj)⟩
      obtain ⟨s, hs⟩ : ∃ s, (stL (dsB B i))[j]? = some s := ⟨_, List.getElem?_eq_getElem hj⟩
      have hso := hS2.2.2 j t s ht hs
      have hpl := hc.2.2.1 i j t hi ht
      refine g_aload C dX5_stay_37 rfl ?_
      refine g_iload_n C dX5_stay_39 rfl rfl ?_
      refine g_callV C gy_Jx4a65c_get_915e3 tw_1_161 tw_1_162 tw_1_163 (by decide) (kk := 7) rfl rfl (by exact hT2.1) (m_get F S2 LT2 _ hT2 j t ht) rfl rfl (Nat.le_of_ble_eq_true rfl) (by omega) (by omega) dX5_stay_40 (fun _ _ h9 => h9.elim) ?_
      rintro _ _ ⟨rfl, rfl⟩
      refine g_cast C (kk := 4) rfl hso.1 tw_1_203 dX5_stay_43 ?_
      refine g_iload_n C dX5_stay_46 rfl rfl ?_
      refine g_callS C gy_X5_tellOfStay tw_2_89 tw_2_90 (by decide) (m_tellOfStay F S2 t _ w _ s hso hpl) rfl rfl (Nat.le_of_ble_eq_true rfl) (by omega) (by omega) dX5_stay_47 (fun _ _ h9 => g_out C R Tb (by omega) (by omega) (by rw [← h9.2.1]; exact ⟨hI2, hF.b, h9.1, Or.inr ⟨i, hi, hyi, Or.inr h9.2.2⟩⟩)) ?_
      rintro _ _ ⟨rfl, v, hv, hwv, rfl⟩
      refine g_iret C R rfl (by omega) (by omega) dX5_stay_50 ?_
      refine ⟨hI2, hF.b, i, j, v, hi, hyi, hj, hzj, hv, hwv, ?_⟩
      unfold stW
      rw [hs]
    · refine g_throwS C R Tb (kk := 5) rfl rfl tx_IOB tw_1_212 dX5_stay_23 dX5_stay_26 dX5_stay_27 dX5_stay_29 dX5_stay_32 (by decide) (by simp [Value.category]) (by omega) (by omega) ?_
      exact ⟨hI0, FrB.rf, rfl, Or.inr ⟨i, hi, hyi, Or.inl (inR_ge (by rw [← hS.1]; omega) c2)⟩⟩
noncomputable def unN (B : BT) (n : Nat) : Nat := (((ordB B).take n).filter (fun a => (castB B a.1 a.2).isNone)).length
noncomputable def unB (B : BT) : Nat := ((ordB B).filter (fun a => (castB B a.1 a.2).isNone)).length
