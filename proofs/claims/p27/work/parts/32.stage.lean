theorem PupsI.al {Γ : GBase} {S : PS} {A : AD} {B : BT} (h : PupsI Γ S A B) : ∀ i, i < tN B → al S (dP A i) 3 := by
  intro i hi
  obtain ⟨LS, LT, TA, TB, p1, -⟩ := h.2 i hi
  exact p1.1
theorem PlysI.aL {S : PS} {A : AD} {B : BT} (h : PlysI S A B) : ∀ i, i < tQ B → al S (dY A i) 2 := fun i hi => (h.2 i hi).1
theorem m_place {Γ : GBase} (F : FB Γ) (S : PS) (x : Nat) (y z : Int32) (A : AD) (B : BT) (hI : BkI Γ S x A B) : GMet Γ yX5_place cX5_place 4 ((some FieldType.int)) 6 2 12 [.ref x, .int y, .int z] S (fun r S' => S = S' ∧ ∃ i b, i < tN B ∧ y = nI i ∧ b < 1000 ∧ z = nI b ∧ r = some (.int (zO (plL (dsB B i) b)))) (fun E S' => S = S' ∧ ((E = xIOB ∧ ¬ inR y (tN B)) ∨ (E = xIAE ∧ inR y (tN B) ∧ ¬ inR z 1000))) := by
  obtain ⟨hx, hL, -, -, -, -, -, hP, -, -, hV⟩ := hI
  refine GMet.of (loc0 := [(0, .ref x), (1, .int y), (2, .int z)]) F (by decide +kernel) rfl (Nat.le_of_ble_eq_true rfl) (fun X C R Tb nm => ?_)
  refine g_aload_n C dX5_place_0 rfl rfl ?_
  refine g_iload_n C dX5_place_1 rfl rfl ?_
  refine g_callV C gy_X5_puppetNumbered tw_1_85 tw_1_87 ts_0 (by decide) (kk := 5) rfl rfl (by exact hx) (m_puppetNumbered F S x y _ _ _ hx hL hP.al) rfl rfl (Nat.le_of_ble_eq_true rfl) (by omega) (by omega) dX5_place_2 (fun _ _ h9 => g_out C R Tb (by omega) (by omega) ⟨h9.2.1, Or.inl ⟨h9.1, h9.2.2⟩⟩) ?_
  rintro _ _ ⟨rfl, i, hi, hyi, rfl⟩
  refine g_astore_n C dX5_place_5 rfl (by decide) rfl ?_
  refine g_iload_n C dX5_place_6 rfl rfl ?_
  refine g_callS C gy_X5_requireBeat tw_1_176 tw_1_177 (by decide) (m_requireBeat F S z) rfl rfl (Nat.le_of_ble_eq_true rfl) (by omega) (by omega) dX5_place_7 (fun _ _ h9 => g_out C R Tb (by omega) (by omega) ⟨h9.2.1, Or.inr ⟨h9.1, ⟨i, hi, hyi⟩, h9.2.2⟩⟩) ?_
  rintro _ _ ⟨⟨rfl, rfl⟩, b, hb, hzb⟩
  rw [hzb]
  obtain ⟨LS, LT, TA, TB, p1, -, -, -, -, -, -, p3⟩ := hP.2 i hi
  refine g_aload_n C dX5_place_10 rfl rfl ?_
  refine ge_Puppet_placeAt C tw_2_163 (by exact p1.1) (by exact p1.2.2.2.1) dX5_place_11 ?_
  refine g_iload_n C dX5_place_14 rfl rfl ?_
  refine g_ldI C rfl p1.2.2.2.2.2.1.1 (by rw [p1.2.2.2.2.2.1.2.1]; exact hb) (by omega) (p3 b hb).1 dX5_place_15 ?_
  refine g_iret C R rfl (by omega) (by omega) dX5_place_16 ?_
  exact ⟨rfl, i, b, hi, hyi, hb, hzb, rfl⟩
theorem m_track {Γ : GBase} (F : FB Γ) (S : PS) (x : Nat) (y z : Int32) (A : AD) (B : BT) (hI : BkI Γ S x A B) : GMet Γ yX5_track cX5_track 4 ((some FieldType.int)) 6 2 12 [.ref x, .int y, .int z] S (fun r S' => S = S' ∧ ∃ i b, i < tN B ∧ y = nI i ∧ b < 1000 ∧ z = nI b ∧ r = some (.int (zO (trL (dsB B i) b)))) (fun E S' => S = S' ∧ ((E = xIOB ∧ ¬ inR y (tN B)) ∨ (E = xIAE ∧ inR y (tN B) ∧ ¬ inR z 1000))) := by
  obtain ⟨hx, hL, -, -, -, -, -, hP, -, -, hV⟩ := hI
  refine GMet.of (loc0 := [(0, .ref x), (1, .int y), (2, .int z)]) F (by decide +kernel) rfl (Nat.le_of_ble_eq_true rfl) (fun X C R Tb nm => ?_)
  refine g_aload_n C dX5_track_0 rfl rfl ?_
  refine g_iload_n C dX5_track_1 rfl rfl ?_
  refine g_callV C gy_X5_puppetNumbered tw_1_85 tw_1_87 ts_0 (by decide) (kk := 5) rfl rfl (by exact hx) (m_puppetNumbered F S x y _ _ _ hx hL hP.al) rfl rfl (Nat.le_of_ble_eq_true rfl) (by omega) (by omega) dX5_track_2 (fun _ _ h9 => g_out C R Tb (by omega) (by omega) ⟨h9.2.1, Or.inl ⟨h9.1, h9.2.2⟩⟩) ?_
  rintro _ _ ⟨rfl, i, hi, hyi, rfl⟩
  refine g_astore_n C dX5_track_5 rfl (by decide) rfl ?_
  refine g_iload_n C dX5_track_6 rfl rfl ?_
  refine g_callS C gy_X5_requireBeat tw_1_176 tw_1_177 (by decide) (m_requireBeat F S z) rfl rfl (Nat.le_of_ble_eq_true rfl) (by omega) (by omega) dX5_track_7 (fun _ _ h9 => g_out C R Tb (by omega) (by omega) ⟨h9.2.1, Or.inr ⟨h9.1, ⟨i, hi, hyi⟩, h9.2.2⟩⟩) ?_
  rintro _ _ ⟨⟨rfl, rfl⟩, b, hb, hzb⟩
  rw [hzb]
  obtain ⟨LS, LT, TA, TB, p1, -, -, -, -, -, -, p3⟩ := hP.2 i hi
  refine g_aload_n C dX5_track_10 rfl rfl ?_
  refine ge_Puppet_trackAt C tw_2_165 (by exact p1.1) (by exact p1.2.2.2.2.1) dX5_track_11 ?_
  refine g_iload_n C dX5_track_14 rfl rfl ?_
  refine g_ldI C rfl p1.2.2.2.2.2.2.1.1 (by rw [p1.2.2.2.2.2.2.1.2.1]; exact hb) (by omega) (p3 b hb).2 dX5_track_15 ?_
  refine g_iret C R rfl (by omega) (by omega) dX5_track_16 ?_
  exact ⟨rfl, i, b, hi, hyi, hb, hzb, rfl⟩
