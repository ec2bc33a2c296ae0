theorem BkL.frN {Γ : GBase} {S S' : PS} {x f f' o : Nat} {xs : List Nat} (hx : al S x 5) (h : BkL Γ S x f' o xs) (hf : Fr S S' (fun g b => b = x ∧ g = f) maN) (hne : f' ≠ f) : BkL Γ S' x f' o xs :=
  h.fr hx hf (fun e => hne e.2) (fun L g hL _ e => (hL.kne hx (by decide)) e.1) (fun _ _ _ _ _ _ e => e)
def B0 : BT := (0, fun _ => 0, fun _ => 0, 0, fun _ => 0, fun _ => 0, 0, fun _ => (0, 0, 0, 0, 0), fun _ => false, fun _ => 0, fun _ => 0, fun _ => 0)
def A0 : AD := (fun _ => 0, fun _ => 0, fun _ => 0, fun _ => [])
theorem VB_0 : VB B0 := ⟨Nat.zero_le _, Nat.zero_le _, Nat.zero_le _, fun i hi => absurd hi (Nat.not_lt_zero i), fun i hi => absurd hi (Nat.not_lt_zero i), fun i hi => absurd hi (Nat.not_lt_zero i), fun i hi => absurd hi (Nat.not_lt_zero i), fun i hi => absurd hi (Nat.not_lt_zero i), fun c _ => ⟨rfl, rfl, rfl, rfl⟩⟩
theorem m_Book_init {Γ : GBase} (F : FB Γ) (S : PS) (x : Nat) (ha : al S x 5) : GMet Γ yX5_init cX5_init 1 ((none : Option FieldType)) 3 4 20 [.ref x] S (fun r S' => r = none ∧ BkI Γ S' x A0 B0 ∧ Fr S S' (moO x) maN) noX := by
  refine GMet.of (loc0 := [(0, .ref x)]) F (by decide +kernel) rfl (Nat.le_of_ble_eq_true rfl) (fun X C R Tb nm => ?_)
  refine g_aload_n C dX5_init_0 rfl rfl ?_
  refine g_objInit C tw_1_27 tw_1_28 tw_1_29 dX5_init_1 (by simp [Value.category]) ?_
  refine g_aload_n C dX5_init_4 rfl rfl ?_
  refine g_new C kd_7 tw_1_30 tw_1_31 tw_1_4 (by omega) (by omega) dX5_init_5 (fun L1 hL1 => ?_)
  refine g_dup C dX5_init_8 rfl ?_
  refine g_callI C gy_Jx4a65c_init_da8c8 tw_1_32 tw_1_33 rfl rfl (by decide) (m_ALinit F _ L1 al_nO) rfl rfl (Nat.le_of_ble_eq_true rfl) (by omega) (by omega) dX5_init_9 ?_
  rintro _ _ ⟨rfl, rfl⟩
  refine pu_Book_puppets C tw_1_56 nm (by exact (ha.nO hL1)) dX5_init_12 ?_
  refine g_own L1 (8 * x + 3) ?_
  obtain ⟨a1, a2, a3, a4, a5⟩ := newlist (Γ := Γ) (f := 160) (o := 8 * x + 3) hL1 ha rfl
  have hA1 := ha.fr a5
  generalize uW (uP (uP (uI (nO S L1 7) 224 L1 0) 225 L1 (some (bE Γ))) 160 x (some L1)) L1 (8 * x + 3) = S1 at a1 a2 a3 a4 a5 hA1 ⊢
  have k1 : BkL Γ S1 x 160 (8 * x + 3) [] := ⟨L1, a3, a2, a1⟩
  refine g_aload_n C dX5_init_15 rfl rfl ?_
  refine g_new C kd_7 tw_1_30 tw_1_31 tw_1_4 (by omega) (by omega) dX5_init_16 (fun L2 hL2 => ?_)
  refine g_dup C dX5_init_19 rfl ?_
  refine g_callI C gy_Jx4a65c_init_da8c8 tw_1_32 tw_1_33 rfl rfl (by decide) (m_ALinit F _ L2 al_nO) rfl rfl (Nat.le_of_ble_eq_true rfl) (by omega) (by omega) dX5_init_20 ?_
  rintro _ _ ⟨rfl, rfl⟩
  refine pu_Book_players C tw_1_57 nm (by exact (hA1.nO hL2)) dX5_init_23 ?_
  refine g_own L2 (8 * x + 4) ?_
  obtain ⟨b1, b2, b3, b4, b5⟩ := newlist (Γ := Γ) (f := 161) (o := 8 * x + 4) hL2 hA1 rfl
  have hA2 := hA1.fr b5
  generalize uW (uP (uP (uI (nO S1 L2 7) 224 L2 0) 225 L2 (some (bE Γ))) 161 x (some L2)) L2 (8 * x + 4) = S2 at b1 b2 b3 b4 b5 hA2 ⊢
  have k2 : BkL Γ S2 x 161 (8 * x + 4) [] := ⟨L2, b3, b2, b1⟩
  have k1 := k1.frN hA1 b5 (by decide)
  refine g_aload_n C dX5_init_26 rfl rfl ?_
  refine g_new C kd_7 tw_1_30 tw_1_31 tw_1_4 (by omega) (by omega) dX5_init_27 (fun L3 hL3 => ?_)
  refine g_dup C dX5_init_30 rfl ?_
  refine g_callI C gy_Jx4a65c_init_da8c8 tw_1_32 tw_1_33 rfl rfl (by decide) (m_ALinit F _ L3 al_nO) rfl rfl (Nat.le_of_ble_eq_true rfl) (by omega) (by omega) dX5_init_31 ?_
  rintro _ _ ⟨rfl, rfl⟩
  refine pu_Book_cues C tw_1_58 nm (by exact (hA2.nO hL3)) dX5_init_34 ?_
  refine g_own L3 (8 * x + 5) ?_
  obtain ⟨c1, c2, c3, c4, c5⟩ := newlist (Γ := Γ) (f := 162) (o := 8 * x + 5) hL3 hA2 rfl
  have hA3 := hA2.fr c5
  generalize uW (uP (uP (uI (nO S2 L3 7) 224 L3 0) 225 L3 (some (bE Γ))) 162 x (some L3)) L3 (8 * x + 5) = S3 at c1 c2 c3 c4 c5 hA3 ⊢
  have k3 : BkL Γ S3 x 162 (8 * x + 5) [] := ⟨L3, c3, c2, c1⟩
  have k1 := k1.frN hA2 c5 (by decide)
  have k2 := k2.frN hA2 c5 (by decide)
  refine g_aload_n C dX5_init_37 rfl rfl ?_
  refine g_new C kd_7 tw_1_30 tw_1_31 tw_1_4 (by omega) (by omega) dX5_init_38 (fun L4 hL4 => ?_)
  refine g_dup C dX5_init_41 rfl ?_
  refine g_callI C gy_Jx4a65c_init_da8c8 tw_1_32 tw_1_33 rfl rfl (by decide) (m_ALinit F _ L4 al_nO) rfl rfl (Nat.le_of_ble_eq_true rfl) (by omega) (by omega) dX5_init_42 ?_
  rintro _ _ ⟨rfl, rfl⟩
  refine pu_Book_castingOrder C tw_1_59 nm (by exact (hA3.nO hL4)) dX5_init_45 ?_
  refine g_own L4 (8 * x + 6) ?_
  obtain ⟨d1, d2, d3, d4, d5⟩ := newlist (Γ := Γ) (f := 163) (o := 8 * x + 6) hL4 hA3 rfl
  have hA4 := hA3.fr d5
  generalize uW (uP (uP (uI (nO S3 L4 7) 224 L4 0) 225 L4 (some (bE Γ))) 163 x (some L4)) L4 (8 * x + 6) = S4 at d1 d2 d3 d4 d5 hA4 ⊢
  have k4 : BkL Γ S4 x 163 (8 * x + 6) [] := ⟨L4, d3, d2, d1⟩
  have k1 := k1.frN hA3 d5 (by decide)
  have k2 := k2.frN hA3 d5 (by decide)
  have k3 := k3.frN hA3 d5 (by decide)
  refine g_aload_n C dX5_init_48 rfl rfl ?_
  refine g_iconst C dX5_init_49 (v := 0) (by decide) ?_
  refine pu_Book_struckCues C tw_1_60 (by exact hA4) dX5_init_50 ?_
  refine g_aload_n C dX5_init_53 rfl rfl ?_
  refine g_iconst C dX5_init_54 (v := 0) (by decide) ?_
  refine pu_Book_castingStands C tw_1_61 (by exact hA4) (by first | exact Or.inl rfl | exact Or.inr rfl) dX5_init_55 ?_
  refine g_aload_n C dX5_init_58 rfl rfl ?_
  refine g_iconst C dX5_init_59 (v := 0) (by decide) ?_
  refine pu_Book_clashesStand C tw_1_62 (by exact hA4) (by first | exact Or.inl rfl | exact Or.inr rfl) dX5_init_60 ?_
  refine g_aload_n C dX5_init_63 rfl rfl ?_
  refine g_iconst C dX5_init_64 (v := 0) (by decide) ?_
  refine pu_Book_clashingPairs C tw_1_63 (by exact hA4) dX5_init_65 ?_
  refine g_vret C R (by omega) (by omega) dX5_init_68 ?_
  have t : ∀ {X Y Z : PS}, Fr X Y (fun g b => b = x ∧ 164 ≤ g) maN → Fr Y Z (fun g b => b = x ∧ 164 ≤ g) maN → Fr X Z (fun g b => b = x ∧ 164 ≤ g) maN := fun h1 h2 => h1.tr h2 (fun _ _ _ h => h.elim id id) (fun _ _ _ h => h.elim id id)
  have e5 : Fr S4 (uI (uI (uI (uI S4 164 x 0) 165 x 0) 166 x 0) 167 x 0) (fun g b => b = x ∧ 164 ≤ g) maN := t (t (t (fr_uI ⟨rfl, by decide⟩) (fr_uI ⟨rfl, by decide⟩)) (fr_uI ⟨rfl, by decide⟩)) (fr_uI ⟨rfl, by decide⟩)
  have i4 : pI (uI (uI (uI (uI S4 164 x 0) 165 x 0) 166 x 0) 167 x 0) 164 x = 0 := by rw [uI_ne (Or.inl (by decide)), uI_ne (Or.inl (by decide)), uI_ne (Or.inl (by decide)), uI_q]
  have i5 : pI (uI (uI (uI (uI S4 164 x 0) 165 x 0) 166 x 0) 167 x 0) 165 x = 0 := by rw [uI_ne (Or.inl (by decide)), uI_ne (Or.inl (by decide)), uI_q]
  have i6 : pI (uI (uI (uI (uI S4 164 x 0) 165 x 0) 166 x 0) 167 x 0) 166 x = 0 := by rw [uI_ne (Or.inl (by decide)), uI_q]
  have FA : Fr S S4 (moO x) maN := ((((Fr.rf (S := S) (mo := moO x) (ma := maN)).trF a5 (fun _ _ q => q.1) (fun _ _ => id)).trF b5 (fun _ _ q => q.1) (fun _ _ => id)).trF c5 (fun _ _ q => q.1) (fun _ _ => id)).trF d5 (fun _ _ q => q.1) (fun _ _ => id)
  have bl : ∀ {f o xs}, f < 164 → BkL Γ S4 x f o xs → BkL Γ (uI (uI (uI (uI S4 164 x 0) 165 x 0) 166 x 0) 167 x 0) x f o xs := fun {f o xs} hf hb => hb.fr hA4 e5 (fun e => by omega) (fun L g hL _ e => (hL.kne hA4 (by decide)) e.1) (fun _ _ _ _ _ _ e => e)
  refine ⟨rfl, ⟨hA4.fr e5, bl (by decide) k1, bl (by decide) k2, bl (by decide) k3, ⟨[], bl (by decide) k4, fun t ht => absurd ht (List.not_mem_nil), Nat.zero_le _, Or.inl i5⟩, i4, Or.inl i6, ⟨fun i j hi _ _ => absurd hi (Nat.not_lt_zero i), fun i hi => absurd hi (Nat.not_lt_zero i)⟩, ⟨fun i j hi _ _ => absurd hi (Nat.not_lt_zero i), fun i hi => absurd hi (Nat.not_lt_zero i)⟩, ⟨fun i j hi _ _ => absurd hi (Nat.not_lt_zero i), fun i hi => absurd hi (Nat.not_lt_zero i)⟩, VB_0⟩, FA.trF e5 (fun _ _ q => q.1) (fun _ _ => id)⟩
