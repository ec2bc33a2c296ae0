theorem nI_ofInt (n : Nat) : nI n = Int32.ofInt (n : Int) := by unfold nI; rfl
theorem jabs_ofInt {x : Int32} (h1 : -50 ≤ x.toInt) (h2 : x.toInt ≤ 50) : jabs x = nI x.toInt.natAbs := by
  unfold jabs
  rw [nI_ofInt]
  apply Int32.toInt_inj.mp
  by_cases h : 0 ≤ x
  · rw [if_pos h]
    rw [Int32.le_iff_toInt_le] at h
    have h0 : 0 ≤ x.toInt := h
    rw [Int32.toInt_ofInt_of_le (by omega) (by omega)]
    omega
  · rw [if_neg h]
    rw [Int32.le_iff_toInt_le] at h
    have h0 : x.toInt < 0 := by
      have : (0 : Int32).toInt = 0 := by decide
      rw [this] at h; omega
    rw [Int32.toInt_ofInt_of_le (by omega) (by omega)]
    rw [Int32.toInt_sub, Int.bmod_eq_of_le]
    · have : (0 : Int32).toInt = 0 := by decide
      rw [this]; omega
    · have : (0 : Int32).toInt = 0 := by decide
      rw [this]; omega
    · have : (0 : Int32).toInt = 0 := by decide
      rw [this]; omega
theorem ofInt_addI (a : Int) (x : Int32) : Int32.ofInt a + x = Int32.ofInt (a + x.toInt) := by
  rw [Int32.ofInt_add, Int32.ofInt_toInt]
theorem lt50 {x : Int32} : x < -50 ↔ x.toInt < -50 := by
  rw [Int32.lt_iff_toInt_lt]
  have : (-50 : Int32).toInt = -50 := by decide
  rw [this]
theorem le50 {x : Int32} : x ≤ 50 ↔ x.toInt ≤ 50 := by
  rw [Int32.le_iff_toInt_le]
  have : (50 : Int32).toInt = 50 := by decide
  rw [this]
def isZ (z : Int32) : Prop := -50 ≤ z.toInt ∧ z.toInt ≤ 50
theorem m_note {Γ : GBase} (F : FB Γ) (S : PS) (x : Nat) (y z : Int32) (A : AD) (B : BT) (hI : BkI Γ S x A B) : GMet Γ yX5_note cX5_note 4 ((some FieldType.int)) 4 2 12 [.ref x, .int y, .int z] S (fun r S' => ∃ c, isC B y c ∧ isZ z ∧ tE B c < 20 ∧ BkI Γ S' x A (noteB B c z.toInt) ∧ FrB S S' ∧ r = some (.int (nI (tE B c + 1)))) (fun E S' => S = S' ∧ ((E = xIOB ∧ noC B y) ∨ (E = xIAE ∧ (∃ c, isC B y c) ∧ ¬ isZ z) ∨ (E = xISE ∧ ∃ c, isC B y c ∧ isZ z ∧ 20 ≤ tE B c))) := by
  have hI0 := hI
  obtain ⟨hx, -, -, hL, -, -, -, -, -, hC, hV⟩ := hI
  refine GMet.of (loc0 := [(0, .ref x), (1, .int y), (2, .int z)]) F (by decide +kernel) rfl (Nat.le_of_ble_eq_true rfl) (fun X C R Tb nm => ?_)
  refine g_aload_n C dX5_note_0 rfl rfl ?_
  refine g_iload_n C dX5_note_1 rfl rfl ?_
  refine g_callV C gy_X5_cueNumbered tw_4_211 tw_4_213 ts_24 (by decide) (kk := 5) rfl rfl (by exact hx) (m_cueNumbered F S x y A B _ hx hL hC) rfl rfl (Nat.le_of_ble_eq_true rfl) (by omega) (by omega) dX5_note_2 (fun _ _ h9 => g_out C R Tb (by omega) (by omega) ⟨h9.2.1, Or.inl ⟨h9.1, h9.2.2⟩⟩) ?_
  rintro _ _ ⟨rfl, c, hc, rfl⟩
  refine g_astore_n C dX5_note_5 rfl (by decide) rfl ?_
  obtain ⟨q, hq⟩ : ∃ q, q = dC A c := ⟨_, rfl⟩
  have hca := hC.2 c hc.1
  have hs := hV.2.2.2.2.2.2.2.1 c hc.1
  rw [← hq] at hca ⊢
  obtain ⟨⟨h0, e0, e2, e3, e4, eD⟩, e1, e5, e6, e7, e8, e9, e10⟩ := hca
  refine g_iload_n C dX5_note_6 rfl rfl ?_
  refine g_bipush C dX5_note_7 (v := -50) (by decide) ?_
  refine g_icmp_lt C dX5_note_9 (tgt := 18) (by decide) (fun c1 => ?_) (fun c1 => ?_)
  · refine g_throwS C R Tb (kk := 5) rfl rfl tx_IAE tw_5_74 dX5_note_18 dX5_note_21 dX5_note_22 dX5_note_24 dX5_note_27 (by simp [Value.category]) (by omega) (by omega) ?_
    exact ⟨rfl, Or.inr (Or.inl ⟨rfl, ⟨c, hc⟩, fun h => by have := lt50.mp c1; have := h.1; omega⟩)⟩
  · refine g_iload_n C dX5_note_12 rfl rfl ?_
    refine g_bipush C dX5_note_13 (v := 50) (by decide) ?_
    refine g_icmp_le C dX5_note_15 (tgt := 28) (by decide) (fun c2 => ?_) (fun c2 => ?_)
    · have hz : isZ z := ⟨by
        rcases Int.lt_or_le z.toInt (-50) with w | w
        · exact absurd (lt50.mpr w) c1
        · exact w, le50.mp c2⟩
      refine g_aload_n C dX5_note_28 rfl rfl ?_
      refine ge_Cue_notes C tw_4_35 (by exact h0) (by exact e6) dX5_note_29 ?_
      refine g_bipush C dX5_note_32 (v := 20) (by decide) ?_
      rw [show (20 : Int32) = nI 20 from rfl]
      refine g_icmp_lt C dX5_note_34 (tgt := 47) (by decide) (fun c3 => ?_) (fun c3 => ?_)
      · have h20 : tE B c < 20 := (nI_ltI (by omega) (by omega)).mp c3
        have f7 : pI (uI S 6 q (nI (tE B c + 1))) 7 q = Int32.ofInt (tL B c) := by rw [uI_ne (Or.inl (by decide))]; exact e7
        have f8 : pI (uI (uI S 6 q (nI (tE B c + 1))) 7 q (Int32.ofInt (tL B c + z.toInt))) 8 q = nI (tF B c) := by rw [uI_ne (Or.inl (by decide)), uI_ne (Or.inl (by decide))]; exact e8
        have f6 : pI (uI (uI (uI S 6 q (nI (tE B c + 1))) 7 q (Int32.ofInt (tL B c + z.toInt))) 8 q (nI (tF B c + z.toInt.natAbs))) 6 q = nI (tE B c + 1) := by rw [uI_ne (Or.inl (by decide)), uI_ne (Or.inl (by decide)), uI_q]
        refine g_aload_n C dX5_note_47 rfl rfl ?_
        refine g_dup C dX5_note_48 rfl ?_
        refine ge_Cue_notes C tw_4_35 (by exact h0) (by exact e6) dX5_note_49 ?_
        refine g_iconst C dX5_note_52 (v := 1) (by decide) ?_
        refine g_iadd C dX5_note_53 ?_
        rw [nI_1]
        refine pu_Cue_notes C tw_4_35 (by exact h0) dX5_note_54 ?_
        refine g_aload_n C dX5_note_57 rfl rfl ?_
        refine g_dup C dX5_note_58 rfl ?_
        refine ge_Cue_sumLate C tw_4_37 (by exact h0) (by exact f7) dX5_note_59 ?_
        refine g_iload_n C dX5_note_62 rfl rfl ?_
        refine g_iadd C dX5_note_63 ?_
        rw [ofInt_addI]
        refine pu_Cue_sumLate C tw_4_37 (by exact h0) dX5_note_64 ?_
        refine g_aload_n C dX5_note_67 rfl rfl ?_
        refine g_dup C dX5_note_68 rfl ?_
        refine ge_Cue_sumOff C tw_4_39 (by exact h0) (by exact f8) dX5_note_69 ?_
        refine g_iload_n C dX5_note_72 rfl rfl ?_
        refine g_abs C tw_3_73 (by simp [Value.category]) (by omega) (by omega) dX5_note_73 ?_
        rw [jabs_ofInt hz.1 hz.2]
        refine g_iadd C dX5_note_76 ?_
        rw [nI_add]
        refine pu_Cue_sumOff C tw_4_39 (by exact h0) dX5_note_77 ?_
        refine g_aload_n C dX5_note_80 rfl rfl ?_
        refine ge_Cue_notes C tw_4_35 (by exact h0) (by exact f6) dX5_note_81 ?_
        refine g_iret C R rfl (by omega) (by omega) dX5_note_84 ?_
        obtain ⟨S', hS'⟩ : ∃ S', S' = uI (uI (uI S 6 q (nI (tE B c + 1))) 7 q (Int32.ofInt (tL B c + z.toInt))) 8 q (nI (tF B c + z.toInt.natAbs)) := ⟨_, rfl⟩
        rw [← hS'] at f6 ⊢
        have hf : Fr S S' (fun f b => b = q ∧ 6 ≤ f ∧ f ≤ 8) maN := by
          rw [hS']
          exact Fr.tr (mo := fun f b => b = q ∧ 6 ≤ f ∧ f ≤ 8) (ma := maN) (mo' := fun f b => b = q ∧ 6 ≤ f ∧ f ≤ 8) (ma' := maN) (Fr.tr (mo := fun f b => b = q ∧ 6 ≤ f ∧ f ≤ 8) (ma := maN) (mo' := fun f b => b = q ∧ 6 ≤ f ∧ f ≤ 8) (ma' := maN) (mo2 := fun f b => b = q ∧ 6 ≤ f ∧ f ≤ 8) (ma2 := maN) (fr_uI ⟨rfl, by decide, by decide⟩) (fr_uI ⟨rfl, by decide, by decide⟩) (fun _ _ _ h => h.elim id id) (fun _ _ _ h => h.elim id id)) (fr_uI ⟨rfl, by decide, by decide⟩) (fun _ _ _ h => h.elim id id) (fun _ _ _ h => h.elim id id)
        have ex : ∀ f, pI S' f x = pI S f x := fun f => ((hf x hx.1).2.2.2.2.1 f (fun h => (hx.kne h0 (by decide)) h.1)).1
        refine ⟨c, hc, hz, h20, ?_, FrB.of hf (fun f b hb h => (hb.kne h0 (by decide)) h.1) (fun b _ _ h => h), rfl⟩
        refine hI0.fr0 hf (fun f b k hb hk h => (hb.kne h0 (by omega)) h.1) (fun f _ _ h => (hx.kne h0 (by decide)) h.1) (fun T o _ _ _ h => h) ⟨hC.1, fun c' hc' => ?_⟩ (noteB_V hV hc.1 h20 hz.1 hz.2) (Or.inr (ex 165)) (Or.inr (Or.inl ⟨ex 166, ex 167⟩))
        show CueA S' (dC A c') (dP A (tU B c').1) (tU B c').2 (tK B c') (va_up (tE B) c (tE B c + 1) c') (va_up (tL B) c (tL B c + z.toInt) c') (va_up (tF B) c (tF B c + z.toInt.natAbs) c')
        by_cases e : c' = c
        · rw [e, va_up_self, va_up_self, va_up_self, ← hq]
          have fo : ∀ f, f < 6 → pI S' f q = pI S f q ∧ pP S' f q = pP S f q := fun f hf6 => (hf q h0.1).2.2.2.2.1 f (fun h => by omega)
          refine ⟨CueObj.fr ⟨h0, e0, e2, e3, e4, eD⟩ hf (fun f h5 h => by omega), (fo 1 (by decide)).2.trans e1, (fo 5 (by decide)).1.trans e5, f6, ?_, ?_, fun h => (fo 3 (by decide)).1.trans (e9 h), fun h => (fo 4 (by decide)).1.trans (e10 h)⟩
          · rw [hS', uI_ne (Or.inl (by decide)), uI_q]
          · rw [hS', uI_q]
        · rw [va_up_ne _ _ e, va_up_ne _ _ e, va_up_ne _ _ e]
          have hne : dC A c' ≠ q := fun h => e (hC.1 c' c hc' hc.1 (h.trans hq))
          exact (hC.2 c' hc').fr hf (fun f h => hne h.1)
      · refine g_throwS C R Tb (kk := 5) rfl rfl tx_ISE tw_5_75 dX5_note_37 dX5_note_40 dX5_note_41 dX5_note_43 dX5_note_46 (by simp [Value.category]) (by omega) (by omega) ?_
        refine ⟨rfl, Or.inr (Or.inr ⟨rfl, c, hc, hz, ?_⟩)⟩
        rcases Nat.lt_or_ge (tE B c) 20 with w | w
        · exact absurd ((nI_ltI (by omega) (by omega)).mpr w) c3
        · exact w
    · refine g_throwS C R Tb (kk := 5) rfl rfl tx_IAE tw_5_74 dX5_note_18 dX5_note_21 dX5_note_22 dX5_note_24 dX5_note_27 (by simp [Value.category]) (by omega) (by omega) ?_
      exact ⟨rfl, Or.inr (Or.inl ⟨rfl, ⟨c, hc⟩, fun h => c2 (le50.mpr h.2)⟩)⟩
