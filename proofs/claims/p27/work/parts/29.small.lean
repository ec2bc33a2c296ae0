/-! ===== the small methods of the book: numbers in their ranges, objects by their numbers ===== -/
theorem nn_ex {x : Int32} (h : ¬ x < 0) : ∃ i, i < 2147483648 ∧ x = nI i := by
  have h0 : 0 ≤ x.toInt := by
    rw [Int32.lt_iff_toInt_lt] at h
    simpa using h
  refine ⟨x.toInt.toNat, ?_, ?_⟩
  · have := Int32.toInt_lt x; omega
  · unfold nI
    apply Int32.toInt_inj.mp
    rw [Int32.toInt_ofNat_of_lt]
    · omega
    · have := Int32.toInt_lt x; omega
def inR (x : Int32) (n : Nat) : Prop := ∃ i, i < n ∧ x = nI i
theorem nI_inj {a b : Nat} (ha : a < 2147483648) (hb : b < 2147483648) (h : nI a = nI b) : a = b := by
  have := congrArg Int32.toInt h
  rw [nI_toInt ha, nI_toInt hb] at this
  omega
theorem inR_neg {x : Int32} {n : Nat} (hn : n ≤ 2147483648) (h : x < 0) : ¬ inR x n := by
  rintro ⟨i, hi, rfl⟩
  rw [Int32.lt_iff_toInt_lt, nI_toInt (by omega)] at h
  have h : (i : Int) < 0 := h
  omega
theorem inR_ge {x : Int32} {n : Nat} (hn : n < 2147483648) (h : ¬ x < nI n) : ¬ inR x n := by
  rintro ⟨i, hi, rfl⟩
  rw [Int32.lt_iff_toInt_lt, nI_toInt (by omega), nI_toInt hn] at h
  omega
theorem inR_of {x : Int32} {n : Nat} (hn : n < 2147483648) (h0 : ¬ x < 0) (h : x < nI n) : inR x n := by
  obtain ⟨i, hi, rfl⟩ := nn_ex h0
  rw [Int32.lt_iff_toInt_lt, nI_toInt hi, nI_toInt hn] at h
  exact ⟨i, by omega, rfl⟩
theorem inR_toInt {x : Int32} {n : Nat} (h : ¬ inR x n) : x.toInt < 0 ∨ (n : Int) ≤ x.toInt := by
  by_cases h0 : x.toInt < 0
  · exact Or.inl h0
  · refine Or.inr ?_
    have h1 : ¬ x < 0 := by rw [Int32.lt_iff_toInt_lt]; simpa using h0
    obtain ⟨i, hi, rfl⟩ := nn_ex h1
    rw [nI_toInt hi]
    by_cases hin : i < n
    · exact absurd ⟨i, hin, rfl⟩ h
    · omega
abbrev xIOB : String := "java/lang/IndexOutOfBoundsException"
abbrev xIAE : String := "java/lang/IllegalArgumentException"
abbrev xISE : String := "java/lang/IllegalStateException"
theorem m_requireBeat {Γ : GBase} (F : FB Γ) (S : PS) (y : Int32) : GMet Γ yX5_requireBeat cX5_requireBeat 1 ((none : Option FieldType)) 5 1 6 [.int y] S (fun r S' => (r = none ∧ S = S') ∧ inR y 1000) (fun E S' => E = xIAE ∧ S = S' ∧ ¬ inR y 1000) := by
  refine GMet.of (loc0 := [(0, .int y)]) F (by decide +kernel) rfl (Nat.le_of_ble_eq_true rfl) (fun X C R Tb nm => ?_)
  refine g_iload_n C dX5_requireBeat_0 rfl rfl ?_
  refine g_if_lt C dX5_requireBeat_1 (tgt := 11) (by decide) (fun c1 => ?_) (fun c1 => ?_)
  · refine g_throwS C R Tb (kk := 5) rfl rfl tx_IAE tw_1_188 dX5_requireBeat_11 dX5_requireBeat_14 dX5_requireBeat_15 dX5_requireBeat_17 dX5_requireBeat_20 (by decide) (by simp [Value.category]) (by omega) (by omega) ?_
    exact ⟨rfl, rfl, inR_neg (by decide) c1⟩
  · refine g_iload_n C dX5_requireBeat_4 rfl rfl ?_
    refine g_sipush C dX5_requireBeat_5 (v := 1000) (by decide) ?_
    rw [show (1000 : Int32) = nI 1000 from rfl]
    refine g_icmp_lt C dX5_requireBeat_8 (tgt := 21) (by decide) (fun c2 => ?_) (fun c2 => ?_)
    · refine g_vret C R (by omega) (by omega) dX5_requireBeat_21 ?_
      exact ⟨⟨rfl, rfl⟩, inR_of (by decide) c1 c2⟩
    · refine g_throwS C R Tb (kk := 5) rfl rfl tx_IAE tw_1_188 dX5_requireBeat_11 dX5_requireBeat_14 dX5_requireBeat_15 dX5_requireBeat_17 dX5_requireBeat_20 (by decide) (by simp [Value.category]) (by omega) (by omega) ?_
      exact ⟨rfl, rfl, inR_ge (by decide) c2⟩
theorem m_requirePlace {Γ : GBase} (F : FB Γ) (S : PS) (y : Int32) : GMet Γ yX5_requirePlace cX5_requirePlace 1 ((none : Option FieldType)) 5 1 6 [.int y] S (fun r S' => (r = none ∧ S = S') ∧ inR y 20) (fun E S' => E = xIAE ∧ S = S' ∧ ¬ inR y 20) := by
  refine GMet.of (loc0 := [(0, .int y)]) F (by decide +kernel) rfl (Nat.le_of_ble_eq_true rfl) (fun X C R Tb nm => ?_)
  refine g_iload_n C dX5_requirePlace_0 rfl rfl ?_
  refine g_if_lt C dX5_requirePlace_1 (tgt := 10) (by decide) (fun c1 => ?_) (fun c1 => ?_)
  · refine g_throwS C R Tb (kk := 5) rfl rfl tx_IAE tw_2_199 dX5_requirePlace_10 dX5_requirePlace_13 dX5_requirePlace_14 dX5_requirePlace_16 dX5_requirePlace_19 (by decide) (by simp [Value.category]) (by omega) (by omega) ?_
    exact ⟨rfl, rfl, inR_neg (by decide) c1⟩
  · refine g_iload_n C dX5_requirePlace_4 rfl rfl ?_
    refine g_bipush C dX5_requirePlace_5 (v := 20) (by decide) ?_
    rw [show (20 : Int32) = nI 20 from rfl]
    refine g_icmp_lt C dX5_requirePlace_7 (tgt := 20) (by decide) (fun c2 => ?_) (fun c2 => ?_)
    · refine g_vret C R (by omega) (by omega) dX5_requirePlace_20 ?_
      exact ⟨⟨rfl, rfl⟩, inR_of (by decide) c1 c2⟩
    · refine g_throwS C R Tb (kk := 5) rfl rfl tx_IAE tw_2_199 dX5_requirePlace_10 dX5_requirePlace_13 dX5_requirePlace_14 dX5_requirePlace_16 dX5_requirePlace_19 (by decide) (by simp [Value.category]) (by omega) (by omega) ?_
      exact ⟨rfl, rfl, inR_ge (by decide) c2⟩
theorem m_requireTrack {Γ : GBase} (F : FB Γ) (S : PS) (y : Int32) : GMet Γ yX5_requireTrack cX5_requireTrack 1 ((none : Option FieldType)) 5 1 6 [.int y] S (fun r S' => (r = none ∧ S = S') ∧ inR y 4) (fun E S' => E = xIAE ∧ S = S' ∧ ¬ inR y 4) := by
  refine GMet.of (loc0 := [(0, .int y)]) F (by decide +kernel) rfl (Nat.le_of_ble_eq_true rfl) (fun X C R Tb nm => ?_)
  refine g_iload_n C dX5_requireTrack_0 rfl rfl ?_
  refine g_if_lt C dX5_requireTrack_1 (tgt := 9) (by decide) (fun c1 => ?_) (fun c1 => ?_)
  · refine g_throwS C R Tb (kk := 5) rfl rfl tx_IAE tw_2_231 dX5_requireTrack_9 dX5_requireTrack_12 dX5_requireTrack_13 dX5_requireTrack_15 dX5_requireTrack_18 (by decide) (by simp [Value.category]) (by omega) (by omega) ?_
    exact ⟨rfl, rfl, inR_neg (by decide) c1⟩
  · refine g_iload_n C dX5_requireTrack_4 rfl rfl ?_
    refine g_iconst C dX5_requireTrack_5 (v := 4) (by decide) ?_
    rw [show (4 : Int32) = nI 4 from rfl]
    refine g_icmp_lt C dX5_requireTrack_6 (tgt := 19) (by decide) (fun c2 => ?_) (fun c2 => ?_)
    · refine g_vret C R (by omega) (by omega) dX5_requireTrack_19 ?_
      exact ⟨⟨rfl, rfl⟩, inR_of (by decide) c1 c2⟩
    · refine g_throwS C R Tb (kk := 5) rfl rfl tx_IAE tw_2_231 dX5_requireTrack_9 dX5_requireTrack_12 dX5_requireTrack_13 dX5_requireTrack_15 dX5_requireTrack_18 (by decide) (by simp [Value.category]) (by omega) (by omega) ?_
      exact ⟨rfl, rfl, inR_ge (by decide) c2⟩
