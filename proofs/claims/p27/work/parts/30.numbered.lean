theorem m_puppetNumbered {Γ : GBase} (F : FB Γ) (S : PS) (x : Nat) (y : Int32) (f : Nat → Nat) (n o : Nat) (hx : al S x 5) (hL : BkL Γ S x 160 o (rmap f n)) (hk : ∀ i, i < n → al S (f i) 3) : GMet Γ yX5_puppetNumbered cX5_puppetNumbered 2 ((some (FieldType.object "CueBook$Puppet"))) 5 1 6 [.ref x, .int y] S (fun r S' => S = S' ∧ ∃ i, i < n ∧ y = nI i ∧ r = some (.ref (f i))) (fun E S' => E = xIOB ∧ S = S' ∧ ¬ inR y n) := by
  obtain ⟨L, hL1, hL2, hL3⟩ := hL
  have hn : n ≤ 100 := by have := hL3.len; rw [rmap_len] at this; exact this
  refine GMet.of (loc0 := [(0, .ref x), (1, .int y)]) F (by decide +kernel) rfl (Nat.le_of_ble_eq_true rfl) (fun X C R Tb nm => ?_)
  refine g_iload_n C dX5_puppetNumbered_0 rfl rfl ?_
  refine g_if_lt C dX5_puppetNumbered_1 (tgt := 15) (by decide) (fun c1 => ?_) (fun c1 => ?_)
  · refine g_throwS C R Tb (kk := 5) rfl rfl tx_IOB tw_1_134 dX5_puppetNumbered_15 dX5_puppetNumbered_18 dX5_puppetNumbered_19 dX5_puppetNumbered_21 dX5_puppetNumbered_24 (by decide) (by simp [Value.category]) (by omega) (by omega) ?_
    exact ⟨rfl, rfl, inR_neg (by omega) c1⟩
  · refine g_iload_n C dX5_puppetNumbered_4 rfl rfl ?_
    refine g_aload_n C dX5_puppetNumbered_5 rfl rfl ?_
    refine ge_Book_puppets C tw_1_56 (by exact hx) (by exact hL1) dX5_puppetNumbered_6 ?_
    refine g_callV C gy_Jx4a65c_size_8abf5 tw_1_89 tw_1_90 tw_1_91 (by decide) (kk := 7) rfl rfl (by exact hL3.1) (m_size F S L _ hL3) rfl rfl (Nat.le_of_ble_eq_true rfl) (by omega) (by omega) dX5_puppetNumbered_9 (fun _ _ h9 => h9.elim) ?_
    rintro _ _ ⟨rfl, rfl⟩
    rw [rmap_len]
    refine g_icmp_lt C dX5_puppetNumbered_12 (tgt := 25) (by decide) (fun c2 => ?_) (fun c2 => ?_)
    · obtain ⟨i, hi, hyi⟩ := inR_of (by omega) c1 c2
      rw [hyi]
      refine g_aload_n C dX5_puppetNumbered_25 rfl rfl ?_
      refine ge_Book_puppets C tw_1_56 (by exact hx) (by exact hL1) dX5_puppetNumbered_26 ?_
      refine g_iload_n C dX5_puppetNumbered_29 rfl rfl ?_
      refine g_callV C gy_Jx4a65c_get_915e3 tw_1_161 tw_1_162 tw_1_163 (by decide) (kk := 7) rfl rfl (by exact hL3.1) (m_get F S L _ hL3 i (f i) (rmap_get hi)) rfl rfl (Nat.le_of_ble_eq_true rfl) (by omega) (by omega) dX5_puppetNumbered_30 (fun _ _ h9 => h9.elim) ?_
      rintro _ _ ⟨rfl, rfl⟩
      refine g_cast C (kk := 3) rfl (hk i hi) tw_1_175 dX5_puppetNumbered_33 ?_
      refine g_aret C R (Or.inl ⟨_, rfl⟩) (by omega) (by omega) dX5_puppetNumbered_36 ?_
      exact ⟨rfl, i, hi, hyi, rfl⟩
    · refine g_throwS C R Tb (kk := 5) rfl rfl tx_IOB tw_1_134 dX5_puppetNumbered_15 dX5_puppetNumbered_18 dX5_puppetNumbered_19 dX5_puppetNumbered_21 dX5_puppetNumbered_24 (by decide) (by simp [Value.category]) (by omega) (by omega) ?_
      exact ⟨rfl, rfl, inR_ge (by omega) c2⟩
theorem m_playerNumbered {Γ : GBase} (F : FB Γ) (S : PS) (x : Nat) (y : Int32) (f : Nat → Nat) (n o : Nat) (hx : al S x 5) (hL : BkL Γ S x 161 o (rmap f n)) (hk : ∀ i, i < n → al S (f i) 2) : GMet Γ yX5_playerNumbered cX5_playerNumbered 2 ((some (FieldType.object "CueBook$Player"))) 5 1 6 [.ref x, .int y] S (fun r S' => S = S' ∧ ∃ i, i < n ∧ y = nI i ∧ r = some (.ref (f i))) (fun E S' => E = xIOB ∧ S = S' ∧ ¬ inR y n) := by
  obtain ⟨L, hL1, hL2, hL3⟩ := hL
  have hn : n ≤ 100 := by have := hL3.len; rw [rmap_len] at this; exact this
  refine GMet.of (loc0 := [(0, .ref x), (1, .int y)]) F (by decide +kernel) rfl (Nat.le_of_ble_eq_true rfl) (fun X C R Tb nm => ?_)
  refine g_iload_n C dX5_playerNumbered_0 rfl rfl ?_
  refine g_if_lt C dX5_playerNumbered_1 (tgt := 15) (by decide) (fun c1 => ?_) (fun c1 => ?_)
  · refine g_throwS C R Tb (kk := 5) rfl rfl tx_IOB tw_2_101 dX5_playerNumbered_15 dX5_playerNumbered_18 dX5_playerNumbered_19 dX5_playerNumbered_21 dX5_playerNumbered_24 (by decide) (by simp [Value.category]) (by omega) (by omega) ?_
    exact ⟨rfl, rfl, inR_neg (by omega) c1⟩
  · refine g_iload_n C dX5_playerNumbered_4 rfl rfl ?_
    refine g_aload_n C dX5_playerNumbered_5 rfl rfl ?_
    refine ge_Book_players C tw_1_57 (by exact hx) (by exact hL1) dX5_playerNumbered_6 ?_
    refine g_callV C gy_Jx4a65c_size_8abf5 tw_1_89 tw_1_90 tw_1_91 (by decide) (kk := 7) rfl rfl (by exact hL3.1) (m_size F S L _ hL3) rfl rfl (Nat.le_of_ble_eq_true rfl) (by omega) (by omega) dX5_playerNumbered_9 (fun _ _ h9 => h9.elim) ?_
    rintro _ _ ⟨rfl, rfl⟩
    rw [rmap_len]
    refine g_icmp_lt C dX5_playerNumbered_12 (tgt := 25) (by decide) (fun c2 => ?_) (fun c2 => ?_)
    · obtain ⟨i, hi, hyi⟩ := inR_of (by omega) c1 c2
      rw [hyi]
      refine g_aload_n C dX5_playerNumbered_25 rfl rfl ?_
      refine ge_Book_players C tw_1_57 (by exact hx) (by exact hL1) dX5_playerNumbered_26 ?_
      refine g_iload_n C dX5_playerNumbered_29 rfl rfl ?_
      refine g_callV C gy_Jx4a65c_get_915e3 tw_1_161 tw_1_162 tw_1_163 (by decide) (kk := 7) rfl rfl (by exact hL3.1) (m_get F S L _ hL3 i (f i) (rmap_get hi)) rfl rfl (Nat.le_of_ble_eq_true rfl) (by omega) (by omega) dX5_playerNumbered_30 (fun _ _ h9 => h9.elim) ?_
      rintro _ _ ⟨rfl, rfl⟩
      refine g_cast C (kk := 2) rfl (hk i hi) tw_1_217 dX5_playerNumbered_33 ?_
      refine g_aret C R (Or.inl ⟨_, rfl⟩) (by omega) (by omega) dX5_playerNumbered_36 ?_
      exact ⟨rfl, i, hi, hyi, rfl⟩
    · refine g_throwS C R Tb (kk := 5) rfl rfl tx_IOB tw_2_101 dX5_playerNumbered_15 dX5_playerNumbered_18 dX5_playerNumbered_19 dX5_playerNumbered_21 dX5_playerNumbered_24 (by decide) (by simp [Value.category]) (by omega) (by omega) ?_
      exact ⟨rfl, rfl, inR_ge (by omega) c2⟩
def isC (B : BT) (y : Int32) (c : Nat) : Prop := c < tC B ∧ y = nI c ∧ tK B c = false
def noC (B : BT) (y : Int32) : Prop := ∀ c, ¬ isC B y c
