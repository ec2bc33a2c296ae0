theorem m_puppetNumbered {Γ : GBase} (F : FB Γ) (S : PS) (x : Nat) (y : Int32) (f : Nat → Nat) (n o : Nat) (hx : al S x 5) (hL : BkL Γ S x 160 o (rmap f n)) (hk : ∀ i, i < n → al S (f i) 3) : GMet Γ yX5_puppetNumbered cX5_puppetNumbered 2 ((some (FieldType.object "CueBook$Puppet"))) 3 1 6 [.ref x, .int y] S (fun r S' => S = S' ∧ ∃ i, i < n ∧ y = nI i ∧ r = some (.ref (f i))) (fun E S' => E = xIOB ∧ S = S' ∧ ¬ inR y n) := by
  obtain ⟨L, hL1, hL2, hL3⟩ := hL
  have hn : n ≤ 100 := by have := hL3.len; rw [rmap_len] at this; exact this
  refine GMet.of (loc0 := [(0, .ref x), (1, .int y)]) F (by decide +kernel) rfl (Nat.le_of_ble_eq_true rfl) (fun X C R Tb nm => ?_)
  refine g_iload_n C dX5_puppetNumbered_0 rfl rfl ?_
  refine g_if_lt C dX5_puppetNumbered_1 (tgt := 15) (by decide) (fun c1 => ?_) (fun c1 => ?_)
  · refine g_throwS C R Tb (kk := 5) rfl rfl tx_IOB tw_4_2 dX5_puppetNumbered_15 dX5_puppetNumbered_18 dX5_puppetNumbered_19 dX5_puppetNumbered_21 dX5_puppetNumbered_24 (by simp [Value.category]) (by omega) (by omega) ?_
    exact ⟨rfl, rfl, inR_neg (by omega) c1⟩
  · refine g_iload_n C dX5_puppetNumbered_4 rfl rfl ?_
    refine g_aload_n C dX5_puppetNumbered_5 rfl rfl ?_
    refine ge_Book_puppets C tw_1_64 (by exact hx) (by exact hL1) dX5_puppetNumbered_6 ?_
    refine g_callV C gy_Jx4a65c_size_8abf5 tw_1_97 tw_1_98 tw_1_99 (by decide) (kk := 7) rfl rfl (by exact hL3.1) (m_size F S L _ hL3) rfl rfl (Nat.le_of_ble_eq_true rfl) (by omega) (by omega) dX5_puppetNumbered_9 (fun _ _ h9 => h9.elim) ?_
    rintro _ _ ⟨rfl, rfl⟩
    rw [rmap_len]
    refine g_icmp_lt C dX5_puppetNumbered_12 (tgt := 25) (by decide) (fun c2 => ?_) (fun c2 => ?_)
    · obtain ⟨i, hi, hyi⟩ := inR_of (by omega) c1 c2
      rw [hyi]
      refine g_aload_n C dX5_puppetNumbered_25 rfl rfl ?_
      refine ge_Book_puppets C tw_1_64 (by exact hx) (by exact hL1) dX5_puppetNumbered_26 ?_
      refine g_iload_n C dX5_puppetNumbered_29 rfl rfl ?_
      refine g_callV C gy_Jx4a65c_get_915e3 tw_1_101 tw_1_102 tw_1_103 (by decide) (kk := 7) rfl rfl (by exact hL3.1) (m_get F S L _ hL3 i (f i) (rmap_get hi)) rfl rfl (Nat.le_of_ble_eq_true rfl) (by omega) (by omega) dX5_puppetNumbered_30 (fun _ _ h9 => h9.elim) ?_
      rintro _ _ ⟨rfl, rfl⟩
      refine g_cast C (kk := 3) rfl (hk i hi) tw_1_115 dX5_puppetNumbered_33 ?_
      refine g_aret C R (Or.inl ⟨_, rfl⟩) (by omega) (by omega) dX5_puppetNumbered_36 ?_
      exact ⟨rfl, i, hi, hyi, rfl⟩
    · refine g_throwS C R Tb (kk := 5) rfl rfl tx_IOB tw_4_2 dX5_puppetNumbered_15 dX5_puppetNumbered_18 dX5_puppetNumbered_19 dX5_puppetNumbered_21 dX5_puppetNumbered_24 (by simp [Value.category]) (by omega) (by omega) ?_
      exact ⟨rfl, rfl, inR_ge (by omega) c2⟩
theorem m_playerNumbered {Γ : GBase} (F : FB Γ) (S : PS) (x : Nat) (y : Int32) (f : Nat → Nat) (n o : Nat) (hx : al S x 5) (hL : BkL Γ S x 161 o (rmap f n)) (hk : ∀ i, i < n → al S (f i) 2) : GMet Γ yX5_playerNumbered cX5_playerNumbered 2 ((some (FieldType.object "CueBook$Player"))) 3 1 6 [.ref x, .int y] S (fun r S' => S = S' ∧ ∃ i, i < n ∧ y = nI i ∧ r = some (.ref (f i))) (fun E S' => E = xIOB ∧ S = S' ∧ ¬ inR y n) := by
  obtain ⟨L, hL1, hL2, hL3⟩ := hL
  have hn : n ≤ 100 := by have := hL3.len; rw [rmap_len] at this; exact this
  refine GMet.of (loc0 := [(0, .ref x), (1, .int y)]) F (by decide +kernel) rfl (Nat.le_of_ble_eq_true rfl) (fun X C R Tb nm => ?_)
  refine g_iload_n C dX5_playerNumbered_0 rfl rfl ?_
  refine g_if_lt C dX5_playerNumbered_1 (tgt := 15) (by decide) (fun c1 => ?_) (fun c1 => ?_)
  · refine g_throwS C R Tb (kk := 5) rfl rfl tx_IOB tw_5_59 dX5_playerNumbered_15 dX5_playerNumbered_18 dX5_playerNumbered_19 dX5_playerNumbered_21 dX5_playerNumbered_24 (by simp [Value.category]) (by omega) (by omega) ?_
    exact ⟨rfl, rfl, inR_neg (by omega) c1⟩
  · refine g_iload_n C dX5_playerNumbered_4 rfl rfl ?_
    refine g_aload_n C dX5_playerNumbered_5 rfl rfl ?_
    refine ge_Book_players C tw_1_65 (by exact hx) (by exact hL1) dX5_playerNumbered_6 ?_
    refine g_callV C gy_Jx4a65c_size_8abf5 tw_1_97 tw_1_98 tw_1_99 (by decide) (kk := 7) rfl rfl (by exact hL3.1) (m_size F S L _ hL3) rfl rfl (Nat.le_of_ble_eq_true rfl) (by omega) (by omega) dX5_playerNumbered_9 (fun _ _ h9 => h9.elim) ?_
    rintro _ _ ⟨rfl, rfl⟩
    rw [rmap_len]
    refine g_icmp_lt C dX5_playerNumbered_12 (tgt := 25) (by decide) (fun c2 => ?_) (fun c2 => ?_)
    · obtain ⟨i, hi, hyi⟩ := inR_of (by omega) c1 c2
      rw [hyi]
      refine g_aload_n C dX5_playerNumbered_25 rfl rfl ?_
      refine ge_Book_players C tw_1_65 (by exact hx) (by exact hL1) dX5_playerNumbered_26 ?_
      refine g_iload_n C dX5_playerNumbered_29 rfl rfl ?_
      refine g_callV C gy_Jx4a65c_get_915e3 tw_1_101 tw_1_102 tw_1_103 (by decide) (kk := 7) rfl rfl (by exact hL3.1) (m_get F S L _ hL3 i (f i) (rmap_get hi)) rfl rfl (Nat.le_of_ble_eq_true rfl) (by omega) (by omega) dX5_playerNumbered_30 (fun _ _ h9 => h9.elim) ?_
      rintro _ _ ⟨rfl, rfl⟩
      refine g_cast C (kk := 2) rfl (hk i hi) tw_1_133 dX5_playerNumbered_33 ?_
      refine g_aret C R (Or.inl ⟨_, rfl⟩) (by omega) (by omega) dX5_playerNumbered_36 ?_
      exact ⟨rfl, i, hi, hyi, rfl⟩
    · refine g_throwS C R Tb (kk := 5) rfl rfl tx_IOB tw_5_59 dX5_playerNumbered_15 dX5_playerNumbered_18 dX5_playerNumbered_19 dX5_playerNumbered_21 dX5_playerNumbered_24 (by simp [Value.category]) (by omega) (by omega) ?_
      exact ⟨rfl, rfl, inR_ge (by omega) c2⟩
def isC (B : BT) (y : Int32) (c : Nat) : Prop := c < tC B ∧ y = nI c ∧ tK B c = false
def noC (B : BT) (y : Int32) : Prop := ∀ c, ¬ isC B y c
theorem m_cueNumbered {Γ : GBase} (F : FB Γ) (S : PS) (x : Nat) (y : Int32) (A : AD) (B : BT) (o : Nat) (hx : al S x 5) (hL : BkL Γ S x 162 o (rmap (dC A) (tC B))) (hk : CuesI S A B) : GMet Γ yX5_cueNumbered cX5_cueNumbered 3 ((some (FieldType.object "CueBook$Cue"))) 3 1 6 [.ref x, .int y] S (fun r S' => S = S' ∧ ∃ c, isC B y c ∧ r = some (.ref (dC A c))) (fun E S' => E = xIOB ∧ S = S' ∧ noC B y) := by
  obtain ⟨L, hL1, hL2, hL3⟩ := hL
  have hn : tC B ≤ 100 := by have := hL3.len; rw [rmap_len] at this; exact this
  refine GMet.of (loc0 := [(0, .ref x), (1, .int y)]) F (by decide +kernel) rfl (Nat.le_of_ble_eq_true rfl) (fun X C R Tb nm => ?_)
  refine g_iload_n C dX5_cueNumbered_0 rfl rfl ?_
  refine g_if_lt C dX5_cueNumbered_1 (tgt := 15) (by decide) (fun c1 => ?_) (fun c1 => ?_)
  · refine g_throwS C R Tb (kk := 5) rfl rfl tx_IOB tw_4_215 dX5_cueNumbered_15 dX5_cueNumbered_18 dX5_cueNumbered_19 dX5_cueNumbered_21 dX5_cueNumbered_24 (by simp [Value.category]) (by omega) (by omega) ?_
    exact ⟨rfl, rfl, fun c hc => inR_neg (n := tC B) (by omega) c1 ⟨c, hc.1, hc.2.1⟩⟩
  · refine g_iload_n C dX5_cueNumbered_4 rfl rfl ?_
    refine g_aload_n C dX5_cueNumbered_5 rfl rfl ?_
    refine ge_Book_cues C tw_1_66 (by exact hx) (by exact hL1) dX5_cueNumbered_6 ?_
    refine g_callV C gy_Jx4a65c_size_8abf5 tw_1_97 tw_1_98 tw_1_99 (by decide) (kk := 7) rfl rfl (by exact hL3.1) (m_size F S L _ hL3) rfl rfl (Nat.le_of_ble_eq_true rfl) (by omega) (by omega) dX5_cueNumbered_9 (fun _ _ h9 => h9.elim) ?_
    rintro _ _ ⟨rfl, rfl⟩
    rw [rmap_len]
    refine g_icmp_lt C dX5_cueNumbered_12 (tgt := 25) (by decide) (fun c2 => ?_) (fun c2 => ?_)
    · obtain ⟨i, hi, hyi⟩ := inR_of (by omega) c1 c2
      have hc := hk.2 i hi
      refine g_aload_n C dX5_cueNumbered_25 rfl rfl ?_
      refine ge_Book_cues C tw_1_66 (by exact hx) (by exact hL1) dX5_cueNumbered_26 ?_
      rw [hyi]
      refine g_iload_n C dX5_cueNumbered_29 rfl rfl ?_
      refine g_callV C gy_Jx4a65c_get_915e3 tw_1_101 tw_1_102 tw_1_103 (by decide) (kk := 7) rfl rfl (by exact hL3.1) (m_get F S L _ hL3 i (dC A i) (rmap_get hi)) rfl rfl (Nat.le_of_ble_eq_true rfl) (by omega) (by omega) dX5_cueNumbered_30 (fun _ _ h9 => h9.elim) ?_
      rintro _ _ ⟨rfl, rfl⟩
      refine g_cast C (kk := 0) rfl hc.1.1 tw_3_88 dX5_cueNumbered_33 ?_
      refine g_astore_n C dX5_cueNumbered_36 rfl (by decide) rfl ?_
      refine g_aload_n C dX5_cueNumbered_37 rfl rfl ?_
      refine ge_Cue_isStruck C tw_4_33 (by exact hc.1.1) (by exact hc.2.2.1) dX5_cueNumbered_38 ?_
      cases hs : tK B i with
      | false =>
        refine g_if_eq C dX5_cueNumbered_41 (tgt := 54) (by decide) (fun c3 => ?_) (fun c3 => ?_)
        · refine g_aload_n C dX5_cueNumbered_54 rfl rfl ?_
          refine g_aret C R (Or.inl ⟨_, rfl⟩) (by omega) (by omega) dX5_cueNumbered_55 ?_
          exact ⟨rfl, i, ⟨hi, hyi, hs⟩, rfl⟩
        · exact absurd rfl c3
      | true =>
        refine g_if_eq C dX5_cueNumbered_41 (tgt := 54) (by decide) (fun c3 => ?_) (fun c3 => ?_)
        · exact absurd c3 (by decide)
        · refine g_throwS C R Tb (kk := 5) rfl rfl tx_IOB tw_4_216 dX5_cueNumbered_44 dX5_cueNumbered_47 dX5_cueNumbered_48 dX5_cueNumbered_50 dX5_cueNumbered_53 (by simp [Value.category]) (by omega) (by omega) ?_
          refine ⟨rfl, rfl, fun c h => ?_⟩
          have e : c = i := nI_inj (by have := h.1; omega) (by omega) (h.2.1.symm.trans hyi)
          have := h.2.2
          rw [e, hs] at this
          cases this
    · refine g_throwS C R Tb (kk := 5) rfl rfl tx_IOB tw_4_215 dX5_cueNumbered_15 dX5_cueNumbered_18 dX5_cueNumbered_19 dX5_cueNumbered_21 dX5_cueNumbered_24 (by simp [Value.category]) (by omega) (by omega) ?_
      exact ⟨rfl, rfl, fun c hc => inR_ge (by omega) c2 ⟨c, hc.1, hc.2.1⟩⟩
