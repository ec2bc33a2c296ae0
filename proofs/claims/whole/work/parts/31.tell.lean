def cueW (u : Nat × D4) (w : Nat) : Int32 := if w = 0 then nI u.2.1 else if w = 1 then nI u.1 else if w = 2 then nI u.2.2.1 else if w = 3 then (if u.2.1 ≤ 1 then nI u.2.2.2.1 else -1) else (if u.2.1 = 0 ∨ u.2.1 = 2 then nI u.2.2.2.2 else -1)
theorem inR_cases5 {y : Int32} (h : inR y 5) : y = nI 0 ∨ y = nI 1 ∨ y = nI 2 ∨ y = nI 3 ∨ y = nI 4 := by
  obtain ⟨i, hi, rfl⟩ := h
  rcases (by omega : i = 0 ∨ i = 1 ∨ i = 2 ∨ i = 3 ∨ i = 4) with rfl | rfl | rfl | rfl | rfl
  · exact Or.inl rfl
  · exact Or.inr (Or.inl rfl)
  · exact Or.inr (Or.inr (Or.inl rfl))
  · exact Or.inr (Or.inr (Or.inr (Or.inl rfl)))
  · exact Or.inr (Or.inr (Or.inr (Or.inr rfl)))
theorem m_tellOfCue {Γ : GBase} (F : FB Γ) (S : PS) (c p : Nat) (y : Int32) (u : Nat × D4) (sk : Bool) (nt : Nat) (sl : Int) (so : Nat) (hc : CueA S c p u.2 sk nt sl so) (hp : al S p 3) (hn : pI S 96 p = nI u.1) : GMet Γ yX5_tellOfCue cX5_tellOfCue 2 ((some FieldType.int)) 0 1 6 [.ref c, .int y] S (fun r S' => S = S' ∧ ∃ w, w < 5 ∧ y = nI w ∧ r = some (.int (cueW u w))) (fun E S' => E = xIOB ∧ S = S' ∧ ¬ inR y 5) := by
  obtain ⟨⟨h0, h1, h2, h3, h4, _⟩, h5, -, -, -, -, h6, h7⟩ := hc
  refine GMet.of (loc0 := [(0, .ref c), (1, .int y)]) F (by decide +kernel) rfl (Nat.le_of_ble_eq_true rfl) (fun X C R Tb nm => ?_)
  refine g_iload_n C dX5_tellOfCue_0 rfl rfl ?_
  by_cases hy : inR y 5
  · rcases inR_cases5 hy with rfl | rfl | rfl | rfl | rfl
    · refine g_tableIn C dX5_tellOfCue_1 (by decide) (by decide) (off := 35) (by decide +kernel) (tgt := 36) (by decide) ?_
      refine g_aload_n C dX5_tellOfCue_36 rfl rfl ?_
      refine ge_Cue_kind C tw_4_19 (by exact h0) (by exact h1) dX5_tellOfCue_37 ?_
      refine g_iret C R rfl (by omega) (by omega) dX5_tellOfCue_40 ?_
      exact ⟨rfl, 0, by decide, rfl, rfl⟩
    · refine g_tableIn C dX5_tellOfCue_1 (by decide) (by decide) (off := 40) (by decide +kernel) (tgt := 41) (by decide) ?_
      refine g_aload_n C dX5_tellOfCue_41 rfl rfl ?_
      refine ge_Cue_puppet C tw_4_21 (by exact h0) (by exact h5) dX5_tellOfCue_42 ?_
      refine ge_Puppet_number C tw_3_157 (by exact hp) (by exact hn) dX5_tellOfCue_45 ?_
      refine g_iret C R rfl (by omega) (by omega) dX5_tellOfCue_48 ?_
      exact ⟨rfl, 1, by decide, rfl, rfl⟩
    · refine g_tableIn C dX5_tellOfCue_1 (by decide) (by decide) (off := 48) (by decide +kernel) (tgt := 49) (by decide) ?_
      refine g_aload_n C dX5_tellOfCue_49 rfl rfl ?_
      refine ge_Cue_beat C tw_4_25 (by exact h0) (by exact h2) dX5_tellOfCue_50 ?_
      refine g_iret C R rfl (by omega) (by omega) dX5_tellOfCue_53 ?_
      exact ⟨rfl, 2, by decide, rfl, rfl⟩
    · have e : pI S 3 c = cueW u 3 := by
        unfold cueW
        simp only [show ¬ (3 = 0) by decide, show ¬ (3 = 1) by decide, show ¬ (3 = 2) by decide, if_false, if_true]
        by_cases hu : u.2.1 ≤ 1
        · rw [if_pos hu]; exact h3 hu
        · rw [if_neg hu]; exact h6 hu
      refine g_tableIn C dX5_tellOfCue_1 (by decide) (by decide) (off := 53) (by decide +kernel) (tgt := 54) (by decide) ?_
      refine g_aload_n C dX5_tellOfCue_54 rfl rfl ?_
      refine ge_Cue_place C tw_4_28 (by exact h0) (by exact e) dX5_tellOfCue_55 ?_
      refine g_iret C R rfl (by omega) (by omega) dX5_tellOfCue_58 ?_
      exact ⟨rfl, 3, by decide, rfl, rfl⟩
    · have e : pI S 4 c = cueW u 4 := by
        unfold cueW
        simp only [show ¬ (4 = 0) by decide, show ¬ (4 = 1) by decide, show ¬ (4 = 2) by decide, show ¬ (4 = 3) by decide, if_false]
        by_cases hu : u.2.1 = 0 ∨ u.2.1 = 2
        · rw [if_pos hu]; exact h4 hu
        · rw [if_neg hu]; exact h7 hu
      refine g_tableIn C dX5_tellOfCue_1 (by decide) (by decide) (off := 58) (by decide +kernel) (tgt := 59) (by decide) ?_
      refine g_aload_n C dX5_tellOfCue_59 rfl rfl ?_
      refine ge_Cue_track C tw_4_31 (by exact h0) (by exact e) dX5_tellOfCue_60 ?_
      refine g_iret C R rfl (by omega) (by omega) dX5_tellOfCue_63 ?_
      exact ⟨rfl, 4, by decide, rfl, rfl⟩
  · refine g_tableOut C dX5_tellOfCue_1 (by have := inR_toInt hy; omega) (tgt := 64) (by decide) ?_
    refine g_throwSW C R Tb (kk := 5) rfl rfl tx_IOB tw_3_117 dX5_tellOfCue_64 dX5_tellOfCue_67 dX5_tellOfCue_68 dX5_tellOfCue_71 dX5_tellOfCue_74 (by simp [Value.category]) (by omega) (by omega) ?_
    exact ⟨rfl, rfl, hy⟩
theorem m_tellOfStay {Γ : GBase} (F : FB Γ) (S : PS) (t a : Nat) (y v : Int32) (q : Nat × Nat) (hs : StayO S t a q) (hv : pI S 131 t = v) : GMet Γ yX5_tellOfStay cX5_tellOfStay 2 ((some FieldType.int)) 0 1 6 [.ref t, .int y] S (fun r S' => S = S' ∧ ∃ w, w < 3 ∧ y = nI w ∧ r = some (.int (if w = 0 then nI q.1 else if w = 1 then nI q.2 else v))) (fun E S' => E = xIOB ∧ S = S' ∧ ¬ inR y 3) := by
  obtain ⟨h0, -, h1, h2, -, -⟩ := hs
  refine GMet.of (loc0 := [(0, .ref t), (1, .int y)]) F (by decide +kernel) rfl (Nat.le_of_ble_eq_true rfl) (fun X C R Tb nm => ?_)
  refine g_iload_n C dX5_tellOfStay_0 rfl rfl ?_
  by_cases hy : inR y 3
  · obtain ⟨i, hi, hyi⟩ := id hy
    rcases (by omega : i = 0 ∨ i = 1 ∨ i = 2) with e | e | e
    · rw [e] at hyi; subst hyi
      refine g_tableIn C dX5_tellOfStay_1 (by decide) (by decide) (off := 27) (by decide +kernel) (tgt := 28) (by decide) ?_
      refine g_aload_n C dX5_tellOfStay_28 rfl rfl ?_
      refine ge_Stay_begin C tw_4_157 (by exact h0) (by exact h1) dX5_tellOfStay_29 ?_
      refine g_iret C R rfl (by omega) (by omega) dX5_tellOfStay_32 ?_
      exact ⟨rfl, 0, by decide, rfl, rfl⟩
    · rw [e] at hyi; subst hyi
      refine g_tableIn C dX5_tellOfStay_1 (by decide) (by decide) (off := 32) (by decide +kernel) (tgt := 33) (by decide) ?_
      refine g_aload_n C dX5_tellOfStay_33 rfl rfl ?_
      refine ge_Stay_end C tw_4_161 (by exact h0) (by exact h2) dX5_tellOfStay_34 ?_
      refine g_iret C R rfl (by omega) (by omega) dX5_tellOfStay_37 ?_
      exact ⟨rfl, 1, by decide, rfl, rfl⟩
    · rw [e] at hyi; subst hyi
      refine g_tableIn C dX5_tellOfStay_1 (by decide) (by decide) (off := 37) (by decide +kernel) (tgt := 38) (by decide) ?_
      refine g_aload_n C dX5_tellOfStay_38 rfl rfl ?_
      refine ge_Stay_player C tw_4_163 (by exact h0) (by exact hv) dX5_tellOfStay_39 ?_
      refine g_iret C R rfl (by omega) (by omega) dX5_tellOfStay_42 ?_
      exact ⟨rfl, 2, by decide, rfl, rfl⟩
  · refine g_tableOut C dX5_tellOfStay_1 (by have := inR_toInt hy; omega) (tgt := 43) (by decide) ?_
    refine g_throwSW C R Tb (kk := 5) rfl rfl tx_IOB tw_3_105 dX5_tellOfStay_43 dX5_tellOfStay_46 dX5_tellOfStay_47 dX5_tellOfStay_50 dX5_tellOfStay_53 (by simp [Value.category]) (by omega) (by omega) ?_
    exact ⟨rfl, rfl, hy⟩
theorem m_count {Γ : GBase} (F : FB Γ) (S : PS) (x : Nat) (y : Int32) (A : AD) (B : BT) (hI : BkI Γ S x A B) : GMet Γ yX5_count cX5_count 2 ((some FieldType.int)) 3 1 6 [.ref x, .int y] S (fun r S' => S = S' ∧ ∃ w, w < 4 ∧ y = nI w ∧ r = some (.int (nI (if w = 0 then tN B else if w = 1 then tQ B else if w = 2 then tC B else cntN (tK B) (tC B))))) (fun E S' => E = xIOB ∧ S = S' ∧ ¬ inR y 4) := by
  obtain ⟨hx, ⟨L1, a1, -, a2⟩, ⟨L2, b1, -, b2⟩, ⟨L3, c1, -, c2⟩, -, d1, -⟩ := hI
  refine GMet.of (loc0 := [(0, .ref x), (1, .int y)]) F (by decide +kernel) rfl (Nat.le_of_ble_eq_true rfl) (fun X C R Tb nm => ?_)
  refine g_iload_n C dX5_count_0 rfl rfl ?_
  by_cases hy : inR y 4
  · obtain ⟨i, hi, hyi⟩ := id hy
    rcases (by omega : i = 0 ∨ i = 1 ∨ i = 2 ∨ i = 3) with e | e | e | e
    · rw [e] at hyi; subst hyi
      refine g_tableIn C dX5_count_1 (by decide) (by decide) (off := 31) (by decide +kernel) (tgt := 32) (by decide) ?_
      refine g_aload_n C dX5_count_32 rfl rfl ?_
      refine ge_Book_puppets C tw_1_64 (by exact hx) (by exact a1) dX5_count_33 ?_
      refine g_callV C gy_Jx4a65c_size_8abf5 tw_1_97 tw_1_98 tw_1_99 (by decide) (kk := 7) rfl rfl (by exact a2.1) (m_size F S L1 _ a2) rfl rfl (Nat.le_of_ble_eq_true rfl) (by omega) (by omega) dX5_count_36 (fun _ _ h9 => h9.elim) ?_
      rintro _ _ ⟨rfl, rfl⟩
      rw [rmap_len]
      refine g_iret C R rfl (by omega) (by omega) dX5_count_39 ?_
      exact ⟨rfl, 0, by decide, rfl, rfl⟩
    · rw [e] at hyi; subst hyi
      refine g_tableIn C dX5_count_1 (by decide) (by decide) (off := 39) (by decide +kernel) (tgt := 40) (by decide) ?_
      refine g_aload_n C dX5_count_40 rfl rfl ?_
      refine ge_Book_players C tw_1_65 (by exact hx) (by exact b1) dX5_count_41 ?_
      refine g_callV C gy_Jx4a65c_size_8abf5 tw_1_97 tw_1_98 tw_1_99 (by decide) (kk := 7) rfl rfl (by exact b2.1) (m_size F S L2 _ b2) rfl rfl (Nat.le_of_ble_eq_true rfl) (by omega) (by omega) dX5_count_44 (fun _ _ h9 => h9.elim) ?_
      rintro _ _ ⟨rfl, rfl⟩
      rw [rmap_len]
      refine g_iret C R rfl (by omega) (by omega) dX5_count_47 ?_
      exact ⟨rfl, 1, by decide, rfl, rfl⟩
    · rw [e] at hyi; subst hyi
      refine g_tableIn C dX5_count_1 (by decide) (by decide) (off := 47) (by decide +kernel) (tgt := 48) (by decide) ?_
      refine g_aload_n C dX5_count_48 rfl rfl ?_
      refine ge_Book_cues C tw_1_66 (by exact hx) (by exact c1) dX5_count_49 ?_
      refine g_callV C gy_Jx4a65c_size_8abf5 tw_1_97 tw_1_98 tw_1_99 (by decide) (kk := 7) rfl rfl (by exact c2.1) (m_size F S L3 _ c2) rfl rfl (Nat.le_of_ble_eq_true rfl) (by omega) (by omega) dX5_count_52 (fun _ _ h9 => h9.elim) ?_
      rintro _ _ ⟨rfl, rfl⟩
      rw [rmap_len]
      refine g_iret C R rfl (by omega) (by omega) dX5_count_55 ?_
      exact ⟨rfl, 2, by decide, rfl, rfl⟩
    · rw [e] at hyi; subst hyi
      refine g_tableIn C dX5_count_1 (by decide) (by decide) (off := 55) (by decide +kernel) (tgt := 56) (by decide) ?_
      refine g_aload_n C dX5_count_56 rfl rfl ?_
      refine ge_Book_struckCues C tw_1_68 (by exact hx) (by exact d1) dX5_count_57 ?_
      refine g_iret C R rfl (by omega) (by omega) dX5_count_60 ?_
      exact ⟨rfl, 3, by decide, rfl, rfl⟩
  · refine g_tableOut C dX5_count_1 (by have := inR_toInt hy; omega) (tgt := 61) (by decide) ?_
    refine g_throwS C R Tb (kk := 5) rfl rfl tx_IOB tw_4_229 dX5_count_61 dX5_count_64 dX5_count_65 dX5_count_67 dX5_count_70 (by simp [Value.category]) (by omega) (by omega) ?_
    exact ⟨rfl, rfl, hy⟩
