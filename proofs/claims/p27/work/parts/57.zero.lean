/-! ===== the class's questions, asked rightly, while the casting stands: nothing is made, nothing changes ===== -/
theorem z_puppetNumbered {Γ : GBase} (F : FB Γ) (S : PS) (x i : Nat) (f : Nat → Nat) (n o : Nat) (hx : al S x 5) (hL : BkL Γ S x 160 o (rmap f n)) (hk : ∀ i, i < n → al S (f i) 3) (hi : i < n) : GMet Γ yX5_puppetNumbered cX5_puppetNumbered 2 ((some (FieldType.object "CueBook$Puppet"))) 5 0 0 [.ref x, .int (nI i)] S (fun r S' => S = S' ∧ r = some (.ref (f i))) noX := by
  obtain ⟨L, hL1, hL2, hL3⟩ := hL
  have hn : n ≤ 100 := by have := hL3.len; rw [rmap_len] at this; exact this
  refine GMet.of (loc0 := [(0, .ref x), (1, .int (nI i))]) F (by decide +kernel) rfl (Nat.le_of_ble_eq_true rfl) (fun X C R Tb nm => ?_)
  refine g_iload_n C dX5_puppetNumbered_0 rfl rfl ?_
  refine g_if_lt C dX5_puppetNumbered_1 (tgt := 15) (by decide) (fun c1 => ?_) (fun c1 => ?_)
  · exact absurd c1 (nI_pos (by omega))
  · refine g_iload_n C dX5_puppetNumbered_4 rfl rfl ?_
    refine g_aload_n C dX5_puppetNumbered_5 rfl rfl ?_
    refine ge_Book_puppets C tw_1_56 (by exact hx) (by exact hL1) dX5_puppetNumbered_6 ?_
    refine g_callV C gy_Jx4a65c_size_8abf5 tw_1_89 tw_1_90 tw_1_91 (by decide) (kk := 7) rfl rfl (by exact hL3.1) (m_size F S L _ hL3) rfl rfl (Nat.le_of_ble_eq_true rfl) (by omega) (by omega) dX5_puppetNumbered_9 (fun _ _ h9 => h9.elim) ?_
    rintro _ _ ⟨rfl, rfl⟩
    rw [rmap_len]
    refine g_icmp_lt C dX5_puppetNumbered_12 (tgt := 25) (by decide) (fun c2 => ?_) (fun c2 => ?_)
    · refine g_aload_n C dX5_puppetNumbered_25 rfl rfl ?_
      refine ge_Book_puppets C tw_1_56 (by exact hx) (by exact hL1) dX5_puppetNumbered_26 ?_
      refine g_iload_n C dX5_puppetNumbered_29 rfl rfl ?_
      refine g_callV C gy_Jx4a65c_get_915e3 tw_1_161 tw_1_162 tw_1_163 (by decide) (kk := 7) rfl rfl (by exact hL3.1) (m_get F S L _ hL3 i (f i) (rmap_get hi)) rfl rfl (Nat.le_of_ble_eq_true rfl) (by omega) (by omega) dX5_puppetNumbered_30 (fun _ _ h9 => h9.elim) ?_
      rintro _ _ ⟨rfl, rfl⟩
      refine g_cast C (kk := 3) rfl (hk i hi) tw_1_175 dX5_puppetNumbered_33 ?_
      refine g_aret C R (Or.inl ⟨_, rfl⟩) (by omega) (by omega) dX5_puppetNumbered_36 ?_
      exact ⟨rfl, rfl⟩
    · exact absurd (nI_lt hi (by omega)) c2
theorem z_playerNumbered {Γ : GBase} (F : FB Γ) (S : PS) (x i : Nat) (f : Nat → Nat) (n o : Nat) (hx : al S x 5) (hL : BkL Γ S x 161 o (rmap f n)) (hk : ∀ i, i < n → al S (f i) 2) (hi : i < n) : GMet Γ yX5_playerNumbered cX5_playerNumbered 2 ((some (FieldType.object "CueBook$Player"))) 5 0 0 [.ref x, .int (nI i)] S (fun r S' => S = S' ∧ r = some (.ref (f i))) noX := by
  obtain ⟨L, hL1, hL2, hL3⟩ := hL
  have hn : n ≤ 100 := by have := hL3.len; rw [rmap_len] at this; exact this
  refine GMet.of (loc0 := [(0, .ref x), (1, .int (nI i))]) F (by decide +kernel) rfl (Nat.le_of_ble_eq_true rfl) (fun X C R Tb nm => ?_)
  refine g_iload_n C dX5_playerNumbered_0 rfl rfl ?_
  refine g_if_lt C dX5_playerNumbered_1 (tgt := 15) (by decide) (fun c1 => ?_) (fun c1 => ?_)
  · exact absurd c1 (nI_pos (by omega))
  · refine g_iload_n C dX5_playerNumbered_4 rfl rfl ?_
    refine g_aload_n C dX5_playerNumbered_5 rfl rfl ?_
    refine ge_Book_players C tw_1_57 (by exact hx) (by exact hL1) dX5_playerNumbered_6 ?_
    refine g_callV C gy_Jx4a65c_size_8abf5 tw_1_89 tw_1_90 tw_1_91 (by decide) (kk := 7) rfl rfl (by exact hL3.1) (m_size F S L _ hL3) rfl rfl (Nat.le_of_ble_eq_true rfl) (by omega) (by omega) dX5_playerNumbered_9 (fun _ _ h9 => h9.elim) ?_
    rintro _ _ ⟨rfl, rfl⟩
    rw [rmap_len]
    refine g_icmp_lt C dX5_playerNumbered_12 (tgt := 25) (by decide) (fun c2 => ?_) (fun c2 => ?_)
    · refine g_aload_n C dX5_playerNumbered_25 rfl rfl ?_
      refine ge_Book_players C tw_1_57 (by exact hx) (by exact hL1) dX5_playerNumbered_26 ?_
      refine g_iload_n C dX5_playerNumbered_29 rfl rfl ?_
      refine g_callV C gy_Jx4a65c_get_915e3 tw_1_161 tw_1_162 tw_1_163 (by decide) (kk := 7) rfl rfl (by exact hL3.1) (m_get F S L _ hL3 i (f i) (rmap_get hi)) rfl rfl (Nat.le_of_ble_eq_true rfl) (by omega) (by omega) dX5_playerNumbered_30 (fun _ _ h9 => h9.elim) ?_
      rintro _ _ ⟨rfl, rfl⟩
      refine g_cast C (kk := 2) rfl (hk i hi) tw_1_217 dX5_playerNumbered_33 ?_
      refine g_aret C R (Or.inl ⟨_, rfl⟩) (by omega) (by omega) dX5_playerNumbered_36 ?_
      exact ⟨rfl, rfl⟩
    · exact absurd (nI_lt hi (by omega)) c2
theorem z_requireBeat {Γ : GBase} (F : FB Γ) (S : PS) (b : Nat) (hb : b < 1000) : GMet Γ yX5_requireBeat cX5_requireBeat 1 ((none : Option FieldType)) 5 0 0 [.int (nI b)] S (fun r S' => r = none ∧ S = S') noX := by
  refine GMet.of (loc0 := [(0, .int (nI b))]) F (by decide +kernel) rfl (Nat.le_of_ble_eq_true rfl) (fun X C R Tb nm => ?_)
  refine g_iload_n C dX5_requireBeat_0 rfl rfl ?_
  refine g_if_lt C dX5_requireBeat_1 (tgt := 11) (by decide) (fun c1 => ?_) (fun c1 => ?_)
  · exact absurd c1 (nI_pos (by omega))
  · refine g_iload_n C dX5_requireBeat_4 rfl rfl ?_
    refine g_sipush C dX5_requireBeat_5 (v := 1000) (by decide) ?_
    rw [show (1000 : Int32) = nI 1000 from rfl]
    refine g_icmp_lt C dX5_requireBeat_8 (tgt := 21) (by decide) (fun c2 => ?_) (fun c2 => ?_)
    · refine g_vret C R (by omega) (by omega) dX5_requireBeat_21 ?_
      exact ⟨rfl, rfl⟩
    · exact absurd (nI_lt hb (by decide)) c2
theorem z_tellOfStay {Γ : GBase} (F : FB Γ) (S : PS) (t a w : Nat) (v : Int32) (q : Nat × Nat) (hs : StayO S t a q) (hv : pI S 131 t = v) (hw : w < 3) : GMet Γ yX5_tellOfStay cX5_tellOfStay 2 ((some FieldType.int)) 5 0 0 [.ref t, .int (nI w)] S (fun r S' => S = S' ∧ r = some (.int (if w = 0 then nI q.1 else if w = 1 then nI q.2 else v))) noX := by
  obtain ⟨h0, -, h1, h2, -, -⟩ := hs
  refine GMet.of (loc0 := [(0, .ref t), (1, .int (nI w))]) F (by decide +kernel) rfl (Nat.le_of_ble_eq_true rfl) (fun X C R Tb nm => ?_)
  refine g_iload_n C dX5_tellOfStay_0 rfl rfl ?_
  rcases (by omega : w = 0 ∨ w = 1 ∨ w = 2) with e | e | e
  · subst e
    refine g_tableIn C dX5_tellOfStay_1 (by decide) (by decide) (off := 27) (by decide +kernel) (tgt := 28) (by decide) ?_
    refine g_aload_n C dX5_tellOfStay_28 rfl rfl ?_
    refine ge_Stay_begin C tw_3_131 (by exact h0) (by exact h1) dX5_tellOfStay_29 ?_
    refine g_iret C R rfl (by omega) (by omega) dX5_tellOfStay_32 ?_
    exact ⟨rfl, rfl⟩
  · subst e
    refine g_tableIn C dX5_tellOfStay_1 (by decide) (by decide) (off := 32) (by decide +kernel) (tgt := 33) (by decide) ?_
    refine g_aload_n C dX5_tellOfStay_33 rfl rfl ?_
    refine ge_Stay_end C tw_3_135 (by exact h0) (by exact h2) dX5_tellOfStay_34 ?_
    refine g_iret C R rfl (by omega) (by omega) dX5_tellOfStay_37 ?_
    exact ⟨rfl, rfl⟩
  · subst e
    refine g_tableIn C dX5_tellOfStay_1 (by decide) (by decide) (off := 37) (by decide +kernel) (tgt := 38) (by decide) ?_
    refine g_aload_n C dX5_tellOfStay_38 rfl rfl ?_
    refine ge_Stay_player C tw_3_137 (by exact h0) (by exact hv) dX5_tellOfStay_39 ?_
    refine g_iret C R rfl (by omega) (by omega) dX5_tellOfStay_42 ?_
    exact ⟨rfl, rfl⟩
theorem z_place {Γ : GBase} (F : FB Γ) (S : PS) (x i b : Nat) (A : AD) (B : BT) (hI : BkI Γ S x A B) (hi : i < tN B) (hb : b < 1000) : GMet Γ yX5_place cX5_place 4 ((some FieldType.int)) 6 0 0 [.ref x, .int (nI i), .int (nI b)] S (fun r S' => S = S' ∧ r = some (.int (zO (plL (dsB B i) b)))) noX := by
  obtain ⟨hx, hL, -, -, -, -, -, hP, -, -, hV⟩ := hI
  refine GMet.of (loc0 := [(0, .ref x), (1, .int (nI i)), (2, .int (nI b))]) F (by decide +kernel) rfl (Nat.le_of_ble_eq_true rfl) (fun X C R Tb nm => ?_)
  refine g_aload_n C dX5_place_0 rfl rfl ?_
  refine g_iload_n C dX5_place_1 rfl rfl ?_
  refine g_callV C gy_X5_puppetNumbered tw_1_85 tw_1_87 ts_0 (by decide) (kk := 5) rfl rfl (by exact hx) (z_puppetNumbered F S x i _ _ _ hx hL hP.al hi) rfl rfl (Nat.le_of_ble_eq_true rfl) (by omega) (by omega) dX5_place_2 (fun _ _ h9 => h9.elim) ?_
  rintro _ _ ⟨rfl, rfl⟩
  refine g_astore_n C dX5_place_5 rfl (by decide) rfl ?_
  refine g_iload_n C dX5_place_6 rfl rfl ?_
  refine g_callS C gy_X5_requireBeat tw_1_176 tw_1_177 (by decide) (z_requireBeat F S b hb) rfl rfl (Nat.le_of_ble_eq_true rfl) (by omega) (by omega) dX5_place_7 (fun _ _ h9 => h9.elim) ?_
  rintro _ _ ⟨rfl, rfl⟩
  obtain ⟨LS, LT, TA, TB, p1, -, -, -, -, -, -, p3⟩ := hP.2 i hi
  refine g_aload_n C dX5_place_10 rfl rfl ?_
  refine ge_Puppet_placeAt C tw_2_163 (by exact p1.1) (by exact p1.2.2.2.1) dX5_place_11 ?_
  refine g_iload_n C dX5_place_14 rfl rfl ?_
  refine g_ldI C rfl p1.2.2.2.2.2.1.1 (by rw [p1.2.2.2.2.2.1.2.1]; exact hb) (by omega) (p3 b hb).1 dX5_place_15 ?_
  refine g_iret C R rfl (by omega) (by omega) dX5_place_16 ?_
  exact ⟨rfl, rfl⟩
theorem z_track {Γ : GBase} (F : FB Γ) (S : PS) (x i b : Nat) (A : AD) (B : BT) (hI : BkI Γ S x A B) (hi : i < tN B) (hb : b < 1000) : GMet Γ yX5_track cX5_track 4 ((some FieldType.int)) 6 0 0 [.ref x, .int (nI i), .int (nI b)] S (fun r S' => S = S' ∧ r = some (.int (zO (trL (dsB B i) b)))) noX := by
  obtain ⟨hx, hL, -, -, -, -, -, hP, -, -, hV⟩ := hI
  refine GMet.of (loc0 := [(0, .ref x), (1, .int (nI i)), (2, .int (nI b))]) F (by decide +kernel) rfl (Nat.le_of_ble_eq_true rfl) (fun X C R Tb nm => ?_)
  refine g_aload_n C dX5_track_0 rfl rfl ?_
  refine g_iload_n C dX5_track_1 rfl rfl ?_
  refine g_callV C gy_X5_puppetNumbered tw_1_85 tw_1_87 ts_0 (by decide) (kk := 5) rfl rfl (by exact hx) (z_puppetNumbered F S x i _ _ _ hx hL hP.al hi) rfl rfl (Nat.le_of_ble_eq_true rfl) (by omega) (by omega) dX5_track_2 (fun _ _ h9 => h9.elim) ?_
  rintro _ _ ⟨rfl, rfl⟩
  refine g_astore_n C dX5_track_5 rfl (by decide) rfl ?_
  refine g_iload_n C dX5_track_6 rfl rfl ?_
  refine g_callS C gy_X5_requireBeat tw_1_176 tw_1_177 (by decide) (z_requireBeat F S b hb) rfl rfl (Nat.le_of_ble_eq_true rfl) (by omega) (by omega) dX5_track_7 (fun _ _ h9 => h9.elim) ?_
  rintro _ _ ⟨rfl, rfl⟩
  obtain ⟨LS, LT, TA, TB, p1, -, -, -, -, -, -, p3⟩ := hP.2 i hi
  refine g_aload_n C dX5_track_10 rfl rfl ?_
  refine ge_Puppet_trackAt C tw_2_165 (by exact p1.1) (by exact p1.2.2.2.2.1) dX5_track_11 ?_
  refine g_iload_n C dX5_track_14 rfl rfl ?_
  refine g_ldI C rfl p1.2.2.2.2.2.2.1.1 (by rw [p1.2.2.2.2.2.2.1.2.1]; exact hb) (by omega) (p3 b hb).2 dX5_track_15 ?_
  refine g_iret C R rfl (by omega) (by omega) dX5_track_16 ?_
  exact ⟨rfl, rfl⟩
theorem z_stays {Γ : GBase} (F : FB Γ) (S : PS) (x i : Nat) (A : AD) (B : BT) (hI : BkI Γ S x A B) (hi : i < tN B) : GMet Γ yX5_stays cX5_stays 2 ((some FieldType.int)) 6 0 0 [.ref x, .int (nI i)] S (fun r S' => S = S' ∧ r = some (.int (nI (stL (dsB B i)).length))) noX := by
  obtain ⟨hx, hL, -, -, -, -, -, hP, -, -, hV⟩ := hI
  refine GMet.of (loc0 := [(0, .ref x), (1, .int (nI i))]) F (by decide +kernel) rfl (Nat.le_of_ble_eq_true rfl) (fun X C R Tb nm => ?_)
  refine g_aload_n C dX5_stays_0 rfl rfl ?_
  refine g_iload_n C dX5_stays_1 rfl rfl ?_
  refine g_callV C gy_X5_puppetNumbered tw_1_85 tw_1_87 ts_0 (by decide) (kk := 5) rfl rfl (by exact hx) (z_puppetNumbered F S x i _ _ _ hx hL hP.al hi) rfl rfl (Nat.le_of_ble_eq_true rfl) (by omega) (by omega) dX5_stays_2 (fun _ _ h9 => h9.elim) ?_
  rintro _ _ ⟨rfl, rfl⟩
  obtain ⟨LS, LT, TA, TB, p1, -, -, -, -, hT, hS, -⟩ := hP.2 i hi
  refine ge_Puppet_stayList C tw_2_161 (by exact p1.1) (by exact p1.2.2.1) dX5_stays_5 ?_
  refine g_callV C gy_Jx4a65c_size_8abf5 tw_1_89 tw_1_90 tw_1_91 (by decide) (kk := 7) rfl rfl (by exact hT.1) (m_size F S LT _ hT) rfl rfl (Nat.le_of_ble_eq_true rfl) (by omega) (by omega) dX5_stays_8 (fun _ _ h9 => h9.elim) ?_
  rintro _ _ ⟨rfl, rfl⟩
  rw [hS.1]
  refine g_iret C R rfl (by omega) (by omega) dX5_stays_11 ?_
  exact ⟨rfl, rfl⟩
theorem z_beats {Γ : GBase} (F : FB Γ) (S : PS) (x i : Nat) (A : AD) (B : BT) (hI : BkI Γ S x A B) (hi : i < tN B) : GMet Γ yX5_beats cX5_beats 6 ((some FieldType.int)) 6 0 0 [.ref x, .int (nI i)] S (fun r S' => S = S' ∧ r = some (.int (nI (sumS (stL (dsB B i)))))) noX := by
  obtain ⟨hx, hL, -, -, -, -, -, hP, -, -, hV⟩ := hI
  refine GMet.of (loc0 := [(0, .ref x), (1, .int (nI i))]) F (by decide +kernel) rfl (Nat.le_of_ble_eq_true rfl) (fun X C R Tb nm => ?_)
  refine g_aload_n C dX5_beats_0 rfl rfl ?_
  refine g_iload_n C dX5_beats_1 rfl rfl ?_
  refine g_callV C gy_X5_puppetNumbered tw_1_85 tw_1_87 ts_0 (by decide) (kk := 5) rfl rfl (by exact hx) (z_puppetNumbered F S x i _ _ _ hx hL hP.al hi) rfl rfl (Nat.le_of_ble_eq_true rfl) (by omega) (by omega) dX5_beats_2 (fun _ _ h9 => h9.elim) ?_
  rintro _ _ ⟨rfl, rfl⟩
  obtain ⟨LS, LT, TA, TB, p1, -, -, -, -, hT, hS, -⟩ := hP.2 i hi
  have hc := (hV.good hi).chain
  have hlt : (dT A i).length ≤ 100 := hT.len
  have loop : ∀ (m k : Nat), k + m = (dT A i).length → GW Γ X S 0 0 14 [(0, .ref x), (1, .int (nI i)), (2, .ref LT), (3, .int (nI (sumS ((stL (dsB B i)).take k)))), (4, .int (nI k))] [] := by
    intro m
    induction m with
    | zero =>
      intro k hk
      refine g_iload C dX5_beats_14 rfl ?_
      refine g_aload_n C dX5_beats_16 rfl rfl ?_
      refine g_callV C gy_Jx4a65c_size_8abf5 tw_1_89 tw_1_90 tw_1_91 (by decide) (kk := 7) rfl rfl (by exact hT.1) (m_size F S LT _ hT) rfl rfl (Nat.le_of_ble_eq_true rfl) (by omega) (by omega) dX5_beats_17 (fun _ _ h9 => h9.elim) ?_
      rintro _ _ ⟨rfl, rfl⟩
      refine g_icmp_ge C dX5_beats_20 (tgt := 54) (by decide) (fun c1 => ?_) (fun c1 => ?_)
      · refine g_iload_n C dX5_beats_54 rfl rfl ?_
        rw [List.take_of_length_le (by rw [← hS.1]; omega)]
        refine g_iret C R rfl (by omega) (by omega) dX5_beats_55 ?_
        exact ⟨rfl, rfl⟩
      · exact absurd (nI_le (by omega) (by omega)) c1
    | succ m ih =>
      intro k hk
      have hkt : k < (dT A i).length := by omega
      obtain ⟨t, ht⟩ : ∃ t, (dT A i)[k]? = some t := ⟨_, List.getElem?_eq_getElem hkt⟩
      obtain ⟨s, hs⟩ : ∃ s, (stL (dsB B i))[k]? = some s := ⟨_, List.getElem?_eq_getElem (by rw [← hS.1]; exact hkt)⟩
      obtain ⟨t0, -, t1, t2, -, -⟩ := hS.2.2 k t s ht hs
      have hs2 := hc.1 s (List.mem_of_getElem? hs)
      refine g_iload C dX5_beats_14 rfl ?_
      refine g_aload_n C dX5_beats_16 rfl rfl ?_
      refine g_callV C gy_Jx4a65c_size_8abf5 tw_1_89 tw_1_90 tw_1_91 (by decide) (kk := 7) rfl rfl (by exact hT.1) (m_size F S LT _ hT) rfl rfl (Nat.le_of_ble_eq_true rfl) (by omega) (by omega) dX5_beats_17 (fun _ _ h9 => h9.elim) ?_
      rintro _ _ ⟨rfl, rfl⟩
      refine g_icmp_ge C dX5_beats_20 (tgt := 54) (by decide) (fun c1 => ?_) (fun c1 => ?_)
      · exact absurd c1 (nI_ge hkt (by omega))
      · refine g_aload_n C dX5_beats_23 rfl rfl ?_
        refine g_iload C dX5_beats_24 rfl ?_
        refine g_callV C gy_Jx4a65c_get_915e3 tw_1_161 tw_1_162 tw_1_163 (by decide) (kk := 7) rfl rfl (by exact hT.1) (m_get F S LT _ hT k t ht) rfl rfl (Nat.le_of_ble_eq_true rfl) (by omega) (by omega) dX5_beats_26 (fun _ _ h9 => h9.elim) ?_
        rintro _ _ ⟨rfl, rfl⟩
        refine g_cast C (kk := 4) rfl t0 tw_1_203 dX5_beats_29 ?_
        refine g_astore C dX5_beats_32 (by decide) rfl ?_
        refine g_iload_n C dX5_beats_34 rfl rfl ?_
        refine g_aload C dX5_beats_35 rfl ?_
        refine ge_Stay_end C tw_3_135 (by exact t0) (by exact t2) dX5_beats_37 ?_
        refine g_aload C dX5_beats_40 rfl ?_
        refine ge_Stay_begin C tw_3_131 (by exact t0) (by exact t1) dX5_beats_42 ?_
        refine g_isub C dX5_beats_45 ?_
        rw [pk_sub (by omega)]
        refine g_iadd C dX5_beats_46 ?_
        rw [nI_add, ← sumS_take hs]
        refine g_istore_n C dX5_beats_47 rfl (by decide) rfl ?_
        refine g_iinc C dX5_beats_48 rfl (by first | exact inc1 _ | exact rfl) (by decide) rfl ?_
        refine g_goto C dX5_beats_51 (tgt := 14) (by decide) ?_
        refine g_sub [(0, _), (1, _), (2, _), (3, _), (4, _)] ⟨rfl, rfl, rfl, rfl, rfl, trivial⟩ ?_
        exact ih (k + 1) (by omega)
  refine ge_Puppet_stayList C tw_2_161 (by exact p1.1) (by exact p1.2.2.1) dX5_beats_5 ?_
  refine g_astore_n C dX5_beats_8 rfl (by decide) rfl ?_
  refine g_iconst C dX5_beats_9 (v := 0) (by decide) ?_
  refine g_istore_n C dX5_beats_10 rfl (by decide) rfl ?_
  refine g_iconst C dX5_beats_11 (v := 0) (by decide) ?_
  refine g_istore C dX5_beats_12 (by decide) rfl ?_
  refine g_sub [(0, _), (1, _), (2, _), (3, _), (4, _)] ⟨rfl, rfl, rfl, rfl, rfl, trivial⟩ ?_
  exact loop (dT A i).length 0 (by omega)
theorem z_findCasting {Γ : GBase} (F : FB Γ) (S : PS) (x : Nat) (hx : al S x 5) (h5 : pI S 165 x = 1) : GMet Γ yX5_findCasting cX5_findCasting 2 ((none : Option FieldType)) 8 0 0 [.ref x] S (fun r S' => r = none ∧ S = S') noX := by
  refine GMet.of (loc0 := [(0, .ref x)]) F (by decide +kernel) rfl (Nat.le_of_ble_eq_true rfl) (fun X C R Tb nm => ?_)
  refine g_aload_n C dX5_findCasting_0 rfl rfl ?_
  refine ge_Book_castingStands C tw_1_61 (by exact hx) (by exact h5) dX5_findCasting_1 ?_
  refine g_if_eq C dX5_findCasting_4 (tgt := 8) (by decide) (fun c1 => ?_) (fun c1 => ?_)
  · exact absurd c1 (by decide)
  · refine g_vret C R (by omega) (by omega) dX5_findCasting_7 ?_
    exact ⟨rfl, rfl⟩
theorem z_hands {Γ : GBase} (F : FB Γ) (S : PS) (x i b : Nat) (A : AD) (B : BT) (hI : BkI Γ S x A B) (h5 : pI S 165 x = 1) (hi : i < tQ B) (hb : b < 1000) : GMet Γ yX5_hands cX5_hands 4 ((some FieldType.int)) 9 0 0 [.ref x, .int (nI i), .int (nI b)] S (fun r S' => S = S' ∧ r = some (.int (nI (hmB B i b)))) noX := by
  have hI0 := hI
  obtain ⟨hx, -, hL, -, -, -, -, -, hY, -⟩ := hI
  refine GMet.of (loc0 := [(0, .ref x), (1, .int (nI i)), (2, .int (nI b))]) F (by decide +kernel) rfl (Nat.le_of_ble_eq_true rfl) (fun X C R Tb nm => ?_)
  refine g_aload_n C dX5_hands_0 rfl rfl ?_
  refine g_iload_n C dX5_hands_1 rfl rfl ?_
  refine g_callV C gy_X5_playerNumbered tw_2_97 tw_2_99 ts_13 (by decide) (kk := 5) rfl rfl (by exact hx) (z_playerNumbered F S x i _ _ _ hx hL hY.aL hi) rfl rfl (Nat.le_of_ble_eq_true rfl) (by omega) (by omega) dX5_hands_2 (fun _ _ h9 => h9.elim) ?_
  rintro _ _ ⟨rfl, rfl⟩
  refine g_astore_n C dX5_hands_5 rfl (by decide) rfl ?_
  refine g_iload_n C dX5_hands_6 rfl rfl ?_
  refine g_callS C gy_X5_requireBeat tw_1_176 tw_1_177 (by decide) (z_requireBeat F S b hb) rfl rfl (Nat.le_of_ble_eq_true rfl) (by omega) (by omega) dX5_hands_7 (fun _ _ h9 => h9.elim) ?_
  rintro _ _ ⟨rfl, rfl⟩
  refine g_aload_n C dX5_hands_10 rfl rfl ?_
  refine g_callV C gy_X5_findCasting tw_1_213 tw_1_215 ts_2 (by decide) (kk := 5) rfl rfl (by exact hx) (z_findCasting F S x hx h5) rfl rfl (Nat.le_of_ble_eq_true rfl) (by omega) (by omega) dX5_hands_11 (fun _ _ h9 => h9.elim) ?_
  rintro _ _ ⟨rfl, rfl⟩
  obtain ⟨os, _, hc⟩ := hI0.cast h5
  obtain ⟨y1, _, _, T, y4, y5⟩ := hY.2 i hi
  have hH := hc.2.2.2 i T hi y4
  refine g_aload_n C dX5_hands_14 rfl rfl ?_
  refine ge_Player_heldAt C tw_2_211 (by exact y1) (by exact y4) dX5_hands_15 ?_
  refine g_iload_n C dX5_hands_18 rfl rfl ?_
  refine g_ldI C rfl y5.1 (by rw [y5.2.1]; exact hb) (by omega) (hH b hb).1 dX5_hands_19 ?_
  refine g_iret C R rfl (by omega) (by omega) dX5_hands_20 ?_
  exact ⟨rfl, rfl⟩
theorem o_hands {Γ : GBase} (F : FB Γ) (S : PS) (x i b : Nat) (A : AD) (B : BT) (hI : BkI Γ S x A B) (hi : i < tQ B) (hb : b < 1000) : GMet Γ yX5_hands cX5_hands 4 ((some FieldType.int)) 9 40 4000 [.ref x, .int (nI i), .int (nI b)] S (fun r S' => BkI Γ S' x A B ∧ pI S' 165 x = 1 ∧ FrB S S' ∧ r = some (.int (nI (hmB B i b)))) noX := by
  have hI0 := hI
  obtain ⟨hx, -, hL, -, -, -, -, -, hY, -⟩ := hI
  refine GMet.of (loc0 := [(0, .ref x), (1, .int (nI i)), (2, .int (nI b))]) F (by decide +kernel) rfl (Nat.le_of_ble_eq_true rfl) (fun X C R Tb nm => ?_)
  refine g_aload_n C dX5_hands_0 rfl rfl ?_
  refine g_iload_n C dX5_hands_1 rfl rfl ?_
  refine g_callV C gy_X5_playerNumbered tw_2_97 tw_2_99 ts_13 (by decide) (kk := 5) rfl rfl (by exact hx) (z_playerNumbered F S x i _ _ _ hx hL hY.aL hi) rfl rfl (Nat.le_of_ble_eq_true rfl) (by omega) (by omega) dX5_hands_2 (fun _ _ h9 => h9.elim) ?_
  rintro _ _ ⟨rfl, rfl⟩
  refine g_astore_n C dX5_hands_5 rfl (by decide) rfl ?_
  refine g_iload_n C dX5_hands_6 rfl rfl ?_
  refine g_callS C gy_X5_requireBeat tw_1_176 tw_1_177 (by decide) (z_requireBeat F S b hb) rfl rfl (Nat.le_of_ble_eq_true rfl) (by omega) (by omega) dX5_hands_7 (fun _ _ h9 => h9.elim) ?_
  rintro _ _ ⟨rfl, rfl⟩
  refine g_aload_n C dX5_hands_10 rfl rfl ?_
  refine g_callV C gy_X5_findCasting tw_1_213 tw_1_215 ts_2 (by decide) (kk := 5) rfl rfl (by exact hx) (m_findCasting F S x A B hI0) rfl rfl (Nat.le_of_ble_eq_true rfl) (by omega) (by omega) dX5_hands_11 (fun _ _ h9 => h9.elim) ?_
  rintro _ _ ⟨rfl, hI2, h5, hF⟩
  rename_i S2
  obtain ⟨os, _, hc⟩ := hI2.cast h5
  obtain ⟨y1, _, _, T, y4, y5⟩ := hI2.2.2.2.2.2.2.2.2.1.2 i hi
  have hH := hc.2.2.2 i T hi y4
  refine g_aload_n C dX5_hands_14 rfl rfl ?_
  refine ge_Player_heldAt C tw_2_211 (by exact y1) (by exact y4) dX5_hands_15 ?_
  refine g_iload_n C dX5_hands_18 rfl rfl ?_
  refine g_ldI C rfl y5.1 (by rw [y5.2.1]; exact hb) (by omega) (hH b hb).1 dX5_hands_19 ?_
  refine g_iret C R rfl (by omega) (by omega) dX5_hands_20 ?_
  exact ⟨hI2, h5, hF.b, rfl⟩
theorem z_load {Γ : GBase} (F : FB Γ) (S : PS) (x i : Nat) (A : AD) (B : BT) (hI : BkI Γ S x A B) (h5 : pI S 165 x = 1) (hi : i < tQ B) : GMet Γ yX5_load cX5_load 3 ((some FieldType.int)) 9 0 0 [.ref x, .int (nI i)] S (fun r S' => S = S' ∧ r = some (.int (nI (cntN (fun b => hmB B i b != 0) 1000)))) noX := by
  have hI0 := hI
  obtain ⟨hx, -, hL, -, -, -, -, -, hY, -⟩ := hI
  refine GMet.of (loc0 := [(0, .ref x), (1, .int (nI i))]) F (by decide +kernel) rfl (Nat.le_of_ble_eq_true rfl) (fun X C R Tb nm => ?_)
  refine g_aload_n C dX5_load_0 rfl rfl ?_
  refine g_iload_n C dX5_load_1 rfl rfl ?_
  refine g_callV C gy_X5_playerNumbered tw_2_97 tw_2_99 ts_13 (by decide) (kk := 5) rfl rfl (by exact hx) (z_playerNumbered F S x i _ _ _ hx hL hY.aL hi) rfl rfl (Nat.le_of_ble_eq_true rfl) (by omega) (by omega) dX5_load_2 (fun _ _ h9 => h9.elim) ?_
  rintro _ _ ⟨rfl, rfl⟩
  refine g_astore_n C dX5_load_5 rfl (by decide) rfl ?_
  refine g_aload_n C dX5_load_6 rfl rfl ?_
  refine g_callV C gy_X5_findCasting tw_1_213 tw_1_215 ts_2 (by decide) (kk := 5) rfl rfl (by exact hx) (z_findCasting F S x hx h5) rfl rfl (Nat.le_of_ble_eq_true rfl) (by omega) (by omega) dX5_load_7 (fun _ _ h9 => h9.elim) ?_
  rintro _ _ ⟨rfl, rfl⟩
  obtain ⟨os, _, hc⟩ := hI0.cast h5
  obtain ⟨y1, _, _, T, y4, y5⟩ := hY.2 i hi
  have hH := hc.2.2.2 i T hi y4
  refine g_aload_n C dX5_load_10 rfl rfl ?_
  refine g_callV C gy_X2_busyBeats tw_2_106 tw_2_107 tw_2_108 (by decide) (kk := 2) rfl rfl (by exact y1) (m_busyBeats F S (dY A i) T (hmB B i) y1 y4 y5 hH) rfl rfl (Nat.le_of_ble_eq_true rfl) (by omega) (by omega) dX5_load_11 (fun _ _ h9 => h9.elim) ?_
  rintro _ _ ⟨rfl, rfl⟩
  refine g_iret C R rfl (by omega) (by omega) dX5_load_14 ?_
  exact ⟨rfl, rfl⟩
theorem z_stay {Γ : GBase} (F : FB Γ) (S : PS) (x i j v : Nat) (A : AD) (B : BT) (hI : BkI Γ S x A B) (h5 : pI S 165 x = 1) (hi : i < tN B) (hj : j < (stL (dsB B i)).length) (hv : v < 3) : GMet Γ yX5_stay cX5_stay 5 ((some FieldType.int)) 9 0 0 [.ref x, .int (nI i), .int (nI j), .int (nI v)] S (fun r S' => S = S' ∧ r = some (.int (stW B i j v))) noX := by
  have hI0 := hI
  obtain ⟨hx, hL, -, -, -, -, -, hP, -, -, hV⟩ := hI
  refine GMet.of (loc0 := [(0, .ref x), (1, .int (nI i)), (2, .int (nI j)), (3, .int (nI v))]) F (by decide +kernel) rfl (Nat.le_of_ble_eq_true rfl) (fun X C R Tb nm => ?_)
  refine g_aload_n C dX5_stay_0 rfl rfl ?_
  refine g_iload_n C dX5_stay_1 rfl rfl ?_
  refine g_callV C gy_X5_puppetNumbered tw_1_85 tw_1_87 ts_0 (by decide) (kk := 5) rfl rfl (by exact hx) (z_puppetNumbered F S x i _ _ _ hx hL hP.al hi) rfl rfl (Nat.le_of_ble_eq_true rfl) (by omega) (by omega) dX5_stay_2 (fun _ _ h9 => h9.elim) ?_
  rintro _ _ ⟨rfl, rfl⟩
  obtain ⟨LS, LT, TA, TB, p1, -, -, -, -, hT, hS, -⟩ := hP.2 i hi
  have hTl := hT.len
  have hSl := hS.1
  refine ge_Puppet_stayList C tw_2_161 (by exact p1.1) (by exact p1.2.2.1) dX5_stay_5 ?_
  refine g_astore C dX5_stay_8 (by decide) rfl ?_
  refine g_iload_n C dX5_stay_10 rfl rfl ?_
  refine g_if_lt C dX5_stay_11 (tgt := 23) (by decide) (fun c1 => ?_) (fun c1 => ?_)
  · exact absurd c1 (nI_pos (by omega))
  · refine g_iload_n C dX5_stay_14 rfl rfl ?_
    refine g_aload C dX5_stay_15 rfl ?_
    refine g_callV C gy_Jx4a65c_size_8abf5 tw_1_89 tw_1_90 tw_1_91 (by decide) (kk := 7) rfl rfl (by exact hT.1) (m_size F S LT _ hT) rfl rfl (Nat.le_of_ble_eq_true rfl) (by omega) (by omega) dX5_stay_17 (fun _ _ h9 => h9.elim) ?_
    rintro _ _ ⟨rfl, rfl⟩
    rw [hS.1]
    refine g_icmp_lt C dX5_stay_20 (tgt := 33) (by decide) (fun c2 => ?_) (fun c2 => ?_)
    · refine g_aload_n C dX5_stay_33 rfl rfl ?_
      refine g_callV C gy_X5_findCasting tw_1_213 tw_1_215 ts_2 (by decide) (kk := 5) rfl rfl (by exact hx) (z_findCasting F S x hx h5) rfl rfl (Nat.le_of_ble_eq_true rfl) (by omega) (by omega) dX5_stay_34 (fun _ _ h9 => h9.elim) ?_
      rintro _ _ ⟨rfl, rfl⟩
      obtain ⟨os, _, hc⟩ := hI0.cast h5
      obtain ⟨t, ht⟩ : ∃ t, (dT A i)[j]? = some t := ⟨_, List.getElem?_eq_getElem (by rw [hS.1]; exact hj)⟩
      obtain ⟨s, hs⟩ : ∃ s, (stL (dsB B i))[j]? = some s := ⟨_, List.getElem?_eq_getElem hj⟩
      have hso := hS.2.2 j t s ht hs
      have hpl := hc.2.2.1 i j t hi ht
      refine g_aload C dX5_stay_37 rfl ?_
      refine g_iload_n C dX5_stay_39 rfl rfl ?_
      refine g_callV C gy_Jx4a65c_get_915e3 tw_1_161 tw_1_162 tw_1_163 (by decide) (kk := 7) rfl rfl (by exact hT.1) (m_get F S LT _ hT j t ht) rfl rfl (Nat.le_of_ble_eq_true rfl) (by omega) (by omega) dX5_stay_40 (fun _ _ h9 => h9.elim) ?_
      rintro _ _ ⟨rfl, rfl⟩
      refine g_cast C (kk := 4) rfl hso.1 tw_1_203 dX5_stay_43 ?_
      refine g_iload_n C dX5_stay_46 rfl rfl ?_
      refine g_callS C gy_X5_tellOfStay tw_2_89 tw_2_90 (by decide) (z_tellOfStay F S t _ v _ s hso hpl hv) rfl rfl (Nat.le_of_ble_eq_true rfl) (by omega) (by omega) dX5_stay_47 (fun _ _ h9 => h9.elim) ?_
      rintro _ _ ⟨rfl, rfl⟩
      refine g_iret C R rfl (by omega) (by omega) dX5_stay_50 ?_
      refine ⟨rfl, ?_⟩
      unfold stW
      rw [hs]
    · exact absurd (nI_lt hj (by omega)) c2
theorem o_stay {Γ : GBase} (F : FB Γ) (S : PS) (x i j v : Nat) (A : AD) (B : BT) (hI : BkI Γ S x A B) (hi : i < tN B) (hj : j < (stL (dsB B i)).length) (hv : v < 3) : GMet Γ yX5_stay cX5_stay 5 ((some FieldType.int)) 9 40 4000 [.ref x, .int (nI i), .int (nI j), .int (nI v)] S (fun r S' => BkI Γ S' x A B ∧ pI S' 165 x = 1 ∧ FrB S S' ∧ r = some (.int (stW B i j v))) noX := by
  have hI0 := hI
  obtain ⟨hx, hL, -, -, -, -, -, hP, -, -, hV⟩ := hI
  refine GMet.of (loc0 := [(0, .ref x), (1, .int (nI i)), (2, .int (nI j)), (3, .int (nI v))]) F (by decide +kernel) rfl (Nat.le_of_ble_eq_true rfl) (fun X C R Tb nm => ?_)
  refine g_aload_n C dX5_stay_0 rfl rfl ?_
  refine g_iload_n C dX5_stay_1 rfl rfl ?_
  refine g_callV C gy_X5_puppetNumbered tw_1_85 tw_1_87 ts_0 (by decide) (kk := 5) rfl rfl (by exact hx) (z_puppetNumbered F S x i _ _ _ hx hL hP.al hi) rfl rfl (Nat.le_of_ble_eq_true rfl) (by omega) (by omega) dX5_stay_2 (fun _ _ h9 => h9.elim) ?_
  rintro _ _ ⟨rfl, rfl⟩
  obtain ⟨LS, LT, TA, TB, p1, -, -, -, -, hT, hS, -⟩ := hP.2 i hi
  have hTl := hT.len
  have hSl := hS.1
  refine ge_Puppet_stayList C tw_2_161 (by exact p1.1) (by exact p1.2.2.1) dX5_stay_5 ?_
  refine g_astore C dX5_stay_8 (by decide) rfl ?_
  refine g_iload_n C dX5_stay_10 rfl rfl ?_
  refine g_if_lt C dX5_stay_11 (tgt := 23) (by decide) (fun c1 => ?_) (fun c1 => ?_)
  · exact absurd c1 (nI_pos (by omega))
  · refine g_iload_n C dX5_stay_14 rfl rfl ?_
    refine g_aload C dX5_stay_15 rfl ?_
    refine g_callV C gy_Jx4a65c_size_8abf5 tw_1_89 tw_1_90 tw_1_91 (by decide) (kk := 7) rfl rfl (by exact hT.1) (m_size F S LT _ hT) rfl rfl (Nat.le_of_ble_eq_true rfl) (by omega) (by omega) dX5_stay_17 (fun _ _ h9 => h9.elim) ?_
    rintro _ _ ⟨rfl, rfl⟩
    rw [hS.1]
    refine g_icmp_lt C dX5_stay_20 (tgt := 33) (by decide) (fun c2 => ?_) (fun c2 => ?_)
    · refine g_aload_n C dX5_stay_33 rfl rfl ?_
      refine g_callV C gy_X5_findCasting tw_1_213 tw_1_215 ts_2 (by decide) (kk := 5) rfl rfl (by exact hx) (m_findCasting F S x A B hI0) rfl rfl (Nat.le_of_ble_eq_true rfl) (by omega) (by omega) dX5_stay_34 (fun _ _ h9 => h9.elim) ?_
      rintro _ _ ⟨rfl, hI2, h5, hF⟩
      rename_i S2
      obtain ⟨os, _, hc⟩ := hI2.cast h5
      obtain ⟨LS2, LT2, _, _, r1, -, -, -, -, hT2, hS2, -⟩ := hI2.2.2.2.2.2.2.2.1.2 i hi
      have e1 : pP S2 101 (dP A i) = some LT := ((hF _ p1.1.1).2.2.2.2.1 101 (fun h => h (Or.inr p1.1))).2.trans p1.2.2.1
      have e2 : LT2 = LT := Option.some.inj (r1.2.2.1.symm.trans e1)
      subst e2
      obtain ⟨t, ht⟩ : ∃ t, (dT A i)[j]? = some t := ⟨_, List.getElem?_eq_getElem (by rw [hS2.1]; exact hj)⟩
      obtain ⟨s, hs⟩ : ∃ s, (stL (dsB B i))[j]? = some s := ⟨_, List.getElem?_eq_getElem hj⟩
      have hso := hS2.2.2 j t s ht hs
      have hpl := hc.2.2.1 i j t hi ht
      refine g_aload C dX5_stay_37 rfl ?_
      refine g_iload_n C dX5_stay_39 rfl rfl ?_
      refine g_callV C gy_Jx4a65c_get_915e3 tw_1_161 tw_1_162 tw_1_163 (by decide) (kk := 7) rfl rfl (by exact hT2.1) (m_get F S2 LT2 _ hT2 j t ht) rfl rfl (Nat.le_of_ble_eq_true rfl) (by omega) (by omega) dX5_stay_40 (fun _ _ h9 => h9.elim) ?_
      rintro _ _ ⟨rfl, rfl⟩
      refine g_cast C (kk := 4) rfl hso.1 tw_1_203 dX5_stay_43 ?_
      refine g_iload_n C dX5_stay_46 rfl rfl ?_
      refine g_callS C gy_X5_tellOfStay tw_2_89 tw_2_90 (by decide) (z_tellOfStay F S2 t _ v _ s hso hpl hv) rfl rfl (Nat.le_of_ble_eq_true rfl) (by omega) (by omega) dX5_stay_47 (fun _ _ h9 => h9.elim) ?_
      rintro _ _ ⟨rfl, rfl⟩
      refine g_iret C R rfl (by omega) (by omega) dX5_stay_50 ?_
      refine ⟨hI2, h5, hF.b, ?_⟩
      unfold stW
      rw [hs]
    · exact absurd (nI_lt hj (by omega)) c2
