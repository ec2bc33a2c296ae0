theorem m_digest {Γ : GBase} (F : FB Γ) (S : PS) (x : Nat) (A : AD) (B : BT) (hI : BkI Γ S x A B) : GMet Γ yX5_digest cX5_digest 4 ((some FieldType.long)) 9 40 4000 [.ref x] S (fun r S' => BkI Γ S' x A B ∧ FrB S S' ∧ r = some (.long (dgB B))) noX := by
  have hI0 := hI
  have hV := hI.2.2.2.2.2.2.2.2.2.2
  have h8 := hV.1
  have h5' := hV.2.1
  have h40 := hV.2.2.1
  refine GMet.of (loc0 := [(0, .ref x)]) F (by decide +kernel) rfl (Nat.le_of_ble_eq_true rfl) (fun X C R Tb nm => ?_)
  refine g_aload_n C dX5_digest_0 rfl rfl ?_
  refine g_callV C gy_X5_findCasting tw_1_129 tw_1_131 ts_1 (by decide) (kk := 5) rfl rfl (by exact hI.1) (m_findCasting F S x A B hI0) rfl rfl (Nat.le_of_ble_eq_true rfl) (by omega) (by omega) dX5_digest_1 (fun _ _ h9 => h9.elim) ?_
  rintro _ _ ⟨rfl, hI2, h5, hF⟩
  rename_i S2
  obtain ⟨os, _, hO, hos, hpl, hmk⟩ := hI2.cast h5
  obtain ⟨hx, ⟨LP, a1, -, a3⟩, ⟨LY, b1, -, b3⟩, ⟨LC, c1, -, c3⟩, -, -, -, hP, hY, hC, -⟩ := id hI2
  obtain ⟨d1, hd1⟩ : ∃ d, d = dW 277 (nI (tN B)) := ⟨_, rfl⟩
  obtain ⟨d2, hd2⟩ : ∃ d, d = dW (dgP B d1 (tN B)) (nI (tQ B)) := ⟨_, rfl⟩
  obtain ⟨d3, hd3⟩ : ∃ d, d = dW (dgY B d2 (tQ B)) (nI (tC B)) := ⟨_, rfl⟩
  have hdB : dgB B = dW (dgC B d3 (tC B)) (nI (clN B)) := by rw [hd3, hd2, hd1]; rfl
  have cues : ∀ (m i : Nat), i + m = tC B → GW Γ X S2 40 4000 122 [(0, .ref x), (1, .long (dgC B d3 i)), (3, .int (nI i))] [] := by
    intro m
    induction m with
    | zero =>
      intro i hi
      refine g_iload_n C dX5_digest_122 rfl rfl ?_
      refine g_aload_n C dX5_digest_123 rfl rfl ?_
      refine ge_Book_cues C tw_1_66 (by exact hx) (by exact c1) dX5_digest_124 ?_
      refine g_callV C gy_Jx4a65c_size_8abf5 tw_1_97 tw_1_98 tw_1_99 (by decide) (kk := 7) rfl rfl (by exact c3.1) (m_size F S2 LC _ c3) rfl rfl (Nat.le_of_ble_eq_true rfl) (by omega) (by omega) dX5_digest_127 (fun _ _ h9 => h9.elim) ?_
      rintro _ _ ⟨rfl, rfl⟩
      rw [rmap_len]
      refine g_icmp_ge C dX5_digest_130 (tgt := 155) (by decide) (fun e1 => ?_) (fun e1 => ?_)
      · rw [show i = tC B by omega]
        refine g_lload_n C dX5_digest_155 rfl rfl ?_
        refine g_aload_n C dX5_digest_156 rfl rfl ?_
        refine g_callV C gy_X5_clashes tw_3_118 tw_1_90 tw_1_91 (by decide) (kk := 5) rfl rfl (by exact hx) (m_clashes F S2 x A B hI2) rfl rfl (Nat.le_of_ble_eq_true rfl) (by omega) (by omega) dX5_digest_157 (fun _ _ h9 => h9.elim) ?_
        rintro _ _ ⟨rfl, hI3, hF3⟩
        refine g_callS C gy_X5_digestWith tw_3_94 tw_3_95 (by decide) (m_digestWith F _ _ _) rfl rfl (Nat.le_of_ble_eq_true rfl) (by omega) (by omega) dX5_digest_160 (fun _ _ h9 => h9.elim) ?_
        rintro _ _ ⟨rfl, rfl⟩
        refine g_lret C R (by omega) (by omega) dX5_digest_163 ?_
        exact ⟨hI3, hF.b.tr hF3, by rw [hdB]⟩
      · exact absurd (nI_le (by omega) (by omega)) e1
    | succ m ih =>
      intro i hi
      have hin : i < tC B := by omega
      refine g_iload_n C dX5_digest_122 rfl rfl ?_
      refine g_aload_n C dX5_digest_123 rfl rfl ?_
      refine ge_Book_cues C tw_1_66 (by exact hx) (by exact c1) dX5_digest_124 ?_
      refine g_callV C gy_Jx4a65c_size_8abf5 tw_1_97 tw_1_98 tw_1_99 (by decide) (kk := 7) rfl rfl (by exact c3.1) (m_size F S2 LC _ c3) rfl rfl (Nat.le_of_ble_eq_true rfl) (by omega) (by omega) dX5_digest_127 (fun _ _ h9 => h9.elim) ?_
      rintro _ _ ⟨rfl, rfl⟩
      rw [rmap_len]
      refine g_icmp_ge C dX5_digest_130 (tgt := 155) (by decide) (fun e1 => ?_) (fun e1 => ?_)
      · exact absurd e1 (nI_ge hin (by omega))
      · refine g_lload_n C dX5_digest_133 rfl rfl ?_
        refine g_aload_n C dX5_digest_134 rfl rfl ?_
        refine ge_Book_cues C tw_1_66 (by exact hx) (by exact c1) dX5_digest_135 ?_
        refine g_iload_n C dX5_digest_138 rfl rfl ?_
        refine g_callV C gy_Jx4a65c_get_915e3 tw_1_101 tw_1_102 tw_1_103 (by decide) (kk := 7) rfl rfl (by exact c3.1) (m_get F S2 LC _ c3 i (dC A i) (rmap_get hin)) rfl rfl (Nat.le_of_ble_eq_true rfl) (by omega) (by omega) dX5_digest_139 (fun _ _ h9 => h9.elim) ?_
        rintro _ _ ⟨rfl, rfl⟩
        refine g_cast C (kk := 0) rfl (hC.2 i hin).1.1 tw_3_88 dX5_digest_142 ?_
        refine g_callS C gy_X5_digestWithCue tw_3_111 tw_3_112 (by decide) (m_digestWithCue F S2 A B i _ hP hC hV hin) rfl rfl (Nat.le_of_ble_eq_true rfl) (by omega) (by omega) dX5_digest_145 (fun _ _ h9 => h9.elim) ?_
        rintro _ _ ⟨rfl, rfl⟩
        refine g_lstore_n C dX5_digest_148 rfl (by decide) rfl rfl ?_
        refine g_iinc C dX5_digest_149 rfl (by first | exact inc1 _ | exact rfl) (by decide) rfl ?_
        refine g_goto C dX5_digest_152 (tgt := 122) (by decide) ?_
        refine g_sub [(0, _), (1, _), (3, _)] ⟨rfl, rfl, rfl, trivial⟩ ?_
        exact ih (i + 1) (by omega)
  have plys : ∀ (m i : Nat), i + m = tQ B → GW Γ X S2 40 4000 72 [(0, .ref x), (1, .long (dgY B d2 i)), (3, .int (nI i))] [] := by
    intro m
    induction m with
    | zero =>
      intro i hi
      refine g_iload_n C dX5_digest_72 rfl rfl ?_
      refine g_aload_n C dX5_digest_73 rfl rfl ?_
      refine ge_Book_players C tw_1_65 (by exact hx) (by exact b1) dX5_digest_74 ?_
      refine g_callV C gy_Jx4a65c_size_8abf5 tw_1_97 tw_1_98 tw_1_99 (by decide) (kk := 7) rfl rfl (by exact b3.1) (m_size F S2 LY _ b3) rfl rfl (Nat.le_of_ble_eq_true rfl) (by omega) (by omega) dX5_digest_77 (fun _ _ h9 => h9.elim) ?_
      rintro _ _ ⟨rfl, rfl⟩
      rw [rmap_len]
      refine g_icmp_ge C dX5_digest_80 (tgt := 108) (by decide) (fun e1 => ?_) (fun e1 => ?_)
      · rw [show i = tQ B by omega]
        refine g_lload_n C dX5_digest_108 rfl rfl ?_
        refine g_aload_n C dX5_digest_109 rfl rfl ?_
        refine ge_Book_cues C tw_1_66 (by exact hx) (by exact c1) dX5_digest_110 ?_
        refine g_callV C gy_Jx4a65c_size_8abf5 tw_1_97 tw_1_98 tw_1_99 (by decide) (kk := 7) rfl rfl (by exact c3.1) (m_size F S2 LC _ c3) rfl rfl (Nat.le_of_ble_eq_true rfl) (by omega) (by omega) dX5_digest_113 (fun _ _ h9 => h9.elim) ?_
        rintro _ _ ⟨rfl, rfl⟩
        rw [rmap_len]
        refine g_callS C gy_X5_digestWith tw_3_94 tw_3_95 (by decide) (m_digestWith F _ _ _) rfl rfl (Nat.le_of_ble_eq_true rfl) (by omega) (by omega) dX5_digest_116 (fun _ _ h9 => h9.elim) ?_
        rintro _ _ ⟨rfl, rfl⟩
        refine g_lstore_n C dX5_digest_119 rfl (by decide) rfl rfl ?_
        refine g_iconst C dX5_digest_120 (v := 0) (by decide) ?_
        refine g_istore_n C dX5_digest_121 rfl (by decide) rfl ?_
        rw [← hd3]
        refine g_sub [(0, _), (1, _), (3, _)] ⟨rfl, rfl, rfl, trivial⟩ ?_
        exact cues (tC B) 0 (by omega)
      · exact absurd (nI_le (by omega) (by omega)) e1
    | succ m ih =>
      intro i hi
      have hin : i < tQ B := by omega
      obtain ⟨y1, _, _, T, y4, y5⟩ := hY.2 i hin
      refine g_iload_n C dX5_digest_72 rfl rfl ?_
      refine g_aload_n C dX5_digest_73 rfl rfl ?_
      refine ge_Book_players C tw_1_65 (by exact hx) (by exact b1) dX5_digest_74 ?_
      refine g_callV C gy_Jx4a65c_size_8abf5 tw_1_97 tw_1_98 tw_1_99 (by decide) (kk := 7) rfl rfl (by exact b3.1) (m_size F S2 LY _ b3) rfl rfl (Nat.le_of_ble_eq_true rfl) (by omega) (by omega) dX5_digest_77 (fun _ _ h9 => h9.elim) ?_
      rintro _ _ ⟨rfl, rfl⟩
      rw [rmap_len]
      refine g_icmp_ge C dX5_digest_80 (tgt := 108) (by decide) (fun e1 => ?_) (fun e1 => ?_)
      · exact absurd e1 (nI_ge hin (by omega))
      · refine g_lload_n C dX5_digest_83 rfl rfl ?_
        refine g_aload_n C dX5_digest_84 rfl rfl ?_
        refine ge_Book_players C tw_1_65 (by exact hx) (by exact b1) dX5_digest_85 ?_
        refine g_iload_n C dX5_digest_88 rfl rfl ?_
        refine g_callV C gy_Jx4a65c_get_915e3 tw_1_101 tw_1_102 tw_1_103 (by decide) (kk := 7) rfl rfl (by exact b3.1) (m_get F S2 LY _ b3 i (dY A i) (rmap_get hin)) rfl rfl (Nat.le_of_ble_eq_true rfl) (by omega) (by omega) dX5_digest_89 (fun _ _ h9 => h9.elim) ?_
        rintro _ _ ⟨rfl, rfl⟩
        refine g_cast C (kk := 2) rfl y1 tw_1_133 dX5_digest_92 ?_
        refine g_callV C gy_X2_busyBeats tw_3_107 tw_3_108 tw_3_109 (by decide) (kk := 2) rfl rfl (by exact y1) (m_busyBeats F S2 (dY A i) T (hmB B i) y1 y4 y5 (hmk i T hin y4)) rfl rfl (Nat.le_of_ble_eq_true rfl) (by omega) (by omega) dX5_digest_95 (fun _ _ h9 => h9.elim) ?_
        rintro _ _ ⟨rfl, rfl⟩
        refine g_callS C gy_X5_digestWith tw_3_94 tw_3_95 (by decide) (m_digestWith F _ _ _) rfl rfl (Nat.le_of_ble_eq_true rfl) (by omega) (by omega) dX5_digest_98 (fun _ _ h9 => h9.elim) ?_
        rintro _ _ ⟨rfl, rfl⟩
        refine g_lstore_n C dX5_digest_101 rfl (by decide) rfl rfl ?_
        refine g_iinc C dX5_digest_102 rfl (by first | exact inc1 _ | exact rfl) (by decide) rfl ?_
        refine g_goto C dX5_digest_105 (tgt := 72) (by decide) ?_
        refine g_sub [(0, _), (1, _), (3, _)] ⟨rfl, rfl, rfl, trivial⟩ ?_
        exact ih (i + 1) (by omega)
  have pups : ∀ (m i : Nat), i + m = tN B → GW Γ X S2 40 4000 22 [(0, .ref x), (1, .long (dgP B d1 i)), (3, .int (nI i))] [] := by
    intro m
    induction m with
    | zero =>
      intro i hi
      refine g_iload_n C dX5_digest_22 rfl rfl ?_
      refine g_aload_n C dX5_digest_23 rfl rfl ?_
      refine ge_Book_puppets C tw_1_64 (by exact hx) (by exact a1) dX5_digest_24 ?_
      refine g_callV C gy_Jx4a65c_size_8abf5 tw_1_97 tw_1_98 tw_1_99 (by decide) (kk := 7) rfl rfl (by exact a3.1) (m_size F S2 LP _ a3) rfl rfl (Nat.le_of_ble_eq_true rfl) (by omega) (by omega) dX5_digest_27 (fun _ _ h9 => h9.elim) ?_
      rintro _ _ ⟨rfl, rfl⟩
      rw [rmap_len]
      refine g_icmp_ge C dX5_digest_30 (tgt := 58) (by decide) (fun e1 => ?_) (fun e1 => ?_)
      · rw [show i = tN B by omega]
        refine g_lload_n C dX5_digest_58 rfl rfl ?_
        refine g_aload_n C dX5_digest_59 rfl rfl ?_
        refine ge_Book_players C tw_1_65 (by exact hx) (by exact b1) dX5_digest_60 ?_
        refine g_callV C gy_Jx4a65c_size_8abf5 tw_1_97 tw_1_98 tw_1_99 (by decide) (kk := 7) rfl rfl (by exact b3.1) (m_size F S2 LY _ b3) rfl rfl (Nat.le_of_ble_eq_true rfl) (by omega) (by omega) dX5_digest_63 (fun _ _ h9 => h9.elim) ?_
        rintro _ _ ⟨rfl, rfl⟩
        rw [rmap_len]
        refine g_callS C gy_X5_digestWith tw_3_94 tw_3_95 (by decide) (m_digestWith F _ _ _) rfl rfl (Nat.le_of_ble_eq_true rfl) (by omega) (by omega) dX5_digest_66 (fun _ _ h9 => h9.elim) ?_
        rintro _ _ ⟨rfl, rfl⟩
        refine g_lstore_n C dX5_digest_69 rfl (by decide) rfl rfl ?_
        refine g_iconst C dX5_digest_70 (v := 0) (by decide) ?_
        refine g_istore_n C dX5_digest_71 rfl (by decide) rfl ?_
        rw [← hd2]
        refine g_sub [(0, _), (1, _), (3, _)] ⟨rfl, rfl, rfl, trivial⟩ ?_
        exact plys (tQ B) 0 (by omega)
      · exact absurd (nI_le (by omega) (by omega)) e1
    | succ m ih =>
      intro i hi
      have hin : i < tN B := by omega
      obtain ⟨LS, LT, TA, TB, p1, -, -, -, -, p6, p7, -⟩ := hP.2 i hin
      have hl40 : (dT A i).length ≤ 40 := by
        rw [p7.1]
        have := stL_len (dsB B i)
        have := hV.lenD hin
        omega
      refine g_iload_n C dX5_digest_22 rfl rfl ?_
      refine g_aload_n C dX5_digest_23 rfl rfl ?_
      refine ge_Book_puppets C tw_1_64 (by exact hx) (by exact a1) dX5_digest_24 ?_
      refine g_callV C gy_Jx4a65c_size_8abf5 tw_1_97 tw_1_98 tw_1_99 (by decide) (kk := 7) rfl rfl (by exact a3.1) (m_size F S2 LP _ a3) rfl rfl (Nat.le_of_ble_eq_true rfl) (by omega) (by omega) dX5_digest_27 (fun _ _ h9 => h9.elim) ?_
      rintro _ _ ⟨rfl, rfl⟩
      rw [rmap_len]
      refine g_icmp_ge C dX5_digest_30 (tgt := 58) (by decide) (fun e1 => ?_) (fun e1 => ?_)
      · exact absurd e1 (nI_ge hin (by omega))
      · refine g_lload_n C dX5_digest_33 rfl rfl ?_
        refine g_aload_n C dX5_digest_34 rfl rfl ?_
        refine ge_Book_puppets C tw_1_64 (by exact hx) (by exact a1) dX5_digest_35 ?_
        refine g_iload_n C dX5_digest_38 rfl rfl ?_
        refine g_callV C gy_Jx4a65c_get_915e3 tw_1_101 tw_1_102 tw_1_103 (by decide) (kk := 7) rfl rfl (by exact a3.1) (m_get F S2 LP _ a3 i (dP A i) (rmap_get hin)) rfl rfl (Nat.le_of_ble_eq_true rfl) (by omega) (by omega) dX5_digest_39 (fun _ _ h9 => h9.elim) ?_
        rintro _ _ ⟨rfl, rfl⟩
        refine g_cast C (kk := 3) rfl p1.1 tw_1_115 dX5_digest_42 ?_
        refine ge_Puppet_stayList C tw_3_168 (by exact p1.1) (by exact p1.2.2.1) dX5_digest_45 ?_
        refine g_callS C gy_X5_digestWithStays tw_3_98 tw_3_99 (by decide) (m_digestWithStays F S2 A B i LT _ p6 p7 hl40 (fun j t ht => hpl i j t hin ht)) rfl rfl (Nat.le_of_ble_eq_true rfl) (by omega) (by omega) dX5_digest_48 (fun _ _ h9 => h9.elim) ?_
        rintro _ _ ⟨rfl, rfl⟩
        refine g_lstore_n C dX5_digest_51 rfl (by decide) rfl rfl ?_
        refine g_iinc C dX5_digest_52 rfl (by first | exact inc1 _ | exact rfl) (by decide) rfl ?_
        refine g_goto C dX5_digest_55 (tgt := 22) (by decide) ?_
        refine g_sub [(0, _), (1, _), (3, _)] ⟨rfl, rfl, rfl, trivial⟩ ?_
        exact ih (i + 1) (by omega)
  refine g_ldc2 C (v := 277) tw_3_93 dX5_digest_4 ?_
  refine g_lstore_n C dX5_digest_7 rfl (by decide) rfl rfl ?_
  refine g_lload_n C dX5_digest_8 rfl rfl ?_
  refine g_aload_n C dX5_digest_9 rfl rfl ?_
  refine ge_Book_puppets C tw_1_64 (by exact hx) (by exact a1) dX5_digest_10 ?_
  refine g_callV C gy_Jx4a65c_size_8abf5 tw_1_97 tw_1_98 tw_1_99 (by decide) (kk := 7) rfl rfl (by exact a3.1) (m_size F S2 LP _ a3) rfl rfl (Nat.le_of_ble_eq_true rfl) (by omega) (by omega) dX5_digest_13 (fun _ _ h9 => h9.elim) ?_
  rintro _ _ ⟨rfl, rfl⟩
  rw [rmap_len]
  refine g_callS C gy_X5_digestWith tw_3_94 tw_3_95 (by decide) (m_digestWith F _ _ _) rfl rfl (Nat.le_of_ble_eq_true rfl) (by omega) (by omega) dX5_digest_16 (fun _ _ h9 => h9.elim) ?_
  rintro _ _ ⟨rfl, rfl⟩
  refine g_lstore_n C dX5_digest_19 rfl (by decide) rfl rfl ?_
  refine g_iconst C dX5_digest_20 (v := 0) (by decide) ?_
  refine g_istore_n C dX5_digest_21 rfl (by decide) rfl ?_
  rw [← hd1]
  refine g_sub [(0, _), (1, _), (3, _)] ⟨rfl, rfl, rfl, trivial⟩ ?_
  exact pups (tN B) 0 (by omega)
