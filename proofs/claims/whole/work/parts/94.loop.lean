/-! ===== the law: calls that throw nothing; mean; the loop ===== -/
theorem blk_clashes {Γ : GBase} {X : Cx} {L : Nat} {xs : Nat → Int32} (C : GC Γ X code 9 "CueBookLaw" 12 601024 7293034) (hX : LScr Γ X L xs) {S : PS} {x m o od j kc nc : Nat} {B : BT} (hLI : LI Γ S x m o od B) (hj : 5 * j + 5 ≤ L) (hk : kc + 92 ≤ 601024) (hn : nc + 4500 ≤ 7293034) (next : ∀ (S' : PS) (B' : BT), LI Γ S' x m o od B' → GW Γ X S' (kc + 92) (nc + 4500) 1566 [(0, .ref (bB Γ)), (1, .ref x), (2, .ref m), (3, .ref o), (4, .ref od), (5, .int (nI (5 * j)))] []) : GW Γ X S kc nc 1052 [(0, .ref (bB Γ)), (1, .ref x), (2, .ref m), (3, .ref o), (4, .ref od), (5, .int (nI (5 * j)))] [] := by
  have hV := hLI.v
  have hm := hLI.m
  have hL0 := hLI
  obtain ⟨⟨A, hA⟩, ⟨rr, hM⟩, ho, hon, how, hod, hodn, hodw⟩ := hLI
  refine g_aload_n C dL_law_1052 rfl rfl ?_
  refine g_callV C gy_X5_clashes tw_1_89 tw_1_90 tw_1_91 (by decide) (kk := 5) rfl rfl (by exact hA.1) (m_clashes C.F S x A B hA) rfl rfl (Nat.le_of_ble_eq_true rfl) (by omega) (by omega) dL_law_1053 (fun _ _ h9 => h9.elim) ?_
  rintro _ _ ⟨rfl, hI1, hF1⟩
  rename_i S1
  obtain ⟨⟨rr1, hM1⟩, hw1⟩ := hL0.l hF1.l hI1
  refine g_aload_n C dL_law_1056 rfl rfl ?_
  refine g_callV C gy_X6_clashes tw_6_63 tw_6_64 tw_6_65 (by decide) (kk := 6) rfl rfl (by exact hM1.1.m) (md_clashes C.F S1 m rr1 B hM1) rfl rfl (Nat.le_of_ble_eq_true rfl) (by omega) (by omega) dL_law_1057 (fun _ _ h9 => h9.elim) ?_
  rintro _ _ ⟨⟨hM2, hF2⟩, rfl⟩
  rename_i S2
  obtain ⟨hLI2, hrl, hrd⟩ := LI.of hM1.1.m hI1 hw1 hF2 hM2
  refine g_icmp_eq C dL_law_1060 (tgt := 1566) (by decide) (fun c1 => ?_) (fun c1 => ?_)
  · refine g_widen (kc + 92) (nc + 4500) (by omega) (by omega) ?_
    refine g_sub [(0, _), (1, _), (2, _), (3, _), (4, _), (5, _)] ⟨rfl, rfl, rfl, rfl, rfl, rfl, trivial⟩ ?_
    exact next S2 B hLI2
  · exact absurd rfl c1
theorem blk_uncast {Γ : GBase} {X : Cx} {L : Nat} {xs : Nat → Int32} (C : GC Γ X code 9 "CueBookLaw" 12 601024 7293034) (hX : LScr Γ X L xs) {S : PS} {x m o od j kc nc : Nat} {B : BT} (hLI : LI Γ S x m o od B) (hj : 5 * j + 5 ≤ L) (hk : kc + 92 ≤ 601024) (hn : nc + 4500 ≤ 7293034) (next : ∀ (S' : PS) (B' : BT), LI Γ S' x m o od B' → GW Γ X S' (kc + 92) (nc + 4500) 1566 [(0, .ref (bB Γ)), (1, .ref x), (2, .ref m), (3, .ref o), (4, .ref od), (5, .int (nI (5 * j)))] []) : GW Γ X S kc nc 1257 [(0, .ref (bB Γ)), (1, .ref x), (2, .ref m), (3, .ref o), (4, .ref od), (5, .int (nI (5 * j)))] [] := by
  have hV := hLI.v
  have hm := hLI.m
  have hL0 := hLI
  obtain ⟨⟨A, hA⟩, ⟨rr, hM⟩, ho, hon, how, hod, hodn, hodw⟩ := hLI
  refine g_aload_n C dL_law_1257 rfl rfl ?_
  refine g_callV C gy_X5_uncast tw_1_125 tw_1_126 tw_1_127 (by decide) (kk := 5) rfl rfl (by exact hA.1) (m_uncast C.F S x A B hA) rfl rfl (Nat.le_of_ble_eq_true rfl) (by omega) (by omega) dL_law_1258 (fun _ _ h9 => h9.elim) ?_
  rintro _ _ ⟨hI1, hF1, ho9, rfl⟩
  rename_i S1
  obtain ⟨⟨rr1, hM1⟩, hw1⟩ := hL0.l hF1.l hI1
  refine g_aload_n C dL_law_1261 rfl rfl ?_
  refine g_callV C gy_X6_uncast tw_6_87 tw_6_88 tw_6_89 (by decide) (kk := 6) rfl rfl (by exact hM1.1.m) (md_uncast C.F S1 m rr1 B hM1) rfl rfl (Nat.le_of_ble_eq_true rfl) (by omega) (by omega) dL_law_1262 (fun _ _ h9 => h9.elim) ?_
  rintro _ _ ⟨⟨hM2, hF2⟩, rfl⟩
  rename_i S2
  obtain ⟨hLI2, hrl, hrd⟩ := LI.of hM1.1.m hI1 hw1 hF2 hM2
  refine g_icmp_eq C dL_law_1265 (tgt := 1566) (by decide) (fun c1 => ?_) (fun c1 => ?_)
  · refine g_widen (kc + 92) (nc + 4500) (by omega) (by omega) ?_
    refine g_sub [(0, _), (1, _), (2, _), (3, _), (4, _), (5, _)] ⟨rfl, rfl, rfl, rfl, rfl, rfl, trivial⟩ ?_
    exact next S2 B hLI2
  · exact absurd rfl c1
theorem blk_digest {Γ : GBase} {X : Cx} {L : Nat} {xs : Nat → Int32} (C : GC Γ X code 9 "CueBookLaw" 12 601024 7293034) (hX : LScr Γ X L xs) {S : PS} {x m o od j kc nc : Nat} {B : BT} (hLI : LI Γ S x m o od B) (hj : 5 * j + 5 ≤ L) (hk : kc + 92 ≤ 601024) (hn : nc + 4500 ≤ 7293034) (next : ∀ (S' : PS) (B' : BT), LI Γ S' x m o od B' → GW Γ X S' (kc + 92) (nc + 4500) 1566 [(0, .ref (bB Γ)), (1, .ref x), (2, .ref m), (3, .ref o), (4, .ref od), (5, .int (nI (5 * j)))] []) : GW Γ X S kc nc 1552 [(0, .ref (bB Γ)), (1, .ref x), (2, .ref m), (3, .ref o), (4, .ref od), (5, .int (nI (5 * j)))] [] := by
  have hV := hLI.v
  have hm := hLI.m
  have hL0 := hLI
  obtain ⟨⟨A, hA⟩, ⟨rr, hM⟩, ho, hon, how, hod, hodn, hodw⟩ := hLI
  refine g_aload_n C dL_law_1552 rfl rfl ?_
  refine g_callV C gy_X5_digest tw_3_89 tw_3_90 tw_3_91 (by decide) (kk := 5) rfl rfl (by exact hA.1) (m_digest C.F S x A B hA) rfl rfl (Nat.le_of_ble_eq_true rfl) (by omega) (by omega) dL_law_1553 (fun _ _ h9 => h9.elim) ?_
  rintro _ _ ⟨hI1, hF1, rfl⟩
  rename_i S1
  obtain ⟨⟨rr1, hM1⟩, hw1⟩ := hL0.l hF1.l hI1
  refine g_aload_n C dL_law_1556 rfl rfl ?_
  refine g_callV C gy_X6_digest tw_6_123 tw_6_124 tw_6_125 (by decide) (kk := 6) rfl rfl (by exact hM1.1.m) (md_digest C.F S1 m rr1 B hM1) rfl rfl (Nat.le_of_ble_eq_true rfl) (by omega) (by omega) dL_law_1557 (fun _ _ h9 => h9.elim) ?_
  rintro _ _ ⟨⟨hM2, hF2⟩, rfl⟩
  rename_i S2
  obtain ⟨hLI2, hrl, hrd⟩ := LI.of hM1.1.m hI1 hw1 hF2 hM2
  refine g_lcmp C dL_law_1560 ?_
  rw [cmp_eq]
  refine g_if_eq C dL_law_1561 (tgt := 1566) (by decide) (fun c1 => ?_) (fun c1 => ?_)
  · refine g_widen (kc + 92) (nc + 4500) (by omega) (by omega) ?_
    refine g_sub [(0, _), (1, _), (2, _), (3, _), (4, _), (5, _)] ⟨rfl, rfl, rfl, rfl, rfl, rfl, trivial⟩ ?_
    exact next S2 B hLI2
  · exact absurd rfl c1
theorem blk_worst {Γ : GBase} {X : Cx} {L : Nat} {xs : Nat → Int32} (C : GC Γ X code 9 "CueBookLaw" 12 601024 7293034) (hX : LScr Γ X L xs) {S : PS} {x m o od j kc nc : Nat} {B : BT} (hLI : LI Γ S x m o od B) (hj : 5 * j + 5 ≤ L) (hk : kc + 92 ≤ 601024) (hn : nc + 4500 ≤ 7293034) (next : ∀ (S' : PS) (B' : BT), LI Γ S' x m o od B' → GW Γ X S' (kc + 92) (nc + 4500) 1566 [(0, .ref (bB Γ)), (1, .ref x), (2, .ref m), (3, .ref o), (4, .ref od), (5, .int (nI (5 * j)))] []) : GW Γ X S kc nc 1539 [(0, .ref (bB Γ)), (1, .ref x), (2, .ref m), (3, .ref o), (4, .ref od), (5, .int (nI (5 * j)))] [] := by
  have hV := hLI.v
  have hm := hLI.m
  have hL0 := hLI
  obtain ⟨⟨A, hA⟩, ⟨rr, hM⟩, ho, hon, how, hod, hodn, hodw⟩ := hLI
  refine g_aload_n C dL_law_1539 rfl rfl ?_
  refine g_callV C gy_X5_worst tw_3_84 tw_3_85 tw_3_86 (by decide) (kk := 5) rfl rfl (by exact hA.1) (m_worst C.F S x A B hA) rfl rfl (Nat.le_of_ble_eq_true rfl) (by omega) (by omega) dL_law_1540 (fun _ _ h9 => h9.elim) ?_
  rintro _ _ ⟨rfl, rfl⟩
  refine g_aload_n C dL_law_1543 rfl rfl ?_
  refine g_callV C gy_X6_worst tw_6_119 tw_6_120 tw_6_121 (by decide) (kk := 6) rfl rfl (by exact hM.1.m) (md_worst C.F S m rr B hM) rfl rfl (Nat.le_of_ble_eq_true rfl) (by omega) (by omega) dL_law_1544 (fun _ _ h9 => h9.elim) ?_
  rintro _ _ ⟨hM2, hF2, rfl⟩
  rename_i S2
  obtain ⟨hLI2, hrl, hrd⟩ := LI.of hm hA ⟨ho, hon, how, hod, hodn, hodw⟩ hF2 hM2
  refine g_icmp_eq C dL_law_1547 (tgt := 1566) (by decide) (fun c1 => ?_) (fun c1 => ?_)
  · refine g_widen (kc + 92) (nc + 4500) (by omega) (by omega) ?_
    refine g_sub [(0, _), (1, _), (2, _), (3, _), (4, _), (5, _)] ⟨rfl, rfl, rfl, rfl, rfl, rfl, trivial⟩ ?_
    exact next S2 B hLI2
  · exact absurd rfl c1
theorem blk_mean {Γ : GBase} {X : Cx} {L : Nat} {xs : Nat → Int32} (C : GC Γ X code 9 "CueBookLaw" 12 601024 7293034) (hX : LScr Γ X L xs) {S : PS} {x m o od j kc nc : Nat} {B : BT} (hLI : LI Γ S x m o od B) (hj : 5 * j + 5 ≤ L) (hk : kc + 92 ≤ 601024) (hn : nc + 4500 ≤ 7293034) (next : ∀ (S' : PS) (B' : BT), LI Γ S' x m o od B' → GW Γ X S' (kc + 92) (nc + 4500) 1566 [(0, .ref (bB Γ)), (1, .ref x), (2, .ref m), (3, .ref o), (4, .ref od), (5, .int (nI (5 * j)))] []) : GW Γ X S kc nc 1462 [(0, .ref (bB Γ)), (1, .ref x), (2, .ref m), (3, .ref o), (4, .ref od), (5, .int (nI (5 * j)))] [] := by
  have hV := hLI.v
  have hm := hLI.m
  have hL0 := hLI
  obtain ⟨⟨A, hA⟩, ⟨rr, hM⟩, ho, hon, how, hod, hodn, hodw⟩ := hLI
  refine g_aload_n C dL_law_1462 rfl rfl ?_
  refine g_aload_n C dL_law_1463 rfl rfl ?_
  refine g_iload C dL_law_1464 rfl ?_
  refine g_iconst C dL_law_1466 (v := 1) (by decide) ?_
  refine g_iadd C dL_law_1467 ?_
  refine g_sld C hX (nI_add (5 * j) 1) (by omega) dL_law_1468 ?_
  refine g_aload C dL_law_1469 rfl ?_
  refine g_callSH C gyh_mean tw_5_76 tw_5_77 (by decide) (lw_mean C.F S x od (xs (5 * j + 1)) A B hA hod hodn) rfl rfl (Nat.le_of_ble_eq_true rfl) (by omega) (by omega) dL_law_1471 ?_
  rintro _ S1 ⟨k1, hs1, hI1, hF1, rfl⟩
  obtain ⟨⟨rr1, hM1⟩, hw1⟩ := hL0.l hF1 hI1
  refine g_istore C dL_law_1474 (by decide) rfl ?_
  refine g_aload_n C dL_law_1476 rfl rfl ?_
  refine g_aload_n C dL_law_1477 rfl rfl ?_
  refine g_iload C dL_law_1478 rfl ?_
  refine g_iconst C dL_law_1480 (v := 1) (by decide) ?_
  refine g_iadd C dL_law_1481 ?_
  refine g_sld C hX (nI_add (5 * j) 1) (by omega) dL_law_1482 ?_
  refine g_callV C gy_X6_mean tw_6_115 tw_6_116 tw_6_117 (by decide) (kk := 6) rfl rfl (by exact hM1.1.m) (md_mean C.F S1 m (xs (5 * j + 1)) rr1 B hM1) rfl rfl (Nat.le_of_ble_eq_true rfl) (by omega) (by omega) dL_law_1483 (fun _ _ h9 => h9.elim) ?_
  rintro _ _ ⟨k2, u2, hs2, hM2, ht2, hF2, rfl⟩
  rename_i S2
  obtain ⟨hLI2, hrl, hrd⟩ := LI.of hM1.1.m hI1 hw1 hF2 hM2
  have hkk : k2 = k1 ∧ (k1 = 0 → ∃ c, c < tC B ∧ pRD S2 od 0 = meanB B c ∧ u2 = meanB B c) ∧ k1 < 4 := by
    rcases hs1 with ⟨rfl, h1⟩ | ⟨rfl, c, h1, h2⟩ <;> rcases hs2 with ⟨rfl, g1⟩ | ⟨rfl, c', g1, g2⟩
    · exact ⟨rfl, fun e => absurd e (by decide), by decide⟩
    · exact absurd g1 (h1 c')
    · exact absurd h1 (g1 c)
    · rw [← isC_1 hV h1 g1] at g2
      exact ⟨rfl, fun _ => ⟨c, h1.1, (congrFun hrd 0).trans h2, g2⟩, by decide⟩
  obtain ⟨rfl, hval, hk4⟩ := hkk
  refine g_dstore C dL_law_1486 (by decide) rfl rfl ?_
  refine g_aload_n C dL_law_1488 rfl rfl ?_
  refine g_callV C gy_X6_thrown tw_5_157 tw_5_158 tw_5_159 (by decide) (kk := 6) rfl rfl (by exact hLI2.m) (md_thrown C.F S2 m k2 hLI2.m ht2) rfl rfl (Nat.le_of_ble_eq_true rfl) (by omega) (by omega) dL_law_1489 (fun _ _ h9 => h9.elim) ?_
  rintro _ _ ⟨rfl, rfl⟩
  refine g_iload C dL_law_1492 rfl ?_
  refine g_icmp_eq C dL_law_1494 (tgt := 1499) (by decide) (fun c1 => ?_) (fun c1 => ?_)
  · refine g_iload C dL_law_1499 rfl ?_
    refine g_if_ne C dL_law_1501 (tgt := 1536) (by decide) (fun c2 => ?_) (fun c2 => ?_)
    · refine g_goto C dL_law_1536 (tgt := 1566) (by decide) ?_
      refine g_widen (kc + 92) (nc + 4500) (by omega) (by omega) ?_
      refine g_sub [(0, _), (1, _), (2, _), (3, _), (4, _), (5, _)] ⟨rfl, rfl, rfl, rfl, rfl, rfl, trivial⟩ ?_
      exact next S2 B hLI2
    · have k0 : k2 = 0 := (nI_eq (b := 0) (by omega) (by omega)).mp c2
      obtain ⟨c, hc, e1, e2⟩ := hval k0
      rw [e2]
      refine g_aload C dL_law_1504 rfl ?_
      refine g_iconst C dL_law_1506 (v := 0) (by decide) ?_
      refine g_ldD C rfl hLI2.2.2.2.2.2.1 (by rw [hLI2.2.2.2.2.2.2.1]; decide) (by decide) e1 dL_law_1507 ?_
      refine g_dload C dL_law_1508 rfl ?_
      refine g_dcmp C dL_law_1510 ?_
      rw [meanB_eq hV hc]
      refine g_if_eq C dL_law_1511 (tgt := 1536) (by decide) (fun c3 => ?_) (fun c3 => ?_)
      · refine g_goto C dL_law_1536 (tgt := 1566) (by decide) ?_
        refine g_widen (kc + 92) (nc + 4500) (by omega) (by omega) ?_
        refine g_sub [(0, _), (1, _), (2, _), (3, _), (4, _), (5, _)] ⟨rfl, rfl, rfl, rfl, rfl, rfl, trivial⟩ ?_
        exact next S2 B hLI2
      · exact absurd rfl c3
  · exact absurd rfl c1
set_option maxRecDepth 100000 in
theorem law_loop {Γ : GBase} {X : Cx} {L : Nat} {xs : Nat → Int32} (C : GC Γ X code 9 "CueBookLaw" 12 601024 7293034) (hX : LScr Γ X L xs) {x m o od : Nat} (hend : ∀ (S : PS) (kc nc : Nat) (loc : List (Nat × Value)), kc ≤ 601024 → nc ≤ 7293034 → GW Γ X S kc nc 1573 loc [.int 1]) : ∀ (r j kc nc : Nat) (S : PS) (B : BT), L < 5 * (j + r) + 5 → j + r ≤ 600 → kc + 92 * r ≤ 600000 → nc + 4500 * r ≤ 7200000 → LI Γ S x m o od B → GW Γ X S kc nc 28 [(0, .ref (bB Γ)), (1, .ref x), (2, .ref m), (3, .ref o), (4, .ref od), (5, .int (nI (5 * j)))] [] := by
  have hL := hX.2.2.2
  have out : ∀ (j kc nc : Nat) (S : PS), L < 5 * j + 5 → j ≤ 600 → kc ≤ 600000 → nc ≤ 7200000 → GW Γ X S kc nc 28 [(0, .ref (bB Γ)), (1, .ref x), (2, .ref m), (3, .ref o), (4, .ref od), (5, .int (nI (5 * j)))] [] := by
    intro j kc nc S h1 h2 h3 h4
    refine g_iload C dL_law_28 rfl ?_
    refine g_aload_n C dL_law_30 rfl rfl ?_
    refine g_slen C hX dL_law_31 ?_
    refine g_iconst C dL_law_32 (v := 5) (by decide) ?_
    refine g_isub C dL_law_33 ?_
    refine g_icmp_gt C dL_law_34 (tgt := 1572) (by decide) (fun c1 => ?_) (fun c1 => ?_)
    · refine g_iconst C dL_law_1572 (v := 1) (by decide) ?_
      exact hend _ _ _ _ (by omega) (by omega)
    · exact absurd ((more_iff (by omega) (by omega)).mpr h1) c1
  intro r
  induction r with
  | zero =>
    intro j kc nc S B h1 h2 h3 h4 hLI
    exact out j kc nc S (by omega) (by omega) (by omega) (by omega)
  | succ r ih =>
    intro j kc nc S B h1 h2 h3 h4 hLI
    rcases Nat.lt_or_ge L (5 * j + 5) with hlt | hge
    · exact out j kc nc S hlt (by omega) (by omega) (by omega)
    · have hk9 : kc + 92 ≤ 601024 := by omega
      have hn9 : nc + 4500 ≤ 7293034 := by omega
      have next : ∀ (S' : PS) (B' : BT), LI Γ S' x m o od B' → GW Γ X S' (kc + 92) (nc + 4500) 1566 [(0, .ref (bB Γ)), (1, .ref x), (2, .ref m), (3, .ref o), (4, .ref od), (5, .int (nI (5 * j)))] [] := by
        intro S' B' hLI'
        refine g_iinc C dL_law_1566 rfl (show nI (5 * j) + Int32.ofInt 5 = nI (5 * (j + 1)) from nI_add (5 * j) 5) (by decide) rfl ?_
        refine g_goto C dL_law_1569 (tgt := 28) (by decide) ?_
        refine g_sub [(0, _), (1, _), (2, _), (3, _), (4, _), (5, _)] ⟨rfl, rfl, rfl, rfl, rfl, rfl, trivial⟩ ?_
        exact ih (j + 1) (kc + 92) (nc + 4500) S' B' (by omega) (by omega) (by omega) (by omega) hLI'
      have skip : GW Γ X S kc nc 1566 [(0, .ref (bB Γ)), (1, .ref x), (2, .ref m), (3, .ref o), (4, .ref od), (5, .int (nI (5 * j)))] [] := by
        refine g_widen (kc + 92) (nc + 4500) (by omega) (by omega) ?_
        exact next S B hLI
      refine g_iload C dL_law_28 rfl ?_
      refine g_aload_n C dL_law_30 rfl rfl ?_
      refine g_slen C hX dL_law_31 ?_
      refine g_iconst C dL_law_32 (v := 5) (by decide) ?_
      refine g_isub C dL_law_33 ?_
      refine g_icmp_gt C dL_law_34 (tgt := 1572) (by decide) (fun c1 => ?_) (fun c1 => ?_)
      · have := (more_iff (by omega) (by omega)).mp c1
        omega
      · refine g_aload_n C dL_law_37 rfl rfl ?_
        refine g_iload C dL_law_38 rfl ?_
        refine g_sld C hX rfl (show 5 * j < L by omega) dL_law_40 ?_
        refine g_bipush C dL_law_41 (v := 31) (by decide) ?_
        refine g_iand C dL_law_43 ?_
        obtain ⟨t, ht, et⟩ := and31 (xs (5 * j))
        rw [et]
        rcases (show t = 0 ∨ t = 1 ∨ t = 2 ∨ t = 3 ∨ t = 4 ∨ t = 5 ∨ t = 6 ∨ t = 7 ∨ t = 8 ∨ t = 9 ∨ t = 10 ∨ t = 11 ∨ t = 12 ∨ t = 13 ∨ t = 14 ∨ t = 15 ∨ t = 16 ∨ t = 17 ∨ t = 18 ∨ t = 19 ∨ t = 20 ∨ t = 21 ∨ t = 22 ∨ t = 23 ∨ 24 ≤ t by omega) with rfl | rfl | rfl | rfl | rfl | rfl | rfl | rfl | rfl | rfl | rfl | rfl | rfl | rfl | rfl | rfl | rfl | rfl | rfl | rfl | rfl | rfl | rfl | rfl | h24
        · refine g_tableIn C dL_law_44 (by decide +kernel) (by decide +kernel) (off := 112) (by decide +kernel) (tgt := 156) (by decide) ?_
          refine g_sub [(0, _), (1, _), (2, _), (3, _), (4, _), (5, _)] ⟨rfl, rfl, rfl, rfl, rfl, rfl, trivial⟩ ?_
          exact blk_addPuppet C hX (kc := kc) (nc := nc) hLI hge hk9 hn9 next
        · refine g_tableIn C dL_law_44 (by decide +kernel) (by decide +kernel) (off := 180) (by decide +kernel) (tgt := 224) (by decide) ?_
          refine g_sub [(0, _), (1, _), (2, _), (3, _), (4, _), (5, _)] ⟨rfl, rfl, rfl, rfl, rfl, rfl, trivial⟩ ?_
          exact blk_addPlayer C hX (kc := kc) (nc := nc) hLI hge hk9 hn9 next
        · refine g_tableIn C dL_law_44 (by decide +kernel) (by decide +kernel) (off := 248) (by decide +kernel) (tgt := 292) (by decide) ?_
          refine g_sub [(0, _), (1, _), (2, _), (3, _), (4, _), (5, _)] ⟨rfl, rfl, rfl, rfl, rfl, rfl, trivial⟩ ?_
          exact blk_enter C hX (kc := kc) (nc := nc) hLI hge hk9 hn9 next
        · refine g_tableIn C dL_law_44 (by decide +kernel) (by decide +kernel) (off := 340) (by decide +kernel) (tgt := 384) (by decide) ?_
          refine g_sub [(0, _), (1, _), (2, _), (3, _), (4, _), (5, _)] ⟨rfl, rfl, rfl, rfl, rfl, rfl, trivial⟩ ?_
          exact blk_move C hX (kc := kc) (nc := nc) hLI hge hk9 hn9 next
        · refine g_tableIn C dL_law_44 (by decide +kernel) (by decide +kernel) (off := 420) (by decide +kernel) (tgt := 464) (by decide) ?_
          refine g_sub [(0, _), (1, _), (2, _), (3, _), (4, _), (5, _)] ⟨rfl, rfl, rfl, rfl, rfl, rfl, trivial⟩ ?_
          exact blk_shift C hX (kc := kc) (nc := nc) hLI hge hk9 hn9 next
        · refine g_tableIn C dL_law_44 (by decide +kernel) (by decide +kernel) (off := 500) (by decide +kernel) (tgt := 544) (by decide) ?_
          refine g_sub [(0, _), (1, _), (2, _), (3, _), (4, _), (5, _)] ⟨rfl, rfl, rfl, rfl, rfl, rfl, trivial⟩ ?_
          exact blk_leave C hX (kc := kc) (nc := nc) hLI hge hk9 hn9 next
        · refine g_tableIn C dL_law_44 (by decide +kernel) (by decide +kernel) (off := 568) (by decide +kernel) (tgt := 612) (by decide) ?_
          refine g_sub [(0, _), (1, _), (2, _), (3, _), (4, _), (5, _)] ⟨rfl, rfl, rfl, rfl, rfl, rfl, trivial⟩ ?_
          exact blk_strike C hX (kc := kc) (nc := nc) hLI hge hk9 hn9 next
        · refine g_tableIn C dL_law_44 (by decide +kernel) (by decide +kernel) (off := 624) (by decide +kernel) (tgt := 668) (by decide) ?_
          refine g_sub [(0, _), (1, _), (2, _), (3, _), (4, _), (5, _)] ⟨rfl, rfl, rfl, rfl, rfl, rfl, trivial⟩ ?_
          exact blk_count C hX (kc := kc) (nc := nc) hLI hge hk9 hn9 next
        · refine g_tableIn C dL_law_44 (by decide +kernel) (by decide +kernel) (off := 680) (by decide +kernel) (tgt := 724) (by decide) ?_
          refine g_sub [(0, _), (1, _), (2, _), (3, _), (4, _), (5, _)] ⟨rfl, rfl, rfl, rfl, rfl, rfl, trivial⟩ ?_
          exact blk_cue C hX (kc := kc) (nc := nc) hLI hge hk9 hn9 next
        · refine g_tableIn C dL_law_44 (by decide +kernel) (by decide +kernel) (off := 748) (by decide +kernel) (tgt := 792) (by decide) ?_
          refine g_sub [(0, _), (1, _), (2, _), (3, _), (4, _), (5, _)] ⟨rfl, rfl, rfl, rfl, rfl, rfl, trivial⟩ ?_
          exact blk_place C hX (kc := kc) (nc := nc) hLI hge hk9 hn9 next
        · refine g_tableIn C dL_law_44 (by decide +kernel) (by decide +kernel) (off := 816) (by decide +kernel) (tgt := 860) (by decide) ?_
          refine g_sub [(0, _), (1, _), (2, _), (3, _), (4, _), (5, _)] ⟨rfl, rfl, rfl, rfl, rfl, rfl, trivial⟩ ?_
          exact blk_track C hX (kc := kc) (nc := nc) hLI hge hk9 hn9 next
        · refine g_tableIn C dL_law_44 (by decide +kernel) (by decide +kernel) (off := 884) (by decide +kernel) (tgt := 928) (by decide) ?_
          refine g_sub [(0, _), (1, _), (2, _), (3, _), (4, _), (5, _)] ⟨rfl, rfl, rfl, rfl, rfl, rfl, trivial⟩ ?_
          exact blk_onStage C hX (kc := kc) (nc := nc) hLI hge hk9 hn9 next
        · refine g_tableIn C dL_law_44 (by decide +kernel) (by decide +kernel) (off := 940) (by decide +kernel) (tgt := 984) (by decide) ?_
          refine g_sub [(0, _), (1, _), (2, _), (3, _), (4, _), (5, _)] ⟨rfl, rfl, rfl, rfl, rfl, rfl, trivial⟩ ?_
          exact blk_clash C hX (kc := kc) (nc := nc) hLI hge hk9 hn9 next
        · refine g_tableIn C dL_law_44 (by decide +kernel) (by decide +kernel) (off := 1008) (by decide +kernel) (tgt := 1052) (by decide) ?_
          refine g_sub [(0, _), (1, _), (2, _), (3, _), (4, _), (5, _)] ⟨rfl, rfl, rfl, rfl, rfl, rfl, trivial⟩ ?_
          exact blk_clashes C hX (kc := kc) (nc := nc) hLI hge hk9 hn9 next
        · refine g_tableIn C dL_law_44 (by decide +kernel) (by decide +kernel) (off := 1021) (by decide +kernel) (tgt := 1065) (by decide) ?_
          refine g_sub [(0, _), (1, _), (2, _), (3, _), (4, _), (5, _)] ⟨rfl, rfl, rfl, rfl, rfl, rfl, trivial⟩ ?_
          exact blk_beats C hX (kc := kc) (nc := nc) hLI hge hk9 hn9 next
        · refine g_tableIn C dL_law_44 (by decide +kernel) (by decide +kernel) (off := 1077) (by decide +kernel) (tgt := 1121) (by decide) ?_
          refine g_sub [(0, _), (1, _), (2, _), (3, _), (4, _), (5, _)] ⟨rfl, rfl, rfl, rfl, rfl, rfl, trivial⟩ ?_
          exact blk_stays C hX (kc := kc) (nc := nc) hLI hge hk9 hn9 next
        · refine g_tableIn C dL_law_44 (by decide +kernel) (by decide +kernel) (off := 1133) (by decide +kernel) (tgt := 1177) (by decide) ?_
          refine g_sub [(0, _), (1, _), (2, _), (3, _), (4, _), (5, _)] ⟨rfl, rfl, rfl, rfl, rfl, rfl, trivial⟩ ?_
          exact blk_stay C hX (kc := kc) (nc := nc) hLI hge hk9 hn9 next
        · refine g_tableIn C dL_law_44 (by decide +kernel) (by decide +kernel) (off := 1213) (by decide +kernel) (tgt := 1257) (by decide) ?_
          refine g_sub [(0, _), (1, _), (2, _), (3, _), (4, _), (5, _)] ⟨rfl, rfl, rfl, rfl, rfl, rfl, trivial⟩ ?_
          exact blk_uncast C hX (kc := kc) (nc := nc) hLI hge hk9 hn9 next
        · refine g_tableIn C dL_law_44 (by decide +kernel) (by decide +kernel) (off := 1226) (by decide +kernel) (tgt := 1270) (by decide) ?_
          refine g_sub [(0, _), (1, _), (2, _), (3, _), (4, _), (5, _)] ⟨rfl, rfl, rfl, rfl, rfl, rfl, trivial⟩ ?_
          exact blk_hands C hX (kc := kc) (nc := nc) hLI hge hk9 hn9 next
        · refine g_tableIn C dL_law_44 (by decide +kernel) (by decide +kernel) (off := 1294) (by decide +kernel) (tgt := 1338) (by decide) ?_
          refine g_sub [(0, _), (1, _), (2, _), (3, _), (4, _), (5, _)] ⟨rfl, rfl, rfl, rfl, rfl, rfl, trivial⟩ ?_
          exact blk_load C hX (kc := kc) (nc := nc) hLI hge hk9 hn9 next
        · refine g_tableIn C dL_law_44 (by decide +kernel) (by decide +kernel) (off := 1350) (by decide +kernel) (tgt := 1394) (by decide) ?_
          refine g_sub [(0, _), (1, _), (2, _), (3, _), (4, _), (5, _)] ⟨rfl, rfl, rfl, rfl, rfl, rfl, trivial⟩ ?_
          exact blk_note C hX (kc := kc) (nc := nc) hLI hge hk9 hn9 next
        · refine g_tableIn C dL_law_44 (by decide +kernel) (by decide +kernel) (off := 1418) (by decide +kernel) (tgt := 1462) (by decide) ?_
          refine g_sub [(0, _), (1, _), (2, _), (3, _), (4, _), (5, _)] ⟨rfl, rfl, rfl, rfl, rfl, rfl, trivial⟩ ?_
          exact blk_mean C hX (kc := kc) (nc := nc) hLI hge hk9 hn9 next
        · refine g_tableIn C dL_law_44 (by decide +kernel) (by decide +kernel) (off := 1495) (by decide +kernel) (tgt := 1539) (by decide) ?_
          refine g_sub [(0, _), (1, _), (2, _), (3, _), (4, _), (5, _)] ⟨rfl, rfl, rfl, rfl, rfl, rfl, trivial⟩ ?_
          exact blk_worst C hX (kc := kc) (nc := nc) hLI hge hk9 hn9 next
        · refine g_tableIn C dL_law_44 (by decide +kernel) (by decide +kernel) (off := 1508) (by decide +kernel) (tgt := 1552) (by decide) ?_
          refine g_sub [(0, _), (1, _), (2, _), (3, _), (4, _), (5, _)] ⟨rfl, rfl, rfl, rfl, rfl, rfl, trivial⟩ ?_
          exact blk_digest C hX (kc := kc) (nc := nc) hLI hge hk9 hn9 next
        · refine g_tableOut C dL_law_44 (Or.inr (by rw [nI_toInt (by omega)]; omega)) (tgt := 1566) (by decide) ?_
          refine g_sub [(0, _), (1, _), (2, _), (3, _), (4, _), (5, _)] ⟨rfl, rfl, rfl, rfl, rfl, rfl, trivial⟩ ?_
          exact skip
