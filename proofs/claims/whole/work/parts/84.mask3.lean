/-- the stays that P has, of the first n puppets -/
def fl (ln : Nat → Nat) (P : Nat × Nat → Bool) : Nat → List (Nat × Nat)
  | 0 => []
  | n + 1 => fl ln P n ++ ((List.range (ln n)).filter (fun s => P (n, s))).map (fun s => (n, s))
theorem fl_mem (ln : Nat → Nat) (P : Nat × Nat → Bool) (a : Nat × Nat) : ∀ n, a ∈ fl ln P n ↔ (a.1 < n ∧ a.2 < ln a.1 ∧ P a = true) := by
  intro n
  induction n with
  | zero => exact ⟨fun h => (by cases h), fun h => absurd h.1 (Nat.not_lt_zero _)⟩
  | succ n ih =>
    simp only [fl, List.mem_append, ih, List.mem_map, List.mem_filter, List.mem_range]
    constructor
    · rintro (⟨h1, h2, h3⟩ | ⟨s, ⟨h1, h2⟩, rfl⟩)
      · exact ⟨by omega, h2, h3⟩
      · exact ⟨Nat.lt_succ_self n, h1, h2⟩
    · rintro ⟨h1, h2, h3⟩
      by_cases e : a.1 = n
      · right
        refine ⟨a.2, ⟨by rw [← e]; exact h2, ?_⟩, ?_⟩
        · rw [← e]; exact h3
        · rw [← e]
      · exact Or.inl ⟨by omega, h2, h3⟩
theorem fl_nodup (ln : Nat → Nat) (P : Nat × Nat → Bool) : ∀ n, (fl ln P n).Nodup := by
  intro n
  induction n with
  | zero => exact List.Pairwise.nil
  | succ n ih =>
    simp only [fl]
    refine List.pairwise_append.mpr ⟨ih, ?_, fun a ha b hb e => ?_⟩
    · rw [List.pairwise_map]
      have hn : (List.range (ln n)).Nodup := List.nodup_range
      exact (List.Pairwise.filter _ hn).imp (fun hab e => hab (congrArg Prod.snd e))
    · have h1 := ((fl_mem ln P a n).mp ha).1
      obtain ⟨s, -, rfl⟩ := List.mem_map.mp hb
      rw [e] at h1
      exact absurd h1 (Nat.lt_irrefl _)
theorem fl_len (ln : Nat → Nat) (P : Nat × Nat → Bool) : ∀ n, (fl ln P n).length = sum1 (fun p => cntN (fun s => P (p, s)) (ln p)) n := by
  intro n
  induction n with
  | zero => rfl
  | succ n ih => simp only [fl, List.length_append, List.length_map, ih, sum1, filt_cnt]
noncomputable def ucN (B : BT) (p n : Nat) : Nat := cntN (fun s => (castB B p s).isNone) n
theorem unB_eq {B : BT} (h : isOrd (ctB B) (ordB B)) : unB B = sum1 (fun p => ucN B p (stL (dsB B p)).length) (tN B) := by
  have e := fl_len (fun p => (stL (dsB B p)).length) (fun a => (castB B a.1 a.2).isNone) (tN B)
  refine Eq.trans ?_ e
  unfold unB
  refine ((List.perm_ext_iff_of_nodup (List.Pairwise.filter _ h.nodup) (fl_nodup _ _ _)).mpr (fun a => ?_)).length_eq
  rw [List.mem_filter, fl_mem, h.2 a]
  constructor
  · rintro ⟨⟨h1, h2⟩, h3⟩; exact ⟨h1, h2, h3⟩
  · rintro ⟨h1, h2, h3⟩; exact ⟨⟨h1, h2⟩, h3⟩
theorem md_uncast {Γ : GBase} (F : FB Γ) (S : PS) (m : Nat) (rr : Nat → Nat) (B : BT) (hI : MdI S m rr B) : GMet Γ yX6_uncast cX6_uncast 4 ((some FieldType.int)) 6 1 8 [.ref m] S (fun r S' => MdV S S' m rr B ∧ r = some (.int (nI (unB B)))) noX := by
  have hB1 : MdB (uI S 192 m 0) m rr B := (hI.thr 0).1
  have h8 := hB1.v.1
  refine GMet.of (loc0 := [(0, .ref m)]) F (by decide +kernel) rfl (Nat.le_of_ble_eq_true rfl) (fun X C R Tb nm => ?_)
  refine g_aload_n C dX6_uncast_0 rfl rfl ?_
  refine g_iconst C dX6_uncast_1 (v := 0) (by decide) ?_
  refine pu_Model_thrown C tw_5_89 (by exact hI.1.m) dX6_uncast_2 ?_
  refine g_aload_n C dX6_uncast_5 rfl rfl ?_
  refine g_callV C gy_X6_workOut tw_6_12 tw_6_14 ts_37 (by decide) (kk := 6) rfl rfl (by exact hB1.m) (md_workOut F _ m rr B (hI.thr 0)) rfl rfl (Nat.le_of_ble_eq_true rfl) (by omega) (by omega) dX6_uncast_6 (fun _ _ h9 => h9.elim) ?_
  rintro _ _ ⟨rfl, hw⟩
  rename_i S2
  have gB := hw.1
  have hord := hw.2.2.1.1
  have h5 := gB.v.2.1
  have hlen : ∀ p, p < tN B → (stL (dsB B p)).length ≤ 40 := fun p hp => by
    have h9 := stL_len (dsB B p)
    have := hB1.v.lenD hp
    omega
  have outer : ∀ (k p : Nat), p + k = tN B → GW Γ X S2 1 8 13 [(0, .ref m), (1, .int (nI (sum1 (fun p => ucN B p (stL (dsB B p)).length) p))), (2, .int (nI p))] [] := by
    intro k
    induction k with
    | zero =>
      intro p hp
      have ep : p = tN B := by omega
      subst ep
      refine g_iload_n C dX6_uncast_13 rfl rfl ?_
      refine g_aload_n C dX6_uncast_14 rfl rfl ?_
      refine ge_Model_puppets C tw_5_90 (by exact gB.m) (by exact gB.n) dX6_uncast_15 ?_
      refine g_icmp_ge C dX6_uncast_18 (tgt := 68) (by decide) (fun c1 => ?_) (fun c1 => ?_)
      · refine g_iload_n C dX6_uncast_68 rfl rfl ?_
        refine g_iret C R rfl (by omega) (by omega) dX6_uncast_69 ?_
        rw [unB_eq hord]
        exact ⟨⟨hw.i, FrM.i.tr hw.2.2.2.1⟩, rfl⟩
      · exact absurd (nI_le (Nat.le_refl _) (by omega)) c1
    | succ k ih =>
      intro p hp
      have hpN : p < tN B := by omega
      have hp40 := hlen p hpN
      have inner : ∀ (k s : Nat), s + k = (stL (dsB B p)).length → GW Γ X S2 1 8 23 [(0, .ref m), (1, .int (nI (sum1 (fun p => ucN B p (stL (dsB B p)).length) p + ucN B p s))), (2, .int (nI p)), (3, .int (nI s))] [] := by
        intro k
        induction k with
        | zero =>
          intro s hs
          have es : s = (stL (dsB B p)).length := by omega
          refine g_iload_n C dX6_uncast_23 rfl rfl ?_
          refine g_aload_n C dX6_uncast_24 rfl rfl ?_
          refine ge_Model_manyStays C tw_5_107 (by exact gB.m) (by exact gB.f.r i_210) dX6_uncast_25 ?_
          refine g_iload_n C dX6_uncast_28 rfl rfl ?_
          refine g_ldI C rfl (gB.f.i i_210 rfl) (gB.f.lt i_210 (n := 8) rfl (by omega)) (by omega) (hw.2.2.1.2.2.1 p hpN) dX6_uncast_29 ?_
          refine g_icmp_ge C dX6_uncast_30 (tgt := 62) (by decide) (fun c1 => ?_) (fun c1 => ?_)
          · have nx := ih (p + 1) (by omega)
            simp only [sum1] at nx
            rw [es]
            refine g_iinc C dX6_uncast_62 rfl (by first | exact inc1 _ | exact rfl) (by decide) rfl ?_
            refine g_goto C dX6_uncast_65 (tgt := 13) (by decide) ?_
            refine g_sub [(0, _), (1, _), (2, _)] ⟨rfl, rfl, rfl, trivial⟩ ?_
            exact nx
          · exact absurd (nI_le (by omega) (by omega)) c1
        | succ k ih2 =>
          intro s hs
          have nx := ih2 (s + 1) (by omega)
          obtain ⟨q, hq⟩ : ∃ q, (stL (dsB B p))[s]? = some q := ⟨_, List.getElem?_eq_getElem (by omega)⟩
          have hcz : zO (castB B p s) = -1 ↔ castB B p s = none := zO_m1 (fun v hv => by have := castB_lt hord hv; omega)
          refine g_iload_n C dX6_uncast_23 rfl rfl ?_
          refine g_aload_n C dX6_uncast_24 rfl rfl ?_
          refine ge_Model_manyStays C tw_5_107 (by exact gB.m) (by exact gB.f.r i_210) dX6_uncast_25 ?_
          refine g_iload_n C dX6_uncast_28 rfl rfl ?_
          refine g_ldI C rfl (gB.f.i i_210 rfl) (gB.f.lt i_210 (n := 8) rfl (by omega)) (by omega) (hw.2.2.1.2.2.1 p hpN) dX6_uncast_29 ?_
          refine g_icmp_ge C dX6_uncast_30 (tgt := 62) (by decide) (fun c1 => ?_) (fun c1 => ?_)
          · exact absurd c1 (nI_ge (by omega) (by omega))
          · refine g_iload_n C dX6_uncast_33 rfl rfl ?_
            refine g_aload_n C dX6_uncast_34 rfl rfl ?_
            refine ge_Model_cast C tw_5_110 (by exact gB.m) (by exact gB.f.r i_213) dX6_uncast_35 ?_
            refine g_bipush C dX6_uncast_38 (v := 40) (by decide) ?_
            refine g_iload_n C dX6_uncast_40 rfl rfl ?_
            refine g_imul C dX6_uncast_41 ?_
            refine g_iload_n C dX6_uncast_42 rfl rfl ?_
            refine g_iadd C dX6_uncast_43 ?_
            refine g_ldI C (fix40 p s) (gB.f.i i_213 rfl) (gB.f.lt i_213 (n := 320) rfl (by omega)) (by omega) (hw.2.2.1.ca p s q hpN hq) dX6_uncast_44 ?_
            refine g_iconst C dX6_uncast_45 (v := -1) (by decide) ?_
            refine g_icmp_ne C dX6_uncast_46 (tgt := 53) (by decide) (fun c2 => ?_) (fun c2 => ?_)
            · have e : ucN B p (s + 1) = ucN B p s := by
                have : (castB B p s).isNone = false := by
                  cases h : castB B p s with
                  | none => exact absurd (hcz.mpr h) c2
                  | some w => rfl
                simp [ucN, cntN, this]
              refine g_iconst C dX6_uncast_53 (v := 0) (by decide) ?_
              rw [show (0 : Int32) = nI 0 from rfl]
              refine g_iadd C dX6_uncast_54 ?_
              rw [nI_add]
              refine g_istore_n C dX6_uncast_55 rfl (by decide) rfl ?_
              refine g_iinc C dX6_uncast_56 rfl (by first | exact inc1 _ | exact rfl) (by decide) rfl ?_
              refine g_goto C dX6_uncast_59 (tgt := 23) (by decide) ?_
              rw [e] at nx
              refine g_sub [(0, _), (1, _), (2, _), (3, _)] ⟨rfl, rfl, rfl, rfl, trivial⟩ ?_
              exact nx
            · have e : ucN B p (s + 1) = ucN B p s + 1 := by
                have : (castB B p s).isNone = true := by rw [hcz.mp c2]; rfl
                simp [ucN, cntN, this]
              refine g_iconst C dX6_uncast_49 (v := 1) (by decide) ?_
              refine g_goto C dX6_uncast_50 (tgt := 54) (by decide) ?_
              rw [show (1 : Int32) = nI 1 from rfl]
              refine g_iadd C dX6_uncast_54 ?_
              rw [nI_add]
              refine g_istore_n C dX6_uncast_55 rfl (by decide) rfl ?_
              refine g_iinc C dX6_uncast_56 rfl (by first | exact inc1 _ | exact rfl) (by decide) rfl ?_
              refine g_goto C dX6_uncast_59 (tgt := 23) (by decide) ?_
              rw [e, ← Nat.add_assoc] at nx
              refine g_sub [(0, _), (1, _), (2, _), (3, _)] ⟨rfl, rfl, rfl, rfl, trivial⟩ ?_
              exact nx
      refine g_iload_n C dX6_uncast_13 rfl rfl ?_
      refine g_aload_n C dX6_uncast_14 rfl rfl ?_
      refine ge_Model_puppets C tw_5_90 (by exact gB.m) (by exact gB.n) dX6_uncast_15 ?_
      refine g_icmp_ge C dX6_uncast_18 (tgt := 68) (by decide) (fun c1 => ?_) (fun c1 => ?_)
      · exact absurd c1 (nI_ge hpN (by omega))
      · refine g_iconst C dX6_uncast_21 (v := 0) (by decide) ?_
        refine g_istore_n C dX6_uncast_22 rfl (by decide) rfl ?_
        refine g_sub [(0, _), (1, _), (2, _), (3, _)] ⟨rfl, rfl, rfl, rfl, trivial⟩ ?_
        exact inner (stL (dsB B p)).length 0 (by omega)
  refine g_iconst C dX6_uncast_9 (v := 0) (by decide) ?_
  refine g_istore_n C dX6_uncast_10 rfl (by decide) rfl ?_
  refine g_iconst C dX6_uncast_11 (v := 0) (by decide) ?_
  refine g_istore_n C dX6_uncast_12 rfl (by decide) rfl ?_
  refine g_sub [(0, _), (1, _), (2, _)] ⟨rfl, rfl, rfl, trivial⟩ ?_
  exact outer (tN B) 0 (by omega)
theorem md_handsOf {Γ : GBase} (F : FB Γ) (S : PS) (m q b : Nat) (rr : Nat → Nat) (B : BT) (hB : MdB S m rr B) (hF : FreshV S rr B) (hq : q < 1000) (hb : b < 1000) : GMet Γ yX6_handsOf cX6_handsOf 5 ((some FieldType.int)) 1 0 0 [.ref m, .int (nI q), .int (nI b)] S (fun r S' => S = S' ∧ r = some (.int (nI (hmB B q b)))) noX := by
  have h8 := hB.v.1
  have h5 := hB.v.2.1
  refine GMet.of (loc0 := [(0, .ref m), (1, .int (nI q)), (2, .int (nI b))]) F (by decide +kernel) rfl (Nat.le_of_ble_eq_true rfl) (fun X C R Tb nm => ?_)
  have loop : ∀ (k p : Nat), p + k = tN B → GW Γ X S 0 0 5 [(0, .ref m), (1, .int (nI q)), (2, .int (nI b)), (3, .int (nI (maskN (held (ctB B) (castB B) q b) p))), (4, .int (nI p))] [] := by
    intro k
    induction k with
    | zero =>
      intro p hp
      have ep : p = tN B := by omega
      subst ep
      refine g_iload C dX6_handsOf_5 rfl ?_
      refine g_aload_n C dX6_handsOf_7 rfl rfl ?_
      refine ge_Model_puppets C tw_5_90 (by exact hB.m) (by exact hB.n) dX6_handsOf_8 ?_
      refine g_icmp_ge C dX6_handsOf_11 (tgt := 38) (by decide) (fun c1 => ?_) (fun c1 => ?_)
      · refine g_iload_n C dX6_handsOf_38 rfl rfl ?_
        refine g_iret C R rfl (by omega) (by omega) dX6_handsOf_39 ?_
        exact ⟨rfl, rfl⟩
      · exact absurd (nI_le (Nat.le_refl _) (by omega)) c1
    | succ k ih =>
      intro p hp
      have hpN : p < tN B := by omega
      have nx := ih (p + 1) (by omega)
      have hplz : ∀ v, plyAt B (castB B) p b = some v → v < 1000 := fun v hv => by
        cases hq2 : plL (dsB B p) b with
        | none => rw [plyAt_none hq2] at hv; cases hv
        | some w => rw [plyAt_some hq2] at hv; have := castB_lt hF.1 hv; omega
      refine g_iload C dX6_handsOf_5 rfl ?_
      refine g_aload_n C dX6_handsOf_7 rfl rfl ?_
      refine ge_Model_puppets C tw_5_90 (by exact hB.m) (by exact hB.n) dX6_handsOf_8 ?_
      refine g_icmp_ge C dX6_handsOf_11 (tgt := 38) (by decide) (fun c1 => ?_) (fun c1 => ?_)
      · exact absurd c1 (nI_ge hpN (by omega))
      · refine g_aload_n C dX6_handsOf_14 rfl rfl ?_
        refine g_iload C dX6_handsOf_15 rfl ?_
        refine g_iload_n C dX6_handsOf_17 rfl rfl ?_
        refine g_callV C gy_X6_playerAt tw_6_31 tw_6_33 ts_41 (by decide) (kk := 6) rfl rfl (by exact hB.m) (md_playerAt F S m p b rr B (castB B) hB hF.pl hF.ca hpN hb) rfl rfl (Nat.le_of_ble_eq_true rfl) (by omega) (by omega) dX6_handsOf_18 (fun _ _ h9 => h9.elim) ?_
        rintro _ _ ⟨rfl, rfl⟩
        refine g_iload_n C dX6_handsOf_21 rfl rfl ?_
        refine g_icmp_ne C dX6_handsOf_22 (tgt := 32) (by decide) (fun c2 => ?_) (fun c2 => ?_)
        · have hh : held (ctB B) (castB B) q b p = false := by
            cases hh : held (ctB B) (castB B) q b p with
            | false => rfl
            | true => exact absurd ((zO_nI hplz hq).mpr ((held_ply hB.v hpN hb).mp hh)) c2
          have e : maskN (held (ctB B) (castB B) q b) (p + 1) = maskN (held (ctB B) (castB B) q b) p := by simp [maskN, hh]
          rw [e] at nx
          refine g_iinc C dX6_handsOf_32 rfl (by first | exact inc1 _ | exact rfl) (by decide) rfl ?_
          refine g_goto C dX6_handsOf_35 (tgt := 5) (by decide) ?_
          refine g_sub [(0, _), (1, _), (2, _), (3, _), (4, _)] ⟨rfl, rfl, rfl, rfl, rfl, trivial⟩ ?_
          exact nx
        · have hh : held (ctB B) (castB B) q b p = true := (held_ply hB.v hpN hb).mpr ((zO_nI hplz hq).mp c2)
          have e : maskN (held (ctB B) (castB B) q b) (p + 1) = maskN (held (ctB B) (castB B) q b) p ||| 2 ^ p := by simp [maskN, hh]
          rw [e] at nx
          refine g_iload_n C dX6_handsOf_25 rfl rfl ?_
          refine g_iconst C dX6_handsOf_26 (v := 1) (by decide) ?_
          refine g_iload C dX6_handsOf_27 rfl ?_
          refine g_ishl C dX6_handsOf_29 ?_
          rw [nb_bit p (by omega)]
          refine g_ior C dX6_handsOf_30 ?_
          rw [nb_or]
          refine g_istore_n C dX6_handsOf_31 rfl (by decide) rfl ?_
          refine g_iinc C dX6_handsOf_32 rfl (by first | exact inc1 _ | exact rfl) (by decide) rfl ?_
          refine g_goto C dX6_handsOf_35 (tgt := 5) (by decide) ?_
          refine g_sub [(0, _), (1, _), (2, _), (3, _), (4, _)] ⟨rfl, rfl, rfl, rfl, rfl, trivial⟩ ?_
          exact nx
  refine g_iconst C dX6_handsOf_0 (v := 0) (by decide) ?_
  refine g_istore_n C dX6_handsOf_1 rfl (by decide) rfl ?_
  refine g_iconst C dX6_handsOf_2 (v := 0) (by decide) ?_
  refine g_istore C dX6_handsOf_3 (by decide) rfl ?_
  refine g_sub [(0, _), (1, _), (2, _), (3, _), (4, _)] ⟨rfl, rfl, rfl, rfl, rfl, trivial⟩ ?_
  exact loop (tN B) 0 (by omega)
theorem hmB_lt {B : BT} (h : tN B ≤ 8) (q b : Nat) : hmB B q b < 256 := Nat.lt_of_lt_of_le (maskN_lt _ _) (Nat.pow_le_pow_right (by decide) h)
def spHands (B : BT) (y z : Int32) (k : Nat) (B' : BT) (v : Int32) : Prop := (k = 1 ∧ B' = B ∧ ¬ inR y (tQ B)) ∨ (k = 2 ∧ B' = B ∧ inR y (tQ B) ∧ ¬ inR z 1000) ∨ (k = 0 ∧ B' = B ∧ ∃ q b, q < tQ B ∧ y = nI q ∧ b < 1000 ∧ z = nI b ∧ v = nI (hmB B q b))
theorem md_hands {Γ : GBase} (F : FB Γ) (S : PS) (m : Nat) (y z : Int32) (rr : Nat → Nat) (B : BT) (hI : MdI S m rr B) : GMet Γ yX6_hands cX6_hands 3 ((some FieldType.int)) 6 1 8 [.ref m, .int y, .int z] S (fun r S' => MdO S S' m rr (spHands B y z) r) noX := by
  have hB := hI.1
  have h5 := hB.v.2.1
  refine GMet.of (loc0 := [(0, .ref m), (1, .int y), (2, .int z)]) F (by decide +kernel) rfl (Nat.le_of_ble_eq_true rfl) (fun X C R Tb nm => ?_)
  refine g_aload_n C dX6_hands_0 rfl rfl ?_
  refine g_aload_n C dX6_hands_1 rfl rfl ?_
  refine g_iload_n C dX6_hands_2 rfl rfl ?_
  refine g_callV C gy_X6_isPlayer tw_6_95 tw_6_97 ts_48 (by decide) (kk := 6) rfl rfl (by exact hB.m) (md_isPlayer F S m (tQ B) y hB.m hB.q (by omega)) rfl rfl (Nat.le_of_ble_eq_true rfl) (by omega) (by omega) dX6_hands_3 (fun _ _ h9 => h9.elim) ?_
  rintro _ _ ⟨rfl, v, hv, rfl⟩
  refine g_if_eq C dX6_hands_6 (tgt := 17) (by decide) (fun c1 => ?_) (fun c1 => ?_)
  · refine g_iconst C dX6_hands_17 (v := 1) (by decide) ?_
    refine pu_Model_thrown C tw_5_89 (by exact hB.m) dX6_hands_18 ?_
    refine g_aload_n C dX6_hands_21 rfl rfl ?_
    refine ge_Model_thrown C tw_5_89 (by exact hB.m) (by exact uI_q) dX6_hands_22 ?_
    refine g_if_eq C dX6_hands_25 (tgt := 30) (by decide) (fun c2 => ?_) (fun c2 => ?_)
    · exact absurd c2 (by decide)
    · refine g_iconst C dX6_hands_28 (v := 0) (by decide) ?_
      refine g_iret C R rfl (by omega) (by omega) dX6_hands_29 ?_
      exact MdO.no1 (k := 1) hI (by decide) (fun v => Or.inl ⟨rfl, rfl, hv.neg c1⟩)
  · obtain ⟨i, hi, rfl⟩ := hv.pos c1
    refine g_aload_n C dX6_hands_9 rfl rfl ?_
    refine g_iload_n C dX6_hands_10 rfl rfl ?_
    refine g_callV C gy_X6_whyBeat tw_6_8 tw_6_10 ts_36 (by decide) (kk := 6) rfl rfl (by exact hB.m) (md_whyBeat F S m z) rfl rfl (Nat.le_of_ble_eq_true rfl) (by omega) (by omega) dX6_hands_11 (fun _ _ h9 => h9.elim) ?_
    rintro _ _ ⟨rfl, v2, hw, rfl⟩
    rcases hw with ⟨hz, rfl⟩ | ⟨hz, rfl⟩
    · obtain ⟨b, hb, rfl⟩ := hz
      refine g_goto C dX6_hands_14 (tgt := 18) (by decide) ?_
      refine pu_Model_thrown C tw_5_89 (by exact hB.m) dX6_hands_18 ?_
      refine g_aload_n C dX6_hands_21 rfl rfl ?_
      refine ge_Model_thrown C tw_5_89 (by exact hB.m) (by exact uI_q) dX6_hands_22 ?_
      refine g_if_eq C dX6_hands_25 (tgt := 30) (by decide) (fun c2 => ?_) (fun c2 => ?_)
      · refine g_aload_n C dX6_hands_30 rfl rfl ?_
        refine g_callV C gy_X6_workOut tw_6_12 tw_6_14 ts_37 (by decide) (kk := 6) rfl rfl (by exact hB.m) (md_workOut F _ m rr B (hI.thr 0)) rfl rfl (Nat.le_of_ble_eq_true rfl) (by omega) (by omega) dX6_hands_31 (fun _ _ h9 => h9.elim) ?_
        rintro _ _ ⟨rfl, hw⟩
        refine g_aload_n C dX6_hands_34 rfl rfl ?_
        refine g_iload_n C dX6_hands_35 rfl rfl ?_
        refine g_iload_n C dX6_hands_36 rfl rfl ?_
        refine g_callV C gy_X6_handsOf tw_6_99 tw_6_101 ts_49 (by decide) (kk := 6) rfl rfl (by exact hw.1.m) (md_handsOf F _ m i b rr B hw.1 hw.2.2.1 (by omega) hb) rfl rfl (Nat.le_of_ble_eq_true rfl) (by omega) (by omega) dX6_hands_37 (fun _ _ h9 => h9.elim) ?_
        rintro _ _ ⟨rfl, rfl⟩
        refine g_iret C R rfl (by omega) (by omega) dX6_hands_40 ?_
        exact MdO.ok hw FrM.i uI_q (Or.inr (Or.inr ⟨rfl, rfl, i, b, hi, rfl, hb, rfl, rfl⟩))
      · exact absurd rfl c2
    · refine g_goto C dX6_hands_14 (tgt := 18) (by decide) ?_
      refine pu_Model_thrown C tw_5_89 (by exact hB.m) dX6_hands_18 ?_
      refine g_aload_n C dX6_hands_21 rfl rfl ?_
      refine ge_Model_thrown C tw_5_89 (by exact hB.m) (by exact uI_q) dX6_hands_22 ?_
      refine g_if_eq C dX6_hands_25 (tgt := 30) (by decide) (fun c2 => ?_) (fun c2 => ?_)
      · exact absurd c2 (by decide)
      · refine g_iconst C dX6_hands_28 (v := 0) (by decide) ?_
        refine g_iret C R rfl (by omega) (by omega) dX6_hands_29 ?_
        exact MdO.no1 (k := 2) hI (by decide) (fun v => Or.inr (Or.inl ⟨rfl, rfl, ⟨i, hi, rfl⟩, hz⟩))
theorem md_loadOf {Γ : GBase} (F : FB Γ) (S : PS) (m q : Nat) (rr : Nat → Nat) (B : BT) (hB : MdB S m rr B) (hF : FreshV S rr B) (hq : q < 1000) : GMet Γ yX6_loadOf cX6_loadOf 4 ((some FieldType.int)) 2 0 0 [.ref m, .int (nI q)] S (fun r S' => S = S' ∧ r = some (.int (nI (ldB B q)))) noX := by
  have h8 := hB.v.1
  refine GMet.of (loc0 := [(0, .ref m), (1, .int (nI q))]) F (by decide +kernel) rfl (Nat.le_of_ble_eq_true rfl) (fun X C R Tb nm => ?_)
  have loop : ∀ (k b : Nat), b + k = 1000 → GW Γ X S 0 0 4 [(0, .ref m), (1, .int (nI q)), (2, .int (nI (cntN (fun b => hmB B q b != 0) b))), (3, .int (nI b))] [] := by
    intro k
    induction k with
    | zero =>
      intro b hb
      have eb : b = 1000 := by omega
      subst eb
      refine g_iload_n C dX6_loadOf_4 rfl rfl ?_
      refine g_sipush C dX6_loadOf_5 (v := 1000) (by decide) ?_
      refine g_icmp_ge C dX6_loadOf_8 (tgt := 34) (by decide) (fun c1 => ?_) (fun c1 => ?_)
      · refine g_iload_n C dX6_loadOf_34 rfl rfl ?_
        refine g_iret C R rfl (by omega) (by omega) dX6_loadOf_35 ?_
        exact ⟨rfl, rfl⟩
      · exact absurd (nI_le (a := 1000) (Nat.le_refl _) (by omega)) c1
    | succ k ih =>
      intro b hb
      have nx := ih (b + 1) (by omega)
      have hlt := hmB_lt h8 q b
      refine g_iload_n C dX6_loadOf_4 rfl rfl ?_
      refine g_sipush C dX6_loadOf_5 (v := 1000) (by decide) ?_
      refine g_icmp_ge C dX6_loadOf_8 (tgt := 34) (by decide) (fun c1 => ?_) (fun c1 => ?_)
      · exact absurd c1 (nI_ge (b := 1000) (by omega) (by omega))
      · refine g_iload_n C dX6_loadOf_11 rfl rfl ?_
        refine g_aload_n C dX6_loadOf_12 rfl rfl ?_
        refine g_iload_n C dX6_loadOf_13 rfl rfl ?_
        refine g_iload_n C dX6_loadOf_14 rfl rfl ?_
        refine g_callV C gy_X6_handsOf tw_6_99 tw_6_101 ts_49 (by decide) (kk := 6) rfl rfl (by exact hB.m) (md_handsOf F S m q b rr B hB hF hq (by omega)) rfl rfl (Nat.le_of_ble_eq_true rfl) (by omega) (by omega) dX6_loadOf_15 (fun _ _ h9 => h9.elim) ?_
        rintro _ _ ⟨rfl, rfl⟩
        refine g_if_ne C dX6_loadOf_18 (tgt := 25) (by decide) (fun c2 => ?_) (fun c2 => ?_)
        · have e : (hmB B q b != 0) = true := by
            have : hmB B q b ≠ 0 := fun h => c2 (by rw [h]; rfl)
            simp [this]
          refine g_iconst C dX6_loadOf_25 (v := 1) (by decide) ?_
          rw [show (1 : Int32) = nI 1 from rfl]
          refine g_iadd C dX6_loadOf_26 ?_
          rw [nI_add]
          refine g_istore_n C dX6_loadOf_27 rfl (by decide) rfl ?_
          refine g_iinc C dX6_loadOf_28 rfl (by first | exact inc1 _ | exact rfl) (by decide) rfl ?_
          refine g_goto C dX6_loadOf_31 (tgt := 4) (by decide) ?_
          simp only [cntN, e, if_true] at nx
          refine g_sub [(0, _), (1, _), (2, _), (3, _)] ⟨rfl, rfl, rfl, rfl, trivial⟩ ?_
          exact nx
        · have e : (hmB B q b != 0) = false := by
            have : hmB B q b = 0 := (nI_eq (b := 0) (by omega) (by omega)).mp c2
            simp [this]
          refine g_iconst C dX6_loadOf_21 (v := 0) (by decide) ?_
          refine g_goto C dX6_loadOf_22 (tgt := 26) (by decide) ?_
          rw [show (0 : Int32) = nI 0 from rfl]
          refine g_iadd C dX6_loadOf_26 ?_
          rw [nI_add]
          refine g_istore_n C dX6_loadOf_27 rfl (by decide) rfl ?_
          refine g_iinc C dX6_loadOf_28 rfl (by first | exact inc1 _ | exact rfl) (by decide) rfl ?_
          refine g_goto C dX6_loadOf_31 (tgt := 4) (by decide) ?_
          simp only [cntN, e] at nx
          refine g_sub [(0, _), (1, _), (2, _), (3, _)] ⟨rfl, rfl, rfl, rfl, trivial⟩ ?_
          exact nx
  refine g_iconst C dX6_loadOf_0 (v := 0) (by decide) ?_
  refine g_istore_n C dX6_loadOf_1 rfl (by decide) rfl ?_
  refine g_iconst C dX6_loadOf_2 (v := 0) (by decide) ?_
  refine g_istore_n C dX6_loadOf_3 rfl (by decide) rfl ?_
  refine g_sub [(0, _), (1, _), (2, _), (3, _)] ⟨rfl, rfl, rfl, rfl, trivial⟩ ?_
  exact loop 1000 0 (by omega)
def spLoad (B : BT) (y : Int32) (k : Nat) (B' : BT) (v : Int32) : Prop := (k = 1 ∧ B' = B ∧ ¬ inR y (tQ B)) ∨ (k = 0 ∧ B' = B ∧ ∃ q, q < tQ B ∧ y = nI q ∧ v = nI (ldB B q))
theorem md_load {Γ : GBase} (F : FB Γ) (S : PS) (m : Nat) (y : Int32) (rr : Nat → Nat) (B : BT) (hI : MdI S m rr B) : GMet Γ yX6_load cX6_load 2 ((some FieldType.int)) 6 1 8 [.ref m, .int y] S (fun r S' => MdO S S' m rr (spLoad B y) r) noX := by
  have hB1 : MdB (uI S 192 m 0) m rr B := (hI.thr 0).1
  have h5 := hB1.v.2.1
  refine GMet.of (loc0 := [(0, .ref m), (1, .int y)]) F (by decide +kernel) rfl (Nat.le_of_ble_eq_true rfl) (fun X C R Tb nm => ?_)
  refine g_aload_n C dX6_load_0 rfl rfl ?_
  refine g_iconst C dX6_load_1 (v := 0) (by decide) ?_
  refine pu_Model_thrown C tw_5_89 (by exact hI.1.m) dX6_load_2 ?_
  refine g_aload_n C dX6_load_5 rfl rfl ?_
  refine g_iload_n C dX6_load_6 rfl rfl ?_
  refine g_callV C gy_X6_isPlayer tw_6_95 tw_6_97 ts_48 (by decide) (kk := 6) rfl rfl (by exact hB1.m) (md_isPlayer F _ m (tQ B) y hB1.m hB1.q (by omega)) rfl rfl (Nat.le_of_ble_eq_true rfl) (by omega) (by omega) dX6_load_7 (fun _ _ h9 => h9.elim) ?_
  rintro _ _ ⟨rfl, v, hv, rfl⟩
  refine g_if_ne C dX6_load_10 (tgt := 19) (by decide) (fun c1 => ?_) (fun c1 => ?_)
  · obtain ⟨i, hi, rfl⟩ := hv.pos c1
    refine g_aload_n C dX6_load_19 rfl rfl ?_
    refine g_callV C gy_X6_workOut tw_6_12 tw_6_14 ts_37 (by decide) (kk := 6) rfl rfl (by exact hB1.m) (md_workOut F _ m rr B (hI.thr 0)) rfl rfl (Nat.le_of_ble_eq_true rfl) (by omega) (by omega) dX6_load_20 (fun _ _ h9 => h9.elim) ?_
    rintro _ _ ⟨rfl, hw⟩
    refine g_aload_n C dX6_load_23 rfl rfl ?_
    refine g_iload_n C dX6_load_24 rfl rfl ?_
    refine g_callV C gy_X6_loadOf tw_6_107 tw_6_109 ts_50 (by decide) (kk := 6) rfl rfl (by exact hw.1.m) (md_loadOf F _ m i rr B hw.1 hw.2.2.1 (by omega)) rfl rfl (Nat.le_of_ble_eq_true rfl) (by omega) (by omega) dX6_load_25 (fun _ _ h9 => h9.elim) ?_
    rintro _ _ ⟨rfl, rfl⟩
    refine g_iret C R rfl (by omega) (by omega) dX6_load_28 ?_
    exact MdO.ok hw FrM.i uI_q (Or.inr ⟨rfl, rfl, i, hi, rfl, rfl⟩)
  · refine g_aload_n C dX6_load_13 rfl rfl ?_
    refine g_iconst C dX6_load_14 (v := 1) (by decide) ?_
    refine g_callV C gy_X6_fail tw_5_168 tw_5_170 ts_26 (by decide) (kk := 6) rfl rfl (by exact hB1.m) (md_fail F _ m 1 hB1.m) rfl rfl (Nat.le_of_ble_eq_true rfl) (by omega) (by omega) dX6_load_15 (fun _ _ h9 => h9.elim) ?_
    rintro _ _ ⟨rfl, rfl⟩
    refine g_iret C R rfl (by omega) (by omega) dX6_load_18 ?_
    exact MdO.no (k := 1) hI (by decide) (fun v => Or.inl ⟨rfl, rfl, hv.neg c1⟩)
