/-! ===== paths: what a puppet's cues do to it; the class Path ===== -/
/-- a cue: kind, beat, place, track -/
abbrev D4 : Type := Nat × Nat × Nat × Nat
/-- where a puppet stands in its cues: not on stage, or entered at, track, from place, to place, from beat, to beat -/
abbrev PT : Type := Option (Nat × Nat × Nat × Nat × Nat × Nat)
def ndist (a b : Nat) : Nat := if a ≤ b then b - a else a - b
def pAllows (p : PT) (d : D4) : Bool := match p with
  | none => d.1 == 0
  | some (e, _, _, tp, _, tb) => !(d.1 == 0) && decide (tb ≤ d.2.1) && (if d.1 = 1 then decide (d.2.1 + ndist tp d.2.2.1 < 1000) else if d.1 = 3 then decide (e < d.2.1) else true)
def pFollow (p : PT) (d : D4) : PT :=
  if d.1 = 0 then some (d.2.1, d.2.2.2, d.2.2.1, d.2.2.1, d.2.1, d.2.1) else match p with
  | none => none
  | some (e, t, fp, tp, fb, tb) => if d.1 = 1 then some (e, t, tp, d.2.2.1, d.2.1, d.2.1 + ndist tp d.2.2.1) else if d.1 = 2 then some (e, d.2.2.2, fp, tp, fb, tb) else none
def plAt (p : PT) (b : Nat) : Option Nat := match p with
  | none => none
  | some (_, _, fp, tp, fb, tb) => some (if tb ≤ b then tp else if fp < tp then fp + (b - fb) else fp - (b - fb))
def trOf (p : PT) : Option Nat := match p with
  | none => none
  | some (_, t, _, _, _, _) => some t
/-- none is -1 -/
def zO (o : Option Nat) : Int32 := match o with
  | none => -1
  | some x => nI x
def okD (d : D4) : Prop := d.1 < 4 ∧ d.2.1 < 1000 ∧ (d.1 ≤ 1 → d.2.2.1 < 20) ∧ (d.1 = 0 ∨ d.1 = 2 → d.2.2.2 < 4)
def okP (p : PT) : Prop := match p with
  | none => True
  | some (e, t, fp, tp, fb, tb) => e < 1000 ∧ t < 4 ∧ fp < 20 ∧ tp < 20 ∧ fb < 1000 ∧ tb = fb + ndist fp tp
theorem okP_follow {p : PT} {d : D4} (hp : okP p) (hd : okD d) : okP (pFollow p d) := by
  obtain ⟨k, b, x, t⟩ := d
  obtain ⟨h1, h2, h3, h4⟩ := hd
  simp only at h1 h2 h3 h4
  unfold pFollow
  by_cases h0 : k = 0
  · subst h0
    have := h3 (by omega); have := h4 (Or.inl rfl)
    simp [okP, ndist]
    omega
  · simp only [if_neg h0]
    cases p with
    | none => trivial
    | some q =>
      obtain ⟨e, t', fp, tp, fb, tb⟩ := q
      simp only [okP] at hp
      obtain ⟨p1, p2, p3, p4, p5, p6⟩ := hp
      by_cases hk1 : k = 1
      · simp only [if_pos hk1, okP]
        have := h3 (by omega)
        exact ⟨p1, p2, p4, this, h2, trivial⟩
      · by_cases hk2 : k = 2
        · simp only [if_neg hk1, if_pos hk2, okP]
          exact ⟨p1, h4 (Or.inr hk2), p3, p4, p5, p6⟩
        · simp only [if_neg hk1, if_neg hk2, okP]
/-- a Cue object that says d -/
def CueObj (S : PS) (c : Nat) (d : D4) : Prop := al S c 0 ∧ pI S 0 c = nI d.1 ∧ pI S 2 c = nI d.2.1 ∧ (d.1 ≤ 1 → pI S 3 c = nI d.2.2.1) ∧ (d.1 = 0 ∨ d.1 = 2 → pI S 4 c = nI d.2.2.2) ∧ okD d
theorem CueObj.fr {S S' : PS} {mo ma : Nat → Nat → Prop} {c : Nat} {d : D4} (h : CueObj S c d) (hf : Fr S S' mo ma) (hm : ∀ f, f < 5 → ¬ mo f c) : CueObj S' c d := by
  obtain ⟨h1, h2, h3, h4, h5, h6⟩ := h
  have e := (hf c h1.1).2.2.2.2.1
  exact ⟨h1.fr hf, (e 0 (hm 0 (by decide))).1.trans h2, (e 2 (hm 2 (by decide))).1.trans h3, fun q => (e 3 (hm 3 (by decide))).1.trans (h4 q), fun q => (e 4 (hm 4 (by decide))).1.trans (h5 q), h6⟩
def PathIs (S : PS) (q : Nat) (p : PT) : Prop := al S q 1 ∧ okP p ∧ match p with
  | none => pI S 32 q = 0
  | some (e, t, fp, tp, fb, tb) => pI S 32 q = 1 ∧ pI S 33 q = nI e ∧ pI S 34 q = nI t ∧ pI S 35 q = nI fp ∧ pI S 36 q = nI tp ∧ pI S 37 q = nI fb ∧ pI S 38 q = nI tb
def moO (a : Nat) : Nat → Nat → Prop := fun _ b => b = a
def maN : Nat → Nat → Prop := fun _ _ => False
theorem jabs_sub {a b : Nat} (ha : a < 1000000) (hb : b < 1000000) : jabs (nI a - nI b) = nI (ndist a b) := by
  unfold jabs ndist
  by_cases h : b ≤ a
  · rw [pk_sub h, if_pos (nI_pos' (by omega))]
    by_cases h2 : a ≤ b
    · rw [if_pos h2]; congr 1; omega
    · rw [if_neg h2]
  · rw [if_pos (show a ≤ b by omega)]
    have h3 : nI a - nI b < 0 := pk_sneg (by omega) (by omega)
    rw [if_neg (fun q => by rw [Int32.le_iff_toInt_le, Int32.toInt_zero] at q; rw [Int32.lt_iff_toInt_lt, Int32.toInt_zero] at h3; omega)]
    rw [← pk_sub (show a ≤ b by omega)]
    apply Int32.toBitVec_inj.mp
    simp only [Int32.toBitVec_sub]
    apply BitVec.eq_of_toNat_eq
    simp only [BitVec.toNat_sub]
    have := (nI a).toBitVec.isLt
    have := (nI b).toBitVec.isLt
    have e0 : (0 : Int32).toBitVec.toNat = 0 := rfl
    omega
theorem ndist_le {a b : Nat} (ha : a < 20) (hb : b < 20) : ndist a b < 20 := by unfold ndist; split <;> omega
theorem m_distance {Γ : GBase} (F : FB Γ) (S : PS) (x y : Nat) (hx : x < 1000000) (hy : y < 1000000) : GMet Γ yX5_distance cX5_distance 2 ((some FieldType.int)) 0 0 0 [.int (nI x), .int (nI y)] S (fun r S' => r = some (.int (nI (ndist x y))) ∧ S = S') noX := by
  refine GMet.of (loc0 := [(0, .int (nI x)), (1, .int (nI y))]) F (by decide +kernel) rfl (Nat.le_of_ble_eq_true rfl) (fun X C R Tb nm => ?_)
  refine g_iload_n C dX5_distance_0 rfl rfl ?_
  refine g_iload_n C dX5_distance_1 rfl rfl ?_
  refine g_isub C dX5_distance_2 ?_
  refine g_abs C tw_2_78 (by simp [Value.category]) (by omega) (by omega) dX5_distance_3 ?_
  rw [jabs_sub hx hy]
  refine g_iret C R rfl (by omega) (by omega) dX5_distance_6 ?_
  exact ⟨rfl, rfl⟩
theorem m_Path_init {Γ : GBase} (F : FB Γ) (S : PS) (a : Nat) (ha : al S a 1) : GMet Γ yX1_init cX1_init 1 ((none : Option FieldType)) 1 0 0 [.ref a] S (fun r S' => r = none ∧ PathIs S' a none ∧ Fr S S' (moO a) maN) noX := by
  refine GMet.of (loc0 := [(0, .ref a)]) F (by decide +kernel) rfl (Nat.le_of_ble_eq_true rfl) (fun X C R Tb nm => ?_)
  refine g_aload_n C dX1_init_0 rfl rfl ?_
  refine g_objInit C tw_3_55 tw_1_28 tw_1_29 dX1_init_1 (by simp [Value.category]) ?_
  refine g_aload_n C dX1_init_4 rfl rfl ?_
  refine g_iconst C dX1_init_5 (v := 0) (by decide) ?_
  refine pu_Path_isOnStage C tw_3_56 (by exact ha) (by first | exact Or.inl rfl | exact Or.inr rfl) dX1_init_6 ?_
  refine g_aload_n C dX1_init_9 rfl rfl ?_
  refine g_iconst C dX1_init_10 (v := 0) (by decide) ?_
  refine pu_Path_enteredAt C tw_3_57 (by exact ha) dX1_init_11 ?_
  refine g_aload_n C dX1_init_14 rfl rfl ?_
  refine g_iconst C dX1_init_15 (v := -1) (by decide) ?_
  refine pu_Path_track C tw_3_58 (by exact ha) dX1_init_16 ?_
  refine g_aload_n C dX1_init_19 rfl rfl ?_
  refine g_iconst C dX1_init_20 (v := -1) (by decide) ?_
  refine pu_Path_fromPlace C tw_3_59 (by exact ha) dX1_init_21 ?_
  refine g_aload_n C dX1_init_24 rfl rfl ?_
  refine g_iconst C dX1_init_25 (v := -1) (by decide) ?_
  refine pu_Path_toPlace C tw_3_60 (by exact ha) dX1_init_26 ?_
  refine g_aload_n C dX1_init_29 rfl rfl ?_
  refine g_iconst C dX1_init_30 (v := 0) (by decide) ?_
  refine pu_Path_fromBeat C tw_3_61 (by exact ha) dX1_init_31 ?_
  refine g_aload_n C dX1_init_34 rfl rfl ?_
  refine g_iconst C dX1_init_35 (v := 0) (by decide) ?_
  refine pu_Path_toBeat C tw_3_62 (by exact ha) dX1_init_36 ?_
  refine g_vret C R (by omega) (by omega) dX1_init_39 ?_
  refine ⟨rfl, ⟨ha, trivial, ?_⟩, ?_⟩
  · rw [uI_ne (Or.inl (by decide)), uI_ne (Or.inl (by decide)), uI_ne (Or.inl (by decide)), uI_ne (Or.inl (by decide)), uI_ne (Or.inl (by decide)), uI_ne (Or.inl (by decide)), uI_q]
  · have t : ∀ {S1 S2 : PS}, Fr S S1 (moO a) maN → Fr S1 S2 (moO a) maN → Fr S S2 (moO a) maN := fun h1 h2 => h1.tr h2 (fun _ _ _ h => h.elim id id) (fun _ _ _ h => h.elim id id)
    exact t (t (t (t (t (t (fr_uI rfl) (fr_uI rfl)) (fr_uI rfl)) (fr_uI rfl)) (fr_uI rfl)) (fr_uI rfl)) (fr_uI rfl)
theorem m_walk {Γ : GBase} (F : FB Γ) (S : PS) (a x y b : Nat) (ha : al S a 1) (hx : x < 20) (hy : y < 20) : GMet Γ yX1_walk cX1_walk 4 ((none : Option FieldType)) 1 0 0 [.ref a, .int (nI x), .int (nI y), .int (nI b)] S (fun r S' => r = none ∧ S' = uI (uI (uI (uI S 35 a (nI x)) 36 a (nI y)) 37 a (nI b)) 38 a (nI (b + ndist x y))) noX := by
  refine GMet.of (loc0 := [(0, .ref a), (1, .int (nI x)), (2, .int (nI y)), (3, .int (nI b))]) F (by decide +kernel) rfl (Nat.le_of_ble_eq_true rfl) (fun X C R Tb nm => ?_)
  refine g_aload_n C dX1_walk_0 rfl rfl ?_
  refine g_iload_n C dX1_walk_1 rfl rfl ?_
  refine pu_Path_fromPlace C tw_3_59 (by exact ha) dX1_walk_2 ?_
  refine g_aload_n C dX1_walk_5 rfl rfl ?_
  refine g_iload_n C dX1_walk_6 rfl rfl ?_
  refine pu_Path_toPlace C tw_3_60 (by exact ha) dX1_walk_7 ?_
  refine g_aload_n C dX1_walk_10 rfl rfl ?_
  refine g_iload_n C dX1_walk_11 rfl rfl ?_
  refine pu_Path_fromBeat C tw_3_61 (by exact ha) dX1_walk_12 ?_
  refine g_aload_n C dX1_walk_15 rfl rfl ?_
  refine g_iload_n C dX1_walk_16 rfl rfl ?_
  refine g_iload_n C dX1_walk_17 rfl rfl ?_
  refine g_iload_n C dX1_walk_18 rfl rfl ?_
  refine g_callSN C gy_X5_distance tw_3_82 tw_2_76 (by decide) (m_distance F _ x y (by omega) (by omega)) rfl rfl (Nat.le_of_ble_eq_true rfl) (by omega) (by omega) dX1_walk_19 ?_
  rintro _ _ ⟨rfl, rfl⟩
  refine g_iadd C dX1_walk_22 ?_
  rw [nI_add]
  refine pu_Path_toBeat C tw_3_62 (by exact ha) dX1_walk_23 ?_
  refine g_vret C R (by omega) (by omega) dX1_walk_26 ?_
  exact ⟨rfl, rfl⟩
theorem Fr.trO {S S1 S2 : PS} {a : Nat} (h1 : Fr S S1 (moO a) maN) (h2 : Fr S1 S2 (moO a) maN) : Fr S S2 (moO a) maN := h1.tr h2 (fun _ _ _ h => h.elim id id) (fun _ _ _ h => h.elim id id)
theorem m_follow {Γ : GBase} (F : FB Γ) (S : PS) (a c : Nat) (p : PT) (d : D4) (hP : PathIs S a p) (hC : CueObj S c d) (hal : pAllows p d = true) : GMet Γ yX1_follow cX1_follow 2 ((none : Option FieldType)) 2 0 0 [.ref a, .ref c] S (fun r S' => r = none ∧ PathIs S' a (pFollow p d) ∧ Fr S S' (moO a) maN) noX := by
  obtain ⟨k, bt, pc, tr⟩ := d
  obtain ⟨hc1, hc2, hc3, hc4, hc5, hok⟩ := hC
  obtain ⟨ha, hokp, hp⟩ := hP
  have hok2 := okP_follow hokp hok
  have hca : c ≠ a := hc1.kne ha (by decide)
  have hk : k < 4 := hok.1
  simp only at hc2 hc3 hc4 hc5
  refine GMet.of (loc0 := [(0, .ref a), (1, .ref c)]) F (by decide +kernel) rfl (Nat.le_of_ble_eq_true rfl) (fun X C R Tb nm => ?_)
  refine g_aload_n C dX1_follow_0 rfl rfl ?_
  refine ge_Cue_kind C tw_2_239 (by exact hc1) (by exact hc2) dX1_follow_1 ?_
  have kx : ∀ i, k = i → (nI k).toInt = (i : Int) := fun i hi => by rw [hi, nI_toInt (by omega)]
  rcases (show k = 0 ∨ k = 1 ∨ k = 2 ∨ k = 3 by omega) with rfl | rfl | rfl | rfl
  · refine g_tableIn C dX1_follow_4 (by decide) (by decide) (off := 28) (by decide +kernel) (tgt := 32) (by decide) ?_
    have hx : pc < 20 := hok.2.2.1 (Nat.zero_le _)
    refine g_aload_n C dX1_follow_32 rfl rfl ?_
    refine g_iconst C dX1_follow_33 (v := 1) (by decide) ?_
    refine pu_Path_isOnStage C tw_3_56 (by exact ha) (by first | exact Or.inl rfl | exact Or.inr rfl) dX1_follow_34 ?_
    refine g_aload_n C dX1_follow_37 rfl rfl ?_
    refine g_aload_n C dX1_follow_38 rfl rfl ?_
    refine ge_Cue_beat C tw_3_5 (by exact hc1) (by exact (uI_ne (Or.inl (by decide))).trans hc3) dX1_follow_39 ?_
    refine pu_Path_enteredAt C tw_3_57 (by exact ha) dX1_follow_42 ?_
    refine g_aload_n C dX1_follow_45 rfl rfl ?_
    refine g_aload_n C dX1_follow_46 rfl rfl ?_
    refine ge_Cue_track C tw_3_9 (by exact hc1) (by exact (uI_ne (Or.inl (by decide))).trans ((uI_ne (Or.inl (by decide))).trans (hc5 (Or.inl rfl)))) dX1_follow_47 ?_
    refine pu_Path_track C tw_3_58 (by exact ha) dX1_follow_50 ?_
    refine g_aload_n C dX1_follow_53 rfl rfl ?_
    refine g_aload_n C dX1_follow_54 rfl rfl ?_
    refine ge_Cue_place C tw_3_7 (by exact hc1) (by exact (uI_ne (Or.inl (by decide))).trans ((uI_ne (Or.inl (by decide))).trans ((uI_ne (Or.inl (by decide))).trans (hc4 (by decide))))) dX1_follow_55 ?_
    refine g_aload_n C dX1_follow_58 rfl rfl ?_
    refine ge_Cue_place C tw_3_7 (by exact hc1) (by exact (uI_ne (Or.inl (by decide))).trans ((uI_ne (Or.inl (by decide))).trans ((uI_ne (Or.inl (by decide))).trans (hc4 (by decide))))) dX1_follow_59 ?_
    refine g_aload_n C dX1_follow_62 rfl rfl ?_
    refine ge_Cue_beat C tw_3_5 (by exact hc1) (by exact (uI_ne (Or.inl (by decide))).trans ((uI_ne (Or.inl (by decide))).trans ((uI_ne (Or.inl (by decide))).trans hc3))) dX1_follow_63 ?_
    refine g_callV C gy_X1_walk tw_3_87 tw_3_89 ts_17 (by decide) (kk := 1) rfl rfl (by exact ha) (m_walk F _ a pc pc bt ha hx hx) rfl rfl (Nat.le_of_ble_eq_true rfl) (by omega) (by omega) dX1_follow_66 (fun _ _ h9 => h9.elim) ?_
    rintro _ _ ⟨rfl, rfl⟩
    refine g_goto C dX1_follow_69 (tgt := 107) (by decide) ?_
    refine g_vret C R (by omega) (by omega) dX1_follow_107 ?_
    have e0 : ndist pc pc = 0 := by simp [ndist]
    rw [e0, Nat.add_zero]
    refine ⟨rfl, ⟨ha, hok2, ?_⟩, ?_⟩
    · simp only [pFollow, if_true]
      simp [uI_q, uI_ne, pI, uI]
    · exact Fr.trO (Fr.trO (Fr.trO (Fr.trO (Fr.trO (Fr.trO (fr_uI rfl) (fr_uI rfl)) (fr_uI rfl)) (fr_uI rfl)) (fr_uI rfl)) (fr_uI rfl)) (fr_uI rfl)
  · refine g_tableIn C dX1_follow_4 (by decide) (by decide) (off := 68) (by decide +kernel) (tgt := 72) (by decide) ?_
    have hx : pc < 20 := hok.2.2.1 (Nat.le_refl _)
    cases p with
    | none => exact absurd hal (by simp [pAllows])
    | some q =>
      obtain ⟨e, t, fp, tp, fb, tb⟩ := q
      obtain ⟨q1, q2, q3, q4, q5, q6, q7⟩ := hp
      refine g_aload_n C dX1_follow_72 rfl rfl ?_
      refine g_aload_n C dX1_follow_73 rfl rfl ?_
      refine ge_Path_toPlace C tw_3_60 (by exact ha) (by exact q5) dX1_follow_74 ?_
      refine g_aload_n C dX1_follow_77 rfl rfl ?_
      refine ge_Cue_place C tw_3_7 (by exact hc1) (by exact (hc4 (by decide))) dX1_follow_78 ?_
      refine g_aload_n C dX1_follow_81 rfl rfl ?_
      refine ge_Cue_beat C tw_3_5 (by exact hc1) (by exact hc3) dX1_follow_82 ?_
      refine g_callV C gy_X1_walk tw_3_87 tw_3_89 ts_17 (by decide) (kk := 1) rfl rfl (by exact ha) (m_walk F _ a tp pc bt ha hokp.2.2.2.1 hx) rfl rfl (Nat.le_of_ble_eq_true rfl) (by omega) (by omega) dX1_follow_85 (fun _ _ h9 => h9.elim) ?_
      rintro _ _ ⟨rfl, rfl⟩
      refine g_goto C dX1_follow_88 (tgt := 107) (by decide) ?_
      refine g_vret C R (by omega) (by omega) dX1_follow_107 ?_
      refine ⟨rfl, ⟨ha, hok2, ?_⟩, ?_⟩
      · simp only [pFollow]
        simp [pI, uI] at q1 q2 q3 ⊢
        exact ⟨q1, q2, q3⟩
      · exact Fr.trO (Fr.trO (Fr.trO (fr_uI rfl) (fr_uI rfl)) (fr_uI rfl)) (fr_uI rfl)
  · refine g_tableIn C dX1_follow_4 (by decide) (by decide) (off := 87) (by decide +kernel) (tgt := 91) (by decide) ?_
    cases p with
    | none => exact absurd hal (by simp [pAllows])
    | some q =>
      obtain ⟨e, t, fp, tp, fb, tb⟩ := q
      obtain ⟨q1, q2, q3, q4, q5, q6, q7⟩ := hp
      refine g_aload_n C dX1_follow_91 rfl rfl ?_
      refine g_aload_n C dX1_follow_92 rfl rfl ?_
      refine ge_Cue_track C tw_3_9 (by exact hc1) (by exact (hc5 (Or.inr rfl))) dX1_follow_93 ?_
      refine pu_Path_track C tw_3_58 (by exact ha) dX1_follow_96 ?_
      refine g_goto C dX1_follow_99 (tgt := 107) (by decide) ?_
      refine g_vret C R (by omega) (by omega) dX1_follow_107 ?_
      refine ⟨rfl, ⟨ha, hok2, ?_⟩, fr_uI rfl⟩
      simp only [pFollow]
      simp [pI, uI] at q1 q2 q4 q5 q6 q7 ⊢
      exact ⟨q1, q2, q4, q5, q6, q7⟩
  · refine g_tableOut C dX1_follow_4 (Or.inr (by decide)) (tgt := 102) (by decide) ?_
    refine g_aload_n C dX1_follow_102 rfl rfl ?_
    refine g_iconst C dX1_follow_103 (v := 0) (by decide) ?_
    refine pu_Path_isOnStage C tw_3_56 (by exact ha) (by first | exact Or.inl rfl | exact Or.inr rfl) dX1_follow_104 ?_
    refine g_vret C R (by omega) (by omega) dX1_follow_107 ?_
    refine ⟨rfl, ⟨ha, hok2, ?_⟩, fr_uI rfl⟩
    cases p with
    | none => exact uI_q
    | some q =>
      obtain ⟨e, t, fp, tp, fb, tb⟩ := q
      exact uI_q
theorem m_allows {Γ : GBase} (F : FB Γ) (S : PS) (a c : Nat) (p : PT) (d : D4) (hP : PathIs S a p) (hC : CueObj S c d) : GMet Γ yX1_allows cX1_allows 2 ((some FieldType.boolean)) 1 0 0 [.ref a, .ref c] S (fun r S' => r = some (.int (if pAllows p d then 1 else 0)) ∧ S = S') noX := by
  obtain ⟨k, bt, pc, tr⟩ := d
  obtain ⟨hc1, hc2, hc3, hc4, hc5, hok⟩ := hC
  obtain ⟨ha, hokp, hp⟩ := hP
  obtain ⟨hk, hb, hx, -⟩ := hok
  simp only at hc2 hc3 hc4 hc5 hk hb hx
  refine GMet.of (loc0 := [(0, .ref a), (1, .ref c)]) F (by decide +kernel) rfl (Nat.le_of_ble_eq_true rfl) (fun X C R Tb nm => ?_)
  refine g_aload_n C dX1_allows_0 rfl rfl ?_
  refine ge_Cue_kind C tw_2_239 (by exact hc1) (by exact hc2) dX1_allows_1 ?_
  refine g_if_ne C dX1_allows_4 (tgt := 20) (by decide) (fun c0 => ?_) (fun c0 => ?_)
  · have hk0 : k ≠ 0 := fun q => c0 (by rw [q]; rfl)
    cases p with
    | none =>
      refine g_aload_n C dX1_allows_20 rfl rfl ?_
      refine ge_Path_isOnStage C tw_3_56 (by exact ha) (by exact hp) dX1_allows_21 ?_
      refine g_if_eq C dX1_allows_24 (tgt := 38) (by decide) (fun c1 => ?_) (fun c1 => ?_)
      · refine g_iconst C dX1_allows_38 (v := 0) (by decide) ?_
        refine g_iret C R rfl (by omega) (by omega) dX1_allows_39 ?_
        refine ⟨?_, rfl⟩
        rw [if_neg (by simp [pAllows, hk0])]
      · exact absurd rfl c1
    | some q =>
      obtain ⟨e, t, fp, tp, fb, tb⟩ := q
      obtain ⟨q1, q2, q3, q4, q5, q6, q7⟩ := hp
      obtain ⟨p1, p2, p3, p4, p5, p6⟩ := hokp
      have htb : tb < 2000 := by have := ndist_le p3 p4; omega
      refine g_aload_n C dX1_allows_20 rfl rfl ?_
      refine ge_Path_isOnStage C tw_3_56 (by exact ha) (by exact q1) dX1_allows_21 ?_
      refine g_if_eq C dX1_allows_24 (tgt := 38) (by decide) (fun c1 => ?_) (fun c1 => ?_)
      · exact absurd c1 (by decide)
      · refine g_aload_n C dX1_allows_27 rfl rfl ?_
        refine ge_Cue_beat C tw_3_5 (by exact hc1) (by exact hc3) dX1_allows_28 ?_
        refine g_aload_n C dX1_allows_31 rfl rfl ?_
        refine ge_Path_toBeat C tw_3_62 (by exact ha) (by exact q7) dX1_allows_32 ?_
        refine g_icmp_ge C dX1_allows_35 (tgt := 40) (by decide) (fun c2 => ?_) (fun c2 => ?_)
        · have hge : tb ≤ bt := (nI_leI (by omega) (by omega)).mp c2
          refine g_aload_n C dX1_allows_40 rfl rfl ?_
          refine ge_Cue_kind C tw_2_239 (by exact hc1) (by exact hc2) dX1_allows_41 ?_
          refine g_iconst C dX1_allows_44 (v := 1) (by decide) ?_
          rw [show (1 : Int32) = nI 1 from rfl]
          refine g_icmp_ne C dX1_allows_45 (tgt := 76) (by decide) (fun c3 => ?_) (fun c3 => ?_)
          · have hk1 : k ≠ 1 := fun q => c3 (by rw [q])
            refine g_aload_n C dX1_allows_76 rfl rfl ?_
            refine ge_Cue_kind C tw_2_239 (by exact hc1) (by exact hc2) dX1_allows_77 ?_
            refine g_iconst C dX1_allows_80 (v := 3) (by decide) ?_
            rw [show (3 : Int32) = nI 3 from rfl]
            refine g_icmp_ne C dX1_allows_81 (tgt := 95) (by decide) (fun c4 => ?_) (fun c4 => ?_)
            · have hk3 : k ≠ 3 := fun q => c4 (by rw [q])
              refine g_iconst C dX1_allows_95 (v := 1) (by decide) ?_
              refine g_goto C dX1_allows_96 (tgt := 100) (by decide) ?_
              refine g_iret C R rfl (by omega) (by omega) dX1_allows_100 ?_
              refine ⟨?_, rfl⟩
              rw [if_pos (by simp [pAllows, hk0, hk1, hk3, hge])]
            · have hk3 : k = 3 := (nI_eq (by omega) (by omega)).mp c4
              refine g_aload_n C dX1_allows_84 rfl rfl ?_
              refine ge_Cue_beat C tw_3_5 (by exact hc1) (by exact hc3) dX1_allows_85 ?_
              refine g_aload_n C dX1_allows_88 rfl rfl ?_
              refine ge_Path_enteredAt C tw_3_57 (by exact ha) (by exact q2) dX1_allows_89 ?_
              refine g_icmp_le C dX1_allows_92 (tgt := 99) (by decide) (fun c5 => ?_) (fun c5 => ?_)
              · have h5 : bt ≤ e := (nI_leI (by omega) (by omega)).mp c5
                refine g_iconst C dX1_allows_99 (v := 0) (by decide) ?_
                refine g_iret C R rfl (by omega) (by omega) dX1_allows_100 ?_
                refine ⟨?_, rfl⟩
                rw [if_neg (by simp [pAllows, hk0, hk1, hk3, hge]; omega)]
              · have h5 : e < bt := by
                  rcases Nat.lt_or_ge e bt with q | q
                  · exact q
                  · exact absurd (nI_le q (by omega)) c5
                refine g_iconst C dX1_allows_95 (v := 1) (by decide) ?_
                refine g_goto C dX1_allows_96 (tgt := 100) (by decide) ?_
                refine g_iret C R rfl (by omega) (by omega) dX1_allows_100 ?_
                refine ⟨?_, rfl⟩
                rw [if_pos (by simp [pAllows, hk0, hk1, hk3, hge]; omega)]
          · have hk1 : k = 1 := (nI_eq (by omega) (by omega)).mp c3
            have hx20 := hx (by omega)
            have hnd := ndist_le p4 hx20
            refine g_aload_n C dX1_allows_48 rfl rfl ?_
            refine ge_Cue_beat C tw_3_5 (by exact hc1) (by exact hc3) dX1_allows_49 ?_
            refine g_aload_n C dX1_allows_52 rfl rfl ?_
            refine ge_Path_toPlace C tw_3_60 (by exact ha) (by exact q5) dX1_allows_53 ?_
            refine g_aload_n C dX1_allows_56 rfl rfl ?_
            refine ge_Cue_place C tw_3_7 (by exact hc1) (by exact (hc4 (by omega))) dX1_allows_57 ?_
            refine g_callSN C gy_X5_distance tw_3_82 tw_2_76 (by decide) (m_distance F S tp pc (by omega) (by omega)) rfl rfl (Nat.le_of_ble_eq_true rfl) (by omega) (by omega) dX1_allows_60 ?_
            rintro _ _ ⟨rfl, rfl⟩
            refine g_iadd C dX1_allows_63 ?_
            rw [nI_add]
            refine g_sipush C dX1_allows_64 (v := 1000) (by decide) ?_
            rw [show (1000 : Int32) = nI 1000 from rfl]
            refine g_icmp_ge C dX1_allows_67 (tgt := 74) (by decide) (fun c4 => ?_) (fun c4 => ?_)
            · have h4 : 1000 ≤ bt + ndist tp pc := (nI_leI (by omega) (by omega)).mp c4
              refine g_iconst C dX1_allows_74 (v := 0) (by decide) ?_
              refine g_iret C R rfl (by omega) (by omega) dX1_allows_75 ?_
              refine ⟨?_, rfl⟩
              rw [if_neg (by simp [pAllows, hk0, hk1, hge]; omega)]
            · have h4 : bt + ndist tp pc < 1000 := by
                rcases Nat.lt_or_ge (bt + ndist tp pc) 1000 with q | q
                · exact q
                · exact absurd (nI_le q (by omega)) c4
              refine g_iconst C dX1_allows_70 (v := 1) (by decide) ?_
              refine g_goto C dX1_allows_71 (tgt := 75) (by decide) ?_
              refine g_iret C R rfl (by omega) (by omega) dX1_allows_75 ?_
              refine ⟨?_, rfl⟩
              rw [if_pos (by simp [pAllows, hk0, hk1, hge]; omega)]
        · have hlt : bt < tb := by
            rcases Nat.lt_or_ge bt tb with q | q
            · exact q
            · exact absurd (nI_le q (by omega)) c2
          refine g_iconst C dX1_allows_38 (v := 0) (by decide) ?_
          refine g_iret C R rfl (by omega) (by omega) dX1_allows_39 ?_
          refine ⟨?_, rfl⟩
          rw [if_neg (by simp [pAllows, hk0]; omega)]
  · have hk0 : k = 0 := by
      rcases Nat.eq_zero_or_pos k with q | q
      · exact q
      · exact absurd c0 (nI_ne0 q (by omega))
    subst hk0
    cases p with
    | none =>
      refine g_aload_n C dX1_allows_7 rfl rfl ?_
      refine ge_Path_isOnStage C tw_3_56 (by exact ha) (by exact hp) dX1_allows_8 ?_
      refine g_if_ne C dX1_allows_11 (tgt := 18) (by decide) (fun c1 => ?_) (fun c1 => ?_)
      · exact absurd rfl c1
      · refine g_iconst C dX1_allows_14 (v := 1) (by decide) ?_
        refine g_goto C dX1_allows_15 (tgt := 19) (by decide) ?_
        refine g_iret C R rfl (by omega) (by omega) dX1_allows_19 ?_
        exact ⟨rfl, rfl⟩
    | some q =>
      obtain ⟨e, t, fp, tp, fb, tb⟩ := q
      refine g_aload_n C dX1_allows_7 rfl rfl ?_
      refine ge_Path_isOnStage C tw_3_56 (by exact ha) (by exact hp.1) dX1_allows_8 ?_
      refine g_if_ne C dX1_allows_11 (tgt := 18) (by decide) (fun c1 => ?_) (fun c1 => ?_)
      · refine g_iconst C dX1_allows_18 (v := 0) (by decide) ?_
        refine g_iret C R rfl (by omega) (by omega) dX1_allows_19 ?_
        exact ⟨rfl, rfl⟩
      · exact absurd c1 (by decide)
theorem m_placeAtBeat {Γ : GBase} (F : FB Γ) (S : PS) (a b : Nat) (p : PT) (hP : PathIs S a p) (hb : b < 1000) (hfb : ∀ e t fp tp fb tb, p = some (e, t, fp, tp, fb, tb) → fb ≤ b) : GMet Γ yX1_placeAtBeat cX1_placeAtBeat 3 ((some FieldType.int)) 0 0 0 [.ref a, .int (nI b)] S (fun r S' => r = some (.int (zO (plAt p b))) ∧ S = S') noX := by
  obtain ⟨ha, hokp, hp⟩ := hP
  refine GMet.of (loc0 := [(0, .ref a), (1, .int (nI b))]) F (by decide +kernel) rfl (Nat.le_of_ble_eq_true rfl) (fun X C R Tb nm => ?_)
  cases p with
  | none =>
    refine g_aload_n C dX1_placeAtBeat_0 rfl rfl ?_
    refine ge_Path_isOnStage C tw_3_56 (by exact ha) (by exact hp) dX1_placeAtBeat_1 ?_
    refine g_if_ne C dX1_placeAtBeat_4 (tgt := 9) (by decide) (fun c => ?_) (fun c => ?_)
    · exact absurd rfl c
    · refine g_iconst C dX1_placeAtBeat_7 (v := -1) (by decide) ?_
      refine g_iret C R rfl (by omega) (by omega) dX1_placeAtBeat_8 ?_
      exact ⟨rfl, rfl⟩
  | some q =>
    obtain ⟨e, t, fp, tp, fb, tb⟩ := q
    obtain ⟨q1, q2, q3, q4, q5, q6, q7⟩ := hp
    obtain ⟨p1, p2, p3, p4, p5, p6⟩ := hokp
    have hfb' := hfb _ _ _ _ _ _ rfl
    have htb : tb < 2000 := by have := ndist_le p3 p4; omega
    refine g_aload_n C dX1_placeAtBeat_0 rfl rfl ?_
    refine ge_Path_isOnStage C tw_3_56 (by exact ha) (by exact q1) dX1_placeAtBeat_1 ?_
    refine g_if_ne C dX1_placeAtBeat_4 (tgt := 9) (by decide) (fun c => ?_) (fun c => ?_)
    · refine g_iload_n C dX1_placeAtBeat_9 rfl rfl ?_
      refine g_aload_n C dX1_placeAtBeat_10 rfl rfl ?_
      refine ge_Path_toBeat C tw_3_62 (by exact ha) (by exact q7) dX1_placeAtBeat_11 ?_
      refine g_icmp_lt C dX1_placeAtBeat_14 (tgt := 22) (by decide) (fun c2 => ?_) (fun c2 => ?_)
      · have h2 : b < tb := (nI_ltI (by omega) (by omega)).mp c2
        refine g_iload_n C dX1_placeAtBeat_22 rfl rfl ?_
        refine g_aload_n C dX1_placeAtBeat_23 rfl rfl ?_
        refine ge_Path_fromBeat C tw_3_61 (by exact ha) (by exact q6) dX1_placeAtBeat_24 ?_
        refine g_isub C dX1_placeAtBeat_27 ?_
        rw [pk_sub hfb']
        refine g_istore_n C dX1_placeAtBeat_28 rfl (by decide) rfl ?_
        refine g_aload_n C dX1_placeAtBeat_29 rfl rfl ?_
        refine ge_Path_fromPlace C tw_3_59 (by exact ha) (by exact q4) dX1_placeAtBeat_30 ?_
        refine g_aload_n C dX1_placeAtBeat_33 rfl rfl ?_
        refine ge_Path_toPlace C tw_3_60 (by exact ha) (by exact q5) dX1_placeAtBeat_34 ?_
        refine g_icmp_ge C dX1_placeAtBeat_37 (tgt := 49) (by decide) (fun c3 => ?_) (fun c3 => ?_)
        · have h3 : tp ≤ fp := (nI_leI (by omega) (by omega)).mp c3
          have h4 : tb = fb + (fp - tp) := by rw [p6]; unfold ndist; split <;> omega
          refine g_aload_n C dX1_placeAtBeat_49 rfl rfl ?_
          refine ge_Path_fromPlace C tw_3_59 (by exact ha) (by exact q4) dX1_placeAtBeat_50 ?_
          refine g_iload_n C dX1_placeAtBeat_53 rfl rfl ?_
          refine g_isub C dX1_placeAtBeat_54 ?_
          rw [pk_sub (by omega)]
          refine g_iret C R rfl (by omega) (by omega) dX1_placeAtBeat_55 ?_
          refine ⟨?_, rfl⟩
          simp only [plAt, zO]
          rw [if_neg (by omega), if_neg (by omega)]
        · have h3 : fp < tp := by
            rcases Nat.lt_or_ge fp tp with q | q
            · exact q
            · exact absurd (nI_le q (by omega)) c3
          refine g_aload_n C dX1_placeAtBeat_40 rfl rfl ?_
          refine ge_Path_fromPlace C tw_3_59 (by exact ha) (by exact q4) dX1_placeAtBeat_41 ?_
          refine g_iload_n C dX1_placeAtBeat_44 rfl rfl ?_
          refine g_iadd C dX1_placeAtBeat_45 ?_
          rw [nI_add]
          refine g_goto C dX1_placeAtBeat_46 (tgt := 55) (by decide) ?_
          refine g_iret C R rfl (by omega) (by omega) dX1_placeAtBeat_55 ?_
          refine ⟨?_, rfl⟩
          simp only [plAt, zO]
          rw [if_neg (by omega), if_pos h3]
      · have h2 : tb ≤ b := by
          rcases Nat.lt_or_ge b tb with q | q
          · exact absurd (nI_lt q (by omega)) c2
          · exact q
        refine g_aload_n C dX1_placeAtBeat_17 rfl rfl ?_
        refine ge_Path_toPlace C tw_3_60 (by exact ha) (by exact q5) dX1_placeAtBeat_18 ?_
        refine g_iret C R rfl (by omega) (by omega) dX1_placeAtBeat_21 ?_
        refine ⟨?_, rfl⟩
        simp only [plAt, zO]
        rw [if_pos h2]
    · exact absurd c (by decide)
theorem m_trackNow {Γ : GBase} (F : FB Γ) (S : PS) (a : Nat) (p : PT) (hP : PathIs S a p) : GMet Γ yX1_trackNow cX1_trackNow 1 ((some FieldType.int)) 0 0 0 [.ref a] S (fun r S' => r = some (.int (zO (trOf p))) ∧ S = S') noX := by
  obtain ⟨ha, hokp, hp⟩ := hP
  refine GMet.of (loc0 := [(0, .ref a)]) F (by decide +kernel) rfl (Nat.le_of_ble_eq_true rfl) (fun X C R Tb nm => ?_)
  cases p with
  | none =>
    refine g_aload_n C dX1_trackNow_0 rfl rfl ?_
    refine ge_Path_isOnStage C tw_3_56 (by exact ha) (by exact hp) dX1_trackNow_1 ?_
    refine g_if_eq C dX1_trackNow_4 (tgt := 14) (by decide) (fun c => ?_) (fun c => ?_)
    · refine g_iconst C dX1_trackNow_14 (v := -1) (by decide) ?_
      refine g_iret C R rfl (by omega) (by omega) dX1_trackNow_15 ?_
      exact ⟨rfl, rfl⟩
    · exact absurd rfl c
  | some q =>
    obtain ⟨e, t, fp, tp, fb, tb⟩ := q
    obtain ⟨q1, q2, q3, q4, q5, q6, q7⟩ := hp
    refine g_aload_n C dX1_trackNow_0 rfl rfl ?_
    refine ge_Path_isOnStage C tw_3_56 (by exact ha) (by exact q1) dX1_trackNow_1 ?_
    refine g_if_eq C dX1_trackNow_4 (tgt := 14) (by decide) (fun c => ?_) (fun c => ?_)
    · exact absurd c (by decide)
    · refine g_aload_n C dX1_trackNow_7 rfl rfl ?_
      refine ge_Path_track C tw_3_58 (by exact ha) (by exact q3) dX1_trackNow_8 ?_
      refine g_goto C dX1_trackNow_11 (tgt := 15) (by decide) ?_
      refine g_iret C R rfl (by omega) (by omega) dX1_trackNow_15 ?_
      exact ⟨rfl, rfl⟩
