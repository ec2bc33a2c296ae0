theorem newCue {Γ : GBase} {S S2 : PS} {x q : Nat} {A : AD} {B : BT} (hI : BkI Γ S x A B) (hq : q ∉ pL S) (hf : Fr (nO S q 0) S2 (moO q) maN) : BkI Γ S2 x A B ∧ FrB S S2 ∧ al S2 q 0 ∧ ∀ i, i < tC B → dC A i ≠ q := by
  have h0 : Fr S S2 maN maN := Fr.tr (mo := maN) (ma := maN) (fr_new hq) hf (fun f b hb h => by
    rcases h with h | h
    · exact h
    · have h : b = q := h
      rw [h] at hb; exact hq hb) (fun o b _ h => h.elim id id)
  refine ⟨hI.frA h0 (fun _ _ _ _ _ h => h) (fun _ _ _ _ _ h => h), FrB.of h0 (fun _ _ _ h => h) (fun _ _ _ h => h), al_nO.fr hf, fun i hi e => ?_⟩
  have := (hI.2.2.2.2.2.2.2.2.2.1.2 i hi).1.1.1
  rw [e] at this
  exact hq this
theorem DidW.tr {Γ : GBase} {S S2 S' : PS} {x p : Nat} {A : AD} {B : BT} {d : D4} {r : Option Value} (h : DidW Γ S2 S' x A B p d r) (hf : FrB S S2) : DidW Γ S S' x A B p d r := ⟨h.1, h.2.1, h.2.2.1, h.2.2.2.1, hf.tr h.2.2.2.2⟩
theorem NotW.tr {Γ : GBase} {S S2 S' : PS} {x p : Nat} {A : AD} {B : BT} {d : D4} (h : NotW Γ S2 S' x A B p d) (hf : FrB S S2) : NotW Γ S S' x A B p d := ⟨h.1, h.2.1, hf.tr h.2.2⟩
theorem CueA.init {S : PS} {c a : Nat} {d : D4} {x0 x2 x3 x4 : Int32} (hd : okD d) (hc : al S c 0) (h : pI S 0 c = x0 ∧ pP S 1 c = some a ∧ pI S 2 c = x2 ∧ pI S 3 c = x3 ∧ pI S 4 c = x4 ∧ pI S 5 c = 0 ∧ pI S 6 c = 0 ∧ pI S 7 c = 0 ∧ pI S 8 c = 0) (e0 : x0 = nI d.1) (e2 : x2 = nI d.2.1) (e3 : x3 = if d.1 ≤ 1 then nI d.2.2.1 else -1) (e4 : x4 = if d.1 = 0 ∨ d.1 = 2 then nI d.2.2.2 else -1) : CueA S c a d false 0 0 0 := by
  obtain ⟨h0, h1, h2, h3, h4, h5, h6, h7, h8⟩ := h
  refine ⟨⟨hc, h0.trans e0, h2.trans e2, fun h => ?_, fun h => ?_, hd⟩, h1, h5, h6, h7, h8, fun h => ?_, fun h => ?_⟩
  · rw [h3, e3, if_pos h]
  · rw [h4, e4, if_pos h]
  · rw [h3, e3, if_neg h]
  · rw [h4, e4, if_neg h]
theorem m_enter {Γ : GBase} (F : FB Γ) (S : PS) (x : Nat) (y yb yl yt : Int32) (A : AD) (B : BT) (hI : BkI Γ S x A B) : GMet Γ yX5_enter cX5_enter 6 ((some FieldType.int)) 10 91 4440 [.ref x, .int y, .int yb, .int yl, .int yt] S (fun r S' => ∃ p b l t, p < tN B ∧ y = nI p ∧ b < 1000 ∧ yb = nI b ∧ l < 20 ∧ yl = nI l ∧ t < 4 ∧ yt = nI t ∧ DidW Γ S S' x A B p (0, b, l, t) r) (fun E S' => (S = S' ∧ ((E = xIOB ∧ ¬ inR y (tN B)) ∨ (E = xIAE ∧ inR y (tN B) ∧ ¬ (inR yb 1000 ∧ inR yl 20 ∧ inR yt 4)))) ∨ (E = xISE ∧ ∃ p b l t, p < tN B ∧ y = nI p ∧ b < 1000 ∧ yb = nI b ∧ l < 20 ∧ yl = nI l ∧ t < 4 ∧ yt = nI t ∧ NotW Γ S S' x A B p (0, b, l, t))) := by
  have hI0 := hI
  obtain ⟨hx, hL, -, -, -, -, -, hP, -, -, hV⟩ := hI
  refine GMet.of (loc0 := [(0, .ref x), (1, .int y), (2, .int yb), (3, .int yl), (4, .int yt)]) F (by decide +kernel) rfl (Nat.le_of_ble_eq_true rfl) (fun X C R Tb nm => ?_)
  refine g_aload_n C dX5_enter_0 rfl rfl ?_
  refine g_iload_n C dX5_enter_1 rfl rfl ?_
  refine g_callV C gy_X5_puppetNumbered tw_1_85 tw_1_87 ts_0 (by decide) (kk := 5) rfl rfl (by exact hx) (m_puppetNumbered F S x y _ _ _ hx hL hP.al) rfl rfl (Nat.le_of_ble_eq_true rfl) (by omega) (by omega) dX5_enter_2 (fun _ _ h9 => g_out C R Tb (by omega) (by omega) (Or.inl ⟨h9.2.1, Or.inl ⟨h9.1, h9.2.2⟩⟩)) ?_
  rintro _ _ ⟨rfl, p, hp, hyp, rfl⟩
  refine g_astore C dX5_enter_5 (by decide) rfl ?_
  refine g_iload_n C dX5_enter_7 rfl rfl ?_
  refine g_callS C gy_X5_requireBeat tw_1_176 tw_1_177 (by decide) (m_requireBeat F S yb) rfl rfl (Nat.le_of_ble_eq_true rfl) (by omega) (by omega) dX5_enter_8 (fun _ _ h9 => g_out C R Tb (by omega) (by omega) (Or.inl ⟨h9.2.1, Or.inr ⟨h9.1, ⟨p, hp, hyp⟩, fun h => h9.2.2 h.1⟩⟩)) ?_
  rintro _ _ ⟨⟨rfl, rfl⟩, b, hb, hyb⟩
  refine g_iload_n C dX5_enter_11 rfl rfl ?_
  refine g_callS C gy_X5_requirePlace tw_2_196 tw_2_197 (by decide) (m_requirePlace F S yl) rfl rfl (Nat.le_of_ble_eq_true rfl) (by omega) (by omega) dX5_enter_12 (fun _ _ h9 => g_out C R Tb (by omega) (by omega) (Or.inl ⟨h9.2.1, Or.inr ⟨h9.1, ⟨p, hp, hyp⟩, fun h => h9.2.2 h.2.1⟩⟩)) ?_
  rintro _ _ ⟨⟨rfl, rfl⟩, l, hl, hyl⟩
  refine g_iload C dX5_enter_15 rfl ?_
  refine g_callS C gy_X5_requireTrack tw_2_228 tw_2_229 (by decide) (m_requireTrack F S yt) rfl rfl (Nat.le_of_ble_eq_true rfl) (by omega) (by omega) dX5_enter_17 (fun _ _ h9 => g_out C R Tb (by omega) (by omega) (Or.inl ⟨h9.2.1, Or.inr ⟨h9.1, ⟨p, hp, hyp⟩, fun h => h9.2.2 h.2.2⟩⟩)) ?_
  rintro _ _ ⟨⟨rfl, rfl⟩, t, ht, hyt⟩
  refine g_aload_n C dX5_enter_20 rfl rfl ?_
  refine g_new C kd_0 tw_2_232 tw_2_233 tw_1_19 (by omega) (by omega) dX5_enter_21 (fun q hq => ?_)
  refine g_dup C dX5_enter_24 rfl ?_
  refine g_iconst C dX5_enter_25 (v := 0) (by decide) ?_
  refine g_aload C dX5_enter_26 rfl ?_
  refine g_iload_n C dX5_enter_28 rfl rfl ?_
  refine g_iload_n C dX5_enter_29 rfl rfl ?_
  refine g_iload C dX5_enter_30 rfl ?_
  refine g_callI C gy_X0_init tw_2_234 tw_2_235 rfl rfl (by decide) (m_Cue_init F _ q (dP A p) 0 yb yl yt al_nO) rfl rfl (Nat.le_of_ble_eq_true rfl) (by omega) (by omega) dX5_enter_32 ?_
  rintro _ _ ⟨rfl, hf, hfi⟩
  rename_i S2
  have hd : okD (0, b, l, t) := ⟨(show (0 : Nat) < 4 by decide), hb, fun _ => hl, fun _ => ht⟩
  obtain ⟨hI2, hB2, hq2, hnew⟩ := newCue hI0 (by assumption) hf
  have hca : CueA S2 q (dP A p) (0, b, l, t) false 0 0 0 := CueA.init hd hq2 hfi rfl hyb hyl hyt
  refine g_callV C gy_X5_write tw_3_33 tw_3_35 ts_15 (by decide) (kk := 5) rfl rfl (by exact hI2.1) (m_write F S2 x q p A B (0, b, l, t) hI2 hp hca hnew) rfl rfl (Nat.le_of_ble_eq_true rfl) (by omega) (by omega) dX5_enter_35 (fun _ _ h9 => g_out C R Tb (by omega) (by omega) (Or.inr ⟨h9.1, p, b, l, t, hp, hyp, hb, hyb, hl, hyl, ht, hyt, h9.2.tr hB2⟩)) ?_
  rintro _ _ hW
  obtain ⟨w1, w2, rfl, w4⟩ := hW
  refine g_iret C R rfl (by omega) (by omega) dX5_enter_38 ?_
  exact ⟨p, b, l, t, hp, hyp, hb, hyb, hl, hyl, ht, hyt, DidW.tr ⟨w1, w2, rfl, w4⟩ hB2⟩
theorem m_move {Γ : GBase} (F : FB Γ) (S : PS) (x : Nat) (y yb yl : Int32) (A : AD) (B : BT) (hI : BkI Γ S x A B) : GMet Γ yX5_move cX5_move 5 ((some FieldType.int)) 10 91 4440 [.ref x, .int y, .int yb, .int yl] S (fun r S' => ∃ p b l, p < tN B ∧ y = nI p ∧ b < 1000 ∧ yb = nI b ∧ l < 20 ∧ yl = nI l ∧ DidW Γ S S' x A B p (1, b, l, 0) r) (fun E S' => (S = S' ∧ ((E = xIOB ∧ ¬ inR y (tN B)) ∨ (E = xIAE ∧ inR y (tN B) ∧ ¬ (inR yb 1000 ∧ inR yl 20)))) ∨ (E = xISE ∧ ∃ p b l, p < tN B ∧ y = nI p ∧ b < 1000 ∧ yb = nI b ∧ l < 20 ∧ yl = nI l ∧ NotW Γ S S' x A B p (1, b, l, 0))) := by
  have hI0 := hI
  obtain ⟨hx, hL, -, -, -, -, -, hP, -, -, hV⟩ := hI
  refine GMet.of (loc0 := [(0, .ref x), (1, .int y), (2, .int yb), (3, .int yl)]) F (by decide +kernel) rfl (Nat.le_of_ble_eq_true rfl) (fun X C R Tb nm => ?_)
  refine g_aload_n C dX5_move_0 rfl rfl ?_
  refine g_iload_n C dX5_move_1 rfl rfl ?_
  refine g_callV C gy_X5_puppetNumbered tw_1_85 tw_1_87 ts_0 (by decide) (kk := 5) rfl rfl (by exact hx) (m_puppetNumbered F S x y _ _ _ hx hL hP.al) rfl rfl (Nat.le_of_ble_eq_true rfl) (by omega) (by omega) dX5_move_2 (fun _ _ h9 => g_out C R Tb (by omega) (by omega) (Or.inl ⟨h9.2.1, Or.inl ⟨h9.1, h9.2.2⟩⟩)) ?_
  rintro _ _ ⟨rfl, p, hp, hyp, rfl⟩
  refine g_astore C dX5_move_5 (by decide) rfl ?_
  refine g_iload_n C dX5_move_7 rfl rfl ?_
  refine g_callS C gy_X5_requireBeat tw_1_176 tw_1_177 (by decide) (m_requireBeat F S yb) rfl rfl (Nat.le_of_ble_eq_true rfl) (by omega) (by omega) dX5_move_8 (fun _ _ h9 => g_out C R Tb (by omega) (by omega) (Or.inl ⟨h9.2.1, Or.inr ⟨h9.1, ⟨p, hp, hyp⟩, fun h => h9.2.2 h.1⟩⟩)) ?_
  rintro _ _ ⟨⟨rfl, rfl⟩, b, hb, hyb⟩
  refine g_iload_n C dX5_move_11 rfl rfl ?_
  refine g_callS C gy_X5_requirePlace tw_2_196 tw_2_197 (by decide) (m_requirePlace F S yl) rfl rfl (Nat.le_of_ble_eq_true rfl) (by omega) (by omega) dX5_move_12 (fun _ _ h9 => g_out C R Tb (by omega) (by omega) (Or.inl ⟨h9.2.1, Or.inr ⟨h9.1, ⟨p, hp, hyp⟩, fun h => h9.2.2 h.2⟩⟩)) ?_
  rintro _ _ ⟨⟨rfl, rfl⟩, l, hl, hyl⟩
  refine g_aload_n C dX5_move_15 rfl rfl ?_
  refine g_new C kd_0 tw_2_232 tw_2_233 tw_1_19 (by omega) (by omega) dX5_move_16 (fun q hq => ?_)
  refine g_dup C dX5_move_19 rfl ?_
  refine g_iconst C dX5_move_20 (v := 1) (by decide) ?_
  refine g_aload C dX5_move_21 rfl ?_
  refine g_iload_n C dX5_move_23 rfl rfl ?_
  refine g_iload_n C dX5_move_24 rfl rfl ?_
  refine g_iconst C dX5_move_25 (v := -1) (by decide) ?_
  refine g_callI C gy_X0_init tw_2_234 tw_2_235 rfl rfl (by decide) (m_Cue_init F _ q (dP A p) 1 yb yl (-1) al_nO) rfl rfl (Nat.le_of_ble_eq_true rfl) (by omega) (by omega) dX5_move_26 ?_
  rintro _ _ ⟨rfl, hf, hfi⟩
  rename_i S2
  have hd : okD (1, b, l, 0) := ⟨(show (1 : Nat) < 4 by decide), hb, fun _ => hl, fun _ => (show (0 : Nat) < 4 by decide)⟩
  obtain ⟨hI2, hB2, hq2, hnew⟩ := newCue hI0 (by assumption) hf
  have hca : CueA S2 q (dP A p) (1, b, l, 0) false 0 0 0 := CueA.init hd hq2 hfi rfl hyb hyl rfl
  refine g_callV C gy_X5_write tw_3_33 tw_3_35 ts_15 (by decide) (kk := 5) rfl rfl (by exact hI2.1) (m_write F S2 x q p A B (1, b, l, 0) hI2 hp hca hnew) rfl rfl (Nat.le_of_ble_eq_true rfl) (by omega) (by omega) dX5_move_29 (fun _ _ h9 => g_out C R Tb (by omega) (by omega) (Or.inr ⟨h9.1, p, b, l, hp, hyp, hb, hyb, hl, hyl, h9.2.tr hB2⟩)) ?_
  rintro _ _ hW
  obtain ⟨w1, w2, rfl, w4⟩ := hW
  refine g_iret C R rfl (by omega) (by omega) dX5_move_32 ?_
  exact ⟨p, b, l, hp, hyp, hb, hyb, hl, hyl, DidW.tr ⟨w1, w2, rfl, w4⟩ hB2⟩
theorem m_shift {Γ : GBase} (F : FB Γ) (S : PS) (x : Nat) (y yb yt : Int32) (A : AD) (B : BT) (hI : BkI Γ S x A B) : GMet Γ yX5_shift cX5_shift 5 ((some FieldType.int)) 10 91 4440 [.ref x, .int y, .int yb, .int yt] S (fun r S' => ∃ p b t, p < tN B ∧ y = nI p ∧ b < 1000 ∧ yb = nI b ∧ t < 4 ∧ yt = nI t ∧ DidW Γ S S' x A B p (2, b, 0, t) r) (fun E S' => (S = S' ∧ ((E = xIOB ∧ ¬ inR y (tN B)) ∨ (E = xIAE ∧ inR y (tN B) ∧ ¬ (inR yb 1000 ∧ inR yt 4)))) ∨ (E = xISE ∧ ∃ p b t, p < tN B ∧ y = nI p ∧ b < 1000 ∧ yb = nI b ∧ t < 4 ∧ yt = nI t ∧ NotW Γ S S' x A B p (2, b, 0, t))) := by
  have hI0 := hI
  obtain ⟨hx, hL, -, -, -, -, -, hP, -, -, hV⟩ := hI
  refine GMet.of (loc0 := [(0, .ref x), (1, .int y), (2, .int yb), (3, .int yt)]) F (by decide +kernel) rfl (Nat.le_of_ble_eq_true rfl) (fun X C R Tb nm => ?_)
  refine g_aload_n C dX5_shift_0 rfl rfl ?_
  refine g_iload_n C dX5_shift_1 rfl rfl ?_
  refine g_callV C gy_X5_puppetNumbered tw_1_85 tw_1_87 ts_0 (by decide) (kk := 5) rfl rfl (by exact hx) (m_puppetNumbered F S x y _ _ _ hx hL hP.al) rfl rfl (Nat.le_of_ble_eq_true rfl) (by omega) (by omega) dX5_shift_2 (fun _ _ h9 => g_out C R Tb (by omega) (by omega) (Or.inl ⟨h9.2.1, Or.inl ⟨h9.1, h9.2.2⟩⟩)) ?_
  rintro _ _ ⟨rfl, p, hp, hyp, rfl⟩
  refine g_astore C dX5_shift_5 (by decide) rfl ?_
  refine g_iload_n C dX5_shift_7 rfl rfl ?_
  refine g_callS C gy_X5_requireBeat tw_1_176 tw_1_177 (by decide) (m_requireBeat F S yb) rfl rfl (Nat.le_of_ble_eq_true rfl) (by omega) (by omega) dX5_shift_8 (fun _ _ h9 => g_out C R Tb (by omega) (by omega) (Or.inl ⟨h9.2.1, Or.inr ⟨h9.1, ⟨p, hp, hyp⟩, fun h => h9.2.2 h.1⟩⟩)) ?_
  rintro _ _ ⟨⟨rfl, rfl⟩, b, hb, hyb⟩
  refine g_iload_n C dX5_shift_11 rfl rfl ?_
  refine g_callS C gy_X5_requireTrack tw_2_228 tw_2_229 (by decide) (m_requireTrack F S yt) rfl rfl (Nat.le_of_ble_eq_true rfl) (by omega) (by omega) dX5_shift_12 (fun _ _ h9 => g_out C R Tb (by omega) (by omega) (Or.inl ⟨h9.2.1, Or.inr ⟨h9.1, ⟨p, hp, hyp⟩, fun h => h9.2.2 h.2⟩⟩)) ?_
  rintro _ _ ⟨⟨rfl, rfl⟩, t, ht, hyt⟩
  refine g_aload_n C dX5_shift_15 rfl rfl ?_
  refine g_new C kd_0 tw_2_232 tw_2_233 tw_1_19 (by omega) (by omega) dX5_shift_16 (fun q hq => ?_)
  refine g_dup C dX5_shift_19 rfl ?_
  refine g_iconst C dX5_shift_20 (v := 2) (by decide) ?_
  refine g_aload C dX5_shift_21 rfl ?_
  refine g_iload_n C dX5_shift_23 rfl rfl ?_
  refine g_iconst C dX5_shift_24 (v := -1) (by decide) ?_
  refine g_iload_n C dX5_shift_25 rfl rfl ?_
  refine g_callI C gy_X0_init tw_2_234 tw_2_235 rfl rfl (by decide) (m_Cue_init F _ q (dP A p) 2 yb (-1) yt al_nO) rfl rfl (Nat.le_of_ble_eq_true rfl) (by omega) (by omega) dX5_shift_26 ?_
  rintro _ _ ⟨rfl, hf, hfi⟩
  rename_i S2
  have hd : okD (2, b, 0, t) := ⟨(show (2 : Nat) < 4 by decide), hb, fun _ => (show (0 : Nat) < 20 by decide), fun _ => ht⟩
  obtain ⟨hI2, hB2, hq2, hnew⟩ := newCue hI0 (by assumption) hf
  have hca : CueA S2 q (dP A p) (2, b, 0, t) false 0 0 0 := CueA.init hd hq2 hfi rfl hyb rfl hyt
  refine g_callV C gy_X5_write tw_3_33 tw_3_35 ts_15 (by decide) (kk := 5) rfl rfl (by exact hI2.1) (m_write F S2 x q p A B (2, b, 0, t) hI2 hp hca hnew) rfl rfl (Nat.le_of_ble_eq_true rfl) (by omega) (by omega) dX5_shift_29 (fun _ _ h9 => g_out C R Tb (by omega) (by omega) (Or.inr ⟨h9.1, p, b, t, hp, hyp, hb, hyb, ht, hyt, h9.2.tr hB2⟩)) ?_
  rintro _ _ hW
  obtain ⟨w1, w2, rfl, w4⟩ := hW
  refine g_iret C R rfl (by omega) (by omega) dX5_shift_32 ?_
  exact ⟨p, b, t, hp, hyp, hb, hyb, ht, hyt, DidW.tr ⟨w1, w2, rfl, w4⟩ hB2⟩
theorem m_leave {Γ : GBase} (F : FB Γ) (S : PS) (x : Nat) (y yb : Int32) (A : AD) (B : BT) (hI : BkI Γ S x A B) : GMet Γ yX5_leave cX5_leave 4 ((some FieldType.int)) 10 91 4440 [.ref x, .int y, .int yb] S (fun r S' => ∃ p b, p < tN B ∧ y = nI p ∧ b < 1000 ∧ yb = nI b ∧ DidW Γ S S' x A B p (3, b, 0, 0) r) (fun E S' => (S = S' ∧ ((E = xIOB ∧ ¬ inR y (tN B)) ∨ (E = xIAE ∧ inR y (tN B) ∧ ¬ inR yb 1000))) ∨ (E = xISE ∧ ∃ p b, p < tN B ∧ y = nI p ∧ b < 1000 ∧ yb = nI b ∧ NotW Γ S S' x A B p (3, b, 0, 0))) := by
  have hI0 := hI
  obtain ⟨hx, hL, -, -, -, -, -, hP, -, -, hV⟩ := hI
  refine GMet.of (loc0 := [(0, .ref x), (1, .int y), (2, .int yb)]) F (by decide +kernel) rfl (Nat.le_of_ble_eq_true rfl) (fun X C R Tb nm => ?_)
  refine g_aload_n C dX5_leave_0 rfl rfl ?_
  refine g_iload_n C dX5_leave_1 rfl rfl ?_
  refine g_callV C gy_X5_puppetNumbered tw_1_85 tw_1_87 ts_0 (by decide) (kk := 5) rfl rfl (by exact hx) (m_puppetNumbered F S x y _ _ _ hx hL hP.al) rfl rfl (Nat.le_of_ble_eq_true rfl) (by omega) (by omega) dX5_leave_2 (fun _ _ h9 => g_out C R Tb (by omega) (by omega) (Or.inl ⟨h9.2.1, Or.inl ⟨h9.1, h9.2.2⟩⟩)) ?_
  rintro _ _ ⟨rfl, p, hp, hyp, rfl⟩
  refine g_astore_n C dX5_leave_5 rfl (by decide) rfl ?_
  refine g_iload_n C dX5_leave_6 rfl rfl ?_
  refine g_callS C gy_X5_requireBeat tw_1_176 tw_1_177 (by decide) (m_requireBeat F S yb) rfl rfl (Nat.le_of_ble_eq_true rfl) (by omega) (by omega) dX5_leave_7 (fun _ _ h9 => g_out C R Tb (by omega) (by omega) (Or.inl ⟨h9.2.1, Or.inr ⟨h9.1, ⟨p, hp, hyp⟩, fun h => h9.2.2 h⟩⟩)) ?_
  rintro _ _ ⟨⟨rfl, rfl⟩, b, hb, hyb⟩
  refine g_aload_n C dX5_leave_10 rfl rfl ?_
  refine g_new C kd_0 tw_2_232 tw_2_233 tw_1_19 (by omega) (by omega) dX5_leave_11 (fun q hq => ?_)
  refine g_dup C dX5_leave_14 rfl ?_
  refine g_iconst C dX5_leave_15 (v := 3) (by decide) ?_
  refine g_aload_n C dX5_leave_16 rfl rfl ?_
  refine g_iload_n C dX5_leave_17 rfl rfl ?_
  refine g_iconst C dX5_leave_18 (v := -1) (by decide) ?_
  refine g_iconst C dX5_leave_19 (v := -1) (by decide) ?_
  refine g_callI C gy_X0_init tw_2_234 tw_2_235 rfl rfl (by decide) (m_Cue_init F _ q (dP A p) 3 yb (-1) (-1) al_nO) rfl rfl (Nat.le_of_ble_eq_true rfl) (by omega) (by omega) dX5_leave_20 ?_
  rintro _ _ ⟨rfl, hf, hfi⟩
  rename_i S2
  have hd : okD (3, b, 0, 0) := ⟨(show (3 : Nat) < 4 by decide), hb, fun _ => (show (0 : Nat) < 20 by decide), fun _ => (show (0 : Nat) < 4 by decide)⟩
  obtain ⟨hI2, hB2, hq2, hnew⟩ := newCue hI0 (by assumption) hf
  have hca : CueA S2 q (dP A p) (3, b, 0, 0) false 0 0 0 := CueA.init hd hq2 hfi rfl hyb rfl rfl
  refine g_callV C gy_X5_write tw_3_33 tw_3_35 ts_15 (by decide) (kk := 5) rfl rfl (by exact hI2.1) (m_write F S2 x q p A B (3, b, 0, 0) hI2 hp hca hnew) rfl rfl (Nat.le_of_ble_eq_true rfl) (by omega) (by omega) dX5_leave_23 (fun _ _ h9 => g_out C R Tb (by omega) (by omega) (Or.inr ⟨h9.1, p, b, hp, hyp, hb, hyb, h9.2.tr hB2⟩)) ?_
  rintro _ _ hW
  obtain ⟨w1, w2, rfl, w4⟩ := hW
  refine g_iret C R rfl (by omega) (by omega) dX5_leave_26 ?_
  exact ⟨p, b, hp, hyp, hb, hyb, DidW.tr ⟨w1, w2, rfl, w4⟩ hB2⟩
