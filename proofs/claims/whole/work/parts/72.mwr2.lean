def gdW (κ : Nat) (yb yl yt : Int32) : Prop := inR yb 1000 ∧ (κ ≤ 1 → inR yl 20) ∧ (κ = 0 ∨ κ = 2 → inR yt 4)
def wdW (κ : Nat) (yb yl yt : Int32) (d : D4) : Prop := okD d ∧ d.1 = κ ∧ yb = nI d.2.1 ∧ (κ ≤ 1 → yl = nI d.2.2.1) ∧ (¬ κ ≤ 1 → d.2.2.1 = 0) ∧ (κ = 0 ∨ κ = 2 → yt = nI d.2.2.2) ∧ (¬ (κ = 0 ∨ κ = 2) → d.2.2.2 = 0)
def spWr (κ : Nat) (B : BT) (y yb yl yt : Int32) (k : Nat) (B' : BT) (v : Int32) : Prop := (k = 1 ∧ B' = B ∧ ¬ inR y (tN B)) ∨ (k = 2 ∧ B' = B ∧ inR y (tN B) ∧ ¬ gdW κ yb yl yt) ∨ ∃ p d, p < tN B ∧ y = nI p ∧ wdW κ yb yl yt d ∧ spW B p d k B' v
theorem md_written {Γ : GBase} (F : FB Γ) (S : PS) (m κ : Nat) (y yb yl yt : Int32) (rr : Nat → Nat) (B : BT) (hI : MdI S m rr B) (hκ : κ < 4) (hl : ¬ κ ≤ 1 → yl = -1) (ht : ¬ (κ = 0 ∨ κ = 2) → yt = -1) : GMet Γ yX6_written cX6_written 8 ((some FieldType.int)) 5 0 0 [.ref m, .int (nI κ), .int y, .int yb, .int yl, .int yt] S (fun r S' => MdO S S' m rr (spWr κ B y yb yl yt) r) noX := by
  have hI1 := hI.thr 0
  have h8 := hI.1.v.1
  refine GMet.of (loc0 := [(0, .ref m), (1, .int (nI κ)), (2, .int y), (3, .int yb), (4, .int yl), (5, .int yt)]) F (by decide +kernel) rfl (Nat.le_of_ble_eq_true rfl) (fun X C R Tb nm => ?_)
  refine g_aload_n C dX6_written_0 rfl rfl ?_
  refine g_iconst C dX6_written_1 (v := 0) (by decide) ?_
  refine pu_Model_thrown C tw_5_89 (by exact hI.1.m) dX6_written_2 ?_
  refine g_aload_n C dX6_written_5 rfl rfl ?_
  refine g_iload_n C dX6_written_6 rfl rfl ?_
  refine g_callV C gy_X6_isPuppet tw_5_184 tw_5_186 ts_28 (by decide) (kk := 6) rfl rfl (by exact hI1.1.m) (md_isPuppet F _ m (tN B) y hI1.1.m hI1.1.n h8) rfl rfl (Nat.le_of_ble_eq_true rfl) (by omega) (by omega) dX6_written_7 (fun _ _ h9 => h9.elim) ?_
  rintro _ _ ⟨rfl, v, hv, rfl⟩
  refine g_if_ne C dX6_written_10 (tgt := 19) (by decide) (fun c1 => ?_) (fun c1 => ?_)
  · obtain ⟨p, hp, rfl⟩ := hv.pos c1
    have at66 : ¬ gdW κ yb yl yt → GW Γ X (uI S 192 m 0) 0 0 66 [(0, .ref m), (1, .int (nI κ)), (2, .int (nI p)), (3, .int yb), (4, .int yl), (5, .int yt)] [] := by
      intro hg
      refine g_iconst C dX6_written_66 (v := 0) (by decide) ?_
      refine g_istore C dX6_written_67 (by decide) rfl ?_
      refine g_iload C dX6_written_69 rfl ?_
      refine g_if_ne C dX6_written_71 (tgt := 80) (by decide) (fun d1 => ?_) (fun d1 => ?_)
      · exact absurd rfl d1
      · refine g_aload_n C dX6_written_74 rfl rfl ?_
        refine g_iconst C dX6_written_75 (v := 2) (by decide) ?_
        refine g_callV C gy_X6_fail tw_5_168 tw_5_170 ts_26 (by decide) (kk := 6) rfl rfl (by exact hI1.1.m) (md_fail F _ m 2 hI1.1.m) rfl rfl (Nat.le_of_ble_eq_true rfl) (by omega) (by omega) dX6_written_76 (fun _ _ h9 => h9.elim) ?_
        rintro _ _ ⟨rfl, rfl⟩
        refine g_iret C R rfl (by omega) (by omega) dX6_written_79 ?_
        exact MdO.no (k := 2) hI (by decide) (fun v => Or.inr (Or.inl ⟨rfl, rfl, ⟨p, hp, rfl⟩, hg⟩))
    have at62 : gdW κ yb yl yt → GW Γ X (uI S 192 m 0) 0 0 62 [(0, .ref m), (1, .int (nI κ)), (2, .int (nI p)), (3, .int yb), (4, .int yl), (5, .int yt)] [] := by
      intro hg
      refine g_iconst C dX6_written_62 (v := 1) (by decide) ?_
      refine g_goto C dX6_written_63 (tgt := 67) (by decide) ?_
      refine g_istore C dX6_written_67 (by decide) rfl ?_
      refine g_iload C dX6_written_69 rfl ?_
      refine g_if_ne C dX6_written_71 (tgt := 80) (by decide) (fun d1 => ?_) (fun d1 => ?_)
      · obtain ⟨⟨b, hb, rfl⟩, hg2, hg3⟩ := hg
        obtain ⟨l, hl1, hl2, hl3⟩ : ∃ l, (κ ≤ 1 → l < 20) ∧ (κ ≤ 1 → yl = nI l) ∧ (¬ κ ≤ 1 → l = 0) := by
          by_cases q : κ ≤ 1
          · obtain ⟨l, q1, q2⟩ := hg2 q
            exact ⟨l, fun _ => q1, fun _ => q2, fun h => absurd q h⟩
          · exact ⟨0, fun h => absurd h q, fun h => absurd h q, fun _ => rfl⟩
        obtain ⟨t, ht1, ht2, ht3⟩ : ∃ t, (κ = 0 ∨ κ = 2 → t < 4) ∧ (κ = 0 ∨ κ = 2 → yt = nI t) ∧ (¬ (κ = 0 ∨ κ = 2) → t = 0) := by
          by_cases q : κ = 0 ∨ κ = 2
          · obtain ⟨l, q1, q2⟩ := hg3 q
            exact ⟨l, fun _ => q1, fun _ => q2, fun h => absurd q h⟩
          · exact ⟨0, fun h => absurd h q, fun h => absurd h q, fun _ => rfl⟩
        have el : yl = cueW (p, (κ, b, l, t)) 3 := by
          by_cases q : κ ≤ 1
          · exact (hl2 q).trans (cueW_3 (u := (p, (κ, b, l, t))) q).symm
          · rw [hl q]
            simp [cueW, q]
        have et : yt = cueW (p, (κ, b, l, t)) 4 := by
          by_cases q : κ = 0 ∨ κ = 2
          · exact (ht2 q).trans (cueW_4 (u := (p, (κ, b, l, t))) q).symm
          · rw [ht q]
            simp [cueW, q]
        have hod : okD (κ, b, l, t) := ⟨hκ, hb, hl1, ht1⟩
        have e1 := md_wr (d := (κ, b, l, t)) (sp := spWr κ B (nI p) (nI b) yl yt) F hI hp hod (fun k B' v h => Or.inr (Or.inr ⟨p, (κ, b, l, t), hp, rfl, ⟨hod, rfl, rfl, hl2, hl3, ht2, ht3⟩, h⟩)) C R
        rw [← el, ← et] at e1
        refine g_sub [(0, _), (1, _), (2, _), (3, _), (4, _), (5, _)] ⟨rfl, rfl, rfl, rfl, rfl, rfl, trivial⟩ ?_
        exact e1
      · exact absurd d1 (by decide)
    have at42 : inR yb 1000 → (κ ≤ 1 → inR yl 20) → GW Γ X (uI S 192 m 0) 0 0 42 [(0, .ref m), (1, .int (nI κ)), (2, .int (nI p)), (3, .int yb), (4, .int yl), (5, .int yt)] [] := by
      intro g1 g2
      refine g_iload_n C dX6_written_42 rfl rfl ?_
      refine g_iconst C dX6_written_43 (v := 1) (by decide) ?_
      refine g_icmp_eq C dX6_written_44 (tgt := 62) (by decide) (fun d1 => ?_) (fun d1 => ?_)
      · have e := (nI_eq (b := 1) (by omega) (by omega)).mp d1
        exact at62 ⟨g1, g2, fun h => by omega⟩
      · have n1 : κ ≠ 1 := fun e => d1 (by rw [e]; rfl)
        refine g_iload_n C dX6_written_47 rfl rfl ?_
        refine g_iconst C dX6_written_48 (v := 3) (by decide) ?_
        refine g_icmp_eq C dX6_written_49 (tgt := 62) (by decide) (fun d2 => ?_) (fun d2 => ?_)
        · have e := (nI_eq (b := 3) (by omega) (by omega)).mp d2
          exact at62 ⟨g1, g2, fun h => by omega⟩
        · have n3 : κ ≠ 3 := fun e => d2 (by rw [e]; rfl)
          refine g_iload C dX6_written_52 rfl ?_
          refine g_iconst C dX6_written_54 (v := 0) (by decide) ?_
          refine g_iconst C dX6_written_55 (v := 3) (by decide) ?_
          refine g_callS C gy_X6_isIn tw_5_165 tw_5_166 (by decide) (md_isIn F _ yt 0 3) rfl rfl (Nat.le_of_ble_eq_true rfl) (by omega) (by omega) dX6_written_56 (fun _ _ h9 => h9.elim) ?_
          rintro _ _ ⟨rfl, v2, hv2, rfl⟩
          rw [show (3 : Int32) = nI 4 - 1 from by decide, inR_in (by omega)] at hv2
          refine g_if_eq C dX6_written_59 (tgt := 66) (by decide) (fun d3 => ?_) (fun d3 => ?_)
          · exact at66 (fun h => hv2.neg d3 (h.2.2 (by omega)))
          · refine g_sub [(0, _), (1, _), (2, _), (3, _), (4, _), (5, _)] ⟨rfl, rfl, rfl, rfl, rfl, rfl, trivial⟩ ?_
            exact at62 ⟨g1, g2, fun _ => hv2.pos d3⟩
    refine g_iload_n C dX6_written_19 rfl rfl ?_
    refine g_callS C gy_X6_isBeat tw_5_188 tw_5_189 (by decide) (md_isBeat F _ yb) rfl rfl (Nat.le_of_ble_eq_true rfl) (by omega) (by omega) dX6_written_20 (fun _ _ h9 => h9.elim) ?_
    rintro _ _ ⟨rfl, v1, hv1, rfl⟩
    refine g_if_eq C dX6_written_23 (tgt := 66) (by decide) (fun c2 => ?_) (fun c2 => ?_)
    · exact at66 (fun h => hv1.neg c2 h.1)
    · have g1 := hv1.pos c2
      refine g_iload_n C dX6_written_26 rfl rfl ?_
      refine g_iconst C dX6_written_27 (v := 1) (by decide) ?_
      refine g_icmp_gt C dX6_written_28 (tgt := 42) (by decide) (fun c3 => ?_) (fun c3 => ?_)
      · have := (nI_ltI (a := 1) (by omega) (by omega)).mp c3
        exact at42 g1 (fun h => by omega)
      · have hle : κ ≤ 1 := by
          rcases Nat.lt_or_ge 1 κ with w | w
          · exact absurd (nI_lt (a := 1) w (by omega)) c3
          · exact w
        refine g_iload C dX6_written_31 rfl ?_
        refine g_iconst C dX6_written_33 (v := 0) (by decide) ?_
        refine g_bipush C dX6_written_34 (v := 19) (by decide) ?_
        refine g_callS C gy_X6_isIn tw_5_165 tw_5_166 (by decide) (md_isIn F _ yl 0 19) rfl rfl (Nat.le_of_ble_eq_true rfl) (by omega) (by omega) dX6_written_36 (fun _ _ h9 => h9.elim) ?_
        rintro _ _ ⟨rfl, v2, hv2, rfl⟩
        rw [show (19 : Int32) = nI 20 - 1 from by decide, inR_in (by omega)] at hv2
        refine g_if_eq C dX6_written_39 (tgt := 66) (by decide) (fun c4 => ?_) (fun c4 => ?_)
        · exact at66 (fun h => hv2.neg c4 (h.2.1 hle))
        · refine g_sub [(0, _), (1, _), (2, _), (3, _), (4, _), (5, _)] ⟨rfl, rfl, rfl, rfl, rfl, rfl, trivial⟩ ?_
          exact at42 g1 (fun _ => hv2.pos c4)
  · refine g_aload_n C dX6_written_13 rfl rfl ?_
    refine g_iconst C dX6_written_14 (v := 1) (by decide) ?_
    refine g_callV C gy_X6_fail tw_5_168 tw_5_170 ts_26 (by decide) (kk := 6) rfl rfl (by exact hI1.1.m) (md_fail F _ m 1 hI1.1.m) rfl rfl (Nat.le_of_ble_eq_true rfl) (by omega) (by omega) dX6_written_15 (fun _ _ h9 => h9.elim) ?_
    rintro _ _ ⟨rfl, rfl⟩
    refine g_iret C R rfl (by omega) (by omega) dX6_written_18 ?_
    exact MdO.no (k := 1) hI (by decide) (fun v => Or.inl ⟨rfl, rfl, hv.neg c1⟩)
theorem md_enter {Γ : GBase} (F : FB Γ) (S : PS) (m : Nat) (y yb yl yt : Int32) (rr : Nat → Nat) (B : BT) (hI : MdI S m rr B) : GMet Γ yX6_enter cX6_enter 5 ((some FieldType.int)) 6 0 0 [.ref m, .int y, .int yb, .int yl, .int yt] S (fun r S' => MdO S S' m rr (spWr 0 B y yb yl yt) r) noX := by
  refine GMet.of (loc0 := [(0, .ref m), (1, .int y), (2, .int yb), (3, .int yl), (4, .int yt)]) F (by decide +kernel) rfl (Nat.le_of_ble_eq_true rfl) (fun X C R Tb nm => ?_)
  refine g_aload_n C dX6_enter_0 rfl rfl ?_
  refine g_iconst C dX6_enter_1 (v := 0) (by decide) ?_
  refine g_iload_n C dX6_enter_2 rfl rfl ?_
  refine g_iload_n C dX6_enter_3 rfl rfl ?_
  refine g_iload_n C dX6_enter_4 rfl rfl ?_
  refine g_iload C dX6_enter_5 rfl ?_
  refine g_callV C gy_X6_written tw_5_180 tw_5_182 ts_27 (by decide) (kk := 6) rfl rfl (by exact hI.1.m) (md_written F S m 0 y yb yl yt rr B hI (by decide) (fun h => absurd (Nat.zero_le _) h) (fun h => absurd (Or.inl rfl) h)) rfl rfl (Nat.le_of_ble_eq_true rfl) (by omega) (by omega) dX6_enter_7 (fun _ _ h9 => h9.elim) ?_
  rintro _ _ ⟨k, B', v, u, h1, h2, h3, h4, rfl, h5⟩
  refine g_iret C R rfl (by omega) (by omega) dX6_enter_10 ?_
  exact ⟨k, B', v, u, h1, h2, h3, h4, rfl, h5⟩
theorem md_move {Γ : GBase} (F : FB Γ) (S : PS) (m : Nat) (y yb yl : Int32) (rr : Nat → Nat) (B : BT) (hI : MdI S m rr B) : GMet Γ yX6_move cX6_move 4 ((some FieldType.int)) 6 0 0 [.ref m, .int y, .int yb, .int yl] S (fun r S' => MdO S S' m rr (spWr 1 B y yb yl (-1)) r) noX := by
  refine GMet.of (loc0 := [(0, .ref m), (1, .int y), (2, .int yb), (3, .int yl)]) F (by decide +kernel) rfl (Nat.le_of_ble_eq_true rfl) (fun X C R Tb nm => ?_)
  refine g_aload_n C dX6_move_0 rfl rfl ?_
  refine g_iconst C dX6_move_1 (v := 1) (by decide) ?_
  refine g_iload_n C dX6_move_2 rfl rfl ?_
  refine g_iload_n C dX6_move_3 rfl rfl ?_
  refine g_iload_n C dX6_move_4 rfl rfl ?_
  refine g_iconst C dX6_move_5 (v := -1) (by decide) ?_
  refine g_callV C gy_X6_written tw_5_180 tw_5_182 ts_27 (by decide) (kk := 6) rfl rfl (by exact hI.1.m) (md_written F S m 1 y yb yl (-1) rr B hI (by decide) (fun h => absurd (Nat.le_refl _) h) (fun _ => rfl)) rfl rfl (Nat.le_of_ble_eq_true rfl) (by omega) (by omega) dX6_move_6 (fun _ _ h9 => h9.elim) ?_
  rintro _ _ ⟨k, B', v, u, h1, h2, h3, h4, rfl, h5⟩
  refine g_iret C R rfl (by omega) (by omega) dX6_move_9 ?_
  exact ⟨k, B', v, u, h1, h2, h3, h4, rfl, h5⟩
theorem md_shift {Γ : GBase} (F : FB Γ) (S : PS) (m : Nat) (y yb yt : Int32) (rr : Nat → Nat) (B : BT) (hI : MdI S m rr B) : GMet Γ yX6_shift cX6_shift 4 ((some FieldType.int)) 6 0 0 [.ref m, .int y, .int yb, .int yt] S (fun r S' => MdO S S' m rr (spWr 2 B y yb (-1) yt) r) noX := by
  refine GMet.of (loc0 := [(0, .ref m), (1, .int y), (2, .int yb), (3, .int yt)]) F (by decide +kernel) rfl (Nat.le_of_ble_eq_true rfl) (fun X C R Tb nm => ?_)
  refine g_aload_n C dX6_shift_0 rfl rfl ?_
  refine g_iconst C dX6_shift_1 (v := 2) (by decide) ?_
  refine g_iload_n C dX6_shift_2 rfl rfl ?_
  refine g_iload_n C dX6_shift_3 rfl rfl ?_
  refine g_iconst C dX6_shift_4 (v := -1) (by decide) ?_
  refine g_iload_n C dX6_shift_5 rfl rfl ?_
  refine g_callV C gy_X6_written tw_5_180 tw_5_182 ts_27 (by decide) (kk := 6) rfl rfl (by exact hI.1.m) (md_written F S m 2 y yb (-1) yt rr B hI (by decide) (fun _ => rfl) (fun h => absurd (Or.inr rfl) h)) rfl rfl (Nat.le_of_ble_eq_true rfl) (by omega) (by omega) dX6_shift_6 (fun _ _ h9 => h9.elim) ?_
  rintro _ _ ⟨k, B', v, u, h1, h2, h3, h4, rfl, h5⟩
  refine g_iret C R rfl (by omega) (by omega) dX6_shift_9 ?_
  exact ⟨k, B', v, u, h1, h2, h3, h4, rfl, h5⟩
theorem md_leave {Γ : GBase} (F : FB Γ) (S : PS) (m : Nat) (y yb : Int32) (rr : Nat → Nat) (B : BT) (hI : MdI S m rr B) : GMet Γ yX6_leave cX6_leave 3 ((some FieldType.int)) 6 0 0 [.ref m, .int y, .int yb] S (fun r S' => MdO S S' m rr (spWr 3 B y yb (-1) (-1)) r) noX := by
  refine GMet.of (loc0 := [(0, .ref m), (1, .int y), (2, .int yb)]) F (by decide +kernel) rfl (Nat.le_of_ble_eq_true rfl) (fun X C R Tb nm => ?_)
  refine g_aload_n C dX6_leave_0 rfl rfl ?_
  refine g_iconst C dX6_leave_1 (v := 3) (by decide) ?_
  refine g_iload_n C dX6_leave_2 rfl rfl ?_
  refine g_iload_n C dX6_leave_3 rfl rfl ?_
  refine g_iconst C dX6_leave_4 (v := -1) (by decide) ?_
  refine g_iconst C dX6_leave_5 (v := -1) (by decide) ?_
  refine g_callV C gy_X6_written tw_5_180 tw_5_182 ts_27 (by decide) (kk := 6) rfl rfl (by exact hI.1.m) (md_written F S m 3 y yb (-1) (-1) rr B hI (by decide) (fun _ => rfl) (fun _ => rfl)) rfl rfl (Nat.le_of_ble_eq_true rfl) (by omega) (by omega) dX6_leave_6 (fun _ _ h9 => h9.elim) ?_
  rintro _ _ ⟨k, B', v, u, h1, h2, h3, h4, rfl, h5⟩
  refine g_iret C R rfl (by omega) (by omega) dX6_leave_9 ?_
  exact ⟨k, B', v, u, h1, h2, h3, h4, rfl, h5⟩
