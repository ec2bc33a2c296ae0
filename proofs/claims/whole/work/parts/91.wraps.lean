/-! ===== the law's own methods ===== -/
def LwP (Γ : GBase) (S S' : PS) (x o : Nat) (sp : Nat → BT → Int32 → Prop) (r : Option Value) : Prop := ∃ k B' v A', sp k B' v ∧ BkI Γ S' x A' B' ∧ FrL S S' ∧ r = some (.int (nI k)) ∧ (k = 0 → pRL S' o 0 = v.toInt64) ∧ k < 4
theorem LwP.thrown {Γ : GBase} {S S1 : PS} {x o k : Nat} {A' : AD} {B' : BT} {v : Int32} {sp : Nat → BT → Int32 → Prop} (hF : FrB S S1) (hI : BkI Γ S1 x A' B') (hs : sp k B' v) (h0 : k ≠ 0) (h4 : k < 4) : LwP Γ S S1 x o sp (some (.int (nI k))) := ⟨k, B', v, A', hs, hI, hF.l, rfl, fun e => absurd e h0, h4⟩
theorem LwP.done {Γ : GBase} {S S1 : PS} {x o : Nat} {A' : AD} {B' : BT} {v : Int32} {sp : Nat → BT → Int32 → Prop} (ho : al S1 o 10) (hF : FrB S S1) (hI : BkI Γ S1 x A' B') (hs : sp 0 B' v) : LwP Γ S (uRL S1 o (va_up (pRL S1 o) 0 v.toInt64)) x o sp (some (.int 0)) := by
  refine ⟨0, B', v, A', hs, hI.frO (Or.inl ho) (fr_uRL rfl), hF.l.tr (fr_uRL (Or.inr (Or.inl ho))), rfl, fun _ => ?_, by decide⟩
  exact (congrFun (va_up_self (pRL S1) o (va_up (pRL S1 o) 0 v.toInt64)) 0).trans (va_up_self _ _ _)
theorem gyh_addPuppet : GYH yL_addPuppet cL_addPuppet 5 (some FieldType.int) [(0, 10, 13, 13), (0, 10, 17, 15)] 4 := ⟨tw_3_121, tw_1_0, ⟨by decide +kernel, by decide +kernel⟩, by decide +kernel, by decide⟩
theorem lw_addPuppet {Γ : GBase} (F : FB Γ) (S : PS) (x o : Nat) (y z : Int32) (A : AD) (B : BT) (hI : BkI Γ S x A B) (ho : al S o 10) (hn : pN S o = 1) (hw : al S (pW S o) 6) : GMetH Γ yL_addPuppet cL_addPuppet 5 (some FieldType.int) [(0, 10, 13, 13), (0, 10, 17, 15)] 11 6 2150 [.ref x, .int y, .int z, .ref o] S (fun r S' => LwP Γ S S' x o (spAddPuppet B y z) r) := by
  refine GMetH.of (loc0 := [(0, .ref x), (1, .int y), (2, .int z), (3, .ref o)]) F (by decide +kernel) rfl (Nat.le_of_ble_eq_true rfl) (fun X C R Tb => ?_)
  refine g_aload_n C dL_addPuppet_0 rfl rfl ?_
  refine g_iconst C dL_addPuppet_1 (v := 0) (by decide) ?_
  refine g_aload_n C dL_addPuppet_2 rfl rfl ?_
  refine g_iload_n C dL_addPuppet_3 rfl rfl ?_
  refine g_iload_n C dL_addPuppet_4 rfl rfl ?_
  refine g_callV C gy_X5_addPuppet tw_3_124 tw_3_125 tw_3_126 (by decide) (kk := 5) rfl rfl (by exact hI.1) (c_addPuppet F S x y z A B hI) rfl rfl (Nat.le_of_ble_eq_true rfl) (by omega) (by omega) dL_addPuppet_5 ?_ ?_
  · rintro E S1 ⟨k, B', v, A', hk, hs, hI1, hF⟩
    rcases hk with ⟨rfl, rfl⟩ | ⟨rfl, rfl⟩
    · refine g_catch C (pre := []) (suf := [(0, 10, 17, 15)]) (f := 0) (t := 10) (h := 13) (ct := 13) Tb (by intro z9 hz; cases hz) (by decide) (by decide) tw_3_122 tw_2_184 (fun q => ?_)
      refine g_astore C dL_addPuppet_13 (by decide) rfl ?_
      refine g_iconst C dL_addPuppet_15 (v := 1) (by decide) ?_
      refine g_iret C R rfl (by omega) (by omega) dL_addPuppet_16 ?_
      exact LwP.thrown hF hI1 hs (by decide) (by decide)
    · refine g_catch C (pre := [(0, 10, 13, 13)]) (suf := []) (f := 0) (t := 10) (h := 17) (ct := 15) Tb (by
        intro z9 hz
        rw [List.mem_singleton.mp hz]
        exact ⟨by decide, _, tw_3_122, nc_1 F⟩) (by decide) (by decide) tw_3_123 tw_3_134 (fun q => ?_)
      refine g_astore C dL_addPuppet_17 (by decide) rfl ?_
      refine g_iconst C dL_addPuppet_19 (v := 2) (by decide) ?_
      refine g_iret C R rfl (by omega) (by omega) dL_addPuppet_20 ?_
      exact LwP.thrown hF hI1 hs (by decide) (by decide)
  · rintro _ S1 ⟨B', v, A', hs, hI1, hF, rfl⟩
    have ho1 : al S1 o 10 := ho.fr hF
    have hn1 : pN S1 o = 1 := ((hF o ho.1).2.2.1).trans hn
    refine g_i2l C dL_addPuppet_8 ?_
    refine g_stJ C rfl ho1 (by rw [hn1]; decide) (by decide) dL_addPuppet_9 ?_
    refine g_goto C dL_addPuppet_10 (tgt := 21) (by decide) ?_
    refine g_iconst C dL_addPuppet_21 (v := 0) (by decide) ?_
    refine g_iret C R rfl (by omega) (by omega) dL_addPuppet_22 ?_
    exact LwP.done ho1 hF hI1 hs
theorem gyh_addPlayer : GYH yL_addPlayer cL_addPlayer 5 (some FieldType.int) [(0, 10, 13, 13), (0, 10, 17, 15)] 4 := ⟨tw_3_201, tw_1_0, ⟨by decide +kernel, by decide +kernel⟩, by decide +kernel, by decide⟩
theorem lw_addPlayer {Γ : GBase} (F : FB Γ) (S : PS) (x o : Nat) (y z : Int32) (A : AD) (B : BT) (hI : BkI Γ S x A B) (ho : al S o 10) (hn : pN S o = 1) (hw : al S (pW S o) 6) : GMetH Γ yL_addPlayer cL_addPlayer 5 (some FieldType.int) [(0, 10, 13, 13), (0, 10, 17, 15)] 11 4 1140 [.ref x, .int y, .int z, .ref o] S (fun r S' => LwP Γ S S' x o (spAddPlayer B y z) r) := by
  refine GMetH.of (loc0 := [(0, .ref x), (1, .int y), (2, .int z), (3, .ref o)]) F (by decide +kernel) rfl (Nat.le_of_ble_eq_true rfl) (fun X C R Tb => ?_)
  refine g_aload_n C dL_addPlayer_0 rfl rfl ?_
  refine g_iconst C dL_addPlayer_1 (v := 0) (by decide) ?_
  refine g_aload_n C dL_addPlayer_2 rfl rfl ?_
  refine g_iload_n C dL_addPlayer_3 rfl rfl ?_
  refine g_iload_n C dL_addPlayer_4 rfl rfl ?_
  refine g_callV C gy_X5_addPlayer tw_3_202 tw_3_203 tw_3_204 (by decide) (kk := 5) rfl rfl (by exact hI.1) (c_addPlayer F S x y z A B hI) rfl rfl (Nat.le_of_ble_eq_true rfl) (by omega) (by omega) dL_addPlayer_5 ?_ ?_
  · rintro E S1 ⟨k, B', v, A', hk, hs, hI1, hF⟩
    rcases hk with ⟨rfl, rfl⟩ | ⟨rfl, rfl⟩
    · refine g_catch C (pre := []) (suf := [(0, 10, 17, 15)]) (f := 0) (t := 10) (h := 13) (ct := 13) Tb (by intro z9 hz; cases hz) (by decide) (by decide) tw_3_122 tw_2_184 (fun q => ?_)
      refine g_astore C dL_addPlayer_13 (by decide) rfl ?_
      refine g_iconst C dL_addPlayer_15 (v := 1) (by decide) ?_
      refine g_iret C R rfl (by omega) (by omega) dL_addPlayer_16 ?_
      exact LwP.thrown hF hI1 hs (by decide) (by decide)
    · refine g_catch C (pre := [(0, 10, 13, 13)]) (suf := []) (f := 0) (t := 10) (h := 17) (ct := 15) Tb (by
        intro z9 hz
        rw [List.mem_singleton.mp hz]
        exact ⟨by decide, _, tw_3_122, nc_1 F⟩) (by decide) (by decide) tw_3_123 tw_3_134 (fun q => ?_)
      refine g_astore C dL_addPlayer_17 (by decide) rfl ?_
      refine g_iconst C dL_addPlayer_19 (v := 2) (by decide) ?_
      refine g_iret C R rfl (by omega) (by omega) dL_addPlayer_20 ?_
      exact LwP.thrown hF hI1 hs (by decide) (by decide)
  · rintro _ S1 ⟨B', v, A', hs, hI1, hF, rfl⟩
    have ho1 : al S1 o 10 := ho.fr hF
    have hn1 : pN S1 o = 1 := ((hF o ho.1).2.2.1).trans hn
    refine g_i2l C dL_addPlayer_8 ?_
    refine g_stJ C rfl ho1 (by rw [hn1]; decide) (by decide) dL_addPlayer_9 ?_
    refine g_goto C dL_addPlayer_10 (tgt := 21) (by decide) ?_
    refine g_iconst C dL_addPlayer_21 (v := 0) (by decide) ?_
    refine g_iret C R rfl (by omega) (by omega) dL_addPlayer_22 ?_
    exact LwP.done ho1 hF hI1 hs
theorem gyh_enter : GYH yL_enter cL_enter 7 (some FieldType.int) [(0, 14, 17, 24), (0, 14, 21, 13), (0, 14, 25, 15)] 6 := ⟨tw_3_232, tw_1_0, ⟨by decide +kernel, by decide +kernel⟩, by decide +kernel, by decide⟩
theorem lw_enter {Γ : GBase} (F : FB Γ) (S : PS) (x o : Nat) (y z u w : Int32) (A : AD) (B : BT) (hI : BkI Γ S x A B) (ho : al S o 10) (hn : pN S o = 1) (hw : al S (pW S o) 6) : GMetH Γ yL_enter cL_enter 7 (some FieldType.int) [(0, 14, 17, 24), (0, 14, 21, 13), (0, 14, 25, 15)] 11 91 4440 [.ref x, .int y, .int z, .int u, .int w, .ref o] S (fun r S' => LwP Γ S S' x o (spWr 0 B y z u w) r) := by
  refine GMetH.of (loc0 := [(0, .ref x), (1, .int y), (2, .int z), (3, .int u), (4, .int w), (5, .ref o)]) F (by decide +kernel) rfl (Nat.le_of_ble_eq_true rfl) (fun X C R Tb => ?_)
  refine g_aload C dL_enter_0 rfl ?_
  refine g_iconst C dL_enter_2 (v := 0) (by decide) ?_
  refine g_aload_n C dL_enter_3 rfl rfl ?_
  refine g_iload_n C dL_enter_4 rfl rfl ?_
  refine g_iload_n C dL_enter_5 rfl rfl ?_
  refine g_iload_n C dL_enter_6 rfl rfl ?_
  refine g_iload C dL_enter_7 rfl ?_
  refine g_callV C gy_X5_enter tw_3_234 tw_3_235 tw_3_236 (by decide) (kk := 5) rfl rfl (by exact hI.1) (c_enter F S x y z u w A B hI) rfl rfl (Nat.le_of_ble_eq_true rfl) (by omega) (by omega) dL_enter_9 ?_ ?_
  · rintro E S1 ⟨k, B', v, A', hk, hs, hI1, hF⟩
    rcases hk with ⟨rfl, rfl⟩ | ⟨rfl, rfl⟩ | ⟨rfl, rfl⟩
    · refine g_catch C (pre := []) (suf := [(0, 14, 21, 13), (0, 14, 25, 15)]) (f := 0) (t := 14) (h := 17) (ct := 24) Tb (by intro z9 hz; cases hz) (by decide) (by decide) tw_3_233 tw_1_164 (fun q => ?_)
      refine g_astore C dL_enter_17 (by decide) rfl ?_
      refine g_iconst C dL_enter_19 (v := 1) (by decide) ?_
      refine g_iret C R rfl (by omega) (by omega) dL_enter_20 ?_
      exact LwP.thrown hF hI1 hs (by decide) (by decide)
    · refine g_catch C (pre := [(0, 14, 17, 24)]) (suf := [(0, 14, 25, 15)]) (f := 0) (t := 14) (h := 21) (ct := 13) Tb (by
        intro z9 hz
        rw [List.mem_singleton.mp hz]
        exact ⟨by decide, _, tw_3_233, nc_2 F⟩) (by decide) (by decide) tw_3_122 tw_2_184 (fun q => ?_)
      refine g_astore C dL_enter_21 (by decide) rfl ?_
      refine g_iconst C dL_enter_23 (v := 2) (by decide) ?_
      refine g_iret C R rfl (by omega) (by omega) dL_enter_24 ?_
      exact LwP.thrown hF hI1 hs (by decide) (by decide)
    · refine g_catch C (pre := [(0, 14, 17, 24), (0, 14, 21, 13)]) (suf := []) (f := 0) (t := 14) (h := 25) (ct := 15) Tb (by
        intro z9 hz
        rcases List.mem_cons.mp hz with rfl | hz
        · exact ⟨by decide, _, tw_3_233, nc_3 F⟩
        rw [List.mem_singleton.mp hz]
        exact ⟨by decide, _, tw_3_122, nc_1 F⟩) (by decide) (by decide) tw_3_123 tw_3_134 (fun q => ?_)
      refine g_astore C dL_enter_25 (by decide) rfl ?_
      refine g_iconst C dL_enter_27 (v := 3) (by decide) ?_
      refine g_iret C R rfl (by omega) (by omega) dL_enter_28 ?_
      exact LwP.thrown hF hI1 hs (by decide) (by decide)
  · rintro _ S1 ⟨B', v, A', hs, hI1, hF, rfl⟩
    have ho1 : al S1 o 10 := ho.fr hF
    have hn1 : pN S1 o = 1 := ((hF o ho.1).2.2.1).trans hn
    refine g_i2l C dL_enter_12 ?_
    refine g_stJ C rfl ho1 (by rw [hn1]; decide) (by decide) dL_enter_13 ?_
    refine g_goto C dL_enter_14 (tgt := 29) (by decide) ?_
    refine g_iconst C dL_enter_29 (v := 0) (by decide) ?_
    refine g_iret C R rfl (by omega) (by omega) dL_enter_30 ?_
    exact LwP.done ho1 hF hI1 hs
theorem gyh_move : GYH yL_move cL_move 6 (some FieldType.int) [(0, 12, 15, 24), (0, 12, 19, 13), (0, 12, 23, 15)] 5 := ⟨tw_4_185, tw_1_0, ⟨by decide +kernel, by decide +kernel⟩, by decide +kernel, by decide⟩
theorem lw_move {Γ : GBase} (F : FB Γ) (S : PS) (x o : Nat) (y z u : Int32) (A : AD) (B : BT) (hI : BkI Γ S x A B) (ho : al S o 10) (hn : pN S o = 1) (hw : al S (pW S o) 6) : GMetH Γ yL_move cL_move 6 (some FieldType.int) [(0, 12, 15, 24), (0, 12, 19, 13), (0, 12, 23, 15)] 11 91 4440 [.ref x, .int y, .int z, .int u, .ref o] S (fun r S' => LwP Γ S S' x o (spWr 1 B y z u (-1)) r) := by
  refine GMetH.of (loc0 := [(0, .ref x), (1, .int y), (2, .int z), (3, .int u), (4, .ref o)]) F (by decide +kernel) rfl (Nat.le_of_ble_eq_true rfl) (fun X C R Tb => ?_)
  refine g_aload C dL_move_0 rfl ?_
  refine g_iconst C dL_move_2 (v := 0) (by decide) ?_
  refine g_aload_n C dL_move_3 rfl rfl ?_
  refine g_iload_n C dL_move_4 rfl rfl ?_
  refine g_iload_n C dL_move_5 rfl rfl ?_
  refine g_iload_n C dL_move_6 rfl rfl ?_
  refine g_callV C gy_X5_move tw_4_186 tw_4_187 tw_4_188 (by decide) (kk := 5) rfl rfl (by exact hI.1) (c_move F S x y z u A B hI) rfl rfl (Nat.le_of_ble_eq_true rfl) (by omega) (by omega) dL_move_7 ?_ ?_
  · rintro E S1 ⟨k, B', v, A', hk, hs, hI1, hF⟩
    rcases hk with ⟨rfl, rfl⟩ | ⟨rfl, rfl⟩ | ⟨rfl, rfl⟩
    · refine g_catch C (pre := []) (suf := [(0, 12, 19, 13), (0, 12, 23, 15)]) (f := 0) (t := 12) (h := 15) (ct := 24) Tb (by intro z9 hz; cases hz) (by decide) (by decide) tw_3_233 tw_1_164 (fun q => ?_)
      refine g_astore C dL_move_15 (by decide) rfl ?_
      refine g_iconst C dL_move_17 (v := 1) (by decide) ?_
      refine g_iret C R rfl (by omega) (by omega) dL_move_18 ?_
      exact LwP.thrown hF hI1 hs (by decide) (by decide)
    · refine g_catch C (pre := [(0, 12, 15, 24)]) (suf := [(0, 12, 23, 15)]) (f := 0) (t := 12) (h := 19) (ct := 13) Tb (by
        intro z9 hz
        rw [List.mem_singleton.mp hz]
        exact ⟨by decide, _, tw_3_233, nc_2 F⟩) (by decide) (by decide) tw_3_122 tw_2_184 (fun q => ?_)
      refine g_astore C dL_move_19 (by decide) rfl ?_
      refine g_iconst C dL_move_21 (v := 2) (by decide) ?_
      refine g_iret C R rfl (by omega) (by omega) dL_move_22 ?_
      exact LwP.thrown hF hI1 hs (by decide) (by decide)
    · refine g_catch C (pre := [(0, 12, 15, 24), (0, 12, 19, 13)]) (suf := []) (f := 0) (t := 12) (h := 23) (ct := 15) Tb (by
        intro z9 hz
        rcases List.mem_cons.mp hz with rfl | hz
        · exact ⟨by decide, _, tw_3_233, nc_3 F⟩
        rw [List.mem_singleton.mp hz]
        exact ⟨by decide, _, tw_3_122, nc_1 F⟩) (by decide) (by decide) tw_3_123 tw_3_134 (fun q => ?_)
      refine g_astore C dL_move_23 (by decide) rfl ?_
      refine g_iconst C dL_move_25 (v := 3) (by decide) ?_
      refine g_iret C R rfl (by omega) (by omega) dL_move_26 ?_
      exact LwP.thrown hF hI1 hs (by decide) (by decide)
  · rintro _ S1 ⟨B', v, A', hs, hI1, hF, rfl⟩
    have ho1 : al S1 o 10 := ho.fr hF
    have hn1 : pN S1 o = 1 := ((hF o ho.1).2.2.1).trans hn
    refine g_i2l C dL_move_10 ?_
    refine g_stJ C rfl ho1 (by rw [hn1]; decide) (by decide) dL_move_11 ?_
    refine g_goto C dL_move_12 (tgt := 27) (by decide) ?_
    refine g_iconst C dL_move_27 (v := 0) (by decide) ?_
    refine g_iret C R rfl (by omega) (by omega) dL_move_28 ?_
    exact LwP.done ho1 hF hI1 hs
theorem gyh_shift : GYH yL_shift cL_shift 6 (some FieldType.int) [(0, 12, 15, 24), (0, 12, 19, 13), (0, 12, 23, 15)] 5 := ⟨tw_4_192, tw_1_0, ⟨by decide +kernel, by decide +kernel⟩, by decide +kernel, by decide⟩
theorem lw_shift {Γ : GBase} (F : FB Γ) (S : PS) (x o : Nat) (y z u : Int32) (A : AD) (B : BT) (hI : BkI Γ S x A B) (ho : al S o 10) (hn : pN S o = 1) (hw : al S (pW S o) 6) : GMetH Γ yL_shift cL_shift 6 (some FieldType.int) [(0, 12, 15, 24), (0, 12, 19, 13), (0, 12, 23, 15)] 11 91 4440 [.ref x, .int y, .int z, .int u, .ref o] S (fun r S' => LwP Γ S S' x o (spWr 2 B y z (-1) u) r) := by
  refine GMetH.of (loc0 := [(0, .ref x), (1, .int y), (2, .int z), (3, .int u), (4, .ref o)]) F (by decide +kernel) rfl (Nat.le_of_ble_eq_true rfl) (fun X C R Tb => ?_)
  refine g_aload C dL_shift_0 rfl ?_
  refine g_iconst C dL_shift_2 (v := 0) (by decide) ?_
  refine g_aload_n C dL_shift_3 rfl rfl ?_
  refine g_iload_n C dL_shift_4 rfl rfl ?_
  refine g_iload_n C dL_shift_5 rfl rfl ?_
  refine g_iload_n C dL_shift_6 rfl rfl ?_
  refine g_callV C gy_X5_shift tw_4_193 tw_4_194 tw_4_195 (by decide) (kk := 5) rfl rfl (by exact hI.1) (c_shift F S x y z u A B hI) rfl rfl (Nat.le_of_ble_eq_true rfl) (by omega) (by omega) dL_shift_7 ?_ ?_
  · rintro E S1 ⟨k, B', v, A', hk, hs, hI1, hF⟩
    rcases hk with ⟨rfl, rfl⟩ | ⟨rfl, rfl⟩ | ⟨rfl, rfl⟩
    · refine g_catch C (pre := []) (suf := [(0, 12, 19, 13), (0, 12, 23, 15)]) (f := 0) (t := 12) (h := 15) (ct := 24) Tb (by intro z9 hz; cases hz) (by decide) (by decide) tw_3_233 tw_1_164 (fun q => ?_)
      refine g_astore C dL_shift_15 (by decide) rfl ?_
      refine g_iconst C dL_shift_17 (v := 1) (by decide) ?_
      refine g_iret C R rfl (by omega) (by omega) dL_shift_18 ?_
      exact LwP.thrown hF hI1 hs (by decide) (by decide)
    · refine g_catch C (pre := [(0, 12, 15, 24)]) (suf := [(0, 12, 23, 15)]) (f := 0) (t := 12) (h := 19) (ct := 13) Tb (by
        intro z9 hz
        rw [List.mem_singleton.mp hz]
        exact ⟨by decide, _, tw_3_233, nc_2 F⟩) (by decide) (by decide) tw_3_122 tw_2_184 (fun q => ?_)
      refine g_astore C dL_shift_19 (by decide) rfl ?_
      refine g_iconst C dL_shift_21 (v := 2) (by decide) ?_
      refine g_iret C R rfl (by omega) (by omega) dL_shift_22 ?_
      exact LwP.thrown hF hI1 hs (by decide) (by decide)
    · refine g_catch C (pre := [(0, 12, 15, 24), (0, 12, 19, 13)]) (suf := []) (f := 0) (t := 12) (h := 23) (ct := 15) Tb (by
        intro z9 hz
        rcases List.mem_cons.mp hz with rfl | hz
        · exact ⟨by decide, _, tw_3_233, nc_3 F⟩
        rw [List.mem_singleton.mp hz]
        exact ⟨by decide, _, tw_3_122, nc_1 F⟩) (by decide) (by decide) tw_3_123 tw_3_134 (fun q => ?_)
      refine g_astore C dL_shift_23 (by decide) rfl ?_
      refine g_iconst C dL_shift_25 (v := 3) (by decide) ?_
      refine g_iret C R rfl (by omega) (by omega) dL_shift_26 ?_
      exact LwP.thrown hF hI1 hs (by decide) (by decide)
  · rintro _ S1 ⟨B', v, A', hs, hI1, hF, rfl⟩
    have ho1 : al S1 o 10 := ho.fr hF
    have hn1 : pN S1 o = 1 := ((hF o ho.1).2.2.1).trans hn
    refine g_i2l C dL_shift_10 ?_
    refine g_stJ C rfl ho1 (by rw [hn1]; decide) (by decide) dL_shift_11 ?_
    refine g_goto C dL_shift_12 (tgt := 27) (by decide) ?_
    refine g_iconst C dL_shift_27 (v := 0) (by decide) ?_
    refine g_iret C R rfl (by omega) (by omega) dL_shift_28 ?_
    exact LwP.done ho1 hF hI1 hs
theorem gyh_leave : GYH yL_leave cL_leave 5 (some FieldType.int) [(0, 10, 13, 24), (0, 10, 17, 13), (0, 10, 21, 15)] 4 := ⟨tw_4_199, tw_1_0, ⟨by decide +kernel, by decide +kernel⟩, by decide +kernel, by decide⟩
theorem lw_leave {Γ : GBase} (F : FB Γ) (S : PS) (x o : Nat) (y z : Int32) (A : AD) (B : BT) (hI : BkI Γ S x A B) (ho : al S o 10) (hn : pN S o = 1) (hw : al S (pW S o) 6) : GMetH Γ yL_leave cL_leave 5 (some FieldType.int) [(0, 10, 13, 24), (0, 10, 17, 13), (0, 10, 21, 15)] 11 91 4440 [.ref x, .int y, .int z, .ref o] S (fun r S' => LwP Γ S S' x o (spWr 3 B y z (-1) (-1)) r) := by
  refine GMetH.of (loc0 := [(0, .ref x), (1, .int y), (2, .int z), (3, .ref o)]) F (by decide +kernel) rfl (Nat.le_of_ble_eq_true rfl) (fun X C R Tb => ?_)
  refine g_aload_n C dL_leave_0 rfl rfl ?_
  refine g_iconst C dL_leave_1 (v := 0) (by decide) ?_
  refine g_aload_n C dL_leave_2 rfl rfl ?_
  refine g_iload_n C dL_leave_3 rfl rfl ?_
  refine g_iload_n C dL_leave_4 rfl rfl ?_
  refine g_callV C gy_X5_leave tw_4_200 tw_4_201 tw_4_202 (by decide) (kk := 5) rfl rfl (by exact hI.1) (c_leave F S x y z A B hI) rfl rfl (Nat.le_of_ble_eq_true rfl) (by omega) (by omega) dL_leave_5 ?_ ?_
  · rintro E S1 ⟨k, B', v, A', hk, hs, hI1, hF⟩
    rcases hk with ⟨rfl, rfl⟩ | ⟨rfl, rfl⟩ | ⟨rfl, rfl⟩
    · refine g_catch C (pre := []) (suf := [(0, 10, 17, 13), (0, 10, 21, 15)]) (f := 0) (t := 10) (h := 13) (ct := 24) Tb (by intro z9 hz; cases hz) (by decide) (by decide) tw_3_233 tw_1_164 (fun q => ?_)
      refine g_astore C dL_leave_13 (by decide) rfl ?_
      refine g_iconst C dL_leave_15 (v := 1) (by decide) ?_
      refine g_iret C R rfl (by omega) (by omega) dL_leave_16 ?_
      exact LwP.thrown hF hI1 hs (by decide) (by decide)
    · refine g_catch C (pre := [(0, 10, 13, 24)]) (suf := [(0, 10, 21, 15)]) (f := 0) (t := 10) (h := 17) (ct := 13) Tb (by
        intro z9 hz
        rw [List.mem_singleton.mp hz]
        exact ⟨by decide, _, tw_3_233, nc_2 F⟩) (by decide) (by decide) tw_3_122 tw_2_184 (fun q => ?_)
      refine g_astore C dL_leave_17 (by decide) rfl ?_
      refine g_iconst C dL_leave_19 (v := 2) (by decide) ?_
      refine g_iret C R rfl (by omega) (by omega) dL_leave_20 ?_
      exact LwP.thrown hF hI1 hs (by decide) (by decide)
    · refine g_catch C (pre := [(0, 10, 13, 24), (0, 10, 17, 13)]) (suf := []) (f := 0) (t := 10) (h := 21) (ct := 15) Tb (by
        intro z9 hz
        rcases List.mem_cons.mp hz with rfl | hz
        · exact ⟨by decide, _, tw_3_233, nc_3 F⟩
        rw [List.mem_singleton.mp hz]
        exact ⟨by decide, _, tw_3_122, nc_1 F⟩) (by decide) (by decide) tw_3_123 tw_3_134 (fun q => ?_)
      refine g_astore C dL_leave_21 (by decide) rfl ?_
      refine g_iconst C dL_leave_23 (v := 3) (by decide) ?_
      refine g_iret C R rfl (by omega) (by omega) dL_leave_24 ?_
      exact LwP.thrown hF hI1 hs (by decide) (by decide)
  · rintro _ S1 ⟨B', v, A', hs, hI1, hF, rfl⟩
    have ho1 : al S1 o 10 := ho.fr hF
    have hn1 : pN S1 o = 1 := ((hF o ho.1).2.2.1).trans hn
    refine g_i2l C dL_leave_8 ?_
    refine g_stJ C rfl ho1 (by rw [hn1]; decide) (by decide) dL_leave_9 ?_
    refine g_goto C dL_leave_10 (tgt := 25) (by decide) ?_
    refine g_iconst C dL_leave_25 (v := 0) (by decide) ?_
    refine g_iret C R rfl (by omega) (by omega) dL_leave_26 ?_
    exact LwP.done ho1 hF hI1 hs
theorem gyh_strike : GYH yL_strike cL_strike 4 (some FieldType.int) [(0, 9, 12, 24), (0, 9, 15, 15)] 3 := ⟨tw_4_206, tw_1_0, ⟨by decide +kernel, by decide +kernel⟩, by decide +kernel, by decide⟩
theorem lw_strike {Γ : GBase} (F : FB Γ) (S : PS) (x o : Nat) (y : Int32) (A : AD) (B : BT) (hI : BkI Γ S x A B) (ho : al S o 10) (hn : pN S o = 1) (hw : al S (pW S o) 6) : GMetH Γ yL_strike cL_strike 4 (some FieldType.int) [(0, 9, 12, 24), (0, 9, 15, 15)] 11 85 4390 [.ref x, .int y, .ref o] S (fun r S' => LwP Γ S S' x o (spStrike B y) r) := by
  refine GMetH.of (loc0 := [(0, .ref x), (1, .int y), (2, .ref o)]) F (by decide +kernel) rfl (Nat.le_of_ble_eq_true rfl) (fun X C R Tb => ?_)
  refine g_aload_n C dL_strike_0 rfl rfl ?_
  refine g_iconst C dL_strike_1 (v := 0) (by decide) ?_
  refine g_aload_n C dL_strike_2 rfl rfl ?_
  refine g_iload_n C dL_strike_3 rfl rfl ?_
  refine g_callV C gy_X5_strike tw_4_207 tw_4_208 tw_4_209 (by decide) (kk := 5) rfl rfl (by exact hI.1) (c_strike F S x y A B hI) rfl rfl (Nat.le_of_ble_eq_true rfl) (by omega) (by omega) dL_strike_4 ?_ ?_
  · rintro E S1 ⟨k, B', v, A', hk, hs, hI1, hF⟩
    rcases hk with ⟨rfl, rfl⟩ | ⟨rfl, rfl⟩
    · refine g_catch C (pre := []) (suf := [(0, 9, 15, 15)]) (f := 0) (t := 9) (h := 12) (ct := 24) Tb (by intro z9 hz; cases hz) (by decide) (by decide) tw_3_233 tw_1_164 (fun q => ?_)
      refine g_astore_n C dL_strike_12 rfl (by decide) rfl ?_
      refine g_iconst C dL_strike_13 (v := 1) (by decide) ?_
      refine g_iret C R rfl (by omega) (by omega) dL_strike_14 ?_
      exact LwP.thrown hF hI1 hs (by decide) (by decide)
    · refine g_catch C (pre := [(0, 9, 12, 24)]) (suf := []) (f := 0) (t := 9) (h := 15) (ct := 15) Tb (by
        intro z9 hz
        rw [List.mem_singleton.mp hz]
        exact ⟨by decide, _, tw_3_233, nc_3 F⟩) (by decide) (by decide) tw_3_123 tw_3_134 (fun q => ?_)
      refine g_astore_n C dL_strike_15 rfl (by decide) rfl ?_
      refine g_iconst C dL_strike_16 (v := 2) (by decide) ?_
      refine g_iret C R rfl (by omega) (by omega) dL_strike_17 ?_
      exact LwP.thrown hF hI1 hs (by decide) (by decide)
  · rintro _ S1 ⟨B', v, A', hs, hI1, hF, rfl⟩
    have ho1 : al S1 o 10 := ho.fr hF
    have hn1 : pN S1 o = 1 := ((hF o ho.1).2.2.1).trans hn
    refine g_i2l C dL_strike_7 ?_
    refine g_stJ C rfl ho1 (by rw [hn1]; decide) (by decide) dL_strike_8 ?_
    refine g_goto C dL_strike_9 (tgt := 18) (by decide) ?_
    refine g_iconst C dL_strike_18 (v := 0) (by decide) ?_
    refine g_iret C R rfl (by omega) (by omega) dL_strike_19 ?_
    exact LwP.done ho1 hF hI1 hs
theorem gyh_count : GYH yL_count cL_count 4 (some FieldType.int) [(0, 9, 12, 24)] 3 := ⟨tw_4_224, tw_1_0, ⟨by decide +kernel, by decide +kernel⟩, by decide +kernel, by decide⟩
theorem lw_count {Γ : GBase} (F : FB Γ) (S : PS) (x o : Nat) (y : Int32) (A : AD) (B : BT) (hI : BkI Γ S x A B) (ho : al S o 10) (hn : pN S o = 1) (hw : al S (pW S o) 6) : GMetH Γ yL_count cL_count 4 (some FieldType.int) [(0, 9, 12, 24)] 11 1 6 [.ref x, .int y, .ref o] S (fun r S' => LwP Γ S S' x o (spCount B y) r) := by
  refine GMetH.of (loc0 := [(0, .ref x), (1, .int y), (2, .ref o)]) F (by decide +kernel) rfl (Nat.le_of_ble_eq_true rfl) (fun X C R Tb => ?_)
  refine g_aload_n C dL_count_0 rfl rfl ?_
  refine g_iconst C dL_count_1 (v := 0) (by decide) ?_
  refine g_aload_n C dL_count_2 rfl rfl ?_
  refine g_iload_n C dL_count_3 rfl rfl ?_
  refine g_callV C gy_X5_count tw_4_225 tw_4_226 tw_4_227 (by decide) (kk := 5) rfl rfl (by exact hI.1) (c_count F S x y A B hI) rfl rfl (Nat.le_of_ble_eq_true rfl) (by omega) (by omega) dL_count_4 ?_ ?_
  · rintro E S1 ⟨k, B', v, A', hk, hs, hI1, hF⟩
    obtain ⟨rfl, rfl⟩ := hk
    refine g_catch C (pre := []) (suf := []) (f := 0) (t := 9) (h := 12) (ct := 24) Tb (by intro z9 hz; cases hz) (by decide) (by decide) tw_3_233 tw_1_164 (fun q => ?_)
    refine g_astore_n C dL_count_12 rfl (by decide) rfl ?_
    refine g_iconst C dL_count_13 (v := 1) (by decide) ?_
    refine g_iret C R rfl (by omega) (by omega) dL_count_14 ?_
    exact LwP.thrown hF hI1 hs (by decide) (by decide)
  · rintro _ S1 ⟨B', v, A', hs, hI1, hF, rfl⟩
    have ho1 : al S1 o 10 := ho.fr hF
    have hn1 : pN S1 o = 1 := ((hF o ho.1).2.2.1).trans hn
    refine g_i2l C dL_count_7 ?_
    refine g_stJ C rfl ho1 (by rw [hn1]; decide) (by decide) dL_count_8 ?_
    refine g_goto C dL_count_9 (tgt := 15) (by decide) ?_
    refine g_iconst C dL_count_15 (v := 0) (by decide) ?_
    refine g_iret C R rfl (by omega) (by omega) dL_count_16 ?_
    exact LwP.done ho1 hF hI1 hs
theorem gyh_cue : GYH yL_cue cL_cue 5 (some FieldType.int) [(0, 10, 13, 24)] 4 := ⟨tw_4_232, tw_1_0, ⟨by decide +kernel, by decide +kernel⟩, by decide +kernel, by decide⟩
theorem lw_cue {Γ : GBase} (F : FB Γ) (S : PS) (x o : Nat) (y z : Int32) (A : AD) (B : BT) (hI : BkI Γ S x A B) (ho : al S o 10) (hn : pN S o = 1) (hw : al S (pW S o) 6) : GMetH Γ yL_cue cL_cue 5 (some FieldType.int) [(0, 10, 13, 24)] 11 2 12 [.ref x, .int y, .int z, .ref o] S (fun r S' => LwP Γ S S' x o (spCue B y z) r) := by
  refine GMetH.of (loc0 := [(0, .ref x), (1, .int y), (2, .int z), (3, .ref o)]) F (by decide +kernel) rfl (Nat.le_of_ble_eq_true rfl) (fun X C R Tb => ?_)
  refine g_aload_n C dL_cue_0 rfl rfl ?_
  refine g_iconst C dL_cue_1 (v := 0) (by decide) ?_
  refine g_aload_n C dL_cue_2 rfl rfl ?_
  refine g_iload_n C dL_cue_3 rfl rfl ?_
  refine g_iload_n C dL_cue_4 rfl rfl ?_
  refine g_callV C gy_X5_cue tw_4_233 tw_4_234 tw_4_235 (by decide) (kk := 5) rfl rfl (by exact hI.1) (c_cue F S x y z A B hI) rfl rfl (Nat.le_of_ble_eq_true rfl) (by omega) (by omega) dL_cue_5 ?_ ?_
  · rintro E S1 ⟨k, B', v, A', hk, hs, hI1, hF⟩
    obtain ⟨rfl, rfl⟩ := hk
    refine g_catch C (pre := []) (suf := []) (f := 0) (t := 10) (h := 13) (ct := 24) Tb (by intro z9 hz; cases hz) (by decide) (by decide) tw_3_233 tw_1_164 (fun q => ?_)
    refine g_astore C dL_cue_13 (by decide) rfl ?_
    refine g_iconst C dL_cue_15 (v := 1) (by decide) ?_
    refine g_iret C R rfl (by omega) (by omega) dL_cue_16 ?_
    exact LwP.thrown hF hI1 hs (by decide) (by decide)
  · rintro _ S1 ⟨B', v, A', hs, hI1, hF, rfl⟩
    have ho1 : al S1 o 10 := ho.fr hF
    have hn1 : pN S1 o = 1 := ((hF o ho.1).2.2.1).trans hn
    refine g_i2l C dL_cue_8 ?_
    refine g_stJ C rfl ho1 (by rw [hn1]; decide) (by decide) dL_cue_9 ?_
    refine g_goto C dL_cue_10 (tgt := 17) (by decide) ?_
    refine g_iconst C dL_cue_17 (v := 0) (by decide) ?_
    refine g_iret C R rfl (by omega) (by omega) dL_cue_18 ?_
    exact LwP.done ho1 hF hI1 hs
theorem gyh_place : GYH yL_place cL_place 5 (some FieldType.int) [(0, 10, 13, 24), (0, 10, 17, 13)] 4 := ⟨tw_4_239, tw_1_0, ⟨by decide +kernel, by decide +kernel⟩, by decide +kernel, by decide⟩
theorem lw_place {Γ : GBase} (F : FB Γ) (S : PS) (x o : Nat) (y z : Int32) (A : AD) (B : BT) (hI : BkI Γ S x A B) (ho : al S o 10) (hn : pN S o = 1) (hw : al S (pW S o) 6) : GMetH Γ yL_place cL_place 5 (some FieldType.int) [(0, 10, 13, 24), (0, 10, 17, 13)] 11 2 12 [.ref x, .int y, .int z, .ref o] S (fun r S' => LwP Γ S S' x o (spPlace B y z) r) := by
  refine GMetH.of (loc0 := [(0, .ref x), (1, .int y), (2, .int z), (3, .ref o)]) F (by decide +kernel) rfl (Nat.le_of_ble_eq_true rfl) (fun X C R Tb => ?_)
  refine g_aload_n C dL_place_0 rfl rfl ?_
  refine g_iconst C dL_place_1 (v := 0) (by decide) ?_
  refine g_aload_n C dL_place_2 rfl rfl ?_
  refine g_iload_n C dL_place_3 rfl rfl ?_
  refine g_iload_n C dL_place_4 rfl rfl ?_
  refine g_callV C gy_X5_place tw_5_0 tw_5_1 tw_5_2 (by decide) (kk := 5) rfl rfl (by exact hI.1) (c_place F S x y z A B hI) rfl rfl (Nat.le_of_ble_eq_true rfl) (by omega) (by omega) dL_place_5 ?_ ?_
  · rintro E S1 ⟨k, B', v, A', hk, hs, hI1, hF⟩
    rcases hk with ⟨rfl, rfl⟩ | ⟨rfl, rfl⟩
    · refine g_catch C (pre := []) (suf := [(0, 10, 17, 13)]) (f := 0) (t := 10) (h := 13) (ct := 24) Tb (by intro z9 hz; cases hz) (by decide) (by decide) tw_3_233 tw_1_164 (fun q => ?_)
      refine g_astore C dL_place_13 (by decide) rfl ?_
      refine g_iconst C dL_place_15 (v := 1) (by decide) ?_
      refine g_iret C R rfl (by omega) (by omega) dL_place_16 ?_
      exact LwP.thrown hF hI1 hs (by decide) (by decide)
    · refine g_catch C (pre := [(0, 10, 13, 24)]) (suf := []) (f := 0) (t := 10) (h := 17) (ct := 13) Tb (by
        intro z9 hz
        rw [List.mem_singleton.mp hz]
        exact ⟨by decide, _, tw_3_233, nc_2 F⟩) (by decide) (by decide) tw_3_122 tw_2_184 (fun q => ?_)
      refine g_astore C dL_place_17 (by decide) rfl ?_
      refine g_iconst C dL_place_19 (v := 2) (by decide) ?_
      refine g_iret C R rfl (by omega) (by omega) dL_place_20 ?_
      exact LwP.thrown hF hI1 hs (by decide) (by decide)
  · rintro _ S1 ⟨B', v, A', hs, hI1, hF, rfl⟩
    have ho1 : al S1 o 10 := ho.fr hF
    have hn1 : pN S1 o = 1 := ((hF o ho.1).2.2.1).trans hn
    refine g_i2l C dL_place_8 ?_
    refine g_stJ C rfl ho1 (by rw [hn1]; decide) (by decide) dL_place_9 ?_
    refine g_goto C dL_place_10 (tgt := 21) (by decide) ?_
    refine g_iconst C dL_place_21 (v := 0) (by decide) ?_
    refine g_iret C R rfl (by omega) (by omega) dL_place_22 ?_
    exact LwP.done ho1 hF hI1 hs
theorem gyh_track : GYH yL_track cL_track 5 (some FieldType.int) [(0, 10, 13, 24), (0, 10, 17, 13)] 4 := ⟨tw_5_6, tw_1_0, ⟨by decide +kernel, by decide +kernel⟩, by decide +kernel, by decide⟩
theorem lw_track {Γ : GBase} (F : FB Γ) (S : PS) (x o : Nat) (y z : Int32) (A : AD) (B : BT) (hI : BkI Γ S x A B) (ho : al S o 10) (hn : pN S o = 1) (hw : al S (pW S o) 6) : GMetH Γ yL_track cL_track 5 (some FieldType.int) [(0, 10, 13, 24), (0, 10, 17, 13)] 11 2 12 [.ref x, .int y, .int z, .ref o] S (fun r S' => LwP Γ S S' x o (spTrack B y z) r) := by
  refine GMetH.of (loc0 := [(0, .ref x), (1, .int y), (2, .int z), (3, .ref o)]) F (by decide +kernel) rfl (Nat.le_of_ble_eq_true rfl) (fun X C R Tb => ?_)
  refine g_aload_n C dL_track_0 rfl rfl ?_
  refine g_iconst C dL_track_1 (v := 0) (by decide) ?_
  refine g_aload_n C dL_track_2 rfl rfl ?_
  refine g_iload_n C dL_track_3 rfl rfl ?_
  refine g_iload_n C dL_track_4 rfl rfl ?_
  refine g_callV C gy_X5_track tw_5_7 tw_5_8 tw_5_9 (by decide) (kk := 5) rfl rfl (by exact hI.1) (c_track F S x y z A B hI) rfl rfl (Nat.le_of_ble_eq_true rfl) (by omega) (by omega) dL_track_5 ?_ ?_
  · rintro E S1 ⟨k, B', v, A', hk, hs, hI1, hF⟩
    rcases hk with ⟨rfl, rfl⟩ | ⟨rfl, rfl⟩
    · refine g_catch C (pre := []) (suf := [(0, 10, 17, 13)]) (f := 0) (t := 10) (h := 13) (ct := 24) Tb (by intro z9 hz; cases hz) (by decide) (by decide) tw_3_233 tw_1_164 (fun q => ?_)
      refine g_astore C dL_track_13 (by decide) rfl ?_
      refine g_iconst C dL_track_15 (v := 1) (by decide) ?_
      refine g_iret C R rfl (by omega) (by omega) dL_track_16 ?_
      exact LwP.thrown hF hI1 hs (by decide) (by decide)
    · refine g_catch C (pre := [(0, 10, 13, 24)]) (suf := []) (f := 0) (t := 10) (h := 17) (ct := 13) Tb (by
        intro z9 hz
        rw [List.mem_singleton.mp hz]
        exact ⟨by decide, _, tw_3_233, nc_2 F⟩) (by decide) (by decide) tw_3_122 tw_2_184 (fun q => ?_)
      refine g_astore C dL_track_17 (by decide) rfl ?_
      refine g_iconst C dL_track_19 (v := 2) (by decide) ?_
      refine g_iret C R rfl (by omega) (by omega) dL_track_20 ?_
      exact LwP.thrown hF hI1 hs (by decide) (by decide)
  · rintro _ S1 ⟨B', v, A', hs, hI1, hF, rfl⟩
    have ho1 : al S1 o 10 := ho.fr hF
    have hn1 : pN S1 o = 1 := ((hF o ho.1).2.2.1).trans hn
    refine g_i2l C dL_track_8 ?_
    refine g_stJ C rfl ho1 (by rw [hn1]; decide) (by decide) dL_track_9 ?_
    refine g_goto C dL_track_10 (tgt := 21) (by decide) ?_
    refine g_iconst C dL_track_21 (v := 0) (by decide) ?_
    refine g_iret C R rfl (by omega) (by omega) dL_track_22 ?_
    exact LwP.done ho1 hF hI1 hs
theorem gyh_onStage : GYH yL_onStage cL_onStage 4 (some FieldType.int) [(0, 9, 12, 13)] 3 := ⟨tw_5_13, tw_1_0, ⟨by decide +kernel, by decide +kernel⟩, by decide +kernel, by decide⟩
theorem lw_onStage {Γ : GBase} (F : FB Γ) (S : PS) (x o : Nat) (y : Int32) (A : AD) (B : BT) (hI : BkI Γ S x A B) (ho : al S o 10) (hn : pN S o = 1) (hw : al S (pW S o) 6) : GMetH Γ yL_onStage cL_onStage 4 (some FieldType.int) [(0, 9, 12, 13)] 11 1 6 [.ref x, .int y, .ref o] S (fun r S' => LwP Γ S S' x o (spOnStage B y) r) := by
  refine GMetH.of (loc0 := [(0, .ref x), (1, .int y), (2, .ref o)]) F (by decide +kernel) rfl (Nat.le_of_ble_eq_true rfl) (fun X C R Tb => ?_)
  refine g_aload_n C dL_onStage_0 rfl rfl ?_
  refine g_iconst C dL_onStage_1 (v := 0) (by decide) ?_
  refine g_aload_n C dL_onStage_2 rfl rfl ?_
  refine g_iload_n C dL_onStage_3 rfl rfl ?_
  refine g_callV C gy_X5_onStage tw_5_14 tw_5_15 tw_5_16 (by decide) (kk := 5) rfl rfl (by exact hI.1) (c_onStage F S x y A B hI) rfl rfl (Nat.le_of_ble_eq_true rfl) (by omega) (by omega) dL_onStage_4 ?_ ?_
  · rintro E S1 ⟨k, B', v, A', hk, hs, hI1, hF⟩
    obtain ⟨rfl, rfl⟩ := hk
    refine g_catch C (pre := []) (suf := []) (f := 0) (t := 9) (h := 12) (ct := 13) Tb (by intro z9 hz; cases hz) (by decide) (by decide) tw_3_122 tw_2_184 (fun q => ?_)
    refine g_astore_n C dL_onStage_12 rfl (by decide) rfl ?_
    refine g_iconst C dL_onStage_13 (v := 1) (by decide) ?_
    refine g_iret C R rfl (by omega) (by omega) dL_onStage_14 ?_
    exact LwP.thrown hF hI1 hs (by decide) (by decide)
  · rintro _ S1 ⟨B', v, A', hs, hI1, hF, rfl⟩
    have ho1 : al S1 o 10 := ho.fr hF
    have hn1 : pN S1 o = 1 := ((hF o ho.1).2.2.1).trans hn
    refine g_i2l C dL_onStage_7 ?_
    refine g_stJ C rfl ho1 (by rw [hn1]; decide) (by decide) dL_onStage_8 ?_
    refine g_goto C dL_onStage_9 (tgt := 15) (by decide) ?_
    refine g_iconst C dL_onStage_15 (v := 0) (by decide) ?_
    refine g_iret C R rfl (by omega) (by omega) dL_onStage_16 ?_
    exact LwP.done ho1 hF hI1 hs
theorem gyh_clash : GYH yL_clash cL_clash 5 (some FieldType.int) [(0, 10, 13, 24), (0, 10, 17, 13)] 4 := ⟨tw_5_20, tw_1_0, ⟨by decide +kernel, by decide +kernel⟩, by decide +kernel, by decide⟩
theorem lw_clash {Γ : GBase} (F : FB Γ) (S : PS) (x o : Nat) (y z : Int32) (A : AD) (B : BT) (hI : BkI Γ S x A B) (ho : al S o 10) (hn : pN S o = 1) (hw : al S (pW S o) 6) : GMetH Γ yL_clash cL_clash 5 (some FieldType.int) [(0, 10, 13, 24), (0, 10, 17, 13)] 11 3 18 [.ref x, .int y, .int z, .ref o] S (fun r S' => LwP Γ S S' x o (spClash B y z) r) := by
  refine GMetH.of (loc0 := [(0, .ref x), (1, .int y), (2, .int z), (3, .ref o)]) F (by decide +kernel) rfl (Nat.le_of_ble_eq_true rfl) (fun X C R Tb => ?_)
  refine g_aload_n C dL_clash_0 rfl rfl ?_
  refine g_iconst C dL_clash_1 (v := 0) (by decide) ?_
  refine g_aload_n C dL_clash_2 rfl rfl ?_
  refine g_iload_n C dL_clash_3 rfl rfl ?_
  refine g_iload_n C dL_clash_4 rfl rfl ?_
  refine g_callV C gy_X5_clash tw_5_21 tw_5_22 tw_5_23 (by decide) (kk := 5) rfl rfl (by exact hI.1) (c_clash F S x y z A B hI) rfl rfl (Nat.le_of_ble_eq_true rfl) (by omega) (by omega) dL_clash_5 ?_ ?_
  · rintro E S1 ⟨k, B', v, A', hk, hs, hI1, hF⟩
    rcases hk with ⟨rfl, rfl⟩ | ⟨rfl, rfl⟩
    · refine g_catch C (pre := []) (suf := [(0, 10, 17, 13)]) (f := 0) (t := 10) (h := 13) (ct := 24) Tb (by intro z9 hz; cases hz) (by decide) (by decide) tw_3_233 tw_1_164 (fun q => ?_)
      refine g_astore C dL_clash_13 (by decide) rfl ?_
      refine g_iconst C dL_clash_15 (v := 1) (by decide) ?_
      refine g_iret C R rfl (by omega) (by omega) dL_clash_16 ?_
      exact LwP.thrown hF hI1 hs (by decide) (by decide)
    · refine g_catch C (pre := [(0, 10, 13, 24)]) (suf := []) (f := 0) (t := 10) (h := 17) (ct := 13) Tb (by
        intro z9 hz
        rw [List.mem_singleton.mp hz]
        exact ⟨by decide, _, tw_3_233, nc_2 F⟩) (by decide) (by decide) tw_3_122 tw_2_184 (fun q => ?_)
      refine g_astore C dL_clash_17 (by decide) rfl ?_
      refine g_iconst C dL_clash_19 (v := 2) (by decide) ?_
      refine g_iret C R rfl (by omega) (by omega) dL_clash_20 ?_
      exact LwP.thrown hF hI1 hs (by decide) (by decide)
  · rintro _ S1 ⟨B', v, A', hs, hI1, hF, rfl⟩
    have ho1 : al S1 o 10 := ho.fr hF
    have hn1 : pN S1 o = 1 := ((hF o ho.1).2.2.1).trans hn
    refine g_i2l C dL_clash_8 ?_
    refine g_stJ C rfl ho1 (by rw [hn1]; decide) (by decide) dL_clash_9 ?_
    refine g_goto C dL_clash_10 (tgt := 21) (by decide) ?_
    refine g_iconst C dL_clash_21 (v := 0) (by decide) ?_
    refine g_iret C R rfl (by omega) (by omega) dL_clash_22 ?_
    exact LwP.done ho1 hF hI1 hs
theorem gyh_beats : GYH yL_beats cL_beats 4 (some FieldType.int) [(0, 9, 12, 24)] 3 := ⟨tw_5_28, tw_1_0, ⟨by decide +kernel, by decide +kernel⟩, by decide +kernel, by decide⟩
theorem lw_beats {Γ : GBase} (F : FB Γ) (S : PS) (x o : Nat) (y : Int32) (A : AD) (B : BT) (hI : BkI Γ S x A B) (ho : al S o 10) (hn : pN S o = 1) (hw : al S (pW S o) 6) : GMetH Γ yL_beats cL_beats 4 (some FieldType.int) [(0, 9, 12, 24)] 11 1 6 [.ref x, .int y, .ref o] S (fun r S' => LwP Γ S S' x o (spBeats B y) r) := by
  refine GMetH.of (loc0 := [(0, .ref x), (1, .int y), (2, .ref o)]) F (by decide +kernel) rfl (Nat.le_of_ble_eq_true rfl) (fun X C R Tb => ?_)
  refine g_aload_n C dL_beats_0 rfl rfl ?_
  refine g_iconst C dL_beats_1 (v := 0) (by decide) ?_
  refine g_aload_n C dL_beats_2 rfl rfl ?_
  refine g_iload_n C dL_beats_3 rfl rfl ?_
  refine g_callV C gy_X5_beats tw_5_29 tw_5_30 tw_5_31 (by decide) (kk := 5) rfl rfl (by exact hI.1) (c_beats F S x y A B hI) rfl rfl (Nat.le_of_ble_eq_true rfl) (by omega) (by omega) dL_beats_4 ?_ ?_
  · rintro E S1 ⟨k, B', v, A', hk, hs, hI1, hF⟩
    obtain ⟨rfl, rfl⟩ := hk
    refine g_catch C (pre := []) (suf := []) (f := 0) (t := 9) (h := 12) (ct := 24) Tb (by intro z9 hz; cases hz) (by decide) (by decide) tw_3_233 tw_1_164 (fun q => ?_)
    refine g_astore_n C dL_beats_12 rfl (by decide) rfl ?_
    refine g_iconst C dL_beats_13 (v := 1) (by decide) ?_
    refine g_iret C R rfl (by omega) (by omega) dL_beats_14 ?_
    exact LwP.thrown hF hI1 hs (by decide) (by decide)
  · rintro _ S1 ⟨B', v, A', hs, hI1, hF, rfl⟩
    have ho1 : al S1 o 10 := ho.fr hF
    have hn1 : pN S1 o = 1 := ((hF o ho.1).2.2.1).trans hn
    refine g_i2l C dL_beats_7 ?_
    refine g_stJ C rfl ho1 (by rw [hn1]; decide) (by decide) dL_beats_8 ?_
    refine g_goto C dL_beats_9 (tgt := 15) (by decide) ?_
    refine g_iconst C dL_beats_15 (v := 0) (by decide) ?_
    refine g_iret C R rfl (by omega) (by omega) dL_beats_16 ?_
    exact LwP.done ho1 hF hI1 hs
theorem gyh_stays : GYH yL_stays cL_stays 4 (some FieldType.int) [(0, 9, 12, 24)] 3 := ⟨tw_5_35, tw_1_0, ⟨by decide +kernel, by decide +kernel⟩, by decide +kernel, by decide⟩
theorem lw_stays {Γ : GBase} (F : FB Γ) (S : PS) (x o : Nat) (y : Int32) (A : AD) (B : BT) (hI : BkI Γ S x A B) (ho : al S o 10) (hn : pN S o = 1) (hw : al S (pW S o) 6) : GMetH Γ yL_stays cL_stays 4 (some FieldType.int) [(0, 9, 12, 24)] 11 1 6 [.ref x, .int y, .ref o] S (fun r S' => LwP Γ S S' x o (spStays B y) r) := by
  refine GMetH.of (loc0 := [(0, .ref x), (1, .int y), (2, .ref o)]) F (by decide +kernel) rfl (Nat.le_of_ble_eq_true rfl) (fun X C R Tb => ?_)
  refine g_aload_n C dL_stays_0 rfl rfl ?_
  refine g_iconst C dL_stays_1 (v := 0) (by decide) ?_
  refine g_aload_n C dL_stays_2 rfl rfl ?_
  refine g_iload_n C dL_stays_3 rfl rfl ?_
  refine g_callV C gy_X5_stays tw_5_36 tw_5_37 tw_5_38 (by decide) (kk := 5) rfl rfl (by exact hI.1) (c_stays F S x y A B hI) rfl rfl (Nat.le_of_ble_eq_true rfl) (by omega) (by omega) dL_stays_4 ?_ ?_
  · rintro E S1 ⟨k, B', v, A', hk, hs, hI1, hF⟩
    obtain ⟨rfl, rfl⟩ := hk
    refine g_catch C (pre := []) (suf := []) (f := 0) (t := 9) (h := 12) (ct := 24) Tb (by intro z9 hz; cases hz) (by decide) (by decide) tw_3_233 tw_1_164 (fun q => ?_)
    refine g_astore_n C dL_stays_12 rfl (by decide) rfl ?_
    refine g_iconst C dL_stays_13 (v := 1) (by decide) ?_
    refine g_iret C R rfl (by omega) (by omega) dL_stays_14 ?_
    exact LwP.thrown hF hI1 hs (by decide) (by decide)
  · rintro _ S1 ⟨B', v, A', hs, hI1, hF, rfl⟩
    have ho1 : al S1 o 10 := ho.fr hF
    have hn1 : pN S1 o = 1 := ((hF o ho.1).2.2.1).trans hn
    refine g_i2l C dL_stays_7 ?_
    refine g_stJ C rfl ho1 (by rw [hn1]; decide) (by decide) dL_stays_8 ?_
    refine g_goto C dL_stays_9 (tgt := 15) (by decide) ?_
    refine g_iconst C dL_stays_15 (v := 0) (by decide) ?_
    refine g_iret C R rfl (by omega) (by omega) dL_stays_16 ?_
    exact LwP.done ho1 hF hI1 hs
theorem gyh_stay : GYH yL_stay cL_stay 6 (some FieldType.int) [(0, 12, 15, 24)] 5 := ⟨tw_5_42, tw_1_0, ⟨by decide +kernel, by decide +kernel⟩, by decide +kernel, by decide⟩
theorem lw_stay {Γ : GBase} (F : FB Γ) (S : PS) (x o : Nat) (y z u : Int32) (A : AD) (B : BT) (hI : BkI Γ S x A B) (ho : al S o 10) (hn : pN S o = 1) (hw : al S (pW S o) 6) : GMetH Γ yL_stay cL_stay 6 (some FieldType.int) [(0, 12, 15, 24)] 11 42 4012 [.ref x, .int y, .int z, .int u, .ref o] S (fun r S' => LwP Γ S S' x o (spStay B y z u) r) := by
  refine GMetH.of (loc0 := [(0, .ref x), (1, .int y), (2, .int z), (3, .int u), (4, .ref o)]) F (by decide +kernel) rfl (Nat.le_of_ble_eq_true rfl) (fun X C R Tb => ?_)
  refine g_aload C dL_stay_0 rfl ?_
  refine g_iconst C dL_stay_2 (v := 0) (by decide) ?_
  refine g_aload_n C dL_stay_3 rfl rfl ?_
  refine g_iload_n C dL_stay_4 rfl rfl ?_
  refine g_iload_n C dL_stay_5 rfl rfl ?_
  refine g_iload_n C dL_stay_6 rfl rfl ?_
  refine g_callV C gy_X5_stay tw_5_43 tw_5_44 tw_5_45 (by decide) (kk := 5) rfl rfl (by exact hI.1) (c_stay F S x y z u A B hI) rfl rfl (Nat.le_of_ble_eq_true rfl) (by omega) (by omega) dL_stay_7 ?_ ?_
  · rintro E S1 ⟨k, B', v, A', hk, hs, hI1, hF⟩
    obtain ⟨rfl, rfl⟩ := hk
    refine g_catch C (pre := []) (suf := []) (f := 0) (t := 12) (h := 15) (ct := 24) Tb (by intro z9 hz; cases hz) (by decide) (by decide) tw_3_233 tw_1_164 (fun q => ?_)
    refine g_astore C dL_stay_15 (by decide) rfl ?_
    refine g_iconst C dL_stay_17 (v := 1) (by decide) ?_
    refine g_iret C R rfl (by omega) (by omega) dL_stay_18 ?_
    exact LwP.thrown hF hI1 hs (by decide) (by decide)
  · rintro _ S1 ⟨B', v, A', hs, hI1, hF, rfl⟩
    have ho1 : al S1 o 10 := ho.fr hF
    have hn1 : pN S1 o = 1 := ((hF o ho.1).2.2.1).trans hn
    refine g_i2l C dL_stay_10 ?_
    refine g_stJ C rfl ho1 (by rw [hn1]; decide) (by decide) dL_stay_11 ?_
    refine g_goto C dL_stay_12 (tgt := 19) (by decide) ?_
    refine g_iconst C dL_stay_19 (v := 0) (by decide) ?_
    refine g_iret C R rfl (by omega) (by omega) dL_stay_20 ?_
    exact LwP.done ho1 hF hI1 hs
theorem gyh_hands : GYH yL_hands cL_hands 5 (some FieldType.int) [(0, 10, 13, 24), (0, 10, 17, 13)] 4 := ⟨tw_5_50, tw_1_0, ⟨by decide +kernel, by decide +kernel⟩, by decide +kernel, by decide⟩
theorem lw_hands {Γ : GBase} (F : FB Γ) (S : PS) (x o : Nat) (y z : Int32) (A : AD) (B : BT) (hI : BkI Γ S x A B) (ho : al S o 10) (hn : pN S o = 1) (hw : al S (pW S o) 6) : GMetH Γ yL_hands cL_hands 5 (some FieldType.int) [(0, 10, 13, 24), (0, 10, 17, 13)] 11 42 4012 [.ref x, .int y, .int z, .ref o] S (fun r S' => LwP Γ S S' x o (spHands B y z) r) := by
  refine GMetH.of (loc0 := [(0, .ref x), (1, .int y), (2, .int z), (3, .ref o)]) F (by decide +kernel) rfl (Nat.le_of_ble_eq_true rfl) (fun X C R Tb => ?_)
  refine g_aload_n C dL_hands_0 rfl rfl ?_
  refine g_iconst C dL_hands_1 (v := 0) (by decide) ?_
  refine g_aload_n C dL_hands_2 rfl rfl ?_
  refine g_iload_n C dL_hands_3 rfl rfl ?_
  refine g_iload_n C dL_hands_4 rfl rfl ?_
  refine g_callV C gy_X5_hands tw_5_51 tw_5_52 tw_5_53 (by decide) (kk := 5) rfl rfl (by exact hI.1) (c_hands F S x y z A B hI) rfl rfl (Nat.le_of_ble_eq_true rfl) (by omega) (by omega) dL_hands_5 ?_ ?_
  · rintro E S1 ⟨k, B', v, A', hk, hs, hI1, hF⟩
    rcases hk with ⟨rfl, rfl⟩ | ⟨rfl, rfl⟩
    · refine g_catch C (pre := []) (suf := [(0, 10, 17, 13)]) (f := 0) (t := 10) (h := 13) (ct := 24) Tb (by intro z9 hz; cases hz) (by decide) (by decide) tw_3_233 tw_1_164 (fun q => ?_)
      refine g_astore C dL_hands_13 (by decide) rfl ?_
      refine g_iconst C dL_hands_15 (v := 1) (by decide) ?_
      refine g_iret C R rfl (by omega) (by omega) dL_hands_16 ?_
      exact LwP.thrown hF hI1 hs (by decide) (by decide)
    · refine g_catch C (pre := [(0, 10, 13, 24)]) (suf := []) (f := 0) (t := 10) (h := 17) (ct := 13) Tb (by
        intro z9 hz
        rw [List.mem_singleton.mp hz]
        exact ⟨by decide, _, tw_3_233, nc_2 F⟩) (by decide) (by decide) tw_3_122 tw_2_184 (fun q => ?_)
      refine g_astore C dL_hands_17 (by decide) rfl ?_
      refine g_iconst C dL_hands_19 (v := 2) (by decide) ?_
      refine g_iret C R rfl (by omega) (by omega) dL_hands_20 ?_
      exact LwP.thrown hF hI1 hs (by decide) (by decide)
  · rintro _ S1 ⟨B', v, A', hs, hI1, hF, rfl⟩
    have ho1 : al S1 o 10 := ho.fr hF
    have hn1 : pN S1 o = 1 := ((hF o ho.1).2.2.1).trans hn
    refine g_i2l C dL_hands_8 ?_
    refine g_stJ C rfl ho1 (by rw [hn1]; decide) (by decide) dL_hands_9 ?_
    refine g_goto C dL_hands_10 (tgt := 21) (by decide) ?_
    refine g_iconst C dL_hands_21 (v := 0) (by decide) ?_
    refine g_iret C R rfl (by omega) (by omega) dL_hands_22 ?_
    exact LwP.done ho1 hF hI1 hs
theorem gyh_load : GYH yL_load cL_load 4 (some FieldType.int) [(0, 9, 12, 24)] 3 := ⟨tw_5_62, tw_1_0, ⟨by decide +kernel, by decide +kernel⟩, by decide +kernel, by decide⟩
theorem lw_load {Γ : GBase} (F : FB Γ) (S : PS) (x o : Nat) (y : Int32) (A : AD) (B : BT) (hI : BkI Γ S x A B) (ho : al S o 10) (hn : pN S o = 1) (hw : al S (pW S o) 6) : GMetH Γ yL_load cL_load 4 (some FieldType.int) [(0, 9, 12, 24)] 11 41 4006 [.ref x, .int y, .ref o] S (fun r S' => LwP Γ S S' x o (spLoad B y) r) := by
  refine GMetH.of (loc0 := [(0, .ref x), (1, .int y), (2, .ref o)]) F (by decide +kernel) rfl (Nat.le_of_ble_eq_true rfl) (fun X C R Tb => ?_)
  refine g_aload_n C dL_load_0 rfl rfl ?_
  refine g_iconst C dL_load_1 (v := 0) (by decide) ?_
  refine g_aload_n C dL_load_2 rfl rfl ?_
  refine g_iload_n C dL_load_3 rfl rfl ?_
  refine g_callV C gy_X5_load tw_5_63 tw_5_64 tw_5_65 (by decide) (kk := 5) rfl rfl (by exact hI.1) (c_load F S x y A B hI) rfl rfl (Nat.le_of_ble_eq_true rfl) (by omega) (by omega) dL_load_4 ?_ ?_
  · rintro E S1 ⟨k, B', v, A', hk, hs, hI1, hF⟩
    obtain ⟨rfl, rfl⟩ := hk
    refine g_catch C (pre := []) (suf := []) (f := 0) (t := 9) (h := 12) (ct := 24) Tb (by intro z9 hz; cases hz) (by decide) (by decide) tw_3_233 tw_1_164 (fun q => ?_)
    refine g_astore_n C dL_load_12 rfl (by decide) rfl ?_
    refine g_iconst C dL_load_13 (v := 1) (by decide) ?_
    refine g_iret C R rfl (by omega) (by omega) dL_load_14 ?_
    exact LwP.thrown hF hI1 hs (by decide) (by decide)
  · rintro _ S1 ⟨B', v, A', hs, hI1, hF, rfl⟩
    have ho1 : al S1 o 10 := ho.fr hF
    have hn1 : pN S1 o = 1 := ((hF o ho.1).2.2.1).trans hn
    refine g_i2l C dL_load_7 ?_
    refine g_stJ C rfl ho1 (by rw [hn1]; decide) (by decide) dL_load_8 ?_
    refine g_goto C dL_load_9 (tgt := 15) (by decide) ?_
    refine g_iconst C dL_load_15 (v := 0) (by decide) ?_
    refine g_iret C R rfl (by omega) (by omega) dL_load_16 ?_
    exact LwP.done ho1 hF hI1 hs
theorem gyh_note : GYH yL_note cL_note 5 (some FieldType.int) [(0, 10, 13, 24), (0, 10, 17, 13), (0, 10, 21, 15)] 4 := ⟨tw_5_69, tw_1_0, ⟨by decide +kernel, by decide +kernel⟩, by decide +kernel, by decide⟩
theorem lw_note {Γ : GBase} (F : FB Γ) (S : PS) (x o : Nat) (y z : Int32) (A : AD) (B : BT) (hI : BkI Γ S x A B) (ho : al S o 10) (hn : pN S o = 1) (hw : al S (pW S o) 6) : GMetH Γ yL_note cL_note 5 (some FieldType.int) [(0, 10, 13, 24), (0, 10, 17, 13), (0, 10, 21, 15)] 11 2 12 [.ref x, .int y, .int z, .ref o] S (fun r S' => LwP Γ S S' x o (spNote B y z) r) := by
  refine GMetH.of (loc0 := [(0, .ref x), (1, .int y), (2, .int z), (3, .ref o)]) F (by decide +kernel) rfl (Nat.le_of_ble_eq_true rfl) (fun X C R Tb => ?_)
  refine g_aload_n C dL_note_0 rfl rfl ?_
  refine g_iconst C dL_note_1 (v := 0) (by decide) ?_
  refine g_aload_n C dL_note_2 rfl rfl ?_
  refine g_iload_n C dL_note_3 rfl rfl ?_
  refine g_iload_n C dL_note_4 rfl rfl ?_
  refine g_callV C gy_X5_note tw_5_70 tw_5_71 tw_5_72 (by decide) (kk := 5) rfl rfl (by exact hI.1) (c_note F S x y z A B hI) rfl rfl (Nat.le_of_ble_eq_true rfl) (by omega) (by omega) dL_note_5 ?_ ?_
  · rintro E S1 ⟨k, B', v, A', hk, hs, hI1, hF⟩
    rcases hk with ⟨rfl, rfl⟩ | ⟨rfl, rfl⟩ | ⟨rfl, rfl⟩
    · refine g_catch C (pre := []) (suf := [(0, 10, 17, 13), (0, 10, 21, 15)]) (f := 0) (t := 10) (h := 13) (ct := 24) Tb (by intro z9 hz; cases hz) (by decide) (by decide) tw_3_233 tw_1_164 (fun q => ?_)
      refine g_astore C dL_note_13 (by decide) rfl ?_
      refine g_iconst C dL_note_15 (v := 1) (by decide) ?_
      refine g_iret C R rfl (by omega) (by omega) dL_note_16 ?_
      exact LwP.thrown hF hI1 hs (by decide) (by decide)
    · refine g_catch C (pre := [(0, 10, 13, 24)]) (suf := [(0, 10, 21, 15)]) (f := 0) (t := 10) (h := 17) (ct := 13) Tb (by
        intro z9 hz
        rw [List.mem_singleton.mp hz]
        exact ⟨by decide, _, tw_3_233, nc_2 F⟩) (by decide) (by decide) tw_3_122 tw_2_184 (fun q => ?_)
      refine g_astore C dL_note_17 (by decide) rfl ?_
      refine g_iconst C dL_note_19 (v := 2) (by decide) ?_
      refine g_iret C R rfl (by omega) (by omega) dL_note_20 ?_
      exact LwP.thrown hF hI1 hs (by decide) (by decide)
    · refine g_catch C (pre := [(0, 10, 13, 24), (0, 10, 17, 13)]) (suf := []) (f := 0) (t := 10) (h := 21) (ct := 15) Tb (by
        intro z9 hz
        rcases List.mem_cons.mp hz with rfl | hz
        · exact ⟨by decide, _, tw_3_233, nc_3 F⟩
        rw [List.mem_singleton.mp hz]
        exact ⟨by decide, _, tw_3_122, nc_1 F⟩) (by decide) (by decide) tw_3_123 tw_3_134 (fun q => ?_)
      refine g_astore C dL_note_21 (by decide) rfl ?_
      refine g_iconst C dL_note_23 (v := 3) (by decide) ?_
      refine g_iret C R rfl (by omega) (by omega) dL_note_24 ?_
      exact LwP.thrown hF hI1 hs (by decide) (by decide)
  · rintro _ S1 ⟨B', v, A', hs, hI1, hF, rfl⟩
    have ho1 : al S1 o 10 := ho.fr hF
    have hn1 : pN S1 o = 1 := ((hF o ho.1).2.2.1).trans hn
    refine g_i2l C dL_note_8 ?_
    refine g_stJ C rfl ho1 (by rw [hn1]; decide) (by decide) dL_note_9 ?_
    refine g_goto C dL_note_10 (tgt := 25) (by decide) ?_
    refine g_iconst C dL_note_25 (v := 0) (by decide) ?_
    refine g_iret C R rfl (by omega) (by omega) dL_note_26 ?_
    exact LwP.done ho1 hF hI1 hs
