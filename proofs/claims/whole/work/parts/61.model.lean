/-! ===== the model's world ===== -/
def rlen (f : Nat) : Nat := if f = 194 ∨ f = 195 ∨ f = 210 then 8 else if f = 197 ∨ f = 198 then 5 else if f = 200 then 200 else if f = 201 ∨ f = 203 ∨ f = 204 ∨ f = 205 then 40 else if f = 207 ∨ f = 208 ∨ f = 209 then 8000 else 320
def rkind (f : Nat) : Nat := if f = 201 then 9 else 8
def isRw (f : Nat) : Prop := 194 ≤ f ∧ f ≤ 213 ∧ f ≠ 196 ∧ f ≠ 199 ∧ f ≠ 202 ∧ f ≠ 206
/-- the model's rows: their addresses rw -/
def MdF (S : PS) (m : Nat) (rw : Nat → Nat) : Prop := al S m 6 ∧ (∀ f, isRw f → pP S f m = some (rw f) ∧ al S (rw f) (rkind f) ∧ pN S (rw f) = rlen f ∧ pW S (rw f) = m) ∧ ∀ f g, isRw f → isRw g → f ≠ g → rw f ≠ rw g
/-- what the model's table says of the first nc cues -/
def TabV (S : PS) (m : Nat) (rw : Nat → Nat) (nc : Nat) (cu : Nat → Nat × D4) (sk : Nat → Bool) : Prop := pI S 199 m = nI nc ∧ nc ≤ 40 ∧ (∀ c, c < nc → okD (cu c).2 ∧ (cu c).1 < 8 ∧ pR S (rw 201) c = (if sk c = true then 1 else 0)) ∧ ∀ c w, c < nc → w < 5 → pR S (rw 200) (5 * c + w) = cueW (cu c) w
theorem MdF.r {S : PS} {m : Nat} {rw : Nat → Nat} (h : MdF S m rw) {f : Nat} (hf : isRw f) : pP S f m = some (rw f) := (h.2.1 f hf).1
theorem MdF.i {S : PS} {m : Nat} {rw : Nat → Nat} (h : MdF S m rw) {f : Nat} (hf : isRw f) (h2 : rkind f = 8) : al S (rw f) 8 := h2 ▸ (h.2.1 f hf).2.1
theorem MdF.z {S : PS} {m : Nat} {rw : Nat → Nat} (h : MdF S m rw) : al S (rw 201) 9 := (h.2.1 201 (by unfold isRw; omega)).2.1
theorem MdF.n {S : PS} {m : Nat} {rw : Nat → Nat} (h : MdF S m rw) {f : Nat} (hf : isRw f) {n : Nat} (h2 : rlen f = n) : pN S (rw f) = n := (h.2.1 f hf).2.2.1.trans h2
theorem md_kind {Γ : GBase} (F : FB Γ) (S : PS) (m c nc : Nat) (rw : Nat → Nat) (cu : Nat → Nat × D4) (sk : Nat → Bool) (hM : MdF S m rw) (hT : TabV S m rw nc cu sk) (hc : c < nc) : GMet Γ yX6_kind cX6_kind 2 ((some FieldType.int)) 0 0 0 [.ref m, .int (nI c)] S (fun r S' => S = S' ∧ r = some (.int (nI (cu c).2.1))) noX := by
  have h40 := hT.2.1
  have r0 : isRw 200 := by unfold isRw; omega
  refine GMet.of (loc0 := [(0, .ref m), (1, .int (nI c))]) F (by decide +kernel) rfl (Nat.le_of_ble_eq_true rfl) (fun X C R Tb nm => ?_)
  refine g_aload_n C dX6_kind_0 rfl rfl ?_
  refine ge_Model_table C tw_5_97 (by exact hM.1) (by exact hM.r r0) dX6_kind_1 ?_
  refine g_iconst C dX6_kind_4 (v := 5) (by decide) ?_
  refine g_iload_n C dX6_kind_5 rfl rfl ?_
  rw [show (5 : Int32) = nI 5 from rfl]
  refine g_imul C dX6_kind_6 ?_
  rw [pk_mul]
  refine g_ldI C rfl (hM.i r0 rfl) (by rw [hM.n r0 (n := 200) rfl]; omega) (by omega) (hT.2.2.2 c 0 hc (by decide)) dX6_kind_7 ?_
  refine g_iret C R rfl (by omega) (by omega) dX6_kind_8 ?_
  exact ⟨rfl, rfl⟩
theorem md_beat {Γ : GBase} (F : FB Γ) (S : PS) (m c nc : Nat) (rw : Nat → Nat) (cu : Nat → Nat × D4) (sk : Nat → Bool) (hM : MdF S m rw) (hT : TabV S m rw nc cu sk) (hc : c < nc) : GMet Γ yX6_beat cX6_beat 2 ((some FieldType.int)) 0 0 0 [.ref m, .int (nI c)] S (fun r S' => S = S' ∧ r = some (.int (nI (cu c).2.2.1))) noX := by
  have h40 := hT.2.1
  have r0 : isRw 200 := by unfold isRw; omega
  refine GMet.of (loc0 := [(0, .ref m), (1, .int (nI c))]) F (by decide +kernel) rfl (Nat.le_of_ble_eq_true rfl) (fun X C R Tb nm => ?_)
  refine g_aload_n C dX6_beat_0 rfl rfl ?_
  refine ge_Model_table C tw_5_97 (by exact hM.1) (by exact hM.r r0) dX6_beat_1 ?_
  refine g_iconst C dX6_beat_4 (v := 5) (by decide) ?_
  refine g_iload_n C dX6_beat_5 rfl rfl ?_
  rw [show (5 : Int32) = nI 5 from rfl]
  refine g_imul C dX6_beat_6 ?_
  refine g_iconst C dX6_beat_7 (v := 2) (by decide) ?_
  rw [pk_mul, show (2 : Int32) = nI 2 from rfl]
  refine g_iadd C dX6_beat_8 ?_
  rw [nI_add]
  refine g_ldI C rfl (hM.i r0 rfl) (by rw [hM.n r0 (n := 200) rfl]; omega) (by omega) (hT.2.2.2 c 2 hc (by decide)) dX6_beat_9 ?_
  refine g_iret C R rfl (by omega) (by omega) dX6_beat_10 ?_
  exact ⟨rfl, rfl⟩
theorem md_isIn {Γ : GBase} (F : FB Γ) (S : PS) (x y z : Int32) : GMet Γ yX6_isIn cX6_isIn 3 ((some FieldType.boolean)) 0 0 0 [.int x, .int y, .int z] S (fun r S' => S = S' ∧ ∃ v, isB v (¬ x < y ∧ x ≤ z) ∧ r = some (.int v)) noX := by
  refine GMet.of (loc0 := [(0, .int x), (1, .int y), (2, .int z)]) F (by decide +kernel) rfl (Nat.le_of_ble_eq_true rfl) (fun X C R Tb nm => ?_)
  refine g_iload_n C dX6_isIn_0 rfl rfl ?_
  refine g_iload_n C dX6_isIn_1 rfl rfl ?_
  refine g_icmp_lt C dX6_isIn_2 (tgt := 14) (by decide) (fun c1 => ?_) (fun c1 => ?_)
  · refine g_iconst C dX6_isIn_14 (v := 0) (by decide) ?_
    refine g_iret C R rfl (by omega) (by omega) dX6_isIn_15 ?_
    exact ⟨rfl, 0, Or.inr ⟨rfl, fun h => h.1 c1⟩, rfl⟩
  · refine g_iload_n C dX6_isIn_5 rfl rfl ?_
    refine g_iload_n C dX6_isIn_6 rfl rfl ?_
    refine g_icmp_gt C dX6_isIn_7 (tgt := 14) (by decide) (fun c2 => ?_) (fun c2 => ?_)
    · refine g_iconst C dX6_isIn_14 (v := 0) (by decide) ?_
      refine g_iret C R rfl (by omega) (by omega) dX6_isIn_15 ?_
      refine ⟨rfl, 0, Or.inr ⟨rfl, fun h => ?_⟩, rfl⟩
      have h2 := h.2
      rw [Int32.le_iff_toInt_le] at h2
      rw [Int32.lt_iff_toInt_lt] at c2
      omega
    · refine g_iconst C dX6_isIn_10 (v := 1) (by decide) ?_
      refine g_goto C dX6_isIn_11 (tgt := 15) (by decide) ?_
      refine g_iret C R rfl (by omega) (by omega) dX6_isIn_15 ?_
      refine ⟨rfl, 1, Or.inl ⟨rfl, c1, ?_⟩, rfl⟩
      rw [Int32.lt_iff_toInt_lt] at c2
      rw [Int32.le_iff_toInt_le]
      omega
theorem inR_in {x : Int32} {n : Nat} (hn : n < 2147483647) : (¬ x < 0 ∧ x ≤ nI n - 1) ↔ inR x n := by
  cases n with
  | zero =>
    constructor
    · rintro ⟨h1, h2⟩
      obtain ⟨i, hi, rfl⟩ := nn_ex h1
      have e : nI 0 - 1 = (-1 : Int32) := by decide
      rw [e] at h2
      exact absurd h2 (nI_gt_m1 hi)
    · rintro ⟨i, hi, _⟩; omega
  | succ n =>
    rw [nI_pred]
    constructor
    · rintro ⟨h1, h2⟩
      obtain ⟨i, hi, rfl⟩ := nn_ex h1
      exact ⟨i, by have := (nI_leI (by omega) (by omega)).mp h2; omega, rfl⟩
    · rintro ⟨i, hi, rfl⟩
      exact ⟨nI_pos (by omega), nI_le (by omega) (by omega)⟩
theorem isB.nar {v : Int32} {P : Prop} (h : isB v P) : narrow FieldType.boolean (Value.int v) = Value.int v := by
  rcases h with ⟨rfl, _⟩ | ⟨rfl, _⟩
  · rfl
  · rfl
theorem md_isPuppet {Γ : GBase} (F : FB Γ) (S : PS) (m n : Nat) (y : Int32) (hm : al S m 6) (hn : pI S 193 m = nI n) (h8 : n ≤ 8) : GMet Γ yX6_isPuppet cX6_isPuppet 2 ((some FieldType.boolean)) 1 0 0 [.ref m, .int y] S (fun r S' => S = S' ∧ ∃ v, isB v (inR y n) ∧ r = some (.int v)) noX := by
  refine GMet.of (loc0 := [(0, .ref m), (1, .int y)]) F (by decide +kernel) rfl (Nat.le_of_ble_eq_true rfl) (fun X C R Tb nm => ?_)
  refine g_iload_n C dX6_isPuppet_0 rfl rfl ?_
  refine g_iconst C dX6_isPuppet_1 (v := 0) (by decide) ?_
  refine g_aload_n C dX6_isPuppet_2 rfl rfl ?_
  refine ge_Model_puppets C tw_5_90 (by exact hm) (by exact hn) dX6_isPuppet_3 ?_
  refine g_iconst C dX6_isPuppet_6 (v := 1) (by decide) ?_
  refine g_isub C dX6_isPuppet_7 ?_
  refine g_callS C gy_X6_isIn tw_5_165 tw_5_166 (by decide) (md_isIn F S y 0 (nI n - 1)) rfl rfl (Nat.le_of_ble_eq_true rfl) (by omega) (by omega) dX6_isPuppet_8 (fun _ _ h9 => h9.elim) ?_
  rintro _ _ ⟨rfl, v, hv, rfl⟩
  refine g_iret C R hv.nar (by omega) (by omega) dX6_isPuppet_11 ?_
  rw [inR_in (by omega)] at hv
  exact ⟨rfl, v, hv, rfl⟩
theorem md_isPlayer {Γ : GBase} (F : FB Γ) (S : PS) (m n : Nat) (y : Int32) (hm : al S m 6) (hn : pI S 196 m = nI n) (h8 : n ≤ 8) : GMet Γ yX6_isPlayer cX6_isPlayer 2 ((some FieldType.boolean)) 1 0 0 [.ref m, .int y] S (fun r S' => S = S' ∧ ∃ v, isB v (inR y n) ∧ r = some (.int v)) noX := by
  refine GMet.of (loc0 := [(0, .ref m), (1, .int y)]) F (by decide +kernel) rfl (Nat.le_of_ble_eq_true rfl) (fun X C R Tb nm => ?_)
  refine g_iload_n C dX6_isPlayer_0 rfl rfl ?_
  refine g_iconst C dX6_isPlayer_1 (v := 0) (by decide) ?_
  refine g_aload_n C dX6_isPlayer_2 rfl rfl ?_
  refine ge_Model_players C tw_5_93 (by exact hm) (by exact hn) dX6_isPlayer_3 ?_
  refine g_iconst C dX6_isPlayer_6 (v := 1) (by decide) ?_
  refine g_isub C dX6_isPlayer_7 ?_
  refine g_callS C gy_X6_isIn tw_5_165 tw_5_166 (by decide) (md_isIn F S y 0 (nI n - 1)) rfl rfl (Nat.le_of_ble_eq_true rfl) (by omega) (by omega) dX6_isPlayer_8 (fun _ _ h9 => h9.elim) ?_
  rintro _ _ ⟨rfl, v, hv, rfl⟩
  refine g_iret C R hv.nar (by omega) (by omega) dX6_isPlayer_11 ?_
  rw [inR_in (by omega)] at hv
  exact ⟨rfl, v, hv, rfl⟩
theorem md_isBeat {Γ : GBase} (F : FB Γ) (S : PS) (y : Int32) : GMet Γ yX6_isBeat cX6_isBeat 1 ((some FieldType.boolean)) 1 0 0 [.int y] S (fun r S' => S = S' ∧ ∃ v, isB v (inR y 1000) ∧ r = some (.int v)) noX := by
  refine GMet.of (loc0 := [(0, .int y)]) F (by decide +kernel) rfl (Nat.le_of_ble_eq_true rfl) (fun X C R Tb nm => ?_)
  refine g_iload_n C dX6_isBeat_0 rfl rfl ?_
  refine g_iconst C dX6_isBeat_1 (v := 0) (by decide) ?_
  refine g_sipush C dX6_isBeat_2 (v := 999) (by decide) ?_
  refine g_callS C gy_X6_isIn tw_5_165 tw_5_166 (by decide) (md_isIn F S y 0 999) rfl rfl (Nat.le_of_ble_eq_true rfl) (by omega) (by omega) dX6_isBeat_5 (fun _ _ h9 => h9.elim) ?_
  rintro _ _ ⟨rfl, v, hv, rfl⟩
  refine g_iret C R hv.nar (by omega) (by omega) dX6_isBeat_8 ?_
  rw [show (999 : Int32) = nI 1000 - 1 from by decide, inR_in (by omega)] at hv
  exact ⟨rfl, v, hv, rfl⟩
