theorem i_194 : isRw 194 := by unfold isRw; omega
theorem i_195 : isRw 195 := by unfold isRw; omega
theorem i_197 : isRw 197 := by unfold isRw; omega
theorem i_198 : isRw 198 := by unfold isRw; omega
theorem i_200 : isRw 200 := by unfold isRw; omega
theorem i_201 : isRw 201 := by unfold isRw; omega
theorem i_203 : isRw 203 := by unfold isRw; omega
theorem i_204 : isRw 204 := by unfold isRw; omega
theorem i_205 : isRw 205 := by unfold isRw; omega
theorem i_207 : isRw 207 := by unfold isRw; omega
theorem i_208 : isRw 208 := by unfold isRw; omega
theorem i_209 : isRw 209 := by unfold isRw; omega
theorem i_210 : isRw 210 := by unfold isRw; omega
theorem i_211 : isRw 211 := by unfold isRw; omega
theorem i_212 : isRw 212 := by unfold isRw; omega
theorem i_213 : isRw 213 := by unfold isRw; omega
theorem MdF.lt {S : PS} {m : Nat} {rr : Nat → Nat} (h : MdF S m rr) {f : Nat} (hf : isRw f) {n j : Nat} (h2 : rlen f = n) (hj : j < n) : j < pN S (rr f) := by rw [h.n hf h2]; exact hj
theorem Kp.i {S S' : PS} {m : Nat} {rr : Nat → Nat} {Fs Gs : Nat → Prop} (h : Kp S S' m rr Fs Gs) {f : Nat} (hf : ¬ Fs f) : pI S' f m = pI S f m := (h.2.1 f hf).1
theorem Kp.r {S S' : PS} {m : Nat} {rr : Nat → Nat} {Fs Gs : Nat → Prop} (h : Kp S S' m rr Fs Gs) {f : Nat} (hr : isRw f) (hf : ¬ Gs f) : pR S' (rr f) = pR S (rr f) := (h.2.2 f hr).2.2 hf
theorem in1_in {x : Int32} {n : Nat} (hn : n < 2147483648) : (¬ x < 1 ∧ x ≤ nI n) ↔ in1 x n :=
  ⟨fun h => in1_of hn h.1 h.2, fun h => ⟨fun q => in1_lt hn q h, Classical.byContradiction (fun q => in1_gt hn q h)⟩⟩
def spCue (B : BT) (y z : Int32) (k : Nat) (B' : BT) (v : Int32) : Prop := (k = 1 ∧ B' = B ∧ (noC B y ∨ ¬ inR z 5)) ∨ (k = 0 ∧ B' = B ∧ ∃ c w, isC B y c ∧ w < 5 ∧ z = nI w ∧ v = cueW (tU B c) w)
theorem noC_of {B : BT} {y : Int32} (h : ¬ ∃ c, isC B y c) : noC B y := fun c hc => h ⟨c, hc⟩
theorem md_cue {Γ : GBase} (F : FB Γ) (S : PS) (m : Nat) (y z : Int32) (rr : Nat → Nat) (B : BT) (hI : MdI S m rr B) : GMet Γ yX6_cue cX6_cue 3 ((some FieldType.int)) 2 0 0 [.ref m, .int y, .int z] S (fun r S' => MdO S S' m rr (spCue B y z) r) noX := by
  have hB1 : MdB (uI S 192 m 0) m rr B := (hI.thr 0).1
  have h40 := hB1.v.2.2.1
  refine GMet.of (loc0 := [(0, .ref m), (1, .int y), (2, .int z)]) F (by decide +kernel) rfl (Nat.le_of_ble_eq_true rfl) (fun X C R Tb nm => ?_)
  have no : (noC B y ∨ ¬ inR z 5) → GW Γ X (uI S 192 m 0) 0 0 35 [(0, .ref m), (1, .int y), (2, .int z)] [] := by
    intro h
    refine g_aload_n C dX6_cue_35 rfl rfl ?_
    refine g_iconst C dX6_cue_36 (v := 1) (by decide) ?_
    refine g_callV C gy_X6_fail tw_5_168 tw_5_170 ts_26 (by decide) (kk := 6) rfl rfl (by exact hB1.m) (md_fail F _ m 1 hB1.m) rfl rfl (Nat.le_of_ble_eq_true rfl) (by omega) (by omega) dX6_cue_37 (fun _ _ h9 => h9.elim) ?_
    rintro _ _ ⟨rfl, rfl⟩
    refine g_iret C R rfl (by omega) (by omega) dX6_cue_40 ?_
    exact MdO.no (k := 1) hI (by decide) (fun v => Or.inl ⟨rfl, rfl, h⟩)
  refine g_aload_n C dX6_cue_0 rfl rfl ?_
  refine g_iconst C dX6_cue_1 (v := 0) (by decide) ?_
  refine pu_Model_thrown C tw_5_89 (by exact hI.1.m) dX6_cue_2 ?_
  refine g_aload_n C dX6_cue_5 rfl rfl ?_
  refine g_iload_n C dX6_cue_6 rfl rfl ?_
  refine g_callV C gy_X6_isCue tw_5_232 tw_5_234 ts_35 (by decide) (kk := 6) rfl rfl (by exact hB1.m) (md_isCue F _ m y rr B hB1) rfl rfl (Nat.le_of_ble_eq_true rfl) (by omega) (by omega) dX6_cue_7 (fun _ _ h9 => h9.elim) ?_
  rintro _ _ ⟨rfl, v, hv, rfl⟩
  refine g_if_eq C dX6_cue_10 (tgt := 35) (by decide) (fun c1 => ?_) (fun c1 => ?_)
  · exact no (Or.inl (noC_of (hv.neg c1)))
  · obtain ⟨c, hc⟩ := hv.pos c1
    refine g_iload_n C dX6_cue_13 rfl rfl ?_
    refine g_iconst C dX6_cue_14 (v := 0) (by decide) ?_
    refine g_iconst C dX6_cue_15 (v := 4) (by decide) ?_
    refine g_callS C gy_X6_isIn tw_5_165 tw_5_166 (by decide) (md_isIn F _ z 0 4) rfl rfl (Nat.le_of_ble_eq_true rfl) (by omega) (by omega) dX6_cue_16 (fun _ _ h9 => h9.elim) ?_
    rintro _ _ ⟨rfl, v2, hv2, rfl⟩
    rw [show (4 : Int32) = nI 5 - 1 from by decide, inR_in (by omega)] at hv2
    refine g_if_eq C dX6_cue_19 (tgt := 35) (by decide) (fun c2 => ?_) (fun c2 => ?_)
    · exact no (Or.inr (hv2.neg c2))
    · obtain ⟨w, hw, rfl⟩ := hv2.pos c2
      have hc0 := hc
      obtain ⟨h1, rfl, h3⟩ := hc
      refine g_aload_n C dX6_cue_22 rfl rfl ?_
      refine ge_Model_table C tw_5_97 (by exact hB1.m) (by exact hB1.f.r i_200) dX6_cue_23 ?_
      refine g_iconst C dX6_cue_26 (v := 5) (by decide) ?_
      refine g_iload_n C dX6_cue_27 rfl rfl ?_
      refine g_imul C dX6_cue_28 ?_
      refine g_iload_n C dX6_cue_29 rfl rfl ?_
      refine g_iadd C dX6_cue_30 ?_
      refine g_ldI C (tix c w) (hB1.f.i i_200 rfl) (hB1.f.lt i_200 (n := 200) rfl (by omega)) (by omega) (hB1.tb c w h1 hw) dX6_cue_31 ?_
      refine g_goto C dX6_cue_32 (tgt := 40) (by decide) ?_
      refine g_iret C R rfl (by omega) (by omega) dX6_cue_40 ?_
      exact ⟨0, B, _, _, Or.inr ⟨rfl, rfl, c, w, hc0, hw, rfl, rfl⟩, hI.thr 0, uI_q, FrM.i, rfl, fun _ => rfl⟩
def spAddPuppet (B : BT) (y z : Int32) (k : Nat) (B' : BT) (v : Int32) : Prop := (k = 1 ∧ B' = B ∧ ¬ (in1 y 9 ∧ in1 z 2)) ∨ (k = 2 ∧ B' = B ∧ in1 y 9 ∧ in1 z 2 ∧ 8 ≤ tN B) ∨ (k = 0 ∧ ∃ s o, s ≤ 9 ∧ 1 ≤ s ∧ y = nI s ∧ 1 ≤ o ∧ o ≤ 2 ∧ z = nI o ∧ tN B < 8 ∧ B' = pupB B s o ∧ v = nI (tN B))
theorem MdI.pup {S S' : PS} {m : Nat} {rr : Nat → Nat} {B : BT} {s o : Nat} (h : MdB S m rr B) (k : Kp S S' m rr (fun f => f = 192 ∨ f = 193 ∨ f = 206) (fun g => g = 194 ∨ g = 195)) (e3 : pI S' 193 m = nI (tN B + 1)) (e6 : pI S' 206 m = 0) (h4 : pR S' (rr 194) = va_up (pR S (rr 194)) (tN B) (nI s)) (h5 : pR S' (rr 195) = va_up (pR S (rr 195)) (tN B) (nI o)) (V : VB (pupB B s o)) : MdI S' m rr (pupB B s o) := by
  refine ⟨⟨k.mdF h.f (fun f hf w => by unfold isRw at hf; omega), e3, (k.i (by decide)).trans h.q, (k.i (by decide)).trans h.c, (k.i (by decide)).trans h.k, fun i hi => ?_, fun q hq => ?_, fun c hc => ?_, fun c w hc hw => ?_, V⟩, Or.inl e6⟩
  · rw [h4, h5]
    show va_up (pR S (rr 194)) (tN B) (nI s) i = nI (va_up (tW B) (tN B) s i) ∧ va_up (pR S (rr 195)) (tN B) (nI o) i = nI (va_up (tH B) (tN B) o i)
    have hi' : i < tN B + 1 := hi
    by_cases e : i = tN B
    · subst e
      rw [va_up_self, va_up_self, va_up_self, va_up_self]
      exact ⟨rfl, rfl⟩
    · rw [va_up_ne _ _ e, va_up_ne _ _ e, va_up_ne _ _ e, va_up_ne _ _ e]
      exact h.pu i (by omega)
  · rw [k.r i_197 (by decide), k.r i_198 (by decide)]; exact h.pl q hq
  · rw [k.r i_201 (by decide), k.r i_203 (by decide), k.r i_204 (by decide), k.r i_205 (by decide)]; exact h.cu c hc
  · rw [k.r i_200 (by decide)]; exact h.tb c w hc hw
theorem md_addPuppet {Γ : GBase} (F : FB Γ) (S : PS) (m : Nat) (y z : Int32) (rr : Nat → Nat) (B : BT) (hI : MdI S m rr B) : GMet Γ yX6_addPuppet cX6_addPuppet 3 ((some FieldType.int)) 2 0 0 [.ref m, .int y, .int z] S (fun r S' => MdO S S' m rr (spAddPuppet B y z) r) noX := by
  have hB := hI.1
  have hB1 : MdB (uI S 192 m 0) m rr B := (hI.thr 0).1
  have h8 := hB1.v.1
  refine GMet.of (loc0 := [(0, .ref m), (1, .int y), (2, .int z)]) F (by decide +kernel) rfl (Nat.le_of_ble_eq_true rfl) (fun X C R Tb nm => ?_)
  have no : ¬ (in1 y 9 ∧ in1 z 2) → GW Γ X (uI S 192 m 0) 0 0 24 [(0, .ref m), (1, .int y), (2, .int z)] [] := by
    intro h
    refine g_aload_n C dX6_addPuppet_24 rfl rfl ?_
    refine g_iconst C dX6_addPuppet_25 (v := 1) (by decide) ?_
    refine g_callV C gy_X6_fail tw_5_168 tw_5_170 ts_26 (by decide) (kk := 6) rfl rfl (by exact hB1.m) (md_fail F _ m 1 hB1.m) rfl rfl (Nat.le_of_ble_eq_true rfl) (by omega) (by omega) dX6_addPuppet_26 (fun _ _ h9 => h9.elim) ?_
    rintro _ _ ⟨rfl, rfl⟩
    refine g_iret C R rfl (by omega) (by omega) dX6_addPuppet_29 ?_
    exact MdO.no (k := 1) hI (by decide) (fun v => Or.inl ⟨rfl, rfl, h⟩)
  refine g_aload_n C dX6_addPuppet_0 rfl rfl ?_
  refine g_iconst C dX6_addPuppet_1 (v := 0) (by decide) ?_
  refine pu_Model_thrown C tw_5_89 (by exact hI.1.m) dX6_addPuppet_2 ?_
  refine g_iload_n C dX6_addPuppet_5 rfl rfl ?_
  refine g_iconst C dX6_addPuppet_6 (v := 1) (by decide) ?_
  refine g_bipush C dX6_addPuppet_7 (v := 9) (by decide) ?_
  refine g_callS C gy_X6_isIn tw_5_165 tw_5_166 (by decide) (md_isIn F _ y 1 9) rfl rfl (Nat.le_of_ble_eq_true rfl) (by omega) (by omega) dX6_addPuppet_9 (fun _ _ h9 => h9.elim) ?_
  rintro _ _ ⟨rfl, v, hv, rfl⟩
  rw [show (9 : Int32) = nI 9 from rfl, in1_in (by omega)] at hv
  refine g_if_eq C dX6_addPuppet_12 (tgt := 24) (by decide) (fun c1 => ?_) (fun c1 => ?_)
  · exact no (fun h => hv.neg c1 h.1)
  · have hy := hv.pos c1
    refine g_iload_n C dX6_addPuppet_15 rfl rfl ?_
    refine g_iconst C dX6_addPuppet_16 (v := 1) (by decide) ?_
    refine g_iconst C dX6_addPuppet_17 (v := 2) (by decide) ?_
    refine g_callS C gy_X6_isIn tw_5_165 tw_5_166 (by decide) (md_isIn F _ z 1 2) rfl rfl (Nat.le_of_ble_eq_true rfl) (by omega) (by omega) dX6_addPuppet_18 (fun _ _ h9 => h9.elim) ?_
    rintro _ _ ⟨rfl, v2, hv2, rfl⟩
    rw [show (2 : Int32) = nI 2 from rfl, in1_in (by omega)] at hv2
    refine g_if_ne C dX6_addPuppet_21 (tgt := 30) (by decide) (fun c2 => ?_) (fun c2 => ?_)
    · have hz := hv2.pos c2
      refine g_aload_n C dX6_addPuppet_30 rfl rfl ?_
      refine ge_Model_puppets C tw_5_90 (by exact hB1.m) (by exact hB1.n) dX6_addPuppet_31 ?_
      refine g_bipush C dX6_addPuppet_34 (v := 8) (by decide) ?_
      refine g_icmp_ne C dX6_addPuppet_36 (tgt := 45) (by decide) (fun c3 => ?_) (fun c3 => ?_)
      · have hlt : tN B < 8 := by
          rcases Nat.lt_or_ge (tN B) 8 with w | w
          · exact w
          · exact absurd (by rw [show tN B = 8 by omega]; rfl) c3
        obtain ⟨s, s1, s2, rfl⟩ := hy
        obtain ⟨o, o1, o2, rfl⟩ := hz
        refine g_aload_n C dX6_addPuppet_45 rfl rfl ?_
        refine ge_Model_weights C tw_5_91 (by exact hB1.m) (by exact hB1.f.r i_194) dX6_addPuppet_46 ?_
        refine g_aload_n C dX6_addPuppet_49 rfl rfl ?_
        refine ge_Model_puppets C tw_5_90 (by exact hB1.m) (by exact hB1.n) dX6_addPuppet_50 ?_
        refine g_iload_n C dX6_addPuppet_53 rfl rfl ?_
        refine g_stI C rfl (hB1.f.i i_194 rfl) (hB1.f.lt i_194 (n := 8) rfl hlt) (by omega) dX6_addPuppet_54 ?_
        refine g_aload_n C dX6_addPuppet_55 rfl rfl ?_
        refine ge_Model_needs C tw_5_92 (by exact hB1.m) (by exact hB1.f.r i_195) dX6_addPuppet_56 ?_
        refine g_aload_n C dX6_addPuppet_59 rfl rfl ?_
        refine ge_Model_puppets C tw_5_90 (by exact hB1.m) (by exact hB1.n) dX6_addPuppet_60 ?_
        refine g_iload_n C dX6_addPuppet_63 rfl rfl ?_
        refine g_stI C rfl (hB1.f.i i_195 rfl) (hB1.f.lt i_195 (n := 8) rfl hlt) (by omega) dX6_addPuppet_64 ?_
        refine g_aload_n C dX6_addPuppet_65 rfl rfl ?_
        refine g_dup C dX6_addPuppet_66 rfl ?_
        refine ge_Model_puppets C tw_5_90 (by exact hB1.m) (by exact hB1.n) dX6_addPuppet_67 ?_
        refine g_iconst C dX6_addPuppet_70 (v := 1) (by decide) ?_
        refine g_iadd C dX6_addPuppet_71 ?_
        rw [nI_1]
        refine pu_Model_puppets C tw_5_90 (by exact hB1.m) dX6_addPuppet_72 ?_
        refine g_aload_n C dX6_addPuppet_75 rfl rfl ?_
        refine g_iconst C dX6_addPuppet_76 (v := 0) (by decide) ?_
        refine pu_Model_isFresh C tw_5_103 (by exact hB1.m) (by first | exact Or.inl rfl | exact Or.inr rfl) dX6_addPuppet_77 ?_
        refine g_aload_n C dX6_addPuppet_80 rfl rfl ?_
        refine ge_Model_puppets C tw_5_90 (by exact hB1.m) (by exact ((uI_ne (Or.inl (by decide))).trans uI_q)) dX6_addPuppet_81 ?_
        refine g_iconst C dX6_addPuppet_84 (v := 1) (by decide) ?_
        refine g_isub C dX6_addPuppet_85 ?_
        rw [nI_pred]
        refine g_iret C R rfl (by omega) (by omega) dX6_addPuppet_86 ?_
        refine ⟨0, pupB B s o, nI (tN B), _, Or.inr (Or.inr ⟨rfl, s, o, s2, s1, rfl, o1, o2, rfl, hlt, rfl, rfl⟩), MdI.pup (s := s) (o := o) hB ?_ ((uI_ne (Or.inl (by decide))).trans uI_q) uI_q ?_ ?_ (pupB_V hB.v hlt s2 o2), ?_, ?_, rfl, fun _ => rfl⟩
        · refine Kp.tr ?_ (kp_uI (by simp))
          refine Kp.tr ?_ (kp_uI (by simp))
          refine Kp.tr ?_ (kp_uR (by exact hB1.f) i_195 (by simp))
          refine Kp.tr ?_ (kp_uR (by exact hB1.f) i_194 (by simp))
          exact kp_uI (by simp)
        · exact (uR_ne (hB.f.ne i_194 i_195 (by decide))).trans uR_q
        · refine uR_q.trans ?_
          rw [uR_ne (hB.f.ne i_195 i_194 (by decide))]
          rfl
        · exact (uI_ne (Or.inl (by decide))).trans ((uI_ne (Or.inl (by decide))).trans (show pI (uI S 192 m 0) 192 m = nI 0 from uI_q))
        · refine FrM.tr ?_ FrM.i
          refine FrM.tr ?_ FrM.i
          refine FrM.tr ?_ (FrM.r (by exact hB1.f) i_195)
          refine FrM.tr ?_ (FrM.r (by exact hB1.f) i_194)
          exact FrM.i
      · have h8' : tN B = 8 := (nI_eq (b := 8) (by omega) (by omega)).mp c3
        refine g_aload_n C dX6_addPuppet_39 rfl rfl ?_
        refine g_iconst C dX6_addPuppet_40 (v := 2) (by decide) ?_
        refine g_callV C gy_X6_fail tw_5_168 tw_5_170 ts_26 (by decide) (kk := 6) rfl rfl (by exact hB1.m) (md_fail F _ m 2 hB1.m) rfl rfl (Nat.le_of_ble_eq_true rfl) (by omega) (by omega) dX6_addPuppet_41 (fun _ _ h9 => h9.elim) ?_
        rintro _ _ ⟨rfl, rfl⟩
        refine g_iret C R rfl (by omega) (by omega) dX6_addPuppet_44 ?_
        exact MdO.no (k := 2) hI (by decide) (fun v => Or.inr (Or.inl ⟨rfl, rfl, hy, hz, by omega⟩))
    · refine g_sub [(0, _), (1, _), (2, _)] ⟨rfl, rfl, rfl, trivial⟩ ?_
      exact no (fun h => hv2.neg c2 h.2)
