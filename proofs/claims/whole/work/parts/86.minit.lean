/-- the model's rows, those of the fields below g made -/
def PartF (S0 S : PS) (m : Nat) (rr : Nat → Nat) (g : Nat) : Prop := al S m 6 ∧ (∀ f, pI S f m = 0) ∧ Fr S0 S (moO m) maN ∧ (∀ f, isRw f → f < g → pP S f m = some (rr f) ∧ al S (rr f) (rkind f) ∧ pN S (rr f) = rlen f ∧ pW S (rr f) = m ∧ ∀ j, pR S (rr f) j = 0) ∧ ∀ f f', isRw f → isRw f' → f < g → f' < g → f ≠ f' → rr f ≠ rr f'
theorem PartF.skip {S0 S : PS} {m : Nat} {rr : Nat → Nat} {g : Nat} (h : PartF S0 S m rr g) (hg : ¬ isRw g) : PartF S0 S m rr (g + 1) := by
  obtain ⟨h1, h2, h3, h4, h5⟩ := h
  have e : ∀ f, isRw f → f < g + 1 → f < g := fun f hf hl => by
    rcases Nat.lt_or_ge f g with w | w
    · exact w
    · exact absurd (by rw [show g = f by omega]; exact hf) hg
  exact ⟨h1, h2, h3, fun f hf hl => h4 f hf (e f hf hl), fun f f' hf hf' hl hl' => h5 f f' hf hf' (e f hf hl) (e f' hf' hl')⟩
theorem PartF.step {S0 S : PS} {m q k n : Nat} {rr : Nat → Nat} {g : Nat} (h : PartF S0 S m rr g) (hk : rkind g = k) (hn : rlen g = n) (hq : q ∉ pL S) : ∃ rr', PartF S0 (uW (uP (nA S q k n) g m (some q)) q m) m rr' (g + 1) := by
  obtain ⟨h1, h2, h3, h4, h5⟩ := h
  have hmq : m ≠ q := h1.ne hq
  refine ⟨va_up rr g q, h1.nA (m := n) hq, h2, ?_, fun f hf hl => ?_, fun f f' hf hf' hl hl' hne => ?_⟩
  · intro b hb
    obtain ⟨k1, k2, k3, k4, k5, k6⟩ := h3 b hb
    have hbq : b ≠ q := mem_ne k1 hq
    refine ⟨List.mem_append_left _ k1, (va_up_ne _ _ hbq).trans k2, (va_up_ne _ _ hbq).trans k3, (uW_ne hbq).trans k4, fun f hf => ?_, fun hn => ?_⟩
    · refine ⟨(k5 f hf).1, ?_⟩
      have hbm : b ≠ m := hf
      exact (uP_ne (S := nA S q k n) (Or.inr hbm)).trans (k5 f hf).2
    · obtain ⟨j1, j2, j3, j4⟩ := k6 hn
      exact ⟨(va_up_ne _ _ hbq).trans j1, (va_up_ne _ _ hbq).trans j2, (va_up_ne _ _ hbq).trans j3, (va_up_ne _ _ hbq).trans j4⟩
  · by_cases e : f = g
    · subst e
      rw [va_up_self]
      refine ⟨uP_q (S := nA S q k n), ?_, ?_, uW_q, fun j => ?_⟩
      · rw [hk]; exact al_nA (S := S) (a := q) (k := k) (m := n)
      · rw [hn]; exact nA_Nq (S := S) (q := q) (k := k) (m := n)
      · exact congrFun (va_up_self (pR S) q (fun _ => (0 : Int32))) j
    · rw [va_up_ne _ _ e]
      obtain ⟨i1, i2, i3, i4, i5⟩ := h4 f hf (by omega)
      have hfq : rr f ≠ q := i2.ne hq
      refine ⟨(uP_ne (S := nA S q k n) (Or.inl e)).trans i1, i2.nA (m := n) hq, (va_up_ne _ _ hfq).trans i3, (uW_ne hfq).trans i4, fun j => ?_⟩
      exact (congrFun (va_up_ne (pR S) (fun _ => (0 : Int32)) hfq) j).trans (i5 j)
  · by_cases e : f = g
    · by_cases e' : f' = g
      · exact absurd (e.trans e'.symm) hne
      · rw [e, va_up_self, va_up_ne _ _ e']
        exact ((h4 f' hf' (by omega)).2.1.ne hq).symm
    · by_cases e' : f' = g
      · rw [e', va_up_self, va_up_ne _ _ e]
        exact (h4 f hf (by omega)).2.1.ne hq
      · rw [va_up_ne _ _ e, va_up_ne _ _ e']
        exact h5 f f' hf hf' (by omega) (by omega) hne
theorem md_init {Γ : GBase} (F : FB Γ) (S : PS) (m : Nat) (hm : al S m 6) (hz : ∀ f, pI S f m = 0) : GMet Γ yX6_init cX6_init 1 ((none : Option FieldType)) 1 16 25354 [.ref m] S (fun r S' => r = none ∧ Fr S S' (moO m) maN ∧ ∃ rr, MdI S' m rr B0) noX := by
  refine GMet.of (loc0 := [(0, .ref m)]) F (by decide +kernel) rfl (Nat.le_of_ble_eq_true rfl) (fun X C R Tb nm => ?_)
  have h0 : PartF S S m (fun _ => 0) 194 := ⟨hm, hz, Fr.rf, fun f hf hl => absurd hf.1 (by omega), fun f f' hf hf' hl => absurd hf.1 (by omega)⟩
  refine g_aload_n C dX6_init_0 rfl rfl ?_
  refine g_objInit C tw_5_88 tw_1_36 tw_1_37 dX6_init_1 (by simp [Value.category]) ?_
  refine g_aload_n C dX6_init_4 rfl rfl ?_
  refine g_bipush C dX6_init_5 (v := 8) (by decide) ?_
  rw [show (8 : Int32) = nI 8 from rfl]
  refine g_naI C rfl (by omega) (by omega) (by omega) dX6_init_7 (fun q194 hq194 => ?_)
  refine pu_Model_weights C tw_5_91 nm (by exact (h0.1.nA hq194)) dX6_init_9 ?_
  refine g_own q194 m ?_
  obtain ⟨r194, p194⟩ := h0.step (k := 8) (n := 8) rfl rfl hq194
  generalize uW (uP (nA S q194 8 8) 194 m (some q194)) q194 m = S194 at p194 ⊢
  refine g_aload_n C dX6_init_12 rfl rfl ?_
  refine g_bipush C dX6_init_13 (v := 8) (by decide) ?_
  rw [show (8 : Int32) = nI 8 from rfl]
  refine g_naI C rfl (by omega) (by omega) (by omega) dX6_init_15 (fun q195 hq195 => ?_)
  refine pu_Model_needs C tw_5_92 nm (by exact (p194.1.nA hq195)) dX6_init_17 ?_
  refine g_own q195 m ?_
  obtain ⟨r195, p195⟩ := p194.step (k := 8) (n := 8) rfl rfl hq195
  generalize uW (uP (nA S194 q195 8 8) 195 m (some q195)) q195 m = S195 at p195 ⊢
  have p195s196 := p195.skip (show ¬ isRw 196 by unfold isRw; omega)
  refine g_aload_n C dX6_init_20 rfl rfl ?_
  refine g_iconst C dX6_init_21 (v := 5) (by decide) ?_
  rw [show (5 : Int32) = nI 5 from rfl]
  refine g_naI C rfl (by omega) (by omega) (by omega) dX6_init_22 (fun q197 hq197 => ?_)
  refine pu_Model_strengths C tw_5_94 nm (by exact (p195s196.1.nA hq197)) dX6_init_24 ?_
  refine g_own q197 m ?_
  obtain ⟨r197, p197⟩ := p195s196.step (k := 8) (n := 5) rfl rfl hq197
  generalize uW (uP (nA S195 q197 8 5) 197 m (some q197)) q197 m = S197 at p197 ⊢
  refine g_aload_n C dX6_init_27 rfl rfl ?_
  refine g_iconst C dX6_init_28 (v := 5) (by decide) ?_
  rw [show (5 : Int32) = nI 5 from rfl]
  refine g_naI C rfl (by omega) (by omega) (by omega) dX6_init_29 (fun q198 hq198 => ?_)
  refine pu_Model_homes C tw_5_95 nm (by exact (p197.1.nA hq198)) dX6_init_31 ?_
  refine g_own q198 m ?_
  obtain ⟨r198, p198⟩ := p197.step (k := 8) (n := 5) rfl rfl hq198
  generalize uW (uP (nA S197 q198 8 5) 198 m (some q198)) q198 m = S198 at p198 ⊢
  have p198s199 := p198.skip (show ¬ isRw 199 by unfold isRw; omega)
  refine g_aload_n C dX6_init_34 rfl rfl ?_
  refine g_sipush C dX6_init_35 (v := 200) (by decide) ?_
  rw [show (200 : Int32) = nI 200 from rfl]
  refine g_naI C rfl (by omega) (by omega) (by omega) dX6_init_38 (fun q200 hq200 => ?_)
  refine pu_Model_table C tw_5_97 nm (by exact (p198s199.1.nA hq200)) dX6_init_40 ?_
  refine g_own q200 m ?_
  obtain ⟨r200, p200⟩ := p198s199.step (k := 8) (n := 200) rfl rfl hq200
  generalize uW (uP (nA S198 q200 8 200) 200 m (some q200)) q200 m = S200 at p200 ⊢
  refine g_aload_n C dX6_init_43 rfl rfl ?_
  refine g_bipush C dX6_init_44 (v := 40) (by decide) ?_
  rw [show (40 : Int32) = nI 40 from rfl]
  refine g_naZ C rfl (by omega) (by omega) (by omega) dX6_init_46 (fun q201 hq201 => ?_)
  refine pu_Model_areStruck C tw_5_98 nm (by exact (p200.1.nA hq201)) dX6_init_48 ?_
  refine g_own q201 m ?_
  obtain ⟨r201, p201⟩ := p200.step (k := 9) (n := 40) rfl rfl hq201
  generalize uW (uP (nA S200 q201 9 40) 201 m (some q201)) q201 m = S201 at p201 ⊢
  have p201s202 := p201.skip (show ¬ isRw 202 by unfold isRw; omega)
  refine g_aload_n C dX6_init_51 rfl rfl ?_
  refine g_bipush C dX6_init_52 (v := 40) (by decide) ?_
  rw [show (40 : Int32) = nI 40 from rfl]
  refine g_naI C rfl (by omega) (by omega) (by omega) dX6_init_54 (fun q203 hq203 => ?_)
  refine pu_Model_noted C tw_5_100 nm (by exact (p201s202.1.nA hq203)) dX6_init_56 ?_
  refine g_own q203 m ?_
  obtain ⟨r203, p203⟩ := p201s202.step (k := 8) (n := 40) rfl rfl hq203
  generalize uW (uP (nA S201 q203 8 40) 203 m (some q203)) q203 m = S203 at p203 ⊢
  refine g_aload_n C dX6_init_59 rfl rfl ?_
  refine g_bipush C dX6_init_60 (v := 40) (by decide) ?_
  rw [show (40 : Int32) = nI 40 from rfl]
  refine g_naI C rfl (by omega) (by omega) (by omega) dX6_init_62 (fun q204 hq204 => ?_)
  refine pu_Model_sums C tw_5_101 nm (by exact (p203.1.nA hq204)) dX6_init_64 ?_
  refine g_own q204 m ?_
  obtain ⟨r204, p204⟩ := p203.step (k := 8) (n := 40) rfl rfl hq204
  generalize uW (uP (nA S203 q204 8 40) 204 m (some q204)) q204 m = S204 at p204 ⊢
  refine g_aload_n C dX6_init_67 rfl rfl ?_
  refine g_bipush C dX6_init_68 (v := 40) (by decide) ?_
  rw [show (40 : Int32) = nI 40 from rfl]
  refine g_naI C rfl (by omega) (by omega) (by omega) dX6_init_70 (fun q205 hq205 => ?_)
  refine pu_Model_greatness C tw_5_102 nm (by exact (p204.1.nA hq205)) dX6_init_72 ?_
  refine g_own q205 m ?_
  obtain ⟨r205, p205⟩ := p204.step (k := 8) (n := 40) rfl rfl hq205
  generalize uW (uP (nA S204 q205 8 40) 205 m (some q205)) q205 m = S205 at p205 ⊢
  have p205s206 := p205.skip (show ¬ isRw 206 by unfold isRw; omega)
  refine g_aload_n C dX6_init_75 rfl rfl ?_
  refine g_sipush C dX6_init_76 (v := 8000) (by decide) ?_
  rw [show (8000 : Int32) = nI 8000 from rfl]
  refine g_naI C rfl (by omega) (by omega) (by omega) dX6_init_79 (fun q207 hq207 => ?_)
  refine pu_Model_places C tw_5_104 nm (by exact (p205s206.1.nA hq207)) dX6_init_81 ?_
  refine g_own q207 m ?_
  obtain ⟨r207, p207⟩ := p205s206.step (k := 8) (n := 8000) rfl rfl hq207
  generalize uW (uP (nA S205 q207 8 8000) 207 m (some q207)) q207 m = S207 at p207 ⊢
  refine g_aload_n C dX6_init_84 rfl rfl ?_
  refine g_sipush C dX6_init_85 (v := 8000) (by decide) ?_
  rw [show (8000 : Int32) = nI 8000 from rfl]
  refine g_naI C rfl (by omega) (by omega) (by omega) dX6_init_88 (fun q208 hq208 => ?_)
  refine pu_Model_tracks C tw_5_105 nm (by exact (p207.1.nA hq208)) dX6_init_90 ?_
  refine g_own q208 m ?_
  obtain ⟨r208, p208⟩ := p207.step (k := 8) (n := 8000) rfl rfl hq208
  generalize uW (uP (nA S207 q208 8 8000) 208 m (some q208)) q208 m = S208 at p208 ⊢
  refine g_aload_n C dX6_init_93 rfl rfl ?_
  refine g_sipush C dX6_init_94 (v := 8000) (by decide) ?_
  rw [show (8000 : Int32) = nI 8000 from rfl]
  refine g_naI C rfl (by omega) (by omega) (by omega) dX6_init_97 (fun q209 hq209 => ?_)
  refine pu_Model_stays C tw_5_106 nm (by exact (p208.1.nA hq209)) dX6_init_99 ?_
  refine g_own q209 m ?_
  obtain ⟨r209, p209⟩ := p208.step (k := 8) (n := 8000) rfl rfl hq209
  generalize uW (uP (nA S208 q209 8 8000) 209 m (some q209)) q209 m = S209 at p209 ⊢
  refine g_aload_n C dX6_init_102 rfl rfl ?_
  refine g_bipush C dX6_init_103 (v := 8) (by decide) ?_
  rw [show (8 : Int32) = nI 8 from rfl]
  refine g_naI C rfl (by omega) (by omega) (by omega) dX6_init_105 (fun q210 hq210 => ?_)
  refine pu_Model_manyStays C tw_5_107 nm (by exact (p209.1.nA hq210)) dX6_init_107 ?_
  refine g_own q210 m ?_
  obtain ⟨r210, p210⟩ := p209.step (k := 8) (n := 8) rfl rfl hq210
  generalize uW (uP (nA S209 q210 8 8) 210 m (some q210)) q210 m = S210 at p210 ⊢
  refine g_aload_n C dX6_init_110 rfl rfl ?_
  refine g_sipush C dX6_init_111 (v := 320) (by decide) ?_
  rw [show (320 : Int32) = nI 320 from rfl]
  refine g_naI C rfl (by omega) (by omega) (by omega) dX6_init_114 (fun q211 hq211 => ?_)
  refine pu_Model_begins C tw_5_108 nm (by exact (p210.1.nA hq211)) dX6_init_116 ?_
  refine g_own q211 m ?_
  obtain ⟨r211, p211⟩ := p210.step (k := 8) (n := 320) rfl rfl hq211
  generalize uW (uP (nA S210 q211 8 320) 211 m (some q211)) q211 m = S211 at p211 ⊢
  refine g_aload_n C dX6_init_119 rfl rfl ?_
  refine g_sipush C dX6_init_120 (v := 320) (by decide) ?_
  rw [show (320 : Int32) = nI 320 from rfl]
  refine g_naI C rfl (by omega) (by omega) (by omega) dX6_init_123 (fun q212 hq212 => ?_)
  refine pu_Model_ends C tw_5_109 nm (by exact (p211.1.nA hq212)) dX6_init_125 ?_
  refine g_own q212 m ?_
  obtain ⟨r212, p212⟩ := p211.step (k := 8) (n := 320) rfl rfl hq212
  generalize uW (uP (nA S211 q212 8 320) 212 m (some q212)) q212 m = S212 at p212 ⊢
  refine g_aload_n C dX6_init_128 rfl rfl ?_
  refine g_sipush C dX6_init_129 (v := 320) (by decide) ?_
  rw [show (320 : Int32) = nI 320 from rfl]
  refine g_naI C rfl (by omega) (by omega) (by omega) dX6_init_132 (fun q213 hq213 => ?_)
  refine pu_Model_cast C tw_5_110 nm (by exact (p212.1.nA hq213)) dX6_init_134 ?_
  refine g_own q213 m ?_
  obtain ⟨r213, p213⟩ := p212.step (k := 8) (n := 320) rfl rfl hq213
  generalize uW (uP (nA S212 q213 8 320) 213 m (some q213)) q213 m = S213 at p213 ⊢
  refine g_vret C R (by omega) (by omega) dX6_init_137 ?_
  obtain ⟨z1, z2, z3, z4, z5⟩ := p213
  have lt : ∀ f, isRw f → f < 214 := fun f hf => by have := hf.2.1; omega
  have zr : ∀ f, isRw f → ∀ j, pR S213 (r213 f) j = 0 := fun f hf => (z4 f hf (lt f hf)).2.2.2.2
  refine ⟨rfl, z3, r213, ⟨⟨z1, fun f hf => ?_, fun f f' hf hf' => z5 f f' hf hf' (lt f hf) (lt f' hf')⟩, z2 193, z2 196, z2 199, z2 202, fun i hi => absurd hi (Nat.not_lt_zero i), fun i hi => absurd hi (Nat.not_lt_zero i), fun c _ => ?_, fun c w hc => absurd hc (Nat.not_lt_zero c), VB_0⟩, Or.inl (z2 206)⟩
  · obtain ⟨i1, i2, i3, i4, i5⟩ := z4 f hf (lt f hf)
    exact ⟨i1, i2, i3, i4⟩
  · rw [zr 201 i_201, zr 203 i_203, zr 204 i_204, zr 205 i_205]
    exact ⟨rfl, rfl, rfl, rfl⟩
