theorem cueW_pd (p : Nat) (d : D4) : cueW (p, d) 0 = nI d.1 ∧ cueW (p, d) 1 = nI p ∧ cueW (p, d) 2 = nI d.2.1 := ⟨rfl, rfl, rfl⟩
theorem MdI.tab {S S' : PS} {m : Nat} {rr : Nat → Nat} {B : BT} (h : MdI S m rr B) (k : Kp S S' m rr (fun f => f = 199) (fun g => g = 200)) (e : pI S' 199 m = nI (tC B)) (ht : ∀ c w, c < tC B → w < 5 → pR S' (rr 200) (5 * c + w) = pR S (rr 200) (5 * c + w)) : MdI S' m rr B := by
  have hb := h.1
  refine ⟨⟨k.mdF hb.f (fun f hf w => by unfold isRw at hf; omega), (k.i (by decide)).trans hb.n, (k.i (by decide)).trans hb.q, e, (k.i (by decide)).trans hb.k, fun i hi => ?_, fun q hq => ?_, fun c' hc' => ?_, fun c w hc hw => (ht c w hc hw).trans (hb.tb c w hc hw), hb.v⟩, ?_⟩
  · rw [k.r i_194 (by decide), k.r i_195 (by decide)]; exact hb.pu i hi
  · rw [k.r i_197 (by decide), k.r i_198 (by decide)]; exact hb.pl q hq
  · rw [k.r i_201 (by decide), k.r i_203 (by decide), k.r i_204 (by decide), k.r i_205 (by decide)]; exact hb.cu c' hc'
  · rw [k.i (f := 206) (by decide)]
    refine h.2.imp id (fun w => ⟨w.1, ?_⟩)
    have w2 := w.2
    unfold FreshV at w2 ⊢
    rw [k.r i_207 (by decide), k.r i_208 (by decide), k.r i_209 (by decide), k.r i_210 (by decide), k.r i_211 (by decide), k.r i_212 (by decide), k.r i_213 (by decide)]
    exact w2
theorem MdI.add {S S' : PS} {m p : Nat} {d : D4} {rr : Nat → Nat} {B : BT} (h : MdI S m rr B) (k : Kp S S' m rr (fun f => f = 199 ∨ f = 206) (fun g => g = 200)) (e : pI S' 199 m = nI (tC B + 1)) (e6 : pI S' 206 m = 0) (ht : ∀ c w, c < tC B → w < 5 → pR S' (rr 200) (5 * c + w) = pR S (rr 200) (5 * c + w)) (hn : ∀ w, w < 5 → pR S' (rr 200) (5 * tC B + w) = cueW (p, d) w) (V : VB (addB B p d)) : MdI S' m rr (addB B p d) := by
  have hb := h.1
  refine ⟨⟨k.mdF hb.f (fun f hf w => by unfold isRw at hf; omega), (k.i (by decide)).trans hb.n, (k.i (by decide)).trans hb.q, e, (k.i (by decide)).trans ?_, fun i hi => ?_, fun q hq => ?_, fun c' hc' => ?_, fun c w hc hw => ?_, V⟩, Or.inl e6⟩
  · refine hb.k.trans ?_
    show nI (cntN (tK B) (tC B)) = nI (cntN (tK B) (tC B + 1))
    have := (hb.v.2.2.2.2.2.2.2.2 (tC B) (Nat.le_refl _)).1
    simp only [cntN, this]
    rfl
  · rw [k.r i_194 (by decide), k.r i_195 (by decide)]; exact hb.pu i hi
  · rw [k.r i_197 (by decide), k.r i_198 (by decide)]; exact hb.pl q hq
  · rw [k.r i_201 (by decide), k.r i_203 (by decide), k.r i_204 (by decide), k.r i_205 (by decide)]; exact hb.cu c' hc'
  · have hc2 : c < tC B + 1 := hc
    show pR S' (rr 200) (5 * c + w) = cueW (va_up (tU B) (tC B) (p, d) c) w
    by_cases ec : c = tC B
    · subst ec
      rw [va_up_self]
      exact hn w hw
    · rw [va_up_ne _ _ ec]
      exact (ht c w (by omega) hw).trans (hb.tb c w (by omega) hw)
def five (r : Nat → Int32) (a : Nat) (x0 x1 x2 x3 x4 : Int32) : Nat → Int32 := va_up (va_up (va_up (va_up (va_up r a x0) (a + 1) x1) (a + 2) x2) (a + 3) x3) (a + 4) x4
theorem five_low {r : Nat → Int32} {a j : Nat} {x0 x1 x2 x3 x4 : Int32} (h : j < a) : five r a x0 x1 x2 x3 x4 j = r j := by
  unfold five
  rw [va_up_ne _ _ (by omega), va_up_ne _ _ (by omega), va_up_ne _ _ (by omega), va_up_ne _ _ (by omega), va_up_ne _ _ (by omega)]
theorem five_at {r : Nat → Int32} {a : Nat} {f : Nat → Int32} (w : Nat) (hw : w < 5) : five r a (f 0) (f 1) (f 2) (f 3) (f 4) (a + w) = f w := by
  unfold five
  rcases (show w = 0 ∨ w = 1 ∨ w = 2 ∨ w = 3 ∨ w = 4 by omega) with rfl | rfl | rfl | rfl | rfl
  · rw [va_up_ne _ _ (by omega), va_up_ne _ _ (by omega), va_up_ne _ _ (by omega), va_up_ne _ _ (by omega)]; exact va_up_self _ _ _
  · rw [va_up_ne _ _ (by omega), va_up_ne _ _ (by omega), va_up_ne _ _ (by omega)]; exact va_up_self _ _ _
  · rw [va_up_ne _ _ (by omega), va_up_ne _ _ (by omega)]; exact va_up_self _ _ _
  · rw [va_up_ne _ _ (by omega)]; exact va_up_self _ _ _
  · exact va_up_self _ _ _
theorem tix0 (c : Nat) : (5 : Int32) * nI c = nI (5 * c) := pk_mul 5 c
theorem g_pcS {Γ : GBase} {X : Cx} {S S' : PS} {k n pc : Nat} {loc : List (Nat × Value)} {st : List Value} (h : S = S') (kk : GW Γ X S' k n pc loc st) : GW Γ X S k n pc loc st := h ▸ kk
/-- a cue written into the model's table -/
def DidM (S S' : PS) (m : Nat) (rr : Nat → Nat) (B : BT) (p : Nat) (d : D4) (r : Option Value) : Prop := FrM S S' m ∧ pI S' 192 m = pI S 192 m ∧ (((40 ≤ tC B ∨ okL none (dsB (addB B p d) p) = false) ∧ MdI S' m rr B ∧ r = some (.int (-1))) ∨ (tC B < 40 ∧ okL none (dsB (addB B p d) p) = true ∧ MdI S' m rr (addB B p d) ∧ r = some (.int (nI (tC B)))))
theorem md_write {Γ : GBase} (F : FB Γ) (S : PS) (m p : Nat) (rr : Nat → Nat) (B : BT) (d : D4) (hI : MdI S m rr B) (hp : p < tN B) (hd : okD d) : GMet Γ yX6_write cX6_write 7 ((some FieldType.int)) 4 0 0 [.ref m, .int (nI d.1), .int (nI p), .int (nI d.2.1), .int (cueW (p, d) 3), .int (cueW (p, d) 4)] S (fun r S' => DidM S S' m rr B p d r) noX := by
  have hB := hI.1
  have h40 := hB.v.2.2.1
  have h8 := hB.v.1
  refine GMet.of (loc0 := [(0, .ref m), (1, .int (nI d.1)), (2, .int (nI p)), (3, .int (nI d.2.1)), (4, .int (cueW (p, d) 3)), (5, .int (cueW (p, d) 4))]) F (by decide +kernel) rfl (Nat.le_of_ble_eq_true rfl) (fun X C R Tb nm => ?_)
  refine g_aload_n C dX6_write_0 rfl rfl ?_
  refine ge_Model_cues C tw_5_96 (by exact hB.m) (by exact hB.c) dX6_write_1 ?_
  refine g_bipush C dX6_write_4 (v := 40) (by decide) ?_
  refine g_icmp_ne C dX6_write_6 (tgt := 11) (by decide) (fun c1 => ?_) (fun c1 => ?_)
  · have hlt : tC B < 40 := by
      rcases Nat.lt_or_ge (tC B) 40 with w | w
      · exact w
      · exact absurd (by rw [show tC B = 40 by omega]; rfl) c1
    refine g_iconst C dX6_write_11 (v := 5) (by decide) ?_
    refine g_aload_n C dX6_write_12 rfl rfl ?_
    refine ge_Model_cues C tw_5_96 (by exact hB.m) (by exact hB.c) dX6_write_13 ?_
    refine g_imul C dX6_write_16 ?_
    rw [tix0]
    refine g_istore C dX6_write_17 (by decide) rfl ?_
    refine g_aload_n C dX6_write_19 rfl rfl ?_
    refine ge_Model_table C tw_5_97 (by exact hB.m) (by exact hB.f.r i_200) dX6_write_20 ?_
    refine g_iload C dX6_write_23 rfl ?_
    refine g_iload_n C dX6_write_25 rfl rfl ?_
    refine g_stI C rfl (hB.f.i i_200 rfl) (hB.f.lt i_200 (n := 200) rfl (by omega)) (by omega) dX6_write_26 ?_
    refine g_aload_n C dX6_write_27 rfl rfl ?_
    refine ge_Model_table C tw_5_97 (by exact hB.m) (by exact hB.f.r i_200) dX6_write_28 ?_
    refine g_iload C dX6_write_31 rfl ?_
    refine g_iconst C dX6_write_33 (v := 1) (by decide) ?_
    refine g_iadd C dX6_write_34 ?_
    refine g_iload_n C dX6_write_35 rfl rfl ?_
    refine g_stI C (nI_1 _) (hB.f.i i_200 rfl) (hB.f.lt i_200 (n := 200) rfl (by omega)) (by omega) dX6_write_36 ?_
    rw [uR_uR, uR_q]
    refine g_aload_n C dX6_write_37 rfl rfl ?_
    refine ge_Model_table C tw_5_97 (by exact hB.m) (by exact hB.f.r i_200) dX6_write_38 ?_
    refine g_iload C dX6_write_41 rfl ?_
    refine g_iconst C dX6_write_43 (v := 2) (by decide) ?_
    refine g_iadd C dX6_write_44 ?_
    refine g_iload_n C dX6_write_45 rfl rfl ?_
    refine g_stI C (nI_add _ 2) (hB.f.i i_200 rfl) (hB.f.lt i_200 (n := 200) rfl (by omega)) (by omega) dX6_write_46 ?_
    rw [uR_uR, uR_q]
    refine g_aload_n C dX6_write_47 rfl rfl ?_
    refine ge_Model_table C tw_5_97 (by exact hB.m) (by exact hB.f.r i_200) dX6_write_48 ?_
    refine g_iload C dX6_write_51 rfl ?_
    refine g_iconst C dX6_write_53 (v := 3) (by decide) ?_
    refine g_iadd C dX6_write_54 ?_
    refine g_iload C dX6_write_55 rfl ?_
    refine g_stI C (nI_add _ 3) (hB.f.i i_200 rfl) (hB.f.lt i_200 (n := 200) rfl (by omega)) (by omega) dX6_write_57 ?_
    rw [uR_uR, uR_q]
    refine g_aload_n C dX6_write_58 rfl rfl ?_
    refine ge_Model_table C tw_5_97 (by exact hB.m) (by exact hB.f.r i_200) dX6_write_59 ?_
    refine g_iload C dX6_write_62 rfl ?_
    refine g_iconst C dX6_write_64 (v := 4) (by decide) ?_
    refine g_iadd C dX6_write_65 ?_
    refine g_iload C dX6_write_66 rfl ?_
    refine g_stI C (nI_add _ 4) (hB.f.i i_200 rfl) (hB.f.lt i_200 (n := 200) rfl (by omega)) (by omega) dX6_write_68 ?_
    rw [uR_uR, uR_q]
    obtain ⟨S5, hS5⟩ : ∃ S5, S5 = uR S (rr 200) (five (pR S (rr 200)) (5 * tC B) (cueW (p, d) 0) (cueW (p, d) 1) (cueW (p, d) 2) (cueW (p, d) 3) (cueW (p, d) 4)) := ⟨_, rfl⟩
    refine g_pcS (S' := S5) (by rw [hS5]; rfl) ?_
    have f5 : MdF S5 m rr := by rw [hS5]; exact hB.f
    have c5 : pI S5 199 m = nI (tC B) := by rw [hS5]; exact hB.c
    have k5 : Kp S S5 m rr (fun f => f = 199) (fun g => g = 200) := by rw [hS5]; exact kp_uR hB.f i_200 rfl
    have r5 : pR S5 (rr 200) = five (pR S (rr 200)) (5 * tC B) (cueW (p, d) 0) (cueW (p, d) 1) (cueW (p, d) 2) (cueW (p, d) 3) (cueW (p, d) 4) := by rw [hS5]; exact uR_q
    have t5 : pI S5 192 m = pI S 192 m := by rw [hS5]; rfl
    have m5 : FrM S S5 m := by rw [hS5]; exact FrM.r hB.f i_200
    have lo : ∀ c w, c < tC B → w < 5 → pR S5 (rr 200) (5 * c + w) = pR S (rr 200) (5 * c + w) := fun c w hc hw => by rw [r5]; exact five_low (by omega)
    have at5 : ∀ w, w < 5 → pR S5 (rr 200) (5 * tC B + w) = cueW (p, d) w := fun w hw => by rw [r5]; exact five_at (f := cueW (p, d)) w hw
    have hst := hB.v.2.2.2.2.2.2.2.2 (tC B) (Nat.le_refl _)
    have hadd := addB_sc (d := d) hB.v hp
    have hscr : isScr (va_up (tU B) (tC B) (p, d)) (tK B) (tC B + 1) p (scB (addB B p d) p) := by
      rw [hadd.1]
      exact ((hB.v.2.2.2.2.2.2.1 p hp).1.add (d := d) (by omega) hst.1).1
    refine g_aload_n C dX6_write_69 rfl rfl ?_
    refine g_dup C dX6_write_70 rfl ?_
    refine ge_Model_cues C tw_5_96 (by exact f5.1) (by exact c5) dX6_write_71 ?_
    refine g_iconst C dX6_write_74 (v := 1) (by decide) ?_
    refine g_iadd C dX6_write_75 ?_
    rw [nI_1]
    obtain ⟨S6, hS6⟩ : ∃ S6, S6 = uI S5 199 m (nI (tC B + 1)) := ⟨_, rfl⟩
    refine pu_Model_cues C tw_5_96 (by exact f5.1) dX6_write_76 ?_
    rw [← hS6]
    have f6 : MdF S6 m rr := by rw [hS6]; exact f5
    have c6 : pI S6 199 m = nI (tC B + 1) := by rw [hS6]; exact uI_q
    have hT : TabV S6 m rr (tC B + 1) (va_up (tU B) (tC B) (p, d)) (tK B) := by
      refine ⟨c6, by omega, fun c hc => ?_, fun c w hc hw => ?_⟩
      · have hz : pR S6 (rr 201) c = (if tK B c = true then 1 else 0) := by
          rw [hS6]
          show pR S5 (rr 201) c = _
          rw [k5.r i_201 (by decide)]
          exact (hB.cu c (by omega)).1
        by_cases e : c = tC B
        · subst e
          rw [va_up_self]
          exact ⟨hd, by show p < 8; omega, hz⟩
        · rw [va_up_ne _ _ e]
          have hu := hB.v.2.2.2.2.2.1 c (by omega)
          exact ⟨hu.1, by omega, hz⟩
      · rw [hS6]
        show pR S5 (rr 200) _ = _
        by_cases e : c = tC B
        · subst e
          rw [va_up_self]
          exact at5 w hw
        · rw [va_up_ne _ _ e, lo c w (by omega) hw]
          exact hB.tb c w (by omega) hw
    refine g_aload_n C dX6_write_79 rfl rfl ?_
    refine g_iload_n C dX6_write_80 rfl rfl ?_
    refine g_callV C gy_X6_areRight tw_5_195 tw_5_197 ts_30 (by decide) (kk := 6) rfl rfl (by exact f6.1) (md_areRight F S6 m p (tC B + 1) rr _ _ _ f6 hT (by omega) hscr) rfl rfl (Nat.le_of_ble_eq_true rfl) (by omega) (by omega) dX6_write_81 (fun _ _ h9 => h9.elim) ?_
    rintro _ _ ⟨rfl, v, hv, rfl⟩
    have hv' : isB v (okL none (dsB (addB B p d) p) = true) := hv
    refine g_if_ne C dX6_write_84 (tgt := 99) (by decide) (fun c2 => ?_) (fun c2 => ?_)
    · refine g_aload_n C dX6_write_99 rfl rfl ?_
      refine g_iconst C dX6_write_100 (v := 0) (by decide) ?_
      refine pu_Model_isFresh C tw_5_103 (by exact f6.1) (by first | exact Or.inl rfl | exact Or.inr rfl) dX6_write_101 ?_
      refine g_aload_n C dX6_write_104 rfl rfl ?_
      refine ge_Model_cues C tw_5_96 (by exact f6.1) (by exact (show pI (uI S6 206 m 0) 199 m = nI (tC B + 1) from c6)) dX6_write_105 ?_
      refine g_iconst C dX6_write_108 (v := 1) (by decide) ?_
      refine g_isub C dX6_write_109 ?_
      rw [nI_pred]
      refine g_iret C R rfl (by omega) (by omega) dX6_write_110 ?_
      have hok := hv'.pos c2
      refine ⟨?_, ?_, Or.inr ⟨hlt, hok, MdI.add hI ?_ c6 uI_q ?_ ?_ (addB_V hB.v hp hd hlt hok), rfl⟩⟩
      · refine FrM.tr ?_ FrM.i
        rw [hS6]
        exact m5.tr FrM.i
      · rw [hS6]
        exact t5
      · refine Kp.tr ?_ (kp_uI (Or.inr rfl))
        rw [hS6]
        exact (k5.mono (fun f h => Or.inl h) (fun g h => h)).tr (kp_uI (Or.inl rfl))
      · rw [hS6]; exact lo
      · rw [hS6]; exact at5
    · refine g_aload_n C dX6_write_87 rfl rfl ?_
      refine g_dup C dX6_write_88 rfl ?_
      refine ge_Model_cues C tw_5_96 (by exact f6.1) (by exact c6) dX6_write_89 ?_
      refine g_iconst C dX6_write_92 (v := 1) (by decide) ?_
      refine g_isub C dX6_write_93 ?_
      rw [nI_pred]
      refine pu_Model_cues C tw_5_96 (by exact f6.1) dX6_write_94 ?_
      refine g_iconst C dX6_write_97 (v := -1) (by decide) ?_
      refine g_iret C R rfl (by omega) (by omega) dX6_write_98 ?_
      have hno : okL none (dsB (addB B p d) p) = false := by simpa using hv'.neg c2
      refine ⟨?_, ?_, Or.inl ⟨Or.inr hno, MdI.tab hI ?_ uI_q ?_, rfl⟩⟩
      · refine FrM.tr ?_ FrM.i
        rw [hS6]
        exact m5.tr FrM.i
      · rw [hS6]
        exact t5
      · refine Kp.tr ?_ (kp_uI rfl)
        rw [hS6]
        exact k5.tr (kp_uI rfl)
      · rw [hS6]; exact lo
  · have e40 : tC B = 40 := (nI_eq (b := 40) (by omega) (by omega)).mp c1
    refine g_iconst C dX6_write_9 (v := -1) (by decide) ?_
    refine g_iret C R rfl (by omega) (by omega) dX6_write_10 ?_
    exact ⟨Fr.rf, rfl, Or.inl ⟨Or.inl (by omega), hI, rfl⟩⟩
