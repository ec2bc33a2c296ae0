theorem filt_cnt (P : Nat → Bool) : ∀ n, ((List.range n).filter P).length = cntN P n := by
  intro n
  induction n with
  | zero => rfl
  | succ n ih =>
    rw [List.range_succ, List.filter_append, List.length_append, ih]
    simp only [cntN]
    cases h : P n <;> simp [h]
theorem isScr.cnt {cu : Nat → Nat × D4} {sk : Nat → Bool} {nc p : Nat} {l : List Nat} (h : isScr cu sk nc p l) : l.length = cntN (fun c => !sk c && decide ((cu c).1 = p)) nc := by
  rw [← filt_cnt]
  have hn : (List.range nc).Nodup := List.nodup_range
  refine ((List.perm_ext_iff_of_nodup h.nodup (List.Pairwise.filter _ hn)).mpr (fun c => ?_)).length_eq
  rw [h.2 c, List.mem_filter, List.mem_range]
  simp only [Bool.and_eq_true, Bool.not_eq_true', decide_eq_true_eq]
  constructor
  · rintro ⟨a, b, c⟩; exact ⟨a, c, b⟩
  · rintro ⟨a, b, c⟩; exact ⟨a, c, b⟩
def spStrike (B : BT) (y : Int32) (k : Nat) (B' : BT) (v : Int32) : Prop := (k = 1 ∧ B' = B ∧ noC B y) ∨ (k = 2 ∧ B' = B ∧ ∃ c, isC B y c ∧ okL none (dsB (remB B c) (tU B c).1) = false) ∨ (k = 0 ∧ ∃ c, isC B y c ∧ okL none (dsB (remB B c) (tU B c).1) = true ∧ B' = remB B c ∧ v = nI (scB (remB B c) (tU B c).1).length)
theorem MdI.row1 {S S' : PS} {m : Nat} {rr : Nat → Nat} {B : BT} (h : MdI S m rr B) (k : Kp S S' m rr (fun f => f = 192) (fun g => g = 201)) (ht : ∀ c, c < 40 → pR S' (rr 201) c = pR S (rr 201) c) : MdI S' m rr B := by
  have hb := h.1
  refine ⟨⟨k.mdF hb.f (fun f hf w => by unfold isRw at hf; omega), (k.i (by decide)).trans hb.n, (k.i (by decide)).trans hb.q, (k.i (by decide)).trans hb.c, (k.i (by decide)).trans hb.k, fun i hi => ?_, fun q hq => ?_, fun c' hc' => ?_, fun c w hc hw => ?_, hb.v⟩, ?_⟩
  · rw [k.r i_194 (by decide), k.r i_195 (by decide)]; exact hb.pu i hi
  · rw [k.r i_197 (by decide), k.r i_198 (by decide)]; exact hb.pl q hq
  · rw [ht c' hc', k.r i_203 (by decide), k.r i_204 (by decide), k.r i_205 (by decide)]; exact hb.cu c' hc'
  · rw [k.r i_200 (by decide)]; exact hb.tb c w hc hw
  · rw [k.i (f := 206) (by decide)]
    refine h.2.imp id (fun w => ⟨w.1, ?_⟩)
    have w2 := w.2
    unfold FreshV at w2 ⊢
    rw [k.r i_207 (by decide), k.r i_208 (by decide), k.r i_209 (by decide), k.r i_210 (by decide), k.r i_211 (by decide), k.r i_212 (by decide), k.r i_213 (by decide)]
    exact w2
theorem MdI.rem {S S' : PS} {m c : Nat} {rr : Nat → Nat} {B : BT} (h : MdI S m rr B) (hc : c < tC B) (hk : tK B c = false) (k : Kp S S' m rr (fun f => f = 192 ∨ f = 202 ∨ f = 206) (fun g => g = 201)) (e2 : pI S' 202 m = nI (cntN (tK B) (tC B) + 1)) (e6 : pI S' 206 m = 0) (ht : pR S' (rr 201) = va_up (pR S (rr 201)) c 1) (V : VB (remB B c)) : MdI S' m rr (remB B c) := by
  have hb := h.1
  refine ⟨⟨k.mdF hb.f (fun f hf w => by unfold isRw at hf; omega), (k.i (by decide)).trans hb.n, (k.i (by decide)).trans hb.q, (k.i (by decide)).trans hb.c, e2.trans ?_, fun i hi => ?_, fun q hq => ?_, fun c' hc' => ?_, fun c w hc hw => ?_, V⟩, Or.inl e6⟩
  · show nI (cntN (tK B) (tC B) + 1) = nI (cntN (va_up (tK B) c true) (tC B))
    rw [cntN_set _ hc hk]
  · rw [k.r i_194 (by decide), k.r i_195 (by decide)]; exact hb.pu i hi
  · rw [k.r i_197 (by decide), k.r i_198 (by decide)]; exact hb.pl q hq
  · rw [k.r i_203 (by decide), k.r i_204 (by decide), k.r i_205 (by decide), ht]
    refine ⟨?_, (hb.cu c' hc').2⟩
    show va_up (pR S (rr 201)) c 1 c' = if va_up (tK B) c true c' = true then 1 else 0
    by_cases e : c' = c
    · subst e
      rw [va_up_self, va_up_self]
      rfl
    · rw [va_up_ne _ _ e, va_up_ne _ _ e]
      exact (hb.cu c' hc').1
  · rw [k.r i_200 (by decide)]; exact hb.tb c w hc hw
theorem md_strike {Γ : GBase} (F : FB Γ) (S : PS) (m : Nat) (y : Int32) (rr : Nat → Nat) (B : BT) (hI : MdI S m rr B) : GMet Γ yX6_strike cX6_strike 5 ((some FieldType.int)) 4 0 0 [.ref m, .int y] S (fun r S' => MdO S S' m rr (spStrike B y) r) noX := by
  have hI1 := hI.thr 0
  have hB1 := hI1.1
  have h40 := hB1.v.2.2.1
  have h8 := hB1.v.1
  refine GMet.of (loc0 := [(0, .ref m), (1, .int y)]) F (by decide +kernel) rfl (Nat.le_of_ble_eq_true rfl) (fun X C R Tb nm => ?_)
  refine g_aload_n C dX6_strike_0 rfl rfl ?_
  refine g_iconst C dX6_strike_1 (v := 0) (by decide) ?_
  refine pu_Model_thrown C tw_5_89 (by exact hI.1.m) dX6_strike_2 ?_
  refine g_aload_n C dX6_strike_5 rfl rfl ?_
  refine g_iload_n C dX6_strike_6 rfl rfl ?_
  refine g_callV C gy_X6_isCue tw_5_232 tw_5_234 ts_35 (by decide) (kk := 6) rfl rfl (by exact hB1.m) (md_isCue F _ m y rr B hB1) rfl rfl (Nat.le_of_ble_eq_true rfl) (by omega) (by omega) dX6_strike_7 (fun _ _ h9 => h9.elim) ?_
  rintro _ _ ⟨rfl, v, hv, rfl⟩
  refine g_if_ne C dX6_strike_10 (tgt := 19) (by decide) (fun c1 => ?_) (fun c1 => ?_)
  · obtain ⟨c, hc⟩ := hv.pos c1
    have hc0 := hc
    obtain ⟨hcn, rfl, hck⟩ := hc
    have hu := hB1.v.2.2.2.2.2.1 c hcn
    obtain ⟨p, hpe⟩ : ∃ p, p = (tU B c).1 := ⟨_, rfl⟩
    have hp : p < tN B := by rw [hpe]; exact hu.2
    have hsc := hB1.v.2.2.2.2.2.2.1 p hp
    obtain ⟨i0, hi0⟩ := List.getElem?_of_mem ((hsc.1.2 c).mpr ⟨hcn, hpe.symm, hck⟩)
    have hrm := hsc.1.rem hi0
    have hrm2 := remB_sc hB1.v hcn (hpe ▸ hi0)
    rw [← hpe] at hrm2
    have hscr : isScr (tU B) (va_up (tK B) c true) (tC B) p (scB (remB B c) p) := by rw [hrm2.1]; exact hrm.1
    refine g_aload_n C dX6_strike_19 rfl rfl ?_
    refine ge_Model_table C tw_5_97 (by exact hB1.m) (by exact hB1.f.r i_200) dX6_strike_20 ?_
    refine g_iconst C dX6_strike_23 (v := 5) (by decide) ?_
    refine g_iload_n C dX6_strike_24 rfl rfl ?_
    refine g_imul C dX6_strike_25 ?_
    refine g_iconst C dX6_strike_26 (v := 1) (by decide) ?_
    refine g_iadd C dX6_strike_27 ?_
    refine g_ldI C (tix1 c) (hB1.f.i i_200 rfl) (hB1.f.lt i_200 (n := 200) rfl (by omega)) (by omega) ((hB1.tb c 1 hcn (by decide)).trans (show cueW (tU B c) 1 = nI p by rw [hpe]; rfl)) dX6_strike_28 ?_
    refine g_istore_n C dX6_strike_29 rfl (by decide) rfl ?_
    refine g_aload_n C dX6_strike_30 rfl rfl ?_
    refine ge_Model_areStruck C tw_5_98 (by exact hB1.m) (by exact hB1.f.r i_201) dX6_strike_31 ?_
    refine g_iload_n C dX6_strike_34 rfl rfl ?_
    refine g_iconst C dX6_strike_35 (v := 1) (by decide) ?_
    refine g_stZ C (Or.inr rfl) rfl hB1.f.z (hB1.f.lt i_201 (n := 40) rfl (by omega)) (by omega) dX6_strike_36 ?_
    obtain ⟨S1, hS1⟩ : ∃ S1, S1 = uR (uI S 192 m 0) (rr 201) (va_up (pR (uI S 192 m 0) (rr 201)) c 1) := ⟨_, rfl⟩
    refine g_pcS (S' := S1) hS1.symm ?_
    have f1 : MdF S1 m rr := by rw [hS1]; exact hB1.f
    have k1 : Kp S S1 m rr (fun f => f = 192) (fun g => g = 201) := by rw [hS1]; exact Kp.tr (kp_uI (Fs := fun f => f = 192) (Gs := fun g => g = 201) rfl) (kp_uR hB1.f i_201 rfl)
    have r1 : pR S1 (rr 201) = va_up (pR S (rr 201)) c 1 := by rw [hS1]; exact uR_q
    have t1 : pI S1 192 m = 0 := by rw [hS1]; exact (show pI (uI S 192 m 0) 192 m = 0 from uI_q)
    have m1 : FrM S S1 m := by rw [hS1]; exact FrM.i.tr (FrM.r hB1.f i_201)
    have hT : TabV S1 m rr (tC B) (tU B) (va_up (tK B) c true) := by
      refine ⟨(k1.i (by decide)).trans hI.1.c, h40, fun c' hc' => ?_, fun c' w hc' hw => ?_⟩
      · have hu' := hB1.v.2.2.2.2.2.1 c' hc'
        refine ⟨hu'.1, by omega, ?_⟩
        rw [r1]
        by_cases e : c' = c
        · subst e
          rw [va_up_self, va_up_self]
          rfl
        · rw [va_up_ne _ _ e, va_up_ne _ _ e]
          exact (hI.1.cu c' (by omega)).1
      · rw [k1.r i_200 (by decide)]; exact hI.1.tb c' w hc' hw
    refine g_aload_n C dX6_strike_37 rfl rfl ?_
    refine g_iload_n C dX6_strike_38 rfl rfl ?_
    refine g_callV C gy_X6_areRight tw_5_195 tw_5_197 ts_30 (by decide) (kk := 6) rfl rfl (by exact f1.1) (md_areRight F S1 m p (tC B) rr _ _ _ f1 hT (by omega) hscr) rfl rfl (Nat.le_of_ble_eq_true rfl) (by omega) (by omega) dX6_strike_39 (fun _ _ h9 => h9.elim) ?_
    rintro _ _ ⟨rfl, v1, hv1, rfl⟩
    have hv1' : isB v1 (okL none (dsB (remB B c) p) = true) := hv1
    refine g_if_ne C dX6_strike_42 (tgt := 58) (by decide) (fun c2 => ?_) (fun c2 => ?_)
    · have hok := hv1'.pos c2
      refine g_aload_n C dX6_strike_58 rfl rfl ?_
      refine g_dup C dX6_strike_59 rfl ?_
      refine ge_Model_struck C tw_5_99 (by exact f1.1) (by exact ((k1.i (by decide)).trans hI.1.k)) dX6_strike_60 ?_
      refine g_iconst C dX6_strike_63 (v := 1) (by decide) ?_
      refine g_iadd C dX6_strike_64 ?_
      rw [nI_1]
      refine pu_Model_struck C tw_5_99 (by exact f1.1) dX6_strike_65 ?_
      refine g_aload_n C dX6_strike_68 rfl rfl ?_
      refine g_iconst C dX6_strike_69 (v := 0) (by decide) ?_
      refine pu_Model_isFresh C tw_5_103 (by exact f1.1) (by first | exact Or.inl rfl | exact Or.inr rfl) dX6_strike_70 ?_
      refine g_iconst C dX6_strike_73 (v := 0) (by decide) ?_
      refine g_istore_n C dX6_strike_74 rfl (by decide) rfl ?_
      refine g_iconst C dX6_strike_75 (v := 0) (by decide) ?_
      refine g_istore C dX6_strike_76 (by decide) rfl ?_
      obtain ⟨S2, hS2⟩ : ∃ S2, S2 = uI (uI S1 202 m (nI (cntN (tK B) (tC B) + 1))) 206 m 0 := ⟨_, rfl⟩
      rw [← hS2]
      have f2 : MdF S2 m rr := by rw [hS2]; exact f1
      have hT2 : TabV S2 m rr (tC B) (tU B) (va_up (tK B) c true) := by rw [hS2]; exact hT
      have out : MdI S2 m rr (remB B c) ∧ pI S2 192 m = 0 ∧ FrM S S2 m := by
        rw [hS2]
        refine ⟨MdI.rem hI hcn hck ?_ ((uI_ne (Or.inl (by decide))).trans uI_q) uI_q r1 (remB_V hI.1.v hcn hck (hpe ▸ hok)), t1, (m1.tr FrM.i).tr FrM.i⟩
        refine Kp.tr ?_ (kp_uI (by simp))
        refine Kp.tr ?_ (kp_uI (by simp))
        exact k1.mono (fun f h => Or.inl h) (fun g h => h)
      have loop : ∀ (k i : Nat), i + k = tC B → GW Γ X S2 0 0 78 [(0, .ref m), (1, .int (nI c)), (2, .int (nI p)), (3, .int (nI (cntN (fun c' => !(va_up (tK B) c true) c' && decide ((tU B c').1 = p)) i))), (4, .int (nI i))] [] := by
        intro k
        induction k with
        | zero =>
          intro i hi
          refine g_iload C dX6_strike_78 rfl ?_
          refine g_aload_n C dX6_strike_80 rfl rfl ?_
          refine ge_Model_cues C tw_5_96 (by exact f2.1) (by exact hT2.1) dX6_strike_81 ?_
          refine g_icmp_ge C dX6_strike_84 (tgt := 126) (by decide) (fun d1 => ?_) (fun d1 => ?_)
          · refine g_iload_n C dX6_strike_126 rfl rfl ?_
            refine g_iret C R rfl (by omega) (by omega) dX6_strike_127 ?_
            refine ⟨0, remB B c, _, _, Or.inr (Or.inr ⟨rfl, c, hc0, hpe ▸ hok, rfl, rfl⟩), out.1, out.2.1, out.2.2, rfl, fun _ => ?_⟩
            rw [← hpe, hscr.cnt, show i = tC B by omega]
          · exact absurd (nI_le (by omega) (by omega)) d1
        | succ k ih =>
          intro i hi
          have hin : i < tC B := by omega
          have hz := (hT2.2.2.1 i hin).2.2
          have go118 : ∀ (b : Bool), (!(va_up (tK B) c true) i && decide ((tU B i).1 = p)) = b → GW Γ X S2 0 0 118 [(0, .ref m), (1, .int (nI c)), (2, .int (nI p)), (3, .int (nI (cntN (fun c' => !(va_up (tK B) c true) c' && decide ((tU B c').1 = p)) i))), (4, .int (nI i))] [.int (nI (if b = true then 1 else 0)), .int (nI (cntN (fun c' => !(va_up (tK B) c true) c' && decide ((tU B c').1 = p)) i))] := by
            intro b hb
            refine g_iadd C dX6_strike_118 ?_
            rw [nI_add]
            refine g_istore_n C dX6_strike_119 rfl (by decide) rfl ?_
            refine g_iinc C dX6_strike_120 rfl (by first | exact inc1 _ | exact rfl) (by decide) rfl ?_
            refine g_goto C dX6_strike_123 (tgt := 78) (by decide) ?_
            have nx := ih (i + 1) (by omega)
            simp only [cntN, hb] at nx
            refine g_sub [(0, _), (1, _), (2, _), (3, _), (4, _)] ⟨rfl, rfl, rfl, rfl, rfl, trivial⟩ ?_
            exact nx
          refine g_iload C dX6_strike_78 rfl ?_
          refine g_aload_n C dX6_strike_80 rfl rfl ?_
          refine ge_Model_cues C tw_5_96 (by exact f2.1) (by exact hT2.1) dX6_strike_81 ?_
          refine g_icmp_ge C dX6_strike_84 (tgt := 126) (by decide) (fun d1 => ?_) (fun d1 => ?_)
          · exact absurd d1 (nI_ge hin (by omega))
          · refine g_iload_n C dX6_strike_87 rfl rfl ?_
            refine g_aload_n C dX6_strike_88 rfl rfl ?_
            refine ge_Model_areStruck C tw_5_98 (by exact f2.1) (by exact f2.r i_201) dX6_strike_89 ?_
            refine g_iload C dX6_strike_92 rfl ?_
            refine g_ldZ C rfl f2.z (f2.lt i_201 (n := 40) rfl (by omega)) (by omega) hz dX6_strike_94 ?_
            cases hs : va_up (tK B) c true i with
            | true =>
              refine g_if_ne C dX6_strike_95 (tgt := 117) (by decide) (fun d2 => ?_) (fun d2 => ?_)
              · refine g_iconst C dX6_strike_117 (v := 0) (by decide) ?_
                exact go118 false (by rw [hs]; rfl)
              · exact absurd d2 (by decide)
            | false =>
              refine g_if_ne C dX6_strike_95 (tgt := 117) (by decide) (fun d2 => ?_) (fun d2 => ?_)
              · exact absurd rfl d2
              · have hui := hB1.v.2.2.2.2.2.1 i hin
                refine g_aload_n C dX6_strike_98 rfl rfl ?_
                refine ge_Model_table C tw_5_97 (by exact f2.1) (by exact f2.r i_200) dX6_strike_99 ?_
                refine g_iconst C dX6_strike_102 (v := 5) (by decide) ?_
                refine g_iload C dX6_strike_103 rfl ?_
                refine g_imul C dX6_strike_105 ?_
                refine g_iconst C dX6_strike_106 (v := 1) (by decide) ?_
                refine g_iadd C dX6_strike_107 ?_
                refine g_ldI C (tix1 i) (f2.i i_200 rfl) (f2.lt i_200 (n := 200) rfl (by omega)) (by omega) (hT2.2.2.2 i 1 hin (by decide)) dX6_strike_108 ?_
                refine g_iload_n C dX6_strike_109 rfl rfl ?_
                refine g_icmp_ne C dX6_strike_110 (tgt := 117) (by decide) (fun d3 => ?_) (fun d3 => ?_)
                · refine g_iconst C dX6_strike_117 (v := 0) (by decide) ?_
                  refine go118 false ?_
                  rw [hs]
                  have : ¬ (tU B i).1 = p := fun e => d3 (by show nI (tU B i).1 = nI p; rw [e])
                  simp [this]
                · refine g_iconst C dX6_strike_113 (v := 1) (by decide) ?_
                  refine g_goto C dX6_strike_114 (tgt := 118) (by decide) ?_
                  refine go118 true ?_
                  rw [hs]
                  have : (tU B i).1 = p := (nI_eq (by omega) (by omega)).mp d3
                  simp [this]
      refine g_sub [(0, _), (1, _), (2, _), (3, _), (4, _)] ⟨rfl, rfl, rfl, rfl, rfl, trivial⟩ ?_
      exact loop (tC B) 0 (by omega)
    · have hno : okL none (dsB (remB B c) p) = false := by simpa using hv1'.neg c2
      refine g_aload_n C dX6_strike_45 rfl rfl ?_
      refine ge_Model_areStruck C tw_5_98 (by exact f1.1) (by exact f1.r i_201) dX6_strike_46 ?_
      refine g_iload_n C dX6_strike_49 rfl rfl ?_
      refine g_iconst C dX6_strike_50 (v := 0) (by decide) ?_
      refine g_stZ C (Or.inl rfl) rfl f1.z (f1.lt i_201 (n := 40) rfl (by omega)) (by omega) dX6_strike_51 ?_
      refine g_aload_n C dX6_strike_52 rfl rfl ?_
      refine g_iconst C dX6_strike_53 (v := 2) (by decide) ?_
      refine g_callV C gy_X6_fail tw_5_168 tw_5_170 ts_26 (by decide) (kk := 6) rfl rfl (by exact f1.1) (md_fail F _ m 2 f1.1) rfl rfl (Nat.le_of_ble_eq_true rfl) (by omega) (by omega) dX6_strike_54 (fun _ _ h9 => h9.elim) ?_
      rintro _ _ ⟨rfl, rfl⟩
      refine g_iret C R rfl (by omega) (by omega) dX6_strike_57 ?_
      refine ⟨2, B, 0, 0, Or.inr (Or.inl ⟨rfl, rfl, c, hc0, hpe ▸ hno⟩), MdI.row1 hI ?_ (fun c' _ => ?_), uI_q, ?_, rfl, fun e => absurd e (by decide)⟩
      · refine Kp.tr ?_ (kp_uI rfl)
        exact k1.tr (kp_uR f1 i_201 rfl)
      · show pR (uR S1 (rr 201) (va_up (pR S1 (rr 201)) c 0)) (rr 201) c' = _
        rw [uR_q, r1]
        by_cases e : c' = c
        · subst e
          rw [va_up_self, (hI.1.cu c' (by omega)).1, hck]
          rfl
        · rw [va_up_ne _ _ e, va_up_ne _ _ e]
      · exact (m1.tr (FrM.r f1 i_201)).tr FrM.i
  · refine g_aload_n C dX6_strike_13 rfl rfl ?_
    refine g_iconst C dX6_strike_14 (v := 1) (by decide) ?_
    refine g_callV C gy_X6_fail tw_5_168 tw_5_170 ts_26 (by decide) (kk := 6) rfl rfl (by exact hB1.m) (md_fail F _ m 1 hB1.m) rfl rfl (Nat.le_of_ble_eq_true rfl) (by omega) (by omega) dX6_strike_15 (fun _ _ h9 => h9.elim) ?_
    rintro _ _ ⟨rfl, rfl⟩
    refine g_iret C R rfl (by omega) (by omega) dX6_strike_18 ?_
    exact MdO.no (k := 1) hI (by decide) (fun v => Or.inl ⟨rfl, rfl, noC_of (hv.neg c1)⟩)
