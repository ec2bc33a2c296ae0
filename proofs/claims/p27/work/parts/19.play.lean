/-! ===== the class Puppet: its beats, its stays, its script played ===== -/
theorem uR_comm {S : PS} {a b : Nat} {r r' : Nat → Int32} (h : a ≠ b) : uR (uR S a r) b r' = uR (uR S b r') a r := by
  obtain ⟨s1, s2, s3, s4, s5, s6, s7, s8, s9, s10⟩ := S
  simp only [uR, Prod.mk.injEq, true_and, and_true]
  funext c
  by_cases h1 : c = a
  · subst h1; rw [va_up_ne _ _ h, va_up_self, va_up_self]
  · by_cases h2 : c = b
    · subst h2; rw [va_up_self, va_up_ne _ _ h1, va_up_self]
    · rw [va_up_ne _ _ h2, va_up_ne _ _ h1, va_up_ne _ _ h1, va_up_ne _ _ h2]
/-- an int row of n cells, another's -/
def RowI (S : PS) (T o n : Nat) : Prop := al S T 8 ∧ pN S T = n ∧ pW S T = o
theorem RowI.fr {S S' : PS} {mo ma : Nat → Nat → Prop} {T o n : Nat} (h : RowI S T o n) (hf : Fr S S' mo ma) : RowI S' T o n := ⟨h.1.fr hf, (hf T h.1.1).2.2.1.trans h.2.1, (hf T h.1.1).2.2.2.1.trans h.2.2⟩
def moN : Nat → Nat → Prop := fun _ _ => False
def ma2 (x y : Nat) : Nat → Nat → Prop := fun _ b => b = x ∨ b = y
theorem m_playBeats {Γ : GBase} (F : FB Γ) (S : PS) (a q TA TB b0 b1 : Nat) (p : PT) (ha : al S a 3) (hA : pP S 102 a = some TA) (hB : pP S 103 a = some TB) (hTA : RowI S TA a 1000) (hTB : RowI S TB a 1000) (hne : TA ≠ TB) (hP : PathIs S q p) (hfb : fbLe p b0) (h01 : b0 ≤ b1) (h1 : b1 ≤ 1000) : GMet Γ yX3_playBeats cX3_playBeats 5 ((none : Option FieldType)) 1 0 0 [.ref a, .ref q, .int (nI b0), .int (nI b1)] S (fun r S' => r = none ∧ Fr S S' moN (ma2 TA TB) ∧ ∀ b, b < 1000 → (b0 ≤ b → b < b1 → pR S' TA b = zO (plAt p b) ∧ pR S' TB b = zO (trOf p)) ∧ ((b < b0 ∨ b1 ≤ b) → pR S' TA b = pR S TA b ∧ pR S' TB b = pR S TB b)) noX := by
  refine GMet.of (loc0 := [(0, .ref a), (1, .ref q), (2, .int (nI b0)), (3, .int (nI b1))]) F (by decide +kernel) rfl (Nat.le_of_ble_eq_true rfl) (fun X C R Tb nm => ?_)
  have loop : ∀ (m i : Nat) (rA rB : Nat → Int32), i + m = b1 → b0 ≤ i → (∀ b, b < 1000 → (b0 ≤ b → b < i → rA b = zO (plAt p b) ∧ rB b = zO (trOf p)) ∧ ((b < b0 ∨ i ≤ b) → rA b = pR S TA b ∧ rB b = pR S TB b)) → GW Γ X (uR (uR S TA rA) TB rB) 0 0 3 [(0, .ref a), (1, .ref q), (2, .int (nI b0)), (3, .int (nI b1)), (4, .int (nI i))] [] := by
    intro m
    induction m with
    | zero =>
      intro i rA rB hi h0 hr
      have e1 : i = b1 := by omega
      subst e1
      refine g_iload C dX3_playBeats_3 rfl ?_
      refine g_iload_n C dX3_playBeats_5 rfl rfl ?_
      refine g_icmp_ge C dX3_playBeats_6 (tgt := 39) (by decide) (fun c => ?_) (fun c => ?_)
      · refine g_vret C R (by omega) (by omega) dX3_playBeats_39 ?_
        refine ⟨rfl, ?_, fun b hb => ?_⟩
        · exact (fr_uR (mo := moN) (ma := ma2 TA TB) (Or.inl rfl)).tr (fr_uR (mo := moN) (ma := ma2 TA TB) (Or.inr rfl)) (fun _ _ _ h => h.elim id id) (fun _ _ _ h => h.elim id id)
        · have e2 : pR (uR (uR S TA rA) TB rB) TA b = rA b := by rw [uR_ne hne, uR_q]
          have e3 : pR (uR (uR S TA rA) TB rB) TB b = rB b := by rw [uR_q]
          rw [e2, e3]
          exact hr b hb
      · exact absurd (nI_le (Nat.le_refl _) (by omega)) c
    | succ m ih =>
      intro i rA rB hi h0 hr
      have hFr : Fr S (uR (uR S TA rA) TB rB) moN (ma2 TA TB) := (fr_uR (mo := moN) (ma := ma2 TA TB) (Or.inl rfl)).tr (fr_uR (mo := moN) (ma := ma2 TA TB) (Or.inr rfl)) (fun _ _ _ h => h.elim id id) (fun _ _ _ h => h.elim id id)
      refine g_iload C dX3_playBeats_3 rfl ?_
      refine g_iload_n C dX3_playBeats_5 rfl rfl ?_
      refine g_icmp_ge C dX3_playBeats_6 (tgt := 39) (by decide) (fun c => ?_) (fun c => ?_)
      · exact absurd c (nI_ge (by omega) (by omega))
      · have hP2 : PathIs (uR (uR S TA rA) TB rB) q p := hP.fr hFr (fun _ _ _ => id)
        refine g_aload_n C dX3_playBeats_9 rfl rfl ?_
        refine ge_Puppet_placeAt C tw_2_162 (by exact ha) (by exact hA) dX3_playBeats_10 ?_
        refine g_iload C dX3_playBeats_13 rfl ?_
        refine g_aload_n C dX3_playBeats_15 rfl rfl ?_
        refine g_iload C dX3_playBeats_16 rfl ?_
        refine g_callV C gy_X1_placeAtBeat tw_3_108 tw_3_109 tw_3_110 (by decide) (kk := 1) rfl rfl (by exact hP.1) (m_placeAtBeat F _ q i p hP2 (by omega) (fun e t fp tp fb tb he => by have := hfb _ _ _ _ _ _ he; omega)) rfl rfl (Nat.le_of_ble_eq_true rfl) (by omega) (by omega) dX3_playBeats_18 (fun _ _ h9 => h9.elim) ?_
        rintro _ _ ⟨rfl, rfl⟩
        refine g_stI C rfl hTA.1 (by show i < pN S TA; rw [hTA.2.1]; omega) (by omega) dX3_playBeats_21 ?_
        have e2 : uR (uR (uR S TA rA) TB rB) TA (va_up (pR (uR (uR S TA rA) TB rB) TA) i (zO (plAt p i))) = uR (uR S TA (va_up rA i (zO (plAt p i)))) TB rB := by
          rw [uR_ne hne, uR_q, uR_comm hne.symm, uR_uR]
        rw [e2]
        have hP3 : PathIs (uR (uR S TA (va_up rA i (zO (plAt p i)))) TB rB) q p := hP.fr ((fr_uR (mo := moN) (ma := ma2 TA TB) (Or.inl rfl)).tr (fr_uR (mo := moN) (ma := ma2 TA TB) (Or.inr rfl)) (fun _ _ _ h => h.elim id id) (fun _ _ _ h => h.elim id id)) (fun _ _ _ => id)
        refine g_aload_n C dX3_playBeats_22 rfl rfl ?_
        refine ge_Puppet_trackAt C tw_2_164 (by exact ha) (by exact hB) dX3_playBeats_23 ?_
        refine g_iload C dX3_playBeats_26 rfl ?_
        refine g_aload_n C dX3_playBeats_28 rfl rfl ?_
        refine g_callV C gy_X1_trackNow tw_3_112 tw_3_113 tw_3_114 (by decide) (kk := 1) rfl rfl (by exact hP.1) (m_trackNow F _ q p hP3) rfl rfl (Nat.le_of_ble_eq_true rfl) (by omega) (by omega) dX3_playBeats_29 (fun _ _ h9 => h9.elim) ?_
        rintro _ _ ⟨rfl, rfl⟩
        refine g_stI C rfl hTB.1 (by show i < pN S TB; rw [hTB.2.1]; omega) (by omega) dX3_playBeats_32 ?_
        rw [uR_uR, uR_q]
        refine g_iinc C dX3_playBeats_33 rfl (by first | exact inc1 _ | exact rfl) (by decide) rfl ?_
        refine g_goto C dX3_playBeats_36 (tgt := 3) (by decide) ?_
        refine g_sub [(0, _), (1, _), (2, _), (3, _), (4, _)] ⟨rfl, rfl, rfl, rfl, rfl, trivial⟩ ?_
        refine ih (i + 1) _ _ (by omega) (by omega) (fun b hb => ⟨fun g1 g2 => ?_, fun g => ?_⟩)
        · by_cases g3 : b = i
          · subst g3; rw [va_up_self, va_up_self]; exact ⟨rfl, rfl⟩
          · rw [va_up_ne _ _ g3, va_up_ne _ _ g3]
            exact (hr b hb).1 g1 (by omega)
        · have g3 : b ≠ i := by omega
          rw [va_up_ne _ _ g3, va_up_ne _ _ g3]
          exact (hr b hb).2 (by omega)
  refine g_iload_n C dX3_playBeats_0 rfl rfl ?_
  refine g_istore C dX3_playBeats_1 (by decide) rfl ?_
  refine g_sub [(0, _), (1, _), (2, _), (3, _), (4, _)] ⟨rfl, rfl, rfl, rfl, rfl, trivial⟩ ?_
  have e0 := loop (b1 - b0) b0 (pR S TA) (pR S TB) (by omega) (Nat.le_refl _) (fun b _ => ⟨fun g1 g2 => absurd g1 (by omega), fun _ => ⟨rfl, rfl⟩⟩)
  rw [uR_self] at e0
  rw [uR_self] at e0
  exact e0
theorem m_Stay_init {Γ : GBase} (F : FB Γ) (S : PS) (t a b : Nat) (ht : al S t 4) : GMet Γ yX4_init cX4_init 3 ((none : Option FieldType)) 1 0 0 [.ref t, .ref a, .int (nI b)] S (fun r S' => r = none ∧ S' = uI (uP (uI (uI S 130 t (nI 1000)) 131 t (-1)) 128 t (some a)) 129 t (nI b)) noX := by
  refine GMet.of (loc0 := [(0, .ref t), (1, .ref a), (2, .int (nI b))]) F (by decide +kernel) rfl (Nat.le_of_ble_eq_true rfl) (fun X C R Tb nm => ?_)
  refine g_aload_n C dX4_init_0 rfl rfl ?_
  refine g_objInit C tw_3_125 tw_1_28 tw_1_29 dX4_init_1 (by simp [Value.category]) ?_
  refine g_aload_n C dX4_init_4 rfl rfl ?_
  refine g_sipush C dX4_init_5 (v := 1000) (by decide) ?_
  refine pu_Stay_end C tw_3_132 (by exact ht) dX4_init_8 ?_
  refine g_aload_n C dX4_init_11 rfl rfl ?_
  refine g_iconst C dX4_init_12 (v := -1) (by decide) ?_
  refine pu_Stay_player C tw_3_136 (by exact ht) dX4_init_13 ?_
  refine g_aload_n C dX4_init_16 rfl rfl ?_
  refine g_aload_n C dX4_init_17 rfl rfl ?_
  refine pu_Stay_puppet C tw_3_126 nm (by exact ht) dX4_init_18 ?_
  refine g_aload_n C dX4_init_21 rfl rfl ?_
  refine g_iload_n C dX4_init_22 rfl rfl ?_
  refine pu_Stay_begin C tw_3_129 nm (by exact ht) dX4_init_23 ?_
  refine g_vret C R (by omega) (by omega) dX4_init_26 ?_
  exact ⟨rfl, rfl⟩
theorem nodup_snoc {ts : List Nat} {t : Nat} (h : ts.Nodup) (ht : t ∉ ts) : (ts ++ [t]).Nodup := by
  rw [List.nodup_append]
  refine ⟨h, by simp, fun x hx y hy => ?_⟩
  rw [List.mem_singleton] at hy
  subst hy
  exact fun q => ht (q ▸ hx)
theorem StaysI.snoc {S : PS} {a t : Nat} {ts : List Nat} {ss : List (Nat × Nat)} {q : Nat × Nat} (h : StaysI S a ts ss) (ht : t ∉ ts) (hq : StayO S t a q) : StaysI S a (ts ++ [t]) (ss ++ [q]) := by
  refine ⟨by simp [h.1], nodup_snoc h.2.1 ht, fun i t' q' h1 h2 => ?_⟩
  by_cases hi : i < ts.length
  · rw [List.getElem?_append_left hi] at h1
    rw [List.getElem?_append_left (by rw [← h.1]; exact hi)] at h2
    exact h.2.2 i t' q' h1 h2
  · have hi2 : i < (ts ++ [t]).length := (List.getElem?_eq_some_iff.mp h1).1
    simp at hi2
    have hie : i = ts.length := by omega
    subst hie
    simp at h1
    rw [h.1] at h2
    simp at h2
    subst h1; subst h2
    exact hq
def moS (LT : Nat) (ts : List Nat) : Nat → Nat → Prop := fun f b => b = LT ∨ (f = 130 ∧ b ∈ ts)
theorem m_recordStay {Γ : GBase} (F : FB Γ) (S : PS) (a c LT : Nat) (d : D4) (ts : List Nat) (ss : List (Nat × Nat)) (ha : al S a 3) (hLT : pP S 101 a = some LT) (hL : isL Γ S LT ts) (hS : StaysI S a ts ss) (hC : CueObj S c d) (h60 : ts.length ≤ 60) : GMet Γ yX3_recordStay cX3_recordStay 2 ((none : Option FieldType)) 6 2 104 [.ref a, .ref c] S (fun r S' => r = none ∧ (∃ ts', isL Γ S' LT ts' ∧ StaysI S' a ts' (sStep ss d) ∧ (∀ t, t ∈ ts' → t ∈ ts ∨ t ∉ pL S)) ∧ Fr S S' (moS LT ts) (maL LT)) noX := by
  obtain ⟨hc1, hc2, hc3, -, -, hok⟩ := id hC
  obtain ⟨k, bt, pc, tr⟩ := d
  simp only at hc2 hc3
  have hk : k < 4 := hok.1
  have hbt : bt < 1000 := hok.2.1
  refine GMet.of (loc0 := [(0, .ref a), (1, .ref c)]) F (by decide +kernel) rfl (Nat.le_of_ble_eq_true rfl) (fun X C R Tb nm => ?_)
  refine g_aload_n C dX3_recordStay_0 rfl rfl ?_
  refine ge_Cue_kind C tw_3_0 (by exact hc1) (by exact hc2) dX3_recordStay_1 ?_
  refine g_if_ne C dX3_recordStay_4 (tgt := 30) (by decide) (fun c0 => ?_) (fun c0 => ?_)
  · have hk0 : k ≠ 0 := fun q => c0 (by rw [q]; rfl)
    refine g_aload_n C dX3_recordStay_30 rfl rfl ?_
    refine ge_Cue_kind C tw_3_0 (by exact hc1) (by exact hc2) dX3_recordStay_31 ?_
    refine g_iconst C dX3_recordStay_34 (v := 3) (by decide) ?_
    rw [show (3 : Int32) = nI 3 from rfl]
    refine g_icmp_ne C dX3_recordStay_35 (tgt := 74) (by decide) (fun c1 => ?_) (fun c1 => ?_)
    · have hk3 : k ≠ 3 := fun q => c1 (by rw [q])
      refine g_vret C R (by omega) (by omega) dX3_recordStay_74 ?_
      refine ⟨rfl, ⟨ts, hL, ?_, fun t h => Or.inl h⟩, Fr.rf⟩
      simp only [sStep, if_neg hk0, if_neg hk3]
      exact hS
    · have hk3 : k = 3 := (nI_eq (by omega) (by omega)).mp c1
      subst hk3
      refine g_aload_n C dX3_recordStay_38 rfl rfl ?_
      refine ge_Puppet_stayList C tw_2_160 (by exact ha) (by exact hLT) dX3_recordStay_39 ?_
      refine g_callV C gy_Jx4a65c_isEmpty_aae02 tw_3_148 tw_3_149 tw_3_150 (by decide) (kk := 7) rfl rfl (by exact hL.1) (m_isEmpty F S LT ts hL) rfl rfl (Nat.le_of_ble_eq_true rfl) (by omega) (by omega) dX3_recordStay_42 (fun _ _ h9 => h9.elim) ?_
      rintro _ _ ⟨rfl, rfl⟩
      refine g_if_ne C dX3_recordStay_45 (tgt := 74) (by decide) (fun c2 => ?_) (fun c2 => ?_)
      · have h0 : ts = [] := by
          rcases Nat.eq_zero_or_pos ts.length with q | q
          · exact List.length_eq_zero_iff.mp q
          · rw [if_neg (by omega)] at c2; exact absurd rfl c2
        subst h0
        have hs0 : ss = [] := List.length_eq_zero_iff.mp hS.1.symm
        subst hs0
        refine g_vret C R (by omega) (by omega) dX3_recordStay_74 ?_
        exact ⟨rfl, ⟨[], hL, hS, fun t h => Or.inl h⟩, Fr.rf⟩
      · have hpos : 0 < ts.length := by
          rcases Nat.eq_zero_or_pos ts.length with q | q
          · rw [if_pos q] at c2; exact absurd c2 (by decide)
          · exact q
        obtain ⟨t, ht⟩ : ∃ t, ts[ts.length - 1]? = some t := ⟨_, List.getElem?_eq_getElem (by omega)⟩
        obtain ⟨q, hq⟩ : ∃ q, ss[ts.length - 1]? = some q := ⟨_, List.getElem?_eq_getElem (by have := hS.1; omega)⟩
        have hto := hS.2.2 _ t q ht hq
        refine g_aload_n C dX3_recordStay_48 rfl rfl ?_
        refine ge_Puppet_stayList C tw_2_160 (by exact ha) (by exact hLT) dX3_recordStay_49 ?_
        refine g_aload_n C dX3_recordStay_52 rfl rfl ?_
        refine ge_Puppet_stayList C tw_2_160 (by exact ha) (by exact hLT) dX3_recordStay_53 ?_
        refine g_callV C gy_Jx4a65c_size_8abf5 tw_3_42 tw_1_90 tw_1_91 (by decide) (kk := 7) rfl rfl (by exact hL.1) (m_size F S LT ts hL) rfl rfl (Nat.le_of_ble_eq_true rfl) (by omega) (by omega) dX3_recordStay_56 (fun _ _ h9 => h9.elim) ?_
        rintro _ _ ⟨rfl, rfl⟩
        refine g_iconst C dX3_recordStay_59 (v := 1) (by decide) ?_
        refine g_isub C dX3_recordStay_60 ?_
        rw [show nI ts.length - 1 = nI (ts.length - 1) from pk_sub (b := 1) (by omega)]
        refine g_callV C gy_Jx4a65c_get_915e3 tw_3_43 tw_1_162 tw_1_163 (by decide) (kk := 7) rfl rfl (by exact hL.1) (m_get F S LT ts hL _ t ht) rfl rfl (Nat.le_of_ble_eq_true rfl) (by omega) (by omega) dX3_recordStay_61 (fun _ _ h9 => h9.elim) ?_
        rintro _ _ ⟨rfl, rfl⟩
        refine g_cast C (kk := 4) rfl hto.1 tw_3_120 dX3_recordStay_64 ?_
        refine g_aload_n C dX3_recordStay_67 rfl rfl ?_
        refine ge_Cue_beat C tw_3_4 (by exact hc1) (by exact hc3) dX3_recordStay_68 ?_
        refine pu_Stay_end C tw_3_134 (by exact hto.1) dX3_recordStay_71 ?_
        refine g_vret C R (by omega) (by omega) dX3_recordStay_74 ?_
        have hF : Fr S (uI S 130 t (nI bt)) (moS LT ts) (maL LT) := fr_uI (Or.inr ⟨rfl, List.mem_of_getElem? ht⟩)
        have htm := List.mem_of_getElem? ht
        have htL : t ≠ LT := hL.ne hto.1 (by decide)
        have hF2 : Fr S (uI S 130 t (nI bt)) (fun f b => f = 130 ∧ b = t) maN := fr_uI ⟨rfl, rfl⟩
        refine ⟨rfl, ⟨ts, hL.fr hF2 (fun h => absurd h.1 (by decide)) (fun h => absurd h.1 (by decide)) (fun _ _ _ => id), ?_, fun t h => Or.inl h⟩, hF⟩
        have hgl : ss.getLast? = some q := by rw [List.getLast?_eq_getElem?, ← hS.1]; exact hq
        have hst : sStep ss (3, bt, pc, tr) = ss.dropLast ++ [(q.1, bt)] := by simp [sStep, hgl]
        rw [hst]
        have hl2 := hS.1
        refine ⟨by simp; omega, hS.2.1, fun i t' q' h1 h2 => ?_⟩
        by_cases hi : i = ts.length - 1
        · subst hi
          rw [ht] at h1
          cases h1
          rw [List.getElem?_append_right (by simp; omega)] at h2
          simp [hl2] at h2
          subst h2
          exact ⟨hto.1, hto.2.1, hto.2.2.1, uI_q, hto.2.2.2.2.1, by show bt ≤ 1000; omega⟩
        · have hil : i < ts.length := (List.getElem?_eq_some_iff.mp h1).1
          have hne : t' ≠ t := fun e => hi ((List.getElem?_inj hil hS.2.1).mp (h1.trans (e ▸ ht.symm)))
          rw [List.getElem?_append_left (by simp; omega), List.getElem?_dropLast, if_pos (by omega)] at h2
          exact (hS.2.2 i t' q' h1 h2).fr hF2 (fun f _ _ h => hne h.2)
  · have hk0 : k = 0 := by
      rcases Nat.eq_zero_or_pos k with q | q
      · exact q
      · exact absurd c0 (nI_ne0 q (by omega))
    subst hk0
    refine g_aload_n C dX3_recordStay_7 rfl rfl ?_
    refine ge_Puppet_stayList C tw_2_160 (by exact ha) (by exact hLT) dX3_recordStay_8 ?_
    refine g_new C kd_4 tw_3_120 tw_3_121 tw_1_21 (by omega) (by omega) dX3_recordStay_11 (fun t ht => ?_)
    have ht4 : al (nO S t 4) t 4 := al_nO
    have hc2' : al (nO S t 4) c 0 := hc1.nO ht
    have hb' : pI (nO S t 4) 2 c = nI bt := by rw [((fr_new (mo := moN) (ma := maN) ht) c hc1.1).2.2.2.2.1 2 id |>.1]; exact hc3
    refine g_dup C dX3_recordStay_14 rfl ?_
    refine g_aload_n C dX3_recordStay_15 rfl rfl ?_
    refine g_aload_n C dX3_recordStay_16 rfl rfl ?_
    refine ge_Cue_beat C tw_3_4 (by exact hc2') (by exact hb') dX3_recordStay_17 ?_
    refine g_callI C gy_X4_init tw_3_122 tw_3_123 rfl rfl (by decide) (m_Stay_init F _ t a bt ht4) rfl rfl (Nat.le_of_ble_eq_true rfl) (by omega) (by omega) dX3_recordStay_20 ?_
    rintro _ _ ⟨rfl, rfl⟩
    have hF0 : Fr S (uI (uP (uI (uI (nO S t 4) 130 t (nI 1000)) 131 t (-1)) 128 t (some a)) 129 t (nI bt)) moN maN := by
      have h1 : Fr (nO S t 4) (uI (uP (uI (uI (nO S t 4) 130 t (nI 1000)) 131 t (-1)) 128 t (some a)) 129 t (nI bt)) (moO t) maN := Fr.trO (Fr.trO (Fr.trO (fr_uI rfl) (fr_uI rfl)) (fr_uP rfl)) (fr_uI rfl)
      exact (fr_new (mo := moN) (ma := maN) ht).tr h1 (fun f b hb h => h.elim id (fun h2 => absurd h2 (mem_ne hb ht))) (fun _ _ _ h => h.elim id id)
    have hto : StayO (uI (uP (uI (uI (nO S t 4) 130 t (nI 1000)) 131 t (-1)) 128 t (some a)) 129 t (nI bt)) t a (bt, 1000) := by
      refine ⟨ht4, ?_, uI_q, ?_, hbt, Nat.le_refl _⟩
      · exact uP_q (S := uI (uI (nO S t 4) 130 t (nI 1000)) 131 t (-1))
      · simp [pI, uI, uP]
    generalize uI (uP (uI (uI (nO S t 4) 130 t (nI 1000)) 131 t (-1)) 128 t (some a)) 129 t (nI bt) = S1 at hF0 hto ⊢
    have hL1 : isL Γ S1 LT ts := hL.fr hF0 id id (fun _ _ _ => id)
    have hS1 : StaysI S1 a ts ss := hS.fr hF0 (fun _ _ _ _ _ => id)
    have htn : t ∉ ts := fun h => ht (hS.al t h).1
    refine g_callV C gy_Jx4a65c_add_9ea2d tw_3_147 tw_2_184 tw_2_185 (by decide) (kk := 7) rfl rfl (by exact hL1.1) (m_add F S1 LT t 4 ts hL1 hto.1 h60 (by decide) (fun x hx => hS1.al x hx)) rfl rfl (Nat.le_of_ble_eq_true rfl) (by omega) (by omega) dX3_recordStay_23 (fun _ _ h9 => h9.elim) ?_
    rintro _ _ ⟨rfl, hL2, hF2⟩
    refine g_pop C dX3_recordStay_26 rfl ?_
    refine g_goto C dX3_recordStay_27 (tgt := 74) (by decide) ?_
    refine g_vret C R (by omega) (by omega) dX3_recordStay_74 ?_
    have hno : ∀ x, al S1 x 4 → ¬ moL LT 128 x := fun x hx => hL1.ne hx (by decide)
    refine ⟨rfl, ⟨ts ++ [t], hL2, ?_, fun x hx => ?_⟩, hF0.tr hF2 (fun f b hb h => h.elim False.elim Or.inl) (fun _ _ _ h => h.elim False.elim id)⟩
    · have := (hS1.fr hF2 (fun x hx f _ _ => hno x (hS1.al x hx))).snoc htn (hto.fr hF2 (fun f _ _ => hno t hto.1))
      simpa [sStep] using this
    · rcases List.mem_append.mp hx with h | h
      · exact Or.inl h
      · rw [List.mem_singleton] at h
        exact Or.inr (h ▸ ht)
