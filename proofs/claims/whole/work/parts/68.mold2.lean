def spAddPlayer (B : BT) (y z : Int32) (k : Nat) (B' : BT) (v : Int32) : Prop := (k = 1 ∧ B' = B ∧ ¬ (in1 y 20 ∧ inR z 20)) ∨ (k = 2 ∧ B' = B ∧ in1 y 20 ∧ inR z 20 ∧ 5 ≤ tQ B) ∨ (k = 0 ∧ ∃ s o, 1 ≤ s ∧ s ≤ 20 ∧ y = nI s ∧ o < 20 ∧ z = nI o ∧ tQ B < 5 ∧ B' = plyB B s o ∧ v = nI (tQ B))
theorem MdI.ply {S S' : PS} {m : Nat} {rr : Nat → Nat} {B : BT} {s o : Nat} (h : MdB S m rr B) (k : Kp S S' m rr (fun f => f = 192 ∨ f = 196 ∨ f = 206) (fun g => g = 197 ∨ g = 198)) (e3 : pI S' 196 m = nI (tQ B + 1)) (e6 : pI S' 206 m = 0) (h4 : pR S' (rr 197) = va_up (pR S (rr 197)) (tQ B) (nI s)) (h5 : pR S' (rr 198) = va_up (pR S (rr 198)) (tQ B) (nI o)) (V : VB (plyB B s o)) : MdI S' m rr (plyB B s o) := by
  refine ⟨⟨k.mdF h.f (fun f hf w => by unfold isRw at hf; omega), (k.i (by decide)).trans h.n, e3, (k.i (by decide)).trans h.c, (k.i (by decide)).trans h.k, fun i hi => ?_, fun q hq => ?_, fun c hc => ?_, fun c w hc hw => ?_, V⟩, Or.inl e6⟩
  · rw [k.r i_194 (by decide), k.r i_195 (by decide)]; exact h.pu i hi
  · rw [h4, h5]
    show va_up (pR S (rr 197)) (tQ B) (nI s) q = nI (va_up (tT B) (tQ B) s q) ∧ va_up (pR S (rr 198)) (tQ B) (nI o) q = nI (va_up (tO B) (tQ B) o q)
    have hi' : q < tQ B + 1 := hq
    by_cases e : q = tQ B
    · subst e
      rw [va_up_self, va_up_self, va_up_self, va_up_self]
      exact ⟨rfl, rfl⟩
    · rw [va_up_ne _ _ e, va_up_ne _ _ e, va_up_ne _ _ e, va_up_ne _ _ e]
      exact h.pl q (by omega)
  · rw [k.r i_201 (by decide), k.r i_203 (by decide), k.r i_204 (by decide), k.r i_205 (by decide)]; exact h.cu c hc
  · rw [k.r i_200 (by decide)]; exact h.tb c w hc hw
theorem md_addPlayer {Γ : GBase} (F : FB Γ) (S : PS) (m : Nat) (y z : Int32) (rr : Nat → Nat) (B : BT) (hI : MdI S m rr B) : GMet Γ yX6_addPlayer cX6_addPlayer 3 ((some FieldType.int)) 2 0 0 [.ref m, .int y, .int z] S (fun r S' => MdO S S' m rr (spAddPlayer B y z) r) noX := by
  have hB := hI.1
  have hB1 : MdB (uI S 192 m 0) m rr B := (hI.thr 0).1
  have h8 := hB1.v.2.1
  refine GMet.of (loc0 := [(0, .ref m), (1, .int y), (2, .int z)]) F (by decide +kernel) rfl (Nat.le_of_ble_eq_true rfl) (fun X C R Tb nm => ?_)
  have no : ¬ (in1 y 20 ∧ inR z 20) → GW Γ X (uI S 192 m 0) 0 0 25 [(0, .ref m), (1, .int y), (2, .int z)] [] := by
    intro h
    refine g_aload_n C dX6_addPlayer_25 rfl rfl ?_
    refine g_iconst C dX6_addPlayer_26 (v := 1) (by decide) ?_
    refine g_callV C gy_X6_fail tw_5_168 tw_5_170 ts_26 (by decide) (kk := 6) rfl rfl (by exact hB1.m) (md_fail F _ m 1 hB1.m) rfl rfl (Nat.le_of_ble_eq_true rfl) (by omega) (by omega) dX6_addPlayer_27 (fun _ _ h9 => h9.elim) ?_
    rintro _ _ ⟨rfl, rfl⟩
    refine g_iret C R rfl (by omega) (by omega) dX6_addPlayer_30 ?_
    exact MdO.no (k := 1) hI (by decide) (fun v => Or.inl ⟨rfl, rfl, h⟩)
  refine g_aload_n C dX6_addPlayer_0 rfl rfl ?_
  refine g_iconst C dX6_addPlayer_1 (v := 0) (by decide) ?_
  refine pu_Model_thrown C tw_5_89 (by exact hI.1.m) dX6_addPlayer_2 ?_
  refine g_iload_n C dX6_addPlayer_5 rfl rfl ?_
  refine g_iconst C dX6_addPlayer_6 (v := 1) (by decide) ?_
  refine g_bipush C dX6_addPlayer_7 (v := 20) (by decide) ?_
  refine g_callS C gy_X6_isIn tw_5_165 tw_5_166 (by decide) (md_isIn F _ y 1 20) rfl rfl (Nat.le_of_ble_eq_true rfl) (by omega) (by omega) dX6_addPlayer_9 (fun _ _ h9 => h9.elim) ?_
  rintro _ _ ⟨rfl, v, hv, rfl⟩
  rw [show (20 : Int32) = nI 20 from rfl, in1_in (by omega)] at hv
  refine g_if_eq C dX6_addPlayer_12 (tgt := 25) (by decide) (fun c1 => ?_) (fun c1 => ?_)
  · exact no (fun h => hv.neg c1 h.1)
  · have hy := hv.pos c1
    refine g_iload_n C dX6_addPlayer_15 rfl rfl ?_
    refine g_iconst C dX6_addPlayer_16 (v := 0) (by decide) ?_
    refine g_bipush C dX6_addPlayer_17 (v := 19) (by decide) ?_
    refine g_callS C gy_X6_isIn tw_5_165 tw_5_166 (by decide) (md_isIn F _ z 0 19) rfl rfl (Nat.le_of_ble_eq_true rfl) (by omega) (by omega) dX6_addPlayer_19 (fun _ _ h9 => h9.elim) ?_
    rintro _ _ ⟨rfl, v2, hv2, rfl⟩
    rw [show (19 : Int32) = nI 20 - 1 from by decide, inR_in (by omega)] at hv2
    refine g_if_ne C dX6_addPlayer_22 (tgt := 31) (by decide) (fun c2 => ?_) (fun c2 => ?_)
    · have hz := hv2.pos c2
      refine g_aload_n C dX6_addPlayer_31 rfl rfl ?_
      refine ge_Model_players C tw_5_93 (by exact hB1.m) (by exact hB1.q) dX6_addPlayer_32 ?_
      refine g_iconst C dX6_addPlayer_35 (v := 5) (by decide) ?_
      refine g_icmp_ne C dX6_addPlayer_36 (tgt := 45) (by decide) (fun c3 => ?_) (fun c3 => ?_)
      · have hlt : tQ B < 5 := by
          rcases Nat.lt_or_ge (tQ B) 5 with w | w
          · exact w
          · exact absurd (by rw [show tQ B = 5 by omega]; rfl) c3
        obtain ⟨s, s1, s2, rfl⟩ := hy
        obtain ⟨o, o2, rfl⟩ := hz
        refine g_aload_n C dX6_addPlayer_45 rfl rfl ?_
        refine ge_Model_strengths C tw_5_94 (by exact hB1.m) (by exact hB1.f.r i_197) dX6_addPlayer_46 ?_
        refine g_aload_n C dX6_addPlayer_49 rfl rfl ?_
        refine ge_Model_players C tw_5_93 (by exact hB1.m) (by exact hB1.q) dX6_addPlayer_50 ?_
        refine g_iload_n C dX6_addPlayer_53 rfl rfl ?_
        refine g_stI C rfl (hB1.f.i i_197 rfl) (hB1.f.lt i_197 (n := 5) rfl hlt) (by omega) dX6_addPlayer_54 ?_
        refine g_aload_n C dX6_addPlayer_55 rfl rfl ?_
        refine ge_Model_homes C tw_5_95 (by exact hB1.m) (by exact hB1.f.r i_198) dX6_addPlayer_56 ?_
        refine g_aload_n C dX6_addPlayer_59 rfl rfl ?_
        refine ge_Model_players C tw_5_93 (by exact hB1.m) (by exact hB1.q) dX6_addPlayer_60 ?_
        refine g_iload_n C dX6_addPlayer_63 rfl rfl ?_
        refine g_stI C rfl (hB1.f.i i_198 rfl) (hB1.f.lt i_198 (n := 5) rfl hlt) (by omega) dX6_addPlayer_64 ?_
        refine g_aload_n C dX6_addPlayer_65 rfl rfl ?_
        refine g_dup C dX6_addPlayer_66 rfl ?_
        refine ge_Model_players C tw_5_93 (by exact hB1.m) (by exact hB1.q) dX6_addPlayer_67 ?_
        refine g_iconst C dX6_addPlayer_70 (v := 1) (by decide) ?_
        refine g_iadd C dX6_addPlayer_71 ?_
        rw [nI_1]
        refine pu_Model_players C tw_5_93 (by exact hB1.m) dX6_addPlayer_72 ?_
        refine g_aload_n C dX6_addPlayer_75 rfl rfl ?_
        refine g_iconst C dX6_addPlayer_76 (v := 0) (by decide) ?_
        refine pu_Model_isFresh C tw_5_103 (by exact hB1.m) (by first | exact Or.inl rfl | exact Or.inr rfl) dX6_addPlayer_77 ?_
        refine g_aload_n C dX6_addPlayer_80 rfl rfl ?_
        refine ge_Model_players C tw_5_93 (by exact hB1.m) (by exact ((uI_ne (Or.inl (by decide))).trans uI_q)) dX6_addPlayer_81 ?_
        refine g_iconst C dX6_addPlayer_84 (v := 1) (by decide) ?_
        refine g_isub C dX6_addPlayer_85 ?_
        rw [nI_pred]
        refine g_iret C R rfl (by omega) (by omega) dX6_addPlayer_86 ?_
        refine ⟨0, plyB B s o, nI (tQ B), _, Or.inr (Or.inr ⟨rfl, s, o, s1, s2, rfl, o2, rfl, hlt, rfl, rfl⟩), MdI.ply (s := s) (o := o) hB ?_ ((uI_ne (Or.inl (by decide))).trans uI_q) uI_q ?_ ?_ (plyB_V hB.v hlt s2 o2), ?_, ?_, rfl, fun _ => rfl⟩
        · refine Kp.tr ?_ (kp_uI (by simp))
          refine Kp.tr ?_ (kp_uI (by simp))
          refine Kp.tr ?_ (kp_uR (by exact hB1.f) i_198 (by simp))
          refine Kp.tr ?_ (kp_uR (by exact hB1.f) i_197 (by simp))
          exact kp_uI (by simp)
        · exact (uR_ne (hB.f.ne i_197 i_198 (by decide))).trans uR_q
        · refine uR_q.trans ?_
          rw [uR_ne (hB.f.ne i_198 i_197 (by decide))]
          rfl
        · exact (uI_ne (Or.inl (by decide))).trans ((uI_ne (Or.inl (by decide))).trans (show pI (uI S 192 m 0) 192 m = nI 0 from uI_q))
        · refine FrM.tr ?_ FrM.i
          refine FrM.tr ?_ FrM.i
          refine FrM.tr ?_ (FrM.r (by exact hB1.f) i_198)
          refine FrM.tr ?_ (FrM.r (by exact hB1.f) i_197)
          exact FrM.i
      · have h8' : tQ B = 5 := (nI_eq (b := 5) (by omega) (by omega)).mp c3
        refine g_aload_n C dX6_addPlayer_39 rfl rfl ?_
        refine g_iconst C dX6_addPlayer_40 (v := 2) (by decide) ?_
        refine g_callV C gy_X6_fail tw_5_168 tw_5_170 ts_26 (by decide) (kk := 6) rfl rfl (by exact hB1.m) (md_fail F _ m 2 hB1.m) rfl rfl (Nat.le_of_ble_eq_true rfl) (by omega) (by omega) dX6_addPlayer_41 (fun _ _ h9 => h9.elim) ?_
        rintro _ _ ⟨rfl, rfl⟩
        refine g_iret C R rfl (by omega) (by omega) dX6_addPlayer_44 ?_
        exact MdO.no (k := 2) hI (by decide) (fun v => Or.inr (Or.inl ⟨rfl, rfl, hy, hz, by omega⟩))
    · refine g_sub [(0, _), (1, _), (2, _)] ⟨rfl, rfl, rfl, trivial⟩ ?_
      exact no (fun h => hv2.neg c2 h.2)
theorem isZ_in {z : Int32} : (¬ z < -50 ∧ z ≤ 50) ↔ isZ z := by
  unfold isZ
  rw [lt50, le50]
  omega
def spNote (B : BT) (y z : Int32) (k : Nat) (B' : BT) (v : Int32) : Prop := (k = 1 ∧ B' = B ∧ noC B y) ∨ (k = 2 ∧ B' = B ∧ (∃ c, isC B y c) ∧ ¬ isZ z) ∨ (k = 3 ∧ B' = B ∧ ∃ c, isC B y c ∧ isZ z ∧ 20 ≤ tE B c) ∨ (k = 0 ∧ ∃ c, isC B y c ∧ isZ z ∧ tE B c < 20 ∧ B' = noteB B c z.toInt ∧ v = nI (tE B c + 1))
theorem FreshV.same {S : PS} {rr : Nat → Nat} {B B' : BT} (h : FreshV S rr B) (hd : ∀ p, dsB B' p = dsB B p) (hn : tN B' = tN B) (hc : ctB B' = ctB B) : FreshV S rr B' := by
  have ho : ordB B' = ordB B := by unfold ordB; rw [hc]
  have hk : castB B' = castB B := by unfold castB; rw [hc, ho]
  unfold FreshV
  rw [hc, ho, hn, hk]
  simp only [hd]
  exact h
theorem MdI.note {S S' : PS} {m c : Nat} {rr : Nat → Nat} {B : BT} {z : Int32} (hc : c < tC B) (h : MdI S m rr B) (k : Kp S S' m rr (fun f => f = 192) (fun g => 203 ≤ g ∧ g ≤ 205)) (h3 : pR S' (rr 203) = va_up (pR S (rr 203)) c (nI (tE B c + 1))) (h4 : pR S' (rr 204) = va_up (pR S (rr 204)) c (Int32.ofInt (tL B c + z.toInt))) (h5 : pR S' (rr 205) = va_up (pR S (rr 205)) c (nI (tF B c + z.toInt.natAbs))) (V : VB (noteB B c z.toInt)) : MdI S' m rr (noteB B c z.toInt) := by
  have hb := h.1
  refine ⟨⟨k.mdF hb.f (fun f hf w => by unfold isRw at hf; omega), (k.i (by decide)).trans hb.n, (k.i (by decide)).trans hb.q, (k.i (by decide)).trans hb.c, (k.i (by decide)).trans hb.k, fun i hi => ?_, fun q hq => ?_, fun c' hc' => ?_, fun c w hc hw => ?_, V⟩, ?_⟩
  · rw [k.r i_194 (by decide), k.r i_195 (by decide)]; exact hb.pu i hi
  · rw [k.r i_197 (by decide), k.r i_198 (by decide)]; exact hb.pl q hq
  · rw [k.r i_201 (by decide), h3, h4, h5]
    have := hb.cu c' hc'
    refine ⟨this.1, ?_⟩
    show va_up (pR S (rr 203)) c (nI (tE B c + 1)) c' = nI (va_up (tE B) c (tE B c + 1) c') ∧ va_up (pR S (rr 204)) c (Int32.ofInt (tL B c + z.toInt)) c' = Int32.ofInt (va_up (tL B) c (tL B c + z.toInt) c') ∧ va_up (pR S (rr 205)) c (nI (tF B c + z.toInt.natAbs)) c' = nI (va_up (tF B) c (tF B c + z.toInt.natAbs) c')
    by_cases e : c' = c
    · subst e
      simp only [va_up_self]
      exact ⟨trivial, trivial, trivial⟩
    · rw [va_up_ne _ _ e, va_up_ne _ _ e, va_up_ne _ _ e, va_up_ne _ _ e, va_up_ne _ _ e, va_up_ne _ _ e]
      exact this.2
  · rw [k.r i_200 (by decide)]; exact hb.tb c w hc hw
  · rw [k.i (f := 206) (by decide)]
    refine h.2.imp id (fun w => ⟨w.1, ?_⟩)
    have hf : FreshV S' rr B := by
      have w2 := w.2
      unfold FreshV at w2 ⊢
      rw [k.r i_207 (by decide), k.r i_208 (by decide), k.r i_209 (by decide), k.r i_210 (by decide), k.r i_211 (by decide), k.r i_212 (by decide), k.r i_213 (by decide)]
      exact w2
    exact hf.same (fun p => rfl) rfl rfl
theorem md_note {Γ : GBase} (F : FB Γ) (S : PS) (m : Nat) (y z : Int32) (rr : Nat → Nat) (B : BT) (hI : MdI S m rr B) : GMet Γ yX6_note cX6_note 3 ((some FieldType.int)) 2 0 0 [.ref m, .int y, .int z] S (fun r S' => MdO S S' m rr (spNote B y z) r) noX := by
  have hB := hI.1
  have hB1 : MdB (uI S 192 m 0) m rr B := (hI.thr 0).1
  have h40 := hB.v.2.2.1
  refine GMet.of (loc0 := [(0, .ref m), (1, .int y), (2, .int z)]) F (by decide +kernel) rfl (Nat.le_of_ble_eq_true rfl) (fun X C R Tb nm => ?_)
  refine g_aload_n C dX6_note_0 rfl rfl ?_
  refine g_iconst C dX6_note_1 (v := 0) (by decide) ?_
  refine pu_Model_thrown C tw_5_89 (by exact hI.1.m) dX6_note_2 ?_
  refine g_aload_n C dX6_note_5 rfl rfl ?_
  refine g_iload_n C dX6_note_6 rfl rfl ?_
  refine g_callV C gy_X6_isCue tw_5_232 tw_5_234 ts_35 (by decide) (kk := 6) rfl rfl (by exact hB1.m) (md_isCue F _ m y rr B hB1) rfl rfl (Nat.le_of_ble_eq_true rfl) (by omega) (by omega) dX6_note_7 (fun _ _ h9 => h9.elim) ?_
  rintro _ _ ⟨rfl, v, hv, rfl⟩
  refine g_if_ne C dX6_note_10 (tgt := 19) (by decide) (fun c1 => ?_) (fun c1 => ?_)
  · obtain ⟨c, hc⟩ := hv.pos c1
    have hc0 := hc
    obtain ⟨hcn, rfl, hck⟩ := hc
    have hs := hB.v.2.2.2.2.2.2.2.1 c hcn
    have hcu := hB1.cu c (by omega)
    refine g_iload_n C dX6_note_19 rfl rfl ?_
    refine g_bipush C dX6_note_20 (v := -50) (by decide) ?_
    refine g_bipush C dX6_note_22 (v := 50) (by decide) ?_
    refine g_callS C gy_X6_isIn tw_5_165 tw_5_166 (by decide) (md_isIn F _ z (-50) 50) rfl rfl (Nat.le_of_ble_eq_true rfl) (by omega) (by omega) dX6_note_24 (fun _ _ h9 => h9.elim) ?_
    rintro _ _ ⟨rfl, v2, hv2, rfl⟩
    rw [isZ_in] at hv2
    refine g_if_ne C dX6_note_27 (tgt := 36) (by decide) (fun c2 => ?_) (fun c2 => ?_)
    · have hz := hv2.pos c2
      refine g_aload_n C dX6_note_36 rfl rfl ?_
      refine ge_Model_noted C tw_5_100 (by exact hB1.m) (by exact hB1.f.r i_203) dX6_note_37 ?_
      refine g_iload_n C dX6_note_40 rfl rfl ?_
      refine g_ldI C rfl (hB1.f.i i_203 rfl) (hB1.f.lt i_203 (n := 40) rfl (by omega)) (by omega) hcu.2.1 dX6_note_41 ?_
      refine g_bipush C dX6_note_42 (v := 20) (by decide) ?_
      refine g_icmp_ne C dX6_note_44 (tgt := 53) (by decide) (fun c3 => ?_) (fun c3 => ?_)
      · have hlt : tE B c < 20 := by
          rcases Nat.lt_or_ge (tE B c) 20 with w | w
          · exact w
          · exact absurd (by rw [show tE B c = 20 by omega]; rfl) c3
        refine g_aload_n C dX6_note_53 rfl rfl ?_
        refine ge_Model_noted C tw_5_100 (by exact hB1.m) (by exact hB1.f.r i_203) dX6_note_54 ?_
        refine g_iload_n C dX6_note_57 rfl rfl ?_
        refine g_dup2 C dX6_note_58 rfl rfl ?_
        refine g_ldI C rfl (hB1.f.i i_203 rfl) (hB1.f.lt i_203 (n := 40) rfl (by omega)) (by omega) hcu.2.1 dX6_note_59 ?_
        refine g_iconst C dX6_note_60 (v := 1) (by decide) ?_
        refine g_iadd C dX6_note_61 ?_
        rw [nI_1]
        refine g_stI C rfl (hB1.f.i i_203 rfl) (hB1.f.lt i_203 (n := 40) rfl (by omega)) (by omega) dX6_note_62 ?_
        refine g_aload_n C dX6_note_63 rfl rfl ?_
        refine ge_Model_sums C tw_5_101 (by exact hB1.m) (by exact hB1.f.r i_204) dX6_note_64 ?_
        refine g_iload_n C dX6_note_67 rfl rfl ?_
        refine g_dup2 C dX6_note_68 rfl rfl ?_
        refine g_ldI C rfl (hB1.f.i i_204 rfl) (hB1.f.lt i_204 (n := 40) rfl (by omega)) (by omega) ((congrFun (uR_ne (hB1.f.ne i_204 i_203 (by decide))) c).trans hcu.2.2.1) dX6_note_69 ?_
        refine g_iload_n C dX6_note_70 rfl rfl ?_
        refine g_iadd C dX6_note_71 ?_
        rw [ofInt_addI]
        refine g_stI C rfl (hB1.f.i i_204 rfl) (hB1.f.lt i_204 (n := 40) rfl (by omega)) (by omega) dX6_note_72 ?_
        refine g_aload_n C dX6_note_73 rfl rfl ?_
        refine ge_Model_greatness C tw_5_102 (by exact hB1.m) (by exact hB1.f.r i_205) dX6_note_74 ?_
        refine g_iload_n C dX6_note_77 rfl rfl ?_
        refine g_dup2 C dX6_note_78 rfl rfl ?_
        refine g_ldI C rfl (hB1.f.i i_205 rfl) (hB1.f.lt i_205 (n := 40) rfl (by omega)) (by omega) ((congrFun ((uR_ne (hB1.f.ne i_205 i_204 (by decide))).trans (uR_ne (hB1.f.ne i_205 i_203 (by decide)))) c).trans hcu.2.2.2) dX6_note_79 ?_
        refine g_iload_n C dX6_note_80 rfl rfl ?_
        refine g_abs C tw_5_215 (by simp [Value.category]) (by omega) (by omega) dX6_note_81 ?_
        rw [jabs_ofInt hz.1 hz.2]
        refine g_iadd C dX6_note_84 ?_
        rw [nI_add]
        refine g_stI C rfl (hB1.f.i i_205 rfl) (hB1.f.lt i_205 (n := 40) rfl (by omega)) (by omega) dX6_note_85 ?_
        refine g_aload_n C dX6_note_86 rfl rfl ?_
        refine ge_Model_noted C tw_5_100 (by exact hB1.m) (by exact hB1.f.r i_203) dX6_note_87 ?_
        refine g_iload_n C dX6_note_90 rfl rfl ?_
        refine g_ldI C rfl (hB1.f.i i_203 rfl) (hB1.f.lt i_203 (n := 40) rfl (by omega)) (by omega) (v := nI (tE B c + 1)) ((congrFun ((uR_ne (hB1.f.ne i_203 i_205 (by decide))).trans ((uR_ne (hB1.f.ne i_203 i_204 (by decide))).trans uR_q)) c).trans (va_up_self _ _ _)) dX6_note_91 ?_
        refine g_iret C R rfl (by omega) (by omega) dX6_note_92 ?_
        refine ⟨0, noteB B c z.toInt, _, _, Or.inr (Or.inr (Or.inr ⟨rfl, c, hc0, hz, hlt, rfl, rfl⟩)), MdI.note (z := z) hcn hI ?_ ?_ ?_ ?_ (noteB_V hB.v hcn hlt hz.1 hz.2), ?_, ?_, rfl, fun _ => rfl⟩
        · refine Kp.tr ?_ (kp_uR (by exact hB1.f) i_205 (by simp))
          refine Kp.tr ?_ (kp_uR (by exact hB1.f) i_204 (by simp))
          refine Kp.tr ?_ (kp_uR (by exact hB1.f) i_203 (by simp))
          exact kp_uI (by simp)
        · exact (uR_ne (hB.f.ne i_203 i_205 (by decide))).trans ((uR_ne (hB.f.ne i_203 i_204 (by decide))).trans uR_q)
        · refine ((uR_ne (hB.f.ne i_204 i_205 (by decide))).trans uR_q).trans ?_
          rw [uR_ne (hB.f.ne i_204 i_203 (by decide))]
          rfl
        · refine uR_q.trans ?_
          rw [uR_ne (hB.f.ne i_205 i_204 (by decide)), uR_ne (hB.f.ne i_205 i_203 (by decide))]
          rfl
        · exact (show pI (uI S 192 m 0) 192 m = nI 0 from uI_q)
        · refine FrM.tr ?_ (FrM.r (by exact hB1.f) i_205)
          refine FrM.tr ?_ (FrM.r (by exact hB1.f) i_204)
          refine FrM.tr ?_ (FrM.r (by exact hB1.f) i_203)
          exact FrM.i
      · have e20 : tE B c = 20 := (nI_eq (b := 20) (by omega) (by omega)).mp c3
        refine g_aload_n C dX6_note_47 rfl rfl ?_
        refine g_iconst C dX6_note_48 (v := 3) (by decide) ?_
        refine g_callV C gy_X6_fail tw_5_168 tw_5_170 ts_26 (by decide) (kk := 6) rfl rfl (by exact hB1.m) (md_fail F _ m 3 hB1.m) rfl rfl (Nat.le_of_ble_eq_true rfl) (by omega) (by omega) dX6_note_49 (fun _ _ h9 => h9.elim) ?_
        rintro _ _ ⟨rfl, rfl⟩
        refine g_iret C R rfl (by omega) (by omega) dX6_note_52 ?_
        exact MdO.no (k := 3) hI (by decide) (fun v => Or.inr (Or.inr (Or.inl ⟨rfl, rfl, c, hc0, hz, by omega⟩)))
    · refine g_aload_n C dX6_note_30 rfl rfl ?_
      refine g_iconst C dX6_note_31 (v := 2) (by decide) ?_
      refine g_callV C gy_X6_fail tw_5_168 tw_5_170 ts_26 (by decide) (kk := 6) rfl rfl (by exact hB1.m) (md_fail F _ m 2 hB1.m) rfl rfl (Nat.le_of_ble_eq_true rfl) (by omega) (by omega) dX6_note_32 (fun _ _ h9 => h9.elim) ?_
      rintro _ _ ⟨rfl, rfl⟩
      refine g_iret C R rfl (by omega) (by omega) dX6_note_35 ?_
      exact MdO.no (k := 2) hI (by decide) (fun v => Or.inr (Or.inl ⟨rfl, rfl, ⟨c, hc0⟩, hv2.neg c2⟩))
  · refine g_aload_n C dX6_note_13 rfl rfl ?_
    refine g_iconst C dX6_note_14 (v := 1) (by decide) ?_
    refine g_callV C gy_X6_fail tw_5_168 tw_5_170 ts_26 (by decide) (kk := 6) rfl rfl (by exact hB1.m) (md_fail F _ m 1 hB1.m) rfl rfl (Nat.le_of_ble_eq_true rfl) (by omega) (by omega) dX6_note_15 (fun _ _ h9 => h9.elim) ?_
    rintro _ _ ⟨rfl, rfl⟩
    refine g_iret C R rfl (by omega) (by omega) dX6_note_18 ?_
    exact MdO.no (k := 1) hI (by decide) (fun v => Or.inl ⟨rfl, rfl, noC_of (hv.neg c1)⟩)
