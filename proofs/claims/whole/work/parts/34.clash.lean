def PupR (S : PS) (a : Nat) (ds : List D4) : Prop := al S a 3 ∧ good ds ∧ ∃ TA TB, pP S 102 a = some TA ∧ pP S 103 a = some TB ∧ al S TA 8 ∧ pN S TA = 1000 ∧ al S TB 8 ∧ pN S TB = 1000 ∧ ∀ b, b < 1000 → pR S TA b = zO (plL ds b) ∧ pR S TB b = zO (trL ds b)
theorem PupsI.r {Γ : GBase} {S : PS} {A : AD} {B : BT} (h : PupsI Γ S A B) (hV : VB B) {i : Nat} (hi : i < tN B) : PupR S (dP A i) (dsB B i) := by
  obtain ⟨LS, LT, TA, TB, p1, -, -, -, -, -, -, p3⟩ := h.2 i hi
  exact ⟨p1.1, hV.good hi, TA, TB, p1.2.2.2.1, p1.2.2.2.2.1, p1.2.2.2.2.2.1.1, p1.2.2.2.2.2.1.2.1, p1.2.2.2.2.2.2.1.1, p1.2.2.2.2.2.2.1.2.1, p3⟩
def isB (v : Int32) (P : Prop) : Prop := (v = 1 ∧ P) ∨ (v = 0 ∧ ¬ P)
theorem isB.pos {v : Int32} {P : Prop} (h : isB v P) (hv : v ≠ 0) : P := h.elim (fun q => q.2) (fun q => absurd q.1 hv)
theorem isB.neg {v : Int32} {P : Prop} (h : isB v P) (hv : v = 0) : ¬ P := h.elim (fun q => by rw [q.1] at hv; exact absurd hv (by decide)) (fun q => q.2)
theorem isB.z1 {v : Int32} {P : Prop} (h : isB v P) : (v &&& 1) = v := h.elim (fun q => by rw [q.1]; decide) (fun q => by rw [q.1]; decide)
theorem m_areOnOneTrack {Γ : GBase} (F : FB Γ) (S : PS) (a c t : Nat) (d e : List D4) (ha : PupR S a d) (hc : PupR S c e) (ht : t < 1000) : GMet Γ yX5_areOnOneTrack cX5_areOnOneTrack 3 ((some FieldType.boolean)) 0 0 0 [.ref a, .ref c, .int (nI t)] S (fun r S' => S = S' ∧ ∃ v, isB v (oneT d e t) ∧ r = some (.int v)) noX := by
  obtain ⟨a0, ag, a1, a2, a3, a4, a5, a6, a7, a8, a9⟩ := ha
  obtain ⟨c0, cg, d1, d2, d3, d4, d5, d6, d7, d8, d9⟩ := hc
  refine GMet.of (loc0 := [(0, .ref a), (1, .ref c), (2, .int (nI t))]) F (by decide +kernel) rfl (Nat.le_of_ble_eq_true rfl) (fun X C R Tb nm => ?_)
  refine g_aload_n C dX5_areOnOneTrack_0 rfl rfl ?_
  refine ge_Puppet_trackAt C tw_3_172 (by exact a0) (by exact a4) dX5_areOnOneTrack_1 ?_
  refine g_iload_n C dX5_areOnOneTrack_4 rfl rfl ?_
  refine g_ldI C rfl a7 (by rw [a8]; exact ht) (by omega) (a9 t ht).2 dX5_areOnOneTrack_5 ?_
  refine g_iconst C dX5_areOnOneTrack_6 (v := -1) (by decide) ?_
  refine g_icmp_eq C dX5_areOnOneTrack_7 (tgt := 29) (by decide) (fun c1 => ?_) (fun c1 => ?_)
  · refine g_iconst C dX5_areOnOneTrack_29 (v := 0) (by decide) ?_
    refine g_iret C R rfl (by omega) (by omega) dX5_areOnOneTrack_30 ?_
    refine ⟨rfl, 0, Or.inr ⟨rfl, fun h => ?_⟩, rfl⟩
    have h1 := h.1
    rw [(ag.trz t).mp c1] at h1
    cases h1
  · refine g_aload_n C dX5_areOnOneTrack_10 rfl rfl ?_
    refine ge_Puppet_trackAt C tw_3_172 (by exact a0) (by exact a4) dX5_areOnOneTrack_11 ?_
    refine g_iload_n C dX5_areOnOneTrack_14 rfl rfl ?_
    refine g_ldI C rfl a7 (by rw [a8]; exact ht) (by omega) (a9 t ht).2 dX5_areOnOneTrack_15 ?_
    refine g_aload_n C dX5_areOnOneTrack_16 rfl rfl ?_
    refine ge_Puppet_trackAt C tw_3_172 (by exact c0) (by exact d4) dX5_areOnOneTrack_17 ?_
    refine g_iload_n C dX5_areOnOneTrack_20 rfl rfl ?_
    refine g_ldI C rfl d7 (by rw [d8]; exact ht) (by omega) (d9 t ht).2 dX5_areOnOneTrack_21 ?_
    refine g_icmp_ne C dX5_areOnOneTrack_22 (tgt := 29) (by decide) (fun c2 => ?_) (fun c2 => ?_)
    · refine g_iconst C dX5_areOnOneTrack_29 (v := 0) (by decide) ?_
      refine g_iret C R rfl (by omega) (by omega) dX5_areOnOneTrack_30 ?_
      exact ⟨rfl, 0, Or.inr ⟨rfl, fun h => c2 ((ag.tri cg t t).mpr h.2)⟩, rfl⟩
    · refine g_iconst C dX5_areOnOneTrack_25 (v := 1) (by decide) ?_
      refine g_goto C dX5_areOnOneTrack_26 (tgt := 30) (by decide) ?_
      refine g_iret C R rfl (by omega) (by omega) dX5_areOnOneTrack_30 ?_
      refine ⟨rfl, 1, Or.inl ⟨rfl, ?_, (ag.tri cg t t).mp c2⟩, rfl⟩
      cases hq : trL d t with
      | none => exact absurd ((ag.trz t).mpr hq) c1
      | some v => rfl
theorem m_exchangePlaces {Γ : GBase} (F : FB Γ) (S : PS) (a c t : Nat) (d e : List D4) (ha : PupR S a d) (hc : PupR S c e) (ht : t < 1000) : GMet Γ yX5_exchangePlaces cX5_exchangePlaces 4 ((some FieldType.boolean)) 1 0 0 [.ref a, .ref c, .int (nI t)] S (fun r S' => S = S' ∧ ∃ v, isB v (t + 1 < 1000 ∧ oneT d e (t + 1) ∧ plL d t = plL e (t + 1) ∧ plL e t = plL d (t + 1)) ∧ r = some (.int v)) noX := by
  have ha' := ha
  have hc' := hc
  obtain ⟨a0, ag, a1, a2, a3, a4, a5, a6, a7, a8, a9⟩ := ha
  obtain ⟨c0, cg, d1, d2, d3, d4, d5, d6, d7, d8, d9⟩ := hc
  refine GMet.of (loc0 := [(0, .ref a), (1, .ref c), (2, .int (nI t))]) F (by decide +kernel) rfl (Nat.le_of_ble_eq_true rfl) (fun X C R Tb nm => ?_)
  refine g_iload_n C dX5_exchangePlaces_0 rfl rfl ?_
  refine g_iconst C dX5_exchangePlaces_1 (v := 1) (by decide) ?_
  refine g_iadd C dX5_exchangePlaces_2 ?_
  rw [nI_1]
  refine g_istore_n C dX5_exchangePlaces_3 rfl (by decide) rfl ?_
  refine g_iload_n C dX5_exchangePlaces_4 rfl rfl ?_
  refine g_sipush C dX5_exchangePlaces_5 (v := 1000) (by decide) ?_
  rw [show (1000 : Int32) = nI 1000 from rfl]
  refine g_icmp_ge C dX5_exchangePlaces_8 (tgt := 54) (by decide) (fun c1 => ?_) (fun c1 => ?_)
  · refine g_iconst C dX5_exchangePlaces_54 (v := 0) (by decide) ?_
    refine g_iret C R rfl (by omega) (by omega) dX5_exchangePlaces_55 ?_
    exact ⟨rfl, 0, Or.inr ⟨rfl, fun h => nI_ge h.1 (by omega) c1⟩, rfl⟩
  · have h1 : t + 1 < 1000 := by
      rcases Nat.lt_or_ge (t + 1) 1000 with q | q
      · exact q
      · exact absurd (nI_le q (by omega)) c1
    refine g_aload_n C dX5_exchangePlaces_11 rfl rfl ?_
    refine g_aload_n C dX5_exchangePlaces_12 rfl rfl ?_
    refine g_iload_n C dX5_exchangePlaces_13 rfl rfl ?_
    refine g_callS C gy_X5_areOnOneTrack tw_1_119 tw_1_120 (by decide) (m_areOnOneTrack F S a c (t + 1) d e ha' hc' h1) rfl rfl (Nat.le_of_ble_eq_true rfl) (by omega) (by omega) dX5_exchangePlaces_14 (fun _ _ h9 => h9.elim) ?_
    rintro _ _ ⟨rfl, v, hv, rfl⟩
    refine g_if_eq C dX5_exchangePlaces_17 (tgt := 54) (by decide) (fun c2 => ?_) (fun c2 => ?_)
    · refine g_iconst C dX5_exchangePlaces_54 (v := 0) (by decide) ?_
      refine g_iret C R rfl (by omega) (by omega) dX5_exchangePlaces_55 ?_
      exact ⟨rfl, 0, Or.inr ⟨rfl, fun h => hv.neg c2 h.2.1⟩, rfl⟩
    · refine g_aload_n C dX5_exchangePlaces_20 rfl rfl ?_
      refine ge_Puppet_placeAt C tw_3_170 (by exact a0) (by exact a3) dX5_exchangePlaces_21 ?_
      refine g_iload_n C dX5_exchangePlaces_24 rfl rfl ?_
      refine g_ldI C rfl a5 (by rw [a6]; exact ht) (by omega) (a9 t ht).1 dX5_exchangePlaces_25 ?_
      refine g_aload_n C dX5_exchangePlaces_26 rfl rfl ?_
      refine ge_Puppet_placeAt C tw_3_170 (by exact c0) (by exact d3) dX5_exchangePlaces_27 ?_
      refine g_iload_n C dX5_exchangePlaces_30 rfl rfl ?_
      refine g_ldI C rfl d5 (by rw [d6]; exact h1) (by omega) (d9 (t + 1) h1).1 dX5_exchangePlaces_31 ?_
      refine g_icmp_ne C dX5_exchangePlaces_32 (tgt := 54) (by decide) (fun c3 => ?_) (fun c3 => ?_)
      · refine g_iconst C dX5_exchangePlaces_54 (v := 0) (by decide) ?_
        refine g_iret C R rfl (by omega) (by omega) dX5_exchangePlaces_55 ?_
        exact ⟨rfl, 0, Or.inr ⟨rfl, fun h => c3 ((ag.pli cg t (t + 1)).mpr h.2.2.1)⟩, rfl⟩
      · refine g_aload_n C dX5_exchangePlaces_35 rfl rfl ?_
        refine ge_Puppet_placeAt C tw_3_170 (by exact c0) (by exact d3) dX5_exchangePlaces_36 ?_
        refine g_iload_n C dX5_exchangePlaces_39 rfl rfl ?_
        refine g_ldI C rfl d5 (by rw [d6]; exact ht) (by omega) (d9 t ht).1 dX5_exchangePlaces_40 ?_
        refine g_aload_n C dX5_exchangePlaces_41 rfl rfl ?_
        refine ge_Puppet_placeAt C tw_3_170 (by exact a0) (by exact a3) dX5_exchangePlaces_42 ?_
        refine g_iload_n C dX5_exchangePlaces_45 rfl rfl ?_
        refine g_ldI C rfl a5 (by rw [a6]; exact h1) (by omega) (a9 (t + 1) h1).1 dX5_exchangePlaces_46 ?_
        refine g_icmp_ne C dX5_exchangePlaces_47 (tgt := 54) (by decide) (fun c4 => ?_) (fun c4 => ?_)
        · refine g_iconst C dX5_exchangePlaces_54 (v := 0) (by decide) ?_
          refine g_iret C R rfl (by omega) (by omega) dX5_exchangePlaces_55 ?_
          exact ⟨rfl, 0, Or.inr ⟨rfl, fun h => c4 ((cg.pli ag t (t + 1)).mpr h.2.2.2)⟩, rfl⟩
        · refine g_iconst C dX5_exchangePlaces_50 (v := 1) (by decide) ?_
          refine g_goto C dX5_exchangePlaces_51 (tgt := 55) (by decide) ?_
          refine g_iret C R rfl (by omega) (by omega) dX5_exchangePlaces_55 ?_
          exact ⟨rfl, 1, Or.inl ⟨rfl, h1, hv.pos c2, (ag.pli cg t (t + 1)).mp c3, (cg.pli ag t (t + 1)).mp c4⟩, rfl⟩
theorem m_firstClash {Γ : GBase} (F : FB Γ) (S : PS) (a c : Nat) (d e : List D4) (ha : PupR S a d) (hc : PupR S c e) : GMet Γ yX5_firstClash cX5_firstClash 3 ((some FieldType.int)) 2 0 0 [.ref a, .ref c] S (fun r S' => S = S' ∧ r = some (.int (zO (pick (clD d e) 1000)))) noX := by
  have ha' := ha
  have hc' := hc
  obtain ⟨a0, ag, a1, a2, a3, a4, a5, a6, a7, a8, a9⟩ := ha
  obtain ⟨c0, cg, d1, d2, d3, d4, d5, d6, d7, d8, d9⟩ := hc
  refine GMet.of (loc0 := [(0, .ref a), (1, .ref c)]) F (by decide +kernel) rfl (Nat.le_of_ble_eq_true rfl) (fun X C R Tb nm => ?_)
  have loop : ∀ (m t : Nat), t + m = 1000 → (∀ i, i < t → ¬ clD d e i) → GW Γ X S 0 0 2 [(0, .ref a), (1, .ref c), (2, .int (nI t))] [] := by
    intro m
    induction m with
    | zero =>
      intro t ht hno
      have e0 : t = 1000 := by omega
      subst e0
      refine g_iload_n C dX5_firstClash_2 rfl rfl ?_
      refine g_sipush C dX5_firstClash_3 (v := 1000) (by decide) ?_
      refine g_icmp_ge C dX5_firstClash_6 (tgt := 50) (by decide) (fun c1 => ?_) (fun c1 => ?_)
      · refine g_iconst C dX5_firstClash_50 (v := -1) (by decide) ?_
        refine g_iret C R rfl (by omega) (by omega) dX5_firstClash_51 ?_
        rw [pick_none hno]
        exact ⟨rfl, rfl⟩
      · exact absurd (by decide) c1
    | succ m ih =>
      intro t ht hno
      have ht1 : t < 1000 := by omega
      have next : ¬ clD d e t → GW Γ X S 0 0 44 [(0, .ref a), (1, .ref c), (2, .int (nI t))] [] := by
        intro hn
        refine g_iinc C dX5_firstClash_44 rfl (by first | exact inc1 _ | exact rfl) (by decide) rfl ?_
        refine g_goto C dX5_firstClash_47 (tgt := 2) (by decide) ?_
        refine g_sub [(0, _), (1, _), (2, _)] ⟨rfl, rfl, rfl, trivial⟩ ?_
        refine ih (t + 1) (by omega) (fun i hi => ?_)
        by_cases h : i = t
        · rw [h]; exact hn
        · exact hno i (by omega)
      have found : clD d e t → GW Γ X S 0 0 42 [(0, .ref a), (1, .ref c), (2, .int (nI t))] [] := by
        intro hn
        refine g_iload_n C dX5_firstClash_42 rfl rfl ?_
        refine g_iret C R rfl (by omega) (by omega) dX5_firstClash_43 ?_
        rw [pick_some ht1 hn hno]
        exact ⟨rfl, rfl⟩
      refine g_iload_n C dX5_firstClash_2 rfl rfl ?_
      refine g_sipush C dX5_firstClash_3 (v := 1000) (by decide) ?_
      rw [show (1000 : Int32) = nI 1000 from rfl]
      refine g_icmp_ge C dX5_firstClash_6 (tgt := 50) (by decide) (fun c1 => ?_) (fun c1 => ?_)
      · exact absurd c1 (nI_ge ht1 (by omega))
      · refine g_aload_n C dX5_firstClash_9 rfl rfl ?_
        refine g_aload_n C dX5_firstClash_10 rfl rfl ?_
        refine g_iload_n C dX5_firstClash_11 rfl rfl ?_
        refine g_callS C gy_X5_areOnOneTrack tw_1_119 tw_1_120 (by decide) (m_areOnOneTrack F S a c t d e ha' hc' ht1) rfl rfl (Nat.le_of_ble_eq_true rfl) (by omega) (by omega) dX5_firstClash_12 (fun _ _ h9 => h9.elim) ?_
        rintro _ _ ⟨rfl, v, hv, rfl⟩
        refine g_if_eq C dX5_firstClash_15 (tgt := 44) (by decide) (fun c2 => ?_) (fun c2 => ?_)
        · exact next (fun h => hv.neg c2 h.1)
        · refine g_aload_n C dX5_firstClash_18 rfl rfl ?_
          refine ge_Puppet_placeAt C tw_3_170 (by exact a0) (by exact a3) dX5_firstClash_19 ?_
          refine g_iload_n C dX5_firstClash_22 rfl rfl ?_
          refine g_ldI C rfl a5 (by rw [a6]; exact ht1) (by omega) (a9 t ht1).1 dX5_firstClash_23 ?_
          refine g_aload_n C dX5_firstClash_24 rfl rfl ?_
          refine ge_Puppet_placeAt C tw_3_170 (by exact c0) (by exact d3) dX5_firstClash_25 ?_
          refine g_iload_n C dX5_firstClash_28 rfl rfl ?_
          refine g_ldI C rfl d5 (by rw [d6]; exact ht1) (by omega) (d9 t ht1).1 dX5_firstClash_29 ?_
          refine g_icmp_eq C dX5_firstClash_30 (tgt := 42) (by decide) (fun c3 => ?_) (fun c3 => ?_)
          · exact found ⟨hv.pos c2, Or.inl ((ag.pli cg t t).mp c3)⟩
          · refine g_aload_n C dX5_firstClash_33 rfl rfl ?_
            refine g_aload_n C dX5_firstClash_34 rfl rfl ?_
            refine g_iload_n C dX5_firstClash_35 rfl rfl ?_
            refine g_callS C gy_X5_exchangePlaces tw_1_122 tw_1_123 (by decide) (m_exchangePlaces F S a c t d e ha' hc' ht1) rfl rfl (Nat.le_of_ble_eq_true rfl) (by omega) (by omega) dX5_firstClash_36 (fun _ _ h9 => h9.elim) ?_
            rintro _ _ ⟨rfl, v2, hv2, rfl⟩
            refine g_if_eq C dX5_firstClash_39 (tgt := 44) (by decide) (fun c4 => ?_) (fun c4 => ?_)
            · exact next (fun h => h.2.elim (fun q => c3 ((ag.pli cg t t).mpr q)) (hv2.neg c4))
            · exact found ⟨hv.pos c2, Or.inr (hv2.pos c4)⟩
  refine g_iconst C dX5_firstClash_0 (v := 0) (by decide) ?_
  refine g_istore_n C dX5_firstClash_1 rfl (by decide) rfl ?_
  refine g_sub [(0, _), (1, _), (2, _)] ⟨rfl, rfl, rfl, trivial⟩ ?_
  exact loop 1000 0 (by omega) (fun i hi => by omega)
theorem m_clash {Γ : GBase} (F : FB Γ) (S : PS) (x : Nat) (y z : Int32) (A : AD) (B : BT) (hI : BkI Γ S x A B) : GMet Γ yX5_clash cX5_clash 5 ((some FieldType.int)) 4 3 18 [.ref x, .int y, .int z] S (fun r S' => S = S' ∧ ∃ i j, i < tN B ∧ y = nI i ∧ j < tN B ∧ z = nI j ∧ i ≠ j ∧ r = some (.int (zO (fcB B i j)))) (fun E S' => S = S' ∧ ((E = xIOB ∧ (¬ inR y (tN B) ∨ ¬ inR z (tN B))) ∨ (E = xIAE ∧ inR y (tN B) ∧ y = z))) := by
  obtain ⟨hx, hL, -, -, -, -, -, hP, -, -, hV⟩ := hI
  have hn8 := hV.1
  refine GMet.of (loc0 := [(0, .ref x), (1, .int y), (2, .int z)]) F (by decide +kernel) rfl (Nat.le_of_ble_eq_true rfl) (fun X C R Tb nm => ?_)
  refine g_aload_n C dX5_clash_0 rfl rfl ?_
  refine g_iload_n C dX5_clash_1 rfl rfl ?_
  refine g_callV C gy_X5_puppetNumbered tw_3_238 tw_4_0 ts_15 (by decide) (kk := 5) rfl rfl (by exact hx) (m_puppetNumbered F S x y _ _ _ hx hL hP.al) rfl rfl (Nat.le_of_ble_eq_true rfl) (by omega) (by omega) dX5_clash_2 (fun _ _ h9 => g_out C R Tb (by omega) (by omega) ⟨h9.2.1, Or.inl ⟨h9.1, Or.inl h9.2.2⟩⟩) ?_
  rintro _ _ ⟨rfl, i, hi, hyi, rfl⟩
  refine g_astore_n C dX5_clash_5 rfl (by decide) rfl ?_
  refine g_aload_n C dX5_clash_6 rfl rfl ?_
  refine g_iload_n C dX5_clash_7 rfl rfl ?_
  refine g_callV C gy_X5_puppetNumbered tw_3_238 tw_4_0 ts_15 (by decide) (kk := 5) rfl rfl (by exact hx) (m_puppetNumbered F S x z _ _ _ hx hL hP.al) rfl rfl (Nat.le_of_ble_eq_true rfl) (by omega) (by omega) dX5_clash_8 (fun _ _ h9 => g_out C R Tb (by omega) (by omega) ⟨h9.2.1, Or.inl ⟨h9.1, Or.inr h9.2.2⟩⟩) ?_
  rintro _ _ ⟨rfl, j, hj, hzj, rfl⟩
  refine g_astore C dX5_clash_11 (by decide) rfl ?_
  refine g_iload_n C dX5_clash_13 rfl rfl ?_
  refine g_iload_n C dX5_clash_14 rfl rfl ?_
  refine g_icmp_ne C dX5_clash_15 (tgt := 28) (by decide) (fun c1 => ?_) (fun c1 => ?_)
  · refine g_aload_n C dX5_clash_28 rfl rfl ?_
    refine g_aload C dX5_clash_29 rfl ?_
    refine g_callS C gy_X5_firstClash tw_1_116 tw_1_117 (by decide) (m_firstClash F S _ _ _ _ (hP.r hV hi) (hP.r hV hj)) rfl rfl (Nat.le_of_ble_eq_true rfl) (by omega) (by omega) dX5_clash_31 (fun _ _ h9 => h9.elim) ?_
    rintro _ _ ⟨rfl, rfl⟩
    refine g_iret C R rfl (by omega) (by omega) dX5_clash_34 ?_
    exact ⟨rfl, i, j, hi, hyi, hj, hzj, fun e => c1 (by rw [hyi, hzj, e]), rfl⟩
  · refine g_throwS C R Tb (kk := 5) rfl rfl tx_IAE tw_5_25 dX5_clash_18 dX5_clash_21 dX5_clash_22 dX5_clash_24 dX5_clash_27 (by simp [Value.category]) (by omega) (by omega) ?_
    exact ⟨rfl, Or.inr ⟨rfl, ⟨i, hi, hyi⟩, c1⟩⟩
