def dW (d : Int64) (x : Int32) : Int64 := d * 31 + x.toInt64
/-- the digest over the first n stays of a puppet; puppets; players; cues -/
noncomputable def dgS (B : BT) (i : Nat) (d : Int64) : Nat → Int64
  | 0 => d
  | n + 1 => dW (dW (dW (dgS B i d n) (stW B i n 0)) (stW B i n 1)) (stW B i n 2)
noncomputable def dgP (B : BT) (d : Int64) : Nat → Int64
  | 0 => d
  | i + 1 => dgS B i (dW (dgP B d i) (nI (stL (dsB B i)).length)) (stL (dsB B i)).length
noncomputable def ldB (B : BT) (q : Nat) : Nat := cntN (fun b => hmB B q b != 0) 1000
noncomputable def dgY (B : BT) (d : Int64) : Nat → Int64
  | 0 => d
  | q + 1 => dW (dgY B d q) (nI (ldB B q))
def dgU (B : BT) (c : Nat) (d : Int64) : Nat → Int64
  | 0 => d
  | n + 1 => dW (dgU B c d n) (cueW (tU B c) n)
def dgC (B : BT) (d : Int64) : Nat → Int64
  | 0 => d
  | c + 1 => if tK B c = true then dgC B d c else dW (dgU B c (dgC B d c) 5) (nI (tE B c))
noncomputable def dgB (B : BT) : Int64 := dW (dgC B (dW (dgY B (dW (dgP B (dW 277 (nI (tN B))) (tN B)) (nI (tQ B))) (tQ B)) (nI (tC B))) (tC B)) (nI (clN B))
theorem m_digestWith {Γ : GBase} (F : FB Γ) (S : PS) (d : Int64) (y : Int32) : GMet Γ yX5_digestWith cX5_digestWith 3 ((some FieldType.long)) 0 0 0 [.long d, .int y] S (fun r S' => r = some (.long (dW d y)) ∧ S = S') noX := by
  refine GMet.of (loc0 := [(0, .long d), (2, .int y)]) F (by decide +kernel) rfl (Nat.le_of_ble_eq_true rfl) (fun X C R Tb nm => ?_)
  refine g_lload_n C dX5_digestWith_0 rfl rfl ?_
  refine g_ldc2 C (v := 31) tw_3_97 dX5_digestWith_1 ?_
  refine g_lmul C dX5_digestWith_4 ?_
  refine g_iload_n C dX5_digestWith_5 rfl rfl ?_
  refine g_i2l C dX5_digestWith_6 ?_
  refine g_ladd C dX5_digestWith_7 ?_
  refine g_lret C R (by omega) (by omega) dX5_digestWith_8 ?_
  exact ⟨rfl, rfl⟩
theorem m_tellOfCue0 {Γ : GBase} (F : FB Γ) (S : PS) (c p w : Nat) (u : Nat × D4) (sk : Bool) (nt : Nat) (sl : Int) (so : Nat) (hc : CueA S c p u.2 sk nt sl so) (hp : al S p 3) (hn : pI S 96 p = nI u.1) (hw : w < 5) : GMet Γ yX5_tellOfCue cX5_tellOfCue 2 ((some FieldType.int)) 0 0 0 [.ref c, .int (nI w)] S (fun r S' => S = S' ∧ r = some (.int (cueW u w))) noX := by
  obtain ⟨⟨h0, h1, h2, h3, h4, _⟩, h5, -, -, -, -, h6, h7⟩ := hc
  refine GMet.of (loc0 := [(0, .ref c), (1, .int (nI w))]) F (by decide +kernel) rfl (Nat.le_of_ble_eq_true rfl) (fun X C R Tb nm => ?_)
  refine g_iload_n C dX5_tellOfCue_0 rfl rfl ?_
  rcases (by omega : w = 0 ∨ w = 1 ∨ w = 2 ∨ w = 3 ∨ w = 4) with rfl | rfl | rfl | rfl | rfl
  · refine g_tableIn C dX5_tellOfCue_1 (by decide) (by decide) (off := 35) (by decide +kernel) (tgt := 36) (by decide) ?_
    refine g_aload_n C dX5_tellOfCue_36 rfl rfl ?_
    refine ge_Cue_kind C tw_4_19 (by exact h0) (by exact h1) dX5_tellOfCue_37 ?_
    refine g_iret C R rfl (by omega) (by omega) dX5_tellOfCue_40 ?_
    exact ⟨rfl, rfl⟩
  · refine g_tableIn C dX5_tellOfCue_1 (by decide) (by decide) (off := 40) (by decide +kernel) (tgt := 41) (by decide) ?_
    refine g_aload_n C dX5_tellOfCue_41 rfl rfl ?_
    refine ge_Cue_puppet C tw_4_21 (by exact h0) (by exact h5) dX5_tellOfCue_42 ?_
    refine ge_Puppet_number C tw_3_157 (by exact hp) (by exact hn) dX5_tellOfCue_45 ?_
    refine g_iret C R rfl (by omega) (by omega) dX5_tellOfCue_48 ?_
    exact ⟨rfl, rfl⟩
  · refine g_tableIn C dX5_tellOfCue_1 (by decide) (by decide) (off := 48) (by decide +kernel) (tgt := 49) (by decide) ?_
    refine g_aload_n C dX5_tellOfCue_49 rfl rfl ?_
    refine ge_Cue_beat C tw_4_25 (by exact h0) (by exact h2) dX5_tellOfCue_50 ?_
    refine g_iret C R rfl (by omega) (by omega) dX5_tellOfCue_53 ?_
    exact ⟨rfl, rfl⟩
  · have e : pI S 3 c = cueW u 3 := by
      unfold cueW
      simp only [show ¬ (3 = 0) by decide, show ¬ (3 = 1) by decide, show ¬ (3 = 2) by decide, if_false, if_true]
      by_cases hu : u.2.1 ≤ 1
      · rw [if_pos hu]; exact h3 hu
      · rw [if_neg hu]; exact h6 hu
    refine g_tableIn C dX5_tellOfCue_1 (by decide) (by decide) (off := 53) (by decide +kernel) (tgt := 54) (by decide) ?_
    refine g_aload_n C dX5_tellOfCue_54 rfl rfl ?_
    refine ge_Cue_place C tw_4_28 (by exact h0) (by exact e) dX5_tellOfCue_55 ?_
    refine g_iret C R rfl (by omega) (by omega) dX5_tellOfCue_58 ?_
    exact ⟨rfl, rfl⟩
  · have e : pI S 4 c = cueW u 4 := by
      unfold cueW
      simp only [show ¬ (4 = 0) by decide, show ¬ (4 = 1) by decide, show ¬ (4 = 2) by decide, show ¬ (4 = 3) by decide, if_false]
      by_cases hu : u.2.1 = 0 ∨ u.2.1 = 2
      · rw [if_pos hu]; exact h4 hu
      · rw [if_neg hu]; exact h7 hu
    refine g_tableIn C dX5_tellOfCue_1 (by decide) (by decide) (off := 58) (by decide +kernel) (tgt := 59) (by decide) ?_
    refine g_aload_n C dX5_tellOfCue_59 rfl rfl ?_
    refine ge_Cue_track C tw_4_31 (by exact h0) (by exact e) dX5_tellOfCue_60 ?_
    refine g_iret C R rfl (by omega) (by omega) dX5_tellOfCue_63 ?_
    exact ⟨rfl, rfl⟩
theorem m_tellOfStay0 {Γ : GBase} (F : FB Γ) (S : PS) (t a w : Nat) (v : Int32) (q : Nat × Nat) (hs : StayO S t a q) (hv : pI S 131 t = v) (hw : w < 3) : GMet Γ yX5_tellOfStay cX5_tellOfStay 2 ((some FieldType.int)) 0 0 0 [.ref t, .int (nI w)] S (fun r S' => S = S' ∧ r = some (.int (if w = 0 then nI q.1 else if w = 1 then nI q.2 else v))) noX := by
  obtain ⟨h0, -, h1, h2, -, -⟩ := hs
  refine GMet.of (loc0 := [(0, .ref t), (1, .int (nI w))]) F (by decide +kernel) rfl (Nat.le_of_ble_eq_true rfl) (fun X C R Tb nm => ?_)
  refine g_iload_n C dX5_tellOfStay_0 rfl rfl ?_
  rcases (by omega : w = 0 ∨ w = 1 ∨ w = 2) with rfl | rfl | rfl
  · refine g_tableIn C dX5_tellOfStay_1 (by decide) (by decide) (off := 27) (by decide +kernel) (tgt := 28) (by decide) ?_
    refine g_aload_n C dX5_tellOfStay_28 rfl rfl ?_
    refine ge_Stay_begin C tw_4_157 (by exact h0) (by exact h1) dX5_tellOfStay_29 ?_
    refine g_iret C R rfl (by omega) (by omega) dX5_tellOfStay_32 ?_
    exact ⟨rfl, rfl⟩
  · refine g_tableIn C dX5_tellOfStay_1 (by decide) (by decide) (off := 32) (by decide +kernel) (tgt := 33) (by decide) ?_
    refine g_aload_n C dX5_tellOfStay_33 rfl rfl ?_
    refine ge_Stay_end C tw_4_161 (by exact h0) (by exact h2) dX5_tellOfStay_34 ?_
    refine g_iret C R rfl (by omega) (by omega) dX5_tellOfStay_37 ?_
    exact ⟨rfl, rfl⟩
  · refine g_tableIn C dX5_tellOfStay_1 (by decide) (by decide) (off := 37) (by decide +kernel) (tgt := 38) (by decide) ?_
    refine g_aload_n C dX5_tellOfStay_38 rfl rfl ?_
    refine ge_Stay_player C tw_4_163 (by exact h0) (by exact hv) dX5_tellOfStay_39 ?_
    refine g_iret C R rfl (by omega) (by omega) dX5_tellOfStay_42 ?_
    exact ⟨rfl, rfl⟩
theorem m_digestWithCue {Γ : GBase} (F : FB Γ) (S : PS) (A : AD) (B : BT) (c : Nat) (d : Int64) (hP : PupsI Γ S A B) (hC : CuesI S A B) (hV : VB B) (hc : c < tC B) : GMet Γ yX5_digestWithCue cX5_digestWithCue 6 ((some FieldType.long)) 1 0 0 [.long d, .ref (dC A c)] S (fun r S' => r = some (.long (if tK B c = true then d else dW (dgU B c d 5) (nI (tE B c)))) ∧ S = S') noX := by
  have hca := hC.2 c hc
  obtain ⟨LS, LT, TA, TB, p1, p2, -⟩ := hP.2 _ (hV.2.2.2.2.2.1 c hc).2
  refine GMet.of (loc0 := [(0, .long d), (2, .ref (dC A c))]) F (by decide +kernel) rfl (Nat.le_of_ble_eq_true rfl) (fun X C R Tb nm => ?_)
  have loop : tK B c = false → ∀ (m i : Nat), i + m = 5 → GW Γ X S 0 0 14 [(0, .long d), (2, .ref (dC A c)), (3, .long (dgU B c d i)), (5, .int (nI i))] [] := by
    intro hkf m
    induction m with
    | zero =>
      intro i hi
      have e0 : i = 5 := by omega
      subst e0
      refine g_iload C dX5_digestWithCue_14 rfl ?_
      refine g_iconst C dX5_digestWithCue_16 (v := 5) (by decide) ?_
      refine g_icmp_ge C dX5_digestWithCue_17 (tgt := 37) (by decide) (fun c1 => ?_) (fun c1 => ?_)
      · refine g_lload_n C dX5_digestWithCue_37 rfl rfl ?_
        refine g_aload_n C dX5_digestWithCue_38 rfl rfl ?_
        refine ge_Cue_notes C tw_4_35 (by exact hca.1.1) (by exact hca.2.2.2.1) dX5_digestWithCue_39 ?_
        refine g_callS C gy_X5_digestWith tw_3_94 tw_3_95 (by decide) (m_digestWith F S _ _) rfl rfl (Nat.le_of_ble_eq_true rfl) (by omega) (by omega) dX5_digestWithCue_42 (fun _ _ h9 => h9.elim) ?_
        rintro _ _ ⟨rfl, rfl⟩
        refine g_lret C R (by omega) (by omega) dX5_digestWithCue_45 ?_
        exact ⟨by rw [if_neg (by rw [hkf]; decide)], rfl⟩
      · exact absurd (by decide) c1
    | succ m ih =>
      intro i hi
      refine g_iload C dX5_digestWithCue_14 rfl ?_
      refine g_iconst C dX5_digestWithCue_16 (v := 5) (by decide) ?_
      rw [show (5 : Int32) = nI 5 from rfl]
      refine g_icmp_ge C dX5_digestWithCue_17 (tgt := 37) (by decide) (fun c1 => ?_) (fun c1 => ?_)
      · exact absurd c1 (nI_ge (by omega) (by omega))
      · refine g_lload_n C dX5_digestWithCue_20 rfl rfl ?_
        refine g_aload_n C dX5_digestWithCue_21 rfl rfl ?_
        refine g_iload C dX5_digestWithCue_22 rfl ?_
        refine g_callS C gy_X5_tellOfCue tw_3_114 tw_3_115 (by decide) (m_tellOfCue0 F S (dC A c) _ i (tU B c) _ _ _ _ hca p1.1 p2.1 (by omega)) rfl rfl (Nat.le_of_ble_eq_true rfl) (by omega) (by omega) dX5_digestWithCue_24 (fun _ _ h9 => h9.elim) ?_
        rintro _ _ ⟨rfl, rfl⟩
        refine g_callS C gy_X5_digestWith tw_3_94 tw_3_95 (by decide) (m_digestWith F S _ _) rfl rfl (Nat.le_of_ble_eq_true rfl) (by omega) (by omega) dX5_digestWithCue_27 (fun _ _ h9 => h9.elim) ?_
        rintro _ _ ⟨rfl, rfl⟩
        refine g_lstore_n C dX5_digestWithCue_30 rfl (by decide) rfl rfl ?_
        have nx := ih (i + 1) (by omega)
        refine g_iinc C dX5_digestWithCue_31 rfl (by first | exact inc1 _ | exact rfl) (by decide) rfl ?_
        refine g_goto C dX5_digestWithCue_34 (tgt := 14) (by decide) ?_
        refine g_sub [(0, _), (2, _), (3, _), (5, _)] ⟨rfl, rfl, rfl, rfl, trivial⟩ ?_
        exact nx
  refine g_aload_n C dX5_digestWithCue_0 rfl rfl ?_
  refine ge_Cue_isStruck C tw_4_33 (by exact hca.1.1) (by exact hca.2.2.1) dX5_digestWithCue_1 ?_
  cases hk : tK B c with
  | true =>
    refine g_if_eq C dX5_digestWithCue_4 (tgt := 9) (by decide) (fun c1 => ?_) (fun c1 => ?_)
    · exact absurd c1 (by decide)
    · refine g_lload_n C dX5_digestWithCue_7 rfl rfl ?_
      refine g_lret C R (by omega) (by omega) dX5_digestWithCue_8 ?_
      exact ⟨by rw [if_pos hk], rfl⟩
  | false =>
    refine g_if_eq C dX5_digestWithCue_4 (tgt := 9) (by decide) (fun c1 => ?_) (fun c1 => ?_)
    · refine g_lload_n C dX5_digestWithCue_9 rfl rfl ?_
      refine g_lstore_n C dX5_digestWithCue_10 rfl (by decide) rfl rfl ?_
      refine g_iconst C dX5_digestWithCue_11 (v := 0) (by decide) ?_
      refine g_istore C dX5_digestWithCue_12 (by decide) rfl ?_
      refine g_sub [(0, _), (2, _), (3, _), (5, _)] ⟨rfl, rfl, rfl, rfl, trivial⟩ ?_
      exact loop hk 5 0 (by omega)
    · exact absurd rfl c1
theorem m_digestWithStays {Γ : GBase} (F : FB Γ) (S : PS) (A : AD) (B : BT) (i LT : Nat) (d : Int64) (hT : isL Γ S LT (dT A i)) (hS : StaysI S (dP A i) (dT A i) (stL (dsB B i))) (h40 : (dT A i).length ≤ 40) (hpl : ∀ j t, (dT A i)[j]? = some t → pI S 131 t = zO (castB B i j)) : GMet Γ yX5_digestWithStays cX5_digestWithStays 7 ((some FieldType.long)) 3 0 0 [.long d, .ref LT] S (fun r S' => r = some (.long (dgS B i (dW d (nI (stL (dsB B i)).length)) (stL (dsB B i)).length)) ∧ S = S') noX := by
  obtain ⟨e0, he0⟩ : ∃ e0, e0 = dW d (nI (stL (dsB B i)).length) := ⟨_, rfl⟩
  have hl := hS.1
  refine GMet.of (loc0 := [(0, .long d), (2, .ref LT)]) F (by decide +kernel) rfl (Nat.le_of_ble_eq_true rfl) (fun X C R Tb nm => ?_)
  have outer : ∀ (m k : Nat), k + m = (stL (dsB B i)).length → GW Γ X S 0 0 12 [(0, .long d), (2, .ref LT), (3, .long (dgS B i e0 k)), (5, .int (nI k))] [] := by
    intro m
    induction m with
    | zero =>
      intro k hk
      refine g_iload C dX5_digestWithStays_12 rfl ?_
      refine g_aload_n C dX5_digestWithStays_14 rfl rfl ?_
      refine g_callV C gy_Jx4a65c_size_8abf5 tw_1_97 tw_1_98 tw_1_99 (by decide) (kk := 7) rfl rfl (by exact hT.1) (m_size F S LT _ hT) rfl rfl (Nat.le_of_ble_eq_true rfl) (by omega) (by omega) dX5_digestWithStays_15 (fun _ _ h9 => h9.elim) ?_
      rintro _ _ ⟨rfl, rfl⟩
      rw [hl]
      refine g_icmp_ge C dX5_digestWithStays_18 (tgt := 61) (by decide) (fun c1 => ?_) (fun c1 => ?_)
      · refine g_lload_n C dX5_digestWithStays_61 rfl rfl ?_
        rw [show k = (stL (dsB B i)).length by omega]
        refine g_lret C R (by omega) (by omega) dX5_digestWithStays_62 ?_
        exact ⟨by rw [he0], rfl⟩
      · exact absurd (nI_le (by omega) (by omega)) c1
    | succ m ih =>
      intro k hk
      have hkl : k < (stL (dsB B i)).length := by omega
      obtain ⟨t, ht⟩ : ∃ t, (dT A i)[k]? = some t := ⟨_, List.getElem?_eq_getElem (by rw [hl]; exact hkl)⟩
      obtain ⟨s, hs⟩ : ∃ s, (stL (dsB B i))[k]? = some s := ⟨_, List.getElem?_eq_getElem hkl⟩
      have hso := hS.2.2 k t s ht hs
      have hst : ∀ w, (if w = 0 then nI s.1 else if w = 1 then nI s.2 else zO (castB B i k)) = stW B i k w := fun w => by unfold stW; rw [hs]
      have step : ∀ (w : Nat) (e : Int64), w < 3 → GW Γ X S 0 0 24 [(0, .long d), (2, .ref LT), (3, .long (dW e (stW B i k w))), (5, .int (nI k)), (6, .int (nI (w + 1)))] [] → GW Γ X S 0 0 24 [(0, .long d), (2, .ref LT), (3, .long e), (5, .int (nI k)), (6, .int (nI w))] [] := by
        intro w e hw nx
        refine g_iload C dX5_digestWithStays_24 rfl ?_
        refine g_iconst C dX5_digestWithStays_26 (v := 3) (by decide) ?_
        rw [show (3 : Int32) = nI 3 from rfl]
        refine g_icmp_ge C dX5_digestWithStays_27 (tgt := 55) (by decide) (fun c1 => ?_) (fun c1 => ?_)
        · exact absurd c1 (nI_ge hw (by omega))
        · refine g_lload_n C dX5_digestWithStays_30 rfl rfl ?_
          refine g_aload_n C dX5_digestWithStays_31 rfl rfl ?_
          refine g_iload C dX5_digestWithStays_32 rfl ?_
          refine g_callV C gy_Jx4a65c_get_915e3 tw_1_101 tw_1_102 tw_1_103 (by decide) (kk := 7) rfl rfl (by exact hT.1) (m_get F S LT _ hT k t ht) rfl rfl (Nat.le_of_ble_eq_true rfl) (by omega) (by omega) dX5_digestWithStays_34 (fun _ _ h9 => h9.elim) ?_
          rintro _ _ ⟨rfl, rfl⟩
          refine g_cast C (kk := 4) rfl hso.1 tw_1_149 dX5_digestWithStays_37 ?_
          refine g_iload C dX5_digestWithStays_40 rfl ?_
          refine g_callS C gy_X5_tellOfStay tw_3_101 tw_3_102 (by decide) (m_tellOfStay0 F S t _ w _ s hso (hpl k t ht) hw) rfl rfl (Nat.le_of_ble_eq_true rfl) (by omega) (by omega) dX5_digestWithStays_42 (fun _ _ h9 => h9.elim) ?_
          rintro _ _ ⟨rfl, rfl⟩
          refine g_callS C gy_X5_digestWith tw_3_94 tw_3_95 (by decide) (m_digestWith F S _ _) rfl rfl (Nat.le_of_ble_eq_true rfl) (by omega) (by omega) dX5_digestWithStays_45 (fun _ _ h9 => h9.elim) ?_
          rintro _ _ ⟨rfl, rfl⟩
          refine g_lstore_n C dX5_digestWithStays_48 rfl (by decide) rfl rfl ?_
          rw [hst]
          refine g_iinc C dX5_digestWithStays_49 rfl (by first | exact inc1 _ | exact rfl) (by decide) rfl ?_
          refine g_goto C dX5_digestWithStays_52 (tgt := 24) (by decide) ?_
          refine g_sub [(0, _), (2, _), (3, _), (5, _), (6, _)] ⟨rfl, rfl, rfl, rfl, rfl, trivial⟩ ?_
          exact nx
      refine g_iload C dX5_digestWithStays_12 rfl ?_
      refine g_aload_n C dX5_digestWithStays_14 rfl rfl ?_
      refine g_callV C gy_Jx4a65c_size_8abf5 tw_1_97 tw_1_98 tw_1_99 (by decide) (kk := 7) rfl rfl (by exact hT.1) (m_size F S LT _ hT) rfl rfl (Nat.le_of_ble_eq_true rfl) (by omega) (by omega) dX5_digestWithStays_15 (fun _ _ h9 => h9.elim) ?_
      rintro _ _ ⟨rfl, rfl⟩
      rw [hl]
      refine g_icmp_ge C dX5_digestWithStays_18 (tgt := 61) (by decide) (fun c1 => ?_) (fun c1 => ?_)
      · exact absurd c1 (nI_ge hkl (by omega))
      · refine g_iconst C dX5_digestWithStays_21 (v := 0) (by decide) ?_
        refine g_istore C dX5_digestWithStays_22 (by decide) rfl ?_
        refine g_sub [(0, _), (2, _), (3, _), (5, _), (6, _)] ⟨rfl, rfl, rfl, rfl, rfl, trivial⟩ ?_
        refine step 0 _ (by decide) ?_
        refine step 1 _ (by decide) ?_
        refine step 2 _ (by decide) ?_
        have nx := ih (k + 1) (by omega)
        simp only [dgS] at nx
        refine g_iload C dX5_digestWithStays_24 rfl ?_
        refine g_iconst C dX5_digestWithStays_26 (v := 3) (by decide) ?_
        refine g_icmp_ge C dX5_digestWithStays_27 (tgt := 55) (by decide) (fun c2 => ?_) (fun c2 => ?_)
        · refine g_iinc C dX5_digestWithStays_55 rfl (by first | exact inc1 _ | exact rfl) (by decide) rfl ?_
          refine g_goto C dX5_digestWithStays_58 (tgt := 12) (by decide) ?_
          refine g_sub [(0, _), (2, _), (3, _), (5, _)] ⟨rfl, rfl, rfl, rfl, trivial⟩ ?_
          exact nx
        · exact absurd (by decide) c2
  refine g_lload_n C dX5_digestWithStays_0 rfl rfl ?_
  refine g_aload_n C dX5_digestWithStays_1 rfl rfl ?_
  refine g_callV C gy_Jx4a65c_size_8abf5 tw_1_97 tw_1_98 tw_1_99 (by decide) (kk := 7) rfl rfl (by exact hT.1) (m_size F S LT _ hT) rfl rfl (Nat.le_of_ble_eq_true rfl) (by omega) (by omega) dX5_digestWithStays_2 (fun _ _ h9 => h9.elim) ?_
  rintro _ _ ⟨rfl, rfl⟩
  refine g_callS C gy_X5_digestWith tw_3_94 tw_3_95 (by decide) (m_digestWith F S _ _) rfl rfl (Nat.le_of_ble_eq_true rfl) (by omega) (by omega) dX5_digestWithStays_5 (fun _ _ h9 => h9.elim) ?_
  rintro _ _ ⟨rfl, rfl⟩
  refine g_lstore_n C dX5_digestWithStays_8 rfl (by decide) rfl rfl ?_
  refine g_iconst C dX5_digestWithStays_9 (v := 0) (by decide) ?_
  refine g_istore C dX5_digestWithStays_10 (by decide) rfl ?_
  rw [hl, ← he0]
  refine g_sub [(0, _), (2, _), (3, _), (5, _)] ⟨rfl, rfl, rfl, rfl, trivial⟩ ?_
  exact outer (stL (dsB B i)).length 0 (by omega)
