theorem decm (n : Nat) : nI n + Int32.ofInt (-1) = nI n - 1 := by
  rw [Int32.sub_eq_add_neg]; rfl
def ComeL (C : CT) (As : AT) (q p x : Nat) : Prop := ∀ g, cP C p x = some g → ndist g (lastH C As q x).1 ≤ x - (lastH C As q x).2
theorem CanL_iff {C : CT} {As : AT} {q p x y : Nat} : CanL C As q p x y ↔ (ComeL C As q p x ∧ ∀ b, x ≤ b → b < y → HoldL C As q p b) := Iff.rfl
theorem m_canCome {Γ : GBase} (F : FB Γ) (S : PS) (x a t q p b0 b1 : Nat) (A : AD) (B : BT) (As : AT) (hI : BkP Γ S x A B) (ha : PlyH S a B As q) (hp : p < tN B) (hs : StayO S t (dP A p) (b0, b1)) (h01 : b0 < b1) (hin : (b0, b1) ∈ stL (dsB B p)) (ho : ∀ b, b < 1000 → okAt (ctB B) As q b) : GMet Γ yX5_canComeToBeginning cX5_canComeToBeginning 5 ((some FieldType.boolean)) 4 0 0 [.ref x, .ref a, .ref t] S (fun r S' => S = S' ∧ ∃ v, isB v (ComeL (ctB B) As q p b0) ∧ r = some (.int v)) noX := by
  have hI0 := hI
  have ha' := ha
  obtain ⟨hx, ⟨L, hL1, -, hL3⟩, hP, hV⟩ := hI
  obtain ⟨⟨ha0, ha1, ha2, T, ha3, ha4⟩, hq, hH⟩ := ha
  have hH := hH T ha3
  have hn8 := hV.1
  have hho := (hV.2.2.2.2.1 q hq).2
  obtain ⟨s0, s1, s2, s3, s4, s5⟩ := hs
  simp only at s2 s3 s4 s5
  obtain ⟨_, _, QA, _, r1, r2, -, -, -, -, -, r3⟩ := hP.2 p hp
  obtain ⟨g, hg⟩ := Option.isSome_iff_exists.mp ((hV.good hp).on s4 hin (Nat.le_refl _) h01)
  have hg20 := (hV.good hp).pl hg
  have hcome : ∀ w n, lastH (ctB B) As q b0 = (w, n) → (ComeL (ctB B) As q p b0 ↔ ndist w g ≤ b0 - n) := by
    intro w n e
    unfold ComeL
    rw [e]
    constructor
    · intro h
      rw [ndist_comm]
      exact h g hg
    · intro h g' hg'
      have e2 : g' = g := Option.some.inj (hg'.symm.trans hg)
      rw [e2, ndist_comm]
      exact h
  have nd : ∀ w, w < 20 → ndist w g < 20 := fun w hw => ndist_le hw hg20
  refine GMet.of (loc0 := [(0, .ref x), (1, .ref a), (2, .ref t)]) F (by decide +kernel) rfl (Nat.le_of_ble_eq_true rfl) (fun X C R Tb nm => ?_)
  have loop : ∀ (b : Nat), b ≤ b0 → lastH (ctB B) As q b0 = lastH (ctB B) As q b → GW Γ X S 0 0 21 [(0, .ref x), (1, .ref a), (2, .ref t), (3, .int (nI g)), (4, .int (nI b - 1))] [] := by
    intro b
    induction b with
    | zero =>
      intro hb hl
      have hl : lastH (ctB B) As q b0 = (tO B q, 0) := hl
      have hc := hcome _ _ hl
      have n2 := nd (tO B q) hho
      refine g_iload C dX5_canComeToBeginning_21 rfl ?_
      refine g_if_lt C dX5_canComeToBeginning_23 (tgt := 69) (by decide) (fun c1 => ?_) (fun c1 => ?_)
      · refine g_aload_n C dX5_canComeToBeginning_69 rfl rfl ?_
        refine ge_Player_placeAtFirst C tw_2_209 (by exact ha0) (by exact ha2) dX5_canComeToBeginning_70 ?_
        refine g_iload_n C dX5_canComeToBeginning_73 rfl rfl ?_
        refine g_callS C gy_X5_distance tw_2_75 tw_2_76 (by decide) (m_distance F S (tO B q) g (by omega) (by omega)) rfl rfl (Nat.le_of_ble_eq_true rfl) (by omega) (by omega) dX5_canComeToBeginning_74 (fun _ _ h9 => h9.elim) ?_
        rintro _ _ ⟨rfl, rfl⟩
        refine g_aload_n C dX5_canComeToBeginning_77 rfl rfl ?_
        refine ge_Stay_begin C tw_3_131 (by exact s0) (by exact s2) dX5_canComeToBeginning_78 ?_
        refine g_icmp_gt C dX5_canComeToBeginning_81 (tgt := 88) (by decide) (fun c2 => ?_) (fun c2 => ?_)
        · refine g_iconst C dX5_canComeToBeginning_88 (v := 0) (by decide) ?_
          refine g_iret C R rfl (by omega) (by omega) dX5_canComeToBeginning_89 ?_
          refine ⟨rfl, 0, Or.inr ⟨rfl, fun h => ?_⟩, rfl⟩
          have := hc.mp h
          have := (nI_ltI (by omega) (by omega)).mp c2
          omega
        · refine g_iconst C dX5_canComeToBeginning_84 (v := 1) (by decide) ?_
          refine g_goto C dX5_canComeToBeginning_85 (tgt := 89) (by decide) ?_
          refine g_iret C R rfl (by omega) (by omega) dX5_canComeToBeginning_89 ?_
          refine ⟨rfl, 1, Or.inl ⟨rfl, hc.mpr ?_⟩, rfl⟩
          rcases Nat.lt_or_ge b0 (ndist (tO B q) g) with w | w
          · exact absurd (nI_lt w (by omega)) c2
          · omega
      · exact absurd (by decide) c1
    | succ b ih =>
      intro hb hl
      have hb3 : b < 1000 := by omega
      refine g_iload C dX5_canComeToBeginning_21 rfl ?_
      rw [nI_pred]
      refine g_if_lt C dX5_canComeToBeginning_23 (tgt := 69) (by decide) (fun c1 => ?_) (fun c1 => ?_)
      · exact absurd c1 (nI_pos (by omega))
      · refine g_aload_n C dX5_canComeToBeginning_26 rfl rfl ?_
        refine ge_Player_heldAt C tw_2_211 (by exact ha0) (by exact ha3) dX5_canComeToBeginning_27 ?_
        refine g_iload C dX5_canComeToBeginning_30 rfl ?_
        refine g_ldI C rfl ha4.1 (by rw [ha4.2.1]; exact hb3) (by omega) (hH b hb3).1 dX5_canComeToBeginning_32 ?_
        rcases msk_fpl hV hb3 (ho b hb3) with ⟨h1, h2⟩ | ⟨h1, z, h2, h3⟩
        · refine g_if_eq C dX5_canComeToBeginning_33 (tgt := 63) (by decide) (fun c2 => ?_) (fun c2 => ?_)
          · have e : lastH (ctB B) As q (b + 1) = lastH (ctB B) As q b := by simp only [lastH]; rw [h2]
            refine g_iinc C dX5_canComeToBeginning_63 rfl (decm _) (by decide) rfl ?_
            refine g_goto C dX5_canComeToBeginning_66 (tgt := 21) (by decide) ?_
            refine g_sub [(0, _), (1, _), (2, _), (3, _), (4, _)] ⟨rfl, rfl, rfl, rfl, rfl, trivial⟩ ?_
            exact ih (by omega) (hl.trans e)
          · exact absurd (by rw [h1]; rfl) c2
        · have e : lastH (ctB B) As q (b + 1) = (z, b) := by simp only [lastH]; rw [h2]
          have hc := hcome _ _ (hl.trans e)
          have n2 := nd z h3
          refine g_if_eq C dX5_canComeToBeginning_33 (tgt := 63) (by decide) (fun c2 => ?_) (fun c2 => ?_)
          · exact absurd (nI_inj (b := 0) (by have := msk_lt hn8 As q b; omega) (by omega) c2) h1
          · refine g_aload_n C dX5_canComeToBeginning_36 rfl rfl ?_
            refine g_aload_n C dX5_canComeToBeginning_37 rfl rfl ?_
            refine g_iload C dX5_canComeToBeginning_38 rfl ?_
            refine g_callV C gy_X5_placeOfHeld tw_2_67 tw_2_69 ts_11 (by decide) (kk := 5) rfl rfl (by exact hx) (m_placeOfHeld F S x a q b A B As hI0 ha' hb3 (ho b hb3) h1) rfl rfl (Nat.le_of_ble_eq_true rfl) (by omega) (by omega) dX5_canComeToBeginning_40 (fun _ _ h9 => h9.elim) ?_
            rintro _ _ ⟨rfl, rfl⟩
            rw [h2]
            refine g_iload_n C dX5_canComeToBeginning_43 rfl rfl ?_
            refine g_callS C gy_X5_distance tw_2_75 tw_2_76 (by decide) (m_distance F S z g (by omega) (by omega)) rfl rfl (Nat.le_of_ble_eq_true rfl) (by omega) (by omega) dX5_canComeToBeginning_44 (fun _ _ h9 => h9.elim) ?_
            rintro _ _ ⟨rfl, rfl⟩
            refine g_aload_n C dX5_canComeToBeginning_47 rfl rfl ?_
            refine ge_Stay_begin C tw_3_131 (by exact s0) (by exact s2) dX5_canComeToBeginning_48 ?_
            refine g_iload C dX5_canComeToBeginning_51 rfl ?_
            refine g_isub C dX5_canComeToBeginning_53 ?_
            rw [pk_sub (by omega)]
            refine g_icmp_gt C dX5_canComeToBeginning_54 (tgt := 61) (by decide) (fun c3 => ?_) (fun c3 => ?_)
            · refine g_iconst C dX5_canComeToBeginning_61 (v := 0) (by decide) ?_
              refine g_iret C R rfl (by omega) (by omega) dX5_canComeToBeginning_62 ?_
              refine ⟨rfl, 0, Or.inr ⟨rfl, fun h => ?_⟩, rfl⟩
              have := hc.mp h
              have := (nI_ltI (by omega) (by omega)).mp c3
              omega
            · refine g_iconst C dX5_canComeToBeginning_57 (v := 1) (by decide) ?_
              refine g_goto C dX5_canComeToBeginning_58 (tgt := 62) (by decide) ?_
              refine g_iret C R rfl (by omega) (by omega) dX5_canComeToBeginning_62 ?_
              refine ⟨rfl, 1, Or.inl ⟨rfl, hc.mpr ?_⟩, rfl⟩
              rcases Nat.lt_or_ge (b0 - b) (ndist z g) with w | w
              · exact absurd (nI_lt w (by omega)) c3
              · omega
  refine g_aload_n C dX5_canComeToBeginning_0 rfl rfl ?_
  refine ge_Stay_puppet C tw_3_128 (by exact s0) (by exact s1) dX5_canComeToBeginning_1 ?_
  refine ge_Puppet_placeAt C tw_2_163 (by exact r1.1) (by exact r1.2.2.2.1) dX5_canComeToBeginning_4 ?_
  refine g_aload_n C dX5_canComeToBeginning_7 rfl rfl ?_
  refine ge_Stay_begin C tw_3_131 (by exact s0) (by exact s2) dX5_canComeToBeginning_8 ?_
  refine g_ldI C rfl r1.2.2.2.2.2.1.1 (by rw [r1.2.2.2.2.2.1.2.1]; exact s4) (by omega) (r3 b0 s4).1 dX5_canComeToBeginning_11 ?_
  rw [show plL (dsB B p) b0 = some g from hg]
  refine g_istore_n C dX5_canComeToBeginning_12 rfl (by decide) rfl ?_
  refine g_aload_n C dX5_canComeToBeginning_13 rfl rfl ?_
  refine ge_Stay_begin C tw_3_131 (by exact s0) (by exact s2) dX5_canComeToBeginning_14 ?_
  refine g_iconst C dX5_canComeToBeginning_17 (v := 1) (by decide) ?_
  refine g_isub C dX5_canComeToBeginning_18 ?_
  refine g_istore C dX5_canComeToBeginning_19 (by decide) rfl ?_
  refine g_sub [(0, _), (1, _), (2, _), (3, _), (4, _)] ⟨rfl, rfl, rfl, rfl, rfl, trivial⟩ ?_
  exact loop b0 (Nat.le_refl _) rfl
theorem m_canDo {Γ : GBase} (F : FB Γ) (S : PS) (x a t q p b0 b1 : Nat) (A : AD) (B : BT) (As : AT) (hI : BkP Γ S x A B) (ha : PlyH S a B As q) (hp : p < tN B) (hs : StayO S t (dP A p) (b0, b1)) (h01 : b0 < b1) (hin : (b0, b1) ∈ stL (dsB B p)) (ho : ∀ b, b < 1000 → okAt (ctB B) As q b) : GMet Γ yX5_canDo cX5_canDo 4 ((some FieldType.boolean)) 5 0 0 [.ref x, .ref a, .ref t] S (fun r S' => S = S' ∧ ∃ v, isB v (CanL (ctB B) As q p b0 b1) ∧ r = some (.int v)) noX := by
  have hs0 := hs
  obtain ⟨s0, s1, s2, s3, s4, s5⟩ := hs
  simp only at s2 s3 s4 s5
  refine GMet.of (loc0 := [(0, .ref x), (1, .ref a), (2, .ref t)]) F (by decide +kernel) rfl (Nat.le_of_ble_eq_true rfl) (fun X C R Tb nm => ?_)
  refine g_aload_n C dX5_canDo_0 rfl rfl ?_
  refine g_aload_n C dX5_canDo_1 rfl rfl ?_
  refine g_aload_n C dX5_canDo_2 rfl rfl ?_
  refine g_callV C gy_X5_canComeToBeginning tw_2_63 tw_2_65 ts_10 (by decide) (kk := 5) rfl rfl (by exact hI.1) (m_canCome F S x a t q p b0 b1 A B As hI ha hp hs0 h01 hin ho) rfl rfl (Nat.le_of_ble_eq_true rfl) (by omega) (by omega) dX5_canDo_3 (fun _ _ h9 => h9.elim) ?_
  rintro _ _ ⟨rfl, v, hv, rfl⟩
  refine g_if_ne C dX5_canDo_6 (tgt := 11) (by decide) (fun c1 => ?_) (fun c1 => ?_)
  · have hc := hv.pos c1
    have loop : ∀ (m b : Nat), b + m = b1 → b0 ≤ b → (∀ k, b0 ≤ k → k < b → HoldL (ctB B) As q p k) → GW Γ X S 0 0 16 [(0, .ref x), (1, .ref a), (2, .ref t), (3, .int (nI b))] [] := by
      intro m
      induction m with
      | zero =>
        intro b hb hb0 hal
        have e0 : b = b1 := by omega
        subst e0
        refine g_iload_n C dX5_canDo_16 rfl rfl ?_
        refine g_aload_n C dX5_canDo_17 rfl rfl ?_
        refine ge_Stay_end C tw_3_135 (by exact s0) (by exact s3) dX5_canDo_18 ?_
        refine g_icmp_ge C dX5_canDo_21 (tgt := 45) (by decide) (fun c2 => ?_) (fun c2 => ?_)
        · refine g_iconst C dX5_canDo_45 (v := 1) (by decide) ?_
          refine g_iret C R rfl (by omega) (by omega) dX5_canDo_46 ?_
          exact ⟨rfl, 1, Or.inl ⟨rfl, CanL_iff.mpr ⟨hc, hal⟩⟩, rfl⟩
        · exact absurd (nI_le (Nat.le_refl _) (by omega)) c2
      | succ m ih =>
        intro b hb hb0 hal
        refine g_iload_n C dX5_canDo_16 rfl rfl ?_
        refine g_aload_n C dX5_canDo_17 rfl rfl ?_
        refine ge_Stay_end C tw_3_135 (by exact s0) (by exact s3) dX5_canDo_18 ?_
        refine g_icmp_ge C dX5_canDo_21 (tgt := 45) (by decide) (fun c2 => ?_) (fun c2 => ?_)
        · exact absurd c2 (nI_ge (by omega) (by omega))
        · refine g_aload_n C dX5_canDo_24 rfl rfl ?_
          refine g_aload_n C dX5_canDo_25 rfl rfl ?_
          refine g_aload_n C dX5_canDo_26 rfl rfl ?_
          refine ge_Stay_puppet C tw_3_128 (by exact s0) (by exact s1) dX5_canDo_27 ?_
          refine g_iload_n C dX5_canDo_30 rfl rfl ?_
          refine g_callV C gy_X5_canHold tw_2_81 tw_2_83 ts_12 (by decide) (kk := 5) rfl rfl (by exact hI.1) (m_canHold F S x a q p b A B As hI ha hp (by omega)) rfl rfl (Nat.le_of_ble_eq_true rfl) (by omega) (by omega) dX5_canDo_31 (fun _ _ h9 => h9.elim) ?_
          rintro _ _ ⟨rfl, v2, hv2, rfl⟩
          refine g_if_ne C dX5_canDo_34 (tgt := 39) (by decide) (fun c3 => ?_) (fun c3 => ?_)
          · refine g_iinc C dX5_canDo_39 rfl (by first | exact inc1 _ | exact rfl) (by decide) rfl ?_
            refine g_goto C dX5_canDo_42 (tgt := 16) (by decide) ?_
            refine g_sub [(0, _), (1, _), (2, _), (3, _)] ⟨rfl, rfl, rfl, rfl, trivial⟩ ?_
            refine ih (b + 1) (by omega) (by omega) (fun k h1 h2 => ?_)
            by_cases e : k = b
            · rw [e]; exact hv2.pos c3
            · exact hal k h1 (by omega)
          · refine g_iconst C dX5_canDo_37 (v := 0) (by decide) ?_
            refine g_iret C R rfl (by omega) (by omega) dX5_canDo_38 ?_
            exact ⟨rfl, 0, Or.inr ⟨rfl, fun h => hv2.neg c3 ((CanL_iff.mp h).2 b hb0 (by omega))⟩, rfl⟩
    refine g_aload_n C dX5_canDo_11 rfl rfl ?_
    refine ge_Stay_begin C tw_3_131 (by exact s0) (by exact s2) dX5_canDo_12 ?_
    refine g_istore_n C dX5_canDo_15 rfl (by decide) rfl ?_
    refine g_sub [(0, _), (1, _), (2, _), (3, _)] ⟨rfl, rfl, rfl, rfl, trivial⟩ ?_
    exact loop (b1 - b0) b0 (by omega) (Nat.le_refl _) (fun k h1 h2 => by omega)
  · refine g_iconst C dX5_canDo_9 (v := 0) (by decide) ?_
    refine g_iret C R rfl (by omega) (by omega) dX5_canDo_10 ?_
    exact ⟨rfl, 0, Or.inr ⟨rfl, fun h => hv.neg c1 (CanL_iff.mp h).1⟩, rfl⟩
