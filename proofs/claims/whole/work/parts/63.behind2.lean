def KB (cu : Nat → Nat × D4) (sk : Nat → Bool) (p : Nat) (prev : Option Nat) (c : Nat) : Prop := sk c = false ∧ (cu c).1 = p ∧ ∀ o, prev = some o → ckey cu o < ckey cu c
theorem isBest.skip {cu : Nat → Nat × D4} {K : Nat → Prop} {n : Nat} {o : Option Nat} (h : isBest cu K n o) (hk : ¬ K n ∨ ∃ b, o = some b ∧ ckey cu b ≤ ckey cu n) : isBest cu K (n + 1) o := by
  cases o with
  | none =>
    intro c hc hK
    rcases hk with hk | ⟨b, hb, _⟩
    · by_cases e : c = n
      · exact hk (e ▸ hK)
      · exact h c (by omega) hK
    · cases hb
  | some b =>
    obtain ⟨h1, h2, h3⟩ := h
    refine ⟨by omega, h2, fun c hc hK => ?_⟩
    by_cases e : c = n
    · rcases hk with hk | ⟨b', hb, h4⟩
      · exact absurd (e ▸ hK) hk
      · cases hb; rw [e]; exact h4
    · exact h3 c (by omega) hK
theorem isBest.take {cu : Nat → Nat × D4} {K : Nat → Prop} {n : Nat} {o : Option Nat} (h : isBest cu K n o) (hk : K n) (hb : ∀ b, o = some b → ckey cu n < ckey cu b) : isBest cu K (n + 1) (some n) := by
  refine ⟨by omega, hk, fun c hc hK => ?_⟩
  by_cases e : c = n
  · rw [e]; exact Nat.le_refl _
  · cases o with
    | none => exact absurd hK (h c (by omega))
    | some b =>
      have := h.2.2 c (by omega) hK
      have := hb b rfl
      omega
theorem md_behind {Γ : GBase} (F : FB Γ) (S : PS) (m p nc : Nat) (prev : Option Nat) (rw' : Nat → Nat) (cu : Nat → Nat × D4) (sk : Nat → Bool) (hM : MdF S m rw') (hT : TabV S m rw' nc cu sk) (hp : p < 8) (ho : ∀ o, prev = some o → o < nc) : GMet Γ yX6_behind cX6_behind 5 ((some FieldType.int)) 2 0 0 [.ref m, .int (nI p), .int (zO prev)] S (fun r S' => S = S' ∧ ∃ o, isBest cu (KB cu sk p prev) nc o ∧ r = some (.int (zO o))) noX := by
  have h40 := hT.2.1
  have r1 : isRw 201 := by unfold isRw; omega
  have r0 : isRw 200 := by unfold isRw; omega
  have hzp : zO prev = -1 ↔ prev = none := zO_m1 (fun v hv => by have := ho v hv; omega)
  refine GMet.of (loc0 := [(0, .ref m), (1, .int (nI p)), (2, .int (zO prev))]) F (by decide +kernel) rfl (Nat.le_of_ble_eq_true rfl) (fun X C R Tb nm => ?_)
  have loop : ∀ (k c : Nat) (o : Option Nat), c + k = nc → isBest cu (KB cu sk p prev) c o → GW Γ X S 0 0 5 [(0, .ref m), (1, .int (nI p)), (2, .int (zO prev)), (3, .int (zO o)), (4, .int (nI c))] [] := by
    intro k
    induction k with
    | zero =>
      intro c o hc hB
      have e0 : c = nc := by omega
      subst e0
      refine g_iload C dX6_behind_5 rfl ?_
      refine g_aload_n C dX6_behind_7 rfl rfl ?_
      refine ge_Model_cues C tw_5_96 (by exact hM.1) (by exact hT.1) dX6_behind_8 ?_
      refine g_icmp_ge C dX6_behind_11 (tgt := 81) (by decide) (fun c1 => ?_) (fun c1 => ?_)
      · refine g_iload_n C dX6_behind_81 rfl rfl ?_
        refine g_iret C R rfl (by omega) (by omega) dX6_behind_82 ?_
        exact ⟨rfl, o, hB, rfl⟩
      · exact absurd (nI_le (Nat.le_refl _) (by omega)) c1
    | succ k ih =>
      intro c o hc hB
      have hcn : c < nc := by omega
      have hcc := hT.2.2.1 c hcn
      have hob : ∀ b, o = some b → b < nc := fun b hb => by rw [hb] at hB; have := hB.1; omega
      have hzo : zO o = -1 ↔ o = none := zO_m1 (fun v hv => by have := hob v hv; omega)
      have skip : isBest cu (KB cu sk p prev) (c + 1) o → GW Γ X S 0 0 75 [(0, .ref m), (1, .int (nI p)), (2, .int (zO prev)), (3, .int (zO o)), (4, .int (nI c))] [] := by
        intro h
        refine g_iinc C dX6_behind_75 rfl (by first | exact inc1 _ | exact rfl) (by decide) rfl ?_
        refine g_goto C dX6_behind_78 (tgt := 5) (by decide) ?_
        refine g_sub [(0, _), (1, _), (2, _), (3, _), (4, _)] ⟨rfl, rfl, rfl, rfl, rfl, trivial⟩ ?_
        exact ih (c + 1) o (by omega) h
      have take : isBest cu (KB cu sk p prev) (c + 1) (some c) → GW Γ X S 0 0 72 [(0, .ref m), (1, .int (nI p)), (2, .int (zO prev)), (3, .int (zO o)), (4, .int (nI c))] [] := by
        intro h
        refine g_iload C dX6_behind_72 rfl ?_
        refine g_istore_n C dX6_behind_74 rfl (by decide) rfl ?_
        refine g_iinc C dX6_behind_75 rfl (by first | exact inc1 _ | exact rfl) (by decide) rfl ?_
        refine g_goto C dX6_behind_78 (tgt := 5) (by decide) ?_
        refine g_sub [(0, _), (1, _), (2, _), (3, _), (4, _)] ⟨rfl, rfl, rfl, rfl, rfl, trivial⟩ ?_
        exact ih (c + 1) (some c) (by omega) h
      have cand : KB cu sk p prev c → GW Γ X S 0 0 57 [(0, .ref m), (1, .int (nI p)), (2, .int (zO prev)), (3, .int (zO o)), (4, .int (nI c))] [] := by
        intro hK
        refine g_iload_n C dX6_behind_57 rfl rfl ?_
        refine g_iconst C dX6_behind_58 (v := -1) (by decide) ?_
        refine g_icmp_eq C dX6_behind_59 (tgt := 72) (by decide) (fun d1 => ?_) (fun d1 => ?_)
        · have eo := hzo.mp d1
          exact take (hB.take hK (fun b hb => by rw [eo] at hb; cases hb))
        · cases o with
          | none => exact absurd rfl d1
          | some b =>
            refine g_aload_n C dX6_behind_62 rfl rfl ?_
            refine g_iload_n C dX6_behind_63 rfl rfl ?_
            refine g_iload C dX6_behind_64 rfl ?_
            refine g_callV C gy_X6_isBehind tw_5_203 tw_5_205 ts_32 (by decide) (kk := 6) rfl rfl (by exact hM.1) (md_isBehind F S m b c nc rw' cu sk hM hT (hob b rfl) hcn) rfl rfl (Nat.le_of_ble_eq_true rfl) (by omega) (by omega) dX6_behind_66 (fun _ _ h9 => h9.elim) ?_
            rintro _ _ ⟨rfl, v, hv, rfl⟩
            refine g_if_eq C dX6_behind_69 (tgt := 75) (by decide) (fun d2 => ?_) (fun d2 => ?_)
            · refine g_sub [(0, _), (1, _), (2, _), (3, _), (4, _)] ⟨rfl, rfl, rfl, rfl, rfl, trivial⟩ ?_
              exact skip (hB.skip (Or.inr ⟨b, rfl, Nat.le_of_not_lt (hv.neg d2)⟩))
            · refine g_sub [(0, _), (1, _), (2, _), (3, _), (4, _)] ⟨rfl, rfl, rfl, rfl, rfl, trivial⟩ ?_
              exact take (hB.take hK (fun b' hb' => by cases hb'; exact hv.pos d2))
      refine g_iload C dX6_behind_5 rfl ?_
      refine g_aload_n C dX6_behind_7 rfl rfl ?_
      refine ge_Model_cues C tw_5_96 (by exact hM.1) (by exact hT.1) dX6_behind_8 ?_
      refine g_icmp_ge C dX6_behind_11 (tgt := 81) (by decide) (fun c1 => ?_) (fun c1 => ?_)
      · exact absurd c1 (nI_ge hcn (by omega))
      · refine g_aload_n C dX6_behind_14 rfl rfl ?_
        refine ge_Model_areStruck C tw_5_98 (by exact hM.1) (by exact hM.r r1) dX6_behind_15 ?_
        refine g_iload C dX6_behind_18 rfl ?_
        refine g_ldZ C rfl hM.z (by rw [hM.n r1 (n := 40) rfl]; omega) (by omega) hcc.2.2 dX6_behind_20 ?_
        cases hs : sk c with
        | true =>
          refine g_if_ne C dX6_behind_21 (tgt := 75) (by decide) (fun c2 => ?_) (fun c2 => ?_)
          · exact skip (hB.skip (Or.inl (fun h => by rw [h.1] at hs; cases hs)))
          · exact absurd c2 (by decide)
        | false =>
          refine g_if_ne C dX6_behind_21 (tgt := 75) (by decide) (fun c2 => ?_) (fun c2 => ?_)
          · exact absurd rfl c2
          · refine g_aload_n C dX6_behind_24 rfl rfl ?_
            refine ge_Model_table C tw_5_97 (by exact hM.1) (by exact hM.r r0) dX6_behind_25 ?_
            refine g_iconst C dX6_behind_28 (v := 5) (by decide) ?_
            refine g_iload C dX6_behind_29 rfl ?_
            rw [show (5 : Int32) = nI 5 from rfl]
            refine g_imul C dX6_behind_31 ?_
            refine g_iconst C dX6_behind_32 (v := 1) (by decide) ?_
            rw [pk_mul, show (1 : Int32) = nI 1 from rfl]
            refine g_iadd C dX6_behind_33 ?_
            rw [nI_add]
            refine g_ldI C rfl (hM.i r0 rfl) (by rw [hM.n r0 (n := 200) rfl]; omega) (by omega) (hT.2.2.2 c 1 hcn (by decide)) dX6_behind_34 ?_
            refine g_iload_n C dX6_behind_35 rfl rfl ?_
            refine g_icmp_ne C dX6_behind_36 (tgt := 75) (by decide) (fun c3 => ?_) (fun c3 => ?_)
            · refine skip (hB.skip (Or.inl (fun h => c3 ?_)))
              show nI (cu c).1 = nI p
              rw [h.2.1]
            · have e3 : (cu c).1 = p := (nI_eq (by omega) (by omega)).mp c3
              refine g_iload_n C dX6_behind_39 rfl rfl ?_
              refine g_iconst C dX6_behind_40 (v := -1) (by decide) ?_
              refine g_icmp_eq C dX6_behind_41 (tgt := 57) (by decide) (fun c4 => ?_) (fun c4 => ?_)
              · have ep := hzp.mp c4
                exact cand ⟨hs, e3, fun o' ho' => by rw [ep] at ho'; cases ho'⟩
              · cases prev with
                | none => exact absurd rfl c4
                | some q =>
                  refine g_aload_n C dX6_behind_44 rfl rfl ?_
                  refine g_iload C dX6_behind_45 rfl ?_
                  refine g_iload_n C dX6_behind_47 rfl rfl ?_
                  refine g_callV C gy_X6_isBehind tw_5_203 tw_5_205 ts_32 (by decide) (kk := 6) rfl rfl (by exact hM.1) (md_isBehind F S m c q nc rw' cu sk hM hT hcn (ho q rfl)) rfl rfl (Nat.le_of_ble_eq_true rfl) (by omega) (by omega) dX6_behind_48 (fun _ _ h9 => h9.elim) ?_
                  rintro _ _ ⟨rfl, v, hv, rfl⟩
                  refine g_if_ne C dX6_behind_51 (tgt := 57) (by decide) (fun c5 => ?_) (fun c5 => ?_)
                  · refine g_sub [(0, _), (1, _), (2, _), (3, _), (4, _)] ⟨rfl, rfl, rfl, rfl, rfl, trivial⟩ ?_
                    exact cand ⟨hs, e3, fun o' ho' => by cases ho'; exact hv.pos c5⟩
                  · refine g_goto C dX6_behind_54 (tgt := 75) (by decide) ?_
                    refine g_sub [(0, _), (1, _), (2, _), (3, _), (4, _)] ⟨rfl, rfl, rfl, rfl, rfl, trivial⟩ ?_
                    exact skip (hB.skip (Or.inl (fun h => hv.neg c5 (h.2.2 q rfl))))
  refine g_iconst C dX6_behind_0 (v := -1) (by decide) ?_
  refine g_istore_n C dX6_behind_1 rfl (by decide) rfl ?_
  refine g_iconst C dX6_behind_2 (v := 0) (by decide) ?_
  refine g_istore C dX6_behind_3 (by decide) rfl ?_
  refine g_sub [(0, _), (1, _), (2, _), (3, _), (4, _)] ⟨rfl, rfl, rfl, rfl, rfl, trivial⟩ ?_
  exact loop nc 0 none (by omega) (fun c hc => absurd hc (Nat.not_lt_zero c))
