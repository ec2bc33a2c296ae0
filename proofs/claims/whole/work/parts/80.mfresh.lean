/-- a puppet's beats and stays stand in the rows -/
def DoneP (S : PS) (rr : Nat → Nat) (B : BT) (p : Nat) : Prop := (∀ b, b < 1000 → pR S (rr 207) (1000 * p + b) = zO (plL (dsB B p) b) ∧ pR S (rr 208) (1000 * p + b) = zO (trL (dsB B p) b) ∧ pR S (rr 209) (1000 * p + b) = nI (stL (upTo (dsB B p) b)).length - 1) ∧ pR S (rr 210) p = nI (stL (dsB B p)).length ∧ ∀ j s, (stL (dsB B p))[j]? = some s → pR S (rr 211) (40 * p + j) = nI s.1 ∧ pR S (rr 212) (40 * p + j) = nI s.2
/-- the model, fresh -/
def MdW (S S' : PS) (m : Nat) (rr : Nat → Nat) (B : BT) : Prop := MdB S' m rr B ∧ pI S' 206 m = 1 ∧ FreshV S' rr B ∧ FrM S S' m ∧ pI S' 192 m = pI S 192 m
theorem MdW.i {S S' : PS} {m : Nat} {rr : Nat → Nat} {B : BT} (h : MdW S S' m rr B) : MdI S' m rr B := ⟨h.1, Or.inr ⟨h.2.1, h.2.2.1⟩⟩
theorem md_workOut {Γ : GBase} (F : FB Γ) (S : PS) (m : Nat) (rr : Nat → Nat) (B : BT) (hI : MdI S m rr B) : GMet Γ yX6_workOut cX6_workOut 2 ((none : Option FieldType)) 5 1 8 [.ref m] S (fun r S' => r = none ∧ MdW S S' m rr B) noX := by
  have hB := hI.1
  have hV := hB.v
  have h8 := hV.1
  have h40 : ∀ p, p < tN B → (stL (dsB B p)).length ≤ 40 := fun p hp => by
    have h9 := stL_len (dsB B p)
    have := hV.lenD hp
    omega
  refine GMet.of (loc0 := [(0, .ref m)]) F (by decide +kernel) rfl (Nat.le_of_ble_eq_true rfl) (fun X C R Tb nm => ?_)
  rcases hI.2 with h0 | ⟨h1, hf⟩
  · refine g_aload_n C dX6_workOut_0 rfl rfl ?_
    refine ge_Model_isFresh C tw_5_103 (by exact hB.m) (by exact h0) dX6_workOut_1 ?_
    refine g_if_eq C dX6_workOut_4 (tgt := 8) (by decide) (fun c1 => ?_) (fun c1 => ?_)
    · have hB1 : MdB (uI S 206 m 1) m rr B := hB
      have get : ∀ S', Kp S S' m rr (fun f => f = 206) (fun g => 207 ≤ g ∧ g ≤ 212) → MdB S' m rr B := fun S' k => (k.mono (fun f hf => Or.inr hf) (fun g hg => ⟨hg.1, by have := hg.2; omega⟩)).mdB hB
      have loop : ∀ (k p : Nat), p + k = tN B → ∀ (S' : PS), FrM S S' m → Kp S S' m rr (fun f => f = 206) (fun g => 207 ≤ g ∧ g ≤ 212) → pI S' 206 m = 1 → (∀ p', p' < p → DoneP S' rr B p') → GW Γ X S' 0 0 15 [(0, .ref m), (1, .int (nI p))] [] := by
        intro k
        induction k with
        | zero =>
          intro p hp S' hF hK h6 hD
          have gB := get S' hK
          have ep : p = tN B := by omega
          subst ep
          refine g_iload_n C dX6_workOut_15 rfl rfl ?_
          refine g_aload_n C dX6_workOut_16 rfl rfl ?_
          refine ge_Model_puppets C tw_5_90 (by exact gB.m) (by exact gB.n) dX6_workOut_17 ?_
          refine g_icmp_ge C dX6_workOut_20 (tgt := 34) (by decide) (fun c2 => ?_) (fun c2 => ?_)
          · refine g_aload_n C dX6_workOut_34 rfl rfl ?_
            refine g_callV C gy_X6_castAll tw_6_23 tw_6_25 ts_39 (by decide) (kk := 6) rfl rfl (by exact gB.m) (md_castAll F S' m rr B gB (fun p b hp hb => (hD p hp).1 b hb) (fun p hp => (hD p hp).2.1) (fun p j s hp hs => ((hD p hp).2.2 j s hs).1)) rfl rfl (Nat.le_of_ble_eq_true rfl) (by omega) (by omega) dX6_workOut_35 (fun _ _ h9 => h9.elim) ?_
            rintro _ _ ⟨rfl, hF2, hK2, ho, hc⟩
            rename_i S2
            refine g_vret C R (by omega) (by omega) dX6_workOut_38 ?_
            have gB2 : MdB S2 m rr B := (hK2.mono (fun f hf => hf.elim) (fun g hg => by subst hg; exact ⟨by decide, by decide⟩)).mdB gB
            refine ⟨rfl, gB2, (hK2.i (fun h => h)).trans h6, ⟨ho, ?_, ?_, ?_⟩, hF.tr hF2, (hK2.i (fun h => h)).trans (hK.i (by decide))⟩
            · rw [hK2.r i_207 (by decide), hK2.r i_208 (by decide), hK2.r i_209 (by decide)]
              exact fun p b hp hb => (hD p hp).1 b hb
            · rw [hK2.r i_210 (by decide)]
              exact fun p hp => (hD p hp).2.1
            · rw [hK2.r i_211 (by decide), hK2.r i_212 (by decide)]
              exact fun p j s hp hs => ⟨((hD p hp).2.2 j s hs).1, ((hD p hp).2.2 j s hs).2, hc p j s hp hs⟩
          · exact absurd (nI_le (Nat.le_refl _) (by omega)) c2
        | succ k ih =>
          intro p hp S' hF hK h6 hD
          have gB := get S' hK
          have hpN : p < tN B := by omega
          refine g_iload_n C dX6_workOut_15 rfl rfl ?_
          refine g_aload_n C dX6_workOut_16 rfl rfl ?_
          refine ge_Model_puppets C tw_5_90 (by exact gB.m) (by exact gB.n) dX6_workOut_17 ?_
          refine g_icmp_ge C dX6_workOut_20 (tgt := 34) (by decide) (fun c2 => ?_) (fun c2 => ?_)
          · exact absurd c2 (nI_ge hpN (by omega))
          · refine g_aload_n C dX6_workOut_23 rfl rfl ?_
            refine g_iload_n C dX6_workOut_24 rfl rfl ?_
            refine g_callV C gy_X6_workOut_ tw_6_16 tw_6_18 ts_38 (by decide) (kk := 6) rfl rfl (by exact gB.m) (md_workOutP F S' m p rr B gB hpN) rfl rfl (Nat.le_of_ble_eq_true rfl) (by omega) (by omega) dX6_workOut_25 (fun _ _ h9 => h9.elim) ?_
            rintro _ _ ⟨rfl, w1, w2, w3, w4, w5, w6, w7⟩
            rename_i S2
            refine g_iinc C dX6_workOut_28 rfl (by first | exact inc1 _ | exact rfl) (by decide) rfl ?_
            refine g_goto C dX6_workOut_31 (tgt := 15) (by decide) ?_
            refine g_sub [(0, _), (1, _)] ⟨rfl, rfl, trivial⟩ ?_
            refine ih (p + 1) (by omega) S2 (hF.tr w1) (hK.tr (w2.mono (fun f hf => hf.elim) (fun g hg => hg))) ((w2.i (fun h => h)).trans h6) (fun p' hp' => ?_)
            by_cases e : p' = p
            · subst e
              exact ⟨w6, w3.1, w4⟩
            · obtain ⟨d1, d2, d3⟩ := hD p' (by omega)
              have hp40 := h40 p' (by omega)
              refine ⟨fun b hb => ?_, (w3.2 p' e).trans d2, fun j s hs => ?_⟩
              · have := w7 (1000 * p' + b) (by omega)
                rw [this.1, this.2.1, this.2.2]
                exact d1 b hb
              · have hj := (List.getElem?_eq_some_iff.mp hs).1
                have := w5 (40 * p' + j) (by omega)
                rw [this.1, this.2]
                exact d3 j s hs
      refine g_aload_n C dX6_workOut_8 rfl rfl ?_
      refine g_iconst C dX6_workOut_9 (v := 1) (by decide) ?_
      refine pu_Model_isFresh C tw_5_103 (by exact hB.m) (by first | exact Or.inl rfl | exact Or.inr rfl) dX6_workOut_10 ?_
      refine g_iconst C dX6_workOut_13 (v := 0) (by decide) ?_
      refine g_istore_n C dX6_workOut_14 rfl (by decide) rfl ?_
      refine g_sub [(0, _), (1, _)] ⟨rfl, rfl, trivial⟩ ?_
      exact loop (tN B) 0 (by omega) _ FrM.i (kp_uI rfl) uI_q (fun p' hp' => absurd hp' (Nat.not_lt_zero p'))
    · exact absurd rfl c1
  · refine g_aload_n C dX6_workOut_0 rfl rfl ?_
    refine ge_Model_isFresh C tw_5_103 (by exact hB.m) (by exact h1) dX6_workOut_1 ?_
    refine g_if_eq C dX6_workOut_4 (tgt := 8) (by decide) (fun c1 => ?_) (fun c1 => ?_)
    · exact absurd c1 (by decide)
    · refine g_vret C R (by omega) (by omega) dX6_workOut_7 ?_
      exact ⟨rfl, hB, h1, hf, Fr.rf, rfl⟩
