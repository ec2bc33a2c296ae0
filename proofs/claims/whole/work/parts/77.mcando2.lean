theorem lastN_no {P : Nat → Bool} {f : Nat → Option Nat} {n : Nat} (h : lastN P f n = none) (hs : ∀ i, i < n → P i = true → (f i).isSome = true) (ha : ∀ i j, i < n → j < n → P i = true → P j = true → f i = f j) : ∀ i, i < n → P i = false := by
  intro i hi
  cases hp : P i with
  | false => rfl
  | true =>
    have e := lastN_some (f := f) n (fun j hj hpj => ha j i hj hi hpj hp) hi hp
    rw [h] at e
    have := hs i hi hp
    rw [← e] at this
    cases this
theorem md_canDo {Γ : GBase} (F : FB Γ) (S : PS) (m q : Nat) (rr : Nat → Nat) (B : BT) (A : AT) (hB : MdB S m rr B) (hP : PlV S rr B) (hC : CaV S rr B A) (hA : ∀ p j v, A p j = some v → v < 1000) (hq : q < tQ B) : GMet Γ yX6_canDo cX6_canDo 9 ((some FieldType.boolean)) 3 0 0 [.ref m, .int (nI q)] S (fun r S' => S = S' ∧ ∃ v, isB v (CanF (ctB B) A q) ∧ r = some (.int v)) noX := by
  have hV := hB.v
  have h8 := hV.1
  have h5 := hV.2.1
  have hwh := hV.2.2.2.1
  have hto := hV.2.2.2.2.1 q hq
  have hpl := hB.pl q hq
  have hbd := lastH_bd (C := ctB B) (A := A) (q := q) (fun p b v hp hv => (hV.good hp).pl hv) hto.2
  have hsome : ∀ b p, b < 1000 → p < tN B → held (ctB B) A q b p = true → (plL (dsB B p) b).isSome = true := by
    intro b p hb hp hh
    obtain ⟨j, s, h1, h2, h3⟩ := held_iff.mp hh
    rw [inS_iff] at h2
    exact (hV.good hp).on hb (List.mem_of_getElem? h1) h2.1 h2.2
  refine GMet.of (loc0 := [(0, .ref m), (1, .int (nI q))]) F (by decide +kernel) rfl (Nat.le_of_ble_eq_true rfl) (fun X C R Tb nm => ?_)
  have outer : ∀ (k b : Nat), b + k = 1000 → (∀ b', b' < b → okAt (ctB B) A q b' ∧ walkAt (ctB B) A q b') → GW Γ X S 0 0 12 [(0, .ref m), (1, .int (nI q)), (2, .int (nI (lastH (ctB B) A q b).1)), (3, .int (nI (lastH (ctB B) A q b).2)), (4, .int (nI b))] [] := by
    intro k
    induction k with
    | zero =>
      intro b hb hok
      have eb : b = 1000 := by omega
      refine g_iload C dX6_canDo_12 rfl ?_
      refine g_sipush C dX6_canDo_14 (v := 1000) (by decide) ?_
      refine g_icmp_ge C dX6_canDo_17 (tgt := 183) (by decide) (fun c1 => ?_) (fun c1 => ?_)
      · refine g_iconst C dX6_canDo_183 (v := 1) (by decide) ?_
        refine g_iret C R rfl (by omega) (by omega) dX6_canDo_184 ?_
        exact ⟨rfl, 1, Or.inl ⟨rfl, fun b' hb' => hok b' (by omega)⟩, rfl⟩
      · exact absurd (nI_le (a := 1000) (by omega) (by omega)) c1
    | succ k ih =>
      intro b hb hok
      have hb1 : b < 1000 := by omega
      have hbb := hbd b
      have hno : ¬ (okAt (ctB B) A q b ∧ walkAt (ctB B) A q b) → isB 0 (CanF (ctB B) A q) := fun h => Or.inr ⟨rfl, fun hc => h (hc b hb1)⟩
      have hsH : ∀ p, p ≤ tN B → sumN (held (ctB B) A q b) (tH B) p ≤ 16 := fun p hp => by
        have := sumN_le (P := held (ctB B) A q b) (f := tH B) (k := 2) p (fun i hi => (hwh i (by omega)).2)
        omega
      have hsW : ∀ p, p ≤ tN B → sumN (held (ctB B) A q b) (tW B) p ≤ 72 := fun p hp => by
        have := sumN_le (P := held (ctB B) A q b) (f := tW B) (k := 9) p (fun i hi => (hwh i (by omega)).1)
        omega
      have inner : ∀ (k p : Nat), p + k = tN B → (∀ i j, i < p → j < p → held (ctB B) A q b i = true → held (ctB B) A q b j = true → plL (dsB B i) b = plL (dsB B j) b) → GW Γ X S 0 0 32 [(0, .ref m), (1, .int (nI q)), (2, .int (nI (lastH (ctB B) A q b).1)), (3, .int (nI (lastH (ctB B) A q b).2)), (4, .int (nI b)), (5, .int (nI (sumN (held (ctB B) A q b) (tH B) p))), (6, .int (nI (sumN (held (ctB B) A q b) (tW B) p))), (7, .int (zO (lastN (held (ctB B) A q b) (fun p => plL (dsB B p) b) p))), (8, .int (nI p))] [] := by
        intro k
        induction k with
        | zero =>
          intro p hp hag
          have ep : p = tN B := by omega
          subst ep
          refine g_iload C dX6_canDo_32 rfl ?_
          refine g_aload_n C dX6_canDo_34 rfl rfl ?_
          refine ge_Model_puppets C tw_5_90 (by exact hB.m) (by exact hB.n) dX6_canDo_35 ?_
          refine g_icmp_ge C dX6_canDo_38 (tgt := 129) (by decide) (fun c1 => ?_) (fun c1 => ?_)
          · refine g_iload C dX6_canDo_129 rfl ?_
            refine g_iconst C dX6_canDo_131 (v := -1) (by decide) ?_
            refine g_icmp_ne C dX6_canDo_132 (tgt := 138) (by decide) (fun c2 => ?_) (fun c2 => ?_)
            · obtain ⟨x, hx⟩ : ∃ x, lastN (held (ctB B) A q b) (fun p => plL (dsB B p) b) (tN B) = some x := by
                cases hx : lastN (held (ctB B) A q b) (fun p => plL (dsB B p) b) (tN B) with
                | none => rw [hx] at c2; exact absurd rfl c2
                | some x => exact ⟨x, rfl⟩
              obtain ⟨kk, g1, g2, g3⟩ := lastN_ex _ hx
              have hx20 : x < 20 := (hV.good g1).pl g3
              have hf : fpl (ctB B) A q b = some x := hx
              rw [hx, show zO (some x) = nI x from rfl]
              have h1 := hsH (tN B) (Nat.le_refl _)
              have h2 := hsW (tN B) (Nat.le_refl _)
              have no : ¬ (okAt (ctB B) A q b ∧ walkAt (ctB B) A q b) → GW Γ X S 0 0 169 [(0, .ref m), (1, .int (nI q)), (2, .int (nI (lastH (ctB B) A q b).1)), (3, .int (nI (lastH (ctB B) A q b).2)), (4, .int (nI b)), (5, .int (nI (sumN (held (ctB B) A q b) (tH B) (tN B)))), (6, .int (nI (sumN (held (ctB B) A q b) (tW B) (tN B)))), (7, .int (nI x)), (8, .int (nI (tN B)))] [] := by
                intro h
                refine g_iconst C dX6_canDo_169 (v := 0) (by decide) ?_
                refine g_iret C R rfl (by omega) (by omega) dX6_canDo_170 ?_
                exact ⟨rfl, 0, hno h, rfl⟩
              refine g_iload C dX6_canDo_138 rfl ?_
              refine g_iconst C dX6_canDo_140 (v := 2) (by decide) ?_
              refine g_icmp_gt C dX6_canDo_141 (tgt := 169) (by decide) (fun c3 => ?_) (fun c3 => ?_)
              · have := (nI_ltI (a := 2) (by omega) (by omega)).mp c3
                exact no (fun h => by
                  have h9 : sumN (held (ctB B) A q b) (tH B) (tN B) ≤ 2 := h.1.2.1
                  omega)
              · have hle : sumN (held (ctB B) A q b) (tH B) (tN B) ≤ 2 := by
                  rcases Nat.lt_or_ge 2 (sumN (held (ctB B) A q b) (tH B) (tN B)) with w | w
                  · exact absurd (nI_lt (a := 2) w (by omega)) c3
                  · exact w
                refine g_iload C dX6_canDo_144 rfl ?_
                refine g_aload_n C dX6_canDo_146 rfl rfl ?_
                refine ge_Model_strengths C tw_5_94 (by exact hB.m) (by exact hB.f.r i_197) dX6_canDo_147 ?_
                refine g_iload_n C dX6_canDo_150 rfl rfl ?_
                refine g_ldI C rfl (hB.f.i i_197 rfl) (hB.f.lt i_197 (n := 5) rfl (by omega)) (by omega) hpl.1 dX6_canDo_151 ?_
                refine g_icmp_gt C dX6_canDo_152 (tgt := 169) (by decide) (fun c4 => ?_) (fun c4 => ?_)
                · have := (nI_ltI (by omega) (by omega)).mp c4
                  exact no (fun h => by
                    have h9 : sumN (held (ctB B) A q b) (tW B) (tN B) ≤ tT B q := h.1.2.2
                    omega)
                · have hle2 : sumN (held (ctB B) A q b) (tW B) (tN B) ≤ tT B q := by
                    rcases Nat.lt_or_ge (tT B q) (sumN (held (ctB B) A q b) (tW B) (tN B)) with w | w
                    · exact absurd (nI_lt w (by omega)) c4
                    · exact w
                  refine g_iload C dX6_canDo_155 rfl ?_
                  refine g_iload_n C dX6_canDo_157 rfl rfl ?_
                  refine g_isub C dX6_canDo_158 ?_
                  refine g_abs C tw_5_215 (by simp [Value.category]) (by omega) (by omega) dX6_canDo_159 ?_
                  have hnd := ndist_le hx20 hbb.1
                  rw [jabs_sub (by omega) (by omega)]
                  refine g_iload C dX6_canDo_162 rfl ?_
                  refine g_iload_n C dX6_canDo_164 rfl rfl ?_
                  refine g_isub C dX6_canDo_165 ?_
                  rw [nI_sub hbb.2]
                  refine g_icmp_le C dX6_canDo_166 (tgt := 171) (by decide) (fun c5 => ?_) (fun c5 => ?_)
                  · have hw : walkAt (ctB B) A q b := fun y hy => by
                      rw [hf] at hy
                      cases hy
                      exact (nI_leI (by omega) (by omega)).mp c5
                    have hoks : okAt (ctB B) A q b := ⟨fun p p' g1 g2 g3 g4 => hag p p' g1 g2 g3 g4, hle, hle2⟩
                    have e1 : lastH (ctB B) A q (b + 1) = (x, b) := by simp only [lastH, hf]
                    have nx := ih (b + 1) (by omega) (fun b' hb' => by
                      by_cases e : b' = b
                      · subst e; exact ⟨hoks, hw⟩
                      · exact hok b' (by omega))
                    rw [e1] at nx
                    refine g_iload C dX6_canDo_171 rfl ?_
                    refine g_istore_n C dX6_canDo_173 rfl (by decide) rfl ?_
                    refine g_iload C dX6_canDo_174 rfl ?_
                    refine g_istore_n C dX6_canDo_176 rfl (by decide) rfl ?_
                    refine g_iinc C dX6_canDo_177 rfl (by first | exact inc1 _ | exact rfl) (by decide) rfl ?_
                    refine g_goto C dX6_canDo_180 (tgt := 12) (by decide) ?_
                    refine g_sub [(0, _), (1, _), (2, _), (3, _), (4, _)] ⟨rfl, rfl, rfl, rfl, rfl, trivial⟩ ?_
                    exact nx
                  · exact no (fun h => c5 (nI_le (h.2 x hf) (by omega)))
            · have hx : lastN (held (ctB B) A q b) (fun p => plL (dsB B p) b) (tN B) = none := (zO_m1 (fun v hv => by
                obtain ⟨kk, g1, g2, g3⟩ := lastN_ex _ hv
                have := (hV.good g1).pl g3
                omega)).mp c2
              have hf : fpl (ctB B) A q b = none := hx
              have hnn : ∀ i, i < tN B → held (ctB B) A q b i = false := lastN_no hx (fun i hi hp => hsome b i hb1 hi hp) (fun i j hi hj g1 g2 => hag i j hi hj g1 g2)
              have hoks : okAt (ctB B) A q b := by
                refine ⟨fun p p' g1 g2 g3 g4 => hag p p' g1 g2 g3 g4, ?_, ?_⟩
                · have : sumN (held (ctB B) A q b) (cH (ctB B)) (cN (ctB B)) = 0 := sumN_zero _ (fun i hi => hnn i hi)
                  omega
                · have : sumN (held (ctB B) A q b) (cW (ctB B)) (cN (ctB B)) = 0 := sumN_zero _ (fun i hi => hnn i hi)
                  omega
              have hw : walkAt (ctB B) A q b := fun y hy => by rw [hf] at hy; cases hy
              have e1 : lastH (ctB B) A q (b + 1) = lastH (ctB B) A q b := by simp only [lastH, hf]
              have nx := ih (b + 1) (by omega) (fun b' hb' => by
                by_cases e : b' = b
                · subst e; exact ⟨hoks, hw⟩
                · exact hok b' (by omega))
              rw [e1] at nx
              refine g_goto C dX6_canDo_135 (tgt := 177) (by decide) ?_
              refine g_iinc C dX6_canDo_177 rfl (by first | exact inc1 _ | exact rfl) (by decide) rfl ?_
              refine g_goto C dX6_canDo_180 (tgt := 12) (by decide) ?_
              refine g_sub [(0, _), (1, _), (2, _), (3, _), (4, _)] ⟨rfl, rfl, rfl, rfl, rfl, trivial⟩ ?_
              exact nx
          · exact absurd (nI_le (Nat.le_refl _) (by omega)) c1
        | succ k ih2 =>
          intro p hp hag
          have hpN : p < tN B := by omega
          have hplz : ∀ v, plyAt B A p b = some v → v < 1000 := fun v hv => by
            cases hq2 : plL (dsB B p) b with
            | none => rw [plyAt_none hq2] at hv; cases hv
            | some w => rw [plyAt_some hq2] at hv; exact hA _ _ _ hv
          refine g_iload C dX6_canDo_32 rfl ?_
          refine g_aload_n C dX6_canDo_34 rfl rfl ?_
          refine ge_Model_puppets C tw_5_90 (by exact hB.m) (by exact hB.n) dX6_canDo_35 ?_
          refine g_icmp_ge C dX6_canDo_38 (tgt := 129) (by decide) (fun c1 => ?_) (fun c1 => ?_)
          · exact absurd c1 (nI_ge hpN (by omega))
          · refine g_aload_n C dX6_canDo_41 rfl rfl ?_
            refine g_iload C dX6_canDo_42 rfl ?_
            refine g_iload C dX6_canDo_44 rfl ?_
            refine g_callV C gy_X6_playerAt tw_6_31 tw_6_33 ts_41 (by decide) (kk := 6) rfl rfl (by exact hB.m) (md_playerAt F S m p b rr B A hB hP hC hpN hb1) rfl rfl (Nat.le_of_ble_eq_true rfl) (by omega) (by omega) dX6_canDo_46 (fun _ _ h9 => h9.elim) ?_
            rintro _ _ ⟨rfl, rfl⟩
            refine g_iload_n C dX6_canDo_49 rfl rfl ?_
            refine g_icmp_eq C dX6_canDo_50 (tgt := 56) (by decide) (fun c2 => ?_) (fun c2 => ?_)
            · have hh : held (ctB B) A q b p = true := (held_ply hV hpN hb1).mpr ((zO_nI hplz (by omega)).mp c2)
              obtain ⟨x, hx⟩ : ∃ x, plL (dsB B p) b = some x := by
                have := hsome b p hb1 hpN hh
                cases hx : plL (dsB B p) b with
                | none => rw [hx] at this; cases this
                | some x => exact ⟨x, rfl⟩
              have hx20 := (hV.good hpN).pl hx
              have hsH1 := hsH p (by omega)
              have hsW1 := hsW p (by omega)
              have hpu := hB.pu p hpN
              have eH : sumN (held (ctB B) A q b) (tH B) (p + 1) = sumN (held (ctB B) A q b) (tH B) p + tH B p := by simp only [sumN, hh, if_true]
              have eW : sumN (held (ctB B) A q b) (tW B) (p + 1) = sumN (held (ctB B) A q b) (tW B) p + tW B p := by simp only [sumN, hh, if_true]
              have eL : lastN (held (ctB B) A q b) (fun p => plL (dsB B p) b) (p + 1) = plL (dsB B p) b := by simp only [lastN, hh, if_true]
              have at107 : (∀ i, i < p → held (ctB B) A q b i = true → plL (dsB B i) b = plL (dsB B p) b) → GW Γ X S 0 0 107 [(0, .ref m), (1, .int (nI q)), (2, .int (nI (lastH (ctB B) A q b).1)), (3, .int (nI (lastH (ctB B) A q b).2)), (4, .int (nI b)), (5, .int (nI (sumN (held (ctB B) A q b) (tH B) p + tH B p))), (6, .int (nI (sumN (held (ctB B) A q b) (tW B) p + tW B p))), (7, .int (zO (lastN (held (ctB B) A q b) (fun p => plL (dsB B p) b) p))), (8, .int (nI p))] [] := by
                intro hall
                have nx := ih2 (p + 1) (by omega) (fun i j hi hj g1 g2 => by
                  by_cases ei : i = p
                  · by_cases ej : j = p
                    · rw [ei, ej]
                    · rw [ei]; exact (hall j (by omega) g2).symm
                  · by_cases ej : j = p
                    · rw [ej]; exact hall i (by omega) g1
                    · exact hag i j (by omega) (by omega) g1 g2)
                rw [eH, eW, eL] at nx
                refine g_aload_n C dX6_canDo_107 rfl rfl ?_
                refine ge_Model_places C tw_5_104 (by exact hB.m) (by exact hB.f.r i_207) dX6_canDo_108 ?_
                refine g_sipush C dX6_canDo_111 (v := 1000) (by decide) ?_
                refine g_iload C dX6_canDo_114 rfl ?_
                refine g_imul C dX6_canDo_116 ?_
                refine g_iload C dX6_canDo_117 rfl ?_
                refine g_iadd C dX6_canDo_119 ?_
                refine g_ldI C (kix p b) (hB.f.i i_207 rfl) (hB.f.lt i_207 (n := 8000) rfl (by omega)) (by omega) (hP p b hpN hb1).1 dX6_canDo_120 ?_
                refine g_istore C dX6_canDo_121 (by decide) rfl ?_
                refine g_iinc C dX6_canDo_123 rfl (by first | exact inc1 _ | exact rfl) (by decide) rfl ?_
                refine g_goto C dX6_canDo_126 (tgt := 32) (by decide) ?_
                refine g_sub [(0, _), (1, _), (2, _), (3, _), (4, _), (5, _), (6, _), (7, _), (8, _)] ⟨rfl, rfl, rfl, rfl, rfl, rfl, rfl, rfl, rfl, trivial⟩ ?_
                exact nx
              refine g_iload C dX6_canDo_56 rfl ?_
              refine g_aload_n C dX6_canDo_58 rfl rfl ?_
              refine ge_Model_needs C tw_5_92 (by exact hB.m) (by exact hB.f.r i_195) dX6_canDo_59 ?_
              refine g_iload C dX6_canDo_62 rfl ?_
              refine g_ldI C rfl (hB.f.i i_195 rfl) (hB.f.lt i_195 (n := 8) rfl (by omega)) (by omega) hpu.2 dX6_canDo_64 ?_
              refine g_iadd C dX6_canDo_65 ?_
              rw [nI_add]
              refine g_istore C dX6_canDo_66 (by decide) rfl ?_
              refine g_iload C dX6_canDo_68 rfl ?_
              refine g_aload_n C dX6_canDo_70 rfl rfl ?_
              refine ge_Model_weights C tw_5_91 (by exact hB.m) (by exact hB.f.r i_194) dX6_canDo_71 ?_
              refine g_iload C dX6_canDo_74 rfl ?_
              refine g_ldI C rfl (hB.f.i i_194 rfl) (hB.f.lt i_194 (n := 8) rfl (by omega)) (by omega) hpu.1 dX6_canDo_76 ?_
              refine g_iadd C dX6_canDo_77 ?_
              rw [nI_add]
              refine g_istore C dX6_canDo_78 (by decide) rfl ?_
              refine g_iload C dX6_canDo_80 rfl ?_
              refine g_iconst C dX6_canDo_82 (v := -1) (by decide) ?_
              refine g_icmp_eq C dX6_canDo_83 (tgt := 107) (by decide) (fun c3 => ?_) (fun c3 => ?_)
              · have hx0 : lastN (held (ctB B) A q b) (fun p => plL (dsB B p) b) p = none := (zO_m1 (fun v hv => by
                  obtain ⟨kk, g1, g2, g3⟩ := lastN_ex _ hv
                  have := (hV.good (by omega)).pl g3
                  omega)).mp c3
                have hnn : ∀ i, i < p → held (ctB B) A q b i = false := lastN_no hx0 (fun i hi hp => hsome b i hb1 (by omega) hp) (fun i j hi hj g1 g2 => hag i j hi hj g1 g2)
                refine g_sub [(0, _), (1, _), (2, _), (3, _), (4, _), (5, _), (6, _), (7, _), (8, _)] ⟨rfl, rfl, rfl, rfl, rfl, rfl, rfl, rfl, rfl, trivial⟩ ?_
                exact at107 (fun i hi hh2 => by rw [hnn i hi] at hh2; cases hh2)
              · obtain ⟨y, hy⟩ : ∃ y, lastN (held (ctB B) A q b) (fun p => plL (dsB B p) b) p = some y := by
                  cases hy : lastN (held (ctB B) A q b) (fun p => plL (dsB B p) b) p with
                  | none => rw [hy] at c3; exact absurd rfl c3
                  | some y => exact ⟨y, rfl⟩
                obtain ⟨kk, g1, g2, g3⟩ := lastN_ex _ hy
                have hy20 := (hV.good (show kk < tN B by omega)).pl g3
                refine g_aload_n C dX6_canDo_86 rfl rfl ?_
                refine ge_Model_places C tw_5_104 (by exact hB.m) (by exact hB.f.r i_207) dX6_canDo_87 ?_
                refine g_sipush C dX6_canDo_90 (v := 1000) (by decide) ?_
                refine g_iload C dX6_canDo_93 rfl ?_
                refine g_imul C dX6_canDo_95 ?_
                refine g_iload C dX6_canDo_96 rfl ?_
                refine g_iadd C dX6_canDo_98 ?_
                refine g_ldI C (kix p b) (hB.f.i i_207 rfl) (hB.f.lt i_207 (n := 8000) rfl (by omega)) (by omega) (hP p b hpN hb1).1 dX6_canDo_99 ?_
                refine g_iload C dX6_canDo_100 rfl ?_
                refine g_icmp_eq C dX6_canDo_102 (tgt := 107) (by decide) (fun c4 => ?_) (fun c4 => ?_)
                · rw [hx, hy] at c4
                  have e : x = y := (nI_eq (by omega) (by omega)).mp c4
                  refine g_sub [(0, _), (1, _), (2, _), (3, _), (4, _), (5, _), (6, _), (7, _), (8, _)] ⟨rfl, rfl, rfl, rfl, rfl, rfl, rfl, rfl, rfl, trivial⟩ ?_
                  refine at107 (fun i hi hh2 => ?_)
                  have e2 : plL (dsB B i) b = plL (dsB B kk) b := hag i kk hi g1 hh2 g2
                  rw [e2, hx, e]
                  exact g3
                · refine g_iconst C dX6_canDo_105 (v := 0) (by decide) ?_
                  refine g_iret C R rfl (by omega) (by omega) dX6_canDo_106 ?_
                  refine ⟨rfl, 0, hno (fun h => c4 ?_), rfl⟩
                  have h9 : plL (dsB B p) b = plL (dsB B kk) b := h.1.1 p kk hpN (show kk < tN B by omega) hh g2
                  rw [h9, hy]
                  show zO (plL (dsB B kk) b) = _
                  rw [show plL (dsB B kk) b = some y from g3]
            · have hh : held (ctB B) A q b p = false := by
                cases hh : held (ctB B) A q b p with
                | false => rfl
                | true => exact absurd ((zO_nI hplz (by omega)).mpr ((held_ply hV hpN hb1).mp hh)) c2
              have nx := ih2 (p + 1) (by omega) (fun i j hi hj g1 g2 => by
                by_cases ei : i = p
                · rw [ei, hh] at g1; cases g1
                · by_cases ej : j = p
                  · rw [ej, hh] at g2; cases g2
                  · exact hag i j (by omega) (by omega) g1 g2)
              have eH : sumN (held (ctB B) A q b) (tH B) (p + 1) = sumN (held (ctB B) A q b) (tH B) p := by simp [sumN, hh]
              have eW : sumN (held (ctB B) A q b) (tW B) (p + 1) = sumN (held (ctB B) A q b) (tW B) p := by simp [sumN, hh]
              have eL : lastN (held (ctB B) A q b) (fun p => plL (dsB B p) b) (p + 1) = lastN (held (ctB B) A q b) (fun p => plL (dsB B p) b) p := by simp [lastN, hh]
              rw [eH, eW, eL] at nx
              refine g_goto C dX6_canDo_53 (tgt := 123) (by decide) ?_
              refine g_iinc C dX6_canDo_123 rfl (by first | exact inc1 _ | exact rfl) (by decide) rfl ?_
              refine g_goto C dX6_canDo_126 (tgt := 32) (by decide) ?_
              refine g_sub [(0, _), (1, _), (2, _), (3, _), (4, _), (5, _), (6, _), (7, _), (8, _)] ⟨rfl, rfl, rfl, rfl, rfl, rfl, rfl, rfl, rfl, trivial⟩ ?_
              exact nx
      refine g_iload C dX6_canDo_12 rfl ?_
      refine g_sipush C dX6_canDo_14 (v := 1000) (by decide) ?_
      refine g_icmp_ge C dX6_canDo_17 (tgt := 183) (by decide) (fun c1 => ?_) (fun c1 => ?_)
      · exact absurd c1 (nI_ge (b := 1000) (by omega) (by omega))
      · refine g_iconst C dX6_canDo_20 (v := 0) (by decide) ?_
        refine g_istore C dX6_canDo_21 (by decide) rfl ?_
        refine g_iconst C dX6_canDo_23 (v := 0) (by decide) ?_
        refine g_istore C dX6_canDo_24 (by decide) rfl ?_
        refine g_iconst C dX6_canDo_26 (v := -1) (by decide) ?_
        refine g_istore C dX6_canDo_27 (by decide) rfl ?_
        refine g_iconst C dX6_canDo_29 (v := 0) (by decide) ?_
        refine g_istore C dX6_canDo_30 (by decide) rfl ?_
        refine g_sub [(0, _), (1, _), (2, _), (3, _), (4, _), (5, _), (6, _), (7, _), (8, _)] ⟨rfl, rfl, rfl, rfl, rfl, rfl, rfl, rfl, rfl, trivial⟩ ?_
        exact inner (tN B) 0 (by omega) (fun i j hi => absurd hi (Nat.not_lt_zero i))
  refine g_aload_n C dX6_canDo_0 rfl rfl ?_
  refine ge_Model_homes C tw_5_95 (by exact hB.m) (by exact hB.f.r i_198) dX6_canDo_1 ?_
  refine g_iload_n C dX6_canDo_4 rfl rfl ?_
  refine g_ldI C rfl (hB.f.i i_198 rfl) (hB.f.lt i_198 (n := 5) rfl (by omega)) (by omega) hpl.2 dX6_canDo_5 ?_
  refine g_istore_n C dX6_canDo_6 rfl (by decide) rfl ?_
  refine g_iconst C dX6_canDo_7 (v := 0) (by decide) ?_
  refine g_istore_n C dX6_canDo_8 rfl (by decide) rfl ?_
  refine g_iconst C dX6_canDo_9 (v := 0) (by decide) ?_
  refine g_istore C dX6_canDo_10 (by decide) rfl ?_
  refine g_sub [(0, _), (1, _), (2, _), (3, _), (4, _)] ⟨rfl, rfl, rfl, rfl, rfl, trivial⟩ ?_
  exact outer 1000 0 (by omega) (fun b' hb' => absurd hb' (Nat.not_lt_zero b'))
