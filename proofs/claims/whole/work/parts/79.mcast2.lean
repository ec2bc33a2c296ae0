theorem CaV.up {S : PS} {rr : Nat → Nat} {B : BT} {A : AT} {f j : Nat} {o : Option Nat} (h : CaV S rr B A) (h40 : ∀ p, p < tN B → lnC (ctB B) p ≤ 40) (hf : f < tN B) (hj : j < lnC (ctB B) f) : CaV (uR S (rr 213) (va_up (pR S (rr 213)) (40 * f + j) (zO o))) rr B (upA A f j o) := by
  intro p' j' s hp hs
  rw [uR_q]
  have hj' : j' < lnC (ctB B) p' := (List.getElem?_eq_some_iff.mp hs).1
  have := h40 p' hp
  have := h40 f hf
  unfold upA
  by_cases e : p' = f ∧ j' = j
  · rw [if_pos e, e.1, e.2, va_up_self]
  · rw [if_neg e, va_up_ne _ _ (by omega)]
    exact h p' j' s hp hs
theorem upA_lt {A : AT} {p j i : Nat} (h : ∀ p j v, A p j = some v → v < 1000) (hi : i < 1000) : ∀ p' j' v, upA A p j (some i) p' j' = some v → v < 1000 := by
  intro p' j' v hv
  unfold upA at hv
  split at hv
  · cases hv; exact hi
  · exact h _ _ _ hv
theorem md_castAll {Γ : GBase} (F : FB Γ) (S : PS) (m : Nat) (rr : Nat → Nat) (B : BT) (hB : MdB S m rr B) (hP : PlV S rr B) (h0 : ∀ p, p < tN B → pR S (rr 210) p = nI (lnC (ctB B) p)) (h1 : ∀ p j s, p < tN B → (stL (dsB B p))[j]? = some s → pR S (rr 211) (40 * p + j) = nI s.1) : GMet Γ yX6_castAll cX6_castAll 6 ((none : Option FieldType)) 4 1 8 [.ref m] S (fun r S' => r = none ∧ FrM S S' m ∧ Kp S S' m rr nF (fun g => g = 213) ∧ isOrd (ctB B) (ordB B) ∧ CaV S' rr B (castB B)) noX := by
  have hV := hB.v
  have h8 := hV.1
  have h5 := hV.2.1
  have hwc := hV.wc
  have h40 : ∀ p, p < tN B → lnC (ctB B) p ≤ 40 := fun p hp => by
    have h9 := stL_len (dsB B p)
    have := hV.lenD hp
    have e : lnC (ctB B) p = (stL (dsB B p)).length := rfl
    omega
  have hL : ∀ n, n ≤ tN B → sum1 (lnC (ctB B)) n ≤ 320 := fun n hn => by
    have := sum1_le (f := lnC (ctB B)) (k := 40) n (fun i hi => h40 i (by omega))
    omega
  have get : ∀ S', Kp S S' m rr nF (fun g => g = 213) → MdB S' m rr B ∧ PlV S' rr B ∧ (∀ p, p < tN B → pR S' (rr 210) p = nI (lnC (ctB B) p)) ∧ (∀ p j s, p < tN B → (stL (dsB B p))[j]? = some s → pR S' (rr 211) (40 * p + j) = nI s.1) := by
    intro S' k
    refine ⟨(k.mono (fun f hf => hf.elim) (fun g hg => by subst hg; exact ⟨by decide, by decide⟩)).mdB hB, ?_, ?_, ?_⟩
    · unfold PlV
      rw [k.r i_207 (by decide), k.r i_208 (by decide), k.r i_209 (by decide)]
      exact hP
    · rw [k.r i_210 (by decide)]; exact h0
    · rw [k.r i_211 (by decide)]; exact h1
  refine GMet.of (loc0 := [(0, .ref m)]) F (by decide +kernel) rfl (Nat.le_of_ble_eq_true rfl) (fun X C R Tb nm => ?_)
  -- the second half: behind the new array
  have half : ∀ (S1 : PS) (nq : Nat), FrM S S1 m → Kp S S1 m rr nF (fun g => g = 213) → CaV S1 rr B noA → nq ∉ pL S1 → GW Γ X (nA S1 nq 8 8) 1 8 62 [(0, .ref m), (1, .int (nI (sum1 (lnC (ctB B)) (tN B)))), (2, .ref nq)] [] := by
    intro S1 nq hFr hK hCa hnq
    have hnq0 : nq ∉ pL S := fun h => hnq (hFr nq h).1
    have hM1 := (get S1 hK).1.f
    have hqr : ∀ f, isRw f → rr f ≠ nq := fun f hf => mem_ne (hM1.2.1 f hf).2.1.1 hnq
    have main : ∀ (r : Nat) (l : List (Nat × Nat)) (nx : Nat → Nat) (S' : PS), CIn (ctB B) l nx → r + l.length = sum1 (lnC (ctB B)) (tN B) → FrM S S' m → Kp S S' m rr nF (fun g => g = 213) → al S' nq 8 → pN S' nq = 8 → (∀ p, p < tN B → pR S' nq p = nI (nx p)) → CaV S' rr B (castL (ctB B) l noA) → GW Γ X S' 1 8 62 [(0, .ref m), (1, .int (nI r)), (2, .ref nq)] [] := by
      intro r
      induction r with
      | zero =>
        intro l nx S' hI hr hF hK' hq1 hq2 hq3 hC'
        refine g_iload_n C dX6_castAll_62 rfl rfl ?_
        refine g_if_le C dX6_castAll_63 (tgt := 223) (by decide) (fun c1 => ?_) (fun c1 => ?_)
        · refine g_vret C R (by omega) (by omega) dX6_castAll_223 ?_
          have hord := hI.done (by show sum1 (lnC (ctB B)) (tN B) ≤ l.length; omega)
          have eo := hord.eqB
          refine ⟨rfl, hF, hK', by rw [eo]; exact hord, ?_⟩
          unfold castB
          rw [eo]
          exact hC'
        · exact absurd (by decide) c1
      | succ r ih =>
        intro l nx S' hI hr hF hK' hq1 hq2 hq3 hC'
        obtain ⟨gB, gP, g0, g1⟩ := get S' hK'
        have hL1 := hL (tN B) (Nat.le_refl _)
        have hnx : ∀ p, p < tN B → nx p ≤ 40 := fun p hp => Nat.le_trans (hI.2.2.1 p hp) (h40 p hp)
        have hAl := hI.casti
        have hA : ∀ p j v, castL (ctB B) l noA p j = some v → v < 1000 := fun p j v hv => by
          have : v < tQ B := (hAl.2 p j v hv).2
          omega
        obtain ⟨A, hAe⟩ : ∃ A, A = castL (ctB B) l noA := ⟨_, rfl⟩
        rw [← hAe] at hA hC'
        have at139 : ∀ f, f < tN B → nx f < lnC (ctB B) f → (∀ p, p < tN B → nx p < lnC (ctB B) p → okey (ctB B) (f, nx f) ≤ okey (ctB B) (p, nx p)) → GW Γ X S' 1 8 139 [(0, .ref m), (1, .int (nI (r + 1))), (2, .ref nq), (3, .int (nI f))] [] := by
          intro f hf hc hmin
          have hf40 := h40 f hf
          have kS : ∀ row, Kp S (uR S' (rr 213) row) m rr nF (fun g => g = 213) := fun row => hK'.tr (kp_uR gB.f i_213 rfl)
          have at210 : ∀ o, o = pick (fun q => CanF (ctB B) (upA A f (nx f) (some q)) q) (tQ B) → GW Γ X (uR S' (rr 213) (va_up (pR S' (rr 213)) (40 * f + nx f) (zO o))) 1 8 210 [(0, .ref m), (1, .int (nI (r + 1))), (2, .ref nq), (3, .int (nI f))] [] := by
            intro o ho
            have e1 : pR (uR S' (rr 213) (va_up (pR S' (rr 213)) (40 * f + nx f) (zO o))) nq = pR S' nq := uR_ne (hqr 213 i_213).symm
            refine g_aload_n C dX6_castAll_210 rfl rfl ?_
            refine g_iload_n C dX6_castAll_211 rfl rfl ?_
            refine g_dup2 C dX6_castAll_212 rfl rfl ?_
            refine g_ldI C rfl (by exact hq1) (show f < pN S' nq by rw [hq2]; omega) (by omega) ((congrFun e1 f).trans (hq3 f hf)) dX6_castAll_213 ?_
            refine g_iconst C dX6_castAll_214 (v := 1) (by decide) ?_
            refine g_iadd C dX6_castAll_215 ?_
            rw [nI_1]
            refine g_stI C rfl (by exact hq1) (show f < pN S' nq by rw [hq2]; omega) (by omega) dX6_castAll_216 ?_
            refine g_iinc C dX6_castAll_217 rfl (by first | exact decr1 _ | exact rfl) (by decide) rfl ?_
            refine g_goto C dX6_castAll_220 (tgt := 62) (by decide) ?_
            refine g_sub [(0, _), (1, _), (2, _)] ⟨rfl, rfl, rfl, trivial⟩ ?_
            refine ih (l ++ [(f, nx f)]) (va_up nx f (nx f + 1)) _ (hI.step hwc h8 hf hc hmin) (by rw [List.length_append]; show r + (l.length + 1) = _; omega) ?_ ?_ hq1 hq2 (fun p hp => ?_) ?_
            · exact Fr.uRq (hF.tr (FrM.r gB.f i_213)) hnq0
            · exact (kS _).tr (kp_uRq hqr)
            · rw [uR_q, e1]
              by_cases e : p = f
              · rw [e, va_up_self, va_up_self]
              · rw [va_up_ne _ _ e, va_up_ne _ _ e]; exact hq3 p hp
            · rw [castL_snoc, ← hAe]
              have hcv := CaV.up (o := o) hC' h40 hf hc
              have e2 : upA A f (nx f) o = castAt (ctB B) A f (nx f) := by rw [ho]; rfl
              rw [e2] at hcv
              intro p' j' s' hp' hs'
              rw [uR_ne (hqr 213 i_213)]
              exact hcv p' j' s' hp' hs'
          have at160 : ∀ (k i : Nat), i + k = tQ B → (∀ i', i' < i → ¬ CanF (ctB B) (upA A f (nx f) (some i')) i') → GW Γ X (uR S' (rr 213) (va_up (pR S' (rr 213)) (40 * f + nx f) (nI i))) 1 8 160 [(0, .ref m), (1, .int (nI (r + 1))), (2, .ref nq), (3, .int (nI f)), (4, .int (nI (40 * f + nx f))), (5, .int (nI i))] [] := by
            intro k
            induction k with
            | zero =>
              intro i hi hno
              have gB2 := (get _ (kS (va_up (pR S' (rr 213)) (40 * f + nx f) (nI i)))).1
              refine g_iload C dX6_castAll_160 rfl ?_
              refine g_aload_n C dX6_castAll_162 rfl rfl ?_
              refine ge_Model_players C tw_5_93 (by exact gB2.m) (by exact gB2.q) dX6_castAll_163 ?_
              refine g_icmp_ge C dX6_castAll_166 (tgt := 193) (by decide) (fun c1 => ?_) (fun c1 => ?_)
              · refine g_iload C dX6_castAll_193 rfl ?_
                refine g_aload_n C dX6_castAll_195 rfl rfl ?_
                refine ge_Model_players C tw_5_93 (by exact gB2.m) (by exact gB2.q) dX6_castAll_196 ?_
                refine g_icmp_ne C dX6_castAll_199 (tgt := 210) (by decide) (fun c2 => ?_) (fun c2 => ?_)
                · exact absurd (by rw [show i = tQ B by omega]) c2
                · refine g_aload_n C dX6_castAll_202 rfl rfl ?_
                  refine ge_Model_cast C tw_5_110 (by exact gB2.m) (by exact gB2.f.r i_213) dX6_castAll_203 ?_
                  refine g_iload C dX6_castAll_206 rfl ?_
                  refine g_iconst C dX6_castAll_208 (v := -1) (by decide) ?_
                  refine g_stI C rfl (gB2.f.i i_213 rfl) (gB2.f.lt i_213 (n := 320) rfl (by omega)) (by omega) dX6_castAll_209 ?_
                  rw [uR_uR, uR_q, va_up_up]
                  refine g_sub [(0, _), (1, _), (2, _), (3, _)] ⟨rfl, rfl, rfl, rfl, trivial⟩ ?_
                  exact at210 none (pick_none (fun i' hi' => hno i' (by omega))).symm
              · exact absurd (nI_le (by omega) (by omega)) c1
            | succ k ih2 =>
              intro i hi hno
              have gg := get _ (kS (va_up (pR S' (rr 213)) (40 * f + nx f) (nI i)))
              have gB2 := gg.1
              refine g_iload C dX6_castAll_160 rfl ?_
              refine g_aload_n C dX6_castAll_162 rfl rfl ?_
              refine ge_Model_players C tw_5_93 (by exact gB2.m) (by exact gB2.q) dX6_castAll_163 ?_
              refine g_icmp_ge C dX6_castAll_166 (tgt := 193) (by decide) (fun c1 => ?_) (fun c1 => ?_)
              · exact absurd c1 (nI_ge (by omega) (by omega))
              · refine g_aload_n C dX6_castAll_169 rfl rfl ?_
                refine g_iload C dX6_castAll_170 rfl ?_
                refine g_callV C gy_X6_canDo tw_6_27 tw_6_29 ts_40 (by decide) (kk := 6) rfl rfl (by exact gB2.m) (md_canDo F _ m i rr B (upA A f (nx f) (some i)) gB2 gg.2.1 (CaV.up (o := some i) hC' h40 hf hc) (upA_lt hA (by omega)) (by omega)) rfl rfl (Nat.le_of_ble_eq_true rfl) (by omega) (by omega) dX6_castAll_172 (fun _ _ h9 => h9.elim) ?_
                rintro _ _ ⟨rfl, v, hv, rfl⟩
                refine g_if_ne C dX6_castAll_175 (tgt := 193) (by decide) (fun c2 => ?_) (fun c2 => ?_)
                · have hcan := hv.pos c2
                  refine g_iload C dX6_castAll_193 rfl ?_
                  refine g_aload_n C dX6_castAll_195 rfl rfl ?_
                  refine ge_Model_players C tw_5_93 (by exact gB2.m) (by exact gB2.q) dX6_castAll_196 ?_
                  refine g_icmp_ne C dX6_castAll_199 (tgt := 210) (by decide) (fun c3 => ?_) (fun c3 => ?_)
                  · refine g_sub [(0, _), (1, _), (2, _), (3, _)] ⟨rfl, rfl, rfl, rfl, trivial⟩ ?_
                    exact at210 (some i) (pick_some (P := fun q => CanF (ctB B) (upA A f (nx f) (some q)) q) (by omega) hcan hno).symm
                  · have := (nI_eq (by omega) (by omega)).mp c3
                    omega
                · have hcan := hv.neg c2
                  refine g_iinc C dX6_castAll_178 rfl (by first | exact inc1 _ | exact rfl) (by decide) rfl ?_
                  refine g_aload_n C dX6_castAll_181 rfl rfl ?_
                  refine ge_Model_cast C tw_5_110 (by exact gB2.m) (by exact gB2.f.r i_213) dX6_castAll_182 ?_
                  refine g_iload C dX6_castAll_185 rfl ?_
                  refine g_iload C dX6_castAll_187 rfl ?_
                  refine g_stI C rfl (gB2.f.i i_213 rfl) (gB2.f.lt i_213 (n := 320) rfl (by omega)) (by omega) dX6_castAll_189 ?_
                  rw [uR_uR, uR_q, va_up_up]
                  refine g_goto C dX6_castAll_190 (tgt := 160) (by decide) ?_
                  refine g_sub [(0, _), (1, _), (2, _), (3, _), (4, _), (5, _)] ⟨rfl, rfl, rfl, rfl, rfl, rfl, trivial⟩ ?_
                  exact ih2 (i + 1) (by omega) (fun i' hi' => by
                    by_cases e : i' = i
                    · rw [e]; exact hcan
                    · exact hno i' (by omega))
          refine g_bipush C dX6_castAll_139 (v := 40) (by decide) ?_
          refine g_iload_n C dX6_castAll_141 rfl rfl ?_
          refine g_imul C dX6_castAll_142 ?_
          refine g_aload_n C dX6_castAll_143 rfl rfl ?_
          refine g_iload_n C dX6_castAll_144 rfl rfl ?_
          refine g_ldI C rfl hq1 (by rw [hq2]; omega) (by omega) (hq3 f hf) dX6_castAll_145 ?_
          refine g_iadd C dX6_castAll_146 ?_
          rw [fix40]
          refine g_istore C dX6_castAll_147 (by decide) rfl ?_
          refine g_iconst C dX6_castAll_149 (v := 0) (by decide) ?_
          refine g_istore C dX6_castAll_150 (by decide) rfl ?_
          refine g_aload_n C dX6_castAll_152 rfl rfl ?_
          refine ge_Model_cast C tw_5_110 (by exact gB.m) (by exact gB.f.r i_213) dX6_castAll_153 ?_
          refine g_iload C dX6_castAll_156 rfl ?_
          refine g_iconst C dX6_castAll_158 (v := 0) (by decide) ?_
          refine g_stI C rfl (gB.f.i i_213 rfl) (gB.f.lt i_213 (n := 320) rfl (by omega)) (by omega) dX6_castAll_159 ?_
          refine g_sub [(0, _), (1, _), (2, _), (3, _), (4, _), (5, _)] ⟨rfl, rfl, rfl, rfl, rfl, rfl, trivial⟩ ?_
          exact at160 (tQ B) 0 (by omega) (fun i' hi' => absurd hi' (Nat.not_lt_zero i'))
        have choose : ∀ (k p : Nat) (o : Option Nat), p + k = tN B → isMin (ctB B) nx p o → GW Γ X S' 1 8 71 [(0, .ref m), (1, .int (nI (r + 1))), (2, .ref nq), (3, .int (zO o)), (4, .int (nI p))] [] := by
          intro k
          induction k with
          | zero =>
            intro p o hp hm
            have ep : p = tN B := by omega
            subst ep
            refine g_iload C dX6_castAll_71 rfl ?_
            refine g_aload_n C dX6_castAll_73 rfl rfl ?_
            refine ge_Model_puppets C tw_5_90 (by exact gB.m) (by exact gB.n) dX6_castAll_74 ?_
            refine g_icmp_ge C dX6_castAll_77 (tgt := 139) (by decide) (fun c1 => ?_) (fun c1 => ?_)
            · cases o with
              | none =>
                obtain ⟨p, q1, q2⟩ := hI.ex (by show l.length < sum1 (lnC (ctB B)) (tN B); omega)
                exact absurd q2 (hm p q1)
              | some f =>
                refine g_sub [(0, _), (1, _), (2, _), (3, _)] ⟨rfl, rfl, rfl, rfl, trivial⟩ ?_
                exact at139 f hm.1 hm.2.1 hm.2.2
            · exact absurd (nI_le (Nat.le_refl _) (by omega)) c1
          | succ k ih2 =>
            intro p o hp hm
            have hpN : p < tN B := by omega
            have hp40 := h40 p hpN
            have hnp := hnx p hpN
            have hof : ∀ f, o = some f → f < tN B := fun f hf => by rw [hf] at hm; have := hm.1; omega
            have skip : isMin (ctB B) nx (p + 1) o → GW Γ X S' 1 8 133 [(0, .ref m), (1, .int (nI (r + 1))), (2, .ref nq), (3, .int (zO o)), (4, .int (nI p))] [] := by
              intro h
              refine g_iinc C dX6_castAll_133 rfl (by first | exact inc1 _ | exact rfl) (by decide) rfl ?_
              refine g_goto C dX6_castAll_136 (tgt := 71) (by decide) ?_
              refine g_sub [(0, _), (1, _), (2, _), (3, _), (4, _)] ⟨rfl, rfl, rfl, rfl, rfl, trivial⟩ ?_
              exact ih2 (p + 1) o (by omega) h
            have take : isMin (ctB B) nx (p + 1) (some p) → GW Γ X S' 1 8 130 [(0, .ref m), (1, .int (nI (r + 1))), (2, .ref nq), (3, .int (zO o)), (4, .int (nI p))] [] := by
              intro h
              refine g_iload C dX6_castAll_130 rfl ?_
              refine g_istore_n C dX6_castAll_132 rfl (by decide) rfl ?_
              refine g_iinc C dX6_castAll_133 rfl (by first | exact inc1 _ | exact rfl) (by decide) rfl ?_
              refine g_goto C dX6_castAll_136 (tgt := 71) (by decide) ?_
              refine g_sub [(0, _), (1, _), (2, _), (3, _), (4, _)] ⟨rfl, rfl, rfl, rfl, rfl, trivial⟩ ?_
              exact ih2 (p + 1) (some p) (by omega) h
            refine g_iload C dX6_castAll_71 rfl ?_
            refine g_aload_n C dX6_castAll_73 rfl rfl ?_
            refine ge_Model_puppets C tw_5_90 (by exact gB.m) (by exact gB.n) dX6_castAll_74 ?_
            refine g_icmp_ge C dX6_castAll_77 (tgt := 139) (by decide) (fun c1 => ?_) (fun c1 => ?_)
            · exact absurd c1 (nI_ge hpN (by omega))
            · refine g_aload_n C dX6_castAll_80 rfl rfl ?_
              refine g_iload C dX6_castAll_81 rfl ?_
              refine g_ldI C rfl hq1 (by rw [hq2]; omega) (by omega) (hq3 p hpN) dX6_castAll_83 ?_
              refine g_aload_n C dX6_castAll_84 rfl rfl ?_
              refine ge_Model_manyStays C tw_5_107 (by exact gB.m) (by exact gB.f.r i_210) dX6_castAll_85 ?_
              refine g_iload C dX6_castAll_88 rfl ?_
              refine g_ldI C rfl (gB.f.i i_210 rfl) (gB.f.lt i_210 (n := 8) rfl (by omega)) (by omega) (g0 p hpN) dX6_castAll_90 ?_
              refine g_icmp_ge C dX6_castAll_91 (tgt := 133) (by decide) (fun c2 => ?_) (fun c2 => ?_)
              · have := (nI_leI (by omega) (by omega)).mp c2
                exact skip (hm.skip (Or.inl (by omega)))
              · have hcp : nx p < lnC (ctB B) p := by
                  rcases Nat.lt_or_ge (nx p) (lnC (ctB B) p) with w | w
                  · exact w
                  · exact absurd (nI_le w (by omega)) c2
                obtain ⟨s, hs⟩ : ∃ s, (stL (dsB B p))[nx p]? = some s := ⟨_, List.getElem?_eq_getElem hcp⟩
                have hsb := (hwc p hpN).1.1 s (List.mem_of_getElem? hs)
                refine g_iload_n C dX6_castAll_94 rfl rfl ?_
                refine g_iconst C dX6_castAll_95 (v := -1) (by decide) ?_
                refine g_icmp_eq C dX6_castAll_96 (tgt := 130) (by decide) (fun c3 => ?_) (fun c3 => ?_)
                · have eo : o = none := (zO_m1 (fun v hv => by have := hof v hv; omega)).mp c3
                  exact take (hm.take hcp (fun f hf => by rw [eo] at hf; cases hf))
                · cases o with
                  | none => exact absurd rfl c3
                  | some f =>
                    have hfN := hof f rfl
                    obtain ⟨m1, m2, m3⟩ := hm
                    have hf40 := h40 f hfN
                    obtain ⟨t, ht⟩ : ∃ t, (stL (dsB B f))[nx f]? = some t := ⟨_, List.getElem?_eq_getElem m2⟩
                    have htb := (hwc f hfN).1.1 t (List.mem_of_getElem? ht)
                    have k1 : okey (ctB B) (p, nx p) = s.1 * 8 + p := by
                      show (match (stL (dsB B p))[nx p]? with | some s => s.1 | none => 0) * 8 + p = _
                      rw [hs]
                    have k2 : okey (ctB B) (f, nx f) = t.1 * 8 + f := by
                      show (match (stL (dsB B f))[nx f]? with | some s => s.1 | none => 0) * 8 + f = _
                      rw [ht]
                    rw [show zO (some f) = nI f from rfl]
                    refine g_aload_n C dX6_castAll_99 rfl rfl ?_
                    refine ge_Model_begins C tw_5_108 (by exact gB.m) (by exact gB.f.r i_211) dX6_castAll_100 ?_
                    refine g_bipush C dX6_castAll_103 (v := 40) (by decide) ?_
                    refine g_iload C dX6_castAll_105 rfl ?_
                    refine g_imul C dX6_castAll_107 ?_
                    refine g_aload_n C dX6_castAll_108 rfl rfl ?_
                    refine g_iload C dX6_castAll_109 rfl ?_
                    refine g_ldI C rfl hq1 (by rw [hq2]; omega) (by omega) (hq3 p hpN) dX6_castAll_111 ?_
                    refine g_iadd C dX6_castAll_112 ?_
                    refine g_ldI C (fix40 p (nx p)) (gB.f.i i_211 rfl) (gB.f.lt i_211 (n := 320) rfl (by omega)) (by omega) (g1 p (nx p) s hpN hs) dX6_castAll_113 ?_
                    refine g_aload_n C dX6_castAll_114 rfl rfl ?_
                    refine ge_Model_begins C tw_5_108 (by exact gB.m) (by exact gB.f.r i_211) dX6_castAll_115 ?_
                    refine g_bipush C dX6_castAll_118 (v := 40) (by decide) ?_
                    refine g_iload_n C dX6_castAll_120 rfl rfl ?_
                    refine g_imul C dX6_castAll_121 ?_
                    refine g_aload_n C dX6_castAll_122 rfl rfl ?_
                    refine g_iload_n C dX6_castAll_123 rfl rfl ?_
                    refine g_ldI C rfl hq1 (by rw [hq2]; omega) (by omega) (hq3 f hfN) dX6_castAll_124 ?_
                    refine g_iadd C dX6_castAll_125 ?_
                    refine g_ldI C (fix40 f (nx f)) (gB.f.i i_211 rfl) (gB.f.lt i_211 (n := 320) rfl (by omega)) (by omega) (g1 f (nx f) t hfN ht) dX6_castAll_126 ?_
                    refine g_icmp_ge C dX6_castAll_127 (tgt := 133) (by decide) (fun c4 => ?_) (fun c4 => ?_)
                    · have := (nI_leI (by omega) (by omega)).mp c4
                      refine skip (isMin.skip (o := some f) ⟨m1, m2, m3⟩ (Or.inr ⟨f, rfl, ?_⟩))
                      rw [k1, k2]
                      omega
                    · have hlt : s.1 < t.1 := by
                        rcases Nat.lt_or_ge s.1 t.1 with w | w
                        · exact w
                        · exact absurd (nI_le w (by omega)) c4
                      refine take (isMin.take (o := some f) ⟨m1, m2, m3⟩ hcp (fun f' hf' => ?_))
                      cases hf'
                      rw [k1, k2]
                      omega
        refine g_iload_n C dX6_castAll_62 rfl rfl ?_
        refine g_if_le C dX6_castAll_63 (tgt := 223) (by decide) (fun c1 => ?_) (fun c1 => ?_)
        · have := (nI_leI (b := 0) (by omega) (by omega)).mp c1
          omega
        · refine g_iconst C dX6_castAll_66 (v := -1) (by decide) ?_
          refine g_istore_n C dX6_castAll_67 rfl (by decide) rfl ?_
          refine g_iconst C dX6_castAll_68 (v := 0) (by decide) ?_
          refine g_istore C dX6_castAll_69 (by decide) rfl ?_
          refine g_sub [(0, _), (1, _), (2, _), (3, _), (4, _)] ⟨rfl, rfl, rfl, rfl, rfl, trivial⟩ ?_
          exact choose (tN B) 0 none (by omega) (fun p hp => absurd hp (Nat.not_lt_zero p))
    refine main _ [] (fun _ => 0) _ (CIn.nil _) (by simp) (hFr.tr (fr_newA hnq)) (hK.tr (kp_nA hM1 hnq)) al_nA nA_Nq (fun p hp => by show pR (nA S1 nq 8 8) nq p = 0; rw [show pR (nA S1 nq 8 8) nq = fun _ => 0 from va_up_self _ _ _]) ?_
    intro p j s hp hs
    exact (congrFun (show pR (nA S1 nq 8 8) (rr 213) = pR S1 (rr 213) from va_up_ne _ _ (hqr 213 i_213)) _).trans (hCa p j s hp hs)
  have outer : ∀ (k p : Nat), p + k = tN B → ∀ (S' : PS), FrM S S' m → Kp S S' m rr nF (fun g => g = 213) → (∀ p' j, p' < p → j < lnC (ctB B) p' → pR S' (rr 213) (40 * p' + j) = -1) → GW Γ X S' 0 0 4 [(0, .ref m), (1, .int (nI (sum1 (lnC (ctB B)) p))), (2, .int (nI p))] [] := by
    intro k
    induction k with
    | zero =>
      intro p hp S' hF hK hc
      obtain ⟨gB, gP, g0, g1⟩ := get S' hK
      have ep : p = tN B := by omega
      subst ep
      refine g_iload_n C dX6_castAll_4 rfl rfl ?_
      refine g_aload_n C dX6_castAll_5 rfl rfl ?_
      refine ge_Model_puppets C tw_5_90 (by exact gB.m) (by exact gB.n) dX6_castAll_6 ?_
      refine g_icmp_ge C dX6_castAll_9 (tgt := 57) (by decide) (fun c1 => ?_) (fun c1 => ?_)
      · refine g_bipush C dX6_castAll_57 (v := 8) (by decide) ?_
        refine g_naI C (show (8 : Int32) = nI 8 from rfl) (by omega) (by omega) (by omega) dX6_castAll_59 (fun nq hnq => ?_)
        refine g_astore_n C dX6_castAll_61 rfl (by decide) rfl ?_
        refine g_sub [(0, _), (1, _), (2, _)] ⟨rfl, rfl, rfl, trivial⟩ ?_
        exact half S' nq hF hK (fun p j s hp hs => hc p j hp (List.getElem?_eq_some_iff.mp hs).1) hnq
      · exact absurd (nI_le (Nat.le_refl _) (by omega)) c1
    | succ k ih =>
      intro p hp S' hF hK hc
      obtain ⟨gB, gP, g0, g1⟩ := get S' hK
      have hpN : p < tN B := by omega
      have hp40 := h40 p hpN
      have inner : ∀ (k s : Nat), s + k = lnC (ctB B) p → ∀ (S' : PS), FrM S S' m → Kp S S' m rr nF (fun g => g = 213) → (∀ p' j, p' < p → j < lnC (ctB B) p' → pR S' (rr 213) (40 * p' + j) = -1) → (∀ j, j < s → pR S' (rr 213) (40 * p + j) = -1) → GW Γ X S' 0 0 23 [(0, .ref m), (1, .int (nI (sum1 (lnC (ctB B)) (p + 1)))), (2, .int (nI p)), (3, .int (nI s))] [] := by
        intro k
        induction k with
        | zero =>
          intro s hs S' hF hK hc hc2
          obtain ⟨gB, gP, g0, g1⟩ := get S' hK
          refine g_iload_n C dX6_castAll_23 rfl rfl ?_
          refine g_aload_n C dX6_castAll_24 rfl rfl ?_
          refine ge_Model_manyStays C tw_5_107 (by exact gB.m) (by exact gB.f.r i_210) dX6_castAll_25 ?_
          refine g_iload_n C dX6_castAll_28 rfl rfl ?_
          refine g_ldI C rfl (gB.f.i i_210 rfl) (gB.f.lt i_210 (n := 8) rfl (by omega)) (by omega) (g0 p hpN) dX6_castAll_29 ?_
          refine g_icmp_ge C dX6_castAll_30 (tgt := 51) (by decide) (fun c1 => ?_) (fun c1 => ?_)
          · refine g_iinc C dX6_castAll_51 rfl (by first | exact inc1 _ | exact rfl) (by decide) rfl ?_
            refine g_goto C dX6_castAll_54 (tgt := 4) (by decide) ?_
            refine g_sub [(0, _), (1, _), (2, _)] ⟨rfl, rfl, rfl, trivial⟩ ?_
            refine ih (p + 1) (by omega) S' hF hK (fun p' j hp' hj => ?_)
            by_cases e : p' = p
            · rw [e]
              rw [e] at hj
              exact hc2 j (by omega)
            · exact hc p' j (by omega) hj
          · exact absurd (nI_le (by omega) (by omega)) c1
        | succ k ih2 =>
          intro s hs S' hF hK hc hc2
          obtain ⟨gB, gP, g0, g1⟩ := get S' hK
          refine g_iload_n C dX6_castAll_23 rfl rfl ?_
          refine g_aload_n C dX6_castAll_24 rfl rfl ?_
          refine ge_Model_manyStays C tw_5_107 (by exact gB.m) (by exact gB.f.r i_210) dX6_castAll_25 ?_
          refine g_iload_n C dX6_castAll_28 rfl rfl ?_
          refine g_ldI C rfl (gB.f.i i_210 rfl) (gB.f.lt i_210 (n := 8) rfl (by omega)) (by omega) (g0 p hpN) dX6_castAll_29 ?_
          refine g_icmp_ge C dX6_castAll_30 (tgt := 51) (by decide) (fun c1 => ?_) (fun c1 => ?_)
          · exact absurd c1 (nI_ge (by omega) (by omega))
          · refine g_aload_n C dX6_castAll_33 rfl rfl ?_
            refine ge_Model_cast C tw_5_110 (by exact gB.m) (by exact gB.f.r i_213) dX6_castAll_34 ?_
            refine g_bipush C dX6_castAll_37 (v := 40) (by decide) ?_
            refine g_iload_n C dX6_castAll_39 rfl rfl ?_
            refine g_imul C dX6_castAll_40 ?_
            refine g_iload_n C dX6_castAll_41 rfl rfl ?_
            refine g_iadd C dX6_castAll_42 ?_
            refine g_iconst C dX6_castAll_43 (v := -1) (by decide) ?_
            refine g_stI C (fix40 p s) (gB.f.i i_213 rfl) (gB.f.lt i_213 (n := 320) rfl (by omega)) (by omega) dX6_castAll_44 ?_
            refine g_iinc C dX6_castAll_45 rfl (by first | exact inc1 _ | exact rfl) (by decide) rfl ?_
            refine g_goto C dX6_castAll_48 (tgt := 23) (by decide) ?_
            refine g_sub [(0, _), (1, _), (2, _), (3, _)] ⟨rfl, rfl, rfl, rfl, trivial⟩ ?_
            refine ih2 (s + 1) (by omega) _ (hF.tr (FrM.r gB.f i_213)) (hK.tr (kp_uR gB.f i_213 rfl)) (fun p' j hp' hj => ?_) (fun j hj => ?_)
            · have := h40 p' (by omega)
              rw [uR_q, va_up_ne _ _ (by omega)]
              exact hc p' j hp' hj
            · rw [uR_q]
              by_cases e : j = s
              · rw [e, va_up_self]
              · rw [va_up_ne _ _ (by omega)]
                exact hc2 j (by omega)
      refine g_iload_n C dX6_castAll_4 rfl rfl ?_
      refine g_aload_n C dX6_castAll_5 rfl rfl ?_
      refine ge_Model_puppets C tw_5_90 (by exact gB.m) (by exact gB.n) dX6_castAll_6 ?_
      refine g_icmp_ge C dX6_castAll_9 (tgt := 57) (by decide) (fun c1 => ?_) (fun c1 => ?_)
      · exact absurd c1 (nI_ge hpN (by omega))
      · refine g_iload_n C dX6_castAll_12 rfl rfl ?_
        refine g_aload_n C dX6_castAll_13 rfl rfl ?_
        refine ge_Model_manyStays C tw_5_107 (by exact gB.m) (by exact gB.f.r i_210) dX6_castAll_14 ?_
        refine g_iload_n C dX6_castAll_17 rfl rfl ?_
        refine g_ldI C rfl (gB.f.i i_210 rfl) (gB.f.lt i_210 (n := 8) rfl (by omega)) (by omega) (g0 p hpN) dX6_castAll_18 ?_
        refine g_iadd C dX6_castAll_19 ?_
        rw [nI_add]
        refine g_istore_n C dX6_castAll_20 rfl (by decide) rfl ?_
        refine g_iconst C dX6_castAll_21 (v := 0) (by decide) ?_
        refine g_istore_n C dX6_castAll_22 rfl (by decide) rfl ?_
        refine g_sub [(0, _), (1, _), (2, _), (3, _)] ⟨rfl, rfl, rfl, rfl, trivial⟩ ?_
        exact inner (lnC (ctB B) p) 0 (by omega) S' hF hK hc (fun j hj => absurd hj (Nat.not_lt_zero j))
  refine g_iconst C dX6_castAll_0 (v := 0) (by decide) ?_
  refine g_istore_n C dX6_castAll_1 rfl (by decide) rfl ?_
  refine g_iconst C dX6_castAll_2 (v := 0) (by decide) ?_
  refine g_istore_n C dX6_castAll_3 rfl (by decide) rfl ?_
  refine g_sub [(0, _), (1, _), (2, _)] ⟨rfl, rfl, rfl, trivial⟩ ?_
  exact outer (tN B) 0 (by omega) S Fr.rf Kp.rf (fun p' j hp' => absurd hp' (Nat.not_lt_zero p'))
