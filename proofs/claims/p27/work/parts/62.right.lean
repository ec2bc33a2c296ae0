/-! ===== the law's own judgement of a puppet's cues ===== -/
theorem dat_get {cu : Nat → Nat × D4} {l : List Nat} {i c : Nat} (h : l[i]? = some c) : (dat cu l)[i]? = some (cu c).2 := by
  unfold dat
  rw [List.getElem?_map, h]
  rfl
theorem pA_some {e t fp tp fb tb : Nat} {d : D4} : pAllows (some (e, t, fp, tp, fb, tb)) d = true ↔ (d.1 ≠ 0 ∧ tb ≤ d.2.1 ∧ (d.1 = 1 → d.2.1 + ndist tp d.2.2.1 < 1000) ∧ (d.1 = 3 → e < d.2.1)) := by
  unfold pAllows
  by_cases h1 : d.1 = 1
  · simp [h1]
  · by_cases h3 : d.1 = 3
    · simp [h3]
    · simp [h1, h3]
theorem pA_none {d : D4} : pAllows none d = true ↔ d.1 = 0 := by
  unfold pAllows
  simp
theorem pA_no {p : PT} {d : D4} (h : ¬ pAllows p d = true) : pAllows p d = false := by simpa using h
/-- what the law's numbers say of where a puppet stands: entered, end, place -/
def PtS (p : PT) (en ed pl : Int32) : Prop := match p with
  | none => en = -1
  | some (e, _, _, tp, _, tb) => en = nI e ∧ ed = nI tb ∧ pl = nI tp ∧ e < 1000 ∧ tb < 1000 ∧ tp < 20
theorem l_areRight {Γ : GBase} (F : FB Γ) (S : PS) (p many cA : Nat) (u : Nat → Nat × D4) (hC : CuR S cA many u) (h40 : many ≤ 40) (hp8 : p < 8) : GMet Γ yL_areRight cL_areRight 10 ((some FieldType.boolean)) 2 1 41 [.int (nI p), .int (nI many), .ref cA] S (fun r S' => Fr S S' moN maN ∧ ∃ l, isScr u (fun _ => false) many p l ∧ ∃ v, isB v (okL none (dat u l) = true) ∧ r = some (.int v)) noX := by
  refine GMet.of (loc0 := [(0, .int (nI p)), (1, .int (nI many)), (2, .ref cA)]) F (by decide +kernel) rfl (Nat.le_of_ble_eq_true rfl) (fun X C R Tb nm => ?_)
  refine g_iload_n C dL_areRight_0 rfl rfl ?_
  refine g_iload_n C dL_areRight_1 rfl rfl ?_
  refine g_aload_n C dL_areRight_2 rfl rfl ?_
  refine g_callS C gy_L_order tw_3_172 tw_3_173 (by decide) (l_order F S p many cA u hC h40 hp8) rfl rfl (Nat.le_of_ble_eq_true rfl) (by omega) (by omega) dL_areRight_3 (fun _ _ h9 => h9.elim) ?_
  rintro _ _ ⟨q, l, rfl, hF, hq8, hqN, hl, hr0, hr⟩
  rename_i S1
  have hC1 : CuR S1 cA many u := hC.fr hF id
  obtain ⟨hc8, hcN, hcu⟩ := id hC1
  have hlen := hl.len
  have hlc : ∀ i c, l[i]? = some c → c < many := fun i c h => ((hl.2 c).mp (List.mem_of_getElem? h)).1
  have bad : ∀ (i : Nat) (d : D4), (dat u l)[i]? = some d → pAllows (pth none ((dat u l).take i)) d = false → isB 0 (okL none (dat u l) = true) := fun i d h1 h2 => Or.inr ⟨rfl, fun h => by rw [okL_stop _ _ i d h1 h2] at h; cases h⟩
  have loop : ∀ (m i : Nat) (en ed pl : Int32), i + m = l.length → (∀ j d, j < i → (dat u l)[j]? = some d → pAllows (pth none ((dat u l).take j)) d = true) → PtS (pth none ((dat u l).take i)) en ed pl → GW Γ X S1 1 41 19 [(0, .int (nI p)), (1, .int (nI many)), (2, .ref cA), (3, .ref q), (4, .int en), (5, .int ed), (6, .int pl), (7, .int (nI (i + 1)))] [] := by
    intro m
    induction m with
    | zero =>
      intro i en ed pl hi hal hS
      refine g_iload C dL_areRight_19 rfl ?_
      refine g_aload_n C dL_areRight_21 rfl rfl ?_
      refine g_iconst C dL_areRight_22 (v := 0) (by decide) ?_
      refine g_ldI C i0 hq8 (by rw [hqN]; decide) (by decide) hr0 dL_areRight_23 ?_
      refine g_icmp_gt C dL_areRight_24 (tgt := 180) (by decide) (fun c1 => ?_) (fun c1 => ?_)
      · refine g_iconst C dL_areRight_180 (v := 1) (by decide) ?_
        refine g_iret C R rfl (by omega) (by omega) dL_areRight_181 ?_
        refine ⟨hF, l, hl, 1, Or.inl ⟨rfl, okL_all _ _ (fun j d hj => hal j d ?_ hj)⟩, rfl⟩
        have := (List.getElem?_eq_some_iff.mp hj).1
        simp [dat] at this
        omega
      · exact absurd (nI_lt (by omega) (by omega)) c1
    | succ m ih =>
      intro i en ed pl hi hal hS
      obtain ⟨c, hc⟩ : ∃ c, l[i]? = some c := ⟨_, List.getElem?_eq_getElem (by omega)⟩
      have hcm := hlc i c hc
      have hd := dat_get (cu := u) hc
      obtain ⟨⟨v0, -, v2, -⟩, v3, ⟨hd1, hd2, hd3, hd4⟩, -⟩ := hcu c hcm
      obtain ⟨P, hP⟩ : ∃ P, P = pth none ((dat u l).take i) := ⟨_, rfl⟩
      have hnext : pth none ((dat u l).take (i + 1)) = pFollow P (u c).2 := by rw [hP]; exact pth_succ none hd
      rw [← hP] at hS
      have next : ∀ (en ed pl : Int32), pAllows P (u c).2 = true → PtS (pFollow P (u c).2) en ed pl → GW Γ X S1 1 41 174 [(0, .int (nI p)), (1, .int (nI many)), (2, .ref cA), (3, .ref q), (4, .int en), (5, .int ed), (6, .int pl), (7, .int (nI (i + 1)))] [] := by
        intro en ed pl ha hS'
        refine g_iinc C dL_areRight_174 rfl (by first | exact inc1 _ | exact rfl) (by decide) rfl ?_
        refine g_goto C dL_areRight_177 (tgt := 19) (by decide) ?_
        refine g_sub [(0, _), (1, _), (2, _), (3, _), (4, _), (5, _), (6, _), (7, _)] ⟨rfl, rfl, rfl, rfl, rfl, rfl, rfl, rfl, trivial⟩ ?_
        refine ih (i + 1) en ed pl (by omega) (fun j d' hj hd' => ?_) (by rw [hnext]; exact hS')
        by_cases e : j = i
        · subst e
          have e2 : d' = (u c).2 := Option.some.inj (hd'.symm.trans hd)
          rw [e2, ← hP]; exact ha
        · exact hal j d' (by omega) hd'
      have stop : ¬ pAllows P (u c).2 = true → Fr S S1 moN maN ∧ ∃ l, isScr u (fun _ => false) many p l ∧ ∃ v, isB v (okL none (dat u l) = true) ∧ some (Value.int 0) = some (Value.int v) := fun hn => ⟨hF, l, hl, 0, bad i _ hd (by rw [← hP]; exact pA_no hn), rfl⟩
      have i6 : 6 * c + 5 < 246 := by omega
      refine g_iload C dL_areRight_19 rfl ?_
      refine g_aload_n C dL_areRight_21 rfl rfl ?_
      refine g_iconst C dL_areRight_22 (v := 0) (by decide) ?_
      refine g_ldI C i0 hq8 (by rw [hqN]; decide) (by decide) hr0 dL_areRight_23 ?_
      refine g_icmp_gt C dL_areRight_24 (tgt := 180) (by decide) (fun c1 => ?_) (fun c1 => ?_)
      · exact absurd c1 (nI_nlt (by omega) (by omega))
      · refine g_bipush C dL_areRight_27 (v := 6) (by decide) ?_
        refine g_aload_n C dL_areRight_29 rfl rfl ?_
        refine g_iload C dL_areRight_30 rfl ?_
        refine g_ldI C rfl hq8 (by rw [hqN]; omega) (by omega) (hr i c hc) dL_areRight_32 ?_
        refine g_imul C dL_areRight_33 ?_
        rw [ix6_0]
        refine g_istore C dL_areRight_34 (by decide) rfl ?_
        refine g_aload_n C dL_areRight_36 rfl rfl ?_
        refine g_iload C dL_areRight_37 rfl ?_
        refine g_iconst C dL_areRight_39 (v := 2) (by decide) ?_
        refine g_iadd C dL_areRight_40 ?_
        refine g_ldI C (ix_2 _) hc8 (by rw [hcN]; omega) (by omega) v2 dL_areRight_41 ?_
        refine g_istore C dL_areRight_42 (by decide) rfl ?_
        refine g_aload_n C dL_areRight_44 rfl rfl ?_
        refine g_iload C dL_areRight_45 rfl ?_
        refine g_ldI C rfl hc8 (by rw [hcN]; omega) (by omega) v0 dL_areRight_47 ?_
        refine g_if_ne C dL_areRight_48 (tgt := 77) (by decide) (fun c2 => ?_) (fun c2 => ?_)
        · have k0 : (u c).2.1 ≠ 0 := fun h => c2 (by rw [h]; rfl)
          rcases P with _ | ⟨e, t, fp, tp, fb, tb⟩
          · have hS : en = -1 := hS
            rw [hS]
            refine g_iload C dL_areRight_77 rfl ?_
            refine g_if_lt C dL_areRight_79 (tgt := 89) (by decide) (fun c3 => ?_) (fun c3 => ?_)
            · refine g_iconst C dL_areRight_89 (v := 0) (by decide) ?_
              refine g_iret C R rfl (by omega) (by omega) dL_areRight_90 ?_
              exact stop (fun ha => k0 (pA_none.mp ha))
            · exact absurd (by decide) c3
          · obtain ⟨s1, s2, s3, s4, s5, s6⟩ := hS
            rw [s1, s2, s3]
            refine g_iload C dL_areRight_77 rfl ?_
            refine g_if_lt C dL_areRight_79 (tgt := 89) (by decide) (fun c3 => ?_) (fun c3 => ?_)
            · exact absurd c3 (nI_pos (by omega))
            · refine g_iload C dL_areRight_82 rfl ?_
              refine g_iload C dL_areRight_84 rfl ?_
              refine g_icmp_ge C dL_areRight_86 (tgt := 91) (by decide) (fun c4 => ?_) (fun c4 => ?_)
              · have h4 : tb ≤ (u c).2.2.1 := (nI_leI (by omega) (by omega)).mp c4
                have at154 : ∀ (ed pl : Int32), (u c).2.1 ≠ 3 → (pAllows (some (e, t, fp, tp, fb, tb)) (u c).2 = true ∧ PtS (pFollow (some (e, t, fp, tp, fb, tb)) (u c).2) (nI e) ed pl) → GW Γ X S1 1 41 154 [(0, .int (nI p)), (1, .int (nI many)), (2, .ref cA), (3, .ref q), (4, .int (nI e)), (5, .int ed), (6, .int pl), (7, .int (nI (i + 1))), (8, .int (nI (6 * c))), (9, .int (nI (u c).2.2.1))] [] := by
                  intro ed pl k3 h
                  refine g_aload_n C dL_areRight_154 rfl rfl ?_
                  refine g_iload C dL_areRight_155 rfl ?_
                  refine g_ldI C rfl hc8 (by rw [hcN]; omega) (by omega) v0 dL_areRight_157 ?_
                  refine g_iconst C dL_areRight_158 (v := 3) (by decide) ?_
                  refine g_icmp_ne C dL_areRight_159 (tgt := 174) (by decide) (fun c5 => ?_) (fun c5 => ?_)
                  · refine g_sub [(0, _), (1, _), (2, _), (3, _), (4, _), (5, _), (6, _), (7, _)] ⟨rfl, rfl, rfl, rfl, rfl, rfl, rfl, rfl, trivial⟩ ?_
                    exact next _ _ _ h.1 h.2
                  · exact absurd ((nI_eq (b := 3) (by omega) (by omega)).mp c5) k3
                refine g_aload_n C dL_areRight_91 rfl rfl ?_
                refine g_iload C dL_areRight_92 rfl ?_
                refine g_ldI C rfl hc8 (by rw [hcN]; omega) (by omega) v0 dL_areRight_94 ?_
                refine g_iconst C dL_areRight_95 (v := 1) (by decide) ?_
                refine g_icmp_ne C dL_areRight_96 (tgt := 154) (by decide) (fun c5 => ?_) (fun c5 => ?_)
                · have k1 : (u c).2.1 ≠ 1 := fun h => c5 (by rw [h]; rfl)
                  by_cases k3 : (u c).2.1 = 3
                  · refine g_aload_n C dL_areRight_154 rfl rfl ?_
                    refine g_iload C dL_areRight_155 rfl ?_
                    refine g_ldI C rfl hc8 (by rw [hcN]; omega) (by omega) v0 dL_areRight_157 ?_
                    refine g_iconst C dL_areRight_158 (v := 3) (by decide) ?_
                    refine g_icmp_ne C dL_areRight_159 (tgt := 174) (by decide) (fun c6 => ?_) (fun c6 => ?_)
                    · exact absurd (by rw [k3]; rfl) c6
                    · refine g_iload C dL_areRight_162 rfl ?_
                      refine g_iload C dL_areRight_164 rfl ?_
                      refine g_icmp_gt C dL_areRight_166 (tgt := 171) (by decide) (fun c7 => ?_) (fun c7 => ?_)
                      · have h7 : e < (u c).2.2.1 := (nI_ltI (by omega) (by omega)).mp c7
                        refine g_iconst C dL_areRight_171 (v := -1) (by decide) ?_
                        refine g_istore C dL_areRight_172 (by decide) rfl ?_
                        refine g_sub [(0, _), (1, _), (2, _), (3, _), (4, _), (5, _), (6, _), (7, _)] ⟨rfl, rfl, rfl, rfl, rfl, rfl, rfl, rfl, trivial⟩ ?_
                        refine next _ _ _ (pA_some.mpr ⟨k0, h4, fun h => absurd h k1, fun _ => h7⟩) ?_
                        rw [show pFollow (some (e, t, fp, tp, fb, tb)) (u c).2 = none by simp [pFollow, k3]]
                        rfl
                      · refine g_iconst C dL_areRight_169 (v := 0) (by decide) ?_
                        refine g_iret C R rfl (by omega) (by omega) dL_areRight_170 ?_
                        exact stop (fun ha => c7 (nI_lt ((pA_some.mp ha).2.2.2 k3) (by omega)))
                  · have k2 : (u c).2.1 = 2 := by omega
                    refine g_sub [(0, _), (1, _), (2, _), (3, _), (4, _), (5, _), (6, _), (7, _), (8, _), (9, _)] ⟨rfl, rfl, rfl, rfl, rfl, rfl, rfl, rfl, rfl, rfl, trivial⟩ ?_
                    refine at154 _ _ k3 ⟨pA_some.mpr ⟨k0, h4, fun h => absurd h k1, fun h => absurd h k3⟩, ?_⟩
                    rw [show pFollow (some (e, t, fp, tp, fb, tb)) (u c).2 = some (e, (u c).2.2.2.2, fp, tp, fb, tb) by simp [pFollow, k2]]
                    exact ⟨rfl, rfl, rfl, s4, s5, s6⟩
                · have k1 : (u c).2.1 = 1 := (nI_eq (b := 1) (by omega) (by omega)).mp c5
                  have h20 := hd3 (by omega)
                  have v3' := v3 (by omega)
                  have hdl := ndist_le s6 h20
                  have at133 : GW Γ X S1 1 41 133 [(0, .int (nI p)), (1, .int (nI many)), (2, .ref cA), (3, .ref q), (4, .int (nI e)), (5, .int (nI tb)), (6, .int (nI tp)), (7, .int (nI (i + 1))), (8, .int (nI (6 * c))), (9, .int (nI (u c).2.2.1))] [.int (nI (ndist tp (u c).2.2.2.1)), .int (nI (u c).2.2.1)] := by
                    refine g_iadd C dL_areRight_133 ?_
                    rw [nI_add]
                    refine g_istore C dL_areRight_134 (by decide) rfl ?_
                    refine g_aload_n C dL_areRight_136 rfl rfl ?_
                    refine g_iload C dL_areRight_137 rfl ?_
                    refine g_iconst C dL_areRight_139 (v := 3) (by decide) ?_
                    refine g_iadd C dL_areRight_140 ?_
                    refine g_ldI C (ix_3 _) hc8 (by rw [hcN]; omega) (by omega) v3' dL_areRight_141 ?_
                    refine g_istore C dL_areRight_142 (by decide) rfl ?_
                    refine g_iload C dL_areRight_144 rfl ?_
                    refine g_sipush C dL_areRight_146 (v := 999) (by decide) ?_
                    rw [show (999 : Int32) = nI 999 from rfl]
                    refine g_icmp_le C dL_areRight_149 (tgt := 154) (by decide) (fun c7 => ?_) (fun c7 => ?_)
                    · have h7 : (u c).2.2.1 + ndist tp (u c).2.2.2.1 ≤ 999 := (nI_leI (by omega) (by omega)).mp c7
                      refine g_sub [(0, _), (1, _), (2, _), (3, _), (4, _), (5, _), (6, _), (7, _), (8, _), (9, _)] ⟨rfl, rfl, rfl, rfl, rfl, rfl, rfl, rfl, rfl, rfl, trivial⟩ ?_
                      refine at154 _ _ (by omega) ⟨pA_some.mpr ⟨k0, h4, fun _ => by omega, fun h => by omega⟩, ?_⟩
                      rw [show pFollow (some (e, t, fp, tp, fb, tb)) (u c).2 = some (e, t, tp, (u c).2.2.2.1, (u c).2.2.1, (u c).2.2.1 + ndist tp (u c).2.2.2.1) by simp [pFollow, k1]]
                      exact ⟨rfl, rfl, rfl, s4, by omega, h20⟩
                    · refine g_iconst C dL_areRight_152 (v := 0) (by decide) ?_
                      refine g_iret C R rfl (by omega) (by omega) dL_areRight_153 ?_
                      exact stop (fun ha => c7 (nI_le (by have := (pA_some.mp ha).2.2.1 k1; omega) (by omega)))
                  refine g_iload C dL_areRight_99 rfl ?_
                  refine g_iload C dL_areRight_101 rfl ?_
                  refine g_aload_n C dL_areRight_103 rfl rfl ?_
                  refine g_iload C dL_areRight_104 rfl ?_
                  refine g_iconst C dL_areRight_106 (v := 3) (by decide) ?_
                  refine g_iadd C dL_areRight_107 ?_
                  refine g_ldI C (ix_3 _) hc8 (by rw [hcN]; omega) (by omega) v3' dL_areRight_108 ?_
                  refine g_icmp_le C dL_areRight_109 (tgt := 124) (by decide) (fun c6 => ?_) (fun c6 => ?_)
                  · have h6 : tp ≤ (u c).2.2.2.1 := (nI_leI (by omega) (by omega)).mp c6
                    refine g_aload_n C dL_areRight_124 rfl rfl ?_
                    refine g_iload C dL_areRight_125 rfl ?_
                    refine g_iconst C dL_areRight_127 (v := 3) (by decide) ?_
                    refine g_iadd C dL_areRight_128 ?_
                    refine g_ldI C (ix_3 _) hc8 (by rw [hcN]; omega) (by omega) v3' dL_areRight_129 ?_
                    refine g_iload C dL_areRight_130 rfl ?_
                    refine g_isub C dL_areRight_132 ?_
                    rw [pk_sub h6, show (u c).2.2.2.1 - tp = ndist tp (u c).2.2.2.1 by unfold ndist; rw [if_pos h6]]
                    refine g_sub [(0, _), (1, _), (2, _), (3, _), (4, _), (5, _), (6, _), (7, _), (8, _), (9, _)] ⟨rfl, rfl, rfl, rfl, rfl, rfl, rfl, rfl, rfl, rfl, trivial⟩ ?_
                    exact at133
                  · have h6 : (u c).2.2.2.1 < tp := by
                      rcases Nat.lt_or_ge (u c).2.2.2.1 tp with w | w
                      · exact w
                      · exact absurd (nI_le w (by omega)) c6
                    refine g_iload C dL_areRight_112 rfl ?_
                    refine g_aload_n C dL_areRight_114 rfl rfl ?_
                    refine g_iload C dL_areRight_115 rfl ?_
                    refine g_iconst C dL_areRight_117 (v := 3) (by decide) ?_
                    refine g_iadd C dL_areRight_118 ?_
                    refine g_ldI C (ix_3 _) hc8 (by rw [hcN]; omega) (by omega) v3' dL_areRight_119 ?_
                    refine g_isub C dL_areRight_120 ?_
                    rw [pk_sub (by omega), show tp - (u c).2.2.2.1 = ndist tp (u c).2.2.2.1 by unfold ndist; rw [if_neg (by omega)]]
                    refine g_goto C dL_areRight_121 (tgt := 133) (by decide) ?_
                    refine g_sub [(0, _), (1, _), (2, _), (3, _), (4, _), (5, _), (6, _), (7, _), (8, _), (9, _)] ⟨rfl, rfl, rfl, rfl, rfl, rfl, rfl, rfl, rfl, rfl, trivial⟩ ?_
                    exact at133
              · refine g_iconst C dL_areRight_89 (v := 0) (by decide) ?_
                refine g_iret C R rfl (by omega) (by omega) dL_areRight_90 ?_
                exact stop (fun ha => c4 (nI_le (pA_some.mp ha).2.1 (by omega)))
        · have k0 : (u c).2.1 = 0 := (nI_eq (b := 0) (by omega) (by omega)).mp c2
          have h20 := hd3 (by omega)
          have v3' := v3 (by omega)
          rcases P with _ | ⟨e, t, fp, tp, fb, tb⟩
          · have hS : en = -1 := hS
            rw [hS]
            refine g_iload C dL_areRight_51 rfl ?_
            refine g_if_lt C dL_areRight_53 (tgt := 58) (by decide) (fun c3 => ?_) (fun c3 => ?_)
            · refine g_iload C dL_areRight_58 rfl ?_
              refine g_istore C dL_areRight_60 (by decide) rfl ?_
              refine g_aload_n C dL_areRight_62 rfl rfl ?_
              refine g_iload C dL_areRight_63 rfl ?_
              refine g_iconst C dL_areRight_65 (v := 3) (by decide) ?_
              refine g_iadd C dL_areRight_66 ?_
              refine g_ldI C (ix_3 _) hc8 (by rw [hcN]; omega) (by omega) v3' dL_areRight_67 ?_
              refine g_istore C dL_areRight_68 (by decide) rfl ?_
              refine g_iload C dL_areRight_70 rfl ?_
              refine g_istore C dL_areRight_72 (by decide) rfl ?_
              refine g_goto C dL_areRight_74 (tgt := 174) (by decide) ?_
              refine g_sub [(0, _), (1, _), (2, _), (3, _), (4, _), (5, _), (6, _), (7, _)] ⟨rfl, rfl, rfl, rfl, rfl, rfl, rfl, rfl, trivial⟩ ?_
              refine next _ _ _ (pA_none.mpr k0) ?_
              rw [show pFollow none (u c).2 = some ((u c).2.2.1, (u c).2.2.2.2, (u c).2.2.2.1, (u c).2.2.2.1, (u c).2.2.1, (u c).2.2.1) by simp [pFollow, k0]]
              exact ⟨rfl, rfl, rfl, hd2, hd2, h20⟩
            · exact absurd (by decide) c3
          · obtain ⟨s1, s2, s3, s4, s5, s6⟩ := hS
            rw [s1]
            refine g_iload C dL_areRight_51 rfl ?_
            refine g_if_lt C dL_areRight_53 (tgt := 58) (by decide) (fun c3 => ?_) (fun c3 => ?_)
            · exact absurd c3 (nI_pos (by omega))
            · refine g_iconst C dL_areRight_56 (v := 0) (by decide) ?_
              refine g_iret C R rfl (by omega) (by omega) dL_areRight_57 ?_
              exact stop (fun ha => (pA_some.mp ha).1 k0)
  refine g_astore_n C dL_areRight_6 rfl (by decide) rfl ?_
  refine g_iconst C dL_areRight_7 (v := -1) (by decide) ?_
  refine g_istore C dL_areRight_8 (by decide) rfl ?_
  refine g_iconst C dL_areRight_10 (v := 0) (by decide) ?_
  refine g_istore C dL_areRight_11 (by decide) rfl ?_
  refine g_iconst C dL_areRight_13 (v := 0) (by decide) ?_
  refine g_istore C dL_areRight_14 (by decide) rfl ?_
  refine g_iconst C dL_areRight_16 (v := 1) (by decide) ?_
  rw [i1]
  refine g_istore C dL_areRight_17 (by decide) rfl ?_
  refine g_sub [(0, _), (1, _), (2, _), (3, _), (4, _), (5, _), (6, _), (7, _)] ⟨rfl, rfl, rfl, rfl, rfl, rfl, rfl, rfl, trivial⟩ ?_
  exact loop l.length 0 _ _ _ (by omega) (fun j d hj => absurd hj (Nat.not_lt_zero j)) rfl
