theorem dat_get {cu : Nat → Nat × D4} {l : List Nat} {i c : Nat} (h : l[i]? = some c) : (dat cu l)[i]? = some (cu c).2 := by
  unfold dat
  rw [List.getElem?_map, h]
  rfl
theorem tix (c w : Nat) : (5 : Int32) * nI c + nI w = nI (5 * c + w) := by
  rw [show (5 : Int32) = nI 5 from rfl, pk_mul, nI_add]
theorem tix1 (c : Nat) : (5 : Int32) * nI c + 1 = nI (5 * c + 1) := tix c 1
theorem tix3 (c : Nat) : (5 : Int32) * nI c + 3 = nI (5 * c + 3) := tix c 3
theorem tix4 (c : Nat) : (5 : Int32) * nI c + 4 = nI (5 * c + 4) := tix c 4
theorem cueW_3 {u : Nat × D4} (h : u.2.1 ≤ 1) : cueW u 3 = nI u.2.2.2.1 := by simp [cueW, h]
theorem cueW_4 {u : Nat × D4} (h : u.2.1 = 0 ∨ u.2.1 = 2) : cueW u 4 = nI u.2.2.2.2 := by simp [cueW, h]
theorem pA_some {e t fp tp fb tb : Nat} {d : D4} : pAllows (some (e, t, fp, tp, fb, tb)) d = true ↔ (d.1 ≠ 0 ∧ tb ≤ d.2.1 ∧ (d.1 = 1 → d.2.1 + ndist tp d.2.2.1 < 1000) ∧ (d.1 = 3 → e < d.2.1)) := by
  unfold pAllows
  by_cases h1 : d.1 = 1
  · simp [h1]
  · by_cases h3 : d.1 = 3
    · simp [h3]
    · simp [h1, h3]
theorem pA_none {d : D4} : pAllows none d = true ↔ d.1 = 0 := by
  unfold pAllows
  simp
theorem pA_no {p : PT} {d : D4} (h : ¬ pAllows p d = true) : pAllows p d = false := by simpa using h
theorem md_areRight {Γ : GBase} (F : FB Γ) (S : PS) (m p nc : Nat) (rw' : Nat → Nat) (cu : Nat → Nat × D4) (sk : Nat → Bool) (l : List Nat) (hM : MdF S m rw') (hT : TabV S m rw' nc cu sk) (hp : p < 8) (hl : isScr cu sk nc p l) : GMet Γ yX6_areRight cX6_areRight 7 ((some FieldType.boolean)) 3 0 0 [.ref m, .int (nI p)] S (fun r S' => S = S' ∧ ∃ v, isB v (okL none (dat cu l) = true) ∧ r = some (.int v)) noX := by
  have h40 := hT.2.1
  have r0 : isRw 200 := by unfold isRw; omega
  have hlc : ∀ i c, l[i]? = some c → c < nc := fun i c h => ((hl.2 c).mp (List.mem_of_getElem? h)).1
  refine GMet.of (loc0 := [(0, .ref m), (1, .int (nI p))]) F (by decide +kernel) rfl (Nat.le_of_ble_eq_true rfl) (fun X C R Tb nm => ?_)
  have bad : ∀ {loc : List (Nat × Value)} (i : Nat) (d : D4), (dat cu l)[i]? = some d → pAllows (pth none ((dat cu l).take i)) d = false → isB 0 (okL none (dat cu l) = true) := fun i d h1 h2 => Or.inr ⟨rfl, fun h => by rw [okL_stop _ _ i d h1 h2] at h; cases h⟩
  have loop : ∀ (k i : Nat) (on en fr pl : Int32), i + k = l.length → (∀ j d, j < i → (dat cu l)[j]? = some d → pAllows (pth none ((dat cu l).take j)) d = true) → PthS (pth none ((dat cu l).take i)) on en fr pl → GW Γ X S 0 0 18 [(0, .ref m), (1, .int (nI p)), (2, .int on), (3, .int en), (4, .int fr), (5, .int pl), (6, .int (zO l[i]?))] [] := by
    intro k
    induction k with
    | zero =>
      intro i on en fr pl hi hal hS
      have e0 : l[i]? = none := List.getElem?_eq_none (by omega)
      rw [e0]
      refine g_iload C dX6_areRight_18 rfl ?_
      refine g_iconst C dX6_areRight_20 (v := -1) (by decide) ?_
      refine g_icmp_eq C dX6_areRight_21 (tgt := 196) (by decide) (fun c1 => ?_) (fun c1 => ?_)
      · refine g_iconst C dX6_areRight_196 (v := 1) (by decide) ?_
        refine g_iret C R rfl (by omega) (by omega) dX6_areRight_197 ?_
        refine ⟨rfl, 1, Or.inl ⟨rfl, okL_all _ _ (fun j d hj => hal j d ?_ hj)⟩, rfl⟩
        have := (List.getElem?_eq_some_iff.mp hj).1
        simp [dat] at this
        omega
      · exact absurd rfl c1
    | succ k ih =>
      intro i on en fr pl hi hal hS
      obtain ⟨c, hc⟩ : ∃ c, l[i]? = some c := ⟨_, List.getElem?_eq_getElem (by omega)⟩
      have hcn := hlc i c hc
      have hd := dat_get (cu := cu) hc
      obtain ⟨⟨hd1, hd2, hd3, hd4⟩, _, _⟩ := hT.2.2.1 c hcn
      obtain ⟨P, hP⟩ : ∃ P, P = pth none ((dat cu l).take i) := ⟨_, rfl⟩
      have hnext : pth none ((dat cu l).take (i + 1)) = pFollow P (cu c).2 := by rw [hP]; exact pth_succ none hd
      rw [← hP] at hS
      rw [hc, show zO (some c) = nI c from rfl]
      have next : ∀ (on en fr pl : Int32), pAllows P (cu c).2 = true → PthS (pFollow P (cu c).2) on en fr pl → GW Γ X S 0 0 184 [(0, .ref m), (1, .int (nI p)), (2, .int on), (3, .int en), (4, .int fr), (5, .int pl), (6, .int (nI c))] [] := by
        intro on en fr pl ha hS'
        refine g_aload_n C dX6_areRight_184 rfl rfl ?_
        refine g_iload_n C dX6_areRight_185 rfl rfl ?_
        refine g_iload C dX6_areRight_186 rfl ?_
        refine g_callV C gy_X6_behind tw_5_199 tw_5_201 ts_31 (by decide) (kk := 6) rfl rfl (by exact hM.1) (md_behind F S m p nc (some c) rw' cu sk hM hT hp (fun o ho => by cases ho; exact hcn)) rfl rfl (Nat.le_of_ble_eq_true rfl) (by omega) (by omega) dX6_areRight_188 (fun _ _ h9 => h9.elim) ?_
        rintro _ _ ⟨rfl, o, hB, rfl⟩
        have eo := best_next (by omega) hl hc hB
        rw [eo]
        refine g_istore C dX6_areRight_191 (by decide) rfl ?_
        refine g_goto C dX6_areRight_193 (tgt := 18) (by decide) ?_
        refine g_sub [(0, _), (1, _), (2, _), (3, _), (4, _), (5, _), (6, _)] ⟨rfl, rfl, rfl, rfl, rfl, rfl, rfl, trivial⟩ ?_
        refine ih (i + 1) on en fr pl (by omega) (fun j d' hj hd' => ?_) (by rw [hnext]; exact hS')
        by_cases e : j = i
        · subst e
          have e2 : d' = (cu c).2 := Option.some.inj (hd'.symm.trans hd)
          rw [e2, ← hP]; exact ha
        · exact hal j d' (by omega) hd'
      have no : ¬ pAllows P (cu c).2 = true → GW Γ X S 0 0 57 [(0, .ref m), (1, .int (nI p)), (2, .int on), (3, .int en), (4, .int fr), (5, .int pl), (6, .int (nI c))] [] := by
        intro hn
        refine g_iconst C dX6_areRight_57 (v := 0) (by decide) ?_
        refine g_iret C R rfl (by omega) (by omega) dX6_areRight_58 ?_
        exact ⟨rfl, 0, bad (loc := []) i _ hd (by rw [← hP]; exact pA_no hn), rfl⟩
      have stop : ¬ pAllows P (cu c).2 = true → isB 0 (okL none (dat cu l) = true) := fun hn => bad (loc := []) i _ hd (by rw [← hP]; exact pA_no hn)
      have at59 : (P = none → (cu c).2.1 = 0) → (∀ e t fp tp fb tb, P = some (e, t, fp, tp, fb, tb) → (cu c).2.1 ≠ 0 ∧ tb ≤ (cu c).2.2.1) → GW Γ X S 0 0 59 [(0, .ref m), (1, .int (nI p)), (2, .int on), (3, .int en), (4, .int fr), (5, .int pl), (6, .int (nI c))] [] := by
        intro g1 g2
        refine g_aload_n C dX6_areRight_59 rfl rfl ?_
        refine g_iload C dX6_areRight_60 rfl ?_
        refine g_callV C gy_X6_kind tw_5_211 tw_5_213 ts_34 (by decide) (kk := 6) rfl rfl (by exact hM.1) (md_kind F S m c nc rw' cu sk hM hT hcn) rfl rfl (Nat.le_of_ble_eq_true rfl) (by omega) (by omega) dX6_areRight_62 (fun _ _ h9 => h9.elim) ?_
        rintro _ _ ⟨rfl, rfl⟩
        refine g_if_ne C dX6_areRight_65 (tgt := 101) (by decide) (fun d1 => ?_) (fun d1 => ?_)
        · have k0 : (cu c).2.1 ≠ 0 := fun h => d1 (by rw [h]; rfl)
          rcases P with _ | ⟨e, t, fp, tp, fb, tb⟩
          · exact absurd (g1 rfl) k0
          · obtain ⟨s1, s2, s3, s4, s5, s6, s7⟩ := hS
            have g := g2 _ _ _ _ _ _ rfl
            refine g_aload_n C dX6_areRight_101 rfl rfl ?_
            refine g_iload C dX6_areRight_102 rfl ?_
            refine g_callV C gy_X6_kind tw_5_211 tw_5_213 ts_34 (by decide) (kk := 6) rfl rfl (by exact hM.1) (md_kind F S m c nc rw' cu sk hM hT hcn) rfl rfl (Nat.le_of_ble_eq_true rfl) (by omega) (by omega) dX6_areRight_104 (fun _ _ h9 => h9.elim) ?_
            rintro _ _ ⟨rfl, rfl⟩
            refine g_iconst C dX6_areRight_107 (v := 1) (by decide) ?_
            refine g_icmp_ne C dX6_areRight_108 (tgt := 160) (by decide) (fun d2 => ?_) (fun d2 => ?_)
            · have k1 : (cu c).2.1 ≠ 1 := fun h => d2 (by rw [h]; rfl)
              refine g_aload_n C dX6_areRight_160 rfl rfl ?_
              refine g_iload C dX6_areRight_161 rfl ?_
              refine g_callV C gy_X6_kind tw_5_211 tw_5_213 ts_34 (by decide) (kk := 6) rfl rfl (by exact hM.1) (md_kind F S m c nc rw' cu sk hM hT hcn) rfl rfl (Nat.le_of_ble_eq_true rfl) (by omega) (by omega) dX6_areRight_163 (fun _ _ h9 => h9.elim) ?_
              rintro _ _ ⟨rfl, rfl⟩
              refine g_iconst C dX6_areRight_166 (v := 3) (by decide) ?_
              refine g_icmp_ne C dX6_areRight_167 (tgt := 184) (by decide) (fun d3 => ?_) (fun d3 => ?_)
              · have k3 : (cu c).2.1 ≠ 3 := fun h => d3 (by rw [h]; rfl)
                have k2 : (cu c).2.1 = 2 := by omega
                refine next _ _ _ _ (pA_some.mpr ⟨k0, g.2, fun h => absurd h k1, fun h => absurd h k3⟩) ?_
                rw [show pFollow (some (e, t, fp, tp, fb, tb)) (cu c).2 = some (e, (cu c).2.2.2.2, fp, tp, fb, tb) by simp [pFollow, k2]]
                exact ⟨s1, s2, s3, s4, s5, s6, s7⟩
              · have k3 : (cu c).2.1 = 3 := (nI_eq (by omega) (by omega)).mp d3
                refine g_aload_n C dX6_areRight_170 rfl rfl ?_
                refine g_iload C dX6_areRight_171 rfl ?_
                refine g_callV C gy_X6_beat tw_5_207 tw_5_209 ts_33 (by decide) (kk := 6) rfl rfl (by exact hM.1) (md_beat F S m c nc rw' cu sk hM hT hcn) rfl rfl (Nat.le_of_ble_eq_true rfl) (by omega) (by omega) dX6_areRight_173 (fun _ _ h9 => h9.elim) ?_
                rintro _ _ ⟨rfl, rfl⟩
                refine g_iload_n C dX6_areRight_176 rfl rfl ?_
                refine g_icmp_ne C dX6_areRight_177 (tgt := 182) (by decide) (fun d4 => ?_) (fun d4 => ?_)
                · have hlt : e < (cu c).2.2.1 := by
                    have := g.2
                    rcases Nat.lt_or_ge e (cu c).2.2.1 with w | w
                    · exact w
                    · exact absurd (by rw [s2, show (cu c).2.2.1 = e by omega]) d4
                  refine g_iconst C dX6_areRight_182 (v := 0) (by decide) ?_
                  refine g_istore_n C dX6_areRight_183 rfl (by decide) rfl ?_
                  refine g_sub [(0, _), (1, _), (2, _), (3, _), (4, _), (5, _), (6, _)] ⟨rfl, rfl, rfl, rfl, rfl, rfl, rfl, trivial⟩ ?_
                  refine next _ _ _ _ (pA_some.mpr ⟨k0, g.2, fun h => absurd h k1, fun _ => hlt⟩) ?_
                  rw [show pFollow (some (e, t, fp, tp, fb, tb)) (cu c).2 = none by simp [pFollow, k3]]
                  rfl
                · refine g_iconst C dX6_areRight_180 (v := 0) (by decide) ?_
                  refine g_iret C R rfl (by omega) (by omega) dX6_areRight_181 ?_
                  refine ⟨rfl, 0, stop (fun ha => ?_), rfl⟩
                  rw [s2] at d4
                  have := (nI_eq (by omega) (by omega)).mp d4
                  have := (pA_some.mp ha).2.2.2 k3
                  omega
            · have k1 : (cu c).2.1 = 1 := (nI_eq (by omega) (by omega)).mp d2
              have h20 := hd3 (by omega)
              have hdl := ndist_le s7 h20
              refine g_aload_n C dX6_areRight_111 rfl rfl ?_
              refine g_iload C dX6_areRight_112 rfl ?_
              refine g_callV C gy_X6_beat tw_5_207 tw_5_209 ts_33 (by decide) (kk := 6) rfl rfl (by exact hM.1) (md_beat F S m c nc rw' cu sk hM hT hcn) rfl rfl (Nat.le_of_ble_eq_true rfl) (by omega) (by omega) dX6_areRight_114 (fun _ _ h9 => h9.elim) ?_
              rintro _ _ ⟨rfl, rfl⟩
              refine g_aload_n C dX6_areRight_117 rfl rfl ?_
              refine ge_Model_table C tw_5_97 (by exact hM.1) (by exact hM.r r0) dX6_areRight_118 ?_
              refine g_iconst C dX6_areRight_121 (v := 5) (by decide) ?_
              refine g_iload C dX6_areRight_122 rfl ?_
              refine g_imul C dX6_areRight_124 ?_
              refine g_iconst C dX6_areRight_125 (v := 3) (by decide) ?_
              refine g_iadd C dX6_areRight_126 ?_
              refine g_ldI C (tix3 c) (hM.i r0 rfl) (by rw [hM.n r0 (n := 200) rfl]; omega) (by omega) ((hT.2.2.2 c 3 hcn (by decide)).trans (cueW_3 (by omega))) dX6_areRight_127 ?_
              refine g_iload C dX6_areRight_128 rfl ?_
              rw [s4]
              refine g_isub C dX6_areRight_130 ?_
              refine g_abs C tw_5_215 (by simp [Value.category]) (by omega) (by omega) dX6_areRight_131 ?_
              rw [jabs_sub (by omega) (by omega), ndist_comm]
              refine g_iadd C dX6_areRight_134 ?_
              rw [nI_add]
              refine g_istore C dX6_areRight_135 (by decide) rfl ?_
              refine g_aload_n C dX6_areRight_137 rfl rfl ?_
              refine ge_Model_table C tw_5_97 (by exact hM.1) (by exact hM.r r0) dX6_areRight_138 ?_
              refine g_iconst C dX6_areRight_141 (v := 5) (by decide) ?_
              refine g_iload C dX6_areRight_142 rfl ?_
              refine g_imul C dX6_areRight_144 ?_
              refine g_iconst C dX6_areRight_145 (v := 3) (by decide) ?_
              refine g_iadd C dX6_areRight_146 ?_
              refine g_ldI C (tix3 c) (hM.i r0 rfl) (by rw [hM.n r0 (n := 200) rfl]; omega) (by omega) ((hT.2.2.2 c 3 hcn (by decide)).trans (cueW_3 (by omega))) dX6_areRight_147 ?_
              refine g_istore C dX6_areRight_148 (by decide) rfl ?_
              refine g_iload C dX6_areRight_150 rfl ?_
              refine g_sipush C dX6_areRight_152 (v := 1000) (by decide) ?_
              refine g_icmp_lt C dX6_areRight_155 (tgt := 184) (by decide) (fun d3 => ?_) (fun d3 => ?_)
              · have hlt : (cu c).2.2.1 + ndist tp (cu c).2.2.2.1 < 1000 := (nI_ltI (by omega) (by omega)).mp d3
                refine g_sub [(0, _), (1, _), (2, _), (3, _), (4, _), (5, _), (6, _)] ⟨rfl, rfl, rfl, rfl, rfl, rfl, rfl, trivial⟩ ?_
                refine next _ _ _ _ (pA_some.mpr ⟨k0, g.2, fun _ => hlt, fun h => by omega⟩) ?_
                rw [show pFollow (some (e, t, fp, tp, fb, tb)) (cu c).2 = some (e, t, tp, (cu c).2.2.2.1, (cu c).2.2.1, (cu c).2.2.1 + ndist tp (cu c).2.2.2.1) by simp [pFollow, k1]]
                refine ⟨s1, s2, rfl, rfl, ?_, hlt, h20⟩
                have := g.2
                omega
              · refine g_iconst C dX6_areRight_158 (v := 0) (by decide) ?_
                refine g_iret C R rfl (by omega) (by omega) dX6_areRight_159 ?_
                refine ⟨rfl, 0, stop (fun ha => d3 ?_), rfl⟩
                exact nI_lt (b := 1000) ((pA_some.mp ha).2.2.1 k1) (by omega)
        · have k0 : (cu c).2.1 = 0 := (nI_eq (by omega) (by omega)).mp d1
          have h20 := hd3 (by omega)
          have ha : pAllows P (cu c).2 = true := by
            rcases P with _ | ⟨e, t, fp, tp, fb, tb⟩
            · exact pA_none.mpr k0
            · exact absurd k0 (g2 _ _ _ _ _ _ rfl).1
          refine g_iconst C dX6_areRight_68 (v := 1) (by decide) ?_
          refine g_istore_n C dX6_areRight_69 rfl (by decide) rfl ?_
          refine g_aload_n C dX6_areRight_70 rfl rfl ?_
          refine g_iload C dX6_areRight_71 rfl ?_
          refine g_callV C gy_X6_beat tw_5_207 tw_5_209 ts_33 (by decide) (kk := 6) rfl rfl (by exact hM.1) (md_beat F S m c nc rw' cu sk hM hT hcn) rfl rfl (Nat.le_of_ble_eq_true rfl) (by omega) (by omega) dX6_areRight_73 (fun _ _ h9 => h9.elim) ?_
          rintro _ _ ⟨rfl, rfl⟩
          refine g_istore_n C dX6_areRight_76 rfl (by decide) rfl ?_
          refine g_aload_n C dX6_areRight_77 rfl rfl ?_
          refine g_iload C dX6_areRight_78 rfl ?_
          refine g_callV C gy_X6_beat tw_5_207 tw_5_209 ts_33 (by decide) (kk := 6) rfl rfl (by exact hM.1) (md_beat F S m c nc rw' cu sk hM hT hcn) rfl rfl (Nat.le_of_ble_eq_true rfl) (by omega) (by omega) dX6_areRight_80 (fun _ _ h9 => h9.elim) ?_
          rintro _ _ ⟨rfl, rfl⟩
          refine g_istore C dX6_areRight_83 (by decide) rfl ?_
          refine g_aload_n C dX6_areRight_85 rfl rfl ?_
          refine ge_Model_table C tw_5_97 (by exact hM.1) (by exact hM.r r0) dX6_areRight_86 ?_
          refine g_iconst C dX6_areRight_89 (v := 5) (by decide) ?_
          refine g_iload C dX6_areRight_90 rfl ?_
          refine g_imul C dX6_areRight_92 ?_
          refine g_iconst C dX6_areRight_93 (v := 3) (by decide) ?_
          refine g_iadd C dX6_areRight_94 ?_
          refine g_ldI C (tix3 c) (hM.i r0 rfl) (by rw [hM.n r0 (n := 200) rfl]; omega) (by omega) ((hT.2.2.2 c 3 hcn (by decide)).trans (cueW_3 (by omega))) dX6_areRight_95 ?_
          refine g_istore C dX6_areRight_96 (by decide) rfl ?_
          refine g_goto C dX6_areRight_98 (tgt := 184) (by decide) ?_
          refine g_sub [(0, _), (1, _), (2, _), (3, _), (4, _), (5, _), (6, _)] ⟨rfl, rfl, rfl, rfl, rfl, rfl, rfl, trivial⟩ ?_
          refine next _ _ _ _ ha ?_
          rw [show pFollow P (cu c).2 = some ((cu c).2.2.1, (cu c).2.2.2.2, (cu c).2.2.2.1, (cu c).2.2.2.1, (cu c).2.2.1, (cu c).2.2.1) by simp [pFollow, k0]]
          exact ⟨rfl, rfl, rfl, rfl, Nat.le_refl _, hd2, h20⟩
      refine g_iload C dX6_areRight_18 rfl ?_
      refine g_iconst C dX6_areRight_20 (v := -1) (by decide) ?_
      refine g_icmp_eq C dX6_areRight_21 (tgt := 196) (by decide) (fun c1 => ?_) (fun c1 => ?_)
      · exact absurd c1 (nI_m1 (by omega))
      · refine g_iload_n C dX6_areRight_24 rfl rfl ?_
        refine g_aload_n C dX6_areRight_25 rfl rfl ?_
        refine g_iload C dX6_areRight_26 rfl ?_
        refine g_callV C gy_X6_kind tw_5_211 tw_5_213 ts_34 (by decide) (kk := 6) rfl rfl (by exact hM.1) (md_kind F S m c nc rw' cu sk hM hT hcn) rfl rfl (Nat.le_of_ble_eq_true rfl) (by omega) (by omega) dX6_areRight_28 (fun _ _ h9 => h9.elim) ?_
        rintro _ _ ⟨rfl, rfl⟩
        refine g_if_ne C dX6_areRight_31 (tgt := 38) (by decide) (fun c2 => ?_) (fun c2 => ?_)
        · have k0 : (cu c).2.1 ≠ 0 := fun h => c2 (by rw [h]; rfl)
          refine g_iconst C dX6_areRight_38 (v := 0) (by decide) ?_
          refine g_icmp_eq C dX6_areRight_39 (tgt := 57) (by decide) (fun c3 => ?_) (fun c3 => ?_)
          · refine no (fun ha => ?_)
            rcases P with _ | ⟨e, t, fp, tp, fb, tb⟩
            · exact k0 (pA_none.mp ha)
            · have := hS.1
              rw [c3] at this
              exact absurd this (by decide)
          · refine g_iload_n C dX6_areRight_42 rfl rfl ?_
            refine g_if_eq C dX6_areRight_43 (tgt := 59) (by decide) (fun c4 => ?_) (fun c4 => ?_)
            · exact absurd c4 c3
            · rcases P with _ | ⟨e, t, fp, tp, fb, tb⟩
              · exact absurd hS c3
              · have hS0 := hS
                obtain ⟨s1, s2, s3, s4, s5, s6, s7⟩ := hS
                refine g_aload_n C dX6_areRight_46 rfl rfl ?_
                refine g_iload C dX6_areRight_47 rfl ?_
                refine g_callV C gy_X6_beat tw_5_207 tw_5_209 ts_33 (by decide) (kk := 6) rfl rfl (by exact hM.1) (md_beat F S m c nc rw' cu sk hM hT hcn) rfl rfl (Nat.le_of_ble_eq_true rfl) (by omega) (by omega) dX6_areRight_49 (fun _ _ h9 => h9.elim) ?_
                rintro _ _ ⟨rfl, rfl⟩
                refine g_iload C dX6_areRight_52 rfl ?_
                rw [s3]
                refine g_icmp_ge C dX6_areRight_54 (tgt := 59) (by decide) (fun c5 => ?_) (fun c5 => ?_)
                · rw [← s3]
                  refine at59 (fun h => by cases h) (fun e' t' fp' tp' fb' tb' h => ?_)
                  cases h
                  exact ⟨k0, (nI_leI (by omega) (by omega)).mp c5⟩
                · rw [← s3]
                  refine no (fun ha => c5 ?_)
                  exact nI_le (pA_some.mp ha).2.1 (by omega)
        · have k0 : (cu c).2.1 = 0 := (nI_eq (by omega) (by omega)).mp c2
          refine g_iconst C dX6_areRight_34 (v := 1) (by decide) ?_
          refine g_goto C dX6_areRight_35 (tgt := 39) (by decide) ?_
          refine g_icmp_eq C dX6_areRight_39 (tgt := 57) (by decide) (fun c3 => ?_) (fun c3 => ?_)
          · refine no (fun ha => ?_)
            rcases P with _ | ⟨e, t, fp, tp, fb, tb⟩
            · have h0 : on = 0 := hS
              rw [h0] at c3
              exact absurd c3 (by decide)
            · exact (pA_some.mp ha).1 k0
          · have hPn : P = none := by
              rcases P with _ | ⟨e, t, fp, tp, fb, tb⟩
              · rfl
              · exact absurd hS.1 c3
            refine g_iload_n C dX6_areRight_42 rfl rfl ?_
            refine g_if_eq C dX6_areRight_43 (tgt := 59) (by decide) (fun c4 => ?_) (fun c4 => ?_)
            · exact at59 (fun _ => k0) (fun e t fp tp fb tb h => by rw [hPn] at h; cases h)
            · rw [hPn] at hS
              exact absurd hS c4
  refine g_iconst C dX6_areRight_0 (v := 0) (by decide) ?_
  refine g_istore_n C dX6_areRight_1 rfl (by decide) rfl ?_
  refine g_iconst C dX6_areRight_2 (v := 0) (by decide) ?_
  refine g_istore_n C dX6_areRight_3 rfl (by decide) rfl ?_
  refine g_iconst C dX6_areRight_4 (v := 0) (by decide) ?_
  refine g_istore C dX6_areRight_5 (by decide) rfl ?_
  refine g_iconst C dX6_areRight_7 (v := 0) (by decide) ?_
  refine g_istore C dX6_areRight_8 (by decide) rfl ?_
  refine g_aload_n C dX6_areRight_10 rfl rfl ?_
  refine g_iload_n C dX6_areRight_11 rfl rfl ?_
  refine g_iconst C dX6_areRight_12 (v := -1) (by decide) ?_
  refine g_callV C gy_X6_behind tw_5_199 tw_5_201 ts_31 (by decide) (kk := 6) rfl rfl (by exact hM.1) (md_behind F S m p nc none rw' cu sk hM hT hp (fun o ho => by cases ho)) rfl rfl (Nat.le_of_ble_eq_true rfl) (by omega) (by omega) dX6_areRight_13 (fun _ _ h9 => h9.elim) ?_
  rintro _ _ ⟨rfl, o, hB, rfl⟩
  have eo := best_first (by omega) hl hB
  rw [eo]
  refine g_istore C dX6_areRight_16 (by decide) rfl ?_
  refine g_sub [(0, _), (1, _), (2, _), (3, _), (4, _), (5, _), (6, _)] ⟨rfl, rfl, rfl, rfl, rfl, rfl, rfl, trivial⟩ ?_
  exact loop l.length 0 _ _ _ _ (by omega) (fun j d hj => absurd hj (Nat.not_lt_zero j)) rfl
