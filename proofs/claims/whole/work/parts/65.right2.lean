theorem dat_get {cu : Nat → Nat × D4} {l : List Nat} {i c : Nat} (h : l[i]? = some c) : (dat cu l)[i]? = some (cu c).2 := by
  unfold dat
  rw [List.getElem?_map, h]
  rfl
theorem md_areRight {Γ : GBase} (F : FB Γ) (S : PS) (m p nc : Nat) (rw' : Nat → Nat) (cu : Nat → Nat × D4) (sk : Nat → Bool) (l : List Nat) (hM : MdF S m rw') (hT : TabV S m rw' nc cu sk) (hp : p < 8) (hl : isScr cu sk nc p l) : GMet Γ yX6_areRight cX6_areRight 7 ((some FieldType.boolean)) 3 0 0 [.ref m, .int (nI p)] S (fun r S' => S = S' ∧ ∃ v, isB v (okL none (dat cu l) = true) ∧ r = some (.int v)) noX := by
  have h40 := hT.2.1
  have r0 : isRw 200 := by unfold isRw; omega
  have hlc : ∀ i c, l[i]? = some c → c < nc := fun i c h => ((hl.2 c).mp (List.mem_of_getElem? h)).1
  refine GMet.of (loc0 := [(0, .ref m), (1, .int (nI p))]) F (by decide +kernel) rfl (Nat.le_of_ble_eq_true rfl) (fun X C R Tb nm => ?_)
  have bad : ∀ {loc : List (Nat × Value)} (i : Nat) (d : D4), (dat cu l)[i]? = some d → pAllows (pth none ((dat cu l).take i)) d = false → isB 0 (okL none (dat cu l) = true) := fun i d h1 h2 => Or.inr ⟨rfl, fun h => by rw [okL_stop _ _ i d h1 h2] at h; cases h⟩
  have loop : ∀ (k i : Nat) (on en fr pl : Int32), i + k = l.length → (∀ j d, j < i → (dat cu l)[j]? = some d → pAllows (pth none ((dat cu l).take j)) d = true) → PthS (pth none ((dat cu l).take i)) on en fr pl → GW Γ X S 0 0 18 [(0, .ref m), (1, .int (nI p)), (2, .int on), (3, .int en), (4, .int fr), (5, .int pl), (6, .int (zO l[i]?))] [] := by
    intro k
    induction k with
    | zero =>
      intro i on en fr pl hi hal hS
      have e0 : l[i]? = none := List.getElem?_eq_none (by omega)
      rw [e0]
      refine g_iload C dX6_areRight_18 rfl ?_
      refine g_iconst C dX6_areRight_20 (v := -1) (by decide) ?_
      refine g_icmp_eq C dX6_areRight_21 (tgt := 196) (by decide) (fun c1 => ?_) (fun c1 => ?_)
      · refine g_iconst C dX6_areRight_196 (v := 1) (by decide) ?_
        refine g_iret C R rfl (by omega) (by omega) dX6_areRight_197 ?_
        refine ⟨rfl, 1, Or.inl ⟨rfl, okL_all _ _ (fun j d hj => hal j d ?_ hj)⟩, rfl⟩
        have := (List.getElem?_eq_some_iff.mp hj).1
        simp [dat] at this
        omega
      · exact absurd rfl c1
    | succ k ih =>
      intro i on en fr pl hi hal hS
      obtain ⟨c, hc⟩ : ∃ c, l[i]? = some c := ⟨_, List.getElem?_eq_getElem (by omega)⟩
      have hcn := hlc i c hc
      have hd := dat_get (cu := cu) hc
      obtain ⟨⟨hd1, hd2, hd3, hd4⟩, _, _⟩ := hT.2.2.1 c hcn
      obtain ⟨d, hde⟩ : ∃ d, d = (cu c).2 := ⟨_, rfl⟩
      obtain ⟨P, hP⟩ : ∃ P, P = pth none ((dat cu l).take i) := ⟨_, rfl⟩
      have hnext : pth none ((dat cu l).take (i + 1)) = pFollow P d := by rw [hP, hde]; exact pth_succ none hd
      rw [← hP] at hS
      rw [hc, show zO (some c) = nI c from rfl]
      have next : ∀ (on en fr pl : Int32), pAllows P d = true → PthS (pFollow P d) on en fr pl → GW Γ X S 0 0 184 [(0, .ref m), (1, .int (nI p)), (2, .int on), (3, .int en), (4, .int fr), (5, .int pl), (6, .int (nI c))] [] := by
        intro on en fr pl ha hS'
        refine g_aload_n C dX6_areRight_184 rfl rfl ?_
        refine g_iload_n C dX6_areRight_185 rfl rfl ?_
        refine g_iload C dX6_areRight_186 rfl ?_
        refine g_callV C gy_X6_behind tw_5_199 tw_5_201 ts_31 (by decide) (kk := 6) rfl rfl (by exact hM.1) (md_behind F S m p nc (some c) rw' cu sk hM hT hp (fun o ho => by cases ho; exact hcn)) rfl rfl (Nat.le_of_ble_eq_true rfl) (by omega) (by omega) dX6_areRight_188 (fun _ _ h9 => h9.elim) ?_
        rintro _ _ ⟨rfl, o, hB, rfl⟩
        have eo := best_next (by omega) hl hc hB
        rw [eo]
        refine g_istore C dX6_areRight_191 (by decide) rfl ?_
        refine g_goto C dX6_areRight_193 (tgt := 18) (by decide) ?_
        refine g_sub [(0, _), (1, _), (2, _), (3, _), (4, _), (5, _), (6, _)] ⟨rfl, rfl, rfl, rfl, rfl, rfl, rfl, trivial⟩ ?_
        refine ih (i + 1) on en fr pl (by omega) (fun j d' hj hd' => ?_) (by rw [hnext]; exact hS')
        by_cases e : j = i
        · subst e
          have e2 : d' = d := by rw [hde]; exact Option.some.inj (hd'.symm.trans hd)
          rw [e2, ← hP]; exact ha
        · exact hal j d' (by omega) hd'
      have no : pAllows P d = false → GW Γ X S 0 0 57 [(0, .ref m), (1, .int (nI p)), (2, .int on), (3, .int en), (4, .int fr), (5, .int pl), (6, .int (nI c))] [] := by
        intro hn
        refine g_iconst C dX6_areRight_57 (v := 0) (by decide) ?_
        refine g_iret C R rfl (by omega) (by omega) dX6_areRight_58 ?_
        exact ⟨rfl, 0, bad (loc := []) i _ hd (by rw [← hP, ← hde]; exact hn), rfl⟩
      rw [← hde] at hd1 hd2 hd3 hd4
      have hkind : (cu c).2.1 = d.1 := by rw [hde]
      have hbeat : (cu c).2.2.1 = d.2.1 := by rw [hde]
      refine g_iload C dX6_areRight_18 rfl ?_
      refine g_iconst C dX6_areRight_20 (v := -1) (by decide) ?_
      refine g_icmp_eq C dX6_areRight_21 (tgt := 196) (by decide) (fun c1 => ?_) (fun c1 => ?_)
      · exact absurd c1 (nI_m1 (by omega))
      · refine g_iload_n C dX6_areRight_24 rfl rfl ?_
        refine g_aload_n C dX6_areRight_25 rfl rfl ?_
        refine g_iload C dX6_areRight_26 rfl ?_
        refine g_callV C gy_X6_kind tw_5_211 tw_5_213 ts_34 (by decide) (kk := 6) rfl rfl (by exact hM.1) (md_kind F S m c nc rw' cu sk hM hT hcn) rfl rfl (Nat.le_of_ble_eq_true rfl) (by omega) (by omega) dX6_areRight_28 (fun _ _ h9 => h9.elim) ?_
        rintro _ _ ⟨rfl, rfl⟩
        rw [hkind]
        sorry
  sorry
