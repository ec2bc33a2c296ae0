theorem md_workOutP {Γ : GBase} (F : FB Γ) (S : PS) (m p : Nat) (rr : Nat → Nat) (B : BT) (hB : MdB S m rr B) (hp : p < tN B) : GMet Γ yX6_workOut_ cX6_workOut_ 8 ((none : Option FieldType)) 3 0 0 [.ref m, .int (nI p)] S (fun r S' => r = none ∧ WOut S S' m rr p (dsB B p) (dsB B p) 1000) noX := by
  have hg := hB.v.good hp
  have hsc := (hB.v.2.2.2.2.2.2.1 p hp).1
  have h8 := hB.v.1
  have hc40 := hB.v.2.2.1
  have hu := hB.v.2.2.2.2.2.1
  have hlen := hB.v.len hp
  obtain ⟨ds, hds⟩ : ∃ ds, ds = dsB B p := ⟨_, rfl⟩
  obtain ⟨l, hl⟩ : ∃ l, l = scB B p := ⟨_, rfl⟩
  have hdl : ds = dat (tU B) l := by rw [hds, hl]; rfl
  rw [← hl] at hsc hlen
  rw [← hds] at hg ⊢
  obtain ⟨gok, god, gsr⟩ := hg
  have hln : ds.length = l.length := by rw [hdl]; simp [dat]
  have hlc : ∀ {i c : Nat}, l[i]? = some c → c < tC B ∧ ds[i]? = some (tU B c).2 := fun h => ⟨((hsc.2 _).mp (List.mem_of_getElem? h)).1, by rw [hdl]; exact dat_get h⟩
  have hPok : ∀ i, okP (pth none (ds.take i)) := fun i => okP_pth _ none trivial (fun d hd => god d (List.mem_of_mem_take hd))
  have stl : ∀ i, i ≤ l.length → (stL (ds.take i)).length ≤ i := fun i hi => by
    have := stL_len (ds.take i)
    rw [List.length_take] at this
    omega
  refine GMet.of (loc0 := [(0, .ref m), (1, .int (nI p))]) F (by decide +kernel) rfl (Nat.le_of_ble_eq_true rfl) (fun X C R Tb nm => ?_)
  have outer : ∀ (k b : Nat), b + k = 1000 → ∀ (i : Nat) (S' : PS) (V G T : Int32), WOut S S' m rr p ds (ds.take i) b → i ≤ l.length → (∀ d, d ∈ ds.take i → d.2.1 < b) → (∀ d, d ∈ ds.drop i → b ≤ d.2.1) → V = zO (plAt (pth none (ds.take i)) (b - 1)) → T = zO (trOf (pth none (ds.take i))) → (∀ g, goalP (pth none (ds.take i)) = some g → G = nI g) → GW Γ X S' 0 0 25 [(0, .ref m), (1, .int (nI p)), (2, .int V), (3, .int G), (4, .int T), (5, .int (zO l[i]?)), (6, .int (nI b))] [] := by
    intro k
    induction k with
    | zero =>
      intro b hb i S' V G T hW hi h1 h2 hV hT hG
      have eb : b = 1000 := by omega
      subst eb
      refine g_iload C dX6_workOut__25 rfl ?_
      refine g_sipush C dX6_workOut__27 (v := 1000) (by decide) ?_
      refine g_icmp_ge C dX6_workOut__30 (tgt := 285) (by decide) (fun c1 => ?_) (fun c1 => ?_)
      · refine g_vret C R (by omega) (by omega) dX6_workOut__285 ?_
        have e : ds.drop i = [] := by
          apply List.eq_nil_iff_forall_not_mem.mpr
          intro d hd
          have := h2 d hd
          have := (god d (List.mem_of_mem_drop hd)).2.1
          omega
        have e2 : ds.take i = ds := by
          have := List.take_append_drop i ds
          rw [e, List.append_nil] at this
          exact this
        rw [e2] at hW
        exact ⟨rfl, hW⟩
      · exact absurd (nI_le (a := 1000) (Nat.le_refl _) (by omega)) c1
    | succ k ih =>
      intro b hb i S' V G T hW hi h1 h2 hV hT hG
      have at229 : ∀ (i : Nat) (S' : PS) (V G T : Int32), WOut S S' m rr p ds (ds.take i) b → i ≤ l.length → (∀ d, d ∈ ds.take i → d.2.1 ≤ b) → (∀ d, d ∈ ds.drop i → b < d.2.1) → V = zO (plAt (pth none (ds.take i)) b) → T = zO (trOf (pth none (ds.take i))) → (∀ g, goalP (pth none (ds.take i)) = some g → G = nI g) → GW Γ X S' 0 0 229 [(0, .ref m), (1, .int (nI p)), (2, .int V), (3, .int G), (4, .int T), (5, .int (zO l[i]?)), (6, .int (nI b))] [] := by
        intro i S' V G T hW hi h1 h2 hV hT hG
        have hf := (hW.mdB hB).f
        have eu : ds.take i = upTo ds b := (upTo_take h1 h2).symm
        refine g_aload_n C dX6_workOut__229 rfl rfl ?_
        refine ge_Model_places C tw_5_104 (by exact hf.1) (by exact hf.r i_207) dX6_workOut__230 ?_
        refine g_sipush C dX6_workOut__233 (v := 1000) (by decide) ?_
        refine g_iload_n C dX6_workOut__236 rfl rfl ?_
        refine g_imul C dX6_workOut__237 ?_
        refine g_iload C dX6_workOut__238 rfl ?_
        refine g_iadd C dX6_workOut__240 ?_
        refine g_iload_n C dX6_workOut__241 rfl rfl ?_
        refine g_stI C (kix p b) (hf.i i_207 rfl) (hf.lt i_207 (n := 8000) rfl (by omega)) (by omega) dX6_workOut__242 ?_
        refine g_aload_n C dX6_workOut__243 rfl rfl ?_
        refine ge_Model_tracks C tw_5_105 (by exact hf.1) (by exact hf.r i_208) dX6_workOut__244 ?_
        refine g_sipush C dX6_workOut__247 (v := 1000) (by decide) ?_
        refine g_iload_n C dX6_workOut__250 rfl rfl ?_
        refine g_imul C dX6_workOut__251 ?_
        refine g_iload C dX6_workOut__252 rfl ?_
        refine g_iadd C dX6_workOut__254 ?_
        refine g_iload C dX6_workOut__255 rfl ?_
        refine g_stI C (kix p b) (hf.i i_208 rfl) (hf.lt i_208 (n := 8000) rfl (by omega)) (by omega) dX6_workOut__257 ?_
        refine g_aload_n C dX6_workOut__258 rfl rfl ?_
        refine ge_Model_stays C tw_5_106 (by exact hf.1) (by exact hf.r i_209) dX6_workOut__259 ?_
        refine g_sipush C dX6_workOut__262 (v := 1000) (by decide) ?_
        refine g_iload_n C dX6_workOut__265 rfl rfl ?_
        refine g_imul C dX6_workOut__266 ?_
        refine g_iload C dX6_workOut__267 rfl ?_
        refine g_iadd C dX6_workOut__269 ?_
        refine g_aload_n C dX6_workOut__270 rfl rfl ?_
        refine ge_Model_manyStays C tw_5_107 (by exact hf.1) (by exact hf.r i_210) dX6_workOut__271 ?_
        refine g_iload_n C dX6_workOut__274 rfl rfl ?_
        refine g_ldI C rfl (hf.i i_210 rfl) (hf.lt i_210 (n := 8) rfl (by omega)) (by omega) ((congrFun ((uR_ne (hf.ne i_210 i_208 (by decide))).trans (uR_ne (hf.ne i_210 i_207 (by decide)))) p).trans hW.2.2.1.1) dX6_workOut__275 ?_
        refine g_iconst C dX6_workOut__276 (v := 1) (by decide) ?_
        refine g_isub C dX6_workOut__277 ?_
        refine g_stI C (kix p b) (hf.i i_209 rfl) (hf.lt i_209 (n := 8000) rfl (by omega)) (by omega) dX6_workOut__278 ?_
        refine g_iinc C dX6_workOut__279 rfl (by first | exact inc1 _ | exact rfl) (by decide) rfl ?_
        refine g_goto C dX6_workOut__282 (tgt := 25) (by decide) ?_
        refine g_sub [(0, _), (1, _), (2, _), (3, _), (4, _), (5, _), (6, _)] ⟨rfl, rfl, rfl, rfl, rfl, rfl, rfl, trivial⟩ ?_
        refine ih (b + 1) (by omega) i _ V G T (hW.beat ?_ ?_ eu (by omega) ?_ ?_ ?_) hi (fun d hd => by have := h1 d hd; omega) (fun d hd => by have := h2 d hd; omega) hV hT hG
        · exact ((FrM.r hf i_207).tr (FrM.r hf i_208)).tr (FrM.r hf i_209)
        · refine Kp.tr ?_ (kp_uR (by exact hf) i_209 (by simp))
          refine Kp.tr ?_ (kp_uR (by exact hf) i_208 (by simp))
          exact kp_uR hf i_207 (by simp)
        · refine (uR_ne (hf.ne i_207 i_209 (by decide))).trans ((uR_ne (hf.ne i_207 i_208 (by decide))).trans (uR_q.trans ?_))
          rw [hV, eu]
          rfl
        · refine (uR_ne (hf.ne i_208 i_209 (by decide))).trans (uR_q.trans ?_)
          rw [uR_ne (hf.ne i_208 i_207 (by decide)), hT, eu]
          rfl
        · refine uR_q.trans ?_
          rw [uR_ne (hf.ne i_209 i_208 (by decide)), uR_ne (hf.ne i_209 i_207 (by decide))]
      have inner : ∀ (k i : Nat) (S' : PS) (V G T : Int32), i + k = l.length → WOut S S' m rr p ds (ds.take i) b → (∀ d, d ∈ ds.take i → d.2.1 ≤ b) → (∀ d, d ∈ ds.drop i → b ≤ d.2.1) → V = zO (plAt (pth none (ds.take i)) b) → T = zO (trOf (pth none (ds.take i))) → (∀ g, goalP (pth none (ds.take i)) = some g → G = nI g) → GW Γ X S' 0 0 52 [(0, .ref m), (1, .int (nI p)), (2, .int V), (3, .int G), (4, .int T), (5, .int (zO l[i]?)), (6, .int (nI b))] [] := by
        intro k
        induction k with
        | zero =>
          intro i S' V G T hk hW h1 h2 hV hT hG
          have e0 : l[i]? = none := List.getElem?_eq_none (by omega)
          have at2 := at229 i S' V G T hW (by omega) h1 (fun d hd => by rw [List.drop_of_length_le (by omega)] at hd; cases hd) hV hT hG
          rw [e0] at at2 ⊢
          refine g_iload C dX6_workOut__52 rfl ?_
          refine g_iconst C dX6_workOut__54 (v := -1) (by decide) ?_
          refine g_icmp_eq C dX6_workOut__55 (tgt := 229) (by decide) (fun c1 => ?_) (fun c1 => ?_)
          · exact at2
          · exact absurd rfl c1
        | succ k ih2 =>
          intro i S' V G T hk hW h1 h2 hV hT hG
          obtain ⟨c, hc⟩ : ∃ c, l[i]? = some c := ⟨_, List.getElem?_eq_getElem (by omega)⟩
          obtain ⟨hcn, hdc⟩ := hlc hc
          have hbm := hW.mdB hB
          have hf := hbm.f
          have hTb := hbm.t
          obtain ⟨hd1, hd2, hd3, hd4⟩ := (hu c hcn).1
          have hspl := srt_split gsr hdc
          have hin : (tU B c).2 ∈ ds.drop i := by
            have : ds.drop i = (tU B c).2 :: ds.drop (i + 1) := by
              rw [List.drop_eq_getElem_cons (by omega)]
              congr 1
              exact (List.getElem?_eq_some_iff.mp hdc).2
            rw [this]; exact List.mem_cons_self
          have hbb := h2 _ hin
          have at2 := at229 i S' V G T hW (by omega) h1
          rw [hc] at at2 ⊢
          refine g_iload C dX6_workOut__52 rfl ?_
          refine g_iconst C dX6_workOut__54 (v := -1) (by decide) ?_
          refine g_icmp_eq C dX6_workOut__55 (tgt := 229) (by decide) (fun c1 => ?_) (fun c1 => ?_)
          · exact absurd c1 (nI_m1 (by omega))
          · refine g_aload_n C dX6_workOut__58 rfl rfl ?_
            refine g_iload C dX6_workOut__59 rfl ?_
            refine g_callV C gy_X6_beat tw_5_207 tw_5_209 ts_33 (by decide) (kk := 6) rfl rfl (by exact hf.1) (md_beat F S' m c (tC B) rr _ _ hf hTb hcn) rfl rfl (Nat.le_of_ble_eq_true rfl) (by omega) (by omega) dX6_workOut__61 (fun _ _ h9 => h9.elim) ?_
            rintro _ _ ⟨rfl, rfl⟩
            refine g_iload C dX6_workOut__64 rfl ?_
            refine g_icmp_ne C dX6_workOut__66 (tgt := 229) (by decide) (fun c2 => ?_) (fun c2 => ?_)
            · exact at2 (fun d hd => by
                have := hspl.2 d hd
                have : (tU B c).2.2.1 ≠ b := fun e => c2 (by rw [← e])
                omega) hV hT hG
            · have eb : (tU B c).2.2.1 = b := (nI_eq (by omega) (by omega)).mp c2
              have hal := okL_at _ none i _ gok hdc
              have hPn : pth none (ds.take (i + 1)) = pFollow (pth none (ds.take i)) (tU B c).2 := pth_succ none hdc
              have htn : ds.take (i + 1) = ds.take i ++ [(tU B c).2] := take_succ_get hdc
              have hst := stl i (by omega)
              have next : ∀ (S2 : PS) (V G T : Int32), WOut S S2 m rr p ds (ds.take (i + 1)) b → V = zO (plAt (pFollow (pth none (ds.take i)) (tU B c).2) b) → T = zO (trOf (pFollow (pth none (ds.take i)) (tU B c).2)) → (∀ g, goalP (pFollow (pth none (ds.take i)) (tU B c).2) = some g → G = nI g) → GW Γ X S2 0 0 217 [(0, .ref m), (1, .int (nI p)), (2, .int V), (3, .int G), (4, .int T), (5, .int (nI c)), (6, .int (nI b))] [] := by
                intro S2 V G T hW2 hV hT hG
                have hb2 := hW2.mdB hB
                refine g_aload_n C dX6_workOut__217 rfl rfl ?_
                refine g_iload_n C dX6_workOut__218 rfl rfl ?_
                refine g_iload C dX6_workOut__219 rfl ?_
                refine g_callV C gy_X6_behind tw_5_199 tw_5_201 ts_31 (by decide) (kk := 6) rfl rfl (by exact hb2.m) (md_behind F S2 m p (tC B) (some c) rr _ _ hb2.f hb2.t (by omega) (fun o ho => by cases ho; exact hcn)) rfl rfl (Nat.le_of_ble_eq_true rfl) (by omega) (by omega) dX6_workOut__221 (fun _ _ h9 => h9.elim) ?_
                rintro _ _ ⟨rfl, o, hBo, rfl⟩
                have eo := best_next (by omega) hsc hc hBo
                rw [eo]
                refine g_istore C dX6_workOut__224 (by decide) rfl ?_
                refine g_goto C dX6_workOut__226 (tgt := 52) (by decide) ?_
                refine g_sub [(0, _), (1, _), (2, _), (3, _), (4, _), (5, _), (6, _)] ⟨rfl, rfl, rfl, rfl, rfl, rfl, rfl, trivial⟩ ?_
                refine ih2 (i + 1) S2 V G T (by omega) hW2 (fun d hd => ?_) (fun d hd => ?_) (by rw [hPn]; exact hV) (by rw [hPn]; exact hT) (by rw [hPn]; exact hG)
                · rw [htn] at hd
                  rcases List.mem_append.mp hd with hd | hd
                  · exact h1 d hd
                  · rw [List.mem_singleton.mp hd]; omega
                · refine h2 d ?_
                  have : ds.drop (i + 1) = (ds.drop i).drop 1 := by rw [List.drop_drop]
                  rw [this] at hd
                  exact List.mem_of_mem_drop hd
              have hkl : (stL (ds.take i)).length < 40 := by omega
              refine g_bipush C dX6_workOut__69 (v := 40) (by decide) ?_
              refine g_iload_n C dX6_workOut__71 rfl rfl ?_
              refine g_imul C dX6_workOut__72 ?_
              refine g_aload_n C dX6_workOut__73 rfl rfl ?_
              refine ge_Model_manyStays C tw_5_107 (by exact hf.1) (by exact hf.r i_210) dX6_workOut__74 ?_
              refine g_iload_n C dX6_workOut__77 rfl rfl ?_
              refine g_ldI C rfl (hf.i i_210 rfl) (hf.lt i_210 (n := 8) rfl (by omega)) (by omega) hW.2.2.1.1 dX6_workOut__78 ?_
              refine g_iadd C dX6_workOut__79 ?_
              rw [fix40]
              refine g_istore C dX6_workOut__80 (by decide) rfl ?_
              refine g_aload_n C dX6_workOut__82 rfl rfl ?_
              refine g_iload C dX6_workOut__83 rfl ?_
              refine g_callV C gy_X6_kind tw_5_211 tw_5_213 ts_34 (by decide) (kk := 6) rfl rfl (by exact hf.1) (md_kind F S' m c (tC B) rr _ _ hf hTb hcn) rfl rfl (Nat.le_of_ble_eq_true rfl) (by omega) (by omega) dX6_workOut__85 (fun _ _ h9 => h9.elim) ?_
              rintro _ _ ⟨rfl, rfl⟩
              refine g_if_ne C dX6_workOut__88 (tgt := 150) (by decide) (fun k0 => ?_) (fun k0 => ?_)
              · have k0' : (tU B c).2.1 ≠ 0 := fun e => k0 (by rw [e]; rfl)
                refine g_aload_n C dX6_workOut__150 rfl rfl ?_
                refine g_iload C dX6_workOut__151 rfl ?_
                refine g_callV C gy_X6_kind tw_5_211 tw_5_213 ts_34 (by decide) (kk := 6) rfl rfl (by exact hf.1) (md_kind F S' m c (tC B) rr _ _ hf hTb hcn) rfl rfl (Nat.le_of_ble_eq_true rfl) (by omega) (by omega) dX6_workOut__153 (fun _ _ h9 => h9.elim) ?_
                rintro _ _ ⟨rfl, rfl⟩
                refine g_iconst C dX6_workOut__156 (v := 1) (by decide) ?_
                refine g_icmp_ne C dX6_workOut__157 (tgt := 175) (by decide) (fun k1 => ?_) (fun k1 => ?_)
                · have k1' : (tU B c).2.1 ≠ 1 := fun e => k1 (by rw [e]; rfl)
                  refine g_aload_n C dX6_workOut__175 rfl rfl ?_
                  refine g_iload C dX6_workOut__176 rfl ?_
                  refine g_callV C gy_X6_kind tw_5_211 tw_5_213 ts_34 (by decide) (kk := 6) rfl rfl (by exact hf.1) (md_kind F S' m c (tC B) rr _ _ hf hTb hcn) rfl rfl (Nat.le_of_ble_eq_true rfl) (by omega) (by omega) dX6_workOut__178 (fun _ _ h9 => h9.elim) ?_
                  rintro _ _ ⟨rfl, rfl⟩
                  refine g_iconst C dX6_workOut__181 (v := 2) (by decide) ?_
                  refine g_icmp_ne C dX6_workOut__182 (tgt := 201) (by decide) (fun k2 => ?_) (fun k2 => ?_)
                  · have k2' : (tU B c).2.1 ≠ 2 := fun e => k2 (by rw [e]; rfl)
                    have k3' : (tU B c).2.1 = 3 := by omega
                    have hPs : (pth none (ds.take i)).isSome = true := by
                      cases hq : pth none (ds.take i) with
                      | none => rw [hq] at hal; exact absurd (pA_none.mp hal) k0'
                      | some q => rfl
                    have hne : stL (ds.take i) ≠ [] := st_ne (ds.take i) none [] (fun h => by cases h) hPs
                    obtain ⟨n, hn⟩ : ∃ n, (stL (ds.take i)).length = n + 1 := by
                      cases hq : stL (ds.take i) with
                      | nil => exact absurd hq hne
                      | cons a t => exact ⟨t.length, rfl⟩
                    rw [hn]
                    refine g_iconst C dX6_workOut__201 (v := -1) (by decide) ?_
                    refine g_istore_n C dX6_workOut__202 rfl (by decide) rfl ?_
                    refine g_iconst C dX6_workOut__203 (v := -1) (by decide) ?_
                    refine g_istore C dX6_workOut__204 (by decide) rfl ?_
                    refine g_aload_n C dX6_workOut__206 rfl rfl ?_
                    refine ge_Model_ends C tw_5_109 (by exact hf.1) (by exact hf.r i_212) dX6_workOut__207 ?_
                    refine g_iload C dX6_workOut__210 rfl ?_
                    refine g_iconst C dX6_workOut__212 (v := 1) (by decide) ?_
                    refine g_isub C dX6_workOut__213 ?_
                    rw [show 40 * p + (n + 1) = (40 * p + n) + 1 by omega, nI_pred]
                    refine g_iload C dX6_workOut__214 rfl ?_
                    refine g_stI C rfl (hf.i i_212 rfl) (hf.lt i_212 (n := 320) rfl (by omega)) (by omega) dX6_workOut__216 ?_
                    refine g_sub [(0, _), (1, _), (2, _), (3, _), (4, _), (5, _), (6, _)] ⟨rfl, rfl, rfl, rfl, rfl, rfl, rfl, trivial⟩ ?_
                    refine next _ _ _ _ ?_ ?_ ?_ ?_
                    · rw [htn]
                      exact hW.leave (n := n) (FrM.r hf i_212) (kp_uR hf i_212 rfl) k3' hn (by omega) (by rw [uR_q, eb])
                    · rw [plAt_leave hal k3']; rfl
                    · rw [trOf_follow hal hd1, if_neg (by omega), if_pos k3']; rfl
                    · intro g hgg
                      rw [goalP_follow hal hd1, if_neg (by omega), if_pos k3'] at hgg
                      cases hgg
                  · have k2' : (tU B c).2.1 = 2 := (nI_eq (b := 2) (by omega) (by omega)).mp k2
                    refine g_aload_n C dX6_workOut__185 rfl rfl ?_
                    refine ge_Model_table C tw_5_97 (by exact hf.1) (by exact hf.r i_200) dX6_workOut__186 ?_
                    refine g_iconst C dX6_workOut__189 (v := 5) (by decide) ?_
                    refine g_iload C dX6_workOut__190 rfl ?_
                    refine g_imul C dX6_workOut__192 ?_
                    refine g_iconst C dX6_workOut__193 (v := 4) (by decide) ?_
                    refine g_iadd C dX6_workOut__194 ?_
                    refine g_ldI C (tix4 c) (hf.i i_200 rfl) (hf.lt i_200 (n := 200) rfl (by omega)) (by omega) ((hTb.2.2.2 c 4 hcn (by decide)).trans (cueW_4 (Or.inr k2'))) dX6_workOut__195 ?_
                    refine g_istore C dX6_workOut__196 (by decide) rfl ?_
                    refine g_goto C dX6_workOut__198 (tgt := 217) (by decide) ?_
                    refine g_sub [(0, _), (1, _), (2, _), (3, _), (4, _), (5, _), (6, _)] ⟨rfl, rfl, rfl, rfl, rfl, rfl, rfl, trivial⟩ ?_
                    refine next _ _ _ _ ?_ ?_ ?_ ?_
                    · rw [htn]
                      exact hW.same k0' (by omega)
                    · rw [← eb, plAt_cue (hPok i) hal k0' (by omega) hd1, eb]; exact hV
                    · rw [trOf_follow hal hd1, if_pos (Or.inr k2')]; rfl
                    · intro g hgg
                      rw [goalP_follow hal hd1, if_neg (by omega), if_neg (by omega)] at hgg
                      exact hG g hgg
                · have k1' : (tU B c).2.1 = 1 := (nI_eq (b := 1) (by omega) (by omega)).mp k1
                  refine g_aload_n C dX6_workOut__160 rfl rfl ?_
                  refine ge_Model_table C tw_5_97 (by exact hf.1) (by exact hf.r i_200) dX6_workOut__161 ?_
                  refine g_iconst C dX6_workOut__164 (v := 5) (by decide) ?_
                  refine g_iload C dX6_workOut__165 rfl ?_
                  refine g_imul C dX6_workOut__167 ?_
                  refine g_iconst C dX6_workOut__168 (v := 3) (by decide) ?_
                  refine g_iadd C dX6_workOut__169 ?_
                  refine g_ldI C (tix3 c) (hf.i i_200 rfl) (hf.lt i_200 (n := 200) rfl (by omega)) (by omega) ((hTb.2.2.2 c 3 hcn (by decide)).trans (cueW_3 (by omega))) dX6_workOut__170 ?_
                  refine g_istore_n C dX6_workOut__171 rfl (by decide) rfl ?_
                  refine g_goto C dX6_workOut__172 (tgt := 217) (by decide) ?_
                  refine g_sub [(0, _), (1, _), (2, _), (3, _), (4, _), (5, _), (6, _)] ⟨rfl, rfl, rfl, rfl, rfl, rfl, rfl, trivial⟩ ?_
                  refine next _ _ _ _ ?_ ?_ ?_ ?_
                  · rw [htn]
                    exact hW.same k0' (by omega)
                  · rw [← eb, plAt_cue (hPok i) hal k0' (by omega) hd1, eb]; exact hV
                  · rw [trOf_follow hal hd1, if_neg (by omega), if_neg (by omega)]; exact hT
                  · intro g hgg
                    rw [goalP_follow hal hd1, if_pos (by omega)] at hgg
                    cases hgg
                    rfl
              · have k0' : (tU B c).2.1 = 0 := (nI_eq (b := 0) (by omega) (by omega)).mp k0
                refine g_aload_n C dX6_workOut__91 rfl rfl ?_
                refine ge_Model_table C tw_5_97 (by exact hf.1) (by exact hf.r i_200) dX6_workOut__92 ?_
                refine g_iconst C dX6_workOut__95 (v := 5) (by decide) ?_
                refine g_iload C dX6_workOut__96 rfl ?_
                refine g_imul C dX6_workOut__98 ?_
                refine g_iconst C dX6_workOut__99 (v := 3) (by decide) ?_
                refine g_iadd C dX6_workOut__100 ?_
                refine g_ldI C (tix3 c) (hf.i i_200 rfl) (hf.lt i_200 (n := 200) rfl (by omega)) (by omega) ((hTb.2.2.2 c 3 hcn (by decide)).trans (cueW_3 (by omega))) dX6_workOut__101 ?_
                refine g_istore_n C dX6_workOut__102 rfl (by decide) rfl ?_
                refine g_iload_n C dX6_workOut__103 rfl rfl ?_
                refine g_istore_n C dX6_workOut__104 rfl (by decide) rfl ?_
                refine g_aload_n C dX6_workOut__105 rfl rfl ?_
                refine ge_Model_table C tw_5_97 (by exact hf.1) (by exact hf.r i_200) dX6_workOut__106 ?_
                refine g_iconst C dX6_workOut__109 (v := 5) (by decide) ?_
                refine g_iload C dX6_workOut__110 rfl ?_
                refine g_imul C dX6_workOut__112 ?_
                refine g_iconst C dX6_workOut__113 (v := 4) (by decide) ?_
                refine g_iadd C dX6_workOut__114 ?_
                refine g_ldI C (tix4 c) (hf.i i_200 rfl) (hf.lt i_200 (n := 200) rfl (by omega)) (by omega) ((hTb.2.2.2 c 4 hcn (by decide)).trans (cueW_4 (Or.inl k0'))) dX6_workOut__115 ?_
                refine g_istore C dX6_workOut__116 (by decide) rfl ?_
                refine g_aload_n C dX6_workOut__118 rfl rfl ?_
                refine ge_Model_begins C tw_5_108 (by exact hf.1) (by exact hf.r i_211) dX6_workOut__119 ?_
                refine g_iload C dX6_workOut__122 rfl ?_
                refine g_iload C dX6_workOut__124 rfl ?_
                refine g_stI C rfl (hf.i i_211 rfl) (hf.lt i_211 (n := 320) rfl (by omega)) (by omega) dX6_workOut__126 ?_
                refine g_aload_n C dX6_workOut__127 rfl rfl ?_
                refine ge_Model_ends C tw_5_109 (by exact hf.1) (by exact hf.r i_212) dX6_workOut__128 ?_
                refine g_iload C dX6_workOut__131 rfl ?_
                refine g_sipush C dX6_workOut__133 (v := 1000) (by decide) ?_
                refine g_stI C rfl (hf.i i_212 rfl) (hf.lt i_212 (n := 320) rfl (by omega)) (by omega) dX6_workOut__136 ?_
                refine g_aload_n C dX6_workOut__137 rfl rfl ?_
                refine ge_Model_manyStays C tw_5_107 (by exact hf.1) (by exact hf.r i_210) dX6_workOut__138 ?_
                refine g_iload_n C dX6_workOut__141 rfl rfl ?_
                refine g_dup2 C dX6_workOut__142 rfl rfl ?_
                refine g_ldI C rfl (hf.i i_210 rfl) (hf.lt i_210 (n := 8) rfl (by omega)) (by omega) ((congrFun ((uR_ne (hf.ne i_210 i_212 (by decide))).trans (uR_ne (hf.ne i_210 i_211 (by decide)))) p).trans hW.2.2.1.1) dX6_workOut__143 ?_
                refine g_iconst C dX6_workOut__144 (v := 1) (by decide) ?_
                refine g_iadd C dX6_workOut__145 ?_
                rw [nI_1]
                refine g_stI C rfl (hf.i i_210 rfl) (hf.lt i_210 (n := 8) rfl (by omega)) (by omega) dX6_workOut__146 ?_
                refine g_goto C dX6_workOut__147 (tgt := 217) (by decide) ?_
                refine g_sub [(0, _), (1, _), (2, _), (3, _), (4, _), (5, _), (6, _)] ⟨rfl, rfl, rfl, rfl, rfl, rfl, rfl, trivial⟩ ?_
                refine next _ _ _ _ ?_ ?_ ?_ ?_
                · rw [htn]
                  refine hW.enter ?_ ?_ k0' hkl ?_ ?_ ?_
                  · exact ((FrM.r hf i_211).tr (FrM.r hf i_212)).tr (FrM.r hf i_210)
                  · refine Kp.tr ?_ (kp_uR (by exact hf) i_210 (by simp))
                    refine Kp.tr ?_ (kp_uR (by exact hf) i_212 (by simp))
                    exact kp_uR hf i_211 (by simp)
                  · refine (uR_ne (hf.ne i_211 i_210 (by decide))).trans ((uR_ne (hf.ne i_211 i_212 (by decide))).trans (uR_q.trans ?_))
                    rw [eb]
                  · refine (uR_ne (hf.ne i_212 i_210 (by decide))).trans (uR_q.trans ?_)
                    rw [uR_ne (hf.ne i_212 i_211 (by decide))]
                    rfl
                  · refine uR_q.trans ?_
                    rw [uR_ne (hf.ne i_210 i_212 (by decide)), uR_ne (hf.ne i_210 i_211 (by decide))]
                · rw [← eb, plAt_enter k0']; rfl
                · rw [trOf_follow hal hd1, if_pos (Or.inl k0')]; rfl
                · intro g hgg
                  rw [goalP_follow hal hd1, if_pos (by omega)] at hgg
                  cases hgg
                  rfl
      have inner0 : ∀ (V : Int32), V = zO (plAt (pth none (ds.take i)) b) → GW Γ X S' 0 0 52 [(0, .ref m), (1, .int (nI p)), (2, .int V), (3, .int G), (4, .int T), (5, .int (zO l[i]?)), (6, .int (nI b))] [] := fun V hV => inner (l.length - i) i S' V G T (by omega) hW (fun d hd => by have := h1 d hd; omega) h2 hV hT hG
      refine g_iload C dX6_workOut__25 rfl ?_
      refine g_sipush C dX6_workOut__27 (v := 1000) (by decide) ?_
      refine g_icmp_ge C dX6_workOut__30 (tgt := 285) (by decide) (fun c1 => ?_) (fun c1 => ?_)
      · exact absurd c1 (nI_ge (b := 1000) (by omega) (by omega))
      · refine g_iload_n C dX6_workOut__33 rfl rfl ?_
        refine g_iconst C dX6_workOut__34 (v := -1) (by decide) ?_
        refine g_icmp_eq C dX6_workOut__35 (tgt := 52) (by decide) (fun c2 => ?_) (fun c2 => ?_)
        · refine inner0 _ ?_
          have e : plAt (pth none (ds.take i)) (b - 1) = none := (zO_m1 (fun v hv => by have := plAt_lt (hPok i) hv; omega)).mp (hV.symm.trans c2)
          cases hq : pth none (ds.take i) with
          | none => rw [hq] at hV; exact hV
          | some q => rw [hq] at e; cases e
        · obtain ⟨q, hq⟩ : ∃ q, pth none (ds.take i) = some q := by
            cases hq : pth none (ds.take i) with
            | none => rw [hq] at hV; exact absurd hV c2
            | some q => exact ⟨q, rfl⟩
          obtain ⟨u, hu1⟩ : ∃ u, plAt (pth none (ds.take i)) (b - 1) = some u := by rw [hq]; exact ⟨_, rfl⟩
          obtain ⟨g, hg1⟩ : ∃ g, goalP (pth none (ds.take i)) = some g := by rw [hq]; exact ⟨_, rfl⟩
          have hu20 : u < 20 := plAt_lt (hPok i) hu1
          have hg20 : g < 20 := by
            have := hPok i
            rw [hq] at this hg1
            obtain ⟨e, t, fp, tp, fb, tb⟩ := q
            cases hg1
            exact this.2.2.2.1
          have hGg := hG g hg1
          have hVu : V = nI u := by rw [hV, hu1]; rfl
          have hb1 : 1 ≤ b := by
            rcases Nat.eq_zero_or_pos b with w | w
            · exfalso
              have e : ds.take i = [] := by
                apply List.eq_nil_iff_forall_not_mem.mpr
                intro d hd
                have := h1 d hd
                omega
              rw [e] at hq
              cases hq
            · exact w
          have hstep : plAt (pth none (ds.take i)) b = some (towards u g) := by
            have := plAt_step (b := b - 1) (hPok i) (pth_fb _ none (b - 1) (fun d hd => by have := h1 d hd; omega) (fun _ _ _ _ _ _ h => by cases h)) hu1 hg1
            rw [show b - 1 + 1 = b by omega] at this
            exact this
          rw [hVu, hGg]
          refine g_iload_n C dX6_workOut__38 rfl rfl ?_
          refine g_iload_n C dX6_workOut__39 rfl rfl ?_
          refine g_icmp_eq C dX6_workOut__40 (tgt := 52) (by decide) (fun c3 => ?_) (fun c3 => ?_)
          · have e := (nI_eq (by omega) (by omega)).mp c3
            have at2 := inner0 (nI u) (by rw [hstep, e]; unfold towards; rw [if_pos rfl]; rfl)
            rw [hGg] at at2
            exact at2
          · refine g_iload_n C dX6_workOut__43 rfl rfl ?_
            refine g_iload_n C dX6_workOut__44 rfl rfl ?_
            refine g_iload_n C dX6_workOut__45 rfl rfl ?_
            refine g_isub C dX6_workOut__46 ?_
            refine g_callS C gy_J6_signum_0f7a4 tw_6_20 tw_6_21 (by decide) (md_signum F S' (nI g - nI u)) rfl rfl (Nat.le_of_ble_eq_true rfl) (by omega) (by omega) dX6_workOut__47 (fun _ _ h9 => h9.elim) ?_
            rintro _ _ ⟨rfl, rfl⟩
            refine g_iadd C dX6_workOut__50 ?_
            rw [sgn_ok u hu20 g hg20]
            have at2 := inner0 (nI (towards u g)) (by rw [hstep]; rfl)
            rw [hGg] at at2
            refine g_istore_n C dX6_workOut__51 rfl (by decide) rfl ?_
            refine g_sub [(0, _), (1, _), (2, _), (3, _), (4, _), (5, _), (6, _)] ⟨rfl, rfl, rfl, rfl, rfl, rfl, rfl, trivial⟩ ?_
            exact at2
  refine g_aload_n C dX6_workOut__0 rfl rfl ?_
  refine ge_Model_manyStays C tw_5_107 (by exact hB.m) (by exact hB.f.r i_210) dX6_workOut__1 ?_
  refine g_iload_n C dX6_workOut__4 rfl rfl ?_
  refine g_iconst C dX6_workOut__5 (v := 0) (by decide) ?_
  refine g_stI C rfl (hB.f.i i_210 rfl) (hB.f.lt i_210 (n := 8) rfl (by omega)) (by omega) dX6_workOut__6 ?_
  have hW0 : WOut S (uR S (rr 210) (va_up (pR S (rr 210)) p 0)) m rr p ds (ds.take 0) 0 := by
    have k0 : Kp S (uR S (rr 210) (va_up (pR S (rr 210)) p 0)) m rr nF (fun g => g = 210) := kp_uR hB.f i_210 rfl
    refine ⟨FrM.r hB.f i_210, k0.mono (fun f h => h) (fun g h => by subst h; exact ⟨by decide, by decide⟩), ⟨?_, fun x hx => ?_⟩, fun j s hs => (by cases hs), fun x hx => ?_, fun b' hb' => absurd hb' (Nat.not_lt_zero _), fun x hx => ?_⟩
    · rw [uR_q, va_up_self]; rfl
    · rw [uR_q, va_up_ne _ _ hx]
    · rw [k0.r i_211 (by decide), k0.r i_212 (by decide)]; exact ⟨rfl, rfl⟩
    · rw [k0.r i_207 (by decide), k0.r i_208 (by decide), k0.r i_209 (by decide)]; exact ⟨rfl, rfl, rfl⟩
  have hb0 := hW0.mdB hB
  refine g_iconst C dX6_workOut__7 (v := -1) (by decide) ?_
  refine g_istore_n C dX6_workOut__8 rfl (by decide) rfl ?_
  refine g_iconst C dX6_workOut__9 (v := -1) (by decide) ?_
  refine g_istore_n C dX6_workOut__10 rfl (by decide) rfl ?_
  refine g_iconst C dX6_workOut__11 (v := -1) (by decide) ?_
  refine g_istore C dX6_workOut__12 (by decide) rfl ?_
  refine g_aload_n C dX6_workOut__14 rfl rfl ?_
  refine g_iload_n C dX6_workOut__15 rfl rfl ?_
  refine g_iconst C dX6_workOut__16 (v := -1) (by decide) ?_
  refine g_callV C gy_X6_behind tw_5_199 tw_5_201 ts_31 (by decide) (kk := 6) rfl rfl (by exact hb0.m) (md_behind F _ m p (tC B) none rr _ _ hb0.f hb0.t (by omega) (fun o ho => by cases ho)) rfl rfl (Nat.le_of_ble_eq_true rfl) (by omega) (by omega) dX6_workOut__17 (fun _ _ h9 => h9.elim) ?_
  rintro _ _ ⟨rfl, o, hBo, rfl⟩
  have eo := best_first (by omega) hsc hBo
  rw [eo]
  refine g_istore C dX6_workOut__20 (by decide) rfl ?_
  refine g_iconst C dX6_workOut__22 (v := 0) (by decide) ?_
  refine g_istore C dX6_workOut__23 (by decide) rfl ?_
  refine g_sub [(0, _), (1, _), (2, _), (3, _), (4, _), (5, _), (6, _)] ⟨rfl, rfl, rfl, rfl, rfl, rfl, rfl, trivial⟩ ?_
  exact outer 1000 0 (by omega) 0 _ (-1) (-1) (-1) hW0 (Nat.zero_le _) (fun d hd => by cases hd) (fun d _ => Nat.zero_le _) rfl rfl (fun g h => by cases h)
