/-! ===== the class Puppet: a cue taken in, taken out ===== -/
def insA {α : Type} (xs : List α) (j : Nat) (v : α) : List α := xs.take j ++ v :: xs.drop j
def remA {α : Type} (xs : List α) (j : Nat) : List α := xs.take j ++ xs.drop (j + 1)
theorem insA_get {α : Type} {xs : List α} {j : Nat} {v : α} (h : j ≤ xs.length) (i : Nat) : (insA xs j v)[i]? = if i < j then xs[i]? else if i = j then some v else xs[i - 1]? := by
  unfold insA
  by_cases h1 : i < j
  · rw [if_pos h1, List.getElem?_append_left (by simp; omega), List.getElem?_take, if_pos h1]
  · rw [if_neg h1, List.getElem?_append_right (by simp; omega)]
    have e : (xs.take j).length = j := by simp; omega
    rw [e]
    by_cases h2 : i = j
    · rw [if_pos h2, h2]; simp
    · rw [if_neg h2]
      obtain ⟨m, rfl⟩ : ∃ m, i = j + m + 1 := ⟨i - j - 1, by omega⟩
      rw [show j + m + 1 - j = m + 1 by omega, List.getElem?_cons_succ, List.getElem?_drop]
      rfl
theorem remA_get {α : Type} {xs : List α} {j : Nat} (h : j < xs.length) (i : Nat) : (remA xs j)[i]? = if i < j then xs[i]? else xs[i + 1]? := by
  unfold remA
  have e : (xs.take j).length = j := by simp; omega
  by_cases h1 : i < j
  · rw [if_pos h1, List.getElem?_append_left (by omega), List.getElem?_take, if_pos h1]
  · rw [if_neg h1, List.getElem?_append_right (by omega), e, List.getElem?_drop]
    congr 1; omega
theorem insA_len {α : Type} {xs : List α} {j : Nat} {v : α} (h : j ≤ xs.length) : (insA xs j v).length = xs.length + 1 := by simp [insA]; omega
theorem remA_len {α : Type} {xs : List α} {j : Nat} (h : j < xs.length) : (remA xs j).length = xs.length - 1 := by simp [remA]; omega
theorem rem_ins {xs : List Nat} {j v : Nat} (h : j ≤ xs.length) : remL (insL xs j v) j = xs := by
  apply List.ext_getElem?
  intro i
  rw [remL_get (by rw [insL_len h]; omega), insL_get h, insL_get h]
  by_cases h1 : i < j
  · rw [if_pos h1, if_pos h1]
  · rw [if_neg h1, if_neg (by omega), if_neg (by omega)]
    congr 1
theorem ins_rem {xs : List Nat} {j v : Nat} (h : xs[j]? = some v) : insL (remL xs j) j v = xs := by
  have hj : j < xs.length := (List.getElem?_eq_some_iff.mp h).1
  apply List.ext_getElem?
  intro i
  rw [insL_get (by rw [remL_len hj]; omega), remL_get hj, remL_get hj]
  by_cases h1 : i < j
  · rw [if_pos h1, if_pos h1]
  · rw [if_neg h1]
    by_cases h2 : i = j
    · rw [if_pos h2, h2, h]
    · rw [if_neg h2, if_neg (by omega)]
      congr 1; omega
theorem Cues.ins {S : PS} {cs : List Nat} {ds : List D4} {j c : Nat} {d : D4} (h : Cues S cs ds) (hj : j ≤ cs.length) (hc : CueObj S c d) : Cues S (insL cs j c) (insA ds j d) := by
  have h1 := h.1
  refine ⟨by rw [insL_len hj, insA_len (by omega)]; omega, fun i c' d' e1 e2 => ?_⟩
  rw [insL_get hj] at e1
  rw [insA_get (by omega)] at e2
  by_cases h2 : i < j
  · rw [if_pos h2] at e1 e2; exact h.2 i c' d' e1 e2
  · rw [if_neg h2] at e1 e2
    by_cases h3 : i = j
    · rw [if_pos h3] at e1 e2; cases e1; cases e2; exact hc
    · rw [if_neg h3] at e1 e2; exact h.2 _ c' d' e1 e2
theorem Cues.rem {S : PS} {cs : List Nat} {ds : List D4} {j : Nat} (h : Cues S cs ds) (hj : j < cs.length) : Cues S (remL cs j) (remA ds j) := by
  have h1 := h.1
  refine ⟨by rw [remL_len hj, remA_len (by omega)]; omega, fun i c' d' e1 e2 => ?_⟩
  rw [remL_get hj] at e1
  rw [remA_get (by omega)] at e2
  by_cases h2 : i < j
  · rw [if_pos h2] at e1 e2; exact h.2 i c' d' e1 e2
  · rw [if_neg h2] at e1 e2; exact h.2 _ c' d' e1 e2
theorem srt_ins {ds : List D4} {j : Nat} {d : D4} (h : srt ds) (h1 : ∀ x, x ∈ ds.take j → x.2.1 ≤ d.2.1) (h2 : ∀ x, x ∈ ds.drop j → d.2.1 ≤ x.2.1) : srt (insA ds j d) := by
  have h0 : srt (ds.take j ++ ds.drop j) := by rw [List.take_append_drop]; exact h
  have hq := List.pairwise_append.mp h0
  refine List.pairwise_append.mpr ⟨hq.1, List.pairwise_cons.mpr ⟨h2, hq.2.1⟩, fun x hx y hy => ?_⟩
  rcases List.mem_cons.mp hy with rfl | hy
  · exact h1 x hx
  · exact hq.2.2 x hx y hy
theorem srt_rem {ds : List D4} {j : Nat} (h : srt ds) : srt (remA ds j) := by
  have h0 : srt (ds.take j ++ ds.drop j) := by rw [List.take_append_drop]; exact h
  have hq := List.pairwise_append.mp h0
  have hs : (ds.drop (j + 1)).Sublist (ds.drop j) := by
    rw [show ds.drop (j + 1) = (ds.drop j).drop 1 by rw [List.drop_drop]]
    exact List.drop_sublist _ _
  exact List.pairwise_append.mpr ⟨hq.1, hq.2.1.sublist hs, fun x hx y hy => hq.2.2 x hx y (hs.subset hy)⟩
/-- the place of a new cue of this beat -/
def ipos (ds : List D4) (b : Nat) : Nat := (upTo ds b).length
theorem ipos_eq {ds : List D4} {j b : Nat} (hj : j ≤ ds.length) (h1 : ∀ x, x ∈ ds.take j → x.2.1 ≤ b) (h2 : ∀ x, x ∈ ds.drop j → b < x.2.1) : ipos ds b = j := by
  unfold ipos
  rw [upTo_take h1 h2]; simp; omega
def moT (LS LT : Nat) : Nat → Nat → Prop := fun _ b => b = LS ∨ b = LT
def maT (LS LT TA TB : Nat) : Nat → Nat → Prop := fun o b => o = LS ∨ o = LT ∨ b = TA ∨ b = TB
/-- behind a change: the script cs', the cues ds' played; or all as it was -/
def TookT (Γ : GBase) (S S' : PS) (a LS LT TA TB : Nat) (cs cs' : List Nat) (ds' : List D4) (r : Option Value) : Prop :=
  (okL none ds' = true ∧ r = some (.int 1) ∧ isL Γ S' LS cs' ∧ PupV Γ S' a LT TA TB ds' ∧ Fr S S' (moT LS LT) (maT LS LT TA TB)) ∨ (okL none ds' = false ∧ r = some (.int 0) ∧ isL Γ S' LS cs ∧ Fr S S' (moL LS) (maL LS))
theorem m_takesIn {Γ : GBase} (F : FB Γ) (S : PS) (a LS LT TA TB c : Nat) (cs ts0 : List Nat) (ds : List D4) (d : D4) (hP : PupF Γ S a LS LT TA TB) (hL : isL Γ S LS cs) (hT0 : isL Γ S LT ts0) (hC : Cues S cs ds) (hsr : srt ds) (hc : CueObj S c d) (h39 : cs.length ≤ 39) : GMet Γ yX3_takesIn cX3_takesIn 3 ((some FieldType.boolean)) 8 83 4274 [.ref a, .ref c] S (fun r S' => TookT Γ S S' a LS LT TA TB cs (insL cs (ipos ds d.2.1) c) (insA ds (ipos ds d.2.1) d) r) noX := by
  have hlen2 := hC.1
  have hcb : d.2.1 < 1000 := hc.2.2.2.2.2.2.1
  obtain ⟨ha, hLS, hLT, -, -, hRA, hRB, -, hLn, -, -⟩ := id hP
  refine GMet.of (loc0 := [(0, .ref a), (1, .ref c)]) F (by decide +kernel) rfl (Nat.le_of_ble_eq_true rfl) (fun X C R Tb nm => ?_)
  have body : ∀ j, j ≤ cs.length → (∀ x, x ∈ ds.take j → x.2.1 ≤ d.2.1) → (∀ x, x ∈ ds.drop j → d.2.1 < x.2.1) → GW Γ X S 0 0 41 [(0, .ref a), (1, .ref c), (2, .int (nI j))] [] := by
    intro j hj h1 h2
    have hip : ipos ds d.2.1 = j := ipos_eq (by omega) h1 h2
    rw [hip] at R
    refine g_aload_n C dX3_takesIn_41 rfl rfl ?_
    refine ge_Puppet_script C tw_2_159 (by exact ha) (by exact hLS) dX3_takesIn_42 ?_
    refine g_iload_n C dX3_takesIn_45 rfl rfl ?_
    refine g_aload_n C dX3_takesIn_46 rfl rfl ?_
    refine g_callV C gy_Jx4a65c_add_7a177 tw_3_45 tw_1_238 tw_1_239 (by decide) (kk := 7) rfl rfl (by exact hL.1) (m_addAt F S LS c j 0 cs hL hj hc.1 (by omega) (by decide) (fun x hx => hC.al x hx)) rfl rfl (Nat.le_of_ble_eq_true rfl) (by omega) (by omega) dX3_takesIn_47 (fun _ _ h9 => h9.elim) ?_
    rintro _ _ ⟨rfl, hL1, hF1⟩
    rename_i S1
    have haLS : a ≠ LS := hL.ne ha (by decide)
    have hP1 : PupF Γ S1 a LS LT TA TB := hP.fr hF1 (fun _ => haLS)
    have hno : ∀ x k, al S x k → k ≠ 7 → x ≠ LS := fun x k hx hk => hL.ne hx hk
    have hC1 : Cues S1 (insL cs j c) (insA ds j d) := (hC.fr hF1 (fun x hx _ _ => hno x 0 hx (by decide))).ins hj (hc.fr hF1 (fun _ _ => hno c 0 hc.1 (by decide)))
    have hT1 : isL Γ S1 LT ts0 := hT0.fr hF1 hLn.symm hLn.symm (fun E _ hw h => hLn.symm h)
    have hsr1 : srt (insA ds j d) := srt_ins hsr h1 (fun x hx => by have := h2 x hx; omega)
    have hil := insL_len (v := c) hj
    refine g_aload_n C dX3_takesIn_50 rfl rfl ?_
    refine g_callV C gy_X3_isScriptRight tw_3_46 tw_3_48 ts_16 (by decide) (kk := 3) rfl rfl (by exact hP1.1) (m_isScriptRight F S1 a LS _ _ hP1.1 hP1.2.1 hL1 hC1) rfl rfl (Nat.le_of_ble_eq_true rfl) (by omega) (by omega) dX3_takesIn_51 (fun _ _ h9 => h9.elim) ?_
    rintro _ _ ⟨rfl, hF2⟩
    rename_i S2
    have hF12 : Fr S S2 (moL LS) (maL LS) := hF1.tr hF2 (fun _ _ _ h => h.elim id False.elim) (fun _ _ _ h => h.elim id False.elim)
    have hL2 : isL Γ S2 LS (insL cs j c) := hL1.fr hF2 id id (fun _ _ _ => id)
    have hP2 : PupF Γ S2 a LS LT TA TB := hP1.fr hF2 (fun _ => id)
    have hC2 : Cues S2 (insL cs j c) (insA ds j d) := hC1.fr hF2 (fun _ _ _ _ => id)
    have hT2 : isL Γ S2 LT ts0 := hT1.fr hF2 id id (fun _ _ _ => id)
    cases hok : okL none (insA ds j d) with
    | true =>
      refine g_if_ne C dX3_takesIn_54 (tgt := 68) (by decide) (fun c1 => ?_) (fun c1 => ?_)
      · refine g_aload_n C dX3_takesIn_68 rfl rfl ?_
        refine g_callV C gy_X3_playScript tw_3_99 tw_3_101 ts_19 (by decide) (kk := 3) rfl rfl (by exact hP2.1) (m_playScript F S2 a LS LT TA TB _ ts0 _ hP2 hL2 hT2 hC2 hok hsr1 (by omega)) rfl rfl (Nat.le_of_ble_eq_true rfl) (by omega) (by omega) dX3_takesIn_69 (fun _ _ h9 => h9.elim) ?_
        rintro _ _ ⟨rfl, hV, hF3⟩
        refine g_iconst C dX3_takesIn_72 (v := 1) (by decide) ?_
        refine g_iret C R rfl (by omega) (by omega) dX3_takesIn_73 ?_
        rename_i S3
        have hL3 : isL Γ S3 LS (insL cs j c) := hL2.fr hF3 hLn hLn (fun E hE hw h => by
          rcases h with h | h | h
          · exact hLn h
          · exact (hE.kne hP2.2.2.2.2.2.1.1 (by decide)) h
          · exact (hE.kne hP2.2.2.2.2.2.2.1.1 (by decide)) h)
        exact Or.inl ⟨hok, rfl, hL3, hV, hF12.tr hF3 (fun f b hb h => h) (fun o b hb h => by
          rcases h with h | h | h | h
          · exact Or.inl h
          · exact Or.inr (Or.inl h)
          · exact Or.inr (Or.inr (Or.inl h))
          · exact Or.inr (Or.inr (Or.inr h)))⟩
      · exact absurd c1 (by decide)
    | false =>
      refine g_if_ne C dX3_takesIn_54 (tgt := 68) (by decide) (fun c1 => ?_) (fun c1 => ?_)
      · exact absurd rfl c1
      · have hg : (insL cs j c)[j]? = some c := by rw [insL_get hj, if_neg (by omega), if_pos rfl]
        refine g_aload_n C dX3_takesIn_57 rfl rfl ?_
        refine ge_Puppet_script C tw_2_159 (by exact hP2.1) (by exact hP2.2.1) dX3_takesIn_58 ?_
        refine g_iload_n C dX3_takesIn_61 rfl rfl ?_
        refine g_callV C gy_Jx4a65c_remove_915e3 tw_3_91 tw_3_92 tw_3_93 (by decide) (kk := 7) rfl rfl (by exact hL2.1) (m_remove F S2 LS j 0 c _ hL2 hg (by decide) (fun x hx => hC2.al x hx)) rfl rfl (Nat.le_of_ble_eq_true rfl) (by omega) (by omega) dX3_takesIn_62 (fun _ _ h9 => h9.elim) ?_
        rintro _ _ ⟨rfl, hL3, hF3⟩
        refine g_pop C dX3_takesIn_65 rfl ?_
        refine g_iconst C dX3_takesIn_66 (v := 0) (by decide) ?_
        refine g_iret C R rfl (by omega) (by omega) dX3_takesIn_67 ?_
        rw [rem_ins hj] at hL3
        exact Or.inr ⟨hok, rfl, hL3, hF12.trL hF3⟩
  have loop : ∀ (j : Nat), j ≤ cs.length → (∀ x, x ∈ ds.drop j → d.2.1 < x.2.1) → GW Γ X S 0 0 8 [(0, .ref a), (1, .ref c), (2, .int (nI j))] [] := by
    intro j
    induction j with
    | zero =>
      intro hj h2
      refine g_iload_n C dX3_takesIn_8 rfl rfl ?_
      refine g_if_le C dX3_takesIn_9 (tgt := 41) (by decide) (fun c1 => ?_) (fun c1 => ?_)
      · refine g_sub [(0, _), (1, _), (2, _)] ⟨rfl, rfl, rfl, trivial⟩ ?_
        exact body 0 hj (fun x hx => by simp at hx) h2
      · exact absurd (by decide) c1
    | succ j ih =>
      intro hj h2
      obtain ⟨c2, hc2⟩ : ∃ c2, cs[j]? = some c2 := ⟨_, List.getElem?_eq_getElem (by omega)⟩
      obtain ⟨d2, hd2⟩ : ∃ d2, ds[j]? = some d2 := ⟨_, List.getElem?_eq_getElem (by omega)⟩
      have hco := hC.2 j c2 d2 hc2 hd2
      have hsp := srt_split hsr hd2
      have hb2 : d2.2.1 < 1000 := hco.2.2.2.2.2.2.1
      refine g_iload_n C dX3_takesIn_8 rfl rfl ?_
      refine g_if_le C dX3_takesIn_9 (tgt := 41) (by decide) (fun c1 => ?_) (fun c1 => ?_)
      · exact absurd c1 (nI_nle (by omega) (by omega))
      · refine g_aload_n C dX3_takesIn_12 rfl rfl ?_
        refine ge_Puppet_script C tw_2_159 (by exact ha) (by exact hLS) dX3_takesIn_13 ?_
        refine g_iload_n C dX3_takesIn_16 rfl rfl ?_
        refine g_iconst C dX3_takesIn_17 (v := 1) (by decide) ?_
        refine g_isub C dX3_takesIn_18 ?_
        rw [nI_pred]
        refine g_callV C gy_Jx4a65c_get_915e3 tw_3_43 tw_1_162 tw_1_163 (by decide) (kk := 7) rfl rfl (by exact hL.1) (m_get F S LS cs hL j c2 hc2) rfl rfl (Nat.le_of_ble_eq_true rfl) (by omega) (by omega) dX3_takesIn_19 (fun _ _ h9 => h9.elim) ?_
        rintro _ _ ⟨rfl, rfl⟩
        refine g_cast C (kk := 0) rfl hco.1 tw_3_44 dX3_takesIn_22 ?_
        refine ge_Cue_beat C tw_3_4 (by exact hco.1) (by exact hco.2.2.1) dX3_takesIn_25 ?_
        refine g_aload_n C dX3_takesIn_28 rfl rfl ?_
        refine ge_Cue_beat C tw_3_4 (by exact hc.1) (by exact hc.2.2.1) dX3_takesIn_29 ?_
        refine g_icmp_le C dX3_takesIn_32 (tgt := 41) (by decide) (fun c3 => ?_) (fun c3 => ?_)
        · have h3 : d2.2.1 ≤ d.2.1 := (nI_leI (by omega) (by omega)).mp c3
          refine g_sub [(0, _), (1, _), (2, _)] ⟨rfl, rfl, rfl, trivial⟩ ?_
          refine body (j + 1) hj (fun x hx => ?_) h2
          rw [take_succ_get hd2] at hx
          rcases List.mem_append.mp hx with h | h
          · have := hsp.1 x h; omega
          · rw [List.mem_singleton] at h; rw [h]; exact h3
        · have h3 : d.2.1 < d2.2.1 := by
            rcases Nat.lt_or_ge d.2.1 d2.2.1 with q | q
            · exact q
            · exact absurd (nI_le q (by omega)) c3
          refine g_iinc C dX3_takesIn_35 rfl (by first | exact decr1 _ | exact rfl) (by decide) rfl ?_
          refine g_goto C dX3_takesIn_38 (tgt := 8) (by decide) ?_
          refine g_sub [(0, _), (1, _), (2, _)] ⟨rfl, rfl, rfl, trivial⟩ ?_
          refine ih (by omega) (fun x hx => ?_)
          have := hsp.2 x hx
          omega
  refine g_aload_n C dX3_takesIn_0 rfl rfl ?_
  refine ge_Puppet_script C tw_2_159 (by exact ha) (by exact hLS) dX3_takesIn_1 ?_
  refine g_callV C gy_Jx4a65c_size_8abf5 tw_3_42 tw_1_90 tw_1_91 (by decide) (kk := 7) rfl rfl (by exact hL.1) (m_size F S LS cs hL) rfl rfl (Nat.le_of_ble_eq_true rfl) (by omega) (by omega) dX3_takesIn_4 (fun _ _ h9 => h9.elim) ?_
  rintro _ _ ⟨rfl, rfl⟩
  refine g_istore_n C dX3_takesIn_7 rfl (by decide) rfl ?_
  refine g_sub [(0, _), (1, _), (2, _)] ⟨rfl, rfl, rfl, trivial⟩ ?_
  exact loop cs.length (Nat.le_refl _) (fun x hx => by rw [List.drop_eq_nil_of_le (by omega)] at hx; cases hx)
