/-! ===== the class Puppet: its script played, taken in, taken out ===== -/
def moP (LT : Nat) : Nat → Nat → Prop := fun _ b => b = LT
def maP (LT TA TB : Nat) : Nat → Nat → Prop := fun o b => o = LT ∨ b = TA ∨ b = TB
/-- what a puppet's own cells are: script, stays' list, two rows -/
def PupF (Γ : GBase) (S : PS) (a LS LT TA TB : Nat) : Prop := al S a 3 ∧ pP S 100 a = some LS ∧ pP S 101 a = some LT ∧ pP S 102 a = some TA ∧ pP S 103 a = some TB ∧ RowI S TA a 1000 ∧ RowI S TB a 1000 ∧ TA ≠ TB ∧ LS ≠ LT ∧ al S LS 7 ∧ al S LT 7
theorem PupF.fr {Γ : GBase} {S S' : PS} {mo ma : Nat → Nat → Prop} {a LS LT TA TB : Nat} (h : PupF Γ S a LS LT TA TB) (hf : Fr S S' mo ma) (hm : ∀ f, ¬ mo f a) : PupF Γ S' a LS LT TA TB := by
  obtain ⟨h1, h2, h3, h4, h5, h6, h7, h8, h9, h10, h11⟩ := h
  have e := (hf a h1.1).2.2.2.2.1
  exact ⟨h1.fr hf, (e 100 (hm _)).2.trans h2, (e 101 (hm _)).2.trans h3, (e 102 (hm _)).2.trans h4, (e 103 (hm _)).2.trans h5, h6.fr hf, h7.fr hf, h8, h9, h10.fr hf, h11.fr hf⟩
/-- what the rows and the stays say of the cues ds -/
def PupV (Γ : GBase) (S : PS) (a LT TA TB : Nat) (ds : List D4) : Prop := (∃ ts, isL Γ S LT ts ∧ StaysI S a ts (stL ds)) ∧ ∀ b, b < 1000 → pR S TA b = zO (plL ds b) ∧ pR S TB b = zO (trL ds b)
theorem stL_len (l : List D4) : (stL l).length ≤ l.length := by
  have : ∀ (l : List D4) (s : List (Nat × Nat)), (l.foldl sStep s).length ≤ s.length + l.length := by
    intro l
    induction l with
    | nil => intro s; simp
    | cons d l ih =>
      intro s
      have h1 := ih (sStep s d)
      have h2 : (sStep s d).length ≤ s.length + 1 := by
        unfold sStep
        split
        · simp
        · split
          · split
            · omega
            · simp
          · omega
      simp only [List.foldl_cons, List.length_cons]
      omega
  have := this l []
  simpa [stL] using this
theorem m_playScript {Γ : GBase} (F : FB Γ) (S : PS) (a LS LT TA TB : Nat) (cs ts0 : List Nat) (ds : List D4) (hP : PupF Γ S a LS LT TA TB) (hL : isL Γ S LS cs) (hT0 : isL Γ S LT ts0) (hC : Cues S cs ds) (hok : okL none ds = true) (hsr : srt ds) (h40 : cs.length ≤ 40) : GMet Γ yX3_playScript cX3_playScript 5 ((none : Option FieldType)) 7 81 4167 [.ref a] S (fun r S' => r = none ∧ PupV Γ S' a LT TA TB ds ∧ Fr S S' (moP LT) (maP LT TA TB)) noX := by
  have hP0 := hP
  obtain ⟨ha, hLS, hLT, hTA, hTB, hRA, hRB, hne, hLn, hl7, hl8⟩ := hP
  have haLT : a ≠ LT := hT0.ne ha (by decide)
  have hlen2 := hC.1
  have hokD : ∀ d, d ∈ ds → okD d := by
    intro d hd
    obtain ⟨i, hi⟩ := List.getElem?_of_mem hd
    have hil : i < ds.length := (List.getElem?_eq_some_iff.mp hi).1
    exact (hC.2 i _ d (List.getElem?_eq_getElem (by omega)) hi).2.2.2.2.2
  refine GMet.of (loc0 := [(0, .ref a)]) F (by decide +kernel) rfl (Nat.le_of_ble_eq_true rfl) (fun X C R Tb nm => ?_)
  refine g_aload_n C dX3_playScript_0 rfl rfl ?_
  refine ge_Puppet_stayList C tw_2_160 (by exact ha) (by exact hLT) dX3_playScript_1 ?_
  refine g_callV C gy_Jx4a65c_clear_da8c8 tw_3_103 tw_1_230 tw_1_231 (by decide) (kk := 7) rfl rfl (by exact hT0.1) (m_clear F S LT ts0 hT0) rfl rfl (Nat.le_of_ble_eq_true rfl) (by omega) (by omega) dX3_playScript_4 (fun _ _ h9 => h9.elim) ?_
  rintro _ _ ⟨rfl, hT1, hF1⟩
  rename_i S1
  have hF1' : Fr S S1 (moP LT) (maP LT TA TB) := hF1.mono (fun _ _ _ h => h) (fun _ _ _ h => Or.inl h)
  refine g_new C kd_1 tw_3_50 tw_3_51 tw_1_20 (by omega) (by omega) dX3_playScript_7 (fun q hq => ?_)
  have hq0 : q ∉ pL S := fun h => hq (hF1 q h).1
  refine g_dup C dX3_playScript_10 rfl ?_
  refine g_callIN C gy_X1_init tw_3_52 tw_3_53 rfl rfl (by decide) (m_Path_init F _ q al_nO) rfl rfl (Nat.le_of_ble_eq_true rfl) (by omega) (by omega) dX3_playScript_11 ?_
  rintro _ _ ⟨rfl, hQ, hFq⟩
  refine g_astore_n C dX3_playScript_14 rfl (by decide) rfl ?_
  rename_i S2
  have hF2 : Fr S S2 (moP LT) (maP LT TA TB) := (hF1'.tr (fr_new (mo := moN) (ma := maN) hq) (fun _ _ _ h => h.elim id False.elim) (fun _ _ _ h => h.elim id False.elim)).tr hFq (fun f b hb h => h.elim id (fun h2 => absurd h2 (mem_ne hb hq0))) (fun _ _ _ h => h.elim id False.elim)
  have hFm : Fr S1 S2 moN maN := (fr_new (mo := moN) (ma := maN) hq).tr hFq (fun f b hb h => h.elim id (fun h2 => absurd h2 (mem_ne hb hq))) (fun _ _ _ h => h.elim id id)
  have hT2 : isL Γ S2 LT [] := hT1.fr hFm id id (fun _ _ _ => id)
  have hrA : ∀ {S3 : PS}, Fr S S3 (moP LT) (maP LT TA TB) → PupF Γ S3 a LS LT TA TB := fun hf => hP0.fr hf (fun _ => haLT)
  have hLf : ∀ {S3 : PS}, Fr S S3 (moP LT) (maP LT TA TB) → isL Γ S3 LS cs := fun hf => hL.fr hf hLn hLn (fun E hE hw h => by
    rcases h with h | h | h
    · exact hLn h
    · exact (hE.kne hRA.1 (by decide)) h
    · exact (hE.kne hRB.1 (by decide)) h)
  have hCf : ∀ {S3 : PS}, Fr S S3 (moP LT) (maP LT TA TB) → Cues S3 cs ds := fun hf => hC.fr hf (fun c hc f _ => hT0.ne hc (by decide))
  have loop : ∀ (m i pl : Nat) (S3 : PS) (ts : List Nat), i + m = cs.length → Fr S S3 (moP LT) (maP LT TA TB) → PathIs S3 q (pth none (ds.take i)) → isL Γ S3 LT ts → StaysI S3 a ts (stL (ds.take i)) → (∀ t, t ∈ ts → t ∉ pL S) → pl ≤ 1000 → (∀ d, d ∈ ds.take i → d.2.1 ≤ pl) → (∀ d, d ∈ ds.drop i → pl ≤ d.2.1) → (∀ b, b < pl → pR S3 TA b = zO (plL ds b) ∧ pR S3 TB b = zO (trL ds b)) → GW Γ X S3 (1 + 2 * i) (7 + 104 * i) 19 [(0, .ref a), (1, .ref q), (2, .int (nI pl)), (3, .int (nI i))] [] := by
    intro m
    induction m with
    | zero =>
      intro i pl S3 ts hi hf hq3 hT3 hS3 hnt hpl hlo hhi hrow
      obtain ⟨g1, g2, g3, g4, g5, g6, g7, -, -, -, -⟩ := hrA hf
      have hL3 := hLf hf
      refine g_iload_n C dX3_playScript_19 rfl rfl ?_
      refine g_aload_n C dX3_playScript_20 rfl rfl ?_
      refine ge_Puppet_script C tw_2_159 (by exact g1) (by exact g2) dX3_playScript_21 ?_
      refine g_callV C gy_Jx4a65c_size_8abf5 tw_3_42 tw_1_90 tw_1_91 (by decide) (kk := 7) rfl rfl (by exact hL3.1) (m_size F S3 LS cs hL3) rfl rfl (Nat.le_of_ble_eq_true rfl) (by omega) (by omega) dX3_playScript_24 (fun _ _ h9 => h9.elim) ?_
      rintro _ _ ⟨rfl, rfl⟩
      refine g_icmp_ge C dX3_playScript_27 (tgt := 78) (by decide) (fun c => ?_) (fun c => ?_)
      · have hfull : ds.take i = ds := List.take_of_length_le (by omega)
        refine g_aload_n C dX3_playScript_78 rfl rfl ?_
        refine g_aload_n C dX3_playScript_79 rfl rfl ?_
        refine g_iload_n C dX3_playScript_80 rfl rfl ?_
        refine g_sipush C dX3_playScript_81 (v := 1000) (by decide) ?_
        refine g_callV C gy_X3_playBeats tw_3_104 tw_3_106 ts_20 (by decide) (kk := 3) rfl rfl (by exact g1) (m_playBeats F S3 a q TA TB pl 1000 _ g1 g4 g5 g6 g7 hne hq3 (pth_fb _ _ _ hlo (fun _ _ _ _ _ _ h => nomatch h)) hpl (Nat.le_refl _)) rfl rfl (Nat.le_of_ble_eq_true rfl) (by omega) (by omega) dX3_playScript_84 (fun _ _ h9 => h9.elim) ?_
        rintro _ _ ⟨rfl, hFb, hrb⟩
        refine g_vret C R (by omega) (by omega) dX3_playScript_87 ?_
        rename_i S4
        have hF4 : Fr S3 S4 moN (ma2 TA TB) := hFb
        have e4 : isL Γ S4 LT ts := hT3.fr hF4 id id (fun E hE _ h => by
          rcases h with h | h
          · exact (hE.kne g6.1 (by decide)) h
          · exact (hE.kne g7.1 (by decide)) h)
        refine ⟨rfl, ⟨⟨ts, e4, by rw [← hfull]; exact hS3.fr hF4 (fun _ _ _ _ _ => id)⟩, fun b hb => ?_⟩, hf.tr hF4 (fun _ _ _ h => h.elim id False.elim) (fun _ _ _ h => h.elim id Or.inr)⟩
        by_cases hbp : b < pl
        · rw [((hrb b hb).2 (Or.inl hbp)).1, ((hrb b hb).2 (Or.inl hbp)).2]
          exact hrow b hbp
        · rw [((hrb b hb).1 (by omega) hb).1, ((hrb b hb).1 (by omega) hb).2]
          have hu : upTo ds b = ds.take i := upTo_take (fun d hd => by have := hlo d hd; omega) (fun d hd => by rw [List.drop_eq_nil_of_le (by omega)] at hd; cases hd)
          unfold plL trL
          rw [hu]
          exact ⟨rfl, rfl⟩
      · exact absurd (nI_le (by omega) (by omega)) c
    | succ m ih =>
      intro i pl S3 ts hi hf hq3 hT3 hS3 hnt hpl hlo hhi hrow
      obtain ⟨g1, g2, g3, g4, g5, g6, g7, -, -, -, -⟩ := id (hrA hf)
      have hL3 := hLf hf
      have hC3 := hCf hf
      obtain ⟨c, hc⟩ : ∃ c, cs[i]? = some c := ⟨_, List.getElem?_eq_getElem (by omega)⟩
      obtain ⟨d, hd⟩ : ∃ d, ds[i]? = some d := ⟨_, List.getElem?_eq_getElem (by omega)⟩
      have hco := hC3.2 i c d hc hd
      have hdm : d ∈ ds.drop i := by rw [List.drop_eq_getElem_cons (by omega)]; rw [show ds[i] = d from (List.getElem?_eq_some_iff.mp hd).2]; exact List.mem_cons_self
      have hdb := hhi d hdm
      have hd1 : d.2.1 < 1000 := hco.2.2.2.2.2.2.1
      have hsp := srt_split hsr hd
      have hal := okL_at ds none i d hok hd
      have hts : ts.length ≤ 60 := by
        rw [hS3.1]
        have := stL_len (ds.take i)
        simp at this
        omega
      refine g_iload_n C dX3_playScript_19 rfl rfl ?_
      refine g_aload_n C dX3_playScript_20 rfl rfl ?_
      refine ge_Puppet_script C tw_2_159 (by exact g1) (by exact g2) dX3_playScript_21 ?_
      refine g_callV C gy_Jx4a65c_size_8abf5 tw_3_42 tw_1_90 tw_1_91 (by decide) (kk := 7) rfl rfl (by exact hL3.1) (m_size F S3 LS cs hL3) rfl rfl (Nat.le_of_ble_eq_true rfl) (by omega) (by omega) dX3_playScript_24 (fun _ _ h9 => h9.elim) ?_
      rintro _ _ ⟨rfl, rfl⟩
      refine g_icmp_ge C dX3_playScript_27 (tgt := 78) (by decide) (fun cc => ?_) (fun cc => ?_)
      · exact absurd cc (nI_ge (by omega) (by omega))
      · refine g_aload_n C dX3_playScript_30 rfl rfl ?_
        refine ge_Puppet_script C tw_2_159 (by exact g1) (by exact g2) dX3_playScript_31 ?_
        refine g_iload_n C dX3_playScript_34 rfl rfl ?_
        refine g_callV C gy_Jx4a65c_get_915e3 tw_3_43 tw_1_162 tw_1_163 (by decide) (kk := 7) rfl rfl (by exact hL3.1) (m_get F S3 LS cs hL3 i c hc) rfl rfl (Nat.le_of_ble_eq_true rfl) (by omega) (by omega) dX3_playScript_35 (fun _ _ h9 => h9.elim) ?_
        rintro _ _ ⟨rfl, rfl⟩
        refine g_cast C (kk := 0) rfl hco.1 tw_3_44 dX3_playScript_38 ?_
        refine g_astore C dX3_playScript_41 (by decide) rfl ?_
        refine g_aload_n C dX3_playScript_43 rfl rfl ?_
        refine g_aload_n C dX3_playScript_44 rfl rfl ?_
        refine g_iload_n C dX3_playScript_45 rfl rfl ?_
        refine g_aload C dX3_playScript_46 rfl ?_
        refine ge_Cue_beat C tw_3_4 (by exact hco.1) (by exact hco.2.2.1) dX3_playScript_48 ?_
        refine g_callV C gy_X3_playBeats tw_3_104 tw_3_106 ts_20 (by decide) (kk := 3) rfl rfl (by exact g1) (m_playBeats F S3 a q TA TB pl d.2.1 _ g1 g4 g5 g6 g7 hne hq3 (pth_fb _ _ _ hlo (fun _ _ _ _ _ _ h => nomatch h)) hdb (by omega)) rfl rfl (Nat.le_of_ble_eq_true rfl) (by omega) (by omega) dX3_playScript_51 (fun _ _ h9 => h9.elim) ?_
        rintro _ _ ⟨rfl, hFb, hrb⟩
        rename_i S4
        have hf4 : Fr S S4 (moP LT) (maP LT TA TB) := hf.tr hFb (fun _ _ _ h => h.elim id False.elim) (fun _ _ _ h => h.elim id Or.inr)
        have hco4 := (hCf hf4).2 i c d hc hd
        have hq4 : PathIs S4 q (pth none (ds.take i)) := hq3.fr hFb (fun _ _ _ => id)
        have hT4 : isL Γ S4 LT ts := hT3.fr hFb id id (fun E hE _ h => by
          rcases h with h | h
          · exact (hE.kne g6.1 (by decide)) h
          · exact (hE.kne g7.1 (by decide)) h)
        have hS4 : StaysI S4 a ts (stL (ds.take i)) := hS3.fr hFb (fun _ _ _ _ _ => id)
        refine g_aload C dX3_playScript_54 rfl ?_
        refine ge_Cue_beat C tw_3_4 (by exact hco4.1) (by exact hco4.2.2.1) dX3_playScript_56 ?_
        refine g_istore_n C dX3_playScript_59 rfl (by decide) rfl ?_
        refine g_aload_n C dX3_playScript_60 rfl rfl ?_
        refine g_aload C dX3_playScript_61 rfl ?_
        refine g_callV C gy_X1_follow tw_3_83 tw_3_84 tw_3_85 (by decide) (kk := 1) rfl rfl (by exact hq4.1) (m_follow F S4 q c _ d hq4 hco4 hal) rfl rfl (Nat.le_of_ble_eq_true rfl) (by omega) (by omega) dX3_playScript_63 (fun _ _ h9 => h9.elim) ?_
        rintro _ _ ⟨rfl, hq5, hFf⟩
        rename_i S5
        have hf5 : Fr S S5 (moP LT) (maP LT TA TB) := hf4.tr hFf (fun f b hb h => h.elim id (fun h2 => absurd h2 (mem_ne hb hq0))) (fun _ _ _ h => h.elim id False.elim)
        have hco5 := (hCf hf5).2 i c d hc hd
        have hqk : ∀ x k, al S4 x k → k ≠ 1 → x ≠ q := fun x k hx hk => hx.kne hq4.1 hk
        have hT5 : isL Γ S5 LT ts := hT4.fr hFf (hqk _ _ hT4.1 (by decide)) (hqk _ _ hT4.1 (by decide)) (fun _ _ _ => id)
        have hS5 : StaysI S5 a ts (stL (ds.take i)) := hS4.fr hFf (fun t ht _ _ _ => hqk _ _ (hS4.al t ht) (by decide))
        have g15 := (hrA hf5).1
        refine g_aload_n C dX3_playScript_66 rfl rfl ?_
        refine g_aload C dX3_playScript_67 rfl ?_
        refine g_callV C gy_X3_recordStay tw_3_116 tw_3_118 ts_21 (by decide) (kk := 3) rfl rfl (by exact g15) (m_recordStay F S5 a c LT d ts _ g15 (hrA hf5).2.2.1 hT5 hS5 hco5 hts) rfl rfl (Nat.le_of_ble_eq_true rfl) (by omega) (by omega) dX3_playScript_69 (fun _ _ h9 => h9.elim) ?_
        rintro _ _ ⟨rfl, ⟨ts', hT6, hS6, hnew⟩, hFr⟩
        rename_i S6
        have hf6 : Fr S S6 (moP LT) (maP LT TA TB) := hf5.tr hFr (fun f b hb h => ?_) (fun _ _ _ h => h.elim id Or.inl)
        refine g_iinc C dX3_playScript_72 rfl (by first | exact inc1 _ | exact rfl) (by decide) rfl ?_
        refine g_goto C dX3_playScript_75 (tgt := 19) (by decide) ?_
        refine g_sub [(0, _), (1, _), (2, _), (3, _)] ⟨rfl, rfl, rfl, rfl, trivial⟩ ?_
        refine g_widen (1 + 2 * (i + 1)) (7 + 104 * (i + 1)) (by omega) (by omega) ?_
        refine ih (i + 1) d.2.1 S6 ts' (by omega) hf6 ?_ hT6 (by rw [stL_succ hd]; exact hS6) (fun t ht => ?_) (by omega) (fun x hx => ?_) (fun x hx => ?_) (fun b hb => ?_)
        · rw [pth_succ none hd]
          refine hq5.fr hFr (fun f _ _ h => ?_)
          rcases h with h | h
          · exact (hT5.ne hq5.1 (by decide)) h
          · exact ((hS5.al q h.2).kne hq5.1 (by decide)) rfl
        · rcases hnew t ht with h | h
          · exact hnt t h
          · exact fun h2 => h (hf5 t h2).1
        · rw [take_succ_get hd] at hx
          rcases List.mem_append.mp hx with h | h
          · exact hsp.1 x h
          · rw [List.mem_singleton] at h; rw [h]; exact Nat.le_refl _
        · refine hsp.2 x ?_
          rw [List.drop_eq_getElem_cons (by omega)]
          exact List.mem_cons_of_mem _ hx
        · have r6 : pR S6 TA = pR S4 TA ∧ pR S6 TB = pR S4 TB := by
            have a1 := (hrA hf4).2.2.2.2.2.1
            have b1 := (hrA hf4).2.2.2.2.2.2.1
            have a2 := (hrA hf5).2.2.2.2.2.1
            have b2 := (hrA hf5).2.2.2.2.2.2.1
            have e1 := ((hFf TA a1.1.1).2.2.2.2.2 id).1
            have e2 := ((hFf TB b1.1.1).2.2.2.2.2 id).1
            have e3 := ((hFr TA a2.1.1).2.2.2.2.2 (by rw [a2.2.2]; exact haLT)).1
            have e4 := ((hFr TB b2.1.1).2.2.2.2.2 (by rw [b2.2.2]; exact haLT)).1
            exact ⟨e3.trans e1, e4.trans e2⟩
          rw [r6.1, r6.2]
          have hb3 : b < 1000 := by omega
          by_cases hbp : b < pl
          · rw [((hrb b hb3).2 (Or.inl hbp)).1, ((hrb b hb3).2 (Or.inl hbp)).2]
            exact hrow b hbp
          · rw [((hrb b hb3).1 (by omega) hb).1, ((hrb b hb3).1 (by omega) hb).2]
            have hu : upTo ds b = ds.take i := upTo_take (fun x hx => by have := hlo x hx; omega) (fun x hx => by have := hsp.2 x hx; omega)
            unfold plL trL
            rw [hu]
            exact ⟨rfl, rfl⟩
        · rcases h with h | h | h
          · exact h
          · exact h
          · exact absurd hb (hnt b h.2)
  refine g_iconst C dX3_playScript_15 (v := 0) (by decide) ?_
  refine g_istore_n C dX3_playScript_16 rfl (by decide) rfl ?_
  refine g_iconst C dX3_playScript_17 (v := 0) (by decide) ?_
  refine g_istore_n C dX3_playScript_18 rfl (by decide) rfl ?_
  refine g_sub [(0, _), (1, _), (2, _), (3, _)] ⟨rfl, rfl, rfl, rfl, trivial⟩ ?_
  refine g_widen 1 7 (by omega) (by omega) ?_
  exact loop cs.length 0 0 S2 [] (by omega) hF2 hQ hT2 ⟨rfl, List.nodup_nil, fun i t q h => nomatch h⟩ (fun t h => nomatch h) (by omega) (fun d h => nomatch h) (fun d _ => Nat.zero_le _) (fun b h => absurd h (Nat.not_lt_zero _))
