/-! ===== scripts: what a puppet's cues in their order say; the class Puppet ===== -/
def pth (p : PT) (l : List D4) : PT := l.foldl pFollow p
def okL (p : PT) : List D4 → Bool
  | [] => true
  | d :: l => pAllows p d && okL (pFollow p d) l
def upTo (l : List D4) (b : Nat) : List D4 := l.filter (fun d => decide (d.2.1 ≤ b))
def srt (l : List D4) : Prop := l.Pairwise (fun a b => a.2.1 ≤ b.2.1)
def plL (l : List D4) (b : Nat) : Option Nat := plAt (pth none (upTo l b)) b
def trL (l : List D4) (b : Nat) : Option Nat := trOf (pth none (upTo l b))
def sStep (s : List (Nat × Nat)) (d : D4) : List (Nat × Nat) :=
  if d.1 = 0 then s ++ [(d.2.1, 1000)] else if d.1 = 3 then (match s.getLast? with
    | none => s
    | some q => s.dropLast ++ [(q.1, d.2.1)]) else s
def stL (l : List D4) : List (Nat × Nat) := l.foldl sStep []
def fbLe (p : PT) (m : Nat) : Prop := ∀ e t fp tp fb tb, p = some (e, t, fp, tp, fb, tb) → fb ≤ m
theorem take_succ_get {α : Type} {l : List α} {i : Nat} {d : α} (h : l[i]? = some d) : l.take (i + 1) = l.take i ++ [d] := by
  rw [List.take_succ, h]; rfl
theorem pth_succ {l : List D4} {i : Nat} {d : D4} (p : PT) (h : l[i]? = some d) : pth p (l.take (i + 1)) = pFollow (pth p (l.take i)) d := by
  rw [take_succ_get h]; simp [pth]
theorem stL_succ {l : List D4} {i : Nat} {d : D4} (h : l[i]? = some d) : stL (l.take (i + 1)) = sStep (stL (l.take i)) d := by
  rw [take_succ_get h]; simp [stL]
theorem okL_at : ∀ (l : List D4) (p : PT) (i : Nat) (d : D4), okL p l = true → l[i]? = some d → pAllows (pth p (l.take i)) d = true := by
  intro l
  induction l with
  | nil => intro p i d _ h; simp at h
  | cons x l ih =>
    intro p i d h hi
    simp only [okL, Bool.and_eq_true] at h
    cases i with
    | zero => simp at hi; subst hi; exact h.1
    | succ i =>
      simp at hi
      have := ih (pFollow p x) i d h.2 hi
      simpa [pth] using this
theorem okL_stop : ∀ (l : List D4) (p : PT) (i : Nat) (d : D4), l[i]? = some d → pAllows (pth p (l.take i)) d = false → okL p l = false := by
  intro l
  induction l with
  | nil => intro p i d h; simp at h
  | cons x l ih =>
    intro p i d hi h
    simp only [okL, Bool.and_eq_false_iff]
    cases i with
    | zero => simp at hi; subst hi; exact Or.inl h
    | succ i =>
      simp at hi
      exact Or.inr (ih (pFollow p x) i d hi (by simpa [pth] using h))
theorem okL_all : ∀ (l : List D4) (p : PT), (∀ i d, l[i]? = some d → pAllows (pth p (l.take i)) d = true) → okL p l = true := by
  intro l
  induction l with
  | nil => intro p _; rfl
  | cons x l ih =>
    intro p h
    simp only [okL, Bool.and_eq_true]
    refine ⟨h 0 x rfl, ih _ (fun i d hi => ?_)⟩
    have := h (i + 1) d (by simpa using hi)
    simpa [pth] using this
theorem pth_fb : ∀ (l : List D4) (p : PT) (m : Nat), (∀ d, d ∈ l → d.2.1 ≤ m) → fbLe p m → fbLe (pth p l) m := by
  intro l
  induction l with
  | nil => intro p m _ h; exact h
  | cons x l ih =>
    intro p m h hp
    refine ih (pFollow p x) m (fun d hd => h d (List.mem_cons_of_mem _ hd)) ?_
    intro e t fp tp fb tb he
    have hx := h x List.mem_cons_self
    unfold pFollow at he
    by_cases h0 : x.1 = 0
    · rw [if_pos h0] at he
      cases he
      exact hx
    · rw [if_neg h0] at he
      cases p with
      | none => cases he
      | some q =>
        obtain ⟨e', t', fp', tp', fb', tb'⟩ := q
        simp only at he
        have hq := hp _ _ _ _ _ _ rfl
        by_cases h1 : x.1 = 1
        · rw [if_pos h1] at he
          cases he
          exact hx
        · rw [if_neg h1] at he
          by_cases h2 : x.1 = 2
          · rw [if_pos h2] at he
            cases he
            exact hq
          · rw [if_neg h2] at he
            cases he
theorem upTo_take {l : List D4} {i b : Nat} (h1 : ∀ d, d ∈ l.take i → d.2.1 ≤ b) (h2 : ∀ d, d ∈ l.drop i → b < d.2.1) : upTo l b = l.take i := by
  unfold upTo
  conv => lhs; rw [← List.take_append_drop i l]
  rw [List.filter_append, List.filter_eq_self.mpr (fun d hd => by simpa using h1 d hd), List.filter_eq_nil_iff.mpr (fun d hd => by have := h2 d hd; simp; omega), List.append_nil]
theorem srt_split {l : List D4} (h : srt l) {i : Nat} {d : D4} (hi : l[i]? = some d) : (∀ x, x ∈ l.take i → x.2.1 ≤ d.2.1) ∧ (∀ x, x ∈ l.drop i → d.2.1 ≤ x.2.1) := by
  have hil : i < l.length := (List.getElem?_eq_some_iff.mp hi).1
  have e : l = l.take i ++ d :: l.drop (i + 1) := by
    have h2 : l.drop i = d :: l.drop (i + 1) := by
      rw [List.drop_eq_getElem_cons hil]
      congr 1
      exact (List.getElem?_eq_some_iff.mp hi).2
    rw [← h2, List.take_append_drop]
  have hp : srt (l.take i ++ d :: l.drop (i + 1)) := e ▸ h
  have hq := List.pairwise_append.mp hp
  refine ⟨fun x hx => hq.2.2 x hx d List.mem_cons_self, fun x hx => ?_⟩
  have h2 : l.drop i = d :: l.drop (i + 1) := by
    rw [List.drop_eq_getElem_cons hil]
    congr 1
    exact (List.getElem?_eq_some_iff.mp hi).2
  rw [h2] at hx
  rcases List.mem_cons.mp hx with rfl | hx
  · exact Nat.le_refl _
  · exact List.rel_of_pairwise_cons hq.2.1 hx
theorem okP_pth : ∀ (l : List D4) (p : PT), okP p → (∀ d, d ∈ l → okD d) → okP (pth p l) := by
  intro l
  induction l with
  | nil => intro p h _; exact h
  | cons x l ih => intro p h hd; exact ih _ (okP_follow h (hd x List.mem_cons_self)) (fun d h9 => hd d (List.mem_cons_of_mem _ h9))
def Cues (S : PS) (cs : List Nat) (ds : List D4) : Prop := cs.length = ds.length ∧ ∀ (i c : Nat) (d : D4), cs[i]? = some c → ds[i]? = some d → CueObj S c d
theorem Cues.fr {S S' : PS} {mo ma : Nat → Nat → Prop} {cs : List Nat} {ds : List D4} (h : Cues S cs ds) (hf : Fr S S' mo ma) (hm : ∀ c, al S c 0 → ∀ f, f < 5 → ¬ mo f c) : Cues S' cs ds := ⟨h.1, fun i c d hc hd => (h.2 i c d hc hd).fr hf (hm c (h.2 i c d hc hd).1)⟩
theorem Cues.al {S : PS} {cs : List Nat} {ds : List D4} (h : Cues S cs ds) : ∀ c, c ∈ cs → al S c 0 := by
  intro c hc
  obtain ⟨i, hi⟩ := List.getElem?_of_mem hc
  have hil : i < ds.length := by rw [← h.1]; exact (List.getElem?_eq_some_iff.mp hi).1
  exact (h.2 i c _ hi (List.getElem?_eq_getElem hil)).1
theorem PathIs.fr {S S' : PS} {mo ma : Nat → Nat → Prop} {q : Nat} {p : PT} (h : PathIs S q p) (hf : Fr S S' mo ma) (hm : ∀ f, 32 ≤ f → f ≤ 38 → ¬ mo f q) : PathIs S' q p := by
  obtain ⟨h1, h2, h3⟩ := h
  have e := (hf q h1.1).2.2.2.2.1
  refine ⟨h1.fr hf, h2, ?_⟩
  cases p with
  | none => exact (e 32 (hm 32 (by decide) (by decide))).1.trans h3
  | some w =>
    obtain ⟨w1, w2, w3, w4, w5, w6⟩ := w
    obtain ⟨a1, a2, a3, a4, a5, a6, a7⟩ := h3
    exact ⟨(e 32 (hm 32 (by decide) (by decide))).1.trans a1, (e 33 (hm 33 (by decide) (by decide))).1.trans a2, (e 34 (hm 34 (by decide) (by decide))).1.trans a3, (e 35 (hm 35 (by decide) (by decide))).1.trans a4, (e 36 (hm 36 (by decide) (by decide))).1.trans a5, (e 37 (hm 37 (by decide) (by decide))).1.trans a6, (e 38 (hm 38 (by decide) (by decide))).1.trans a7⟩
def StayO (S : PS) (t a : Nat) (q : Nat × Nat) : Prop := al S t 4 ∧ pP S 128 t = some a ∧ pI S 129 t = nI q.1 ∧ pI S 130 t = nI q.2 ∧ q.1 < 1000 ∧ q.2 ≤ 1000
theorem StayO.fr {S S' : PS} {mo ma : Nat → Nat → Prop} {t a : Nat} {q : Nat × Nat} (h : StayO S t a q) (hf : Fr S S' mo ma) (hm : ∀ f, 128 ≤ f → f ≤ 130 → ¬ mo f t) : StayO S' t a q := by
  obtain ⟨h1, h2, h3, h4, h5⟩ := h
  have e := (hf t h1.1).2.2.2.2.1
  exact ⟨h1.fr hf, (e 128 (hm 128 (by decide) (by decide))).2.trans h2, (e 129 (hm 129 (by decide) (by decide))).1.trans h3, (e 130 (hm 130 (by decide) (by decide))).1.trans h4, h5⟩
def StaysI (S : PS) (a : Nat) (ts : List Nat) (ss : List (Nat × Nat)) : Prop := ts.length = ss.length ∧ ts.Nodup ∧ ∀ (i t : Nat) (q : Nat × Nat), ts[i]? = some t → ss[i]? = some q → StayO S t a q
theorem StaysI.al {S : PS} {a : Nat} {ts : List Nat} {ss : List (Nat × Nat)} (h : StaysI S a ts ss) : ∀ t, t ∈ ts → al S t 4 := by
  intro t ht
  obtain ⟨i, hi⟩ := List.getElem?_of_mem ht
  have hil : i < ss.length := by rw [← h.1]; exact (List.getElem?_eq_some_iff.mp hi).1
  exact (h.2.2 i t _ hi (List.getElem?_eq_getElem hil)).1
theorem StaysI.fr {S S' : PS} {mo ma : Nat → Nat → Prop} {a : Nat} {ts : List Nat} {ss : List (Nat × Nat)} (h : StaysI S a ts ss) (hf : Fr S S' mo ma) (hm : ∀ t, t ∈ ts → ∀ f, 128 ≤ f → f ≤ 130 → ¬ mo f t) : StaysI S' a ts ss := ⟨h.1, h.2.1, fun i t q ht hq => (h.2.2 i t q ht hq).fr hf (hm t (List.mem_of_getElem? ht))⟩
theorem isL.ne {Γ : GBase} {S : PS} {a b k : Nat} {xs : List Nat} (h : isL Γ S a xs) (hb : al S b k) (hk : k ≠ 7) : b ≠ a := hb.kne h.1 hk
/-! the methods -/
theorem m_isScriptRight {Γ : GBase} (F : FB Γ) (S : PS) (a LS : Nat) (cs : List Nat) (ds : List D4) (ha : al S a 3) (hLS : pP S 100 a = some LS) (hL : isL Γ S LS cs) (hC : Cues S cs ds) : GMet Γ yX3_isScriptRight cX3_isScriptRight 4 ((some FieldType.boolean)) 4 1 7 [.ref a] S (fun r S' => r = some (.int (if okL none ds then 1 else 0)) ∧ Fr S S' maN maN) noX := by
  have hlen := hL.len
  refine GMet.of (loc0 := [(0, .ref a)]) F (by decide +kernel) rfl (Nat.le_of_ble_eq_true rfl) (fun X C R Tb nm => ?_)
  refine g_new C kd_1 tw_3_50 tw_3_51 tw_1_20 (by omega) (by omega) dX3_isScriptRight_0 (fun q hq => ?_)
  have haq := ha.nO (k := 1) hq
  refine g_dup C dX3_isScriptRight_3 rfl ?_
  refine g_callIN C gy_X1_init tw_3_52 tw_3_53 rfl rfl (by decide) (m_Path_init F _ q al_nO) rfl rfl (Nat.le_of_ble_eq_true rfl) (by omega) (by omega) dX3_isScriptRight_4 ?_
  rintro _ _ ⟨rfl, hP0, hF0⟩
  refine g_astore_n C dX3_isScriptRight_7 rfl (by decide) rfl ?_
  have hFS : Fr S ‹PS› maN maN := (fr_new (mo := maN) (ma := maN) hq).tr hF0 (fun f b hb h => h.elim id (fun h2 => absurd h2 (mem_ne hb hq))) (fun _ _ _ h => h.elim id id)
  rename_i S1
  have loop : ∀ (m i : Nat) (S2 : PS), i + m = cs.length → Fr S S2 maN maN → PathIs S2 q (pth none (ds.take i)) → (∀ j d, j < i → ds[j]? = some d → pAllows (pth none (ds.take j)) d = true) → GW Γ X S2 1 7 10 [(0, .ref a), (1, .ref q), (2, .int (nI i))] [] := by
    intro m
    induction m with
    | zero =>
      intro i S2 hi hF2 hP2 hA
      have hL2 : isL Γ S2 LS cs := hL.fr hF2 id id (fun _ _ _ => id)
      refine g_iload_n C dX3_isScriptRight_10 rfl rfl ?_
      refine g_aload_n C dX3_isScriptRight_11 rfl rfl ?_
      refine ge_Puppet_script C tw_2_159 (by exact (ha.fr hF2)) (by exact ((hF2 a ha.1).2.2.2.2.1 100 id).2.trans hLS) dX3_isScriptRight_12 ?_
      refine g_callV C gy_Jx4a65c_size_8abf5 tw_3_42 tw_1_90 tw_1_91 (by decide) (kk := 7) rfl rfl (by exact hL2.1) (m_size F S2 LS cs hL2) rfl rfl (Nat.le_of_ble_eq_true rfl) (by omega) (by omega) dX3_isScriptRight_15 (fun _ _ h9 => h9.elim) ?_
      rintro _ _ ⟨rfl, rfl⟩
      refine g_icmp_ge C dX3_isScriptRight_18 (tgt := 54) (by decide) (fun c => ?_) (fun c => ?_)
      · refine g_iconst C dX3_isScriptRight_54 (v := 1) (by decide) ?_
        refine g_iret C R rfl (by omega) (by omega) dX3_isScriptRight_55 ?_
        refine ⟨?_, hF2⟩
        rw [if_pos (okL_all ds none (fun j d hd => hA j d (by have := (List.getElem?_eq_some_iff.mp hd).1; have := hC.1; omega) hd))]
      · exact absurd (nI_le (by omega) (by omega)) c
    | succ m ih =>
      intro i S2 hi hF2 hP2 hA
      have hL2 : isL Γ S2 LS cs := hL.fr hF2 id id (fun _ _ _ => id)
      have hC2 : Cues S2 cs ds := hC.fr hF2 (fun _ _ _ _ => id)
      have hLS2 : pP S2 100 a = some LS := ((hF2 a ha.1).2.2.2.2.1 100 id).2.trans hLS
      obtain ⟨c, hc⟩ : ∃ c, cs[i]? = some c := ⟨_, List.getElem?_eq_getElem (by omega)⟩
      obtain ⟨d, hd⟩ : ∃ d, ds[i]? = some d := ⟨_, List.getElem?_eq_getElem (by have := hC.1; omega)⟩
      have hco := hC2.2 i c d hc hd
      refine g_iload_n C dX3_isScriptRight_10 rfl rfl ?_
      refine g_aload_n C dX3_isScriptRight_11 rfl rfl ?_
      refine ge_Puppet_script C tw_2_159 (by exact (ha.fr hF2)) (by exact hLS2) dX3_isScriptRight_12 ?_
      refine g_callV C gy_Jx4a65c_size_8abf5 tw_3_42 tw_1_90 tw_1_91 (by decide) (kk := 7) rfl rfl (by exact hL2.1) (m_size F S2 LS cs hL2) rfl rfl (Nat.le_of_ble_eq_true rfl) (by omega) (by omega) dX3_isScriptRight_15 (fun _ _ h9 => h9.elim) ?_
      rintro _ _ ⟨rfl, rfl⟩
      refine g_icmp_ge C dX3_isScriptRight_18 (tgt := 54) (by decide) (fun cc => ?_) (fun cc => ?_)
      · exact absurd cc (nI_ge (by omega) (by omega))
      · refine g_aload_n C dX3_isScriptRight_21 rfl rfl ?_
        refine ge_Puppet_script C tw_2_159 (by exact (ha.fr hF2)) (by exact hLS2) dX3_isScriptRight_22 ?_
        refine g_iload_n C dX3_isScriptRight_25 rfl rfl ?_
        refine g_callV C gy_Jx4a65c_get_915e3 tw_3_43 tw_1_162 tw_1_163 (by decide) (kk := 7) rfl rfl (by exact hL2.1) (m_get F S2 LS cs hL2 i c hc) rfl rfl (Nat.le_of_ble_eq_true rfl) (by omega) (by omega) dX3_isScriptRight_26 (fun _ _ h9 => h9.elim) ?_
        rintro _ _ ⟨rfl, rfl⟩
        refine g_cast C (kk := 0) rfl hco.1 tw_3_44 dX3_isScriptRight_29 ?_
        refine g_astore_n C dX3_isScriptRight_32 rfl (by decide) rfl ?_
        refine g_aload_n C dX3_isScriptRight_33 rfl rfl ?_
        refine g_aload_n C dX3_isScriptRight_34 rfl rfl ?_
        refine g_callV C gy_X1_allows tw_3_78 tw_3_79 tw_3_80 (by decide) (kk := 1) rfl rfl (by exact hP2.1) (m_allows F S2 q c _ d hP2 hco) rfl rfl (Nat.le_of_ble_eq_true rfl) (by omega) (by omega) dX3_isScriptRight_35 (fun _ _ h9 => h9.elim) ?_
        rintro _ _ ⟨rfl, rfl⟩
        cases hal : pAllows (pth none (ds.take i)) d with
        | false =>
          refine g_if_ne C dX3_isScriptRight_38 (tgt := 43) (by decide) (fun c2 => ?_) (fun c2 => ?_)
          · exact absurd rfl c2
          · refine g_iconst C dX3_isScriptRight_41 (v := 0) (by decide) ?_
            refine g_iret C R rfl (by omega) (by omega) dX3_isScriptRight_42 ?_
            refine ⟨?_, hF2⟩
            rw [okL_stop ds none i d hd hal]; rfl
        | true =>
          refine g_if_ne C dX3_isScriptRight_38 (tgt := 43) (by decide) (fun c2 => ?_) (fun c2 => ?_)
          · refine g_aload_n C dX3_isScriptRight_43 rfl rfl ?_
            refine g_aload_n C dX3_isScriptRight_44 rfl rfl ?_
            refine g_callV C gy_X1_follow tw_3_83 tw_3_84 tw_3_85 (by decide) (kk := 1) rfl rfl (by exact hP2.1) (m_follow F S2 q c _ d hP2 hco hal) rfl rfl (Nat.le_of_ble_eq_true rfl) (by omega) (by omega) dX3_isScriptRight_45 (fun _ _ h9 => h9.elim) ?_
            rintro _ _ ⟨rfl, hP3, hF3⟩
            refine g_iinc C dX3_isScriptRight_48 rfl (by first | exact inc1 _ | exact rfl) (by decide) rfl ?_
            refine g_goto C dX3_isScriptRight_51 (tgt := 10) (by decide) ?_
            refine g_sub [(0, _), (1, _), (2, _)] ⟨rfl, rfl, rfl, trivial⟩ ?_
            refine ih (i + 1) _ (by omega) ?_ (by rw [pth_succ none hd]; exact hP3) (fun j d' hj hd' => ?_)
            · exact hF2.tr hF3 (fun f b hb h => h.elim id (fun h2 => absurd h2 (mem_ne hb hq))) (fun _ _ _ h => h.elim id id)
            · rcases Nat.lt_or_ge j i with h | h
              · exact hA j d' h hd'
              · have : j = i := by omega
                subst this
                rw [hd] at hd'
                cases hd'
                exact hal
          · exact absurd c2 (by decide)
  refine g_iconst C dX3_isScriptRight_8 (v := 0) (by decide) ?_
  refine g_istore_n C dX3_isScriptRight_9 rfl (by decide) rfl ?_
  refine g_sub [(0, _), (1, _), (2, _)] ⟨rfl, rfl, rfl, trivial⟩ ?_
  exact loop cs.length 0 S1 (by omega) hFS hP0 (fun j d hj => absurd hj (Nat.not_lt_zero _))
