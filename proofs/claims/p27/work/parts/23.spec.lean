/-! ===== the document's words, as numbers and lists ===== -/
/-- a cue's place in its puppet's order, as one number -/
def ckey (cu : Nat → Nat × D4) (c : Nat) : Nat := (cu c).2.2.1 * 64 + c
def isScr (cu : Nat → Nat × D4) (sk : Nat → Bool) (nc p : Nat) (l : List Nat) : Prop := l.Pairwise (fun a b => ckey cu a < ckey cu b) ∧ ∀ c, c ∈ l ↔ (c < nc ∧ (cu c).1 = p ∧ sk c = false)
theorem sorted_unique {f : Nat → Nat} : ∀ (l l' : List Nat), l.Pairwise (fun a b => f a < f b) → l'.Pairwise (fun a b => f a < f b) → (∀ c, c ∈ l ↔ c ∈ l') → l = l' := by
  intro l
  induction l with
  | nil =>
    intro l' _ _ h
    cases l' with
    | nil => rfl
    | cons b l' => exact absurd ((h b).mpr List.mem_cons_self) (by simp)
  | cons a l ih =>
    intro l' h1 h2 h
    cases l' with
    | nil => exact absurd ((h a).mp List.mem_cons_self) (by simp)
    | cons b l' =>
      have ha := List.pairwise_cons.mp h1
      have hb := List.pairwise_cons.mp h2
      have hab : a = b := by
        rcases List.mem_cons.mp ((h a).mp List.mem_cons_self) with e | e
        · exact e
        · rcases List.mem_cons.mp ((h b).mpr List.mem_cons_self) with e2 | e2
          · exact e2.symm
          · have := ha.1 b e2; have := hb.1 a e; omega
      subst hab
      congr 1
      refine ih l' ha.2 hb.2 (fun c => ⟨fun hc => ?_, fun hc => ?_⟩)
      · rcases List.mem_cons.mp ((h c).mp (List.mem_cons_of_mem _ hc)) with e | e
        · have := ha.1 c hc; rw [e] at this; omega
        · exact e
      · rcases List.mem_cons.mp ((h c).mpr (List.mem_cons_of_mem _ hc)) with e | e
        · have := hb.1 c hc; rw [e] at this; omega
        · exact e
theorem isScr.uniq {cu : Nat → Nat × D4} {sk : Nat → Bool} {nc p : Nat} {l l' : List Nat} (h : isScr cu sk nc p l) (h' : isScr cu sk nc p l') : l = l' := sorted_unique l l' h.1 h'.1 (fun c => (h.2 c).trans (h'.2 c).symm)
noncomputable def scr (cu : Nat → Nat × D4) (sk : Nat → Bool) (nc p : Nat) : List Nat := by
  classical exact if h : ∃ l, isScr cu sk nc p l then h.choose else []
theorem isScr.eqS {cu : Nat → Nat × D4} {sk : Nat → Bool} {nc p : Nat} {l : List Nat} (h : isScr cu sk nc p l) : scr cu sk nc p = l := by
  have hx : ∃ l, isScr cu sk nc p l := ⟨l, h⟩
  unfold scr
  rw [dif_pos hx]
  exact hx.choose_spec.uniq h
def dat (cu : Nat → Nat × D4) (l : List Nat) : List D4 := l.map (fun c => (cu c).2)
theorem isScr.nodup {cu : Nat → Nat × D4} {sk : Nat → Bool} {nc p : Nat} {l : List Nat} (h : isScr cu sk nc p l) : l.Nodup := h.1.imp (fun hab => fun e => by rw [e] at hab; omega)
theorem isScr.srtD {cu : Nat → Nat × D4} {sk : Nat → Bool} {nc p : Nat} {l : List Nat} (h : isScr cu sk nc p l) (hn : nc ≤ 64) : srt (dat cu l) := by
  unfold srt dat
  rw [List.pairwise_map]
  refine List.Pairwise.imp_of_mem ?_ h.1
  intro a b ha hb hab
  have h1 := ((h.2 a).mp ha).1
  have h2 := ((h.2 b).mp hb).1
  unfold ckey at hab
  omega
theorem nodup_lt_len : ∀ (n : Nat) (l : List Nat), l.Nodup → (∀ c, c ∈ l → c < n) → l.length ≤ n := by
  intro n
  induction n with
  | zero =>
    intro l _ h
    cases l with
    | nil => exact Nat.le_refl _
    | cons a l => exact absurd (h a List.mem_cons_self) (by omega)
  | succ n ih =>
    intro l hl h
    by_cases hn : n ∈ l
    · have h1 := ih (l.erase n) (hl.erase n) (fun c hc => by
        have := hl.mem_erase_iff.mp hc
        have := h c this.2
        omega)
      rw [List.length_erase_of_mem hn] at h1
      omega
    · have := ih l hl (fun c hc => by
        have h1 := h c hc
        have : c ≠ n := fun e => hn (e ▸ hc)
        omega)
      omega
theorem isScr.len {cu : Nat → Nat × D4} {sk : Nat → Bool} {nc p : Nat} {l : List Nat} (h : isScr cu sk nc p l) : l.length ≤ nc := nodup_lt_len nc l h.nodup (fun c hc => ((h.2 c).mp hc).1)
/-- a new cue, the last by its number, in its puppet's script -/
theorem isScr.add {cu : Nat → Nat × D4} {sk : Nat → Bool} {nc p : Nat} {l : List Nat} {d : D4} (h : isScr cu sk nc p l) (hn : nc < 64) (hsk : sk nc = false) : isScr (va_up cu nc (p, d)) sk (nc + 1) p (insA l (ipos (dat cu l) d.2.1) nc) ∧ dat (va_up cu nc (p, d)) (insA l (ipos (dat cu l) d.2.1) nc) = insA (dat cu l) (ipos (dat cu l) d.2.1) d := by
  have hlt : ∀ c, c ∈ l → c < nc := fun c hc => ((h.2 c).mp hc).1
  have hcu : ∀ c, c < nc → va_up cu nc (p, d) c = cu c := fun c hc => va_up_ne _ _ (by omega)
  have hself : va_up cu nc (p, d) nc = (p, d) := va_up_self _ _ _
  have hsr := h.srtD (by omega)
  obtain ⟨j, hj⟩ : ∃ j, j = ipos (dat cu l) d.2.1 := ⟨_, rfl⟩
  have hjl : j ≤ l.length := by
    rw [hj]
    unfold ipos upTo
    refine Nat.le_trans (List.length_filter_le _ _) ?_
    simp [dat]
  -- the place: ahead of it beats up to d's, behind it later ones
  have hsplit : (∀ x, x ∈ (dat cu l).take j → x.2.1 ≤ d.2.1) ∧ (∀ x, x ∈ (dat cu l).drop j → d.2.1 < x.2.1) := by
    have key : ∀ (l : List D4), srt l → (∀ x, x ∈ l.take (ipos l d.2.1) → x.2.1 ≤ d.2.1) ∧ (∀ x, x ∈ l.drop (ipos l d.2.1) → d.2.1 < x.2.1) := by
      intro l
      induction l with
      | nil => intro _; exact ⟨fun x hx => by simp at hx, fun x hx => by simp at hx⟩
      | cons a l ih =>
        intro hs
        have hs2 := List.pairwise_cons.mp hs
        by_cases ha : a.2.1 ≤ d.2.1
        · have e : ipos (a :: l) d.2.1 = ipos l d.2.1 + 1 := by simp [ipos, upTo, ha]
          rw [e]
          refine ⟨fun x hx => ?_, fun x hx => (ih hs2.2).2 x (by simpa using hx)⟩
          simp at hx
          rcases hx with rfl | hx
          · exact ha
          · exact (ih hs2.2).1 x hx
        · have e : ipos (a :: l) d.2.1 = 0 := by
            simp only [ipos, upTo, List.length_eq_zero_iff, List.filter_eq_nil_iff]
            intro x hx
            rcases List.mem_cons.mp hx with rfl | hx
            · simpa using ha
            · have := hs2.1 x hx
              simp; omega
          rw [e]
          refine ⟨fun x hx => by simp at hx, fun x hx => ?_⟩
          simp at hx
          rcases hx with rfl | hx
          · omega
          · have := hs2.1 x hx; omega
    rw [hj]
    exact key _ hsr
  rw [← hj]
  have hd : dat (va_up cu nc (p, d)) (insA l j nc) = insA (dat cu l) j d := by
    unfold dat insA
    simp only [List.map_append, List.map_cons, hself, List.map_take, List.map_drop]
    have e : l.map (fun c => (va_up cu nc (p, d) c).2) = l.map (fun c => (cu c).2) := List.map_congr_left (fun c hc => by rw [hcu c (hlt c hc)])
    rw [e]
  refine ⟨⟨?_, fun c => ?_⟩, hd⟩
  · unfold insA
    have h0 : (l.take j ++ l.drop j).Pairwise (fun a b => ckey cu a < ckey cu b) := by rw [List.take_append_drop]; exact h.1
    have hq := List.pairwise_append.mp h0
    have kc : ∀ c, c < nc → ckey (va_up cu nc (p, d)) c = ckey cu c := fun c hc => by unfold ckey; rw [hcu c hc]
    have kn : ckey (va_up cu nc (p, d)) nc = d.2.1 * 64 + nc := by unfold ckey; rw [hself]
    have tl : ∀ c, c ∈ l.take j → c < nc := fun c hc => hlt c (List.mem_of_mem_take hc)
    have dl : ∀ c, c ∈ l.drop j → c < nc := fun c hc => hlt c (List.mem_of_mem_drop hc)
    refine List.pairwise_append.mpr ⟨hq.1.imp_of_mem (fun {a b} ha hb hab => by rw [kc a (tl a ha), kc b (tl b hb)]; exact hab), List.pairwise_cons.mpr ⟨fun y hy => ?_, hq.2.1.imp_of_mem (fun {a b} ha hb hab => by rw [kc a (dl a ha), kc b (dl b hb)]; exact hab)⟩, fun x hx y hy => ?_⟩
    · rw [kn, kc y (dl y hy)]
      have := hsplit.2 (cu y).2 (by rw [dat, ← List.map_drop]; exact List.mem_map_of_mem hy)
      unfold ckey
      omega
    · rcases List.mem_cons.mp hy with rfl | hy
      · rw [kn, kc x (tl x hx)]
        have := hsplit.1 (cu x).2 (by rw [dat, ← List.map_take]; exact List.mem_map_of_mem hx)
        have := tl x hx
        unfold ckey
        omega
      · rw [kc x (tl x hx), kc y (dl y hy)]
        exact hq.2.2 x hx y hy
  · have hm : c ∈ insA l j nc ↔ (c ∈ l ∨ c = nc) := by
      unfold insA
      conv => rhs; rw [← List.take_append_drop j l]
      simp only [List.mem_append, List.mem_cons]
      constructor
      · rintro (h | h | h)
        · exact Or.inl (Or.inl h)
        · exact Or.inr h
        · exact Or.inl (Or.inr h)
      · rintro ((h | h) | h)
        · exact Or.inl h
        · exact Or.inr (Or.inr h)
        · exact Or.inr (Or.inl h)
    rw [hm, h.2 c]
    constructor
    · rintro (⟨a1, a2, a3⟩ | rfl)
      · exact ⟨by omega, by rw [hcu c a1]; exact a2, a3⟩
      · exact ⟨by omega, by rw [hself], hsk⟩
    · rintro ⟨a1, a2, a3⟩
      by_cases hc : c = nc
      · exact Or.inr hc
      · rw [hcu c (by omega)] at a2
        exact Or.inl ⟨by omega, a2, a3⟩
/-- .. in the others' -/
theorem isScr.addO {cu : Nat → Nat × D4} {sk : Nat → Bool} {nc p p' : Nat} {l : List Nat} {d : D4} (h : isScr cu sk nc p' l) (hp : p' ≠ p) : isScr (va_up cu nc (p, d)) sk (nc + 1) p' l ∧ dat (va_up cu nc (p, d)) l = dat cu l := by
  have hlt : ∀ c, c ∈ l → c < nc := fun c hc => ((h.2 c).mp hc).1
  have hcu : ∀ c, c < nc → va_up cu nc (p, d) c = cu c := fun c hc => va_up_ne _ _ (by omega)
  refine ⟨⟨h.1.imp_of_mem (fun {a b} ha hb hab => ?_), fun c => ?_⟩, List.map_congr_left (fun c hc => by rw [hcu c (hlt c hc)])⟩
  · unfold ckey at hab ⊢
    rw [hcu a (hlt a ha), hcu b (hlt b hb)]
    exact hab
  · rw [h.2 c]
    constructor
    · rintro ⟨a1, a2, a3⟩
      exact ⟨by omega, by rw [hcu c a1]; exact a2, a3⟩
    · rintro ⟨a1, a2, a3⟩
      have hc : c ≠ nc := fun e => by rw [e, va_up_self] at a2; exact hp a2.symm
      rw [hcu c (by omega)] at a2
      exact ⟨by omega, a2, a3⟩
/-- a cue struck out: its puppet's script, the others' -/
theorem isScr.rem {cu : Nat → Nat × D4} {sk : Nat → Bool} {nc p i c : Nat} {l : List Nat} (h : isScr cu sk nc p l) (hi : l[i]? = some c) : isScr cu (va_up sk c true) nc p (remA l i) ∧ dat cu (remA l i) = remA (dat cu l) i := by
  have hil : i < l.length := (List.getElem?_eq_some_iff.mp hi).1
  have hnd := h.nodup
  refine ⟨⟨?_, fun c' => ?_⟩, by simp [dat, remA]⟩
  · have h0 : (l.take i ++ l.drop i).Pairwise (fun a b => ckey cu a < ckey cu b) := by rw [List.take_append_drop]; exact h.1
    have hq := List.pairwise_append.mp h0
    have hs : (l.drop (i + 1)).Sublist (l.drop i) := by
      rw [show l.drop (i + 1) = (l.drop i).drop 1 by rw [List.drop_drop]]
      exact List.drop_sublist _ _
    exact List.pairwise_append.mpr ⟨hq.1, hq.2.1.sublist hs, fun x hx y hy => hq.2.2 x hx y (hs.subset hy)⟩
  · have hm : c' ∈ remA l i ↔ (c' ∈ l ∧ c' ≠ c) := by
      constructor
      · intro hc
        obtain ⟨j, hj⟩ := List.getElem?_of_mem hc
        rw [remA_get hil] at hj
        by_cases h1 : j < i
        · rw [if_pos h1] at hj
          refine ⟨List.mem_of_getElem? hj, fun e => ?_⟩
          have := (List.getElem?_inj (by omega) hnd).mp (hj.trans (e ▸ hi.symm))
          omega
        · rw [if_neg h1] at hj
          refine ⟨List.mem_of_getElem? hj, fun e => ?_⟩
          have hj1 : j + 1 < l.length := (List.getElem?_eq_some_iff.mp hj).1
          have := (List.getElem?_inj hj1 hnd).mp (hj.trans (e ▸ hi.symm))
          omega
      · rintro ⟨hc, hne⟩
        obtain ⟨j, hj⟩ := List.getElem?_of_mem hc
        have hji : j ≠ i := fun e => by rw [e, hi] at hj; cases hj; exact hne rfl
        by_cases h1 : j < i
        · refine List.mem_of_getElem? (i := j) ?_
          rw [remA_get hil, if_pos h1]; exact hj
        · refine List.mem_of_getElem? (i := j - 1) ?_
          rw [remA_get hil, if_neg (by omega), show j - 1 + 1 = j by omega]; exact hj
    rw [hm, h.2 c']
    constructor
    · rintro ⟨⟨a1, a2, a3⟩, a4⟩
      exact ⟨a1, a2, by rw [va_up_ne _ _ a4]; exact a3⟩
    · rintro ⟨a1, a2, a3⟩
      have hne : c' ≠ c := fun e => by rw [e, va_up_self] at a3; cases a3
      rw [va_up_ne _ _ hne] at a3
      exact ⟨⟨a1, a2, a3⟩, hne⟩
theorem isScr.remO {cu : Nat → Nat × D4} {sk : Nat → Bool} {nc p c : Nat} {l : List Nat} (h : isScr cu sk nc p l) (hc : (cu c).1 ≠ p) : isScr cu (va_up sk c true) nc p l := by
  refine ⟨h.1, fun c' => ?_⟩
  rw [h.2 c']
  constructor
  · rintro ⟨a1, a2, a3⟩
    have hne : c' ≠ c := fun e => hc (e ▸ a2)
    exact ⟨a1, a2, by rw [va_up_ne _ _ hne]; exact a3⟩
  · rintro ⟨a1, a2, a3⟩
    have hne : c' ≠ c := fun e => by rw [e, va_up_self] at a3; cases a3
    rw [va_up_ne _ _ hne] at a3
    exact ⟨a1, a2, a3⟩
