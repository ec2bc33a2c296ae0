theorem ckey_inj {cu : Nat → Nat × D4} {a b : Nat} (ha : a < 64) (hb : b < 64) (h : ckey cu a = ckey cu b) : a = b := by
  unfold ckey at h
  omega
theorem best_get {cu : Nat → Nat × D4} {K : Nat → Prop} {nc : Nat} {o : Option Nat} {D : List Nat} (h64 : nc ≤ 64) (hs : D.Pairwise (fun a b => ckey cu a < ckey cu b)) (hD : ∀ c, c ∈ D ↔ (c < nc ∧ K c)) (h : isBest cu K nc o) : o = D[0]? := by
  cases D with
  | nil =>
    cases o with
    | none => rfl
    | some b => exact absurd ((hD b).mpr ⟨h.1, h.2.1⟩) (List.not_mem_nil)
  | cons a D =>
    have ha := (hD a).mp List.mem_cons_self
    cases o with
    | none => exact absurd ha.2 (h a ha.1)
    | some b =>
      have hb := (hD b).mpr ⟨h.1, h.2.1⟩
      rcases List.mem_cons.mp hb with e | e
      · rw [e]; rfl
      · have h1 := (List.pairwise_cons.mp hs).1 b e
        have h2 := h.2.2 a ha.1 ha.2
        omega
theorem best_first {cu : Nat → Nat × D4} {sk : Nat → Bool} {nc p : Nat} {l : List Nat} {o : Option Nat} (h64 : nc ≤ 64) (hl : isScr cu sk nc p l) (h : isBest cu (KB cu sk p none) nc o) : o = l[0]? := best_get h64 hl.1 (fun c => by
  rw [hl.2 c]
  constructor
  · rintro ⟨a, b, c⟩; exact ⟨a, c, b, fun o ho => by cases ho⟩
  · rintro ⟨a, b, c, _⟩; exact ⟨a, c, b⟩) h
theorem best_next {cu : Nat → Nat × D4} {sk : Nat → Bool} {nc p i q : Nat} {l : List Nat} {o : Option Nat} (h64 : nc ≤ 64) (hl : isScr cu sk nc p l) (hq : l[i]? = some q) (h : isBest cu (KB cu sk p (some q)) nc o) : o = l[i + 1]? := by
  have hil := (List.getElem?_eq_some_iff.mp hq).1
  have h0 : (l.take i ++ l.drop i).Pairwise (fun a b => ckey cu a < ckey cu b) := by rw [List.take_append_drop]; exact hl.1
  have hp := List.pairwise_append.mp h0
  have hd : l.drop i = q :: l.drop (i + 1) := by
    rw [List.drop_eq_getElem_cons hil]
    congr 1
    exact (List.getElem?_eq_some_iff.mp hq).2
  have h2 := hp.2.1
  rw [hd] at h2
  have h3 := List.pairwise_cons.mp h2
  have e : l[i + 1]? = (l.drop (i + 1))[0]? := by rw [List.getElem?_drop]
  rw [e]
  refine best_get h64 h3.2 (fun c => ?_) h
  constructor
  · intro hc
    have hm := (hl.2 c).mp (List.mem_of_mem_drop hc)
    exact ⟨hm.1, hm.2.2, hm.2.1, fun o ho => by cases ho; exact h3.1 c hc⟩
  · rintro ⟨c1, c2, c3, c4⟩
    have hm := (hl.2 c).mpr ⟨c1, c3, c2⟩
    rw [← List.take_append_drop i l, hd] at hm
    have c5 := c4 q rfl
    rcases List.mem_append.mp hm with hm | hm
    · have := hp.2.2 c hm q (by rw [hd]; exact List.mem_cons_self)
      omega
    · rcases List.mem_cons.mp hm with hm | hm
      · rw [hm] at c5; omega
      · exact hm
/-- what the model's loop over a script keeps of a path -/
def PthS (P : PT) (on en fr pl : Int32) : Prop := match P with
  | none => on = 0
  | some (e, _, _, tp, _, tb) => on = 1 ∧ en = nI e ∧ fr = nI tb ∧ pl = nI tp ∧ e ≤ tb ∧ tb < 1000 ∧ tp < 20
