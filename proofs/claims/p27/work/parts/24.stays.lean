/-! ===== stays, and what a puppet's beats are, as the document says them ===== -/
def stG : Option Nat → List D4 → List (Nat × Nat)
  | none, [] => []
  | some e, [] => [(e, 1000)]
  | none, d :: l => stG (if d.1 = 0 then some d.2.1 else none) l
  | some e, d :: l => if d.1 = 3 then (e, d.2.1) :: stG none l else stG (some e) l
def entP (p : PT) : Option Nat := p.map (fun q => q.1)
theorem entP_follow {p : PT} {d : D4} (h : pAllows p d = true) (h4 : d.1 < 4) : entP (pFollow p d) = if d.1 = 0 then some d.2.1 else if d.1 = 3 then none else entP p := by
  unfold pFollow
  by_cases h0 : d.1 = 0
  · simp [h0, entP]
  · simp only [if_neg h0]
    cases p with
    | none => simp [pAllows, h0] at h
    | some q =>
      by_cases h1 : d.1 = 1
      · simp [h1, entP]
      · by_cases h2 : d.1 = 2
        · simp [h2, entP]
        · have h3 : d.1 = 3 := by omega
          simp [h3, entP]
theorem stG_step {p : PT} {d : D4} (l : List D4) (h : pAllows p d = true) (h4 : d.1 < 4) : stG (entP p) (d :: l) = (match entP p with | some e => if d.1 = 3 then [(e, d.2.1)] else [] | none => []) ++ stG (entP (pFollow p d)) l := by
  rw [entP_follow h h4]
  cases p with
  | none =>
    have h0 : d.1 = 0 := by simpa [pAllows] using h
    simp [entP, stG, h0]
  | some q =>
    have h0 : d.1 ≠ 0 := by intro h0; simp [pAllows, h0] at h
    by_cases h3 : d.1 = 3
    · simp [entP, stG, h3]
    · simp [entP, stG, h0, h3]
theorem okL_cons {p : PT} {d : D4} {l : List D4} (h : okL p (d :: l) = true) : pAllows p d = true ∧ okL (pFollow p d) l = true := by
  simpa [okL] using h
theorem stL_stG : ∀ (l : List D4) (p : PT) (s : List (Nat × Nat)), okL p l = true → (∀ d, d ∈ l → d.1 < 4) → l.foldl sStep (s ++ (match entP p with | none => [] | some e => [(e, 1000)])) = s ++ stG (entP p) l := by
  intro l
  induction l with
  | nil =>
    intro p s _ _
    cases p <;> simp [entP, stG]
  | cons d l ih =>
    intro p s h hk
    have hh := okL_cons h
    have h4 := hk d List.mem_cons_self
    rw [List.foldl_cons, stG_step l hh.1 h4]
    have e := entP_follow hh.1 h4
    cases p with
    | none =>
      have h0 : d.1 = 0 := by simpa [pAllows] using hh.1
      have e1 : sStep (s ++ []) d = s ++ [(d.2.1, 1000)] := by simp [sStep, h0]
      have e2 : entP (pFollow none d) = some d.2.1 := by rw [e, if_pos h0]
      have := ih (pFollow none d) s hh.2 (fun x hx => hk x (List.mem_cons_of_mem _ hx))
      rw [e2] at this
      simp only [entP, Option.map_none] at *
      rw [e1, e2]
      simpa using this
    | some q =>
      have h0 : d.1 ≠ 0 := by intro h0; simp [pAllows, h0] at hh
      by_cases h3 : d.1 = 3
      · have e1 : sStep (s ++ [(q.1, 1000)]) d = s ++ [(q.1, d.2.1)] := by simp [sStep, h3]
        have e2 : entP (pFollow (some q) d) = none := by rw [e, if_neg h0, if_pos h3]
        have := ih (pFollow (some q) d) (s ++ [(q.1, d.2.1)]) hh.2 (fun x hx => hk x (List.mem_cons_of_mem _ hx))
        rw [e2] at this
        simp only [entP, Option.map_some] at *
        rw [e1, e2]
        simpa [h3] using this
      · have e1 : sStep (s ++ [(q.1, 1000)]) d = s ++ [(q.1, 1000)] := by simp [sStep, h0, h3]
        have e2 : entP (pFollow (some q) d) = some q.1 := by rw [e, if_neg h0, if_neg h3]; rfl
        have := ih (pFollow (some q) d) s hh.2 (fun x hx => hk x (List.mem_cons_of_mem _ hx))
        rw [e2] at this
        simp only [entP, Option.map_some] at *
        rw [e1, e2]
        simpa [h3] using this
theorem stL_eq {l : List D4} (h : okL none l = true) (hk : ∀ d, d ∈ l → okD d) : stL l = stG none l := by
  have := stL_stG l none [] h (fun d hd => (hk d hd).1)
  simpa [entP, stL] using this
/-- one behind the other, none empty -/
def chain (m : Nat) (ss : List (Nat × Nat)) : Prop := (∀ s, s ∈ ss → m ≤ s.1 ∧ s.1 < s.2 ∧ s.2 ≤ 1000) ∧ ss.Pairwise (fun a b => a.2 ≤ b.1)
theorem chain.cons {m : Nat} {a : Nat × Nat} {ss : List (Nat × Nat)} (h : chain m (a :: ss)) : m ≤ a.1 ∧ a.1 < a.2 ∧ a.2 ≤ 1000 ∧ chain a.2 ss :=
  ⟨(h.1 a List.mem_cons_self).1, (h.1 a List.mem_cons_self).2.1, (h.1 a List.mem_cons_self).2.2, fun s hs => ⟨(List.pairwise_cons.mp h.2).1 s hs, (h.1 s (List.mem_cons_of_mem _ hs)).2.1, (h.1 s (List.mem_cons_of_mem _ hs)).2.2⟩, (List.pairwise_cons.mp h.2).2⟩
theorem chain.mk {m x y : Nat} {ss : List (Nat × Nat)} (h1 : m ≤ x) (h2 : x < y) (h3 : y ≤ 1000) (h : chain y ss) : chain m ((x, y) :: ss) := by
  refine ⟨fun s hs => ?_, List.pairwise_cons.mpr ⟨fun s hs => (h.1 s hs).1, h.2⟩⟩
  rcases List.mem_cons.mp hs with rfl | hs
  · exact ⟨h1, h2, h3⟩
  · have := h.1 s hs
    have h1 : m ≤ x := h1
    exact ⟨by omega, this.2.1, this.2.2⟩
theorem stG_chain : ∀ (l : List D4) (p : PT) (m : Nat), okL p l = true → (∀ d, d ∈ l → d.1 < 4 ∧ d.2.1 < 1000 ∧ m ≤ d.2.1) → srt l → m ≤ 1000 → (∀ e, entP p = some e → e ≤ m ∧ e < 1000) → (entP p = none → chain m (stG none l)) ∧ (∀ e, entP p = some e → ∃ y r, stG (some e) l = (e, y) :: r ∧ m ≤ y ∧ e < y ∧ y ≤ 1000 ∧ chain y r) := by
  intro l
  induction l with
  | nil =>
    intro p m _ _ _ hm he
    refine ⟨fun _ => ⟨fun s hs => by simp [stG] at hs, List.Pairwise.nil⟩, fun e h => ⟨1000, [], rfl, hm, (he e h).2, Nat.le_refl _, fun s hs => by simp at hs, List.Pairwise.nil⟩⟩
  | cons d l ih =>
    intro p m h hk hs hm he
    have hh := okL_cons h
    have hd := hk d List.mem_cons_self
    have hs2 := List.pairwise_cons.mp hs
    have e := entP_follow hh.1 hd.1
    have st := stG_step l hh.1 hd.1
    have I := ih (pFollow p d) d.2.1 hh.2 (fun x hx => ⟨(hk x (List.mem_cons_of_mem _ hx)).1, (hk x (List.mem_cons_of_mem _ hx)).2.1, hs2.1 x hx⟩) hs2.2 (by omega) (fun e' h' => by
      rw [e] at h'
      by_cases h0 : d.1 = 0
      · rw [if_pos h0] at h'; cases h'; omega
      · rw [if_neg h0] at h'
        by_cases h3 : d.1 = 3
        · rw [if_pos h3] at h'; cases h'
        · rw [if_neg h3] at h'; have := he e' h'; omega)
    refine ⟨fun hp => ?_, fun x hp => ?_⟩
    · have pn : p = none := by cases p <;> simp_all [entP]
      have h0 : d.1 = 0 := by rw [pn] at hh; simpa [pAllows] using hh.1
      rw [if_pos h0] at e
      rw [hp, e] at st
      obtain ⟨y, r, a1, a2, a3, a4, a5⟩ := I.2 d.2.1 e
      rw [st, a1]
      exact chain.mk hd.2.2 a3 a4 a5
    · obtain ⟨q, rfl⟩ : ∃ q, p = some q := by cases p with
        | none => simp [entP] at hp
        | some q => exact ⟨q, rfl⟩
      have h0 : d.1 ≠ 0 := by intro h0; simp [pAllows, h0] at hh
      have hq : q.1 = x := by simpa [entP] using hp
      rw [if_neg h0] at e
      by_cases h3 : d.1 = 3
      · rw [if_pos h3] at e
        rw [hp, e] at st
        simp only [h3, if_true] at st
        have hlt : x < d.2.1 := by
          have := hh.1
          simp [pAllows, h3] at this
          omega
        exact ⟨d.2.1, stG none l, st, hd.2.2, hlt, by omega, I.1 e⟩
      · rw [if_neg h3] at e
        rw [hp] at e
        rw [hp, e] at st
        simp only [h3, if_false] at st
        obtain ⟨y, r, a1, a2, a3, a4, a5⟩ := I.2 x e
        exact ⟨y, r, by rw [st]; exact a1, by omega, a3, a4, a5⟩
theorem upTo_cons_le {d : D4} {l : List D4} {b : Nat} (h : d.2.1 ≤ b) : upTo (d :: l) b = d :: upTo l b := by simp [upTo, h]
theorem upTo_cons_gt {d : D4} {l : List D4} {b : Nat} (hs : srt (d :: l)) (h : b < d.2.1) : upTo (d :: l) b = [] := by
  unfold upTo
  rw [List.filter_eq_nil_iff]
  intro x hx
  rcases List.mem_cons.mp hx with rfl | hx
  · simp; omega
  · have := (List.pairwise_cons.mp hs).1 x hx
    simp; omega
theorem pth_cons (p : PT) (d : D4) (l : List D4) : pth p (d :: l) = pth (pFollow p d) l := rfl
/-- on stage at b: in the stay that is the last begun -/
theorem stG_in : ∀ (l : List D4) (p : PT) (m b : Nat), okL p l = true → (∀ d, d ∈ l → d.1 < 4 ∧ d.2.1 < 1000 ∧ m ≤ d.2.1) → srt l → m ≤ b → b < 1000 → (∀ e, entP p = some e → e ≤ m ∧ e < 1000) → (pth p (upTo l b)).isSome = true → ∃ j s, (stG (entP p) (upTo l b)).length = j + 1 ∧ (stG (entP p) l)[j]? = some s ∧ s.1 ≤ b ∧ b < s.2 := by
  intro l
  induction l with
  | nil =>
    intro p m b _ _ _ hm hb he h
    have h : p.isSome = true := h
    obtain ⟨q, rfl⟩ := Option.isSome_iff_exists.mp h
    have := he q.1 rfl
    exact ⟨0, (q.1, 1000), rfl, rfl, by simp only; omega, hb⟩
  | cons d l ih =>
    intro p m b h hk hs hm hb he h1
    have hh := okL_cons h
    have hd := hk d List.mem_cons_self
    have hs2 := List.pairwise_cons.mp hs
    have e := entP_follow hh.1 hd.1
    by_cases hdb : d.2.1 ≤ b
    · have st := stG_step l hh.1 hd.1
      have st2 := stG_step (upTo l b) hh.1 hd.1
      rw [upTo_cons_le hdb] at h1 ⊢
      rw [pth_cons] at h1
      obtain ⟨j, s, a1, a2, a3, a4⟩ := ih (pFollow p d) d.2.1 b hh.2 (fun x hx => ⟨(hk x (List.mem_cons_of_mem _ hx)).1, (hk x (List.mem_cons_of_mem _ hx)).2.1, hs2.1 x hx⟩) hs2.2 hdb hb (fun e' h' => by
        rw [e] at h'
        by_cases h0 : d.1 = 0
        · rw [if_pos h0] at h'; cases h'; omega
        · rw [if_neg h0] at h'
          by_cases h3 : d.1 = 3
          · rw [if_pos h3] at h'; cases h'
          · rw [if_neg h3] at h'; have := he e' h'; omega) h1
      rw [st, st2]
      obtain ⟨pre, hpre⟩ : ∃ pre, pre = (match entP p with | some e => if d.1 = 3 then [(e, d.2.1)] else [] | none => [] : List (Nat × Nat)) := ⟨_, rfl⟩
      rw [← hpre]
      refine ⟨pre.length + j, s, by rw [List.length_append, a1]; omega, ?_, a3, a4⟩
      rw [List.getElem?_append_right (by omega), Nat.add_sub_cancel_left]
      exact a2
    · rw [upTo_cons_gt hs (by omega)] at h1 ⊢
      have h1 : p.isSome = true := h1
      obtain ⟨q, rfl⟩ := Option.isSome_iff_exists.mp h1
      have hq := he q.1 rfl
      obtain ⟨y, r, a1, a2, a3, a4, a5⟩ := (stG_chain (d :: l) (some q) d.2.1 h (fun x hx => ⟨(hk x hx).1, (hk x hx).2.1, by
        rcases List.mem_cons.mp hx with rfl | hx
        · exact Nat.le_refl _
        · exact hs2.1 x hx⟩) hs (by omega) (fun e' h' => by have := he e' h'; omega)).2 q.1 rfl
      refine ⟨0, (q.1, y), rfl, ?_, by simp only; omega, by simp only; omega⟩
      show (stG (some q.1) (d :: l))[0]? = _
      rw [a1]; rfl
/-- in a stay at b: on stage -/
theorem stG_on : ∀ (l : List D4) (p : PT) (m b : Nat), okL p l = true → (∀ d, d ∈ l → d.1 < 4 ∧ d.2.1 < 1000 ∧ m ≤ d.2.1) → srt l → m ≤ b → b < 1000 → (∀ e, entP p = some e → e ≤ m ∧ e < 1000) → (∃ s, s ∈ stG (entP p) l ∧ s.1 ≤ b ∧ b < s.2) → (pth p (upTo l b)).isSome = true := by
  intro l
  induction l with
  | nil =>
    intro p m b _ _ _ hm hb he ⟨s, hs, h1, h2⟩
    cases p with
    | none => simp [entP, stG] at hs
    | some q => rfl
  | cons d l ih =>
    intro p m b h hk hs hm hb he ⟨s, hsm, h1, h2⟩
    have hh := okL_cons h
    have hd := hk d List.mem_cons_self
    have hs2 := List.pairwise_cons.mp hs
    have e := entP_follow hh.1 hd.1
    by_cases hdb : d.2.1 ≤ b
    · have st := stG_step l hh.1 hd.1
      rw [upTo_cons_le hdb, pth_cons]
      rw [st, List.mem_append] at hsm
      refine ih (pFollow p d) d.2.1 b hh.2 (fun x hx => ⟨(hk x (List.mem_cons_of_mem _ hx)).1, (hk x (List.mem_cons_of_mem _ hx)).2.1, hs2.1 x hx⟩) hs2.2 hdb hb (fun e' h' => by
        rw [e] at h'
        by_cases h0 : d.1 = 0
        · rw [if_pos h0] at h'; cases h'; omega
        · rw [if_neg h0] at h'
          by_cases h3 : d.1 = 3
          · rw [if_pos h3] at h'; cases h'
          · rw [if_neg h3] at h'; have := he e' h'; omega) ⟨s, ?_, h1, h2⟩
      rcases hsm with hsm | hsm
      · exfalso
        cases hp : entP p with
        | none => rw [hp] at hsm; simp at hsm
        | some x =>
          rw [hp] at hsm
          by_cases h3 : d.1 = 3
          · simp [h3] at hsm
            rw [hsm] at h2
            simp at h2; omega
          · simp [h3] at hsm
      · exact hsm
    · rw [upTo_cons_gt hs (by omega)]
      cases p with
      | some q => rfl
      | none =>
        exfalso
        have c := (stG_chain (d :: l) none d.2.1 h (fun x hx => ⟨(hk x hx).1, (hk x hx).2.1, by
          rcases List.mem_cons.mp hx with rfl | hx
          · exact Nat.le_refl _
          · exact hs2.1 x hx⟩) hs (by omega) (fun e' h' => by simp [entP] at h')).1 rfl
        have := (c.1 s hsm).1
        omega
