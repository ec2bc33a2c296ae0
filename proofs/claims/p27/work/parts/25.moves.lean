/-! ===== how a place moves; the beats of stays ===== -/
def towards (u g : Nat) : Nat := if u = g then u else if u < g then u + 1 else u - 1
theorem towards_le (u g : Nat) : ndist u (towards u g) ≤ 1 := by unfold towards ndist; split <;> (try split) <;> (try split) <;> omega
def goalP (p : PT) : Option Nat := p.map (fun q => q.2.2.2.1)
theorem plAt_some (p : PT) (b : Nat) : (plAt p b).isSome = p.isSome := by cases p <;> rfl
theorem trOf_some (p : PT) : (trOf p).isSome = p.isSome := by cases p <;> rfl
theorem plAt_step {p : PT} {b u g : Nat} (hp : okP p) (hf : fbLe p b) (h : plAt p b = some u) (hg : goalP p = some g) : plAt p (b + 1) = some (towards u g) := by
  cases p with
  | none => cases h
  | some q =>
    obtain ⟨e, t, fp, tp, fb, tb⟩ := q
    have hfb := hf e t fp tp fb tb rfl
    simp only [okP] at hp
    simp only [plAt, Option.some.injEq] at h
    simp only [goalP, Option.map_some, Option.some.injEq] at hg
    simp only [plAt, Option.some.injEq]
    obtain ⟨_, _, _, _, _, htb⟩ := hp
    unfold ndist at htb
    unfold towards
    rw [← hg, ← h]
    clear hg h hf
    by_cases h1 : tb ≤ b
    · rw [if_pos h1, if_pos (by omega), if_pos rfl]
    · rw [if_neg h1]
      by_cases h2 : fp < tp
      · simp only [if_pos h2]
        rw [if_pos (by omega : fp ≤ tp)] at htb
        rw [if_neg (by omega : ¬ fp + (b - fb) = tp), if_pos (by omega : fp + (b - fb) < tp)]
        by_cases h3 : tb ≤ b + 1
        · rw [if_pos h3]; omega
        · rw [if_neg h3]; omega
      · simp only [if_neg h2]
        by_cases h4 : fp ≤ tp
        · rw [if_pos h4] at htb; omega
        · rw [if_neg h4] at htb
          rw [if_neg (by omega : ¬ fp - (b - fb) = tp), if_neg (by omega : ¬ fp - (b - fb) < tp)]
          by_cases h3 : tb ≤ b + 1
          · rw [if_pos h3]; omega
          · rw [if_neg h3]; omega
/-- a move or a shift leaves the place as it is at its beat -/
theorem plAt_cue {p : PT} {d : D4} (hp : okP p) (h : pAllows p d = true) (h0 : d.1 ≠ 0) (h3 : d.1 ≠ 3) (h4 : d.1 < 4) : plAt (pFollow p d) d.2.1 = plAt p d.2.1 := by
  cases p with
  | none => simp [pAllows, h0] at h
  | some q =>
    obtain ⟨e, t, fp, tp, fb, tb⟩ := q
    have htb : tb ≤ d.2.1 := by simp [pAllows] at h; omega
    unfold pFollow
    rw [if_neg h0]
    by_cases h1 : d.1 = 1
    · simp only [if_pos h1, plAt, if_pos htb, Nat.sub_self, Nat.add_zero, Nat.sub_zero, ite_self, Option.some.injEq]
      unfold ndist
      split <;> split at * <;> omega
    · have h2 : d.1 = 2 := by omega
      simp only [if_neg h1, if_pos h2, plAt]
theorem goalP_follow {p : PT} {d : D4} (h : pAllows p d = true) (h4 : d.1 < 4) : goalP (pFollow p d) = if d.1 ≤ 1 then some d.2.2.1 else if d.1 = 3 then none else goalP p := by
  unfold pFollow
  by_cases h0 : d.1 = 0
  · simp [h0, goalP]
  · simp only [if_neg h0]
    cases p with
    | none => simp [pAllows, h0] at h
    | some q =>
      by_cases h1 : d.1 = 1
      · simp [h1, goalP]
      · by_cases h2 : d.1 = 2
        · simp [h2, goalP]
        · have h3 : d.1 = 3 := by omega
          simp [h3, goalP]
theorem trOf_follow {p : PT} {d : D4} (h : pAllows p d = true) (h4 : d.1 < 4) : trOf (pFollow p d) = if d.1 = 0 ∨ d.1 = 2 then some d.2.2.2 else if d.1 = 3 then none else trOf p := by
  unfold pFollow
  by_cases h0 : d.1 = 0
  · simp [h0, trOf]
  · simp only [if_neg h0]
    cases p with
    | none => simp [pAllows, h0] at h
    | some q =>
      by_cases h1 : d.1 = 1
      · simp [h1, trOf]
      · by_cases h2 : d.1 = 2
        · simp [h2, trOf]
        · have h3 : d.1 = 3 := by omega
          simp [h3, trOf]
theorem plAt_enter {p : PT} {d : D4} (h0 : d.1 = 0) : plAt (pFollow p d) d.2.1 = some d.2.2.1 := by
  simp [pFollow, h0, plAt]
theorem plAt_leave {p : PT} {d : D4} (h : pAllows p d = true) (h3 : d.1 = 3) (b : Nat) : plAt (pFollow p d) b = none := by
  cases p with
  | none => simp [pAllows, h3] at h
  | some q => simp [pFollow, h3, plAt]
theorem fbLe_follow {p : PT} {d : D4} (hf : fbLe p d.2.1) : fbLe (pFollow p d) d.2.1 := pth_fb [d] p d.2.1 (fun x hx => by rw [List.mem_singleton.mp hx]; exact Nat.le_refl _) hf
theorem fbLe.mono {p : PT} {m m' : Nat} (h : fbLe p m) (hm : m ≤ m') : fbLe p m' := fun e t fp tp fb tb he => Nat.le_trans (h e t fp tp fb tb he) hm
theorem plAt_hold : ∀ (l : List D4) (p : PT) (b w : Nat), okL p l = true → okP p → (∀ d, d ∈ l → okD d) → srt l → (∀ d, d ∈ l → b ≤ d.2.1) → b < 1000 → (∀ e, entP p = some e → e ≤ b ∧ e < 1000) → (∀ s, s ∈ (stG (entP p) l).tail → s.1 ≠ b) → plAt p b = some w → (pth p (upTo l b)).isSome = true → plAt (pth p (upTo l b)) b = some w := by
  intro l
  induction l with
  | nil => intro p b w _ _ _ _ _ _ _ _ h _; exact h
  | cons d l ih =>
    intro p b w h hp hk hs hb hb3 he hst hw h1
    have hh := okL_cons h
    have hd := hk d List.mem_cons_self
    have hs2 := List.pairwise_cons.mp hs
    by_cases hdb : d.2.1 ≤ b
    · have hdb' : d.2.1 = b := by have := hb d List.mem_cons_self; omega
      obtain ⟨q, rfl⟩ : ∃ q, p = some q := by cases p with
        | none => simp [plAt] at hw
        | some q => exact ⟨q, rfl⟩
      have h0 : d.1 ≠ 0 := by intro h0; simp [pAllows, h0] at hh
      have e := entP_follow hh.1 hd.1
      rw [if_neg h0] at e
      have st := stG_step l hh.1 hd.1
      rw [upTo_cons_le hdb, pth_cons] at h1 ⊢
      by_cases h3 : d.1 = 3
      · exfalso
        rw [if_pos h3] at e
        have e2 : entP (some q) = some q.1 := rfl
        rw [e, e2] at st
        simp only [h3, if_true] at st
        obtain ⟨j, s, _, a2, a3, a4⟩ := stG_in l (pFollow (some q) d) b b hh.2 (fun x hx => ⟨(hk x (List.mem_cons_of_mem _ hx)).1, (hk x (List.mem_cons_of_mem _ hx)).2.1, hb x (List.mem_cons_of_mem _ hx)⟩) hs2.2 (Nat.le_refl _) hb3 (fun e' h' => by rw [e] at h'; cases h') h1
        rw [e] at a2
        have hm := List.mem_of_getElem? a2
        have c := (stG_chain l (pFollow (some q) d) b hh.2 (fun x hx => ⟨(hk x (List.mem_cons_of_mem _ hx)).1, (hk x (List.mem_cons_of_mem _ hx)).2.1, hb x (List.mem_cons_of_mem _ hx)⟩) hs2.2 (by omega) (fun e' h' => by rw [e] at h'; cases h')).1 e
        have := (c.1 s hm).1
        refine hst s ?_ (by omega)
        rw [e2, st]
        exact hm
      · rw [if_neg h3] at e
        have st' : stG (entP (some q)) (d :: l) = stG (entP (pFollow (some q) d)) l := by
          rw [st]
          simp [entP, h3]
        refine ih (pFollow (some q) d) b w hh.2 (okP_follow hp hd) (fun x hx => hk x (List.mem_cons_of_mem _ hx)) hs2.2 (fun x hx => hb x (List.mem_cons_of_mem _ hx)) hb3 (fun e' h' => he e' (by rw [e] at h'; exact h')) (by rw [← st']; exact hst) ?_ h1
        rw [← hdb', plAt_cue hp hh.1 h0 h3 hd.1, hdb']
        exact hw
    · rw [upTo_cons_gt hs (by omega)]
      exact hw
theorem plL_moves : ∀ (l : List D4) (p : PT) (b u v : Nat), okL p l = true → okP p → (∀ d, d ∈ l → okD d) → srt l → fbLe p b → b + 1 < 1000 → (∀ e, entP p = some e → e ≤ b ∧ e < 1000) → (∀ s, s ∈ stG (entP p) l → s.1 ≠ b + 1) → plAt (pth p (upTo l b)) b = some u → plAt (pth p (upTo l (b + 1))) (b + 1) = some v → ndist u v ≤ 1 := by
  intro l
  induction l with
  | nil =>
    intro p b u v _ hp _ _ hf _ _ _ hu hv
    have hu : plAt p b = some u := hu
    have hv : plAt p (b + 1) = some v := hv
    obtain ⟨q, rfl⟩ : ∃ q, p = some q := by cases p with
        | none => simp [plAt] at hu
        | some q => exact ⟨q, rfl⟩
    have := plAt_step hp hf hu rfl
    rw [this] at hv
    cases hv
    exact towards_le _ _
  | cons d l ih =>
    intro p b u v h hp hk hs hf hb he hst hu hv
    have hh := okL_cons h
    have hd := hk d List.mem_cons_self
    have hs2 := List.pairwise_cons.mp hs
    have e := entP_follow hh.1 hd.1
    by_cases hdb : d.2.1 ≤ b
    · rw [upTo_cons_le hdb, pth_cons] at hu
      rw [upTo_cons_le (by omega), pth_cons] at hv
      have st := stG_step l hh.1 hd.1
      refine ih (pFollow p d) b u v hh.2 (okP_follow hp hd) (fun x hx => hk x (List.mem_cons_of_mem _ hx)) hs2.2 (pth_fb [d] p b (fun x hx => by rw [List.mem_singleton.mp hx]; exact hdb) hf) hb (fun e' h' => by
        rw [e] at h'
        by_cases h0 : d.1 = 0
        · rw [if_pos h0] at h'; cases h'; exact ⟨hdb, hd.2.1⟩
        · rw [if_neg h0] at h'
          by_cases h3 : d.1 = 3
          · rw [if_pos h3] at h'; cases h'
          · rw [if_neg h3] at h'; exact he e' h') (fun s hsm => hst s (by rw [st, List.mem_append]; exact Or.inr hsm)) hu hv
    · rw [upTo_cons_gt hs (by omega)] at hu
      have hu : plAt p b = some u := hu
      obtain ⟨q, rfl⟩ : ∃ q, p = some q := by cases p with
        | none => simp [plAt] at hu
        | some q => exact ⟨q, rfl⟩
      have h1 := plAt_step hp hf hu rfl
      have h2 := plAt_hold (d :: l) (some q) (b + 1) _ h hp hk hs (fun x hx => by
        rcases List.mem_cons.mp hx with rfl | hx
        · omega
        · have := hs2.1 x hx; omega) hb (fun e' h' => by have := he e' h'; omega) (fun s hsm => hst s (List.mem_of_mem_tail hsm)) h1 (by rw [← plAt_some _ (b + 1), hv]; rfl)
      rw [h2] at hv
      cases hv
      exact towards_le _ _
/-- the premises on a script, together -/
def good (ds : List D4) : Prop := okL none ds = true ∧ (∀ d, d ∈ ds → okD d) ∧ srt ds
theorem good.k {ds : List D4} (h : good ds) : ∀ d, d ∈ ds → d.1 < 4 ∧ d.2.1 < 1000 ∧ 0 ≤ d.2.1 := fun d hd => ⟨(h.2.1 d hd).1, (h.2.1 d hd).2.1, Nat.zero_le _⟩
theorem good.st {ds : List D4} (h : good ds) : stL ds = stG none ds := stL_eq h.1 h.2.1
theorem good.chain {ds : List D4} (h : good ds) : chain 0 (stL ds) := by
  rw [h.st]
  exact (stG_chain ds none 0 h.1 h.k h.2.2 (by omega) (fun e he => by cases he)).1 rfl
theorem upTo_mem {l : List D4} {b : Nat} {d : D4} (h : d ∈ upTo l b) : d ∈ l := (List.mem_filter.mp h).1
theorem okL_upTo : ∀ (l : List D4) (p : PT) (b : Nat), okL p l = true → srt l → okL p (upTo l b) = true := by
  intro l
  induction l with
  | nil => intro p b h _; exact h
  | cons d l ih =>
    intro p b h hs
    have hh := okL_cons h
    by_cases hd : d.2.1 ≤ b
    · rw [upTo_cons_le hd]
      simp only [okL, hh.1, Bool.true_and]
      exact ih _ b hh.2 (List.pairwise_cons.mp hs).2
    · rw [upTo_cons_gt hs (by omega)]; rfl
theorem good.at {ds : List D4} (h : good ds) {b : Nat} (hb : b < 1000) (h1 : (plL ds b).isSome = true) : ∃ j s, (stL (upTo ds b)).length = j + 1 ∧ (stL ds)[j]? = some s ∧ s.1 ≤ b ∧ b < s.2 := by
  rw [h.st, stL_eq (okL_upTo ds none b h.1 h.2.2) (fun d hd => h.2.1 d (upTo_mem hd))]
  exact stG_in ds none 0 b h.1 h.k h.2.2 (Nat.zero_le _) hb (fun e he => by cases he) (by rw [← plAt_some _ b]; exact h1)
theorem good.on {ds : List D4} (h : good ds) {b : Nat} (hb : b < 1000) {s : Nat × Nat} (hs : s ∈ stL ds) (h1 : s.1 ≤ b) (h2 : b < s.2) : (plL ds b).isSome = true := by
  rw [h.st] at hs
  unfold plL
  rw [plAt_some]
  exact stG_on ds none 0 b h.1 h.k h.2.2 (Nat.zero_le _) hb (fun e he => by cases he) ⟨s, hs, h1, h2⟩
theorem plL_trL (ds : List D4) (b : Nat) : (trL ds b).isSome = (plL ds b).isSome := by unfold trL plL; rw [plAt_some, trOf_some]
theorem chain.one {m : Nat} {ss : List (Nat × Nat)} (h : chain m ss) {i j b : Nat} {s t : Nat × Nat} (hs : ss[i]? = some s) (ht : ss[j]? = some t) (h1 : s.1 ≤ b) (h2 : b < s.2) (h3 : t.1 ≤ b) (h4 : b < t.2) : i = j := by
  have key : ∀ (i j : Nat) (s t : Nat × Nat), ss[i]? = some s → ss[j]? = some t → i < j → s.2 ≤ t.1 := by
    intro i j s t hs ht hij
    have a := List.getElem?_eq_some_iff.mp hs
    have b := List.getElem?_eq_some_iff.mp ht
    have := List.pairwise_iff_getElem.mp h.2 i j a.1 b.1 hij
    rw [a.2, b.2] at this
    exact this
  rcases Nat.lt_trichotomy i j with hl | he | hl
  · have := key i j s t hs ht hl; omega
  · exact he
  · have := key j i t s ht hs hl; omega
theorem good.move {ds : List D4} (h : good ds) {b u v : Nat} {s : Nat × Nat} (hs : s ∈ stL ds) (h1 : s.1 ≤ b) (h2 : b + 1 < s.2) (hu : plL ds b = some u) (hv : plL ds (b + 1) = some v) : ndist u v ≤ 1 := by
  have hc := h.chain
  have hb : b + 1 < 1000 := by have := (hc.1 s hs).2.2; omega
  refine plL_moves ds none b u v h.1 trivial h.2.1 h.2.2 (fun _ _ _ _ _ _ he => by cases he) hb (fun e he => by cases he) (fun t ht => ?_) hu hv
  have ht : t ∈ stG none ds := ht
  rw [← h.st] at ht
  intro e
  obtain ⟨i, hi⟩ := List.getElem?_of_mem hs
  obtain ⟨j, hj⟩ := List.getElem?_of_mem ht
  have h5 := hc.1 t ht
  have := hc.one hi hj (by omega : s.1 ≤ b + 1) h2 (by omega) (by omega)
  rw [this, hj] at hi
  cases hi
  omega
/-! the beats of stays, together -/
def inS (s : Nat × Nat) (b : Nat) : Bool := decide (s.1 ≤ b) && decide (b < s.2)
theorem inS_iff {s : Nat × Nat} {b : Nat} : inS s b = true ↔ s.1 ≤ b ∧ b < s.2 := by simp [inS]
def sumS (ss : List (Nat × Nat)) : Nat := (ss.map (fun s => s.2 - s.1)).sum
theorem cntN_or {P Q : Nat → Bool} : ∀ n, (∀ i, i < n → P i = true → Q i = false) → cntN (fun i => P i || Q i) n = cntN P n + cntN Q n := by
  intro n
  induction n with
  | zero => intro _; rfl
  | succ n ih =>
    intro h
    have := ih (fun i hi => h i (by omega))
    have hn := h n (by omega)
    simp only [cntN, this]
    by_cases hp : P n = true
    · have hq := hn hp
      simp [hp, hq]; omega
    · have hp : P n = false := by simpa using hp
      simp [hp]; omega
theorem cntN_inS (s : Nat × Nat) : ∀ n, cntN (inS s) n = min n s.2 - min n s.1 := by
  intro n
  induction n with
  | zero => simp [cntN]
  | succ n ih =>
    simp only [cntN, ih, inS]
    by_cases h1 : s.1 ≤ n <;> by_cases h2 : n < s.2 <;> simp [h1, h2] <;> omega
theorem sumS_cnt : ∀ (ss : List (Nat × Nat)) (m : Nat), chain m ss → sumS ss = cntN (fun b => ss.any (fun s => inS s b)) 1000 := by
  intro ss
  induction ss with
  | nil =>
    intro m _
    have : ∀ n, cntN (fun _ => false) n = 0 := by
      intro n
      induction n with
      | zero => rfl
      | succ n ih => simp [cntN, ih]
    exact (this 1000).symm
  | cons a ss ih =>
    intro m h
    have hc := h.cons
    have e : cntN (fun b => (a :: ss).any (fun s => inS s b)) 1000 = cntN (fun b => inS a b || ss.any (fun s => inS s b)) 1000 := rfl
    rw [e, cntN_or 1000 (fun b _ hb => ?_), ← ih _ hc.2.2.2, cntN_inS]
    · simp only [sumS, List.map_cons, List.sum_cons]
      have := hc.2.2.1; have := hc.2.1
      omega
    · have h1 := inS_iff.mp hb
      rw [List.any_eq_false]
      intro s hs h2
      have h2 := inS_iff.mp h2
      have := (hc.2.2.2.1 s hs).1
      omega
theorem good.beats {ds : List D4} (h : good ds) : sumS (stL ds) = cntN (fun b => (plL ds b).isSome) 1000 := by
  rw [sumS_cnt _ 0 h.chain]
  refine cntN_congr 1000 (fun b hb => ?_)
  cases hp : (plL ds b).isSome
  · rw [List.any_eq_false]
    intro s hs h2
    have h2 := inS_iff.mp h2
    have := h.on hb hs h2.1 h2.2
    rw [hp] at this; cases this
  · obtain ⟨j, s, _, a2, a3, a4⟩ := h.at hb hp
    rw [List.any_eq_true]
    exact ⟨s, List.mem_of_getElem? a2, inS_iff.mpr ⟨a3, a4⟩⟩
