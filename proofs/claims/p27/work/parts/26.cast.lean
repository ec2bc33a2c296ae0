/-! ===== the casting, as the document says it ===== -/
/-- puppets; their places; their stays; weights; hands; players; strengths; places at first -/
abbrev CT : Type := Nat × (Nat → Nat → Option Nat) × (Nat → List (Nat × Nat)) × (Nat → Nat) × (Nat → Nat) × Nat × (Nat → Nat) × (Nat → Nat)
abbrev cN (C : CT) := C.1
abbrev cP (C : CT) := C.2.1
abbrev cS (C : CT) := C.2.2.1
abbrev cW (C : CT) := C.2.2.2.1
abbrev cH (C : CT) := C.2.2.2.2.1
abbrev cQ (C : CT) := C.2.2.2.2.2.1
abbrev cT (C : CT) := C.2.2.2.2.2.2.1
abbrev cO (C : CT) := C.2.2.2.2.2.2.2
abbrev AT : Type := Nat → Nat → Option Nat
def upA (A : AT) (p j : Nat) (v : Option Nat) : AT := fun p' j' => if p' = p ∧ j' = j then v else A p' j'
def Held (C : CT) (A : AT) (q b p : Nat) : Prop := ∃ j s, (cS C p)[j]? = some s ∧ inS s b = true ∧ A p j = some q
noncomputable def held (C : CT) (A : AT) (q b p : Nat) : Bool := by classical exact decide (Held C A q b p)
theorem held_iff {C : CT} {A : AT} {q b p : Nat} : held C A q b p = true ↔ Held C A q b p := by unfold held; simp
def sumN (P : Nat → Bool) (f : Nat → Nat) : Nat → Nat
  | 0 => 0
  | n + 1 => sumN P f n + (if P n then f n else 0)
def lastN (P : Nat → Bool) (f : Nat → Option Nat) : Nat → Option Nat
  | 0 => none
  | n + 1 => if P n then f n else lastN P f n
theorem sumN_congr {P Q : Nat → Bool} {f : Nat → Nat} : ∀ n, (∀ i, i < n → P i = Q i) → sumN P f n = sumN Q f n := by
  intro n
  induction n with
  | zero => intro _; rfl
  | succ n ih => intro h; simp only [sumN]; rw [ih (fun i hi => h i (by omega)), h n (by omega)]
theorem sumN_add {P Q : Nat → Bool} {f : Nat → Nat} {k : Nat} : ∀ n, (∀ i, i < n → i ≠ k → P i = Q i) → P k = true → Q k = false → sumN P f n = sumN Q f n + (if k < n then f k else 0) := by
  intro n
  induction n with
  | zero => intro _ _ _; simp [sumN]
  | succ n ih =>
    intro h hp hq
    have := ih (fun i hi => h i (by omega)) hp hq
    simp only [sumN, this]
    by_cases hk : k = n
    · rw [← hk, hp, hq]; simp
    · rw [h n (by omega) (fun e => hk e.symm)]
      by_cases hkn : k < n
      · rw [if_pos hkn, if_pos (show k < n + 1 by omega)]; omega
      · rw [if_neg hkn, if_neg (show ¬ k < n + 1 by omega)]; omega
theorem sumN_zero {P : Nat → Bool} {f : Nat → Nat} : ∀ n, (∀ i, i < n → P i = false) → sumN P f n = 0 := by
  intro n
  induction n with
  | zero => intro _; rfl
  | succ n ih => intro h; simp only [sumN]; rw [ih (fun i hi => h i (by omega)), h n (by omega)]; rfl
theorem lastN_congr {P Q : Nat → Bool} {f : Nat → Option Nat} : ∀ n, (∀ i, i < n → P i = Q i) → lastN P f n = lastN Q f n := by
  intro n
  induction n with
  | zero => intro _; rfl
  | succ n ih => intro h; simp only [lastN]; rw [ih (fun i hi => h i (by omega)), h n (by omega)]
theorem lastN_none {P : Nat → Bool} {f : Nat → Option Nat} : ∀ n, (∀ i, i < n → P i = false) → lastN P f n = none := by
  intro n
  induction n with
  | zero => intro _; rfl
  | succ n ih => intro h; simp only [lastN]; rw [ih (fun i hi => h i (by omega)), h n (by omega)]; rfl
theorem lastN_some {P : Nat → Bool} {f : Nat → Option Nat} {k : Nat} : ∀ n, (∀ i, i < n → P i = true → f i = f k) → k < n → P k = true → lastN P f n = f k := by
  intro n
  induction n with
  | zero => intro _ h; omega
  | succ n ih =>
    intro h hk hp
    simp only [lastN]
    by_cases hn : P n = true
    · rw [if_pos hn]; exact h n (by omega) hn
    · rw [if_neg hn]
      have : k ≠ n := fun e => hn (e ▸ hp)
      exact ih (fun i hi => h i (by omega)) (by omega) hp
theorem lastN_ex {P : Nat → Bool} {f : Nat → Option Nat} {x : Nat} : ∀ n, lastN P f n = some x → ∃ k, k < n ∧ P k = true ∧ f k = some x := by
  intro n
  induction n with
  | zero => intro h; cases h
  | succ n ih =>
    intro h
    simp only [lastN] at h
    by_cases hn : P n = true
    · rw [if_pos hn] at h; exact ⟨n, by omega, hn, h⟩
    · rw [if_neg hn] at h
      obtain ⟨k, a, b, c⟩ := ih h
      exact ⟨k, by omega, b, c⟩
noncomputable def fpl (C : CT) (A : AT) (q b : Nat) : Option Nat := lastN (held C A q b) (fun p => cP C p b) (cN C)
/-- where it was last with puppets, and when -/
noncomputable def lastH (C : CT) (A : AT) (q : Nat) : Nat → Nat × Nat
  | 0 => (cO C q, 0)
  | b + 1 => match fpl C A q b with
    | none => lastH C A q b
    | some x => (x, b)
def okAt (C : CT) (A : AT) (q b : Nat) : Prop := (∀ p p', p < cN C → p' < cN C → held C A q b p = true → held C A q b p' = true → cP C p b = cP C p' b) ∧ sumN (held C A q b) (cH C) (cN C) ≤ 2 ∧ sumN (held C A q b) (cW C) (cN C) ≤ cT C q
def walkAt (C : CT) (A : AT) (q b : Nat) : Prop := ∀ x, fpl C A q b = some x → ndist x (lastH C A q b).1 ≤ b - (lastH C A q b).2
/-- the player can do what it is cast for -/
def CanF (C : CT) (A : AT) (q : Nat) : Prop := ∀ b, b < 1000 → okAt C A q b ∧ walkAt C A q b
/-- .. the new part of it -/
def CanL (C : CT) (A : AT) (q p x y : Nat) : Prop := (∀ g, cP C p x = some g → ndist g (lastH C A q x).1 ≤ x - (lastH C A q x).2) ∧ ∀ b, x ≤ b → b < y → (∀ p', p' < cN C → held C A q b p' = true → cP C p' b = cP C p b) ∧ sumN (held C A q b) (cH C) (cN C) + cH C p ≤ 2 ∧ sumN (held C A q b) (cW C) (cN C) + cW C p ≤ cT C q
/-- what the book gives -/
def WC (C : CT) : Prop := ∀ p, p < cN C → chain 0 (cS C p) ∧ (∀ b s, s ∈ cS C p → s.1 ≤ b → b < s.2 → (cP C p b).isSome = true) ∧ (∀ b s u v, s ∈ cS C p → s.1 ≤ b → b + 1 < s.2 → cP C p b = some u → cP C p (b + 1) = some v → ndist u v ≤ 1)
theorem ndist_comm (a b : Nat) : ndist a b = ndist b a := by unfold ndist; split <;> split <;> omega
theorem Held_up {C : CT} {A : AT} {q b p p' j : Nat} {s : Nat × Nat} (h0 : A p j = none) (hs : (cS C p)[j]? = some s) : Held C (upA A p j (some q)) q b p' ↔ (Held C A q b p' ∨ (p' = p ∧ inS s b = true)) := by
  constructor
  · rintro ⟨j', s', h1, h2, h3⟩
    unfold upA at h3
    by_cases e : p' = p ∧ j' = j
    · obtain ⟨e1, e2⟩ := e
      subst e1; subst e2
      rw [hs] at h1; cases h1
      exact Or.inr ⟨rfl, h2⟩
    · rw [if_neg e] at h3
      exact Or.inl ⟨j', s', h1, h2, h3⟩
  · rintro (⟨j', s', h1, h2, h3⟩ | ⟨e1, h2⟩)
    · refine ⟨j', s', h1, h2, ?_⟩
      unfold upA
      rw [if_neg]
      · exact h3
      · rintro ⟨e1, e2⟩
        subst e1; subst e2
        rw [h0] at h3; cases h3
    · subst e1
      exact ⟨j, s, hs, h2, by unfold upA; rw [if_pos ⟨rfl, rfl⟩]⟩
theorem Held_upO {C : CT} {A : AT} {q' b p p' j : Nat} {o : Option Nat} (h0 : A p j = none) (ho : o ≠ some q') : Held C (upA A p j o) q' b p' ↔ Held C A q' b p' := by
  constructor
  · rintro ⟨j', s', h1, h2, h3⟩
    unfold upA at h3
    by_cases e : p' = p ∧ j' = j
    · rw [if_pos e] at h3; exact absurd h3 ho
    · rw [if_neg e] at h3
      exact ⟨j', s', h1, h2, h3⟩
  · rintro ⟨j', s', h1, h2, h3⟩
    refine ⟨j', s', h1, h2, ?_⟩
    unfold upA
    rw [if_neg]
    · exact h3
    · rintro ⟨e1, e2⟩
      subst e1; subst e2
      rw [h0] at h3; cases h3
theorem bool_eq {a b : Bool} (h : a = true ↔ b = true) : a = b := by cases a <;> cases b <;> simp_all
theorem held_congr {C : CT} {A A' : AT} {q b p : Nat} (h : Held C A q b p ↔ Held C A' q b p) : held C A q b p = held C A' q b p := bool_eq (by rw [held_iff, held_iff]; exact h)
theorem fpl_congr {C : CT} {A A' : AT} {q b : Nat} (h : ∀ p, p < cN C → held C A q b p = held C A' q b p) : fpl C A q b = fpl C A' q b := lastN_congr _ h
theorem lastH_congr {C : CT} {A A' : AT} {q : Nat} : ∀ n, (∀ b, b < n → fpl C A q b = fpl C A' q b) → lastH C A q n = lastH C A' q n := by
  intro n
  induction n with
  | zero => intro _; rfl
  | succ n ih => intro h; simp only [lastH]; rw [ih (fun b hb => h b (by omega)), h n (by omega)]
theorem okAt_congr {C : CT} {A A' : AT} {q b : Nat} (h : ∀ p, p < cN C → held C A q b p = held C A' q b p) (ho : okAt C A q b) : okAt C A' q b := by
  obtain ⟨h1, h2, h3⟩ := ho
  refine ⟨fun p p' hp hp' a b => h1 p p' hp hp' ((h p hp).trans a) ((h p' hp').trans b), ?_, ?_⟩
  · rw [← sumN_congr _ h]; exact h2
  · rw [← sumN_congr _ h]; exact h3
theorem CanF_congr {C : CT} {A A' : AT} {q : Nat} (h : ∀ b p, p < cN C → held C A q b p = held C A' q b p) (ho : CanF C A q) : CanF C A' q := by
  intro b hb
  have := ho b hb
  refine ⟨okAt_congr (h b) this.1, fun x hx => ?_⟩
  rw [← lastH_congr b (fun b' _ => fpl_congr (h b'))]
  exact this.2 x ((fpl_congr (h b)).trans hx)
theorem okAt.fpl {C : CT} {A : AT} {q b p : Nat} (h : okAt C A q b) (hp : p < cN C) (hh : held C A q b p = true) : fpl C A q b = cP C p b := lastN_some _ (fun i hi ha => h.1 i p hi hp ha hh) hp hh
theorem lastH_held {C : CT} {A : AT} {q b p u : Nat} (h : okAt C A q b) (hp : p < cN C) (hh : held C A q b p = true) (hu : cP C p b = some u) : lastH C A q (b + 1) = (u, b) := by
  simp only [lastH]
  rw [h.fpl hp hh, hu]
theorem canStep {C : CT} {A : AT} {q p j x y : Nat} (hw : WC C) (hp : p < cN C) (h0 : A p j = none) (hs : (cS C p)[j]? = some (x, y)) (hx : ∀ p' j' s', p' < cN C → (cS C p')[j']? = some s' → A p' j' = some q → s'.1 ≤ x) (hF : CanF C A q) : CanF C (upA A p j (some q)) q ↔ CanL C A q p x y := by
  obtain ⟨wc, wo, wm⟩ := hw p hp
  have hsm := List.mem_of_getElem? hs
  have hxy := wc.1 _ hsm
  simp only at hxy
  obtain ⟨A', hA'⟩ : ∃ A', A' = upA A p j (some q) := ⟨_, rfl⟩
  rw [← hA']
  have hu : ∀ b p', held C A' q b p' = true ↔ (held C A q b p' = true ∨ (p' = p ∧ x ≤ b ∧ b < y)) := by
    intro b p'
    rw [held_iff, held_iff, hA', Held_up h0 hs, inS_iff]
  -- outside the stay nothing is new
  have hout : ∀ b, (b < x ∨ y ≤ b) → ∀ p', p' < cN C → held C A' q b p' = held C A q b p' := by
    intro b hb p' _
    refine bool_eq ?_
    rw [hu]
    constructor
    · rintro (h | ⟨_, h1, h2⟩)
      · exact h
      · omega
    · exact fun h => Or.inl h
  -- p was not held in it
  have hnp : ∀ b, x ≤ b → b < y → held C A q b p = false := by
    intro b h1 h2
    cases hh : held C A q b p
    · rfl
    · obtain ⟨j', s', g1, g2, g3⟩ := held_iff.mp hh
      have g2 := inS_iff.mp g2
      have e := wc.one hs g1 h1 h2 g2.1 g2.2
      rw [← e, h0] at g3; cases g3
  have hsum : ∀ f b, x ≤ b → b < y → sumN (held C A' q b) f (cN C) = sumN (held C A q b) f (cN C) + f p := by
    intro f b h1 h2
    have := sumN_add (P := held C A' q b) (Q := held C A q b) (f := f) (k := p) (cN C) (fun i _ hi => bool_eq (by
      rw [hu]
      constructor
      · rintro (h | ⟨h, _⟩)
        · exact h
        · exact absurd h hi
      · exact fun h => Or.inl h)) ((hu b p).mpr (Or.inr ⟨rfl, h1, h2⟩)) (hnp b h1 h2)
    rw [this, if_pos hp]
  have hlast : ∀ n, n ≤ x → lastH C A' q n = lastH C A q n := fun n hn => lastH_congr n (fun b hb => fpl_congr (hout b (Or.inl (by omega))))
  constructor
  · intro h
    refine ⟨fun g hg => ?_, fun b h1 h2 => ?_⟩
    · have hb := h x (by omega)
      have := hb.2 g (by rw [hb.1.fpl hp ((hu x p).mpr (Or.inr ⟨rfl, Nat.le_refl _, hxy.2.1⟩)), hg])
      rw [hlast x (Nat.le_refl _)] at this
      exact this
    · have hb := (h b (by omega)).1
      refine ⟨fun p' hp' hh => hb.1 p' p hp' hp ((hu b p').mpr (Or.inl hh)) ((hu b p).mpr (Or.inr ⟨rfl, h1, h2⟩)), ?_, ?_⟩
      · rw [← hsum _ b h1 h2]; exact hb.2.1
      · rw [← hsum _ b h1 h2]; exact hb.2.2
  · rintro ⟨hcome, hhold⟩
    have hok : ∀ b, b < 1000 → okAt C A' q b := by
      intro b hb
      by_cases hin : x ≤ b ∧ b < y
      · obtain ⟨h1, h2⟩ := hin
        obtain ⟨c1, c2, c3⟩ := hhold b h1 h2
        have key : ∀ p', p' < cN C → held C A' q b p' = true → cP C p' b = cP C p b := by
          intro p' hp' hh
          rcases (hu b p').mp hh with h | ⟨e, _⟩
          · exact c1 p' hp' h
          · rw [e]
        refine ⟨fun p1 p2 g1 g2 a1 a2 => (key p1 g1 a1).trans (key p2 g2 a2).symm, ?_, ?_⟩
        · rw [hsum _ b h1 h2]; exact c2
        · rw [hsum _ b h1 h2]; exact c3
      · exact okAt_congr (fun p' hp' => (hout b (by omega) p' hp').symm) (hF b hb).1
    intro b hb
    refine ⟨hok b hb, fun z hz => ?_⟩
    by_cases hbx : b < x
    · rw [hlast b (by omega)]
      exact (hF b hb).2 z (by rw [← fpl_congr (hout b (Or.inl hbx))]; exact hz)
    · by_cases hbx2 : b = x
      · subst hbx2
        rw [hlast b (Nat.le_refl _)]
        refine hcome z ?_
        rw [← (hok b hb).fpl hp ((hu b p).mpr (Or.inr ⟨rfl, Nat.le_refl _, hxy.2.1⟩))]
        exact hz
      · -- some puppet that is held at b was held a beat before
        have hk : ∃ k, k < cN C ∧ held C A' q b k = true ∧ held C A' q (b - 1) k = true ∧ ∃ s, s ∈ cS C k ∧ s.1 ≤ b - 1 ∧ b < s.2 := by
          by_cases hby : b < y
          · exact ⟨p, hp, (hu b p).mpr (Or.inr ⟨rfl, by omega, hby⟩), (hu (b - 1) p).mpr (Or.inr ⟨rfl, by omega, by omega⟩), (x, y), hsm, by simp only; omega, hby⟩
          · obtain ⟨k, k1, k2, k3⟩ := lastN_ex _ hz
            have k4 := (hout b (Or.inr (by omega)) k k1) ▸ k2
            obtain ⟨j', s', g1, g2, g3⟩ := held_iff.mp k4
            have g4 := hx k j' s' k1 g1 g3
            have g5 := inS_iff.mp g2
            refine ⟨k, k1, k2, (hu (b - 1) k).mpr (Or.inl (held_iff.mpr ⟨j', s', g1, inS_iff.mpr ⟨by omega, by omega⟩, g3⟩)), s', List.mem_of_getElem? g1, by omega, g5.2⟩
        obtain ⟨k, k1, k2, k3, s, s1, s2, s3⟩ := hk
        obtain ⟨_, ko, km⟩ := hw k k1
        obtain ⟨u, hu1⟩ := Option.isSome_iff_exists.mp (ko (b - 1) s s1 s2 (by omega))
        have hl := lastH_held (hok (b - 1) (by omega)) k1 k3 hu1
        rw [show b - 1 + 1 = b by omega] at hl
        rw [hl]
        rw [(hok b hb).fpl k1 k2] at hz
        have hm := km (b - 1) s u z s1 s2 (by omega) hu1 (by rw [show b - 1 + 1 = b by omega]; exact hz)
        rw [ndist_comm]
        simp only
        omega
/-! the casting goes through the stays in their order -/
noncomputable def pick (P : Nat → Prop) (n : Nat) : Option Nat := by classical exact (List.range n).find? (fun q => decide (P q))
theorem pick_some {P : Nat → Prop} {n q : Nat} (hq : q < n) (h : P q) (hl : ∀ i, i < q → ¬ P i) : pick P n = some q := by
  classical
  unfold pick
  rw [List.find?_range_eq_some]
  exact ⟨by simpa using h, by simpa using hq, fun i hi => by simpa using hl i hi⟩
theorem pick_none {P : Nat → Prop} {n : Nat} (h : ∀ i, i < n → ¬ P i) : pick P n = none := by
  classical
  unfold pick
  rw [List.find?_eq_none]
  intro q hq
  simpa using h q (by simpa using hq)
theorem pick_cases (P : Nat → Prop) (n : Nat) : (pick P n = none ∧ ∀ i, i < n → ¬ P i) ∨ ∃ q, pick P n = some q ∧ q < n ∧ P q := by
  classical
  cases h : pick P n with
  | none =>
    refine Or.inl ⟨rfl, fun i hi => ?_⟩
    unfold pick at h
    rw [List.find?_eq_none] at h
    simpa using h i (by simpa using hi)
  | some q =>
    unfold pick at h
    rw [List.find?_range_eq_some] at h
    exact Or.inr ⟨q, rfl, by simpa using h.2.1, by simpa using h.1⟩
noncomputable def castAt (C : CT) (A : AT) (p j : Nat) : AT := upA A p j (pick (fun q => CanF C (upA A p j (some q)) q) (cQ C))
noncomputable def castL (C : CT) (l : List (Nat × Nat)) (A : AT) : AT := l.foldl (fun A a => castAt C A a.1 a.2) A
def okey (C : CT) (a : Nat × Nat) : Nat := (match (cS C a.1)[a.2]? with | some s => s.1 | none => 0) * 8 + a.1
def isOrd (C : CT) (l : List (Nat × Nat)) : Prop := l.Pairwise (fun a b => okey C a < okey C b) ∧ ∀ a, a ∈ l ↔ (a.1 < cN C ∧ a.2 < (cS C a.1).length)
def noA : AT := fun _ _ => none
theorem held_noA (C : CT) (q b p : Nat) : held C noA q b p = false := by
  cases h : held C noA q b p
  · rfl
  · obtain ⟨_, _, _, _, h3⟩ := held_iff.mp h
    cases h3
theorem CanF_noA (C : CT) (q : Nat) : CanF C noA q := by
  intro b _
  refine ⟨⟨fun p p' _ _ h _ => (by rw [held_noA] at h; cases h), ?_, ?_⟩, fun x hx => ?_⟩
  · rw [sumN_zero _ (fun i _ => held_noA C q b i)]; omega
  · rw [sumN_zero _ (fun i _ => held_noA C q b i)]; omega
  · unfold fpl at hx
    rw [lastN_none _ (fun i _ => held_noA C q b i)] at hx
    cases hx
/-- after the stays l: everyone can do what it is cast for, and only those of l are given -/
def castI (C : CT) (l : List (Nat × Nat)) (A : AT) : Prop := (∀ q, q < cQ C → CanF C A q) ∧ ∀ p j q, A p j = some q → (p, j) ∈ l ∧ q < cQ C
theorem castI.un {C : CT} {l : List (Nat × Nat)} {A : AT} (h : castI C l A) {a : Nat × Nat} (ha : a ∉ l) : A a.1 a.2 = Option.none := by
  cases hA : A a.1 a.2 with
  | none => rfl
  | some q => exact absurd (h.2 _ _ _ hA).1 ha
theorem castI_nil (C : CT) : castI C [] noA := ⟨fun q _ => CanF_noA C q, fun p j q h => by cases h⟩
theorem castI.step {C : CT} {l : List (Nat × Nat)} {A : AT} {a : Nat × Nat} (h : castI C l A) (ha : a ∉ l) : castI C (l ++ [a]) (castAt C A a.1 a.2) := by
  have h0 := h.un ha
  unfold castAt
  have hmem : ∀ p j o q, upA A a.1 a.2 o p j = some q → (∀ q', o = some q' → q' < cQ C) → (p, j) ∈ l ++ [a] ∧ q < cQ C := by
    intro p j o q hq ho
    unfold upA at hq
    by_cases e : p = a.1 ∧ j = a.2
    · rw [if_pos e] at hq
      refine ⟨?_, ho q hq⟩
      rw [e.1, e.2]; simp
    · rw [if_neg e] at hq
      have := h.2 p j q hq
      exact ⟨List.mem_append_left _ this.1, this.2⟩
  rcases pick_cases (fun q => CanF C (upA A a.1 a.2 (some q)) q) (cQ C) with ⟨e, _⟩ | ⟨q, e, hq, hc⟩
  · rw [e]
    exact ⟨fun q hq => CanF_congr (fun b p _ => (held_congr (Held_upO h0 (by simp))).symm) (h.1 q hq), fun p j q hq => hmem p j none q hq (by simp)⟩
  · rw [e]
    refine ⟨fun q' hq' => ?_, fun p j q' hq' => hmem p j (some q) q' hq' (fun x hx => by cases hx; exact hq)⟩
    by_cases he : q' = q
    · rw [he]; exact hc
    · exact CanF_congr (fun b p _ => (held_congr (Held_upO h0 (by simp; exact fun e => he e.symm))).symm) (h.1 q' hq')
theorem castL_snoc (C : CT) (l : List (Nat × Nat)) (a : Nat × Nat) (A : AT) : castL C (l ++ [a]) A = castAt C (castL C l A) a.1 a.2 := by
  simp [castL, List.foldl_append]
theorem isOrd.nodup {C : CT} {l : List (Nat × Nat)} (h : isOrd C l) : l.Nodup := h.1.imp (fun hab => fun e => by rw [e] at hab; omega)
theorem castI_take {C : CT} {l : List (Nat × Nat)} (h : l.Nodup) : ∀ n, n ≤ l.length → castI C (l.take n) (castL C (l.take n) noA) := by
  intro n
  induction n with
  | zero => intro _; simpa [castL] using castI_nil C
  | succ n ih =>
    intro hn
    have hg : l[n]? = some l[n] := List.getElem?_eq_getElem (by omega)
    rw [take_succ_get hg, castL_snoc]
    refine (ih (by omega)).step ?_
    intro hm
    obtain ⟨i, hi⟩ := List.getElem?_of_mem hm
    have hil : i < n := by
      have := (List.getElem?_eq_some_iff.mp hi).1
      simp at this; omega
    rw [List.getElem?_take_of_lt hil] at hi
    have := (List.getElem?_inj (by omega) h).mp (hi.trans hg.symm)
    omega
/-- the check of a stay that is next in the order -/
theorem canNext {C : CT} {l : List (Nat × Nat)} (hw : WC C) (h : isOrd C l) (h8 : cN C ≤ 8) {n p j x y q : Nat} (hn : l[n]? = some (p, j)) (hs : (cS C p)[j]? = some (x, y)) (hq : q < cQ C) : CanF C (upA (castL C (l.take n) noA) p j (some q)) q ↔ CanL C (castL C (l.take n) noA) q p x y := by
  have hl := (List.getElem?_eq_some_iff.mp hn).1
  have hI := castI_take (C := C) h.nodup n (by omega)
  have hp := ((h.2 (p, j)).mp (List.mem_of_getElem? hn)).1
  have hni : (p, j) ∉ l.take n := by
    intro hm
    obtain ⟨i, hi⟩ := List.getElem?_of_mem hm
    have hil : i < n := by
      have := (List.getElem?_eq_some_iff.mp hi).1
      simp at this; omega
    rw [List.getElem?_take_of_lt hil] at hi
    have := (List.getElem?_inj (by omega) h.nodup).mp (hi.trans hn.symm)
    omega
  refine canStep hw hp (hI.un hni) hs (fun p' j' s' hp' hs' hA => ?_) (hI.1 q hq)
  obtain ⟨i, hi⟩ := List.getElem?_of_mem (hI.2 p' j' q hA).1
  have hil : i < n := by
    have := (List.getElem?_eq_some_iff.mp hi).1
    simp at this; omega
  rw [List.getElem?_take_of_lt hil] at hi
  have a := List.getElem?_eq_some_iff.mp hi
  have b := List.getElem?_eq_some_iff.mp hn
  have := List.pairwise_iff_getElem.mp h.1 i n a.1 b.1 hil
  rw [a.2, b.2] at this
  unfold okey at this
  rw [hs, hs'] at this
  simp only at this
  omega
