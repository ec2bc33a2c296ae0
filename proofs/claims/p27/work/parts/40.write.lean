/-! ===== a cue more, a cue struck out ===== -/
def addB (B : BT) (p : Nat) (d : D4) : BT := (B.1, B.2.1, B.2.2.1, B.2.2.2.1, B.2.2.2.2.1, B.2.2.2.2.2.1, tC B + 1, va_up (tU B) (tC B) (p, d), B.2.2.2.2.2.2.2.2.1, B.2.2.2.2.2.2.2.2.2)
def remB (B : BT) (c : Nat) : BT := (B.1, B.2.1, B.2.2.1, B.2.2.2.1, B.2.2.2.2.1, B.2.2.2.2.2.1, B.2.2.2.2.2.2.1, B.2.2.2.2.2.2.2.1, va_up (tK B) c true, B.2.2.2.2.2.2.2.2.2)
theorem addB_sc {B : BT} {p : Nat} {d : D4} (h : VB B) (hp : p < tN B) : scB (addB B p d) p = insA (scB B p) (ipos (dsB B p) d.2.1) (tC B) ∧ dsB (addB B p d) p = insA (dsB B p) (ipos (dsB B p) d.2.1) d := by
  have hs := (h.2.2.2.2.2.2.1 p hp).1
  have hc := h.2.2.1
  have hk := (h.2.2.2.2.2.2.2.2 (tC B) (Nat.le_refl _)).1
  have ha := hs.add (d := d) (by omega) hk
  have e : scB (addB B p d) p = insA (scB B p) (ipos (dsB B p) d.2.1) (tC B) := ha.1.eqS
  refine ⟨e, ?_⟩
  unfold dsB
  rw [e]
  exact ha.2
theorem addB_scO {B : BT} {p p' : Nat} {d : D4} (h : VB B) (hp : p' < tN B) (hne : p' ≠ p) : scB (addB B p d) p' = scB B p' ∧ dsB (addB B p d) p' = dsB B p' := by
  have hs := (h.2.2.2.2.2.2.1 p' hp).1
  have ha := hs.addO (d := d) hne
  have e : scB (addB B p d) p' = scB B p' := ha.1.eqS
  refine ⟨e, ?_⟩
  unfold dsB
  rw [e]
  exact ha.2
theorem addB_V {B : BT} {p : Nat} {d : D4} (h : VB B) (hp : p < tN B) (hd : okD d) (hc : tC B < 40) (hok : okL none (dsB (addB B p d) p) = true) : VB (addB B p d) := by
  have h0 := h
  obtain ⟨a1, a2, a3, a4, a5, a6, a7, a8, a9⟩ := h
  refine ⟨a1, a2, (by show tC B + 1 ≤ 40; omega), a4, a5, fun c hcc => ?_, fun p' hp' => ?_, fun c hcc => ?_, fun c hcc => a9 c (by have : tC B + 1 ≤ c := hcc; omega)⟩
  · have hcc : c < tC B + 1 := hcc
    show okD (va_up (tU B) (tC B) (p, d) c).2 ∧ (va_up (tU B) (tC B) (p, d) c).1 < tN B
    by_cases e : c = tC B
    · rw [e, va_up_self]; exact ⟨hd, hp⟩
    · rw [va_up_ne _ _ e]; exact a6 c (by omega)
  · have hk := (a9 (tC B) (Nat.le_refl _)).1
    by_cases e : p' = p
    · subst e
      have ha := (a7 p' hp).1.add (d := d) (by omega) hk
      have e : scB (addB B p' d) p' = _ := ha.1.eqS
      refine ⟨?_, hok⟩
      rw [e]
      exact ha.1
    · have ha := (a7 p' hp').1.addO (d := d) e
      have e2 := addB_scO (d := d) h0 hp' e
      refine ⟨?_, ?_⟩
      · rw [e2.1]; exact ha.1
      · rw [e2.2]; exact (a7 p' hp').2
  · have hcc : c < tC B + 1 := hcc
    by_cases e : c = tC B
    · have := a9 c (by omega)
      show tE B c ≤ 20 ∧ -(50 * (tE B c : Int)) ≤ tL B c ∧ tL B c ≤ 50 * (tE B c : Int) ∧ tF B c ≤ 50 * tE B c
      omega
    · exact a8 c (by omega)
theorem remB_sc {B : BT} {c i : Nat} (h : VB B) (hc : c < tC B) (hi : (scB B (tU B c).1)[i]? = some c) : scB (remB B c) (tU B c).1 = remA (scB B (tU B c).1) i ∧ dsB (remB B c) (tU B c).1 = remA (dsB B (tU B c).1) i := by
  have hp := (h.2.2.2.2.2.1 c hc).2
  have ha := (h.2.2.2.2.2.2.1 _ hp).1.rem hi
  have e : scB (remB B c) (tU B c).1 = _ := ha.1.eqS
  refine ⟨e, ?_⟩
  unfold dsB
  rw [e]
  exact ha.2
theorem remB_scO {B : BT} {c p' : Nat} (h : VB B) (hp : p' < tN B) (hne : (tU B c).1 ≠ p') : scB (remB B c) p' = scB B p' ∧ dsB (remB B c) p' = dsB B p' := by
  have ha := (h.2.2.2.2.2.2.1 p' hp).1.remO hne
  have e : scB (remB B c) p' = scB B p' := ha.eqS
  refine ⟨e, ?_⟩
  unfold dsB
  rw [e]
  rfl
theorem remB_V {B : BT} {c : Nat} (h : VB B) (hc : c < tC B) (hk : tK B c = false) (hok : okL none (dsB (remB B c) (tU B c).1) = true) : VB (remB B c) := by
  have h0 := h
  obtain ⟨a1, a2, a3, a4, a5, a6, a7, a8, a9⟩ := h
  refine ⟨a1, a2, a3, a4, a5, a6, fun p' hp' => ?_, a8, fun c' hcc => ?_⟩
  · by_cases e : (tU B c).1 = p'
    · subst e
      obtain ⟨i, hi⟩ := List.getElem?_of_mem (((a7 _ hp').1.2 c).mpr ⟨hc, rfl, hk⟩)
      have ha := (a7 _ hp').1.rem hi
      have e : scB (remB B c) (tU B c).1 = _ := ha.1.eqS
      refine ⟨?_, hok⟩
      rw [e]
      exact ha.1
    · have ha := (a7 p' hp').1.remO e
      have e2 := remB_scO h0 hp' e
      refine ⟨?_, ?_⟩
      · rw [e2.1]; exact ha
      · rw [e2.2]; exact (a7 p' hp').2
  · have hcc : tC B ≤ c' := hcc
    show va_up (tK B) c true c' = false ∧ tE B c' = 0 ∧ tL B c' = 0 ∧ tF B c' = 0
    rw [va_up_ne _ _ (by omega)]
    exact a9 c' hcc
theorem cntN_set {P : Nat → Bool} {c : Nat} : ∀ n, c < n → P c = false → cntN (va_up P c true) n = cntN P n + 1 := by
  intro n
  induction n with
  | zero => intro h; omega
  | succ n ih =>
    intro h hp
    simp only [cntN]
    by_cases e : c = n
    · subst e
      rw [va_up_self, hp, cntN_congr c (P := va_up P c true) (Q := P) (fun i hi => va_up_ne _ _ (by omega))]
      simp
    · rw [ih (by omega) hp, va_up_ne _ _ (by omega : n ≠ c)]
      omega
theorem map_insA {f : Nat → Nat} {l : List Nat} {j n v : Nat} (h : ∀ c, c ∈ l → c < n) : (insA l j n).map (va_up f n v) = insL (l.map f) j v := by
  unfold insA insL
  have e : ∀ l' : List Nat, (∀ c, c ∈ l' → c < n) → l'.map (va_up f n v) = l'.map f := fun l' h' => List.map_congr_left (fun c hc => va_up_ne _ _ (by have := h' c hc; omega))
  rw [List.map_append, List.map_cons, va_up_self, e _ (fun c hc => h c (List.mem_of_mem_take hc)), e _ (fun c hc => h c (List.mem_of_mem_drop hc)), List.map_take, List.map_drop]
theorem map_remA {f : Nat → Nat} {l : List Nat} {i : Nat} : (remA l i).map f = remL (l.map f) i := by
  simp [remA, remL]
/-! frames of lists and of what is played -/
theorem OffP.list {S : PS} {L a : Nat} (hL : al S L 7) (ha : al S a 3) (h1 : pW S L ≠ 8 * a + 1) (h2 : pW S L ≠ 8 * a + 2) : OffP S (moL L) (maL L) a := by
  refine ⟨fun f h => (ha.kne hL (by decide)) h, fun L' f _ hw h => ?_, fun t f ht _ _ _ h => (ht.kne hL (by decide)) h, fun T _ _ h => (ha.kne hL (by decide)) h, fun L' E _ hw _ _ h => ?_⟩
  · have h : L' = L := h
    rw [h] at hw
    exact hw.elim h1 h2
  · have h : L' = L := h
    rw [h] at hw
    exact hw.elim h1 h2
theorem OffP.took {Γ : GBase} {S : PS} {LS LT TA TB p a : Nat} (hP : PupF Γ S p LS LT TA TB) (hS : pW S LS = 8 * p + 1) (hT : pW S LT = 8 * p + 2) (ha : al S a 3) (hne : a ≠ p) : OffP S (moT LS LT) (maT LS LT TA TB) a := by
  obtain ⟨_, _, _, _, _, hA, hB, _, _, hLS, hLT⟩ := hP
  have key : ∀ L, (pW S L = 8 * a + 1 ∨ pW S L = 8 * a + 2) → L ≠ LS ∧ L ≠ LT := by
    intro L hw
    constructor
    · intro e; rw [e, hS] at hw; omega
    · intro e; rw [e, hT] at hw; omega
  refine ⟨fun f h => h.elim (ha.kne hLS (by decide)) (ha.kne hLT (by decide)), fun L' f _ hw h => h.elim (key L' hw).1 (key L' hw).2, fun t f ht _ _ _ h => h.elim (ht.kne hLS (by decide)) (ht.kne hLT (by decide)), fun T _ hw h => ?_, fun L' E _ hw hE _ h => ?_⟩
  · rcases h with h | h | h | h
    · exact (ha.kne hLS (by decide)) h
    · exact (ha.kne hLT (by decide)) h
    · rw [h, hA.2.2] at hw; exact hne hw.symm
    · rw [h, hB.2.2] at hw; exact hne hw.symm
  · rcases h with h | h | h | h
    · exact (key L' hw).1 h
    · exact (key L' hw).2 h
    · exact (hE.kne hA.1 (by decide)) h
    · exact (hE.kne hB.1 (by decide)) h
theorem BkL.frL {Γ : GBase} {S S' : PS} {x f o L : Nat} {xs : List Nat} (hx : al S x 5) (h : BkL Γ S x f o xs) (hf : Fr S S' (moL L) (maL L)) (hL : al S L 7) (h1 : pW S L ≠ o) : BkL Γ S' x f o xs :=
  h.fr hx hf (fun e => (hx.kne hL (by decide)) e) (fun L' g _ hw e => by have e : L' = L := e; rw [e] at hw; exact h1 hw) (fun L' E _ hw _ _ e => by have e : L' = L := e; rw [e] at hw; exact h1 hw)
theorem CuesI.cues {S : PS} {A : AD} {B : BT} (h : CuesI S A B) (hV : VB B) {p : Nat} (hp : p < tN B) : Cues S ((scB B p).map (dC A)) (dsB B p) := by
  refine ⟨by simp [dsB, dat], fun i c d hc hd => ?_⟩
  rw [List.getElem?_map] at hc
  unfold dsB dat at hd
  rw [List.getElem?_map] at hd
  cases hs : (scB B p)[i]? with
  | none => rw [hs] at hc; cases hc
  | some c' =>
    rw [hs] at hc hd
    cases hc; cases hd
    exact (h.2 c' (((hV.2.2.2.2.2.2.1 p hp).1.2 c').mp (List.mem_of_getElem? hs)).1).1
/-- the puppet's script only is touched, and then as it was -/
theorem BkI.frS {Γ : GBase} {S S' : PS} {x p : Nat} {A : AD} {B : BT} (h : BkI Γ S x A B) (hp : p < tN B) {LS LT TA TB : Nat} (hP : PupF Γ S (dP A p) LS LT TA TB) (hS : pW S LS = 8 * dP A p + 1) (hf : Fr S S' (moL LS) (maL LS)) (hL : isL Γ S' LS ((scB B p).map (dC A))) : BkI Γ S' x A B := by
  obtain ⟨a1, a2, a3, a4, ⟨os, a5, a6, a7, a8⟩, a9, a10, a11, a12, a13, a14⟩ := h
  have hLS := hP.2.2.2.2.2.2.2.2.2.1
  have hx : ∀ f, pI S' f x = pI S f x := fun f => ((hf x a1.1).2.2.2.2.1 f (fun e => (a1.kne hLS (by decide)) e)).1
  have b11 : PupsI Γ S' A B := by
    refine ⟨a11.1, fun i hi => ?_⟩
    by_cases e : i = p
    · subst e
      obtain ⟨LS1, LT1, TA1, TB1, p1, p2, p3, p4, p5, p6, p7, p8⟩ := a11.2 i hi
      have e1 : LS1 = LS := Option.some.inj (p1.2.1.symm.trans hP.2.1)
      subst e1
      have hne : LT1 ≠ LS1 := fun e => by rw [e, p3] at p4; omega
      have ha := p1.1
      have fa := (hf _ ha.1).2.2.2.2.1
      have na : dP A i ≠ LS1 := ha.kne hLS (by decide)
      refine ⟨LS1, LT1, TA1, TB1, p1.fr hf (fun _ e => na e), ⟨(fa _ (fun e => na e)).1.trans p2.1, (fa _ (fun e => na e)).1.trans p2.2.1, (fa _ (fun e => na e)).1.trans p2.2.2.1, (fa _ (fun e => na e)).1.trans p2.2.2.2⟩, (hf LS1 hLS.1).2.2.2.1.trans p3, (hf LT1 p6.1.1).2.2.2.1.trans p4, hL, p6.fr hf (fun e => hne e) (fun e => hne e) (fun E _ _ e => hne e), p7.fr hf (fun t ht f _ _ e => (p7.al t ht).kne hLS (by decide) e), fun b hb => ?_⟩
      have hA := p1.2.2.2.2.2.1
      have hB := p1.2.2.2.2.2.2.1
      rw [((hf TA1 hA.1.1).2.2.2.2.2 (by rw [hA.2.2]; exact fun e => na e)).1, ((hf TB1 hB.1.1).2.2.2.2.2 (by rw [hB.2.2]; exact fun e => na e)).1]
      exact p8 b hb
    · have hai := a11.al i hi
      have hne : dP A i ≠ dP A p := fun q => e (a11.1 i p hi hp q)
      exact (a11.2 i hi).fr hf (OffP.list hLS hai (by rw [hS]; omega) (by rw [hS]; omega))
  have b12 : PlysI S' A B := a12.fr hf (fun a f ha e => (ha.kne hLS (by decide)) e)
  refine ⟨a1.fr hf, a2.frL a1 hf hLS (by rw [hS]; omega), a3.frL a1 hf hLS (by rw [hS]; omega), a4.frL a1 hf hLS (by rw [hS]; omega), ⟨os, a5.frL a1 hf hLS (by rw [hS]; omega), fun t ht => (a6 t ht).fr hf, a7, ?_⟩, (hx 164).trans a9, ?_, b11, b12, a13.fr hf (fun a f ha e => (ha.kne hLS (by decide)) e), a14⟩
  · rcases a8 with a8 | ⟨a8, a8'⟩
    · exact Or.inl ((hx 165).trans a8)
    · exact Or.inr ⟨(hx 165).trans a8, a8'.fr a11 a12 hf (fun t ht e => (ht.kne hLS (by decide)) e) (fun a ha e => (ha.kne hLS (by decide)) e) (fun T a _ ha _ e => (ha.kne hLS (by decide)) e)⟩
  · rcases a10 with a10 | ⟨a10, a10'⟩
    · exact Or.inl ((hx 166).trans a10)
    · exact Or.inr ⟨(hx 166).trans a10, (hx 167).trans a10'⟩
