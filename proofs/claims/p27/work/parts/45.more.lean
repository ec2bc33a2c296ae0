/-! ===== a player more, a puppet more ===== -/
def plyB (B : BT) (s o : Nat) : BT := (B.1, B.2.1, B.2.2.1, tQ B + 1, va_up (tT B) (tQ B) s, va_up (tO B) (tQ B) o, B.2.2.2.2.2.2)
def pupB (B : BT) (w h : Nat) : BT := (tN B + 1, va_up (tW B) (tN B) w, va_up (tH B) (tN B) h, B.2.2.2)
theorem plyB_V {B : BT} {s o : Nat} (h : VB B) (h5 : tQ B < 5) (hs : s ≤ 20) (ho : o < 20) : VB (plyB B s o) := by
  obtain ⟨a1, a2, a3, a4, a5, a6, a7, a8, a9⟩ := h
  refine ⟨a1, (by show tQ B + 1 ≤ 5; omega), a3, a4, fun q hq => ?_, a6, a7, a8, a9⟩
  have hq : q < tQ B + 1 := hq
  show va_up (tT B) (tQ B) s q ≤ 20 ∧ va_up (tO B) (tQ B) o q < 20
  by_cases e : q = tQ B
  · rw [e, va_up_self, va_up_self]; exact ⟨hs, ho⟩
  · rw [va_up_ne _ _ e, va_up_ne _ _ e]; exact a5 q (by omega)
theorem VB.sc_new {B : BT} (h : VB B) {p : Nat} (hp : tN B ≤ p) : isScr (tU B) (tK B) (tC B) p [] ∧ scB B p = [] ∧ dsB B p = [] := by
  have hs : isScr (tU B) (tK B) (tC B) p [] := by
    refine ⟨List.Pairwise.nil, fun c => ⟨fun hc => by simp at hc, fun hc => ?_⟩⟩
    have := (h.2.2.2.2.2.1 c hc.1).2
    have := hc.2.1
    omega
  have e : scB B p = [] := hs.eqS
  exact ⟨hs, e, by unfold dsB; rw [e]; rfl⟩
theorem pupB_V {B : BT} {w g : Nat} (h : VB B) (h8 : tN B < 8) (hw : w ≤ 9) (hg : g ≤ 2) : VB (pupB B w g) := by
  have h0 := h
  obtain ⟨a1, a2, a3, a4, a5, a6, a7, a8, a9⟩ := h
  refine ⟨(by show tN B + 1 ≤ 8; omega), a2, a3, fun i hi => ?_, a5, fun c hc => ⟨(a6 c hc).1, (by have := (a6 c hc).2; show (tU B c).1 < tN B + 1; omega)⟩, fun p hp => ?_, a8, a9⟩
  · have hi : i < tN B + 1 := hi
    show va_up (tW B) (tN B) w i ≤ 9 ∧ va_up (tH B) (tN B) g i ≤ 2
    by_cases e : i = tN B
    · rw [e, va_up_self, va_up_self]; exact ⟨hw, hg⟩
    · rw [va_up_ne _ _ e, va_up_ne _ _ e]; exact a4 i (by omega)
  · have hp : p < tN B + 1 := hp
    by_cases e : p = tN B
    · have hn := h0.sc_new (p := p) (by omega)
      show isScr (tU B) (tK B) (tC B) p (scB B p) ∧ okL none (dsB B p) = true
      rw [hn.2.1, hn.2.2]
      exact ⟨hn.1, rfl⟩
    · exact a7 p (by omega)
theorem sumN_congr2 {P Q : Nat → Bool} {f g : Nat → Nat} : ∀ n, (∀ i, i < n → P i = Q i ∧ f i = g i) → sumN P f n = sumN Q g n := by
  intro n
  induction n with
  | zero => intro _; rfl
  | succ n ih => intro h; simp only [sumN]; rw [ih (fun i hi => h i (by omega)), (h n (by omega)).1, (h n (by omega)).2]
theorem np_none {B : BT} (hV : VB B) (A : AT) (q b : Nat) : held (ctB B) A q b (tN B) = false := by
  cases h : held (ctB B) A q b (tN B)
  · rfl
  · obtain ⟨j, s, h1, _, _⟩ := held_iff.mp h
    have h1 : (stL (dsB B (tN B)))[j]? = some s := h1
    rw [(hV.sc_new (Nat.le_refl _)).2.2] at h1
    simp [stL] at h1
theorem np_fpl {B : BT} (hV : VB B) (w g : Nat) (A : AT) (q b : Nat) : fpl (ctB (pupB B w g)) A q b = fpl (ctB B) A q b := by
  show lastN (held (ctB B) A q b) (fun p => plL (dsB B p) b) (tN B + 1) = lastN (held (ctB B) A q b) (fun p => plL (dsB B p) b) (tN B)
  simp only [lastN, np_none hV, Bool.false_eq_true, if_false]
theorem np_last {B : BT} (hV : VB B) (w g : Nat) (A : AT) (q : Nat) : ∀ n, lastH (ctB (pupB B w g)) A q n = lastH (ctB B) A q n := by
  intro n
  induction n with
  | zero => rfl
  | succ n ih => simp only [lastH]; rw [np_fpl hV, ih]
theorem np_sum {B : BT} (hV : VB B) (A : AT) (q b v : Nat) (f : Nat → Nat) : sumN (held (ctB B) A q b) (va_up f (tN B) v) (tN B + 1) = sumN (held (ctB B) A q b) f (tN B) := by
  simp only [sumN, np_none hV, Bool.false_eq_true, if_false, Nat.add_zero]
  exact sumN_congr2 _ (fun i hi => ⟨rfl, va_up_ne _ _ (by omega)⟩)
theorem np_ok {B : BT} (hV : VB B) (w g : Nat) (A : AT) (q b : Nat) : okAt (ctB (pupB B w g)) A q b ↔ okAt (ctB B) A q b := by
  show ((∀ p p', p < tN B + 1 → p' < tN B + 1 → held (ctB B) A q b p = true → held (ctB B) A q b p' = true → plL (dsB B p) b = plL (dsB B p') b) ∧ sumN (held (ctB B) A q b) (va_up (tH B) (tN B) g) (tN B + 1) ≤ 2 ∧ sumN (held (ctB B) A q b) (va_up (tW B) (tN B) w) (tN B + 1) ≤ tT B q) ↔ ((∀ p p', p < tN B → p' < tN B → held (ctB B) A q b p = true → held (ctB B) A q b p' = true → plL (dsB B p) b = plL (dsB B p') b) ∧ sumN (held (ctB B) A q b) (tH B) (tN B) ≤ 2 ∧ sumN (held (ctB B) A q b) (tW B) (tN B) ≤ tT B q)
  rw [np_sum hV, np_sum hV]
  constructor
  · rintro ⟨h1, h2⟩
    exact ⟨fun p p' hp hp' => h1 p p' (by omega) (by omega), h2⟩
  · rintro ⟨h1, h2⟩
    refine ⟨fun p p' hp hp' a b => ?_, h2⟩
    have hn := np_none hV A q
    have e1 : p ≠ tN B := fun e => by rw [e, hn] at a; cases a
    have e2 : p' ≠ tN B := fun e => by rw [e, hn] at b; cases b
    exact h1 p p' (by omega) (by omega) a b
theorem np_can {B : BT} (hV : VB B) (w g : Nat) (A : AT) (q : Nat) : CanF (ctB (pupB B w g)) A q ↔ CanF (ctB B) A q := by
  unfold CanF walkAt
  constructor
  · intro h b hb
    have := h b hb
    rw [np_ok hV, np_fpl hV, np_last hV] at this
    exact this
  · intro h b hb
    rw [np_ok hV, np_fpl hV, np_last hV]
    exact h b hb
theorem np_cast {B : BT} (hV : VB B) (w g : Nat) : ∀ (l : List (Nat × Nat)) (A : AT), castL (ctB (pupB B w g)) l A = castL (ctB B) l A := by
  intro l
  induction l with
  | nil => intro A; rfl
  | cons a l ih =>
    intro A
    have e : castAt (ctB (pupB B w g)) A a.1 a.2 = castAt (ctB B) A a.1 a.2 := by
      unfold castAt
      rw [pick_iff (fun q => np_can hV w g (upA A a.1 a.2 (some q)) q)]
      rfl
    show castL (ctB (pupB B w g)) l (castAt (ctB (pupB B w g)) A a.1 a.2) = castL (ctB B) l (castAt (ctB B) A a.1 a.2)
    rw [e, ih]
theorem np_ord {B : BT} (hV : VB B) (w g : Nat) (h : isOrd (ctB B) (ordB B)) : isOrd (ctB (pupB B w g)) (ordB B) := by
  refine ⟨h.1, fun a => ?_⟩
  rw [h.2 a]
  show (a.1 < tN B ∧ a.2 < (stL (dsB B a.1)).length) ↔ (a.1 < tN B + 1 ∧ a.2 < (stL (dsB B a.1)).length)
  constructor
  · rintro ⟨h1, h2⟩; exact ⟨by omega, h2⟩
  · rintro ⟨h1, h2⟩
    refine ⟨?_, h2⟩
    by_cases e : a.1 = tN B
    · rw [e, (hV.sc_new (Nat.le_refl _)).2.2] at h2
      simp [stL] at h2
    · omega
theorem np_castB {B : BT} (hV : VB B) (w g : Nat) (h : isOrd (ctB B) (ordB B)) : ordB (pupB B w g) = ordB B ∧ castB (pupB B w g) = castB B := by
  have e := (np_ord hV w g h).eqB
  refine ⟨e, ?_⟩
  unfold castB
  rw [e, np_cast hV]
theorem np_hm {B : BT} (hV : VB B) (w g : Nat) (h : isOrd (ctB B) (ordB B)) (q b : Nat) : hmB (pupB B w g) q b = hmB B q b := by
  unfold hmB
  rw [(np_castB hV w g h).2]
  show maskN (held (ctB B) (castB B) q b) (tN B + 1) = _
  simp only [maskN, np_none hV, Bool.false_eq_true, if_false, Nat.or_zero]
theorem np_cl {B : BT} (hV : VB B) (w g : Nat) : clN (pupB B w g) = clN B := by
  have hz := (hV.sc_new (p := tN B) (Nat.le_refl _)).2.2
  have hf : ∀ a, fcB B a (tN B) = none := by
    intro a
    unfold fcB
    refine pick_none (fun t _ h => ?_)
    have h1 := h.1
    have h2 := oneT_symm h1
    rw [hz] at h2
    have := h2.1
    simp [trL, upTo, pth, trOf] at this
  show sum1 (fun a => sum1 (fun b => if a < b ∧ fcB B a b ≠ none then 1 else 0) (tN B + 1)) (tN B + 1) = clN B
  unfold clN
  have e1 : sum1 (fun b => if tN B < b ∧ fcB B (tN B) b ≠ none then 1 else 0) (tN B + 1) = 0 := by
    rw [sum1_congr (g := fun _ => 0) _ (fun i hi => by rw [if_neg (by omega)])]
    exact sum1_zero _
  simp only [sum1]
  have e2 : sum1 (fun b => if tN B < b ∧ fcB B (tN B) b ≠ none then 1 else 0) (tN B) + (if tN B < tN B ∧ fcB B (tN B) (tN B) ≠ none then 1 else 0) = 0 := e1
  rw [e2, Nat.add_zero]
  refine sum1_congr _ (fun a _ => ?_)
  rw [hf a]
  simp
