/-! ===== the book, as the document says it ===== -/
/-- how many puppets, their weights, hands; how many players, their strengths, places; how many cues, the cues, struck out, notes, their sums -/
abbrev BT : Type := Nat × (Nat → Nat) × (Nat → Nat) × Nat × (Nat → Nat) × (Nat → Nat) × Nat × (Nat → Nat × D4) × (Nat → Bool) × (Nat → Nat) × (Nat → Int) × (Nat → Nat)
abbrev tN (B : BT) : Nat := B.1
abbrev tW (B : BT) : Nat → Nat := B.2.1
abbrev tH (B : BT) : Nat → Nat := B.2.2.1
abbrev tQ (B : BT) : Nat := B.2.2.2.1
abbrev tT (B : BT) : Nat → Nat := B.2.2.2.2.1
abbrev tO (B : BT) : Nat → Nat := B.2.2.2.2.2.1
abbrev tC (B : BT) : Nat := B.2.2.2.2.2.2.1
abbrev tU (B : BT) : Nat → Nat × D4 := B.2.2.2.2.2.2.2.1
abbrev tK (B : BT) : Nat → Bool := B.2.2.2.2.2.2.2.2.1
abbrev tE (B : BT) : Nat → Nat := B.2.2.2.2.2.2.2.2.2.1
abbrev tL (B : BT) : Nat → Int := B.2.2.2.2.2.2.2.2.2.2.1
abbrev tF (B : BT) : Nat → Nat := B.2.2.2.2.2.2.2.2.2.2.2
noncomputable def scB (B : BT) (p : Nat) : List Nat := scr (tU B) (tK B) (tC B) p
noncomputable def dsB (B : BT) (p : Nat) : List D4 := dat (tU B) (scB B p)
noncomputable def ctB (B : BT) : CT := (tN B, fun p b => plL (dsB B p) b, fun p => stL (dsB B p), tW B, tH B, tQ B, tT B, tO B)
noncomputable def ordB (B : BT) : List (Nat × Nat) := by classical exact if h : ∃ l, isOrd (ctB B) l then h.choose else []
noncomputable def castB (B : BT) : AT := castL (ctB B) (ordB B) noA
def VB (B : BT) : Prop := tN B ≤ 8 ∧ tQ B ≤ 5 ∧ tC B ≤ 40 ∧ (∀ i, i < tN B → tW B i ≤ 9 ∧ tH B i ≤ 2) ∧ (∀ q, q < tQ B → tT B q ≤ 20 ∧ tO B q < 20) ∧ (∀ c, c < tC B → okD (tU B c).2 ∧ (tU B c).1 < tN B) ∧ (∀ p, p < tN B → isScr (tU B) (tK B) (tC B) p (scB B p) ∧ okL none (dsB B p) = true) ∧ (∀ c, c < tC B → tE B c ≤ 20 ∧ -(50 * (tE B c : Int)) ≤ tL B c ∧ tL B c ≤ 50 * (tE B c : Int) ∧ tF B c ≤ 50 * tE B c) ∧ ∀ c, tC B ≤ c → tK B c = false ∧ tE B c = 0 ∧ tL B c = 0 ∧ tF B c = 0
theorem VB.good {B : BT} (h : VB B) {p : Nat} (hp : p < tN B) : good (dsB B p) := by
  obtain ⟨_, _, hc, _, _, hu, hs, _⟩ := h
  refine ⟨(hs p hp).2, fun d hd => ?_, (hs p hp).1.srtD (by omega)⟩
  obtain ⟨c, hc, rfl⟩ := List.mem_map.mp hd
  exact (hu c (((hs p hp).1.2 c).mp hc).1).1
theorem VB.len {B : BT} (h : VB B) {p : Nat} (hp : p < tN B) : (scB B p).length ≤ 40 := by
  have := (h.2.2.2.2.2.2.1 p hp).1.len
  have := h.2.2.1
  omega
theorem VB.lenD {B : BT} (h : VB B) {p : Nat} (hp : p < tN B) : (dsB B p).length ≤ 40 := by
  have := h.len hp
  simpa [dsB, dat] using this
theorem VB.wc {B : BT} (h : VB B) : WC (ctB B) := by
  intro p hp
  have g := h.good hp
  exact ⟨g.chain, fun b s hs h1 h2 => g.on (by have := (g.chain.1 s hs).2.2; omega) hs h1 h2, fun b s u v hs h1 h2 hu hv => g.move hs h1 h2 hu hv⟩
theorem isOrd.uniq {C : CT} {l l' : List (Nat × Nat)} (h : isOrd C l) (h' : isOrd C l') : l = l' := by
  have key : ∀ (l l' : List (Nat × Nat)), l.Pairwise (fun a b => okey C a < okey C b) → l'.Pairwise (fun a b => okey C a < okey C b) → (∀ c, c ∈ l ↔ c ∈ l') → l = l' := by
    intro l
    induction l with
    | nil =>
      intro l' _ _ h
      cases l' with
      | nil => rfl
      | cons b l' => exact absurd ((h b).mpr List.mem_cons_self) (by simp)
    | cons a l ih =>
      intro l' h1 h2 h
      cases l' with
      | nil => exact absurd ((h a).mp List.mem_cons_self) (by simp)
      | cons b l' =>
        have ha := List.pairwise_cons.mp h1
        have hb := List.pairwise_cons.mp h2
        have hab : a = b := by
          rcases List.mem_cons.mp ((h a).mp List.mem_cons_self) with e | e
          · exact e
          · rcases List.mem_cons.mp ((h b).mpr List.mem_cons_self) with e2 | e2
            · exact e2.symm
            · have := ha.1 b e2; have := hb.1 a e; omega
        subst hab
        congr 1
        refine ih l' ha.2 hb.2 (fun c => ⟨fun hc => ?_, fun hc => ?_⟩)
        · rcases List.mem_cons.mp ((h c).mp (List.mem_cons_of_mem _ hc)) with e | e
          · have := ha.1 c hc; rw [e] at this; omega
          · exact e
        · rcases List.mem_cons.mp ((h c).mpr (List.mem_cons_of_mem _ hc)) with e | e
          · have := hb.1 c hc; rw [e] at this; omega
          · exact e
  exact key l l' h.1 h'.1 (fun c => (h.2 c).trans (h'.2 c).symm)
theorem isOrd.eqB {B : BT} {l : List (Nat × Nat)} (h : isOrd (ctB B) l) : ordB B = l := by
  have hx : ∃ l, isOrd (ctB B) l := ⟨l, h⟩
  unfold ordB
  rw [dif_pos hx]
  exact hx.choose_spec.uniq h
/-! sets of puppets -/
def maskN (P : Nat → Bool) : Nat → Nat
  | 0 => 0
  | n + 1 => maskN P n ||| (if P n then 2 ^ n else 0)
theorem maskN_bit (P : Nat → Bool) (i : Nat) : ∀ n, (maskN P n).testBit i = (decide (i < n) && P i) := by
  intro n
  induction n with
  | zero => simp [maskN]
  | succ n ih =>
    simp only [maskN, Nat.testBit_or, ih]
    by_cases hi : i = n
    · subst hi
      by_cases hp : P i = true
      · simp [hp]
      · simp [hp]
    · have e : (if P n = true then 2 ^ n else 0).testBit i = false := by
        split
        · rw [Nat.testBit_two_pow]
          simp; omega
        · simp
      rw [e]
      have : decide (i < n) = decide (i < n + 1) := by
        by_cases h : i < n
        · simp [h]; omega
        · simp [h]; omega
      simp [this]
theorem maskN_lt (P : Nat → Bool) : ∀ n, maskN P n < 2 ^ n := by
  intro n
  induction n with
  | zero => simp [maskN]
  | succ n ih =>
    simp only [maskN]
    refine Nat.or_lt_two_pow ?_ ?_
    · rw [Nat.pow_succ]; omega
    · split
      · rw [Nat.pow_succ]; have := Nat.two_pow_pos n; omega
      · exact Nat.two_pow_pos _
theorem maskN_congr {P Q : Nat → Bool} : ∀ n, (∀ i, i < n → P i = Q i) → maskN P n = maskN Q n := by
  intro n
  induction n with
  | zero => intro _; rfl
  | succ n ih => intro h; simp only [maskN]; rw [ih (fun i hi => h i (by omega)), h n (by omega)]
theorem maskN_zero {P : Nat → Bool} {n : Nat} : maskN P n = 0 ↔ ∀ i, i < n → P i = false := by
  constructor
  · intro h i hi
    have := maskN_bit P i n
    rw [h] at this
    simp [hi] at this
    exact this
  · intro h
    refine Nat.eq_of_testBit_eq (fun i => ?_)
    rw [maskN_bit]
    by_cases hi : i < n
    · simp [h i hi]
    · simp [hi]
theorem maskN_set {P Q : Nat → Bool} {k n : Nat} (hk : k < n) (h : ∀ i, i < n → Q i = (P i || decide (i = k))) : maskN P n ||| 2 ^ k = maskN Q n := by
  refine Nat.eq_of_testBit_eq (fun i => ?_)
  rw [Nat.testBit_or, maskN_bit, maskN_bit, Nat.testBit_two_pow]
  by_cases hi : i < n
  · rw [h i hi]
    by_cases e : i = k
    · simp [e, hk]
    · have : ¬ k = i := fun x => e x.symm
      simp [e, this]
  · have : ¬ k = i := by omega
    simp [hi, this]
noncomputable def hmB (B : BT) (q b : Nat) : Nat := maskN (held (ctB B) (castB B) q b) (tN B)
/-! clashes -/
def oneT (d e : List D4) (t : Nat) : Prop := (trL d t).isSome = true ∧ trL d t = trL e t
def clD (d e : List D4) (t : Nat) : Prop := oneT d e t ∧ (plL d t = plL e t ∨ (t + 1 < 1000 ∧ oneT d e (t + 1) ∧ plL d t = plL e (t + 1) ∧ plL e t = plL d (t + 1)))
theorem oneT_symm {d e : List D4} {t : Nat} (h : oneT d e t) : oneT e d t := ⟨h.2 ▸ h.1, h.2.symm⟩
theorem clD_symm {d e : List D4} {t : Nat} (h : clD d e t) : clD e d t := by
  refine ⟨oneT_symm h.1, ?_⟩
  rcases h.2 with h2 | ⟨h1, h2, h3, h4⟩
  · exact Or.inl h2.symm
  · exact Or.inr ⟨h1, oneT_symm h2, h4, h3⟩
theorem pick_iff {P Q : Nat → Prop} (h : ∀ i, P i ↔ Q i) (n : Nat) : pick P n = pick Q n := by
  have : P = Q := funext (fun i => propext (h i))
  rw [this]
noncomputable def fcB (B : BT) (p q : Nat) : Option Nat := pick (clD (dsB B p) (dsB B q)) 1000
theorem fcB_symm (B : BT) (p q : Nat) : fcB B p q = fcB B q p := pick_iff (fun _ => ⟨clD_symm, clD_symm⟩) 1000
def sum1 (f : Nat → Nat) : Nat → Nat
  | 0 => 0
  | n + 1 => sum1 f n + f n
theorem sum1_congr {f g : Nat → Nat} : ∀ n, (∀ i, i < n → f i = g i) → sum1 f n = sum1 g n := by
  intro n
  induction n with
  | zero => intro _; rfl
  | succ n ih => intro h; simp only [sum1]; rw [ih (fun i hi => h i (by omega)), h n (by omega)]
theorem sum1_add (f g : Nat → Nat) : ∀ n, sum1 (fun i => f i + g i) n = sum1 f n + sum1 g n := by
  intro n
  induction n with
  | zero => rfl
  | succ n ih => simp only [sum1, ih]; omega
theorem sum1_zero : ∀ n, sum1 (fun _ => 0) n = 0 := by
  intro n
  induction n with
  | zero => rfl
  | succ n ih => simp only [sum1, ih]
theorem sum1_swap (f : Nat → Nat → Nat) (m : Nat) : ∀ n, sum1 (fun i => sum1 (fun j => f i j) m) n = sum1 (fun j => sum1 (fun i => f i j) n) m := by
  intro n
  induction n with
  | zero => simp only [sum1]; exact (sum1_zero m).symm
  | succ n ih => simp only [sum1, ih]; rw [← sum1_add]
theorem sum1_le {f : Nat → Nat} {k : Nat} : ∀ n, (∀ i, i < n → f i ≤ k) → sum1 f n ≤ n * k := by
  intro n
  induction n with
  | zero => intro _; simp [sum1]
  | succ n ih => intro h; simp only [sum1]; have := ih (fun i hi => h i (by omega)); have := h n (by omega); rw [Nat.succ_mul]; omega
/-- clashing pairs -/
noncomputable def clN (B : BT) : Nat := sum1 (fun a => sum1 (fun b => if a < b ∧ fcB B a b ≠ none then 1 else 0) (tN B)) (tN B)
theorem clN_swap (B : BT) : clN B = sum1 (fun a => sum1 (fun b => if b < a ∧ fcB B a b ≠ none then 1 else 0) (tN B)) (tN B) := by
  unfold clN
  rw [sum1_swap]
  refine sum1_congr _ (fun a _ => sum1_congr _ (fun b _ => ?_))
  rw [fcB_symm]
theorem clN_le {B : BT} (h : tN B ≤ 8) : clN B ≤ 64 := by
  have h1 : clN B ≤ tN B * tN B := sum1_le _ (fun i _ => by
    have : sum1 (fun b => if i < b ∧ fcB B i b ≠ none then 1 else 0) (tN B) ≤ tN B * 1 := sum1_le _ (fun j _ => by split <;> omega)
    omega)
  have : tN B * tN B ≤ 8 * 8 := Nat.mul_le_mul h h
  omega
