/-! ===== what the property asks, of the casting as the document says it ===== -/
theorem cast_off {C : CT} : ∀ (l : List (Nat × Nat)) (A : AT) (p j : Nat), (p, j) ∉ l → castL C l A p j = A p j := by
  intro l
  induction l with
  | nil => intro A p j _; rfl
  | cons a l ih =>
    intro A p j h
    have e : castL C (a :: l) A = castL C l (castAt C A a.1 a.2) := rfl
    rw [e, ih _ p j (fun q => h (List.mem_cons_of_mem _ q))]
    unfold castAt upA
    rw [if_neg]
    rintro ⟨e1, e2⟩
    exact h (by rw [show a = (p, j) from Prod.ext e1.symm e2.symm]; exact List.mem_cons_self)
theorem castL_app (C : CT) (l1 l2 : List (Nat × Nat)) (A : AT) : castL C (l1 ++ l2) A = castL C l2 (castL C l1 A) := by
  simp [castL, List.foldl_append]
theorem castB_I {B : BT} (hO : isOrd (ctB B) (ordB B)) : castI (ctB B) (ordB B) (castB B) := by
  have := castI_take (C := ctB B) hO.nodup (ordB B).length (Nat.le_refl _)
  rw [List.take_of_length_le (Nat.le_refl _)] at this
  exact this
theorem cntN_zero {P : Nat → Bool} : ∀ n, cntN P n = 0 → ∀ i, i < n → P i = false := by
  intro n
  induction n with
  | zero => intro _ i hi; omega
  | succ n ih =>
    intro h i hi
    simp only [cntN] at h
    by_cases e : P n = true
    · rw [if_pos e] at h; omega
    · by_cases hin : i = n
      · subst hin; simpa using e
      · exact ih (by omega) i (by omega)
/-- in its stay the puppet is in the hands that the casting names, and in no others -/
theorem hm_bit {B : BT} (hV : VB B) {p j q b : Nat} {s : Nat × Nat} (hp : p < tN B) (hs : (stL (dsB B p))[j]? = some s) (h1 : s.1 ≤ b) (h2 : b < s.2) : (hmB B q b).testBit p = decide (castB B p j = some q) := by
  unfold hmB
  rw [maskN_bit]
  have hd : decide (p < tN B) = true := by simpa using hp
  rw [hd, Bool.true_and]
  refine bool_eq ?_
  rw [held_iff, decide_eq_true_iff]
  constructor
  · rintro ⟨j', s', g1, g2, g3⟩
    have g2 := inS_iff.mp g2
    have e := (hV.good hp).chain.one hs g1 h1 h2 g2.1 g2.2
    rw [e]; exact g3
  · intro h
    exact ⟨j, s, hs, inS_iff.mpr ⟨h1, h2⟩, h⟩
theorem hm_lt (B : BT) (h4 : tN B ≤ 4) (q b : Nat) : hmB B q b < 16 := Nat.lt_of_lt_of_le (maskN_lt _ _) (Nat.pow_le_pow_right (by decide) h4)
theorem hm_zero {B : BT} {q b : Nat} : hmB B q b = 0 ↔ ∀ p, p < tN B → held (ctB B) (castB B) q b p = false := maskN_zero
theorem hm_held {B : BT} {q b p : Nat} (hp : p < tN B) : (hmB B q b).testBit p = held (ctB B) (castB B) q b p := by
  unfold hmB
  rw [maskN_bit]
  have hd : decide (p < tN B) = true := by simpa using hp
  rw [hd, Bool.true_and]
/-- what is held is on stage -/
theorem held_on {B : BT} (hV : VB B) {q b p : Nat} (hp : p < tN B) (h : held (ctB B) (castB B) q b p = true) : ∃ v, plL (dsB B p) b = some v ∧ v < 20 := by
  obtain ⟨j, s, g1, g2, _⟩ := held_iff.mp h
  have g2 := inS_iff.mp g2
  have hg := hV.good hp
  have hm := List.mem_of_getElem? g1
  have hb := (hg.chain.1 s hm).2.2
  obtain ⟨v, hv⟩ := Option.isSome_iff_exists.mp (hg.on (b := b) (by omega) hm g2.1 g2.2)
  exact ⟨v, hv, hg.pl hv⟩
theorem lastH_le {B : BT} (hV : VB B) {q : Nat} (hq : q < tQ B) : ∀ n, (lastH (ctB B) (castB B) q n).1 < 20 ∧ (lastH (ctB B) (castB B) q n).2 ≤ n := by
  intro n
  induction n with
  | zero => exact ⟨(hV.2.2.2.2.1 q hq).2, Nat.le_refl _⟩
  | succ n ih =>
    simp only [lastH]
    cases h : fpl (ctB B) (castB B) q n with
    | none => exact ⟨ih.1, by have := ih.2; simp only; omega⟩
    | some x =>
      obtain ⟨k, k1, k2, k3⟩ := lastN_ex _ h
      obtain ⟨v, v1, v2⟩ := held_on hV k1 k2
      have e : plL (dsB B k) n = some x := k3
      rw [v1] at e
      cases e
      exact ⟨v2, Nat.le_succ _⟩
theorem fpl_none {B : BT} (hV : VB B) {q b : Nat} : fpl (ctB B) (castB B) q b = none ↔ hmB B q b = 0 := by
  rw [hm_zero]
  constructor
  · intro h p hp
    cases hh : held (ctB B) (castB B) q b p
    · rfl
    · exfalso
      have key : ∀ n, p < n → n ≤ tN B → (lastN (held (ctB B) (castB B) q b) (fun p => cP (ctB B) p b) n).isSome = true := by
        intro n
        induction n with
        | zero => intro h; omega
        | succ n ih =>
          intro hpn hn
          simp only [lastN]
          by_cases e : held (ctB B) (castB B) q b n = true
          · rw [if_pos e]
            obtain ⟨v, v1, _⟩ := held_on hV (by omega) e
            show (plL (dsB B n) b).isSome = true
            rw [v1]; rfl
          · rw [if_neg e]
            have : p ≠ n := fun x => e (x ▸ hh)
            exact ih (by omega) (by omega)
      have := key (tN B) hp (Nat.le_refl _)
      unfold fpl at h
      rw [show cN (ctB B) = tN B from rfl] at h
      rw [h] at this
      cases this
  · intro h
    exact lastN_none _ h
/-- uncast: whoever holds nothing is too weak, or could not be there in time -/
theorem uncast_no {B : BT} (hV : VB B) (hO : isOrd (ctB B) (ordB B)) {p j q g : Nat} {s : Nat × Nat} (hp : p < tN B) (hs : (stL (dsB B p))[j]? = some s) (hn : castB B p j = none) (hq : q < tQ B) (hw : tW B p ≤ tT B q) (hg : plL (dsB B p) s.1 = some g) (hd : ndist g (tO B q) ≤ s.1) : cntN (fun b => hmB B q b != 0) 1000 ≠ 0 := by
  intro h0
  have hz := cntN_zero 1000 h0
  have hfree : ∀ b p', b < 1000 → p' < tN B → held (ctB B) (castB B) q b p' = false := by
    intro b p' hb hp'
    have := hz b hb
    simp only [bne_eq_false_iff_eq] at this
    exact hm_zero.mp this p' hp'
  have hmem : (p, j) ∈ ordB B := (hO.2 (p, j)).mpr ⟨hp, (List.getElem?_eq_some_iff.mp hs).1⟩
  obtain ⟨l1, l2, hl⟩ := List.append_of_mem hmem
  have hnd := hO.nodup
  rw [hl] at hnd
  have hnd2 := List.nodup_append.mp hnd
  have hn2 : (p, j) ∉ l2 := (List.nodup_cons.mp hnd2.2.1).1
  have hn1 : (p, j) ∉ l1 := fun h => hnd2.2.2 _ h _ List.mem_cons_self rfl
  obtain ⟨A1, hA1⟩ : ∃ A1, A1 = castL (ctB B) l1 noA := ⟨_, rfl⟩
  have eB : castB B = castL (ctB B) ((p, j) :: l2) A1 := by
    unfold castB
    rw [hl, castL_app, hA1]
  have hI1 : castI (ctB B) l1 A1 := by
    have := castI_take (C := ctB B) hO.nodup l1.length (by rw [hl]; simp)
    rw [hl, List.take_left] at this
    rw [hA1]; exact this
  -- at its turn nobody could
  have hcan : ∀ q, q < tQ B → ¬ CanF (ctB B) (upA A1 p j (some q)) q := by
    have e : castB B p j = pick (fun q => CanF (ctB B) (upA A1 p j (some q)) q) (cQ (ctB B)) := by
      rw [eB]
      have e2 : castL (ctB B) ((p, j) :: l2) A1 = castL (ctB B) l2 (castAt (ctB B) A1 p j) := rfl
      rw [e2, cast_off l2 _ p j hn2]
      unfold castAt upA
      rw [if_pos ⟨rfl, rfl⟩]
    rw [hn] at e
    rcases pick_cases (fun q => CanF (ctB B) (upA A1 p j (some q)) q) (cQ (ctB B)) with ⟨_, h⟩ | ⟨q', h, _⟩
    · exact h
    · rw [h] at e; cases e
  -- it held nothing then
  have hno : ∀ p' j', A1 p' j' ≠ some q := by
    intro p' j' h
    have hm1 := (hI1.2 p' j' q h).1
    have hm : (p', j') ∈ ordB B := by rw [hl]; exact List.mem_append_left _ hm1
    have hb := (hO.2 (p', j')).mp hm
    have hnot : (p', j') ∉ (p, j) :: l2 := fun h9 => hnd2.2.2 _ hm1 _ h9 rfl
    have e : castB B p' j' = some q := by rw [eB, cast_off _ _ _ _ hnot]; exact h
    obtain ⟨s', hs'⟩ : ∃ s', (stL (dsB B p'))[j']? = some s' := ⟨_, List.getElem?_eq_getElem hb.2⟩
    have hc := (hV.good hb.1).chain.1 s' (List.mem_of_getElem? hs')
    have h1 := hfree s'.1 p' (by omega) hb.1
    have h2 : held (ctB B) (castB B) q s'.1 p' = true := held_iff.mpr ⟨j', s', hs', inS_iff.mpr ⟨Nat.le_refl _, hc.2.1⟩, e⟩
    rw [h1] at h2; cases h2
  have hh1 : ∀ b p', held (ctB B) A1 q b p' = false := by
    intro b p'
    cases h : held (ctB B) A1 q b p'
    · rfl
    · obtain ⟨j', _, _, _, h3⟩ := held_iff.mp h
      exact absurd h3 (hno p' j')
  have hl0 : ∀ n, lastH (ctB B) A1 q n = (tO B q, 0) := by
    intro n
    induction n with
    | zero => rfl
    | succ n ih =>
      simp only [lastH]
      have : fpl (ctB B) A1 q n = none := lastN_none _ (fun i _ => hh1 n i)
      rw [this]
      exact ih
  refine hcan q hq ((canStep hV.wc hp (hI1.un hn1) (x := s.1) (y := s.2) hs (fun p' j' s' _ _ h => absurd h (hno p' j')) (hI1.1 q hq)).mpr ⟨fun g' hg' => ?_, fun b _ _ => ⟨fun p' _ h => ?_, ?_, ?_⟩⟩)
  · have e : plL (dsB B p) s.1 = some g' := hg'
    rw [hg] at e
    cases e
    rw [hl0]
    exact hd
  · rw [hh1] at h; cases h
  · rw [sumN_zero _ (fun i _ => hh1 b i), Nat.zero_add]
    exact (hV.2.2.2.1 p hp).2
  · rw [sumN_zero _ (fun i _ => hh1 b i), Nat.zero_add]
    exact hw
