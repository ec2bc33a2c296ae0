/-! ===== the casting's checks ===== -/
noncomputable def msk (B : BT) (As : AT) (q b : Nat) : Nat := maskN (held (ctB B) As q b) (tN B)
def BkP (Γ : GBase) (S : PS) (x : Nat) (A : AD) (B : BT) : Prop := al S x 5 ∧ BkL Γ S x 160 (8 * x + 3) (rmap (dP A) (tN B)) ∧ PupsI Γ S A B ∧ VB B
def PlyH (S : PS) (a : Nat) (B : BT) (As : AT) (q : Nat) : Prop := PlyA S a (tT B q) (tO B q) ∧ q < tQ B ∧ ∀ T, pP S 66 a = some T → RowH S T (msk B As q)
theorem msk_bit {B : BT} {As : AT} {q b i : Nat} (hi : i < tN B) : (msk B As q b).testBit i = held (ctB B) As q b i := by
  unfold msk
  rw [maskN_bit]
  simp [hi]
theorem msk_zero {B : BT} {As : AT} {q b : Nat} : msk B As q b = 0 ↔ ∀ i, i < tN B → held (ctB B) As q b i = false := maskN_zero
theorem msk_lt {B : BT} (h : tN B ≤ 8) (As : AT) (q b : Nat) : msk B As q b < 256 := by
  have h1 := maskN_lt (held (ctB B) As q b) (tN B)
  have h2 : 2 ^ tN B ≤ 2 ^ 8 := Nat.pow_le_pow_right (by decide) h
  unfold msk
  omega
theorem msk_fpl {B : BT} (hV : VB B) {As : AT} {q b : Nat} (hb : b < 1000) (ho : okAt (ctB B) As q b) : (msk B As q b = 0 ∧ fpl (ctB B) As q b = none) ∨ (msk B As q b ≠ 0 ∧ ∃ z, fpl (ctB B) As q b = some z ∧ z < 20) := by
  by_cases h : msk B As q b = 0
  · exact Or.inl ⟨h, lastN_none _ (msk_zero.mp h)⟩
  · refine Or.inr ⟨h, ?_⟩
    have hex : ∃ k, k < tN B ∧ held (ctB B) As q b k = true := by
      apply Classical.byContradiction
      intro hn
      refine h (msk_zero.mpr (fun i hi => ?_))
      cases e : held (ctB B) As q b i
      · rfl
      · exact absurd ⟨i, hi, e⟩ hn
    obtain ⟨k, hk, hh⟩ := hex
    obtain ⟨j, s, h1, h2, _⟩ := held_iff.mp hh
    have h2 := inS_iff.mp h2
    have hs : s ∈ stL (dsB B k) := List.mem_of_getElem? h1
    obtain ⟨z, hz⟩ := Option.isSome_iff_exists.mp ((hV.good hk).on hb hs h2.1 h2.2)
    exact ⟨z, (ho.fpl hk hh).trans hz, (hV.good hk).pl hz⟩
theorem m_placeOfHeld {Γ : GBase} (F : FB Γ) (S : PS) (x a q b : Nat) (A : AD) (B : BT) (As : AT) (hI : BkP Γ S x A B) (ha : PlyH S a B As q) (hb : b < 1000) (ho : okAt (ctB B) As q b) (hm : msk B As q b ≠ 0) : GMet Γ yX5_placeOfHeld cX5_placeOfHeld 4 ((some FieldType.int)) 3 0 0 [.ref x, .ref a, .int (nI b)] S (fun r S' => S = S' ∧ r = some (.int (zO (fpl (ctB B) As q b)))) noX := by
  obtain ⟨hx, ⟨L, hL1, -, hL3⟩, hP, hV⟩ := hI
  obtain ⟨⟨ha0, ha1, ha2, T, ha3, ha4⟩, hq, hH⟩ := ha
  have hH := hH T ha3
  have hn8 := hV.1
  refine GMet.of (loc0 := [(0, .ref x), (1, .ref a), (2, .int (nI b))]) F (by decide +kernel) rfl (Nat.le_of_ble_eq_true rfl) (fun X C R Tb nm => ?_)
  have loop : ∀ (m i : Nat), i + m = tN B → (∀ k, k < i → held (ctB B) As q b k = false) → GW Γ X S 0 0 2 [(0, .ref x), (1, .ref a), (2, .int (nI b)), (3, .int (nI i))] [] := by
    intro m
    induction m with
    | zero =>
      intro i hi hno
      exact absurd (msk_zero.mpr (fun k hk => hno k (by omega))) hm
    | succ m ih =>
      intro i hi hno
      have hin : i < tN B := by omega
      obtain ⟨LS, LT, TA, TB, p1, p2, -, -, -, -, -, p3⟩ := hP.2 i hin
      refine g_iload_n C dX5_placeOfHeld_2 rfl rfl ?_
      refine g_aload_n C dX5_placeOfHeld_3 rfl rfl ?_
      refine ge_Book_puppets C tw_1_56 (by exact hx) (by exact hL1) dX5_placeOfHeld_4 ?_
      refine g_callV C gy_Jx4a65c_size_8abf5 tw_1_89 tw_1_90 tw_1_91 (by decide) (kk := 7) rfl rfl (by exact hL3.1) (m_size F S L _ hL3) rfl rfl (Nat.le_of_ble_eq_true rfl) (by omega) (by omega) dX5_placeOfHeld_7 (fun _ _ h9 => h9.elim) ?_
      rintro _ _ ⟨rfl, rfl⟩
      rw [rmap_len]
      refine g_icmp_ge C dX5_placeOfHeld_10 (tgt := 55) (by decide) (fun c1 => ?_) (fun c1 => ?_)
      · exact absurd c1 (nI_ge hin (by omega))
      · refine g_aload_n C dX5_placeOfHeld_13 rfl rfl ?_
        refine g_aload_n C dX5_placeOfHeld_14 rfl rfl ?_
        refine ge_Book_puppets C tw_1_56 (by exact hx) (by exact hL1) dX5_placeOfHeld_15 ?_
        refine g_iload_n C dX5_placeOfHeld_18 rfl rfl ?_
        refine g_callV C gy_Jx4a65c_get_915e3 tw_1_161 tw_1_162 tw_1_163 (by decide) (kk := 7) rfl rfl (by exact hL3.1) (m_get F S L _ hL3 i (dP A i) (rmap_get hin)) rfl rfl (Nat.le_of_ble_eq_true rfl) (by omega) (by omega) dX5_placeOfHeld_19 (fun _ _ h9 => h9.elim) ?_
        rintro _ _ ⟨rfl, rfl⟩
        refine g_cast C (kk := 3) rfl p1.1 tw_1_175 dX5_placeOfHeld_22 ?_
        refine g_iload_n C dX5_placeOfHeld_25 rfl rfl ?_
        refine g_callV C gy_X2_holds tw_2_71 tw_2_72 tw_2_73 (by decide) (kk := 2) rfl rfl (by exact ha0) (m_holds F S a T (dP A i) i b (msk B As q) ha0 ha3 ha4 hH p1.1 p2.2.1 (by omega) hb) rfl rfl (Nat.le_of_ble_eq_true rfl) (by omega) (by omega) dX5_placeOfHeld_26 (fun _ _ h9 => h9.elim) ?_
        rintro _ _ ⟨rfl, rfl⟩
        rw [msk_bit hin]
        cases hh : held (ctB B) As q b i with
        | true =>
          refine g_if_eq C dX5_placeOfHeld_29 (tgt := 49) (by decide) (fun c2 => ?_) (fun c2 => ?_)
          · exact absurd c2 (by decide)
          · refine g_aload_n C dX5_placeOfHeld_32 rfl rfl ?_
            refine ge_Book_puppets C tw_1_56 (by exact hx) (by exact hL1) dX5_placeOfHeld_33 ?_
            refine g_iload_n C dX5_placeOfHeld_36 rfl rfl ?_
            refine g_callV C gy_Jx4a65c_get_915e3 tw_1_161 tw_1_162 tw_1_163 (by decide) (kk := 7) rfl rfl (by exact hL3.1) (m_get F S L _ hL3 i (dP A i) (rmap_get hin)) rfl rfl (Nat.le_of_ble_eq_true rfl) (by omega) (by omega) dX5_placeOfHeld_37 (fun _ _ h9 => h9.elim) ?_
            rintro _ _ ⟨rfl, rfl⟩
            refine g_cast C (kk := 3) rfl p1.1 tw_1_175 dX5_placeOfHeld_40 ?_
            refine ge_Puppet_placeAt C tw_2_163 (by exact p1.1) (by exact p1.2.2.2.1) dX5_placeOfHeld_43 ?_
            refine g_iload_n C dX5_placeOfHeld_46 rfl rfl ?_
            refine g_ldI C rfl p1.2.2.2.2.2.1.1 (by rw [p1.2.2.2.2.2.1.2.1]; exact hb) (by omega) (p3 b hb).1 dX5_placeOfHeld_47 ?_
            refine g_iret C R rfl (by omega) (by omega) dX5_placeOfHeld_48 ?_
            rw [ho.fpl hin hh]
            exact ⟨rfl, rfl⟩
        | false =>
          refine g_if_eq C dX5_placeOfHeld_29 (tgt := 49) (by decide) (fun c2 => ?_) (fun c2 => ?_)
          · refine g_iinc C dX5_placeOfHeld_49 rfl (by first | exact inc1 _ | exact rfl) (by decide) rfl ?_
            refine g_goto C dX5_placeOfHeld_52 (tgt := 2) (by decide) ?_
            refine g_sub [(0, _), (1, _), (2, _), (3, _)] ⟨rfl, rfl, rfl, rfl, trivial⟩ ?_
            refine ih (i + 1) (by omega) (fun k hk => ?_)
            by_cases e : k = i
            · rw [e]; exact hh
            · exact hno k (by omega)
          · exact absurd rfl c2
  refine g_iconst C dX5_placeOfHeld_0 (v := 0) (by decide) ?_
  refine g_istore_n C dX5_placeOfHeld_1 rfl (by decide) rfl ?_
  refine g_sub [(0, _), (1, _), (2, _), (3, _)] ⟨rfl, rfl, rfl, rfl, trivial⟩ ?_
  exact loop (tN B) 0 (by omega) (fun k hk => by omega)
def HoldL (C : CT) (As : AT) (q p b : Nat) : Prop := (∀ p', p' < cN C → held C As q b p' = true → cP C p' b = cP C p b) ∧ sumN (held C As q b) (cH C) (cN C) + cH C p ≤ 2 ∧ sumN (held C As q b) (cW C) (cN C) + cW C p ≤ cT C q
theorem sumN_le {P : Nat → Bool} {f : Nat → Nat} {k : Nat} : ∀ n, (∀ i, i < n → f i ≤ k) → sumN P f n ≤ n * k := by
  intro n
  induction n with
  | zero => intro _; simp [sumN]
  | succ n ih =>
    intro h
    simp only [sumN]
    have := ih (fun i hi => h i (by omega))
    have := h n (by omega)
    rw [Nat.succ_mul]
    split <;> omega
theorem m_canHold {Γ : GBase} (F : FB Γ) (S : PS) (x a q p b : Nat) (A : AD) (B : BT) (As : AT) (hI : BkP Γ S x A B) (ha : PlyH S a B As q) (hp : p < tN B) (hb : b < 1000) : GMet Γ yX5_canHold cX5_canHold 8 ((some FieldType.boolean)) 3 0 0 [.ref x, .ref a, .ref (dP A p), .int (nI b)] S (fun r S' => S = S' ∧ ∃ v, isB v (HoldL (ctB B) As q p b) ∧ r = some (.int v)) noX := by
  obtain ⟨hx, ⟨L, hL1, -, hL3⟩, hP, hV⟩ := hI
  obtain ⟨⟨ha0, ha1, ha2, T, ha3, ha4⟩, hq, hH⟩ := ha
  have hH := hH T ha3
  have hn8 := hV.1
  have hs20 := (hV.2.2.2.2.1 q hq).1
  have hw := hV.2.2.2.1
  obtain ⟨_, _, QA, _, r1, r2, -, -, -, -, -, r3⟩ := hP.2 p hp
  have hwp := hw p hp
  have bH : ∀ i, i ≤ tN B → sumN (held (ctB B) As q b) (tH B) i ≤ 16 := fun i hi => by
    have := sumN_le (P := held (ctB B) As q b) (f := tH B) (k := 2) i (fun j hj => (hw j (by omega)).2)
    omega
  have bW : ∀ i, i ≤ tN B → sumN (held (ctB B) As q b) (tW B) i ≤ 72 := fun i hi => by
    have := sumN_le (P := held (ctB B) As q b) (f := tW B) (k := 9) i (fun j hj => (hw j (by omega)).1)
    omega
  refine GMet.of (loc0 := [(0, .ref x), (1, .ref a), (2, .ref (dP A p)), (3, .int (nI b))]) F (by decide +kernel) rfl (Nat.le_of_ble_eq_true rfl) (fun X C R Tb nm => ?_)
  have loop : ∀ (m i : Nat), i + m = tN B → (∀ k, k < i → held (ctB B) As q b k = true → plL (dsB B k) b = plL (dsB B p) b) → GW Γ X S 0 0 41 [(0, .ref x), (1, .ref a), (2, .ref (dP A p)), (3, .int (nI b)), (4, .int (nI (tH B p + sumN (held (ctB B) As q b) (tH B) i))), (5, .int (nI (tW B p + sumN (held (ctB B) As q b) (tW B) i))), (6, .int (nI i))] [] := by
    intro m
    induction m with
    | zero =>
      intro i hi hal
      have e0 : i = tN B := by omega
      subst e0
      have b1 := bH (tN B) (Nat.le_refl _)
      have b2 := bW (tN B) (Nat.le_refl _)
      refine g_iload C dX5_canHold_41 rfl ?_
      refine g_aload_n C dX5_canHold_43 rfl rfl ?_
      refine ge_Book_puppets C tw_1_56 (by exact hx) (by exact hL1) dX5_canHold_44 ?_
      refine g_callV C gy_Jx4a65c_size_8abf5 tw_1_89 tw_1_90 tw_1_91 (by decide) (kk := 7) rfl rfl (by exact hL3.1) (m_size F S L _ hL3) rfl rfl (Nat.le_of_ble_eq_true rfl) (by omega) (by omega) dX5_canHold_47 (fun _ _ h9 => h9.elim) ?_
      rintro _ _ ⟨rfl, rfl⟩
      rw [rmap_len]
      refine g_icmp_ge C dX5_canHold_50 (tgt := 121) (by decide) (fun c1 => ?_) (fun c1 => ?_)
      · refine g_iload C dX5_canHold_121 rfl ?_
        refine g_iconst C dX5_canHold_123 (v := 2) (by decide) ?_
        rw [show (2 : Int32) = nI 2 from rfl]
        refine g_icmp_gt C dX5_canHold_124 (tgt := 140) (by decide) (fun c2 => ?_) (fun c2 => ?_)
        · refine g_iconst C dX5_canHold_140 (v := 0) (by decide) ?_
          refine g_iret C R rfl (by omega) (by omega) dX5_canHold_141 ?_
          refine ⟨rfl, 0, Or.inr ⟨rfl, fun h => ?_⟩, rfl⟩
          have := h.2.1
          have : sumN (held (ctB B) As q b) (tH B) (tN B) + tH B p ≤ 2 := this
          have := (nI_ltI (by omega) (by omega)).mp c2
          omega
        · have h2 : tH B p + sumN (held (ctB B) As q b) (tH B) (tN B) ≤ 2 := by
            rcases Nat.lt_or_ge 2 (tH B p + sumN (held (ctB B) As q b) (tH B) (tN B)) with w | w
            · exact absurd (nI_lt w (by omega)) c2
            · exact w
          refine g_iload C dX5_canHold_127 rfl ?_
          refine g_aload_n C dX5_canHold_129 rfl rfl ?_
          refine ge_Player_strength C tw_2_207 (by exact ha0) (by exact ha1) dX5_canHold_130 ?_
          refine g_icmp_gt C dX5_canHold_133 (tgt := 140) (by decide) (fun c3 => ?_) (fun c3 => ?_)
          · refine g_iconst C dX5_canHold_140 (v := 0) (by decide) ?_
            refine g_iret C R rfl (by omega) (by omega) dX5_canHold_141 ?_
            refine ⟨rfl, 0, Or.inr ⟨rfl, fun h => ?_⟩, rfl⟩
            have : sumN (held (ctB B) As q b) (tW B) (tN B) + tW B p ≤ tT B q := h.2.2
            have := (nI_ltI (by omega) (by omega)).mp c3
            omega
          · refine g_iconst C dX5_canHold_136 (v := 1) (by decide) ?_
            refine g_goto C dX5_canHold_137 (tgt := 141) (by decide) ?_
            refine g_iret C R rfl (by omega) (by omega) dX5_canHold_141 ?_
            refine ⟨rfl, 1, Or.inl ⟨rfl, fun p' hp' hh => hal p' hp' hh, ?_, ?_⟩, rfl⟩
            · show sumN (held (ctB B) As q b) (tH B) (tN B) + tH B p ≤ 2
              omega
            · show sumN (held (ctB B) As q b) (tW B) (tN B) + tW B p ≤ tT B q
              rcases Nat.lt_or_ge (tT B q) (tW B p + sumN (held (ctB B) As q b) (tW B) (tN B)) with w | w
              · exact absurd (nI_lt w (by omega)) c3
              · omega
      · exact absurd (nI_le (Nat.le_refl _) (by omega)) c1
    | succ m ih =>
      intro i hi hal
      have hin : i < tN B := by omega
      obtain ⟨LS, LT, TA, TB, p1, p2, -, -, -, -, -, p3⟩ := hP.2 i hin
      have nx := ih (i + 1) (by omega)
      simp only [sumN] at nx
      refine g_iload C dX5_canHold_41 rfl ?_
      refine g_aload_n C dX5_canHold_43 rfl rfl ?_
      refine ge_Book_puppets C tw_1_56 (by exact hx) (by exact hL1) dX5_canHold_44 ?_
      refine g_callV C gy_Jx4a65c_size_8abf5 tw_1_89 tw_1_90 tw_1_91 (by decide) (kk := 7) rfl rfl (by exact hL3.1) (m_size F S L _ hL3) rfl rfl (Nat.le_of_ble_eq_true rfl) (by omega) (by omega) dX5_canHold_47 (fun _ _ h9 => h9.elim) ?_
      rintro _ _ ⟨rfl, rfl⟩
      rw [rmap_len]
      refine g_icmp_ge C dX5_canHold_50 (tgt := 121) (by decide) (fun c1 => ?_) (fun c1 => ?_)
      · exact absurd c1 (nI_ge hin (by omega))
      · refine g_aload_n C dX5_canHold_53 rfl rfl ?_
        refine ge_Book_puppets C tw_1_56 (by exact hx) (by exact hL1) dX5_canHold_54 ?_
        refine g_iload C dX5_canHold_57 rfl ?_
        refine g_callV C gy_Jx4a65c_get_915e3 tw_1_161 tw_1_162 tw_1_163 (by decide) (kk := 7) rfl rfl (by exact hL3.1) (m_get F S L _ hL3 i (dP A i) (rmap_get hin)) rfl rfl (Nat.le_of_ble_eq_true rfl) (by omega) (by omega) dX5_canHold_59 (fun _ _ h9 => h9.elim) ?_
        rintro _ _ ⟨rfl, rfl⟩
        refine g_cast C (kk := 3) rfl p1.1 tw_1_175 dX5_canHold_62 ?_
        refine g_astore C dX5_canHold_65 (by decide) rfl ?_
        refine g_aload_n C dX5_canHold_67 rfl rfl ?_
        refine g_aload C dX5_canHold_68 rfl ?_
        refine g_iload_n C dX5_canHold_70 rfl rfl ?_
        refine g_callV C gy_X2_holds tw_2_71 tw_2_72 tw_2_73 (by decide) (kk := 2) rfl rfl (by exact ha0) (m_holds F S a T (dP A i) i b (msk B As q) ha0 ha3 ha4 hH p1.1 p2.2.1 (by omega) hb) rfl rfl (Nat.le_of_ble_eq_true rfl) (by omega) (by omega) dX5_canHold_71 (fun _ _ h9 => h9.elim) ?_
        rintro _ _ ⟨rfl, rfl⟩
        rw [msk_bit hin]
        cases hh : held (ctB B) As q b i with
        | true =>
          rw [hh, if_pos rfl, if_pos rfl, ← Nat.add_assoc, ← Nat.add_assoc] at nx
          refine g_if_eq C dX5_canHold_74 (tgt := 115) (by decide) (fun c2 => ?_) (fun c2 => ?_)
          · exact absurd c2 (by decide)
          · refine g_iload C dX5_canHold_77 rfl ?_
            refine g_aload C dX5_canHold_79 rfl ?_
            refine ge_Puppet_handsNeeded C tw_2_158 (by exact p1.1) (by exact p2.2.2.2) dX5_canHold_81 ?_
            refine g_iadd C dX5_canHold_84 ?_
            rw [nI_add]
            refine g_istore C dX5_canHold_85 (by decide) rfl ?_
            refine g_iload C dX5_canHold_87 rfl ?_
            refine g_aload C dX5_canHold_89 rfl ?_
            refine ge_Puppet_weight C tw_2_156 (by exact p1.1) (by exact p2.2.2.1) dX5_canHold_91 ?_
            refine g_iadd C dX5_canHold_94 ?_
            rw [nI_add]
            refine g_istore C dX5_canHold_95 (by decide) rfl ?_
            refine g_aload C dX5_canHold_97 rfl ?_
            refine ge_Puppet_placeAt C tw_2_163 (by exact p1.1) (by exact p1.2.2.2.1) dX5_canHold_99 ?_
            refine g_iload_n C dX5_canHold_102 rfl rfl ?_
            refine g_ldI C rfl p1.2.2.2.2.2.1.1 (by rw [p1.2.2.2.2.2.1.2.1]; exact hb) (by omega) (p3 b hb).1 dX5_canHold_103 ?_
            refine g_aload_n C dX5_canHold_104 rfl rfl ?_
            refine ge_Puppet_placeAt C tw_2_163 (by exact r1.1) (by exact r1.2.2.2.1) dX5_canHold_105 ?_
            refine g_iload_n C dX5_canHold_108 rfl rfl ?_
            refine g_ldI C rfl r1.2.2.2.2.2.1.1 (by rw [r1.2.2.2.2.2.1.2.1]; exact hb) (by omega) (r3 b hb).1 dX5_canHold_109 ?_
            refine g_icmp_eq C dX5_canHold_110 (tgt := 115) (by decide) (fun c3 => ?_) (fun c3 => ?_)
            · refine g_iinc C dX5_canHold_115 rfl (by first | exact inc1 _ | exact rfl) (by decide) rfl ?_
              refine g_goto C dX5_canHold_118 (tgt := 41) (by decide) ?_
              refine g_sub [(0, _), (1, _), (2, _), (3, _), (4, _), (5, _), (6, _)] ⟨rfl, rfl, rfl, rfl, rfl, rfl, rfl, trivial⟩ ?_
              refine nx (fun k hk hhk => ?_)
              by_cases e : k = i
              · rw [e]; exact ((hV.good hin).pli (hV.good hp) b b).mp c3
              · exact hal k (by omega) hhk
            · refine g_iconst C dX5_canHold_113 (v := 0) (by decide) ?_
              refine g_iret C R rfl (by omega) (by omega) dX5_canHold_114 ?_
              exact ⟨rfl, 0, Or.inr ⟨rfl, fun h => c3 (((hV.good hin).pli (hV.good hp) b b).mpr (h.1 i hin hh))⟩, rfl⟩
        | false =>
          rw [hh] at nx
          simp only [Bool.false_eq_true, if_false, Nat.add_zero] at nx
          refine g_if_eq C dX5_canHold_74 (tgt := 115) (by decide) (fun c2 => ?_) (fun c2 => ?_)
          · refine g_iinc C dX5_canHold_115 rfl (by first | exact inc1 _ | exact rfl) (by decide) rfl ?_
            refine g_goto C dX5_canHold_118 (tgt := 41) (by decide) ?_
            refine g_sub [(0, _), (1, _), (2, _), (3, _), (4, _), (5, _), (6, _)] ⟨rfl, rfl, rfl, rfl, rfl, rfl, rfl, trivial⟩ ?_
            refine nx (fun k hk hhk => ?_)
            by_cases e : k = i
            · rw [e, hh] at hhk; cases hhk
            · exact hal k (by omega) hhk
          · exact absurd rfl c2
  refine g_aload_n C dX5_canHold_0 rfl rfl ?_
  refine ge_Player_heldAt C tw_2_211 (by exact ha0) (by exact ha3) dX5_canHold_1 ?_
  refine g_iload_n C dX5_canHold_4 rfl rfl ?_
  refine g_ldI C rfl ha4.1 (by rw [ha4.2.1]; exact hb) (by omega) (hH b hb).1 dX5_canHold_5 ?_
  refine g_if_ne C dX5_canHold_6 (tgt := 26) (by decide) (fun c1 => ?_) (fun c1 => ?_)
  · refine g_aload_n C dX5_canHold_26 rfl rfl ?_
    refine ge_Puppet_handsNeeded C tw_2_158 (by exact r1.1) (by exact r2.2.2.2) dX5_canHold_27 ?_
    refine g_istore C dX5_canHold_30 (by decide) rfl ?_
    refine g_aload_n C dX5_canHold_32 rfl rfl ?_
    refine ge_Puppet_weight C tw_2_156 (by exact r1.1) (by exact r2.2.2.1) dX5_canHold_33 ?_
    refine g_istore C dX5_canHold_36 (by decide) rfl ?_
    refine g_iconst C dX5_canHold_38 (v := 0) (by decide) ?_
    refine g_istore C dX5_canHold_39 (by decide) rfl ?_
    refine g_sub [(0, _), (1, _), (2, _), (3, _), (4, _), (5, _), (6, _)] ⟨rfl, rfl, rfl, rfl, rfl, rfl, rfl, trivial⟩ ?_
    exact loop (tN B) 0 (by omega) (fun k hk => by omega)
  · have hz : ∀ i, i < tN B → held (ctB B) As q b i = false := msk_zero.mp (nI_inj (b := 0) (by have := msk_lt hn8 As q b; omega) (by omega) c1)
    have e1 : sumN (held (ctB B) As q b) (tH B) (tN B) = 0 := sumN_zero _ hz
    have e2 : sumN (held (ctB B) As q b) (tW B) (tN B) = 0 := sumN_zero _ hz
    refine g_aload_n C dX5_canHold_9 rfl rfl ?_
    refine ge_Puppet_weight C tw_2_156 (by exact r1.1) (by exact r2.2.2.1) dX5_canHold_10 ?_
    refine g_aload_n C dX5_canHold_13 rfl rfl ?_
    refine ge_Player_strength C tw_2_207 (by exact ha0) (by exact ha1) dX5_canHold_14 ?_
    refine g_icmp_gt C dX5_canHold_17 (tgt := 24) (by decide) (fun c2 => ?_) (fun c2 => ?_)
    · refine g_iconst C dX5_canHold_24 (v := 0) (by decide) ?_
      refine g_iret C R rfl (by omega) (by omega) dX5_canHold_25 ?_
      refine ⟨rfl, 0, Or.inr ⟨rfl, fun h => ?_⟩, rfl⟩
      have : sumN (held (ctB B) As q b) (tW B) (tN B) + tW B p ≤ tT B q := h.2.2
      have := (nI_ltI (by omega) (by omega)).mp c2
      omega
    · refine g_iconst C dX5_canHold_20 (v := 1) (by decide) ?_
      refine g_goto C dX5_canHold_21 (tgt := 25) (by decide) ?_
      refine g_iret C R rfl (by omega) (by omega) dX5_canHold_25 ?_
      refine ⟨rfl, 1, Or.inl ⟨rfl, fun p' hp' hh => ?_, ?_, ?_⟩, rfl⟩
      · rw [hz p' hp'] at hh; cases hh
      · show sumN (held (ctB B) As q b) (tH B) (tN B) + tH B p ≤ 2
        omega
      · show sumN (held (ctB B) As q b) (tW B) (tN B) + tW B p ≤ tT B q
        rcases Nat.lt_or_ge (tT B q) (tW B p) with w | w
        · exact absurd (nI_lt w (by omega)) c2
        · omega
