/-- a cue was written, was not -/
def DidW (Γ : GBase) (S S' : PS) (x : Nat) (A : AD) (B : BT) (p : Nat) (d : D4) (r : Option Value) : Prop := tC B < 40 ∧ okL none (dsB (addB B p d) p) = true ∧ r = some (.int (nI (tC B))) ∧ (∃ A', BkI Γ S' x A' (addB B p d)) ∧ FrB S S'
def NotW (Γ : GBase) (S S' : PS) (x : Nat) (A : AD) (B : BT) (p : Nat) (d : D4) : Prop := (40 ≤ tC B ∨ okL none (dsB (addB B p d) p) = false) ∧ BkI Γ S' x A B ∧ FrB S S'
theorem m_write {Γ : GBase} (F : FB Γ) (S : PS) (x c p : Nat) (A : AD) (B : BT) (d : D4) (hI : BkI Γ S x A B) (hp : p < tN B) (hc : CueA S c (dP A p) d false 0 0 0) (hnew : ∀ i, i < tC B → dC A i ≠ c) : GMet Γ yX5_write cX5_write 3 ((some FieldType.int)) 9 85 4390 [.ref x, .ref c] S (fun r S' => DidW Γ S S' x A B p d r) (fun E S' => E = xISE ∧ NotW Γ S S' x A B p d) := by
  have hI0 := hI
  obtain ⟨a1, a2, a3, ⟨LC, c1, c2, c3⟩, ⟨os, a5, a6, a7, a8⟩, a9, a10, a11, a12, a13, a14⟩ := hI
  have a4 : BkL Γ S x 162 (8 * x + 5) (rmap (dC A) (tC B)) := ⟨LC, c1, c2, c3⟩
  have hx := a1
  have hc40 := a14.2.2.1
  have hok := hc.1.2.2.2.2.2
  refine GMet.of (loc0 := [(0, .ref x), (1, .ref c)]) F (by decide +kernel) rfl (Nat.le_of_ble_eq_true rfl) (fun X C R Tb nm => ?_)
  refine g_aload_n C dX5_write_0 rfl rfl ?_
  refine ge_Book_cues C tw_1_58 (by exact hx) (by exact c1) dX5_write_1 ?_
  refine g_callV C gy_Jx4a65c_size_8abf5 tw_1_89 tw_1_90 tw_1_91 (by decide) (kk := 7) rfl rfl (by exact c3.1) (m_size F S LC _ c3) rfl rfl (Nat.le_of_ble_eq_true rfl) (by omega) (by omega) dX5_write_4 (fun _ _ h9 => h9.elim) ?_
  rintro _ _ ⟨rfl, rfl⟩
  refine g_bipush C dX5_write_7 (v := 40) (by decide) ?_
  rw [rmap_len, show (40 : Int32) = nI 40 from rfl]
  refine g_icmp_lt C dX5_write_9 (tgt := 22) (by decide) (fun b1 => ?_) (fun b1 => ?_)
  · obtain ⟨LS, LT, TA, TB, p1, p2, p3, p4, p5, p6, p7, p8⟩ := a11.2 p hp
    have hlt : tC B < 40 := (nI_ltI (by omega) (by omega)).mp b1
    have hq := addB_sc (d := d) a14 hp
    have hscl : (scB B p).length ≤ 39 := by
      have := (a14.2.2.2.2.2.2.1 p hp).1.len
      omega
    refine g_aload_n C dX5_write_22 rfl rfl ?_
    refine ge_Cue_puppet C tw_3_2 (by exact hc.1.1) (by exact hc.2.1) dX5_write_23 ?_
    refine g_aload_n C dX5_write_26 rfl rfl ?_
    refine g_callV C gy_X3_takesIn tw_3_38 tw_3_39 tw_3_40 (by decide) (kk := 3) rfl rfl (by exact p1.1) (m_takesIn F S (dP A p) LS LT TA TB c ((scB B p).map (dC A)) (dT A p) (dsB B p) d p1 p5 p6 (a13.cues a14 hp) (a14.good hp).2.2 hc.1 (by rw [List.length_map]; exact hscl)) rfl rfl (Nat.le_of_ble_eq_true rfl) (by omega) (by omega) dX5_write_27 (fun _ _ h9 => h9.elim) ?_
    rintro _ _ hTk
    rename_i v S1
    rcases hTk with ⟨t1, rfl, t3, t4, t5⟩ | ⟨t1, rfl, t3, t4⟩
    · refine g_if_ne C dX5_write_30 (tgt := 43) (by decide) (fun b2 => ?_) (fun b2 => ?_)
      · rw [← hq.2] at t1 t4
        have hLC : LC ≠ LS ∧ LC ≠ LT := ⟨fun e => by rw [e, p3] at c2; omega, fun e => by rw [e, p4] at c2; omega⟩
        have hlt' : ∀ i, i < tN B → ∀ c', c' ∈ scB B i → c' < tC B := fun i hi c' hc' => (((a14.2.2.2.2.2.2.1 i hi).1.2 c').mp hc').1
        have hmap : insL ((scB B p).map (dC A)) (ipos (dsB B p) d.2.1) c = (scB (addB B p d) p).map (va_up (dC A) (tC B) c) := by
          rw [hq.1, map_insA (hlt' p hp)]
        rw [hmap] at t3
        obtain ⟨ts', hPp⟩ := (a11.2 p hp).took p1 t5 t3 t4
        obtain ⟨A', hA'⟩ : ∃ A' : AD, A' = (dP A, dY A, va_up (dC A) (tC B) c, va_up (dT A) p ts') := ⟨_, rfl⟩
        obtain ⟨B', hB'⟩ : ∃ B', B' = addB B p d := ⟨_, rfl⟩
        have hV' : VB B' := by rw [hB']; exact addB_V a14 hp hok hlt t1
        have q1 : al S1 x 5 := hx.fr t5
        have q2 : BkL Γ S1 x 160 (8 * x + 3) (rmap (dP A') (tN B')) := by rw [hA', hB']; exact a2.frT hx p1 t5 (by rw [p3]; omega) (by rw [p4]; omega)
        have q3 : BkL Γ S1 x 161 (8 * x + 4) (rmap (dY A') (tQ B')) := by rw [hA', hB']; exact a3.frT hx p1 t5 (by rw [p3]; omega) (by rw [p4]; omega)
        have q4 : BkL Γ S1 x 163 (8 * x + 6) os := a5.frT hx p1 t5 (by rw [p3]; omega) (by rw [p4]; omega)
        obtain ⟨LC', c1', c2', c3'⟩ := a4.frT hx p1 t5 (by rw [p3]; omega) (by rw [p4]; omega)
        have q5 : PupsI Γ S1 A' B' := by
          rw [hA', hB']
          refine ⟨a11.1, fun i hi => ?_⟩
          have hi : i < tN B := hi
          show PupA Γ S1 (dP A i) i (tW B i) (tH B i) ((scB (addB B p d) i).map (va_up (dC A) (tC B) c)) (va_up (dT A) p ts' i) (dsB (addB B p d) i)
          by_cases e : i = p
          · subst e
            rw [va_up_self]
            exact hPp
          · have e2 := addB_scO (d := d) a14 hi e
            have hne : dP A i ≠ dP A p := fun q => e (a11.1 i p hi hp q)
            rw [e2.1, e2.2, va_up_ne _ _ e, List.map_congr_left (g := dC A) (fun c' hc' => va_up_ne _ _ (by have := hlt' i hi c' hc'; omega))]
            exact (a11.2 i hi).fr t5 (OffP.took p1 p3 p4 (a11.al i hi) hne)
        have q6 : PlysI S1 A' B' := by rw [hA', hB']; exact a12.fr t5 (fun a f ha h => h.elim (ha.kne p5.1 (by decide)) (ha.kne p6.1 (by decide)))
        have q7 : CuesI S1 A' B' := by
          have nk : ∀ a f, al S a 0 → ¬ moT LS LT f a := fun a f ha h => h.elim (ha.kne p5.1 (by decide)) (ha.kne p6.1 (by decide))
          rw [hA', hB']
          refine ⟨fun i j hi hj e => ?_, fun c' hc' => ?_⟩
          · have hi : i < tC B + 1 := hi
            have hj : j < tC B + 1 := hj
            have e : va_up (dC A) (tC B) c i = va_up (dC A) (tC B) c j := e
            by_cases ei : i = tC B
            · by_cases ej : j = tC B
              · omega
              · rw [ei, va_up_self, va_up_ne _ _ ej] at e
                exact absurd e.symm (hnew j (by omega))
            · by_cases ej : j = tC B
              · rw [ej, va_up_self, va_up_ne _ _ ei] at e
                exact absurd e (hnew i (by omega))
              · rw [va_up_ne _ _ ei, va_up_ne _ _ ej] at e
                exact a13.1 i j (by omega) (by omega) e
          · have hc' : c' < tC B + 1 := hc'
            show CueA S1 (va_up (dC A) (tC B) c c') (dP A (va_up (tU B) (tC B) (p, d) c').1) (va_up (tU B) (tC B) (p, d) c').2 (tK B c') (tE B c') (tL B c') (tF B c')
            by_cases e : c' = tC B
            · have hz := a14.2.2.2.2.2.2.2.2 (tC B) (Nat.le_refl _)
              rw [e, va_up_self, va_up_self, hz.1, hz.2.1, hz.2.2.1, hz.2.2.2]
              exact hc.fr t5 (fun f => nk c f hc.1.1)
            · rw [va_up_ne _ _ e, va_up_ne _ _ e]
              exact (a13.2 c' (by omega)).fr t5 (fun f => nk _ f (a13.2 c' (by omega)).1.1)
        have q8 : pI S1 164 x = nI (cntN (tK B') (tC B')) := by
          rw [((hx.fr t5 : al S1 x 5) |> fun _ => (t5 x hx.1).2.2.2.2.1 164 (fun h => h.elim (hx.kne p5.1 (by decide)) (hx.kne p6.1 (by decide)))).1, a9, hB']
          show nI (cntN (tK B) (tC B)) = nI (cntN (tK B) (tC B + 1))
          have hz := a14.2.2.2.2.2.2.2.2 (tC B) (Nat.le_refl _)
          simp [cntN, hz.1]
        have hc1 : al S1 c 0 := hc.1.1.fr t5
        have hall : ∀ z, z ∈ rmap (dC A) (tC B) → al S1 z 0 := fun z hz => by
          obtain ⟨i, hi, rfl⟩ := rmap_mem.mp hz
          exact (a13.2 i hi).1.1.fr t5
        refine g_aload_n C dX5_write_43 rfl rfl ?_
        refine ge_Book_cues C tw_1_58 (by exact q1) (by exact c1') dX5_write_44 ?_
        refine g_callV C gy_Jx4a65c_size_8abf5 tw_1_89 tw_1_90 tw_1_91 (by decide) (kk := 7) rfl rfl (by exact c3'.1) (m_size F S1 LC' _ c3') rfl rfl (Nat.le_of_ble_eq_true rfl) (by omega) (by omega) dX5_write_47 (fun _ _ h9 => h9.elim) ?_
        rintro _ _ ⟨rfl, rfl⟩
        refine g_istore_n C dX5_write_50 rfl (by decide) rfl ?_
        refine g_aload_n C dX5_write_51 rfl rfl ?_
        rw [rmap_len]
        refine ge_Book_cues C tw_1_58 (by exact q1) (by exact c1') dX5_write_52 ?_
        refine g_aload_n C dX5_write_55 rfl rfl ?_
        refine g_callV C gy_Jx4a65c_add_9ea2d tw_2_183 tw_2_184 tw_2_185 (by decide) (kk := 7) rfl rfl (by exact c3'.1) (m_add F S1 LC' c 0 _ c3' hc1 (by rw [rmap_len]; omega) (by decide) hall) rfl rfl (Nat.le_of_ble_eq_true rfl) (by omega) (by omega) dX5_write_56 (fun _ _ h9 => h9.elim) ?_
        rintro _ _ ⟨rfl, c4, f2⟩
        refine g_pop C dX5_write_59 rfl ?_
        rename_i S2
        rw [rmap_snoc] at c4
        have hLC' := c3'.1
        have w : BkW Γ S2 x A' B' := by
          refine ⟨q1.fr f2, q2.frL q1 f2 hLC' (by rw [c2']; omega), q3.frL q1 f2 hLC' (by rw [c2']; omega), ⟨LC', ((f2 x q1.1).2.2.2.2.1 162 (fun e => (q1.kne hLC' (by decide)) e)).2.trans c1', (f2 LC' hLC'.1).2.2.2.1.trans c2', by rw [hA', hB']; exact c4⟩, ⟨os, q4.frL q1 f2 hLC' (by rw [c2']; omega), fun t ht => ((a6 t ht).fr t5).fr f2, a7⟩, ((f2 x q1.1).2.2.2.2.1 164 (fun e => (q1.kne hLC' (by decide)) e)).1.trans q8, q5.fr f2 (fun i hi => OffP.list hLC' (q5.al i hi) (by rw [c2']; omega) (by rw [c2']; omega)), q6.fr f2 (fun a f ha e => (ha.kne hLC' (by decide)) e), q7.fr f2 (fun a f ha e => (ha.kne hLC' (by decide)) e), hV'⟩
        refine g_aload_n C dX5_write_60 rfl rfl ?_
        refine g_callV C gy_X5_forgetWhatWasFound tw_3_153 tw_3_155 ts_22 (by decide) (kk := 5) rfl rfl (by exact w.1) (m_forget F S2 x A' B' w) rfl rfl (Nat.le_of_ble_eq_true rfl) (by omega) (by omega) dX5_write_61 (fun _ _ h9 => h9.elim) ?_
        rintro _ _ ⟨rfl, hI3, hf3⟩
        refine g_iload_n C dX5_write_64 rfl rfl ?_
        refine g_iret C R rfl (by omega) (by omega) dX5_write_65 ?_
        have g1 : FrB S S1 := FrB.of t5 (fun f b hb h => h.elim (hb.kne p5.1 (by decide)) (hb.kne p6.1 (by decide))) (fun b _ ho h => by
          rcases h with h | h | h | h
          · exact (ho.kne p5.1 (by decide)) h
          · exact (ho.kne p6.1 (by decide)) h
          · rw [h, p1.2.2.2.2.2.1.2.2] at ho; exact (ho.kne p1.1 (by decide)) rfl
          · rw [h, p1.2.2.2.2.2.2.1.2.2] at ho; exact (ho.kne p1.1 (by decide)) rfl)
        have g2 : FrB S1 S2 := FrB.of f2 (fun f b hb h => (hb.kne hLC' (by decide)) h) (fun b _ ho h => (ho.kne hLC' (by decide)) h)
        exact ⟨hlt, t1, rfl, ⟨A', by rw [← hB']; exact hI3⟩, (g1.tr g2).tr hf3⟩
      · exact absurd b2 (by decide)
    · refine g_if_ne C dX5_write_30 (tgt := 43) (by decide) (fun b2 => ?_) (fun b2 => ?_)
      · exact absurd rfl b2
      · have hI1 := hI0.frS hp p1 p3 t4 t3
        refine g_throwS C R Tb (kk := 5) rfl rfl tx_ISE tw_3_152 dX5_write_33 dX5_write_36 dX5_write_37 dX5_write_39 dX5_write_42 (by decide) (by simp [Value.category]) (by omega) (by omega) ?_
        refine ⟨rfl, Or.inr (by rw [hq.2]; exact t1), hI1, FrB.of t4 (fun f b hb h => (hb.kne p5.1 (by decide)) h) (fun b _ ho h => (ho.kne p5.1 (by decide)) h)⟩
  · refine g_throwS C R Tb (kk := 5) rfl rfl tx_ISE tw_3_37 dX5_write_12 dX5_write_15 dX5_write_16 dX5_write_18 dX5_write_21 (by decide) (by simp [Value.category]) (by omega) (by omega) ?_
    refine ⟨rfl, Or.inl ?_, hI0, FrB.rf⟩
    rcases Nat.lt_or_ge (tC B) 40 with w | w
    · exact absurd (nI_lt w (by omega)) b1
    · exact w
