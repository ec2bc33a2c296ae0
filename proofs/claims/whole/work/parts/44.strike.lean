def DidX (Γ : GBase) (S S' : PS) (x : Nat) (B : BT) (c : Nat) (r : Option Value) : Prop := okL none (dsB (remB B c) (tU B c).1) = true ∧ r = some (.int (nI (scB (remB B c) (tU B c).1).length)) ∧ (∃ A', BkI Γ S' x A' (remB B c)) ∧ FrB S S'
theorem m_strike {Γ : GBase} (F : FB Γ) (S : PS) (x : Nat) (y : Int32) (A : AD) (B : BT) (hI : BkI Γ S x A B) : GMet Γ yX5_strike cX5_strike 3 ((some FieldType.int)) 9 85 4390 [.ref x, .int y] S (fun r S' => ∃ c, isC B y c ∧ DidX Γ S S' x B c r) (fun E S' => (E = xIOB ∧ S = S' ∧ noC B y) ∨ (E = xISE ∧ ∃ c, isC B y c ∧ okL none (dsB (remB B c) (tU B c).1) = false ∧ BkI Γ S' x A B ∧ FrB S S')) := by
  have hI0 := hI
  obtain ⟨a1, a2, a3, a4, ⟨os, a5, a6, a7, a8⟩, a9, a10, a11, a12, a13, a14⟩ := hI
  have hx := a1
  refine GMet.of (loc0 := [(0, .ref x), (1, .int y)]) F (by decide +kernel) rfl (Nat.le_of_ble_eq_true rfl) (fun X C R Tb nm => ?_)
  refine g_aload_n C dX5_strike_0 rfl rfl ?_
  refine g_iload_n C dX5_strike_1 rfl rfl ?_
  refine g_callV C gy_X5_cueNumbered tw_4_211 tw_4_213 ts_24 (by decide) (kk := 5) rfl rfl (by exact hx) (m_cueNumbered F S x y A B _ hx a4 a13) rfl rfl (Nat.le_of_ble_eq_true rfl) (by omega) (by omega) dX5_strike_2 (fun _ _ h9 => g_out C R Tb (by omega) (by omega) (Or.inl ⟨h9.1, h9.2.1, h9.2.2⟩)) ?_
  rintro _ _ ⟨rfl, c, hc, rfl⟩
  refine g_astore_n C dX5_strike_5 rfl (by decide) rfl ?_
  obtain ⟨p, hpe⟩ : ∃ p, p = (tU B c).1 := ⟨_, rfl⟩
  have hp : p < tN B := by rw [hpe]; exact (a14.2.2.2.2.2.1 c hc.1).2
  have hca := a13.2 c hc.1
  obtain ⟨LS, LT, TA, TB, p1, p2, p3, p4, p5, p6, p7, p8⟩ := a11.2 p hp
  have hcu1 : pP S 1 (dC A c) = some (dP A p) := by rw [hpe]; exact hca.2.1
  obtain ⟨q, hq⟩ : ∃ q, q = dC A c := ⟨_, rfl⟩
  have hscp := (a14.2.2.2.2.2.2.1 p hp).1
  obtain ⟨i0, hi0⟩ := List.getElem?_of_mem ((hscp.2 c).mpr ⟨hc.1, hpe.symm, hc.2.2⟩)
  have hq0 : ((scB B p).map (dC A))[i0]? = some q := by rw [List.getElem?_map, hi0, hq]; rfl
  have hlt' : ∀ i, i < tN B → ∀ c', c' ∈ scB B i → c' < tC B := fun i hi c' hc' => (((a14.2.2.2.2.2.2.1 i hi).1.2 c').mp hc').1
  have hnd : ((scB B p).map (dC A)).Nodup := by
    unfold List.Nodup
    rw [List.pairwise_map]
    exact List.Pairwise.imp_of_mem (fun {a b} ha hb hne e => hne (a13.1 a b (hlt' p hp a ha) (hlt' p hp b hb) e)) hscp.nodup
  have hrm := remB_sc a14 hc.1 (hpe ▸ hi0)
  rw [← hpe] at hrm
  rw [← hq] at hca hcu1 ⊢
  have hscl := a14.len hp
  refine g_aload_n C dX5_strike_6 rfl rfl ?_
  refine ge_Cue_puppet C tw_4_21 (by exact hca.1.1) (by exact hcu1) dX5_strike_7 ?_
  refine g_aload_n C dX5_strike_10 rfl rfl ?_
  refine g_callV C gy_X3_takesOut tw_4_217 tw_4_218 tw_4_219 (by decide) (kk := 3) rfl rfl (by exact p1.1) (m_takesOut F S (dP A p) LS LT TA TB q i0 ((scB B p).map (dC A)) (dT A p) (dsB B p) p1 p5 p6 (a13.cues a14 hp) (a14.good hp).2.2 hq0 hnd (by rw [List.length_map]; exact hscl)) rfl rfl (Nat.le_of_ble_eq_true rfl) (by omega) (by omega) dX5_strike_11 (fun _ _ h9 => h9.elim) ?_
  rintro _ _ hTk
  rename_i v S1
  rcases hTk with ⟨t1, rfl, t3, t4, t5⟩ | ⟨t1, rfl, t3, t4⟩
  · refine g_if_ne C dX5_strike_14 (tgt := 27) (by decide) (fun b2 => ?_) (fun b2 => ?_)
    · rw [← hrm.2] at t1 t4
      rw [← map_remA, ← hrm.1] at t3
      obtain ⟨ts', hPp⟩ := (a11.2 p hp).took p1 t5 t3 t4
      obtain ⟨A', hA'⟩ : ∃ A' : AD, A' = (dP A, dY A, dC A, va_up (dT A) p ts') := ⟨_, rfl⟩
      obtain ⟨B', hB'⟩ : ∃ B', B' = remB B c := ⟨_, rfl⟩
      have hV' : VB B' := by rw [hB']; exact remB_V a14 hc.1 hc.2.2 (hpe ▸ t1)
      have q1 : al S1 x 5 := hx.fr t5
      have q2 : BkL Γ S1 x 160 (8 * x + 3) (rmap (dP A') (tN B')) := by rw [hA', hB']; exact a2.frT hx p1 t5 (by rw [p3]; omega) (by rw [p4]; omega)
      have q3 : BkL Γ S1 x 161 (8 * x + 4) (rmap (dY A') (tQ B')) := by rw [hA', hB']; exact a3.frT hx p1 t5 (by rw [p3]; omega) (by rw [p4]; omega)
      have q35 : BkL Γ S1 x 162 (8 * x + 5) (rmap (dC A') (tC B')) := by rw [hA', hB']; exact a4.frT hx p1 t5 (by rw [p3]; omega) (by rw [p4]; omega)
      have q4 : BkL Γ S1 x 163 (8 * x + 6) os := a5.frT hx p1 t5 (by rw [p3]; omega) (by rw [p4]; omega)
      have q5 : PupsI Γ S1 A' B' := by
        rw [hA', hB']
        refine ⟨a11.1, fun i hi => ?_⟩
        have hi : i < tN B := hi
        show PupA Γ S1 (dP A i) i (tW B i) (tH B i) ((scB (remB B c) i).map (dC A)) (va_up (dT A) p ts' i) (dsB (remB B c) i)
        by_cases e : i = p
        · subst e
          rw [va_up_self]
          exact hPp
        · have e2 := remB_scO (c := c) a14 hi (by rw [← hpe]; exact fun h => e h.symm)
          have hne : dP A i ≠ dP A p := fun h => e (a11.1 i p hi hp h)
          rw [e2.1, e2.2, va_up_ne _ _ e]
          exact (a11.2 i hi).fr t5 (OffP.took p1 p3 p4 (a11.al i hi) hne)
      have q6 : PlysI S1 A' B' := by rw [hA', hB']; exact a12.fr t5 (fun a f ha h => h.elim (ha.kne p5.1 (by decide)) (ha.kne p6.1 (by decide)))
      have nk : ∀ a f, al S a 0 → ¬ moT LS LT f a := fun a f ha h => h.elim (ha.kne p5.1 (by decide)) (ha.kne p6.1 (by decide))
      have q7 : CuesI S1 A B := a13.fr t5 nk
      have hq1 : al S1 q 0 := hca.1.1.fr t5
      have q8 : pI (uI S1 5 q 1) 164 x = nI (cntN (tK B) (tC B)) := by
        rw [uI_ne (Or.inl (by decide)), ((t5 x hx.1).2.2.2.2.1 164 (fun h => h.elim (hx.kne p5.1 (by decide)) (hx.kne p6.1 (by decide)))).1, a9]
      refine g_aload_n C dX5_strike_27 rfl rfl ?_
      refine g_iconst C dX5_strike_28 (v := 1) (by decide) ?_
      refine pu_Cue_isStruck C tw_4_33 (by exact hq1) (by first | exact Or.inl rfl | exact Or.inr rfl) dX5_strike_29 ?_
      refine g_aload_n C dX5_strike_32 rfl rfl ?_
      refine g_dup C dX5_strike_33 rfl ?_
      refine ge_Book_struckCues C tw_1_68 (by exact q1) (by exact q8) dX5_strike_34 ?_
      refine g_iconst C dX5_strike_37 (v := 1) (by decide) ?_
      refine g_iadd C dX5_strike_38 ?_
      rw [nI_1]
      refine pu_Book_struckCues C tw_1_68 (by exact q1) dX5_strike_39 ?_
      obtain ⟨S3, hS3⟩ : ∃ S3, S3 = uI (uI S1 5 q 1) 164 x (nI (cntN (tK B) (tC B) + 1)) := ⟨_, rfl⟩
      have f3 : Fr S1 S3 (fun f b => (b = q ∧ f = 5) ∨ (b = x ∧ f = 164)) maN := by
        rw [hS3]
        exact Fr.tr (mo := fun f b => (b = q ∧ f = 5) ∨ (b = x ∧ f = 164)) (ma := maN) (mo' := fun f b => (b = q ∧ f = 5) ∨ (b = x ∧ f = 164)) (ma' := maN) (fr_uI (Or.inl ⟨rfl, rfl⟩)) (fr_uI (Or.inr ⟨rfl, rfl⟩)) (fun _ _ _ h => h.elim id id) (fun _ _ _ h => h.elim id id)
      have hk : ∀ f b k, al S1 b k → k ≠ 0 → k ≠ 5 → ¬ ((b = q ∧ f = 5) ∨ (b = x ∧ f = 164)) := fun f b k hb h0 h5 h => h.elim (fun h => (hb.kne hq1 h0) h.1) (fun h => (hb.kne q1 h5) h.1)
      have hx160 : ∀ f, f < 164 → ¬ ((x = q ∧ f = 5) ∨ (x = x ∧ f = 164)) := fun f hf h => h.elim (fun h => (q1.kne hq1 (by decide)) h.1) (fun h => by omega)
      have bl : ∀ f o xs, f < 164 → BkL Γ S1 x f o xs → BkL Γ S3 x f o xs := fun f o xs f2 hb => hb.fr q1 f3 (hx160 f f2) (fun L' g hL _ => hk g L' 7 hL (by decide) (by decide)) (fun L' E' hL _ hE hw h => h)
      have w : BkW Γ S3 x A' B' := by
        refine ⟨q1.fr f3, bl _ _ _ (by decide) q2, bl _ _ _ (by decide) q3, bl _ _ _ (by decide) q35, ⟨os, bl _ _ _ (by decide) q4, fun t ht => ((a6 t ht).fr t5).fr f3, a7⟩, ?_, q5.fr f3 (fun i hi => ?_), q6.fr f3 (fun a f ha => hk f a 2 ha (by decide) (by decide)), ?_, hV'⟩
        · rw [hS3, uI_q, hB']
          show nI (cntN (tK B) (tC B) + 1) = nI (cntN (va_up (tK B) c true) (tC B))
          rw [cntN_set _ hc.1 hc.2.2]
        · have ha := q5.al i hi
          exact ⟨fun f => hk f _ 3 ha (by decide) (by decide), fun L' f hL _ => hk f L' 7 hL (by decide) (by decide), fun t f ht _ _ _ => hk f t 4 ht (by decide) (by decide), fun T hT hw h => h, fun L' E' hL _ hE hw h => h⟩
        · rw [hA', hB']
          refine ⟨a13.1, fun c' hc' => ?_⟩
          have hc' : c' < tC B := hc'
          show CueA S3 (dC A c') (dP A (tU B c').1) (tU B c').2 (va_up (tK B) c true c') (tE B c') (tL B c') (tF B c')
          by_cases e : c' = c
          · rw [e, va_up_self, ← hq]
            obtain ⟨g1, g2, g3, g4, g5, g6, g7, g8⟩ := q7.2 c hc.1
            rw [← hq] at g1 g2 g3 g4 g5 g6 g7 g8
            have fo : ∀ f, f ≠ 5 → pI S3 f q = pI S1 f q ∧ pP S3 f q = pP S1 f q := fun f hf => (f3 q hq1.1).2.2.2.2.1 f (fun h => h.elim (fun h => hf h.2) (fun h => (hq1.kne q1 (by decide)) h.1))
            refine ⟨CueObj.fr g1 f3 (fun f h5 h => h.elim (fun h => by omega) (fun h => (hq1.kne q1 (by decide)) h.1)), (fo 1 (by decide)).2.trans g2, ?_, (fo 6 (by decide)).1.trans g4, (fo 7 (by decide)).1.trans g5, (fo 8 (by decide)).1.trans g6, fun h => (fo 3 (by decide)).1.trans (g7 h), fun h => (fo 4 (by decide)).1.trans (g8 h)⟩
            rw [hS3, uI_ne (Or.inl (by decide)), uI_q]
            rfl
          · rw [va_up_ne _ _ e]
            have hne : dC A c' ≠ q := fun h => e (a13.1 c' c hc' hc.1 (h.trans hq))
            exact (q7.2 c' hc').fr f3 (fun f h => h.elim (fun h => hne h.1) (fun h => ((q7.2 c' hc').1.1.kne q1 (by decide)) h.1))
      rw [← hS3]
      refine g_aload_n C dX5_strike_42 rfl rfl ?_
      refine g_callV C gy_X5_forgetWhatWasFound tw_4_179 tw_4_181 ts_23 (by decide) (kk := 5) rfl rfl (by exact w.1) (m_forget F S3 x A' B' w) rfl rfl (Nat.le_of_ble_eq_true rfl) (by omega) (by omega) dX5_strike_43 (fun _ _ h9 => h9.elim) ?_
      rintro _ _ ⟨rfl, hI4, hf4⟩
      rename_i S4
      have hca4 := hI4.2.2.2.2.2.2.2.2.2.1.2 c (by rw [hB']; exact hc.1)
      obtain ⟨LS4, LT4, TA4, TB4, r1, -, -, -, r5, -⟩ := hI4.2.2.2.2.2.2.2.1.2 p (by rw [hB']; exact hp)
      have e4 : dC A' c = q := by rw [hA', hq]
      have e5 : (tU B' c).1 = p := by rw [hB', hpe]; rfl
      rw [e4, e5] at hca4
      refine g_aload_n C dX5_strike_46 rfl rfl ?_
      refine ge_Cue_puppet C tw_4_21 (by exact hca4.1.1) (by exact hca4.2.1) dX5_strike_47 ?_
      refine ge_Puppet_script C tw_3_166 (by exact r1.1) (by exact r1.2.1) dX5_strike_50 ?_
      refine g_callV C gy_Jx4a65c_size_8abf5 tw_1_97 tw_1_98 tw_1_99 (by decide) (kk := 7) rfl rfl (by exact r5.1) (m_size F S4 LS4 _ r5) rfl rfl (Nat.le_of_ble_eq_true rfl) (by omega) (by omega) dX5_strike_53 (fun _ _ h9 => h9.elim) ?_
      rintro _ _ ⟨rfl, rfl⟩
      rw [List.length_map, hB']
      refine g_iret C R rfl (by omega) (by omega) dX5_strike_56 ?_
      have g1 : FrB S S1 := FrB.of t5 (fun f b hb h => h.elim (hb.kne p5.1 (by decide)) (hb.kne p6.1 (by decide))) (fun b _ ho h => by
        rcases h with h | h | h | h
        · exact (ho.kne p5.1 (by decide)) h
        · exact (ho.kne p6.1 (by decide)) h
        · rw [h, p1.2.2.2.2.2.1.2.2] at ho; exact (ho.kne p1.1 (by decide)) rfl
        · rw [h, p1.2.2.2.2.2.2.1.2.2] at ho; exact (ho.kne p1.1 (by decide)) rfl)
      have g2 : FrB S1 S3 := FrB.of f3 (fun f b hb => hk f b 6 hb (by decide) (by decide)) (fun b _ ho h => h)
      refine ⟨c, hc, hpe ▸ t1, ?_, ⟨A', by rw [← hB']; exact hI4⟩, (g1.tr g2).tr hf4⟩
      rw [← hpe]
    · exact absurd b2 (by decide)
  · refine g_if_ne C dX5_strike_14 (tgt := 27) (by decide) (fun b2 => ?_) (fun b2 => ?_)
    · exact absurd rfl b2
    · have hI1 := hI0.frS hp p1 p3 t4 t3
      refine g_throwS C R Tb (kk := 5) rfl rfl tx_ISE tw_4_221 dX5_strike_17 dX5_strike_20 dX5_strike_21 dX5_strike_23 dX5_strike_26 (by simp [Value.category]) (by omega) (by omega) ?_
      exact Or.inr ⟨rfl, c, hc, by rw [← hpe, hrm.2]; exact t1, hI1, FrB.of t4 (fun f b hb h => (hb.kne p5.1 (by decide)) h) (fun b _ ho h => (ho.kne p5.1 (by decide)) h)⟩
