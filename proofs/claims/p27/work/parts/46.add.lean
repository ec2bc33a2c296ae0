def in1 (x : Int32) (n : Nat) : Prop := ∃ i, 1 ≤ i ∧ i ≤ n ∧ x = nI i
theorem in1_lt {x : Int32} {n : Nat} (hn : n < 2147483648) (h : x < 1) : ¬ in1 x n := by
  rintro ⟨i, h1, h2, rfl⟩
  rw [show (1 : Int32) = nI 1 from rfl, Int32.lt_iff_toInt_lt, nI_toInt (by omega), nI_toInt (by omega)] at h
  omega
theorem in1_gt {x : Int32} {n : Nat} (hn : n < 2147483648) (h : ¬ x ≤ nI n) : ¬ in1 x n := by
  rintro ⟨i, h1, h2, rfl⟩
  exact h (nI_le h2 (by omega))
theorem in1_of {x : Int32} {n : Nat} (hn : n < 2147483648) (h1 : ¬ x < 1) (h2 : x ≤ nI n) : in1 x n := by
  have h0 : ¬ x < 0 := by
    intro h
    refine h1 ?_
    rw [Int32.lt_iff_toInt_lt] at h ⊢
    have e0 : (0 : Int32).toInt = 0 := by decide
    have e1 : (1 : Int32).toInt = 1 := by decide
    omega
  obtain ⟨i, hi, rfl⟩ := nn_ex h0
  refine ⟨i, ?_, (nI_leI (by omega) (by omega)).mp h2, rfl⟩
  rcases Nat.eq_zero_or_pos i with e | e
  · rw [e] at h1; exact absurd (by decide) h1
  · exact e
theorem fr_newobj {S S2 : PS} {q k : Nat} (hq : q ∉ pL S) (hf : Fr (nO S q k) S2 (moO q) maN) : Fr S S2 maN maN := Fr.tr (mo := maN) (ma := maN) (fr_new hq) hf (fun f b hb h => by
    rcases h with h | h
    · exact h
    · have h : b = q := h
      rw [h] at hb; exact hq hb) (fun o b _ h => h.elim id id)
theorem BkW.i2 {Γ : GBase} {S : PS} {x : Nat} {A : AD} {B : BT} (h : BkW Γ S x A B) (h5 : pI S 165 x = 0) (h6 : pI S 166 x = 0 ∨ (pI S 166 x = 1 ∧ pI S 167 x = nI (clN B))) : BkI Γ S x A B := by
  obtain ⟨a1, a2, a3, a4, ⟨os, a5, a6, a7⟩, a9, a11, a12, a13, a14⟩ := h
  exact ⟨a1, a2, a3, a4, ⟨os, a5, a6, a7, Or.inl h5⟩, a9, h6, a11, a12, a13, a14⟩
theorem injN_new {f : Nat → Nat} {n v : Nat} (h : injN f n) (hv : ∀ i, i < n → f i ≠ v) : injN (va_up f n v) (n + 1) := by
  intro i j hi hj e
  by_cases ei : i = n
  · by_cases ej : j = n
    · omega
    · rw [ei, va_up_self, va_up_ne _ _ ej] at e
      exact absurd e.symm (hv j (by omega))
  · by_cases ej : j = n
    · rw [ej, va_up_self, va_up_ne _ _ ei] at e
      exact absurd e (hv i (by omega))
    · rw [va_up_ne _ _ ei, va_up_ne _ _ ej] at e
      exact h i j (by omega) (by omega) e
theorem m_addPlayer {Γ : GBase} (F : FB Γ) (S : PS) (x : Nat) (y z : Int32) (A : AD) (B : BT) (hI : BkI Γ S x A B) : GMet Γ yX5_addPlayer cX5_addPlayer 4 ((some FieldType.int)) 6 4 1140 [.ref x, .int y, .int z] S (fun r S' => ∃ s o, 1 ≤ s ∧ s ≤ 20 ∧ y = nI s ∧ o < 20 ∧ z = nI o ∧ tQ B < 5 ∧ (∃ A', BkI Γ S' x A' (plyB B s o)) ∧ FrB S S' ∧ r = some (.int (nI (tQ B)))) (fun E S' => S = S' ∧ ((E = xIAE ∧ ¬ (in1 y 20 ∧ inR z 20)) ∨ (E = xISE ∧ in1 y 20 ∧ inR z 20 ∧ 5 ≤ tQ B))) := by
  have hI0 := hI
  obtain ⟨a1, a2, a3, a4, ⟨os, a5, a6, a7, a8⟩, a9, a10, a11, a12, a13, a14⟩ := hI
  have hx := a1
  have hq5 := a14.2.1
  obtain ⟨LY, c1, c2, c3⟩ := a3
  refine GMet.of (loc0 := [(0, .ref x), (1, .int y), (2, .int z)]) F (by decide +kernel) rfl (Nat.le_of_ble_eq_true rfl) (fun X C R Tb nm => ?_)
  refine g_iload_n C dX5_addPlayer_0 rfl rfl ?_
  refine g_iconst C dX5_addPlayer_1 (v := 1) (by decide) ?_
  refine g_icmp_lt C dX5_addPlayer_2 (tgt := 11) (by decide) (fun b1 => ?_) (fun b1 => ?_)
  · refine g_throwS C R Tb (kk := 5) rfl rfl tx_IAE tw_2_195 dX5_addPlayer_11 dX5_addPlayer_14 dX5_addPlayer_15 dX5_addPlayer_17 dX5_addPlayer_20 (by decide) (by simp [Value.category]) (by omega) (by omega) ?_
    exact ⟨rfl, Or.inl ⟨rfl, fun h => in1_lt (by decide) b1 h.1⟩⟩
  · refine g_iload_n C dX5_addPlayer_5 rfl rfl ?_
    refine g_bipush C dX5_addPlayer_6 (v := 20) (by decide) ?_
    rw [show (20 : Int32) = nI 20 from rfl]
    refine g_icmp_le C dX5_addPlayer_8 (tgt := 21) (by decide) (fun b2 => ?_) (fun b2 => ?_)
    · have hy := in1_of (by decide) b1 b2
      obtain ⟨s, hs1, hs2, hys⟩ := id hy
      refine g_iload_n C dX5_addPlayer_21 rfl rfl ?_
      refine g_callS C gy_X5_requirePlace tw_2_196 tw_2_197 (by decide) (m_requirePlace F S z) rfl rfl (Nat.le_of_ble_eq_true rfl) (by omega) (by omega) dX5_addPlayer_22 (fun _ _ h9 => g_out C R Tb (by omega) (by omega) ⟨h9.2.1, Or.inl ⟨h9.1, fun h => h9.2.2 h.2⟩⟩) ?_
      rintro _ _ ⟨⟨rfl, rfl⟩, o, ho, hzo⟩
      refine g_aload_n C dX5_addPlayer_25 rfl rfl ?_
      refine ge_Book_players C tw_1_57 (by exact hx) (by exact c1) dX5_addPlayer_26 ?_
      refine g_callV C gy_Jx4a65c_size_8abf5 tw_1_89 tw_1_90 tw_1_91 (by decide) (kk := 7) rfl rfl (by exact c3.1) (m_size F S LY _ c3) rfl rfl (Nat.le_of_ble_eq_true rfl) (by omega) (by omega) dX5_addPlayer_29 (fun _ _ h9 => h9.elim) ?_
      rintro _ _ ⟨rfl, rfl⟩
      refine g_iconst C dX5_addPlayer_32 (v := 5) (by decide) ?_
      rw [rmap_len, show (5 : Int32) = nI 5 from rfl]
      refine g_icmp_lt C dX5_addPlayer_33 (tgt := 46) (by decide) (fun b3 => ?_) (fun b3 => ?_)
      · have hlt : tQ B < 5 := (nI_ltI (by omega) (by omega)).mp b3
        refine g_aload_n C dX5_addPlayer_46 rfl rfl ?_
        refine ge_Book_players C tw_1_57 (by exact hx) (by exact c1) dX5_addPlayer_47 ?_
        refine g_callV C gy_Jx4a65c_size_8abf5 tw_1_89 tw_1_90 tw_1_91 (by decide) (kk := 7) rfl rfl (by exact c3.1) (m_size F S LY _ c3) rfl rfl (Nat.le_of_ble_eq_true rfl) (by omega) (by omega) dX5_addPlayer_50 (fun _ _ h9 => h9.elim) ?_
        rintro _ _ ⟨rfl, rfl⟩
        rw [rmap_len]
        refine g_istore_n C dX5_addPlayer_53 rfl (by decide) rfl ?_
        refine g_aload_n C dX5_addPlayer_54 rfl rfl ?_
        refine ge_Book_players C tw_1_57 (by exact hx) (by exact c1) dX5_addPlayer_55 ?_
        refine g_new C kd_2 tw_1_217 tw_2_201 tw_1_15 (by omega) (by omega) dX5_addPlayer_58 (fun q hq => ?_)
        refine g_dup C dX5_addPlayer_61 rfl ?_
        refine g_iload_n C dX5_addPlayer_62 rfl rfl ?_
        refine g_iload_n C dX5_addPlayer_63 rfl rfl ?_
        refine g_callI C gy_X2_init tw_2_202 tw_2_203 rfl rfl (by decide) (m_Player_init F _ q y z al_nO) rfl rfl (Nat.le_of_ble_eq_true rfl) (by omega) (by omega) dX5_addPlayer_64 ?_
        rintro _ _ ⟨rfl, hf, f1, f2, T, f3, f4⟩
        rename_i S2
        have hq : q ∉ pL S := by assumption
        have g0 := fr_newobj hq hf
        have hI2 := hI0.frA g0 (fun _ _ _ _ _ h => h) (fun _ _ _ _ _ h => h)
        have hB2 : FrB S S2 := FrB.of g0 (fun _ _ _ h => h) (fun _ _ _ h => h)
        have hqa : al S2 q 2 := al_nO.fr hf
        obtain ⟨b1', b2', ⟨LY', d1, d2, d3⟩, b4', ⟨os', b5', b6', b7', b8'⟩, b9', b10', b11', b12', b13', b14'⟩ := hI2
        have eLY : LY' = LY := Option.some.inj (d1.symm.trans (((g0 x hx.1).2.2.2.2.1 161 id).2.trans c1))
        subst eLY
        have hall : ∀ v, v ∈ rmap (dY A) (tQ B) → al S2 v 2 := fun v hv => by
          obtain ⟨i, hi, rfl⟩ := rmap_mem.mp hv
          exact (b12'.2 i hi).1
        refine g_callV C gy_Jx4a65c_add_9ea2d tw_2_183 tw_2_184 tw_2_185 (by decide) (kk := 7) rfl rfl (by exact d3.1) (m_add F S2 LY' q 2 _ d3 hqa (by rw [rmap_len]; omega) (by decide) hall) rfl rfl (Nat.le_of_ble_eq_true rfl) (by omega) (by omega) dX5_addPlayer_67 (fun _ _ h9 => h9.elim) ?_
        rintro _ _ ⟨rfl, e1, g1⟩
        rename_i S3
        rw [rmap_snoc] at e1
        have hLY := d3.1
        obtain ⟨A', hA'⟩ : ∃ A' : AD, A' = (dP A, va_up (dY A) (tQ B) q, dC A, dT A) := ⟨_, rfl⟩
        obtain ⟨B', hB'⟩ : ∃ B', B' = plyB B s o := ⟨_, rfl⟩
        have fx : ∀ f, pI S3 f x = pI S2 f x ∧ pP S3 f x = pP S2 f x := fun f => (g1 x b1'.1).2.2.2.2.1 f (fun e => (b1'.kne hLY (by decide)) e)
        have w : BkW Γ S3 x A' B' := by
          rw [hA', hB']
          refine ⟨b1'.fr g1, b2'.frL b1' g1 hLY (by rw [d2]; omega), ⟨LY', (fx 161).2.trans d1, (g1 LY' hLY.1).2.2.2.1.trans d2, e1⟩, b4'.frL b1' g1 hLY (by rw [d2]; omega), ⟨os', b5'.frL b1' g1 hLY (by rw [d2]; omega), fun t ht => (b6' t ht).fr g1, b7'⟩, (fx 164).1.trans b9', b11'.fr g1 (fun i hi => OffP.list hLY (b11'.al i hi) (by rw [d2]; omega) (by rw [d2]; omega)), ?_, b13'.fr g1 (fun a f ha e => (ha.kne hLY (by decide)) e), plyB_V b14' hlt hs2 ho⟩
          refine ⟨injN_new b12'.1 (fun i hi e => ?_), fun q' hq' => ?_⟩
          · have := (a12.2 i hi).1.1
            rw [e] at this
            exact hq this
          · have hq' : q' < tQ B + 1 := hq'
            show PlyA S3 (va_up (dY A) (tQ B) q q') (va_up (tT B) (tQ B) s q') (va_up (tO B) (tQ B) o q')
            by_cases e : q' = tQ B
            · rw [e, va_up_self, va_up_self, va_up_self]
              have hp : PlyA S2 q s o := ⟨hqa, f1.trans hys, f2.trans hzo, T, f3, f4⟩
              exact hp.fr g1 (fun f e => (hqa.kne hLY (by decide)) e)
            · rw [va_up_ne _ _ e, va_up_ne _ _ e, va_up_ne _ _ e]
              exact (b12'.2 q' (by omega)).fr g1 (fun f e => ((b12'.2 q' (by omega)).1.kne hLY (by decide)) e)
        refine g_pop C dX5_addPlayer_70 rfl ?_
        refine g_aload_n C dX5_addPlayer_71 rfl rfl ?_
        refine g_iconst C dX5_addPlayer_72 (v := 0) (by decide) ?_
        refine pu_Book_castingStands C tw_1_61 (by exact w.1) (by first | exact Or.inl rfl | exact Or.inr rfl) dX5_addPlayer_73 ?_
        refine g_iload_n C dX5_addPlayer_76 rfl rfl ?_
        refine g_iret C R rfl (by omega) (by omega) dX5_addPlayer_77 ?_
        have g2 : Fr S3 (uI S3 165 x 0) (fun f b => b = x ∧ 165 ≤ f) maN := fr_uI ⟨rfl, by decide⟩
        refine ⟨s, o, hs1, hs2, hys, ho, hzo, hlt, ⟨A', ?_⟩, (hB2.tr (FrB.of g1 (fun f b hb h => (hb.kne hLY (by decide)) h) (fun b _ ho h => (ho.kne hLY (by decide)) h))).tr (FrB.of g2 (fun f b hb h => (hb.kne w.1 (by decide)) h.1) (fun b _ _ h => h)), rfl⟩
        rw [← hB']
        refine (w.frX g2).i2 uI_q ?_
        rw [uI_ne (Or.inl (by decide)), uI_ne (Or.inl (by decide)), (fx 166).1, (fx 167).1, hB']
        exact b10'
      · refine g_throwS C R Tb (kk := 5) rfl rfl tx_ISE tw_2_200 dX5_addPlayer_36 dX5_addPlayer_39 dX5_addPlayer_40 dX5_addPlayer_42 dX5_addPlayer_45 (by decide) (by simp [Value.category]) (by omega) (by omega) ?_
        refine ⟨rfl, Or.inr ⟨rfl, hy, ⟨o, ho, hzo⟩, ?_⟩⟩
        rcases Nat.lt_or_ge (tQ B) 5 with w | w
        · exact absurd (nI_lt w (by omega)) b3
        · exact w
    · refine g_throwS C R Tb (kk := 5) rfl rfl tx_IAE tw_2_195 dX5_addPlayer_11 dX5_addPlayer_14 dX5_addPlayer_15 dX5_addPlayer_17 dX5_addPlayer_20 (by decide) (by simp [Value.category]) (by omega) (by omega) ?_
      exact ⟨rfl, Or.inl ⟨rfl, fun h => in1_gt (by decide) b2 h.1⟩⟩
