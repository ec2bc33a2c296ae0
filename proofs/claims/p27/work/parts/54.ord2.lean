theorem chain_lt {m : Nat} {ss : List (Nat × Nat)} (h : chain m ss) {i j : Nat} {s t : Nat × Nat} (hs : ss[i]? = some s) (ht : ss[j]? = some t) (hij : i < j) : s.1 < t.1 := by
  have a := List.getElem?_eq_some_iff.mp hs
  have b := List.getElem?_eq_some_iff.mp ht
  have := List.pairwise_iff_getElem.mp h.2 i j a.1 b.1 hij
  rw [a.2, b.2] at this
  have := (h.1 s (List.mem_of_getElem? hs)).2.1
  omega
theorem m_orderStays {Γ : GBase} (F : FB Γ) (S : PS) (x LO : Nat) (A : AD) (B : BT) (os : List Nat) (hI : BkV Γ S x A B os) (hLO : pP S 163 x = some LO) : GMet Γ yX5_orderStays cX5_orderStays 4 ((none : Option FieldType)) 7 40 4000 [.ref x] S (fun r S' => r = none ∧ Fr S S' (moL LO) (maL LO) ∧ isOrd (ctB B) (ordB B) ∧ BkV Γ S' x A B ((ordB B).map (adr A))) noX := by
  have hV := hI.2.2.2.2.2.2.2.2.2
  have h8 := hV.1
  have h40 := hV.2.2.1
  have hLO7 : al S LO 7 := by
    obtain ⟨LO', o1, _, o3⟩ := hI.2.2.2.2.1.1
    have e : LO' = LO := Option.some.inj (o1.symm.trans hLO)
    subst e
    exact o3.1
  have hisL : isL Γ S LO os := by
    obtain ⟨LO', o1, _, o3⟩ := hI.2.2.2.2.1.1
    have e : LO' = LO := Option.some.inj (o1.symm.trans hLO)
    subst e
    exact o3
  refine GMet.of (loc0 := [(0, .ref x)]) F (by decide +kernel) rfl (Nat.le_of_ble_eq_true rfl) (fun X C R Tb nm => ?_)
  have outer : ∀ (m i : Nat) (l : List (Nat × Nat)) (S1 : PS), i + m = tN B → Fr S S1 (moL LO) (maL LO) → BkV Γ S1 x A B (l.map (adr A)) → OrdL (ctB B) l → (∀ a, a ∈ l ↔ (a.1 < i ∧ a.2 < (stL (dsB B a.1)).length)) → GW Γ X S1 l.length (100 * l.length) 9 [(0, .ref x), (1, .int (nI i))] [] := by
    intro m
    induction m with
    | zero =>
      intro i l S1 hi hF hI1 hO hm
      have e0 : i = tN B := by omega
      subst e0
      have hlen := ord_len hV hO
      obtain ⟨hx, ⟨L, hL1, -, hL3⟩, -⟩ := id hI1
      refine g_iload_n C dX5_orderStays_9 rfl rfl ?_
      refine g_aload_n C dX5_orderStays_10 rfl rfl ?_
      refine ge_Book_puppets C tw_1_56 (by exact hx) (by exact hL1) dX5_orderStays_11 ?_
      refine g_callV C gy_Jx4a65c_size_8abf5 tw_1_89 tw_1_90 tw_1_91 (by decide) (kk := 7) rfl rfl (by exact hL3.1) (m_size F S1 L _ hL3) rfl rfl (Nat.le_of_ble_eq_true rfl) (by omega) (by omega) dX5_orderStays_14 (fun _ _ h9 => h9.elim) ?_
      rintro _ _ ⟨rfl, rfl⟩
      rw [rmap_len]
      refine g_icmp_ge C dX5_orderStays_17 (tgt := 69) (by decide) (fun c1 => ?_) (fun c1 => ?_)
      · refine g_vret C R (by omega) (by omega) dX5_orderStays_69 ?_
        have ho : isOrd (ctB B) l := ⟨hO.1, hm⟩
        rw [ho.eqB]
        exact ⟨rfl, hF, ho, hI1⟩
      · exact absurd (nI_le (Nat.le_refl _) (by omega)) c1
    | succ m ih =>
      intro i l S1 hi hF hI1 hO hm
      have hin : i < tN B := by omega
      have hc := (hV.good hin).chain
      have inner : ∀ (m k : Nat) (l : List (Nat × Nat)) (S1 : PS) (LT : Nat), k + m = (stL (dsB B i)).length → Fr S S1 (moL LO) (maL LO) → BkV Γ S1 x A B (l.map (adr A)) → OrdL (ctB B) l → (∀ a, a ∈ l ↔ ((a.1 < i ∧ a.2 < (stL (dsB B a.1)).length) ∨ (a.1 = i ∧ a.2 < k))) → al S1 LT 7 → isL Γ S1 LT (dT A i) → LT ≠ LO → (dT A i).length = (stL (dsB B i)).length → GW Γ X S1 l.length (100 * l.length) 37 [(0, .ref x), (1, .int (nI i)), (2, .ref LT), (3, .int (nI k))] [] := by
        intro m
        induction m with
        | zero =>
          intro k l S1 LT hk hF hI1 hO hm hT7 hT hne hTl
          have hlen := ord_len hV hO
          have hTlen := hT.len
          refine g_iload_n C dX5_orderStays_37 rfl rfl ?_
          refine g_aload_n C dX5_orderStays_38 rfl rfl ?_
          refine g_callV C gy_Jx4a65c_size_8abf5 tw_1_89 tw_1_90 tw_1_91 (by decide) (kk := 7) rfl rfl (by exact hT.1) (m_size F S1 LT _ hT) rfl rfl (Nat.le_of_ble_eq_true rfl) (by omega) (by omega) dX5_orderStays_39 (fun _ _ h9 => h9.elim) ?_
          rintro _ _ ⟨rfl, rfl⟩
          rw [hTl]
          refine g_icmp_ge C dX5_orderStays_42 (tgt := 63) (by decide) (fun c1 => ?_) (fun c1 => ?_)
          · refine g_iinc C dX5_orderStays_63 rfl (by first | exact inc1 _ | exact rfl) (by decide) rfl ?_
            refine g_goto C dX5_orderStays_66 (tgt := 9) (by decide) ?_
            refine g_sub [(0, _), (1, _)] ⟨rfl, rfl, trivial⟩ ?_
            refine ih (i + 1) l S1 (by omega) hF hI1 hO (fun a => ?_)
            rw [hm a]
            constructor
            · rintro (⟨h1, h2⟩ | ⟨h1, h2⟩)
              · exact ⟨by omega, h2⟩
              · exact ⟨by omega, by rw [h1]; omega⟩
            · rintro ⟨h1, h2⟩
              by_cases e : a.1 = i
              · rw [e] at h2; exact Or.inr ⟨e, by omega⟩
              · exact Or.inl ⟨by omega, h2⟩
          · exact absurd (nI_le (by omega) (by omega)) c1
        | succ m ih2 =>
          intro k l S1 LT hk hF hI1 hO hm hT7 hT hne hTl
          have hlen := ord_len hV hO
          have hTlen := hT.len
          have hkl : k < (stL (dsB B i)).length := by omega
          obtain ⟨q, hq, hsq, hta⟩ := (hI1.2.2.2.2.2.2.1).addr (a := (i, k)) hin hkl
          obtain ⟨LO1, o1, o2, o3⟩ := hI1.2.2.2.2.1.1
          have hLO1 : LO1 = LO := Option.some.inj (o1.symm.trans (((hF x hI.1.1).2.2.2.2.1 163 (fun e => (hI.1.kne hLO7 (by decide)) e)).2.trans hLO))
          subst hLO1
          refine g_iload_n C dX5_orderStays_37 rfl rfl ?_
          refine g_aload_n C dX5_orderStays_38 rfl rfl ?_
          refine g_callV C gy_Jx4a65c_size_8abf5 tw_1_89 tw_1_90 tw_1_91 (by decide) (kk := 7) rfl rfl (by exact hT.1) (m_size F S1 LT _ hT) rfl rfl (Nat.le_of_ble_eq_true rfl) (by omega) (by omega) dX5_orderStays_39 (fun _ _ h9 => h9.elim) ?_
          rintro _ _ ⟨rfl, rfl⟩
          rw [hTl]
          refine g_icmp_ge C dX5_orderStays_42 (tgt := 63) (by decide) (fun c1 => ?_) (fun c1 => ?_)
          · exact absurd c1 (nI_ge hkl (by omega))
          · have hst : ∀ a, a ∈ l ∨ a = (i, k) → ∃ q, (stL (dsB B a.1))[a.2]? = some q ∧ StayO S1 (adr A a) (dP A a.1) q := by
              intro a ha
              have h2 : a.1 < tN B ∧ a.2 < (stL (dsB B a.1)).length := by
                rcases ha with ha | rfl
                · exact hO.2 a ha
                · exact ⟨hin, hkl⟩
              obtain ⟨q', h3, h4, _⟩ := (hI1.2.2.2.2.2.2.1).addr h2.1 h2.2
              exact ⟨q', h3, h4⟩
            have hlt : ∀ a, a ∈ l → bgn (ctB B) a = bgn (ctB B) (i, k) → a.1 < i := by
              intro a ha he
              rcases (hm a).mp ha with ⟨h1, _⟩ | ⟨h1, h2⟩
              · exact h1
              · exfalso
                obtain ⟨q', h3, _⟩ := hst a (Or.inl ha)
                have e1 : bgn (ctB B) a = q'.1 := by
                  unfold bgn
                  rw [show (cS (ctB B) a.1)[a.2]? = some q' from h3]
                have e2 : bgn (ctB B) (i, k) = q.1 := by
                  unfold bgn
                  rw [show (cS (ctB B) (i, k).1)[(i, k).2]? = some q from hq]
                rw [h1] at h3
                have := chain_lt hc h3 hq h2
                omega
            have hl1 : l.length + 1 ≤ 40 := by
              have hni : (i, k) ∉ l := fun h => by
                rcases (hm (i, k)).mp h with ⟨h1, _⟩ | ⟨_, h2⟩
                · exact absurd h1 (Nat.lt_irrefl _)
                · exact absurd h2 (Nat.lt_irrefl _)
              have := ord_lenN hV (l := (i, k) :: l) ⟨List.nodup_cons.mpr ⟨hni, hO.1.imp (fun hab => fun e => by rw [e] at hab; omega)⟩, fun a ha => by
                rcases List.mem_cons.mp ha with rfl | ha
                · exact ⟨hin, hkl⟩
                · exact hO.2 a ha⟩
              simp only [List.length_cons] at this
              omega
            refine g_aload_n C dX5_orderStays_45 rfl rfl ?_
            refine g_aload_n C dX5_orderStays_46 rfl rfl ?_
            refine g_iload_n C dX5_orderStays_47 rfl rfl ?_
            refine g_callV C gy_Jx4a65c_get_915e3 tw_1_161 tw_1_162 tw_1_163 (by decide) (kk := 7) rfl rfl (by exact hT.1) (m_get F S1 LT _ hT k (adr A (i, k)) hta) rfl rfl (Nat.le_of_ble_eq_true rfl) (by omega) (by omega) dX5_orderStays_48 (fun _ _ h9 => h9.elim) ?_
            rintro _ _ ⟨rfl, rfl⟩
            refine g_cast C (kk := 4) rfl hsq.1 tw_1_203 dX5_orderStays_51 ?_
            refine g_callV C gy_X5_putInOrder tw_1_233 tw_1_235 ts_4 (by decide) (kk := 5) rfl rfl (by exact hI1.1) (m_putInOrder F S1 x LO1 A B l (i, k) hI1.1 o1 o3 h8 hO (by omega) hst hin hlt) rfl rfl (Nat.le_of_ble_eq_true rfl) (by omega) (by omega) dX5_orderStays_54 (fun _ _ h9 => h9.elim) ?_
            rintro _ _ ⟨rfl, hF2, l', hL2, hO2, hn2, hm2⟩
            rename_i S2
            have hF3 := hF.trL hF2
            have hI2 : BkV Γ S2 x A B (l'.map (adr A)) := hI1.frO o1 hF2 hL2 (fun t ht => by
              obtain ⟨a, ha, rfl⟩ := List.mem_map.mp ht
              obtain ⟨_, _, h4⟩ := hst a ((hm2 a).mp ha)
              exact h4.1) (by rw [List.length_map]; omega)
            have nx := ih2 (k + 1) l' S2 LT (by omega) hF3 hI2 hO2 (fun a => ?_) (hT7.fr hF2) (hT.fr hF2 hne hne (fun E _ _ e => hne e)) hne hTl
            · rw [hn2, Nat.mul_add] at nx
              refine g_iinc C dX5_orderStays_57 rfl (by first | exact inc1 _ | exact rfl) (by decide) rfl ?_
              refine g_goto C dX5_orderStays_60 (tgt := 37) (by decide) ?_
              refine g_sub [(0, _), (1, _), (2, _), (3, _)] ⟨rfl, rfl, rfl, rfl, trivial⟩ ?_
              exact nx
            · rw [hm2 a, hm a]
              constructor
              · rintro ((h | ⟨h1, h2⟩) | rfl)
                · exact Or.inl h
                · exact Or.inr ⟨h1, by omega⟩
                · exact Or.inr ⟨rfl, by simp only; omega⟩
              · rintro (h | ⟨h1, h2⟩)
                · exact Or.inl (Or.inl h)
                · by_cases e : a.2 = k
                  · exact Or.inr (Prod.ext h1 e)
                  · exact Or.inl (Or.inr ⟨h1, by omega⟩)
      have hlen := ord_len hV hO
      obtain ⟨hx, ⟨L, hL1, -, hL3⟩, -, -, ⟨⟨LO1, o1, o2, o3⟩, -⟩, -, hP, -⟩ := id hI1
      obtain ⟨LS, LT, TA, TB, p1, p2, p3, p4, p5, p6, p7, p8⟩ := hP.2 i hin
      have hLO1 : LO1 = LO := Option.some.inj (o1.symm.trans (((hF x hI.1.1).2.2.2.2.1 163 (fun e => (hI.1.kne hLO7 (by decide)) e)).2.trans hLO))
      have hne : LT ≠ LO := fun e => by rw [e, ← hLO1, o2] at p4; omega
      refine g_iload_n C dX5_orderStays_9 rfl rfl ?_
      refine g_aload_n C dX5_orderStays_10 rfl rfl ?_
      refine ge_Book_puppets C tw_1_56 (by exact hx) (by exact hL1) dX5_orderStays_11 ?_
      refine g_callV C gy_Jx4a65c_size_8abf5 tw_1_89 tw_1_90 tw_1_91 (by decide) (kk := 7) rfl rfl (by exact hL3.1) (m_size F S1 L _ hL3) rfl rfl (Nat.le_of_ble_eq_true rfl) (by omega) (by omega) dX5_orderStays_14 (fun _ _ h9 => h9.elim) ?_
      rintro _ _ ⟨rfl, rfl⟩
      rw [rmap_len]
      refine g_icmp_ge C dX5_orderStays_17 (tgt := 69) (by decide) (fun c1 => ?_) (fun c1 => ?_)
      · exact absurd c1 (nI_ge hin (by omega))
      · refine g_aload_n C dX5_orderStays_20 rfl rfl ?_
        refine ge_Book_puppets C tw_1_56 (by exact hx) (by exact hL1) dX5_orderStays_21 ?_
        refine g_iload_n C dX5_orderStays_24 rfl rfl ?_
        refine g_callV C gy_Jx4a65c_get_915e3 tw_1_161 tw_1_162 tw_1_163 (by decide) (kk := 7) rfl rfl (by exact hL3.1) (m_get F S1 L _ hL3 i (dP A i) (rmap_get hin)) rfl rfl (Nat.le_of_ble_eq_true rfl) (by omega) (by omega) dX5_orderStays_25 (fun _ _ h9 => h9.elim) ?_
        rintro _ _ ⟨rfl, rfl⟩
        refine g_cast C (kk := 3) rfl p1.1 tw_1_175 dX5_orderStays_28 ?_
        refine ge_Puppet_stayList C tw_2_161 (by exact p1.1) (by exact p1.2.2.1) dX5_orderStays_31 ?_
        refine g_astore_n C dX5_orderStays_34 rfl (by decide) rfl ?_
        refine g_iconst C dX5_orderStays_35 (v := 0) (by decide) ?_
        refine g_istore_n C dX5_orderStays_36 rfl (by decide) rfl ?_
        refine g_sub [(0, _), (1, _), (2, _), (3, _)] ⟨rfl, rfl, rfl, rfl, trivial⟩ ?_
        refine inner (stL (dsB B i)).length 0 l S1 LT (by omega) hF hI1 hO (fun a => ?_) p6.1 p6 hne p7.1
        rw [hm a]
        constructor
        · exact fun h => Or.inl h
        · rintro (h | h)
          · exact h
          · omega
  refine g_aload_n C dX5_orderStays_0 rfl rfl ?_
  refine ge_Book_castingOrder C tw_1_59 (by exact hI.1) (by exact hLO) dX5_orderStays_1 ?_
  refine g_callV C gy_Jx4a65c_clear_da8c8 tw_1_229 tw_1_230 tw_1_231 (by decide) (kk := 7) rfl rfl (by exact hisL.1) (m_clear F S LO os hisL) rfl rfl (Nat.le_of_ble_eq_true rfl) (by omega) (by omega) dX5_orderStays_4 (fun _ _ h9 => h9.elim) ?_
  rintro _ _ ⟨rfl, hL1, hF1⟩
  rename_i S1
  have hI1 : BkV Γ S1 x A B (([] : List (Nat × Nat)).map (adr A)) := hI.frO hLO hF1 hL1 (fun t ht => absurd ht (List.not_mem_nil)) (Nat.zero_le _)
  refine g_iconst C dX5_orderStays_7 (v := 0) (by decide) ?_
  refine g_istore_n C dX5_orderStays_8 rfl (by decide) rfl ?_
  refine g_sub [(0, _), (1, _)] ⟨rfl, rfl, trivial⟩ ?_
  exact outer (tN B) 0 [] S1 (by omega) hF1 hI1 ⟨List.Pairwise.nil, fun a ha => absurd ha (List.not_mem_nil)⟩ (fun a => ⟨fun h => absurd h (List.not_mem_nil), fun h => absurd h.1 (Nat.not_lt_zero _)⟩)
