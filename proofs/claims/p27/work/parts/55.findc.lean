def FrC (S S' : PS) : Prop := Fr S S' (fun _ b => ¬ (al S b 9 ∨ al S b 3)) (fun o _ => ¬ (al S o 9 ∨ al S o 3))
theorem FrC.rf {S : PS} : FrC S S := Fr.rf
theorem FrC.of {S S' : PS} {mo ma : Nat → Nat → Prop} (h : Fr S S' mo ma) (h1 : ∀ f b k, al S b k → k = 9 ∨ k = 3 → ¬ mo f b) (h2 : ∀ b k, b ∈ pL S → al S (pW S b) k → k = 9 ∨ k = 3 → ¬ ma (pW S b) b) : FrC S S' := fun b hb =>
  ⟨(h b hb).1, (h b hb).2.1, (h b hb).2.2.1, (h b hb).2.2.2.1, fun f hm => (h b hb).2.2.2.2.1 f (fun hmo => hm (fun ha => ha.elim (fun ha => h1 f b 9 ha (Or.inl rfl) hmo) (fun ha => h1 f b 3 ha (Or.inr rfl) hmo))), fun hm => (h b hb).2.2.2.2.2 ((Classical.not_not.mp hm).elim (fun ha => h2 b 9 hb ha (Or.inl rfl)) (fun ha => h2 b 3 hb ha (Or.inr rfl)))⟩
theorem FrC.tr {S S1 S2 : PS} (h1 : FrC S S1) (h2 : FrC S1 S2) : FrC S S2 := Fr.tr h1 h2 (fun f b _ h ha => h.elim (fun q => q ha) (fun q => q (ha.imp (fun w => w.fr h1) (fun w => w.fr h1)))) (fun o b _ h ha => h.elim (fun q => q ha) (fun q => q (ha.imp (fun w => w.fr h1) (fun w => w.fr h1))))
theorem FrC.b {S S' : PS} (h : FrC S S') : FrB S S' := FrB.of h (fun f b hb h => h (Or.inl hb)) (fun b _ hb h => h (Or.inl hb))
theorem addr_inj {Γ : GBase} {S : PS} {A : AD} {B : BT} (h : PupsI Γ S A B) {a b : Nat × Nat} (ha : a.1 < tN B ∧ a.2 < (stL (dsB B a.1)).length) (hb : b.1 < tN B ∧ b.2 < (stL (dsB B b.1)).length) (e : adr A a = adr A b) : a = b := by
  obtain ⟨q, _, h2, h3⟩ := h.addr ha.1 ha.2
  obtain ⟨r, _, g2, g3⟩ := h.addr hb.1 hb.2
  rw [← e] at g2 g3
  have e1 : a.1 = b.1 := h.1 _ _ ha.1 hb.1 (Option.some.inj (h2.2.1.symm.trans g2.2.1))
  obtain ⟨_, _, _, _, -, -, -, -, -, -, h7, -⟩ := h.2 a.1 ha.1
  rw [← e1] at g3
  have hl := (List.getElem?_eq_some_iff.mp h3).1
  exact Prod.ext e1 ((List.getElem?_inj hl h7.2.1).mp (h3.trans g3.symm))
theorem msk_noA (B : BT) (q b : Nat) : msk B noA q b = 0 := msk_zero.mpr (fun i _ => held_noA (ctB B) q b i)
theorem BkI.v {Γ : GBase} {S : PS} {x : Nat} {A : AD} {B : BT} (h : BkI Γ S x A B) : ∃ os, BkV Γ S x A B os := by
  obtain ⟨a1, a2, a3, a4, ⟨os, a5, a6, a7, a8⟩, a9, a10, a11, a12, a13, a14⟩ := h
  exact ⟨os, a1, a2, a3, a4, ⟨a5, a6, a7⟩, a9, a11, a12, a13, a14⟩
theorem m_findCasting {Γ : GBase} (F : FB Γ) (S : PS) (x : Nat) (A : AD) (B : BT) (hI : BkI Γ S x A B) : GMet Γ yX5_findCasting cX5_findCasting 2 ((none : Option FieldType)) 8 40 4000 [.ref x] S (fun r S' => r = none ∧ BkI Γ S' x A B ∧ pI S' 165 x = 1 ∧ FrC S S') noX := by
  have hI0 := hI
  obtain ⟨os, hIv⟩ := hI.v
  obtain ⟨a1, a2, a3, a4, ⟨_, _, _, _, a8⟩, a9, a10, a11, a12, a13, a14⟩ := hI
  have hx := a1
  have hV := a14
  have h8 := hV.1
  have hq5 := hV.2.1
  refine GMet.of (loc0 := [(0, .ref x)]) F (by decide +kernel) rfl (Nat.le_of_ble_eq_true rfl) (fun X C R Tb nm => ?_)
  rcases a8 with a8 | ⟨a8, -⟩
  · -- the second loop
    have two : ∀ (l : List (Nat × Nat)), isOrd (ctB B) l → ∀ (m i : Nat) (S3 : PS), i + m = l.length → BkV Γ S3 x A B (l.map (adr A)) → Masks S3 A B (castL (ctB B) (l.take i) noA) → (∀ k a, k < i → l[k]? = some a → pI S3 131 (adr A a) = zO (castL (ctB B) (l.take i) noA a.1 a.2)) → pI S3 166 x = pI S 166 x → pI S3 167 x = pI S 167 x → FrC S S3 → GW Γ X S3 40 4000 47 [(0, .ref x), (1, .int (nI i))] [] := by
      intro l hO m
      have hlen : l.length ≤ 40 := by
        have := ord_len hV (l := l) ⟨hO.1, fun a ha => (hO.2 a).mp ha⟩
        have := hV.2.2.1
        omega
      induction m with
      | zero =>
        intro i S3 hi hI3 hM hP h6 h7 hF
        have e0 : i = l.length := by omega
        subst e0
        obtain ⟨o1, o2, o3, o4, ⟨⟨LO, q1, q2, q3⟩, o6, o7⟩, o9, o11, o12, o13, o14⟩ := id hI3
        refine g_iload_n C dX5_findCasting_47 rfl rfl ?_
        refine g_aload_n C dX5_findCasting_48 rfl rfl ?_
        refine ge_Book_castingOrder C tw_1_59 (by exact o1) (by exact q1) dX5_findCasting_49 ?_
        refine g_callV C gy_Jx4a65c_size_8abf5 tw_1_89 tw_1_90 tw_1_91 (by decide) (kk := 7) rfl rfl (by exact q3.1) (m_size F S3 LO _ q3) rfl rfl (Nat.le_of_ble_eq_true rfl) (by omega) (by omega) dX5_findCasting_52 (fun _ _ h9 => h9.elim) ?_
        rintro _ _ ⟨rfl, rfl⟩
        rw [List.length_map]
        refine g_icmp_ge C dX5_findCasting_55 (tgt := 79) (by decide) (fun c1 => ?_) (fun c1 => ?_)
        · refine g_aload_n C dX5_findCasting_79 rfl rfl ?_
          refine g_iconst C dX5_findCasting_80 (v := 1) (by decide) ?_
          refine pu_Book_castingStands C tw_1_61 (by exact o1) (by first | exact Or.inl rfl | exact Or.inr rfl) dX5_findCasting_81 ?_
          refine g_vret C R (by omega) (by omega) dX5_findCasting_84 ?_
          have f4 : Fr S3 (uI S3 165 x 1) (fun f b => b = x ∧ f = 165) maN := fr_uI ⟨rfl, rfl⟩
          have hk : ∀ f b k, al S3 b k → k ≠ 5 → ¬ (b = x ∧ f = 165) := fun f b k hb hk h => (hb.kne o1 hk) h.1
          have bl : ∀ {f o xs}, f ≠ 165 → BkL Γ S3 x f o xs → BkL Γ (uI S3 165 x 1) x f o xs := fun {f o xs} hf hb => hb.fr o1 f4 (fun e => hf e.2) (fun L g hL _ => hk g L 7 hL (by decide)) (fun _ _ _ _ _ _ e => e)
          have hl := hO.eqB
          rw [List.take_length] at hM hP
          have hcb : castB B = castL (ctB B) l noA := by unfold castB; rw [hl]
          have hcv : CastV S3 x A B (l.map (adr A)) := by
            refine ⟨by rw [hl]; exact hO, by rw [hl]; rfl, fun p j t hp ht => ?_, fun q T hq hT => ?_⟩
            · have hjl : j < (stL (dsB B p)).length := by
                obtain ⟨_, _, _, _, -, -, -, -, -, -, g7, -⟩ := o11.2 p hp
                rw [← g7.1]
                exact (List.getElem?_eq_some_iff.mp ht).1
              obtain ⟨k, hk⟩ := List.getElem?_of_mem ((hO.2 (p, j)).mpr ⟨hp, hjl⟩)
              have hkl := (List.getElem?_eq_some_iff.mp hk).1
              have e : adr A (p, j) = t := by
                unfold adr
                rw [List.getD_eq_getElem?_getD, show (dT A (p, j).1)[(p, j).2]? = some t from ht]
                rfl
              rw [hcb, ← e]
              exact hP k (p, j) hkl hk
            · have := hM q T hq hT
              unfold msk at this
              unfold hmB
              rw [hcb]
              exact this
          refine ⟨rfl, ⟨o1.fr f4, bl (by decide) o2, bl (by decide) o3, bl (by decide) o4, ⟨_, bl (by decide) ⟨LO, q1, q2, q3⟩, fun t ht => (o6 t ht).fr f4, o7, Or.inr ⟨uI_q, hcv.fr o11 o12 f4 (fun t ht => hk _ t 4 ht (by decide)) (fun a ha => hk _ a 2 ha (by decide)) (fun _ _ _ _ _ e => e)⟩⟩, ?_, ?_, o11.fr f4 (fun i hi => ?_), o12.fr f4 (fun a f ha => hk f a 2 ha (by decide)), o13.fr f4 (fun a f ha => hk f a 0 ha (by decide)), o14⟩, uI_q, hF.tr (FrC.of f4 (fun f b k hb hk' => hk f b k hb (by omega)) (fun b _ _ _ _ e => e))⟩
          · rw [uI_ne (Or.inl (by decide))]; exact o9
          · rw [uI_ne (Or.inl (by decide)), uI_ne (Or.inl (by decide)), h6, h7]; exact a10
          · have ha := o11.al i hi
            exact ⟨fun f => hk f _ 3 ha (by decide), fun L f hL _ => hk f L 7 hL (by decide), fun t f ht _ _ _ => hk f t 4 ht (by decide), fun _ _ _ e => e, fun _ _ _ _ _ _ e => e⟩
        · exact absurd (nI_le (Nat.le_refl _) (by omega)) c1
      | succ m ih =>
        intro i S3 hi hI3 hM hP h6 h7 hF
        have hil : i < l.length := by omega
        obtain ⟨⟨p, j⟩, hpj⟩ : ∃ a, l[i]? = some a := ⟨_, List.getElem?_eq_getElem hil⟩
        have hmem := List.mem_of_getElem? hpj
        have hpm := (hO.2 (p, j)).mp hmem
        have hp : p < tN B := hpm.1
        obtain ⟨o1, o2, o3, o4, ⟨⟨LO, q1, q2, q3⟩, o6, o7⟩, o9, o11, o12, o13, o14⟩ := id hI3
        obtain ⟨⟨b0, b1⟩, hs1, hs2, hs3⟩ := o11.addr (a := (p, j)) hp hpm.2
        have hg : (l.map (adr A))[i]? = some (adr A (p, j)) := by rw [List.getElem?_map, hpj]; rfl
        have hcI := castI_take (C := ctB B) hO.nodup i (by omega)
        have hni : (p, j) ∉ l.take i := by
          intro hm
          obtain ⟨k, hk⟩ := List.getElem?_of_mem hm
          have hki : k < i := by
            have := (List.getElem?_eq_some_iff.mp hk).1
            simp at this; omega
          rw [List.getElem?_take_of_lt hki] at hk
          have := (List.getElem?_inj (by omega) hO.nodup).mp (hk.trans hpj.symm)
          omega
        have h0 := hcI.un hni
        have e1 : castL (ctB B) (l.take (i + 1)) noA = castAt (ctB B) (castL (ctB B) (l.take i) noA) p j := by
          rw [take_succ_get hpj, castL_snoc]
        refine g_iload_n C dX5_findCasting_47 rfl rfl ?_
        refine g_aload_n C dX5_findCasting_48 rfl rfl ?_
        refine ge_Book_castingOrder C tw_1_59 (by exact o1) (by exact q1) dX5_findCasting_49 ?_
        refine g_callV C gy_Jx4a65c_size_8abf5 tw_1_89 tw_1_90 tw_1_91 (by decide) (kk := 7) rfl rfl (by exact q3.1) (m_size F S3 LO _ q3) rfl rfl (Nat.le_of_ble_eq_true rfl) (by omega) (by omega) dX5_findCasting_52 (fun _ _ h9 => h9.elim) ?_
        rintro _ _ ⟨rfl, rfl⟩
        rw [List.length_map]
        refine g_icmp_ge C dX5_findCasting_55 (tgt := 79) (by decide) (fun c1 => ?_) (fun c1 => ?_)
        · exact absurd c1 (nI_ge hil (by omega))
        · refine g_aload_n C dX5_findCasting_58 rfl rfl ?_
          refine g_aload_n C dX5_findCasting_59 rfl rfl ?_
          refine ge_Book_castingOrder C tw_1_59 (by exact o1) (by exact q1) dX5_findCasting_60 ?_
          refine g_iload_n C dX5_findCasting_63 rfl rfl ?_
          refine g_callV C gy_Jx4a65c_get_915e3 tw_1_161 tw_1_162 tw_1_163 (by decide) (kk := 7) rfl rfl (by exact q3.1) (m_get F S3 LO _ q3 i (adr A (p, j)) hg) rfl rfl (Nat.le_of_ble_eq_true rfl) (by omega) (by omega) dX5_findCasting_64 (fun _ _ h9 => h9.elim) ?_
          rintro _ _ ⟨rfl, rfl⟩
          refine g_cast C (kk := 4) rfl hs2.1 tw_1_203 dX5_findCasting_67 ?_
          refine g_callV C gy_X5_namePlayer tw_2_55 tw_2_57 ts_8 (by decide) (kk := 5) rfl rfl (by exact o1) (m_namePlayer F S3 x (adr A (p, j)) p j b0 b1 A B (castL (ctB B) (l.take i) noA) _ hI3 hM hp hs1 hs2 h0 (fun q b hq hb => (hcI.1 q hq b hb).1) (fun q hq => canNext hV.wc hO h8 hpj hs1 hq)) rfl rfl (Nat.le_of_ble_eq_true rfl) (by omega) (by omega) dX5_findCasting_70 (fun _ _ h9 => h9.elim) ?_
          rintro _ _ ⟨rfl, hI4, hM4, hv4, hu4, hf4, -⟩
          rename_i S4
          have f4B : FrC S3 S4 := FrC.of hf4 (fun f b k hb hk h => (hb.kne h.2 (by omega)) rfl) (fun b k _ hb hk h => (hb.kne h (by omega)) rfl)
          have fx : ∀ f, pI S4 f x = pI S3 f x := fun f => ((hf4 x o1.1).2.2.2.2.1 f (fun h => (o1.kne h.2 (by decide)) rfl)).1
          have nx := ih (i + 1) S4 (by omega) hI4 (by rw [e1]; exact hM4) (fun k a hk ha => ?_) ((fx 166).trans h6) ((fx 167).trans h7) (hF.tr f4B)
          · refine g_iinc C dX5_findCasting_73 rfl (by first | exact inc1 _ | exact rfl) (by decide) rfl ?_
            refine g_goto C dX5_findCasting_76 (tgt := 47) (by decide) ?_
            refine g_sub [(0, _), (1, _)] ⟨rfl, rfl, trivial⟩ ?_
            exact nx
          · rw [e1]
            by_cases e : k = i
            · rw [e, hpj] at ha
              cases ha
              exact hv4
            · have hma := (hO.2 a).mp (List.mem_of_getElem? ha)
              have hne : a ≠ (p, j) := by
                intro h
                rw [h] at ha
                have := (List.getElem?_inj (by omega) hO.nodup).mp (ha.trans hpj.symm)
                exact e this
              obtain ⟨_, _, w2, _⟩ := o11.addr (a := a) hma.1 hma.2
              rw [hu4 _ w2.1.1 (fun h => hne (addr_inj o11 hma hpm h)), hP k a (by omega) ha]
              unfold castAt upA
              rw [if_neg]
              rintro ⟨g1, g2⟩
              exact hne (Prod.ext g1 g2)
    have one : ∀ (m i : Nat) (S1 : PS), i + m = tQ B → BkV Γ S1 x A B os → (∀ q T, q < i → pP S1 66 (dY A q) = some T → RowH S1 T (msk B noA q)) → (∀ f, pI S1 f x = pI S f x) → FrC S S1 → GW Γ X S1 0 0 10 [(0, .ref x), (1, .int (nI i))] [] := by
      intro m
      induction m with
      | zero =>
        intro i S1 hi hI1 hM hx1 hF
        have e0 : i = tQ B := by omega
        subst e0
        obtain ⟨o1, o2, ⟨LY, c1, c2, c3⟩, o4, ⟨⟨LO, q1, q2, q3⟩, o6, o7⟩, o9, o11, o12, o13, o14⟩ := id hI1
        refine g_iload_n C dX5_findCasting_10 rfl rfl ?_
        refine g_aload_n C dX5_findCasting_11 rfl rfl ?_
        refine ge_Book_players C tw_1_57 (by exact o1) (by exact c1) dX5_findCasting_12 ?_
        refine g_callV C gy_Jx4a65c_size_8abf5 tw_1_89 tw_1_90 tw_1_91 (by decide) (kk := 7) rfl rfl (by exact c3.1) (m_size F S1 LY _ c3) rfl rfl (Nat.le_of_ble_eq_true rfl) (by omega) (by omega) dX5_findCasting_15 (fun _ _ h9 => h9.elim) ?_
        rintro _ _ ⟨rfl, rfl⟩
        rw [rmap_len]
        refine g_icmp_ge C dX5_findCasting_18 (tgt := 41) (by decide) (fun d1 => ?_) (fun d1 => ?_)
        · refine g_aload_n C dX5_findCasting_41 rfl rfl ?_
          refine g_callV C gy_X5_orderStays tw_1_225 tw_1_227 ts_3 (by decide) (kk := 5) rfl rfl (by exact o1) (m_orderStays F S1 x LO A B os hI1 q1) rfl rfl (Nat.le_of_ble_eq_true rfl) (by omega) (by omega) dX5_findCasting_42 (fun _ _ h9 => h9.elim) ?_
          rintro _ _ ⟨rfl, hf2, hO, hI2⟩
          rename_i S2
          have hLO := q3.1
          have f2B : FrC S1 S2 := FrC.of hf2 (fun f b k hb hk h => (hb.kne hLO (by omega)) h) (fun b k _ hb hk h => (hb.kne hLO (by omega)) h)
          have fx : ∀ f, pI S2 f x = pI S1 f x := fun f => ((hf2 x o1.1).2.2.2.2.1 f (fun h => (o1.kne hLO (by decide)) h)).1
          have hM2 : Masks S2 A B (castL (ctB B) ((ordB B).take 0) noA) := by
            intro q T hq hT
            have hy := (o12.2 q hq)
            rw [((hf2 _ hy.1.1).2.2.2.2.1 66 (fun h => (hy.1.kne hLO (by decide)) h)).2] at hT
            obtain ⟨T', w4, w5⟩ := hy.2.2.2
            have e : T' = T := Option.some.inj (w4.symm.trans hT)
            subst e
            intro b hb
            rw [((hf2 T' w5.1.1).2.2.2.2.2 (by rw [w5.2.2]; exact fun h => (hy.1.kne hLO (by decide)) h)).1]
            exact hM q T' hq hT b hb
          refine g_iconst C dX5_findCasting_45 (v := 0) (by decide) ?_
          refine g_istore_n C dX5_findCasting_46 rfl (by decide) rfl ?_
          refine g_sub [(0, _), (1, _)] ⟨rfl, rfl, trivial⟩ ?_
          exact g_widen 40 4000 (by omega) (by omega) (two (ordB B) hO (ordB B).length 0 S2 (by omega) hI2 hM2 (fun k a hk _ => absurd hk (Nat.not_lt_zero k)) ((fx 166).trans (hx1 166)) ((fx 167).trans (hx1 167)) (hF.tr f2B))
        · exact absurd (nI_le (Nat.le_refl _) (by omega)) d1
      | succ m ih =>
        intro i S1 hi hI1 hM hx1 hF
        have hin : i < tQ B := by omega
        obtain ⟨o1, o2, ⟨LY, c1, c2, c3⟩, o4, -, o9, o11, o12, o13, o14⟩ := id hI1
        obtain ⟨y1, y2, y3, T, y4, y5⟩ := o12.2 i hin
        refine g_iload_n C dX5_findCasting_10 rfl rfl ?_
        refine g_aload_n C dX5_findCasting_11 rfl rfl ?_
        refine ge_Book_players C tw_1_57 (by exact o1) (by exact c1) dX5_findCasting_12 ?_
        refine g_callV C gy_Jx4a65c_size_8abf5 tw_1_89 tw_1_90 tw_1_91 (by decide) (kk := 7) rfl rfl (by exact c3.1) (m_size F S1 LY _ c3) rfl rfl (Nat.le_of_ble_eq_true rfl) (by omega) (by omega) dX5_findCasting_15 (fun _ _ h9 => h9.elim) ?_
        rintro _ _ ⟨rfl, rfl⟩
        rw [rmap_len]
        refine g_icmp_ge C dX5_findCasting_18 (tgt := 41) (by decide) (fun d1 => ?_) (fun d1 => ?_)
        · exact absurd d1 (nI_ge hin (by omega))
        · refine g_aload_n C dX5_findCasting_21 rfl rfl ?_
          refine ge_Book_players C tw_1_57 (by exact o1) (by exact c1) dX5_findCasting_22 ?_
          refine g_iload_n C dX5_findCasting_25 rfl rfl ?_
          refine g_callV C gy_Jx4a65c_get_915e3 tw_1_161 tw_1_162 tw_1_163 (by decide) (kk := 7) rfl rfl (by exact c3.1) (m_get F S1 LY _ c3 i (dY A i) (rmap_get hin)) rfl rfl (Nat.le_of_ble_eq_true rfl) (by omega) (by omega) dX5_findCasting_26 (fun _ _ h9 => h9.elim) ?_
          rintro _ _ ⟨rfl, rfl⟩
          refine g_cast C (kk := 2) rfl y1 tw_1_217 dX5_findCasting_29 ?_
          refine g_callV C gy_X2_putDownAll tw_1_218 tw_1_219 tw_1_220 (by decide) (kk := 2) rfl rfl (by exact y1) (m_putDownAll F S1 (dY A i) T y1 y4 y5) rfl rfl (Nat.le_of_ble_eq_true rfl) (by omega) (by omega) dX5_findCasting_32 (fun _ _ h9 => h9.elim) ?_
          rintro _ _ ⟨rfl, row, rfl, hrow⟩
          have f2 : Fr S1 (uR S1 T row) (moQ S1) (maQ S1) := fr_uR (by show al S1 (pW S1 T) 2; rw [y5.2.2]; exact y1)
          have f2B : FrC S1 (uR S1 T row) := FrC.of f2 (fun f b k hb hk h => (hb.kne h.2 (by omega)) rfl) (fun b k _ hb hk h => (hb.kne h (by omega)) rfl)
          have nx := ih (i + 1) (uR S1 T row) (by omega) (hI1.frC f2) (fun q T' hq hT' => ?_) (fun f => hx1 f) (hF.tr f2B)
          · refine g_iinc C dX5_findCasting_35 rfl (by first | exact inc1 _ | exact rfl) (by decide) rfl ?_
            refine g_goto C dX5_findCasting_38 (tgt := 10) (by decide) ?_
            refine g_sub [(0, _), (1, _)] ⟨rfl, rfl, trivial⟩ ?_
            exact nx
          · have hT1 : pP S1 66 (dY A q) = some T' := hT'
            by_cases e : q = i
            · subst e
              have eT : T' = T := Option.some.inj (hT1.symm.trans y4)
              subst eT
              intro b hb
              rw [uR_q, msk_noA]
              exact ⟨hrow b hb, by decide⟩
            · have hTT : T' ≠ T := by
                intro eT
                obtain ⟨_, _, _, T2, w4, w5⟩ := o12.2 q (by omega)
                have e2 : T2 = T' := Option.some.inj (w4.symm.trans hT1)
                rw [e2, eT] at w5
                exact e (o12.1 q i (by omega) hin (w5.2.2.symm.trans y5.2.2))
              intro b hb
              rw [uR_ne hTT]
              exact hM q T' (by omega) hT1 b hb
    refine g_aload_n C dX5_findCasting_0 rfl rfl ?_
    refine ge_Book_castingStands C tw_1_61 (by exact hx) (by exact a8) dX5_findCasting_1 ?_
    refine g_if_eq C dX5_findCasting_4 (tgt := 8) (by decide) (fun c1 => ?_) (fun c1 => ?_)
    · refine g_iconst C dX5_findCasting_8 (v := 0) (by decide) ?_
      refine g_istore_n C dX5_findCasting_9 rfl (by decide) rfl ?_
      refine g_sub [(0, _), (1, _)] ⟨rfl, rfl, trivial⟩ ?_
      exact one (tQ B) 0 S (by omega) hIv (fun q T hq => absurd hq (Nat.not_lt_zero q)) (fun _ => rfl) FrC.rf
    · exact absurd rfl c1
  · refine g_aload_n C dX5_findCasting_0 rfl rfl ?_
    refine ge_Book_castingStands C tw_1_61 (by exact hx) (by exact a8) dX5_findCasting_1 ?_
    refine g_if_eq C dX5_findCasting_4 (tgt := 8) (by decide) (fun c1 => ?_) (fun c1 => ?_)
    · exact absurd c1 (by decide)
    · refine g_vret C R (by omega) (by omega) dX5_findCasting_7 ?_
      exact ⟨rfl, hI0, a8, FrC.rf⟩
