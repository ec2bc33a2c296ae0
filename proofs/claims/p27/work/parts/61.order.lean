/-! ===== the law's own order of a puppet's cues ===== -/
theorem i0 : (0 : Int32) = nI 0 := rfl
theorem i1 : (1 : Int32) = nI 1 := rfl
theorem i2 : (2 : Int32) = nI 2 := rfl
/-- the law's row of cues: the first m cells of six say the cues u -/
def CuR (S : PS) (a m : Nat) (u : Nat → Nat × D4) : Prop := al S a 8 ∧ pN S a = 246 ∧ ∀ c, c < m → (pR S a (6 * c) = nI (u c).2.1 ∧ pR S a (6 * c + 1) = nI (u c).1 ∧ pR S a (6 * c + 2) = nI (u c).2.2.1 ∧ pR S a (6 * c + 5) = 1) ∧ ((u c).2.1 ≤ 1 → pR S a (6 * c + 3) = nI (u c).2.2.2.1) ∧ okD (u c).2 ∧ (u c).1 < 8
theorem CuR.fr {S S' : PS} {mo ma : Nat → Nat → Prop} {a m : Nat} {u : Nat → Nat × D4} (h : CuR S a m u) (hf : Fr S S' mo ma) (hm : ¬ ma (pW S a) a) : CuR S' a m u := by
  obtain ⟨h1, h2, h3⟩ := h
  refine ⟨h1.fr hf, ((hf a h1.1).2.2.1).trans h2, fun c hc => ?_⟩
  rw [((hf a h1.1).2.2.2.2.2 hm).1]
  exact h3 c hc
theorem fr_row {S : PS} {q k n : Nat} {row : Nat → Int32} (hq : q ∉ pL S) : Fr S (uR (nA S q k n) q row) moN maN := (fr_newA (mo := moN) (ma := maN) hq).tr (fr_uR (mo := moN) (ma := fun _ b => b = q) rfl) (fun _ _ _ h => h.elim id id) (fun _ b hb h => h.elim id (fun e => absurd e (mem_ne hb hq)))
theorem isScr.stepO {u : Nat → Nat × D4} {k p : Nat} {l : List Nat} (h : isScr u (fun _ => false) k p l) (hp : (u k).1 ≠ p) : isScr u (fun _ => false) (k + 1) p l := by
  have e : va_up u k ((u k).1, (u k).2) = u := by
    funext c
    by_cases hc : c = k
    · rw [hc, va_up_self]
    · rw [va_up_ne _ _ hc]
  have := (h.addO (d := (u k).2) (fun q => hp q.symm)).1
  rw [e] at this
  exact this
theorem isScr.step1 {u : Nat → Nat × D4} {k p j : Nat} {l : List Nat} (h : isScr u (fun _ => false) k p l) (hk : k < 64) (hp : (u k).1 = p) (hj : ipos (dat u l) (u k).2.2.1 = j) : isScr u (fun _ => false) (k + 1) p (insA l j k) := by
  have e : va_up u k ((u k).1, (u k).2) = u := by
    funext c
    by_cases hc : c = k
    · rw [hc, va_up_self]
    · rw [va_up_ne _ _ hc]
  have := (h.add (d := (u k).2) (by omega) rfl).1
  rw [← hp, e, hp, hj] at this
  exact this
theorem l_order {Γ : GBase} (F : FB Γ) (S : PS) (p many cA : Nat) (u : Nat → Nat × D4) (hC : CuR S cA many u) (h40 : many ≤ 40) (hp8 : p < 8) : GMet Γ yL_order cL_order 6 ((some (FieldType.array FieldType.int))) 1 1 41 [.int (nI p), .int (nI many), .ref cA] S (fun r S' => ∃ q l, r = some (.ref q) ∧ Fr S S' moN maN ∧ al S' q 8 ∧ pN S' q = 41 ∧ isScr u (fun _ => false) many p l ∧ pR S' q 0 = nI l.length ∧ ∀ i c, l[i]? = some c → pR S' q (i + 1) = nI c) noX := by
  refine GMet.of (loc0 := [(0, .int (nI p)), (1, .int (nI many)), (2, .ref cA)]) F (by decide +kernel) rfl (Nat.le_of_ble_eq_true rfl) (fun X C R Tb nm => ?_)
  refine g_bipush C dL_order_0 (v := 41) (by decide) ?_
  rw [show (41 : Int32) = nI 41 from rfl]
  refine g_naI C rfl (by omega) (by omega) (by omega) dL_order_2 (fun q hq => ?_)
  refine g_astore_n C dL_order_4 rfl (by decide) rfl ?_
  have hal : ∀ row, al (uR (nA S q 8 41) q row) q 8 := fun _ => al_nA (S := S) (m := 41)
  have hN : ∀ row, pN (uR (nA S q 8 41) q row) q = 41 := fun _ => nA_Nq (S := S) (q := q) (k := 8) (m := 41)
  have hC1 : ∀ row, CuR (uR (nA S q 8 41) q row) cA many u := fun row => hC.fr (fr_row hq) id
  have outer : ∀ (m' k : Nat) (row : Nat → Int32) (l : List Nat), k + m' = many → isScr u (fun _ => false) k p l → row 0 = nI l.length → (∀ i c, l[i]? = some c → row (i + 1) = nI c) → GW Γ X (uR (nA S q 8 41) q row) 1 41 8 [(0, .int (nI p)), (1, .int (nI many)), (2, .ref cA), (3, .ref q), (4, .int (nI k))] [] := by
    intro m'
    induction m' with
    | zero =>
      intro k row l hk hl h0 hr
      refine g_iload C dL_order_8 rfl ?_
      refine g_iload_n C dL_order_10 rfl rfl ?_
      refine g_icmp_ge C dL_order_11 (tgt := 112) (by decide) (fun c1 => ?_) (fun c1 => ?_)
      · refine g_aload_n C dL_order_112 rfl rfl ?_
        refine g_aret C R (Or.inr ⟨_, rfl⟩) (by omega) (by omega) dL_order_113 ?_
        refine ⟨q, l, rfl, fr_row hq, hal row, hN row, ?_, ?_, fun i c hc => ?_⟩
        · rw [show many = k by omega]; exact hl
        · rw [uR_q]; exact h0
        · rw [uR_q]; exact hr i c hc
      · exact absurd (nI_le (by omega) (by omega)) c1
    | succ m' ih =>
      intro k row l hk hl h0 hr
      have hkm : k < many := by omega
      obtain ⟨-, hcN, hcu⟩ := hC1 row
      obtain ⟨⟨v0, v1, v2, v5⟩, -, hok, hu8⟩ := hcu k hkm
      have hlen := hl.len
      have hlc : ∀ i c, l[i]? = some c → c < k := fun i c h => ((hl.2 c).mp (List.mem_of_getElem? h)).1
      have next : ∀ (row : Nat → Int32) (l : List Nat), isScr u (fun _ => false) (k + 1) p l → row 0 = nI l.length → (∀ i c, l[i]? = some c → row (i + 1) = nI c) → GW Γ X (uR (nA S q 8 41) q row) 1 41 106 [(0, .int (nI p)), (1, .int (nI many)), (2, .ref cA), (3, .ref q), (4, .int (nI k))] [] := by
        intro row l a1 a2 a3
        refine g_iinc C dL_order_106 rfl (by first | exact inc1 _ | exact rfl) (by decide) rfl ?_
        refine g_goto C dL_order_109 (tgt := 8) (by decide) ?_
        refine g_sub [(0, _), (1, _), (2, _), (3, _), (4, _)] ⟨rfl, rfl, rfl, rfl, rfl, trivial⟩ ?_
        exact ih (k + 1) row l (by omega) a1 a2 a3
      refine g_iload C dL_order_8 rfl ?_
      refine g_iload_n C dL_order_10 rfl rfl ?_
      refine g_icmp_ge C dL_order_11 (tgt := 112) (by decide) (fun c1 => ?_) (fun c1 => ?_)
      · exact absurd c1 (nI_ge hkm (by omega))
      · refine g_aload_n C dL_order_14 rfl rfl ?_
        refine g_bipush C dL_order_15 (v := 6) (by decide) ?_
        refine g_iload C dL_order_17 rfl ?_
        refine g_imul C dL_order_19 ?_
        refine g_iconst C dL_order_20 (v := 1) (by decide) ?_
        refine g_iadd C dL_order_21 ?_
        refine g_ldI C (ix6_1 k) (hC1 row).1 (by rw [hcN]; omega) (by omega) v1 dL_order_22 ?_
        refine g_iload_n C dL_order_23 rfl rfl ?_
        refine g_icmp_ne C dL_order_24 (tgt := 106) (by decide) (fun c2 => ?_) (fun c2 => ?_)
        · refine g_sub [(0, _), (1, _), (2, _), (3, _), (4, _)] ⟨rfl, rfl, rfl, rfl, rfl, trivial⟩ ?_
          exact next row l (hl.stepO (fun e => c2 (by rw [e]))) h0 hr
        · have hpe : (u k).1 = p := nI_inj (by omega) (by omega) c2
          refine g_aload_n C dL_order_27 rfl rfl ?_
          refine g_bipush C dL_order_28 (v := 6) (by decide) ?_
          refine g_iload C dL_order_30 rfl ?_
          refine g_imul C dL_order_32 ?_
          refine g_iconst C dL_order_33 (v := 5) (by decide) ?_
          refine g_iadd C dL_order_34 ?_
          refine g_ldI C (ix6_5 k) (hC1 row).1 (by rw [hcN]; omega) (by omega) v5 dL_order_35 ?_
          refine g_if_ne C dL_order_36 (tgt := 42) (by decide) (fun c3 => ?_) (fun c3 => ?_)
          · have hkb := hok.2.1
            have body : ∀ (j : Nat) (row : Nat → Int32), j ≤ l.length → row 0 = nI l.length → (∀ i c, i < j → l[i]? = some c → row (i + 1) = nI c) → (∀ i c, j ≤ i → l[i]? = some c → row (i + 2) = nI c) → (∀ x, x ∈ (dat u l).take j → x.2.1 ≤ (u k).2.2.1) → (∀ x, x ∈ (dat u l).drop j → (u k).2.2.1 < x.2.1) → GW Γ X (uR (nA S q 8 41) q row) 1 41 91 [(0, .int (nI p)), (1, .int (nI many)), (2, .ref cA), (3, .ref q), (4, .int (nI k)), (5, .int (nI j))] [] := by
              intro j row hj b0 b1 b2 g1 g2
              have hdl : (dat u l).length = l.length := by simp [dat]
              have hip : ipos (dat u l) (u k).2.2.1 = j := ipos_eq (by omega) g1 g2
              refine g_aload_n C dL_order_91 rfl rfl ?_
              refine g_iload C dL_order_92 rfl ?_
              refine g_iconst C dL_order_94 (v := 1) (by decide) ?_
              refine g_iadd C dL_order_95 ?_
              refine g_iload C dL_order_96 rfl ?_
              refine g_stI C (ix_1 j) (hal row) (by rw [hN row]; omega) (by omega) dL_order_98 ?_
              refine g_aload_n C dL_order_99 rfl rfl ?_
              refine g_iconst C dL_order_100 (v := 0) (by decide) ?_
              refine g_dup2 C dL_order_101 rfl rfl ?_
              rw [uR_uR, uR_q]
              refine g_ldI C i0 (hal _) (by rw [hN]; decide) (by decide) ((congrFun uR_q _).trans ((va_up_ne _ _ (by omega)).trans b0)) dL_order_102 ?_
              refine g_iconst C dL_order_103 (v := 1) (by decide) ?_
              refine g_iadd C dL_order_104 ?_
              refine g_stI C i0 (hal _) (by rw [hN]; decide) (by decide) dL_order_105 ?_
              rw [uR_uR, uR_q]
              refine g_sub [(0, _), (1, _), (2, _), (3, _), (4, _)] ⟨rfl, rfl, rfl, rfl, rfl, trivial⟩ ?_
              refine next _ (insA l j k) (hl.step1 (by omega) hpe hip) ?_ (fun i c hc => ?_)
              · rw [va_up_self, insA_len hj]; exact ix_1 _
              · rw [va_up_ne _ _ (by omega)]
                rw [insA_get hj] at hc
                by_cases e1 : i < j
                · rw [if_pos e1] at hc
                  rw [va_up_ne _ _ (by omega)]
                  exact b1 i c e1 hc
                · rw [if_neg e1] at hc
                  by_cases e2 : i = j
                  · rw [if_pos e2] at hc
                    cases hc
                    rw [e2, va_up_self]
                  · rw [if_neg e2] at hc
                    rw [va_up_ne _ _ (by omega)]
                    have := b2 (i - 1) c (by omega) hc
                    rw [show i - 1 + 2 = i + 1 by omega] at this
                    exact this
            have inner : ∀ (j : Nat) (row : Nat → Int32), j ≤ l.length → row 0 = nI l.length → (∀ i c, i < j → l[i]? = some c → row (i + 1) = nI c) → (∀ i c, j ≤ i → l[i]? = some c → row (i + 2) = nI c) → (∀ x, x ∈ (dat u l).drop j → (u k).2.2.1 < x.2.1) → GW Γ X (uR (nA S q 8 41) q row) 1 41 47 [(0, .int (nI p)), (1, .int (nI many)), (2, .ref cA), (3, .ref q), (4, .int (nI k)), (5, .int (nI j))] [] := by
              intro j
              induction j with
              | zero =>
                intro row hj b0 b1 b2 g2
                refine g_iload C dL_order_47 rfl ?_
                refine g_if_le C dL_order_49 (tgt := 91) (by decide) (fun c4 => ?_) (fun c4 => ?_)
                · refine g_sub [(0, _), (1, _), (2, _), (3, _), (4, _), (5, _)] ⟨rfl, rfl, rfl, rfl, rfl, rfl, trivial⟩ ?_
                  exact body 0 row hj b0 b1 b2 (fun x hx => by simp at hx) g2
                · exact absurd (by decide) c4
              | succ j ihj =>
                intro row hj b0 b1 b2 g2
                obtain ⟨c, hc⟩ : ∃ c, l[j]? = some c := ⟨_, List.getElem?_eq_getElem (by omega)⟩
                have hd : (dat u l)[j]? = some (u c).2 := by unfold dat; rw [List.getElem?_map, hc]; rfl
                have hck := hlc j c hc
                obtain ⟨-, hcN, hcu⟩ := hC1 row
                obtain ⟨⟨-, -, w2, -⟩, -, hokc, -⟩ := hcu c (by omega)
                obtain ⟨⟨-, -, v2', -⟩, -, -, -⟩ := hcu k hkm
                have hcb := hokc.2.1
                have hsp := srt_split (hl.srtD (by omega)) hd
                refine g_iload C dL_order_47 rfl ?_
                refine g_if_le C dL_order_49 (tgt := 91) (by decide) (fun c4 => ?_) (fun c4 => ?_)
                · exact absurd c4 (nI_nle (by omega) (by omega))
                · refine g_aload_n C dL_order_52 rfl rfl ?_
                  refine g_bipush C dL_order_53 (v := 6) (by decide) ?_
                  refine g_aload_n C dL_order_55 rfl rfl ?_
                  refine g_iload C dL_order_56 rfl ?_
                  refine g_ldI C rfl (hal row) (by rw [hN row]; omega) (by omega) ((congrFun uR_q _).trans (b1 j c (by omega) hc)) dL_order_58 ?_
                  refine g_imul C dL_order_59 ?_
                  refine g_iconst C dL_order_60 (v := 2) (by decide) ?_
                  refine g_iadd C dL_order_61 ?_
                  refine g_ldI C (ix6_2 c) (hC1 row).1 (by rw [hcN]; omega) (by omega) w2 dL_order_62 ?_
                  refine g_aload_n C dL_order_63 rfl rfl ?_
                  refine g_bipush C dL_order_64 (v := 6) (by decide) ?_
                  refine g_iload C dL_order_66 rfl ?_
                  refine g_imul C dL_order_68 ?_
                  refine g_iconst C dL_order_69 (v := 2) (by decide) ?_
                  refine g_iadd C dL_order_70 ?_
                  refine g_ldI C (ix6_2 k) (hC1 row).1 (by rw [hcN]; omega) (by omega) v2' dL_order_71 ?_
                  refine g_icmp_le C dL_order_72 (tgt := 91) (by decide) (fun c5 => ?_) (fun c5 => ?_)
                  · have h3 : (u c).2.2.1 ≤ (u k).2.2.1 := (nI_leI (by omega) (by omega)).mp c5
                    refine g_sub [(0, _), (1, _), (2, _), (3, _), (4, _), (5, _)] ⟨rfl, rfl, rfl, rfl, rfl, rfl, trivial⟩ ?_
                    refine body (j + 1) row hj b0 b1 b2 (fun x hx => ?_) g2
                    rw [take_succ_get hd] at hx
                    rcases List.mem_append.mp hx with h | h
                    · have := hsp.1 x h; omega
                    · rw [List.mem_singleton] at h; rw [h]; exact h3
                  · have h3 : (u k).2.2.1 < (u c).2.2.1 := by
                      rcases Nat.lt_or_ge (u k).2.2.1 (u c).2.2.1 with w | w
                      · exact w
                      · exact absurd (nI_le w (by omega)) c5
                    refine g_aload_n C dL_order_75 rfl rfl ?_
                    refine g_iload C dL_order_76 rfl ?_
                    refine g_iconst C dL_order_78 (v := 1) (by decide) ?_
                    refine g_iadd C dL_order_79 ?_
                    refine g_aload_n C dL_order_80 rfl rfl ?_
                    refine g_iload C dL_order_81 rfl ?_
                    refine g_ldI C rfl (hal row) (by rw [hN row]; omega) (by omega) ((congrFun uR_q _).trans (b1 j c (by omega) hc)) dL_order_83 ?_
                    refine g_stI C (ix_1 _) (hal row) (by rw [hN row]; omega) (by omega) dL_order_84 ?_
                    rw [uR_uR, uR_q]
                    refine g_iinc C dL_order_85 rfl (by first | exact decr1 _ | exact rfl) (by decide) rfl ?_
                    refine g_goto C dL_order_88 (tgt := 47) (by decide) ?_
                    refine g_sub [(0, _), (1, _), (2, _), (3, _), (4, _), (5, _)] ⟨rfl, rfl, rfl, rfl, rfl, rfl, trivial⟩ ?_
                    refine ihj _ (by omega) ?_ (fun i c' hi hc' => ?_) (fun i c' hi hc' => ?_) (fun x hx => ?_)
                    · rw [va_up_ne _ _ (by omega)]; exact b0
                    · rw [va_up_ne _ _ (by omega)]; exact b1 i c' (by omega) hc'
                    · by_cases e : i = j
                      · subst e
                        rw [hc] at hc'
                        cases hc'
                        exact va_up_self _ _ _
                      · rw [va_up_ne _ _ (by omega)]; exact b2 i c' (by omega) hc'
                    · rw [List.drop_eq_getElem_cons (by simp [dat]; omega)] at hx
                      rcases List.mem_cons.mp hx with h | h
                      · have e := (List.getElem?_eq_some_iff.mp hd).2
                        rw [h, e]; exact h3
                      · exact g2 x h
            refine g_aload_n C dL_order_42 rfl rfl ?_
            refine g_iconst C dL_order_43 (v := 0) (by decide) ?_
            refine g_ldI C i0 (hal row) (by rw [hN row]; decide) (by decide) ((congrFun uR_q _).trans h0) dL_order_44 ?_
            refine g_istore C dL_order_45 (by decide) rfl ?_
            refine g_sub [(0, _), (1, _), (2, _), (3, _), (4, _), (5, _)] ⟨rfl, rfl, rfl, rfl, rfl, rfl, trivial⟩ ?_
            exact inner l.length row (Nat.le_refl _) h0 (fun i c _ hc => hr i c hc) (fun i c hi hc => absurd (List.getElem?_eq_some_iff.mp hc).1 (by omega)) (fun x hx => by rw [List.drop_eq_nil_of_le (by simp [dat])] at hx; cases hx)
          · exact absurd c3 (by decide)
  refine g_iconst C dL_order_5 (v := 0) (by decide) ?_
  refine g_istore C dL_order_6 (by decide) rfl ?_
  refine g_sub [(0, _), (1, _), (2, _), (3, _), (4, _)] ⟨rfl, rfl, rfl, rfl, rfl, trivial⟩ ?_
  have K := outer many 0 (pR (nA S q 8 41) q) [] (by omega) ⟨List.Pairwise.nil, fun c => ⟨fun h => (by cases h), fun h => absurd h.1 (Nat.not_lt_zero c)⟩⟩ (congrFun (va_up_self (pR S) q (fun _ => 0)) 0) (fun i c h => by simp at h)
  rw [uR_self] at K
  exact K
