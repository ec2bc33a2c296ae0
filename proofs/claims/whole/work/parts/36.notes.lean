theorem nan_no {b : Nat} {s : Int} (h0 : 0 < b) (h : b ≤ 20) (h1 : -(50 * (b : Int)) ≤ s) (h2 : s ≤ 50 * (b : Int)) : vf_n64 (FP.ddiv (FP.i2d (Int32.ofInt s)) (FP.i2d (nI b))) ∧ FP.dcmp (FP.ddiv (FP.i2d (Int32.ofInt s)) (FP.i2d (nI b))) (FP.ddiv (FP.i2d (Int32.ofInt s)) (FP.i2d (nI b))) = some Ordering.eq := by
  have hh := nan_all (b := b) (a := (s + 50 * (b : Int)).toNat) h0 h (by omega)
  unfold nanOk at hh
  have e : (((s + 50 * (b : Int)).toNat : Nat) : Int) - ((50 * b : Nat) : Int) = s := by omega
  rw [e] at hh
  rw [Bool.and_eq_true] at hh
  exact ⟨by unfold vf_n64; exact of_decide_eq_true hh.1, of_decide_eq_true hh.2⟩
/-- the cue that is noted worst, of the first n -/
def wst (B : BT) : Nat → Option Nat
  | 0 => none
  | n + 1 => if tK B n = false ∧ 0 < tE B n ∧ (∀ b, wst B n = some b → tF B b < tF B n) then some n else wst B n
theorem wst_lt (B : BT) : ∀ n b, wst B n = some b → b < n := by
  intro n
  induction n with
  | zero => intro b h; cases h
  | succ n ih =>
    intro b h
    simp only [wst] at h
    split at h
    · cases h; omega
    · have := ih b h; omega
def mst (B : BT) (n : Nat) : Int32 := match wst B n with | none => -1 | some b => nI (tF B b)
theorem nI_gt_m1 {v : Nat} (h : v < 2147483648) : ¬ nI v ≤ -1 := by
  intro e
  rw [Int32.le_iff_toInt_le, nI_toInt (by omega)] at e
  have e2 : (-1 : Int32).toInt = -1 := by decide
  rw [e2] at e
  omega
theorem wst_no {B : BT} {i : Nat} (h : tK B i = true ∨ tE B i = 0 ∨ ∃ b, wst B i = some b ∧ tF B i ≤ tF B b) : wst B (i + 1) = wst B i := by
  simp only [wst]
  rw [if_neg]
  rintro ⟨h1, h2, h3⟩
  rcases h with h | h | ⟨b, h, h4⟩
  · rw [h] at h1; cases h1
  · omega
  · have := h3 b h; omega
theorem wst_yes {B : BT} {i : Nat} (h1 : tK B i = false) (h2 : 0 < tE B i) (h3 : ∀ b, wst B i = some b → tF B b < tF B i) : wst B (i + 1) = some i := by
  simp only [wst]
  rw [if_pos ⟨h1, h2, h3⟩]
theorem m_worst {Γ : GBase} (F : FB Γ) (S : PS) (x : Nat) (A : AD) (B : BT) (hI : BkI Γ S x A B) : GMet Γ yX5_worst cX5_worst 5 ((some FieldType.int)) 3 0 0 [.ref x] S (fun r S' => S = S' ∧ r = some (.int (zO (wst B (tC B))))) noX := by
  obtain ⟨hx, -, -, ⟨L, hL1, -, hL3⟩, -, -, -, -, -, hC, hV⟩ := hI
  have hn := hV.2.2.1
  have hsm := hV.2.2.2.2.2.2.2.1
  refine GMet.of (loc0 := [(0, .ref x)]) F (by decide +kernel) rfl (Nat.le_of_ble_eq_true rfl) (fun X C R Tb nm => ?_)
  have loop : ∀ (m i : Nat), i + m = tC B → GW Γ X S 0 0 6 [(0, .ref x), (1, .int (zO (wst B i))), (2, .int (mst B i)), (3, .int (nI i))] [] := by
    intro m
    induction m with
    | zero =>
      intro i hi
      refine g_iload_n C dX5_worst_6 rfl rfl ?_
      refine g_aload_n C dX5_worst_7 rfl rfl ?_
      refine ge_Book_cues C tw_1_66 (by exact hx) (by exact hL1) dX5_worst_8 ?_
      refine g_callV C gy_Jx4a65c_size_8abf5 tw_1_97 tw_1_98 tw_1_99 (by decide) (kk := 7) rfl rfl (by exact hL3.1) (m_size F S L _ hL3) rfl rfl (Nat.le_of_ble_eq_true rfl) (by omega) (by omega) dX5_worst_11 (fun _ _ h9 => h9.elim) ?_
      rintro _ _ ⟨rfl, rfl⟩
      rw [rmap_len]
      refine g_icmp_ge C dX5_worst_14 (tgt := 69) (by decide) (fun c1 => ?_) (fun c1 => ?_)
      · refine g_iload_n C dX5_worst_69 rfl rfl ?_
        rw [show i = tC B by omega]
        refine g_iret C R rfl (by omega) (by omega) dX5_worst_70 ?_
        exact ⟨rfl, rfl⟩
      · exact absurd (nI_le (by omega) (by omega)) c1
    | succ m ih =>
      intro i hi
      have hin : i < tC B := by omega
      have hc := hC.2 i hin
      have hs := hsm i hin
      have next : wst B (i + 1) = wst B i → GW Γ X S 0 0 63 [(0, .ref x), (1, .int (zO (wst B i))), (2, .int (mst B i)), (3, .int (nI i))] [] := by
        intro e
        have e2 : mst B (i + 1) = mst B i := by unfold mst; rw [e]
        refine g_iinc C dX5_worst_63 rfl (by first | exact inc1 _ | exact rfl) (by decide) rfl ?_
        refine g_goto C dX5_worst_66 (tgt := 6) (by decide) ?_
        rw [← e2, ← e]
        refine g_sub [(0, _), (1, _), (2, _), (3, _)] ⟨rfl, rfl, rfl, rfl, trivial⟩ ?_
        exact ih (i + 1) (by omega)
      refine g_iload_n C dX5_worst_6 rfl rfl ?_
      refine g_aload_n C dX5_worst_7 rfl rfl ?_
      refine ge_Book_cues C tw_1_66 (by exact hx) (by exact hL1) dX5_worst_8 ?_
      refine g_callV C gy_Jx4a65c_size_8abf5 tw_1_97 tw_1_98 tw_1_99 (by decide) (kk := 7) rfl rfl (by exact hL3.1) (m_size F S L _ hL3) rfl rfl (Nat.le_of_ble_eq_true rfl) (by omega) (by omega) dX5_worst_11 (fun _ _ h9 => h9.elim) ?_
      rintro _ _ ⟨rfl, rfl⟩
      rw [rmap_len]
      refine g_icmp_ge C dX5_worst_14 (tgt := 69) (by decide) (fun c1 => ?_) (fun c1 => ?_)
      · exact absurd c1 (nI_ge hin (by omega))
      · refine g_aload_n C dX5_worst_17 rfl rfl ?_
        refine ge_Book_cues C tw_1_66 (by exact hx) (by exact hL1) dX5_worst_18 ?_
        refine g_iload_n C dX5_worst_21 rfl rfl ?_
        refine g_callV C gy_Jx4a65c_get_915e3 tw_1_101 tw_1_102 tw_1_103 (by decide) (kk := 7) rfl rfl (by exact hL3.1) (m_get F S L _ hL3 i (dC A i) (rmap_get hin)) rfl rfl (Nat.le_of_ble_eq_true rfl) (by omega) (by omega) dX5_worst_22 (fun _ _ h9 => h9.elim) ?_
        rintro _ _ ⟨rfl, rfl⟩
        refine g_cast C (kk := 0) rfl hc.1.1 tw_3_88 dX5_worst_25 ?_
        refine g_astore C dX5_worst_28 (by decide) rfl ?_
        refine g_aload C dX5_worst_30 rfl ?_
        refine ge_Cue_isStruck C tw_4_33 (by exact hc.1.1) (by exact hc.2.2.1) dX5_worst_32 ?_
        cases hk : tK B i with
        | true =>
          refine g_if_ne C dX5_worst_35 (tgt := 63) (by decide) (fun c2 => ?_) (fun c2 => ?_)
          · refine g_sub [(0, _), (1, _), (2, _), (3, _)] ⟨rfl, rfl, rfl, rfl, trivial⟩ ?_
            exact next (wst_no (Or.inl hk))
          · exact absurd c2 (by decide)
        | false =>
          refine g_if_ne C dX5_worst_35 (tgt := 63) (by decide) (fun c2 => ?_) (fun c2 => ?_)
          · exact absurd rfl c2
          · refine g_aload C dX5_worst_38 rfl ?_
            refine ge_Cue_notes C tw_4_35 (by exact hc.1.1) (by exact hc.2.2.2.1) dX5_worst_40 ?_
            refine g_if_le C dX5_worst_43 (tgt := 63) (by decide) (fun c3 => ?_) (fun c3 => ?_)
            · refine g_sub [(0, _), (1, _), (2, _), (3, _)] ⟨rfl, rfl, rfl, rfl, trivial⟩ ?_
              refine next (wst_no (Or.inr (Or.inl ?_)))
              rcases Nat.eq_zero_or_pos (tE B i) with q | q
              · exact q
              · exact absurd c3 (nI_nle q (by omega))
            · have hp : 0 < tE B i := by
                rcases Nat.eq_zero_or_pos (tE B i) with q | q
                · rw [q] at c3; exact absurd (by decide) c3
                · exact q
              refine g_aload C dX5_worst_46 rfl ?_
              refine ge_Cue_sumOff C tw_4_39 (by exact hc.1.1) (by exact hc.2.2.2.2.2.1) dX5_worst_48 ?_
              refine g_iload_n C dX5_worst_51 rfl rfl ?_
              have hm : nI (tF B i) ≤ mst B i ↔ ∃ b, wst B i = some b ∧ tF B i ≤ tF B b := by
                unfold mst
                cases hw : wst B i with
                | none => exact ⟨fun h => absurd h (nI_gt_m1 (by omega)), fun ⟨b, h, _⟩ => by cases h⟩
                | some b =>
                  have hb := hsm b (by have := wst_lt B i b hw; omega)
                  simp only
                  rw [nI_leI (by omega) (by omega)]
                  exact ⟨fun h => ⟨b, rfl, h⟩, fun ⟨b', h1, h2⟩ => by cases h1; exact h2⟩
              refine g_icmp_le C dX5_worst_52 (tgt := 63) (by decide) (fun c4 => ?_) (fun c4 => ?_)
              · refine g_sub [(0, _), (1, _), (2, _), (3, _)] ⟨rfl, rfl, rfl, rfl, trivial⟩ ?_
                exact next (wst_no (Or.inr (Or.inr (hm.mp c4))))
              · have e : wst B (i + 1) = some i := wst_yes hk hp (fun b hb => by
                  rcases Nat.lt_or_ge (tF B b) (tF B i) with q | q
                  · exact q
                  · exact absurd (hm.mpr ⟨b, hb, q⟩) c4)
                have e2 : mst B (i + 1) = nI (tF B i) := by unfold mst; rw [e]
                have e3 : zO (wst B (i + 1)) = nI i := by rw [e]; rfl
                refine g_iload_n C dX5_worst_55 rfl rfl ?_
                refine g_istore_n C dX5_worst_56 rfl (by decide) rfl ?_
                refine g_aload C dX5_worst_57 rfl ?_
                refine ge_Cue_sumOff C tw_4_39 (by exact hc.1.1) (by exact hc.2.2.2.2.2.1) dX5_worst_59 ?_
                refine g_istore_n C dX5_worst_62 rfl (by decide) rfl ?_
                refine g_iinc C dX5_worst_63 rfl (by first | exact inc1 _ | exact rfl) (by decide) rfl ?_
                refine g_goto C dX5_worst_66 (tgt := 6) (by decide) ?_
                rw [← e2]
                have nx := ih (i + 1) (by omega)
                rw [e3] at nx
                refine g_sub [(0, _), (1, _), (2, _), (3, _)] ⟨rfl, rfl, rfl, rfl, trivial⟩ ?_
                exact nx
  refine g_iconst C dX5_worst_0 (v := -1) (by decide) ?_
  refine g_istore_n C dX5_worst_1 rfl (by decide) rfl ?_
  refine g_iconst C dX5_worst_2 (v := -1) (by decide) ?_
  refine g_istore_n C dX5_worst_3 rfl (by decide) rfl ?_
  refine g_iconst C dX5_worst_4 (v := 0) (by decide) ?_
  refine g_istore_n C dX5_worst_5 rfl (by decide) rfl ?_
  refine g_sub [(0, _), (1, _), (2, _), (3, _)] ⟨rfl, rfl, rfl, rfl, trivial⟩ ?_
  exact loop (tC B) 0 (by omega)
def meanB (B : BT) (c : Nat) : UInt64 := if tE B c = 0 then 0 else FP.ddiv (FP.i2d (Int32.ofInt (tL B c))) (FP.i2d (nI (tE B c)))
theorem m_mean {Γ : GBase} (F : FB Γ) (S : PS) (x : Nat) (y : Int32) (A : AD) (B : BT) (hI : BkI Γ S x A B) : GMet Γ yX5_mean cX5_mean 3 ((some FieldType.double)) 4 1 6 [.ref x, .int y] S (fun r S' => S = S' ∧ ∃ c, isC B y c ∧ r = some (.double (meanB B c))) (fun E S' => S = S' ∧ E = xIOB ∧ noC B y) := by
  obtain ⟨hx, -, -, hL, -, -, -, -, -, hC, hV⟩ := hI
  refine GMet.of (loc0 := [(0, .ref x), (1, .int y)]) F (by decide +kernel) rfl (Nat.le_of_ble_eq_true rfl) (fun X C R Tb nm => ?_)
  refine g_aload_n C dX5_mean_0 rfl rfl ?_
  refine g_iload_n C dX5_mean_1 rfl rfl ?_
  refine g_callV C gy_X5_cueNumbered tw_4_211 tw_4_213 ts_24 (by decide) (kk := 5) rfl rfl (by exact hx) (m_cueNumbered F S x y A B _ hx hL hC) rfl rfl (Nat.le_of_ble_eq_true rfl) (by omega) (by omega) dX5_mean_2 (fun _ _ h9 => g_out C R Tb (by omega) (by omega) ⟨h9.2.1, h9.1, h9.2.2⟩) ?_
  rintro _ _ ⟨rfl, c, hc, rfl⟩
  refine g_astore_n C dX5_mean_5 rfl (by decide) rfl ?_
  have hca := hC.2 c hc.1
  have hs := hV.2.2.2.2.2.2.2.1 c hc.1
  refine g_aload_n C dX5_mean_6 rfl rfl ?_
  refine ge_Cue_notes C tw_4_35 (by exact hca.1.1) (by exact hca.2.2.2.1) dX5_mean_7 ?_
  have hmz : tE B c = 0 ∨ 0 < tE B c := by omega
  rcases hmz with h0 | h0
  · refine g_if_ne C dX5_mean_10 (tgt := 15) (by decide) (fun c1 => ?_) (fun c1 => ?_)
    · exact absurd (by rw [h0]; rfl) c1
    · refine g_dconst0 C dX5_mean_13 ?_
      refine g_dret C R (by omega) (by omega) dX5_mean_14 ?_
      exact ⟨rfl, c, hc, by unfold meanB; rw [if_pos h0]⟩
  · have hno := nan_no h0 hs.1 hs.2.1 hs.2.2.1
    refine g_if_ne C dX5_mean_10 (tgt := 15) (by decide) (fun c1 => ?_) (fun c1 => ?_)
    · refine g_aload_n C dX5_mean_15 rfl rfl ?_
      refine ge_Cue_sumLate C tw_4_37 (by exact hca.1.1) (by exact hca.2.2.2.2.1) dX5_mean_16 ?_
      refine g_i2d C dX5_mean_19 ?_
      refine g_aload_n C dX5_mean_20 rfl rfl ?_
      refine ge_Cue_notes C tw_4_35 (by exact hca.1.1) (by exact hca.2.2.2.1) dX5_mean_21 ?_
      refine g_i2d C dX5_mean_24 ?_
      refine g_ddiv C dX5_mean_25 hno.1 ?_
      refine g_dret C R (by omega) (by omega) dX5_mean_26 ?_
      exact ⟨rfl, c, hc, by unfold meanB; rw [if_neg (by omega)]⟩
    · exact absurd c1 (by intro e; have := nI_inj (b := 0) (by omega) (by omega) e; omega)
