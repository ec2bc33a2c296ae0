theorem sumS_take {ss : List (Nat × Nat)} {i : Nat} {s : Nat × Nat} (h : ss[i]? = some s) : sumS (ss.take (i + 1)) = sumS (ss.take i) + (s.2 - s.1) := by
  rw [take_succ_get h]
  simp [sumS]
theorem sumS_le {ss : List (Nat × Nat)} (h : chain 0 ss) : sumS ss ≤ 1000 := by
  rw [sumS_cnt ss 0 h]
  exact cntN_le _ _
theorem m_beats {Γ : GBase} (F : FB Γ) (S : PS) (x : Nat) (y : Int32) (A : AD) (B : BT) (hI : BkI Γ S x A B) : GMet Γ yX5_beats cX5_beats 6 ((some FieldType.int)) 6 1 6 [.ref x, .int y] S (fun r S' => S = S' ∧ ∃ i, i < tN B ∧ y = nI i ∧ r = some (.int (nI (sumS (stL (dsB B i)))))) (fun E S' => S = S' ∧ E = xIOB ∧ ¬ inR y (tN B)) := by
  obtain ⟨hx, hL, -, -, -, -, -, hP, -, -, hV⟩ := hI
  refine GMet.of (loc0 := [(0, .ref x), (1, .int y)]) F (by decide +kernel) rfl (Nat.le_of_ble_eq_true rfl) (fun X C R Tb nm => ?_)
  refine g_aload_n C dX5_beats_0 rfl rfl ?_
  refine g_iload_n C dX5_beats_1 rfl rfl ?_
  refine g_callV C gy_X5_puppetNumbered tw_1_85 tw_1_87 ts_0 (by decide) (kk := 5) rfl rfl (by exact hx) (m_puppetNumbered F S x y _ _ _ hx hL hP.al) rfl rfl (Nat.le_of_ble_eq_true rfl) (by omega) (by omega) dX5_beats_2 (fun _ _ h9 => g_out C R Tb (by omega) (by omega) ⟨h9.2.1, h9.1, h9.2.2⟩) ?_
  rintro _ _ ⟨rfl, i, hi, hyi, rfl⟩
  obtain ⟨LS, LT, TA, TB, p1, -, -, -, -, hT, hS, -⟩ := hP.2 i hi
  have hc := (hV.good hi).chain
  have hlt : (dT A i).length ≤ 100 := hT.len
  have loop : ∀ (m k : Nat), k + m = (dT A i).length → GW Γ X S 1 6 14 [(0, .ref x), (1, .int y), (2, .ref LT), (3, .int (nI (sumS ((stL (dsB B i)).take k)))), (4, .int (nI k))] [] := by
    intro m
    induction m with
    | zero =>
      intro k hk
      refine g_iload C dX5_beats_14 rfl ?_
      refine g_aload_n C dX5_beats_16 rfl rfl ?_
      refine g_callV C gy_Jx4a65c_size_8abf5 tw_1_89 tw_1_90 tw_1_91 (by decide) (kk := 7) rfl rfl (by exact hT.1) (m_size F S LT _ hT) rfl rfl (Nat.le_of_ble_eq_true rfl) (by omega) (by omega) dX5_beats_17 (fun _ _ h9 => h9.elim) ?_
      rintro _ _ ⟨rfl, rfl⟩
      refine g_icmp_ge C dX5_beats_20 (tgt := 54) (by decide) (fun c1 => ?_) (fun c1 => ?_)
      · refine g_iload_n C dX5_beats_54 rfl rfl ?_
        rw [List.take_of_length_le (by rw [← hS.1]; omega)]
        refine g_iret C R rfl (by omega) (by omega) dX5_beats_55 ?_
        exact ⟨rfl, i, hi, hyi, rfl⟩
      · exact absurd (nI_le (by omega) (by omega)) c1
    | succ m ih =>
      intro k hk
      have hkt : k < (dT A i).length := by omega
      obtain ⟨t, ht⟩ : ∃ t, (dT A i)[k]? = some t := ⟨_, List.getElem?_eq_getElem hkt⟩
      obtain ⟨s, hs⟩ : ∃ s, (stL (dsB B i))[k]? = some s := ⟨_, List.getElem?_eq_getElem (by rw [← hS.1]; exact hkt)⟩
      obtain ⟨t0, -, t1, t2, -, -⟩ := hS.2.2 k t s ht hs
      have hs2 := hc.1 s (List.mem_of_getElem? hs)
      refine g_iload C dX5_beats_14 rfl ?_
      refine g_aload_n C dX5_beats_16 rfl rfl ?_
      refine g_callV C gy_Jx4a65c_size_8abf5 tw_1_89 tw_1_90 tw_1_91 (by decide) (kk := 7) rfl rfl (by exact hT.1) (m_size F S LT _ hT) rfl rfl (Nat.le_of_ble_eq_true rfl) (by omega) (by omega) dX5_beats_17 (fun _ _ h9 => h9.elim) ?_
      rintro _ _ ⟨rfl, rfl⟩
      refine g_icmp_ge C dX5_beats_20 (tgt := 54) (by decide) (fun c1 => ?_) (fun c1 => ?_)
      · exact absurd c1 (nI_ge hkt (by omega))
      · refine g_aload_n C dX5_beats_23 rfl rfl ?_
        refine g_iload C dX5_beats_24 rfl ?_
        refine g_callV C gy_Jx4a65c_get_915e3 tw_1_161 tw_1_162 tw_1_163 (by decide) (kk := 7) rfl rfl (by exact hT.1) (m_get F S LT _ hT k t ht) rfl rfl (Nat.le_of_ble_eq_true rfl) (by omega) (by omega) dX5_beats_26 (fun _ _ h9 => h9.elim) ?_
        rintro _ _ ⟨rfl, rfl⟩
        refine g_cast C (kk := 4) rfl t0 tw_1_203 dX5_beats_29 ?_
        refine g_astore C dX5_beats_32 (by decide) rfl ?_
        refine g_iload_n C dX5_beats_34 rfl rfl ?_
        refine g_aload C dX5_beats_35 rfl ?_
        refine ge_Stay_end C tw_3_135 (by exact t0) (by exact t2) dX5_beats_37 ?_
        refine g_aload C dX5_beats_40 rfl ?_
        refine ge_Stay_begin C tw_3_131 (by exact t0) (by exact t1) dX5_beats_42 ?_
        refine g_isub C dX5_beats_45 ?_
        rw [pk_sub (by omega)]
        refine g_iadd C dX5_beats_46 ?_
        rw [nI_add, ← sumS_take hs]
        refine g_istore_n C dX5_beats_47 rfl (by decide) rfl ?_
        refine g_iinc C dX5_beats_48 rfl (by first | exact inc1 _ | exact rfl) (by decide) rfl ?_
        refine g_goto C dX5_beats_51 (tgt := 14) (by decide) ?_
        refine g_sub [(0, _), (1, _), (2, _), (3, _), (4, _)] ⟨rfl, rfl, rfl, rfl, rfl, trivial⟩ ?_
        exact ih (k + 1) (by omega)
  refine ge_Puppet_stayList C tw_2_161 (by exact p1.1) (by exact p1.2.2.1) dX5_beats_5 ?_
  refine g_astore_n C dX5_beats_8 rfl (by decide) rfl ?_
  refine g_iconst C dX5_beats_9 (v := 0) (by decide) ?_
  refine g_istore_n C dX5_beats_10 rfl (by decide) rfl ?_
  refine g_iconst C dX5_beats_11 (v := 0) (by decide) ?_
  refine g_istore C dX5_beats_12 (by decide) rfl ?_
  refine g_sub [(0, _), (1, _), (2, _), (3, _), (4, _)] ⟨rfl, rfl, rfl, rfl, rfl, trivial⟩ ?_
  exact loop (dT A i).length 0 (by omega)
theorem m_stays {Γ : GBase} (F : FB Γ) (S : PS) (x : Nat) (y : Int32) (A : AD) (B : BT) (hI : BkI Γ S x A B) : GMet Γ yX5_stays cX5_stays 2 ((some FieldType.int)) 6 1 6 [.ref x, .int y] S (fun r S' => S = S' ∧ ∃ i, i < tN B ∧ y = nI i ∧ r = some (.int (nI (stL (dsB B i)).length))) (fun E S' => S = S' ∧ E = xIOB ∧ ¬ inR y (tN B)) := by
  obtain ⟨hx, hL, -, -, -, -, -, hP, -, -, hV⟩ := hI
  refine GMet.of (loc0 := [(0, .ref x), (1, .int y)]) F (by decide +kernel) rfl (Nat.le_of_ble_eq_true rfl) (fun X C R Tb nm => ?_)
  refine g_aload_n C dX5_stays_0 rfl rfl ?_
  refine g_iload_n C dX5_stays_1 rfl rfl ?_
  refine g_callV C gy_X5_puppetNumbered tw_1_85 tw_1_87 ts_0 (by decide) (kk := 5) rfl rfl (by exact hx) (m_puppetNumbered F S x y _ _ _ hx hL hP.al) rfl rfl (Nat.le_of_ble_eq_true rfl) (by omega) (by omega) dX5_stays_2 (fun _ _ h9 => g_out C R Tb (by omega) (by omega) ⟨h9.2.1, h9.1, h9.2.2⟩) ?_
  rintro _ _ ⟨rfl, i, hi, hyi, rfl⟩
  obtain ⟨LS, LT, TA, TB, p1, -, -, -, -, hT, hS, -⟩ := hP.2 i hi
  refine ge_Puppet_stayList C tw_2_161 (by exact p1.1) (by exact p1.2.2.1) dX5_stays_5 ?_
  refine g_callV C gy_Jx4a65c_size_8abf5 tw_1_89 tw_1_90 tw_1_91 (by decide) (kk := 7) rfl rfl (by exact hT.1) (m_size F S LT _ hT) rfl rfl (Nat.le_of_ble_eq_true rfl) (by omega) (by omega) dX5_stays_8 (fun _ _ h9 => h9.elim) ?_
  rintro _ _ ⟨rfl, rfl⟩
  rw [hS.1]
  refine g_iret C R rfl (by omega) (by omega) dX5_stays_11 ?_
  exact ⟨rfl, i, hi, hyi, rfl⟩
noncomputable def pr (B : BT) (a b : Nat) : Nat := if a < b ∧ fcB B a b ≠ none then 1 else 0
theorem pr_low {B : BT} {a b : Nat} (h : b ≤ a) : pr B a b = 0 := by
  unfold pr
  rw [if_neg]
  intro hh
  omega
theorem pr_skip (B : BT) (a : Nat) : ∀ n, n ≤ a + 1 → sum1 (pr B a) n = 0 := by
  intro n
  induction n with
  | zero => intro _; rfl
  | succ n ih =>
    intro h
    simp only [sum1]
    rw [ih (by omega), pr_low (by omega)]
theorem fcB_lt {B : BT} {a b v : Nat} (h : fcB B a b = some v) : v < 1000 := by
  unfold fcB at h
  rcases pick_cases (clD (dsB B a) (dsB B b)) 1000 with ⟨e, _⟩ | ⟨q, e, hq, _⟩
  · rw [e] at h; cases h
  · rw [e] at h; cases h; exact hq
theorem fcB_z {B : BT} {a b : Nat} : zO (fcB B a b) = -1 ↔ fcB B a b = none := zO_m1 (fun _ hv => fcB_lt hv)
