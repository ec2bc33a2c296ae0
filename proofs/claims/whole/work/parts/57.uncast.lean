theorem castB_lt {B : BT} (h : isOrd (ctB B) (ordB B)) {p j q : Nat} (hq : castB B p j = some q) : q < tQ B := by
  have hI := castI_take (C := ctB B) h.nodup (ordB B).length (Nat.le_refl _)
  rw [List.take_length] at hI
  exact (hI.2 p j q hq).2
theorem m_uncast {Γ : GBase} (F : FB Γ) (S : PS) (x : Nat) (A : AD) (B : BT) (hI : BkI Γ S x A B) : GMet Γ yX5_uncast cX5_uncast 3 ((some FieldType.int)) 9 40 4000 [.ref x] S (fun r S' => BkI Γ S' x A B ∧ FrB S S' ∧ isOrd (ctB B) (ordB B) ∧ r = some (.int (nI (unB B)))) noX := by
  have hI0 := hI
  have hV := hI.2.2.2.2.2.2.2.2.2.2
  refine GMet.of (loc0 := [(0, .ref x)]) F (by decide +kernel) rfl (Nat.le_of_ble_eq_true rfl) (fun X C R Tb nm => ?_)
  refine g_aload_n C dX5_uncast_0 rfl rfl ?_
  refine g_callV C gy_X5_findCasting tw_1_129 tw_1_131 ts_1 (by decide) (kk := 5) rfl rfl (by exact hI.1) (m_findCasting F S x A B hI0) rfl rfl (Nat.le_of_ble_eq_true rfl) (by omega) (by omega) dX5_uncast_1 (fun _ _ h9 => h9.elim) ?_
  rintro _ _ ⟨rfl, hI2, h5, hF⟩
  rename_i S2
  obtain ⟨os, ⟨LO, q1, _, q3⟩, hO, hos, hpl, _⟩ := hI2.cast h5
  have hx := hI2.1
  have hlen : (ordB B).length ≤ 40 := by
    have := ord_len hV (l := ordB B) ⟨hO.1, fun a ha => (hO.2 a).mp ha⟩
    have := hV.2.2.1
    omega
  have hq5 := hV.2.1
  have hPI := hI2.2.2.2.2.2.2.2.1
  have unle : ∀ i, unN B i ≤ i := fun i => by
    unfold unN
    refine Nat.le_trans (List.length_filter_le _ _) ?_
    rw [List.length_take]; omega
  have loop : ∀ (m i : Nat), i + m = (ordB B).length → GW Γ X S2 40 4000 8 [(0, .ref x), (1, .int (nI (unN B i))), (2, .int (nI i))] [] := by
    intro m
    induction m with
    | zero =>
      intro i hi
      refine g_iload_n C dX5_uncast_8 rfl rfl ?_
      refine g_aload_n C dX5_uncast_9 rfl rfl ?_
      refine ge_Book_castingOrder C tw_1_67 (by exact hx) (by exact q1) dX5_uncast_10 ?_
      refine g_callV C gy_Jx4a65c_size_8abf5 tw_1_97 tw_1_98 tw_1_99 (by decide) (kk := 7) rfl rfl (by exact q3.1) (m_size F S2 LO _ q3) rfl rfl (Nat.le_of_ble_eq_true rfl) (by omega) (by omega) dX5_uncast_13 (fun _ _ h9 => h9.elim) ?_
      rintro _ _ ⟨rfl, rfl⟩
      rw [hos, List.length_map]
      refine g_icmp_ge C dX5_uncast_16 (tgt := 46) (by decide) (fun c1 => ?_) (fun c1 => ?_)
      · refine g_iload_n C dX5_uncast_46 rfl rfl ?_
        refine g_iret C R rfl (by omega) (by omega) dX5_uncast_47 ?_
        have e : unN B i = unB B := by
          unfold unN unB
          rw [List.take_of_length_le (by omega)]
        rw [e]
        exact ⟨hI2, hF.b, hO, rfl⟩
      · exact absurd (nI_le (by omega) (by omega)) c1
    | succ m ih =>
      intro i hi
      have hil : i < (ordB B).length := by omega
      obtain ⟨a, ha⟩ : ∃ a, (ordB B)[i]? = some a := ⟨_, List.getElem?_eq_getElem hil⟩
      have ham := (hO.2 a).mp (List.mem_of_getElem? ha)
      obtain ⟨_, _, h2, h3⟩ := hPI.addr (a := a) ham.1 ham.2
      have hg : os[i]? = some (adr A a) := by rw [hos, List.getElem?_map, ha]; rfl
      have hv := hpl a.1 a.2 _ ham.1 h3
      have hz : zO (castB B a.1 a.2) = -1 ↔ castB B a.1 a.2 = none := zO_m1 (fun v hv => by have := castB_lt hO hv; omega)
      refine g_iload_n C dX5_uncast_8 rfl rfl ?_
      refine g_aload_n C dX5_uncast_9 rfl rfl ?_
      refine ge_Book_castingOrder C tw_1_67 (by exact hx) (by exact q1) dX5_uncast_10 ?_
      refine g_callV C gy_Jx4a65c_size_8abf5 tw_1_97 tw_1_98 tw_1_99 (by decide) (kk := 7) rfl rfl (by exact q3.1) (m_size F S2 LO _ q3) rfl rfl (Nat.le_of_ble_eq_true rfl) (by omega) (by omega) dX5_uncast_13 (fun _ _ h9 => h9.elim) ?_
      rintro _ _ ⟨rfl, rfl⟩
      rw [hos, List.length_map]
      refine g_icmp_ge C dX5_uncast_16 (tgt := 46) (by decide) (fun c1 => ?_) (fun c1 => ?_)
      · exact absurd c1 (nI_ge hil (by omega))
      · refine g_aload_n C dX5_uncast_19 rfl rfl ?_
        refine ge_Book_castingOrder C tw_1_67 (by exact hx) (by exact q1) dX5_uncast_20 ?_
        refine g_iload_n C dX5_uncast_23 rfl rfl ?_
        refine g_callV C gy_Jx4a65c_get_915e3 tw_1_101 tw_1_102 tw_1_103 (by decide) (kk := 7) rfl rfl (by exact q3.1) (m_get F S2 LO _ q3 i (adr A a) hg) rfl rfl (Nat.le_of_ble_eq_true rfl) (by omega) (by omega) dX5_uncast_24 (fun _ _ h9 => h9.elim) ?_
        rintro _ _ ⟨rfl, rfl⟩
        refine g_cast C (kk := 4) rfl h2.1 tw_1_149 dX5_uncast_27 ?_
        refine ge_Stay_player C tw_4_163 (by exact h2.1) (by exact hv) dX5_uncast_30 ?_
        refine g_iconst C dX5_uncast_33 (v := -1) (by decide) ?_
        have nx := ih (i + 1) (by omega)
        refine g_icmp_ne C dX5_uncast_34 (tgt := 40) (by decide) (fun c2 => ?_) (fun c2 => ?_)
        · have e : unN B (i + 1) = unN B i := by
            unfold unN
            rw [take_succ_get ha, List.filter_append]
            cases hc : castB B a.1 a.2 with
            | none => exact absurd (hz.mpr hc) c2
            | some v => simp [hc]
          rw [e] at nx
          refine g_iinc C dX5_uncast_40 rfl (by first | exact inc1 _ | exact rfl) (by decide) rfl ?_
          refine g_goto C dX5_uncast_43 (tgt := 8) (by decide) ?_
          refine g_sub [(0, _), (1, _), (2, _)] ⟨rfl, rfl, rfl, trivial⟩ ?_
          exact nx
        · have e : unN B (i + 1) = unN B i + 1 := by
            unfold unN
            rw [take_succ_get ha, List.filter_append]
            simp [hz.mp c2]
          rw [e] at nx
          refine g_iinc C dX5_uncast_37 rfl (by first | exact inc1 _ | exact rfl) (by decide) rfl ?_
          refine g_iinc C dX5_uncast_40 rfl (by first | exact inc1 _ | exact rfl) (by decide) rfl ?_
          refine g_goto C dX5_uncast_43 (tgt := 8) (by decide) ?_
          refine g_sub [(0, _), (1, _), (2, _)] ⟨rfl, rfl, rfl, trivial⟩ ?_
          exact nx
  refine g_iconst C dX5_uncast_4 (v := 0) (by decide) ?_
  refine g_istore_n C dX5_uncast_5 rfl (by decide) rfl ?_
  refine g_iconst C dX5_uncast_6 (v := 0) (by decide) ?_
  refine g_istore_n C dX5_uncast_7 rfl (by decide) rfl ?_
  refine g_sub [(0, _), (1, _), (2, _)] ⟨rfl, rfl, rfl, trivial⟩ ?_
  exact loop (ordB B).length 0 (by omega)
