theorem plAt_lt {p : PT} {b v : Nat} (hp : okP p) (h : plAt p b = some v) : v < 20 := by
  cases p with
  | none => cases h
  | some q =>
    obtain ⟨e, t, fp, tp, fb, tb⟩ := q
    simp only [okP] at hp
    simp only [plAt, Option.some.injEq] at h
    obtain ⟨_, _, h1, h2, _, h3⟩ := hp
    unfold ndist at h3
    split at h
    · omega
    · split at h
      · rw [if_pos (by omega)] at h3; omega
      · omega
theorem trOf_lt {p : PT} {v : Nat} (hp : okP p) (h : trOf p = some v) : v < 4 := by
  cases p with
  | none => cases h
  | some q =>
    obtain ⟨e, t, fp, tp, fb, tb⟩ := q
    simp only [okP] at hp
    simp only [trOf, Option.some.injEq] at h
    omega
theorem good.pl {ds : List D4} (h : good ds) {b v : Nat} (hv : plL ds b = some v) : v < 20 := plAt_lt (okP_pth _ none trivial (fun d hd => h.2.1 d (upTo_mem hd))) hv
theorem good.tr {ds : List D4} (h : good ds) {b v : Nat} (hv : trL ds b = some v) : v < 4 := trOf_lt (okP_pth _ none trivial (fun d hd => h.2.1 d (upTo_mem hd))) hv
theorem nI_m1 {v : Nat} (h : v < 2147483648) : nI v ≠ -1 := by
  intro e
  have := congrArg Int32.toInt e
  rw [nI_toInt (by omega)] at this
  have e2 : (-1 : Int32).toInt = -1 := by decide
  rw [e2] at this
  omega
theorem zO_m1 {o : Option Nat} (h : ∀ v, o = some v → v < 1000) : zO o = -1 ↔ o = none := by
  cases o with
  | none => exact ⟨fun _ => rfl, fun _ => rfl⟩
  | some v => exact ⟨fun e => absurd e (nI_m1 (by have := h v rfl; omega)), fun e => by cases e⟩
theorem zO_inj {o o' : Option Nat} (h : ∀ v, o = some v → v < 1000) (h' : ∀ v, o' = some v → v < 1000) : zO o = zO o' ↔ o = o' := by
  cases o with
  | none =>
    cases o' with
    | none => exact ⟨fun _ => rfl, fun _ => rfl⟩
    | some v => exact ⟨fun e => absurd e.symm (nI_m1 (by have := h' v rfl; omega)), fun e => by cases e⟩
  | some u =>
    cases o' with
    | none => exact ⟨fun e => absurd e (nI_m1 (by have := h u rfl; omega)), fun e => by cases e⟩
    | some v =>
      have := h u rfl; have := h' v rfl
      constructor
      · intro e; rw [nI_inj (by omega) (by omega) e]
      · intro e; rw [e]
theorem good.plz {ds : List D4} (h : good ds) (b : Nat) : zO (plL ds b) = -1 ↔ plL ds b = none := zO_m1 (fun v hv => by have := h.pl hv; omega)
theorem good.trz {ds : List D4} (h : good ds) (b : Nat) : zO (trL ds b) = -1 ↔ trL ds b = none := zO_m1 (fun v hv => by have := h.tr hv; omega)
theorem good.pli {ds es : List D4} (h : good ds) (h' : good es) (b c : Nat) : zO (plL ds b) = zO (plL es c) ↔ plL ds b = plL es c := zO_inj (fun v hv => by have := h.pl hv; omega) (fun v hv => by have := h'.pl hv; omega)
theorem good.tri {ds es : List D4} (h : good ds) (h' : good es) (b c : Nat) : zO (trL ds b) = zO (trL es c) ↔ trL ds b = trL es c := zO_inj (fun v hv => by have := h.tr hv; omega) (fun v hv => by have := h'.tr hv; omega)
theorem m_onStage {Γ : GBase} (F : FB Γ) (S : PS) (x : Nat) (z : Int32) (A : AD) (B : BT) (hI : BkI Γ S x A B) : GMet Γ yX5_onStage cX5_onStage 5 ((some FieldType.int)) 4 1 6 [.ref x, .int z] S (fun r S' => S = S' ∧ ∃ b, b < 1000 ∧ z = nI b ∧ r = some (.int (nI (maskN (fun p => (plL (dsB B p) b).isSome) (tN B))))) (fun E S' => S = S' ∧ E = xIAE ∧ ¬ inR z 1000) := by
  obtain ⟨hx, ⟨L, hL1, -, hL3⟩, -, -, -, -, -, hP, -, -, hV⟩ := hI
  have hn8 := hV.1
  refine GMet.of (loc0 := [(0, .ref x), (1, .int z)]) F (by decide +kernel) rfl (Nat.le_of_ble_eq_true rfl) (fun X C R Tb nm => ?_)
  refine g_iload_n C dX5_onStage_0 rfl rfl ?_
  refine g_callS C gy_X5_requireBeat tw_4_3 tw_4_4 (by decide) (m_requireBeat F S z) rfl rfl (Nat.le_of_ble_eq_true rfl) (by omega) (by omega) dX5_onStage_1 (fun _ _ h9 => g_out C R Tb (by omega) (by omega) ⟨h9.2.1, h9.1, h9.2.2⟩) ?_
  rintro _ _ ⟨⟨rfl, rfl⟩, b, hb, hzb⟩
  rw [hzb]
  have loop : ∀ (m i : Nat), i + m = tN B → GW Γ X S 1 6 8 [(0, .ref x), (1, .int (nI b)), (2, .int (nI (maskN (fun p => (plL (dsB B p) b).isSome) i))), (3, .int (nI i))] [] := by
    intro m
    induction m with
    | zero =>
      intro i hi
      refine g_iload_n C dX5_onStage_8 rfl rfl ?_
      refine g_aload_n C dX5_onStage_9 rfl rfl ?_
      refine ge_Book_puppets C tw_1_64 (by exact hx) (by exact hL1) dX5_onStage_10 ?_
      refine g_callV C gy_Jx4a65c_size_8abf5 tw_1_97 tw_1_98 tw_1_99 (by decide) (kk := 7) rfl rfl (by exact hL3.1) (m_size F S L _ hL3) rfl rfl (Nat.le_of_ble_eq_true rfl) (by omega) (by omega) dX5_onStage_13 (fun _ _ h9 => h9.elim) ?_
      rintro _ _ ⟨rfl, rfl⟩
      rw [rmap_len]
      refine g_icmp_ge C dX5_onStage_16 (tgt := 57) (by decide) (fun c1 => ?_) (fun c1 => ?_)
      · refine g_iload_n C dX5_onStage_57 rfl rfl ?_
        rw [show i = tN B by omega]
        refine g_iret C R rfl (by omega) (by omega) dX5_onStage_58 ?_
        exact ⟨rfl, b, hb, hzb, rfl⟩
      · exact absurd (nI_le (by omega) (by omega)) c1
    | succ m ih =>
      intro i hi
      have hin : i < tN B := by omega
      have hg := hV.good hin
      obtain ⟨LS, LT, TA, TB, p1, p2, -, -, -, -, -, p3⟩ := hP.2 i hin
      refine g_iload_n C dX5_onStage_8 rfl rfl ?_
      refine g_aload_n C dX5_onStage_9 rfl rfl ?_
      refine ge_Book_puppets C tw_1_64 (by exact hx) (by exact hL1) dX5_onStage_10 ?_
      refine g_callV C gy_Jx4a65c_size_8abf5 tw_1_97 tw_1_98 tw_1_99 (by decide) (kk := 7) rfl rfl (by exact hL3.1) (m_size F S L _ hL3) rfl rfl (Nat.le_of_ble_eq_true rfl) (by omega) (by omega) dX5_onStage_13 (fun _ _ h9 => h9.elim) ?_
      rintro _ _ ⟨rfl, rfl⟩
      rw [rmap_len]
      refine g_icmp_ge C dX5_onStage_16 (tgt := 57) (by decide) (fun c1 => ?_) (fun c1 => ?_)
      · exact absurd c1 (nI_ge hin (by omega))
      · refine g_aload_n C dX5_onStage_19 rfl rfl ?_
        refine ge_Book_puppets C tw_1_64 (by exact hx) (by exact hL1) dX5_onStage_20 ?_
        refine g_iload_n C dX5_onStage_23 rfl rfl ?_
        refine g_callV C gy_Jx4a65c_get_915e3 tw_1_101 tw_1_102 tw_1_103 (by decide) (kk := 7) rfl rfl (by exact hL3.1) (m_get F S L _ hL3 i (dP A i) (rmap_get hin)) rfl rfl (Nat.le_of_ble_eq_true rfl) (by omega) (by omega) dX5_onStage_24 (fun _ _ h9 => h9.elim) ?_
        rintro _ _ ⟨rfl, rfl⟩
        refine g_cast C (kk := 3) rfl p1.1 tw_1_115 dX5_onStage_27 ?_
        refine g_astore C dX5_onStage_30 (by decide) rfl ?_
        refine g_aload C dX5_onStage_32 rfl ?_
        refine ge_Puppet_placeAt C tw_3_170 (by exact p1.1) (by exact p1.2.2.2.1) dX5_onStage_34 ?_
        refine g_iload_n C dX5_onStage_37 rfl rfl ?_
        refine g_ldI C rfl p1.2.2.2.2.2.1.1 (by rw [p1.2.2.2.2.2.1.2.1]; exact hb) (by omega) (p3 b hb).1 dX5_onStage_38 ?_
        refine g_iconst C dX5_onStage_39 (v := -1) (by decide) ?_
        refine g_icmp_eq C dX5_onStage_40 (tgt := 51) (by decide) (fun c2 => ?_) (fun c2 => ?_)
        · have e : maskN (fun p => (plL (dsB B p) b).isSome) (i + 1) = maskN (fun p => (plL (dsB B p) b).isSome) i := by
            simp [maskN, (hg.plz b).mp c2]
          refine g_iinc C dX5_onStage_51 rfl (by first | exact inc1 _ | exact rfl) (by decide) rfl ?_
          refine g_goto C dX5_onStage_54 (tgt := 8) (by decide) ?_
          rw [← e]
          refine g_sub [(0, _), (1, _), (2, _), (3, _)] ⟨rfl, rfl, rfl, rfl, trivial⟩ ?_
          exact ih (i + 1) (by omega)
        · have e : maskN (fun p => (plL (dsB B p) b).isSome) (i + 1) = maskN (fun p => (plL (dsB B p) b).isSome) i ||| 2 ^ i := by
            have hs : (plL (dsB B i) b).isSome = true := by
              cases hq : plL (dsB B i) b with
              | none => exact absurd ((hg.plz b).mpr hq) c2
              | some v => rfl
            simp [maskN, hs]
          refine g_iload_n C dX5_onStage_43 rfl rfl ?_
          refine g_aload C dX5_onStage_44 rfl ?_
          refine ge_Puppet_bit C tw_3_160 (by exact p1.1) (by exact p2.2.1) dX5_onStage_46 ?_
          refine g_ior C dX5_onStage_49 ?_
          refine g_istore_n C dX5_onStage_50 rfl (by decide) rfl ?_
          refine g_iinc C dX5_onStage_51 rfl (by first | exact inc1 _ | exact rfl) (by decide) rfl ?_
          refine g_goto C dX5_onStage_54 (tgt := 8) (by decide) ?_
          rw [nb_or, ← e]
          refine g_sub [(0, _), (1, _), (2, _), (3, _)] ⟨rfl, rfl, rfl, rfl, trivial⟩ ?_
          exact ih (i + 1) (by omega)
  refine g_iconst C dX5_onStage_4 (v := 0) (by decide) ?_
  refine g_istore_n C dX5_onStage_5 rfl (by decide) rfl ?_
  refine g_iconst C dX5_onStage_6 (v := 0) (by decide) ?_
  refine g_istore_n C dX5_onStage_7 rfl (by decide) rfl ?_
  refine g_sub [(0, _), (1, _), (2, _), (3, _)] ⟨rfl, rfl, rfl, rfl, trivial⟩ ?_
  exact loop (tN B) 0 (by omega)
