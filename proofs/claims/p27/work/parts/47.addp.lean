theorem m_addPuppet {Γ : GBase} (F : FB Γ) (S : PS) (x : Nat) (y z : Int32) (A : AD) (B : BT) (hI : BkI Γ S x A B) : GMet Γ yX5_addPuppet cX5_addPuppet 4 ((some FieldType.int)) 6 6 2150 [.ref x, .int y, .int z] S (fun r S' => ∃ s o, s ≤ 9 ∧ 1 ≤ s ∧ y = nI s ∧ 1 ≤ o ∧ o ≤ 2 ∧ z = nI o ∧ tN B < 8 ∧ (∃ A', BkI Γ S' x A' (pupB B s o)) ∧ FrB S S' ∧ r = some (.int (nI (tN B)))) (fun E S' => S = S' ∧ ((E = xIAE ∧ ¬ (in1 y 9 ∧ in1 z 2)) ∨ (E = xISE ∧ in1 y 9 ∧ in1 z 2 ∧ 8 ≤ tN B))) := by
  have hI0 := hI
  obtain ⟨a1, a2, a3, a4, ⟨os, a5, a6, a7, a8⟩, a9, a10, a11, a12, a13, a14⟩ := hI
  have hx := a1
  have hn8 := a14.1
  obtain ⟨LP, c1, c2, c3⟩ := a2
  refine GMet.of (loc0 := [(0, .ref x), (1, .int y), (2, .int z)]) F (by decide +kernel) rfl (Nat.le_of_ble_eq_true rfl) (fun X C R Tb nm => ?_)
  refine g_iload_n C dX5_addPuppet_0 rfl rfl ?_
  refine g_iconst C dX5_addPuppet_1 (v := 1) (by decide) ?_
  refine g_icmp_lt C dX5_addPuppet_2 (tgt := 11) (by decide) (fun b1 => ?_) (fun b1 => ?_)
  · refine g_throwS C R Tb (kk := 5) rfl rfl tx_IAE tw_2_125 dX5_addPuppet_11 dX5_addPuppet_14 dX5_addPuppet_15 dX5_addPuppet_17 dX5_addPuppet_20 (by decide) (by simp [Value.category]) (by omega) (by omega) ?_
    exact ⟨rfl, Or.inl ⟨rfl, fun h => in1_lt (by decide) b1 h.1⟩⟩
  · refine g_iload_n C dX5_addPuppet_5 rfl rfl ?_
    refine g_bipush C dX5_addPuppet_6 (v := 9) (by decide) ?_
    rw [show (9 : Int32) = nI 9 from rfl]
    refine g_icmp_le C dX5_addPuppet_8 (tgt := 21) (by decide) (fun b2 => ?_) (fun b2 => ?_)
    · have hy := in1_of (by decide) b1 b2
      obtain ⟨s, hs1, hs2, hys⟩ := id hy
      refine g_iload_n C dX5_addPuppet_21 rfl rfl ?_
      refine g_iconst C dX5_addPuppet_22 (v := 1) (by decide) ?_
      refine g_icmp_lt C dX5_addPuppet_23 (tgt := 31) (by decide) (fun b3 => ?_) (fun b3 => ?_)
      · refine g_throwS C R Tb (kk := 5) rfl rfl tx_IAE tw_2_126 dX5_addPuppet_31 dX5_addPuppet_34 dX5_addPuppet_35 dX5_addPuppet_37 dX5_addPuppet_40 (by decide) (by simp [Value.category]) (by omega) (by omega) ?_
        exact ⟨rfl, Or.inl ⟨rfl, fun h => in1_lt (by decide) b3 h.2⟩⟩
      · refine g_iload_n C dX5_addPuppet_26 rfl rfl ?_
        refine g_iconst C dX5_addPuppet_27 (v := 2) (by decide) ?_
        rw [show (2 : Int32) = nI 2 from rfl]
        refine g_icmp_le C dX5_addPuppet_28 (tgt := 41) (by decide) (fun b4 => ?_) (fun b4 => ?_)
        · have hz := in1_of (by decide) b3 b4
          obtain ⟨o, ho1, ho2, hzo⟩ := id hz
          refine g_aload_n C dX5_addPuppet_41 rfl rfl ?_
          refine ge_Book_puppets C tw_1_56 (by exact hx) (by exact c1) dX5_addPuppet_42 ?_
          refine g_callV C gy_Jx4a65c_size_8abf5 tw_1_89 tw_1_90 tw_1_91 (by decide) (kk := 7) rfl rfl (by exact c3.1) (m_size F S LP _ c3) rfl rfl (Nat.le_of_ble_eq_true rfl) (by omega) (by omega) dX5_addPuppet_45 (fun _ _ h9 => h9.elim) ?_
          rintro _ _ ⟨rfl, rfl⟩
          refine g_bipush C dX5_addPuppet_48 (v := 8) (by decide) ?_
          rw [rmap_len, show (8 : Int32) = nI 8 from rfl]
          refine g_icmp_lt C dX5_addPuppet_50 (tgt := 63) (by decide) (fun b5 => ?_) (fun b5 => ?_)
          · have hlt : tN B < 8 := (nI_ltI (by omega) (by omega)).mp b5
            refine g_aload_n C dX5_addPuppet_63 rfl rfl ?_
            refine ge_Book_puppets C tw_1_56 (by exact hx) (by exact c1) dX5_addPuppet_64 ?_
            refine g_callV C gy_Jx4a65c_size_8abf5 tw_1_89 tw_1_90 tw_1_91 (by decide) (kk := 7) rfl rfl (by exact c3.1) (m_size F S LP _ c3) rfl rfl (Nat.le_of_ble_eq_true rfl) (by omega) (by omega) dX5_addPuppet_67 (fun _ _ h9 => h9.elim) ?_
            rintro _ _ ⟨rfl, rfl⟩
            rw [rmap_len, hys, hzo]
            refine g_istore_n C dX5_addPuppet_70 rfl (by decide) rfl ?_
            refine g_aload_n C dX5_addPuppet_71 rfl rfl ?_
            refine ge_Book_puppets C tw_1_56 (by exact hx) (by exact c1) dX5_addPuppet_72 ?_
            refine g_new C kd_3 tw_1_175 tw_2_144 tw_1_10 (by omega) (by omega) dX5_addPuppet_75 (fun q hq => ?_)
            refine g_dup C dX5_addPuppet_78 rfl ?_
            refine g_iload_n C dX5_addPuppet_79 rfl rfl ?_
            refine g_iload_n C dX5_addPuppet_80 rfl rfl ?_
            refine g_iload_n C dX5_addPuppet_81 rfl rfl ?_
            refine g_callI C gy_X3_init tw_2_145 tw_2_146 rfl rfl (by decide) (m_Puppet_init F _ q (tN B) s o al_nO hlt) rfl rfl (Nat.le_of_ble_eq_true rfl) (by omega) (by omega) dX5_addPuppet_82 ?_
            rintro _ _ ⟨rfl, hf, f1, LS, LT, TA, TB, f2, f3, f4, f5, f6⟩
            rename_i S2
            have hq : q ∉ pL S := by assumption
            have g0 := fr_newobj hq hf
            have hI2 := hI0.frA g0 (fun _ _ _ _ _ h => h) (fun _ _ _ _ _ h => h)
            have hB2 : FrB S S2 := FrB.of g0 (fun _ _ _ h => h) (fun _ _ _ h => h)
            have hqa : al S2 q 3 := f2.1
            obtain ⟨⟨ts, hts1, hts2⟩, hrow⟩ := f6
            have hts : ts = [] := List.eq_nil_of_length_eq_zero (by rw [hts2.1]; rfl)
            have hPq : PupA Γ S2 q (tN B) s o [] ts [] := ⟨LS, LT, TA, TB, f2, f1, f4, f5, f3, hts1, hts2, hrow⟩
            obtain ⟨b1', ⟨LP', d1, d2, d3⟩, b3', b4', ⟨os', b5', b6', b7', b8'⟩, b9', b10', b11', b12', b13', b14'⟩ := hI2
            have eLP : LP' = LP := Option.some.inj (d1.symm.trans (((g0 x hx.1).2.2.2.2.1 160 id).2.trans c1))
            subst eLP
            have hall : ∀ v, v ∈ rmap (dP A) (tN B) → al S2 v 3 := fun v hv => by
              obtain ⟨i, hi, rfl⟩ := rmap_mem.mp hv
              exact b11'.al i hi
            refine g_callV C gy_Jx4a65c_add_9ea2d tw_2_183 tw_2_184 tw_2_185 (by decide) (kk := 7) rfl rfl (by exact d3.1) (m_add F S2 LP' q 3 _ d3 hqa (by rw [rmap_len]; omega) (by decide) hall) rfl rfl (Nat.le_of_ble_eq_true rfl) (by omega) (by omega) dX5_addPuppet_85 (fun _ _ h9 => h9.elim) ?_
            rintro _ _ ⟨rfl, e1, g1⟩
            rename_i S3
            rw [rmap_snoc] at e1
            have hLP := d3.1
            refine g_pop C dX5_addPuppet_88 rfl ?_
            refine g_iload_n C dX5_addPuppet_89 rfl rfl ?_
            refine g_iret C R rfl (by omega) (by omega) dX5_addPuppet_90 ?_
            obtain ⟨A', hA'⟩ : ∃ A' : AD, A' = (va_up (dP A) (tN B) q, dY A, dC A, va_up (dT A) (tN B) ts) := ⟨_, rfl⟩
            have fx : ∀ f, pI S3 f x = pI S2 f x ∧ pP S3 f x = pP S2 f x := fun f => (g1 x b1'.1).2.2.2.2.1 f (fun e => (b1'.kne hLP (by decide)) e)
            have hsn := b14'.sc_new (p := tN B) (Nat.le_refl _)
            refine ⟨s, o, hs2, hs1, hys, ho1, ho2, hzo, hlt, ⟨A', ?_⟩, hB2.tr (FrB.of g1 (fun f b hb h => (hb.kne hLP (by decide)) h) (fun b _ ho h => (ho.kne hLP (by decide)) h)), rfl⟩
            have q11 : PupsI Γ S3 A' (pupB B s o) := by
              rw [hA']
              refine ⟨injN_new b11'.1 (fun i hi e => ?_), fun i hi => ?_⟩
              · have := (a11.al i hi).1
                rw [e] at this
                exact hq this
              · have hi : i < tN B + 1 := hi
                show PupA Γ S3 (va_up (dP A) (tN B) q i) i (va_up (tW B) (tN B) s i) (va_up (tH B) (tN B) o i) ((scB B i).map (dC A)) (va_up (dT A) (tN B) ts i) (dsB B i)
                by_cases e : i = tN B
                · rw [e, va_up_self, va_up_self, va_up_self, va_up_self, hsn.2.1, hsn.2.2]
                  exact hPq.fr g1 (OffP.list hLP hqa (by rw [d2]; omega) (by rw [d2]; omega))
                · rw [va_up_ne _ _ e, va_up_ne _ _ e, va_up_ne _ _ e, va_up_ne _ _ e]
                  exact (b11'.2 i (by omega)).fr g1 (OffP.list hLP (b11'.al i (by omega)) (by rw [d2]; omega) (by rw [d2]; omega))
            have q12 : PlysI S3 A' (pupB B s o) := by
              rw [hA']
              exact b12'.fr g1 (fun a f ha e => (ha.kne hLP (by decide)) e)
            have q13 : CuesI S3 A' (pupB B s o) := by
              rw [hA']
              refine ⟨b13'.1, fun c hc => ?_⟩
              have hcp := (b14'.2.2.2.2.2.1 c hc).2
              show CueA S3 (dC A c) (va_up (dP A) (tN B) q (tU B c).1) (tU B c).2 (tK B c) (tE B c) (tL B c) (tF B c)
              rw [va_up_ne _ _ (by omega)]
              exact (b13'.2 c hc).fr g1 (fun f e => ((b13'.2 c hc).1.1.kne hLP (by decide)) e)
            refine ⟨b1'.fr g1, ?_, ?_, ?_, ⟨os', b5'.frL b1' g1 hLP (by rw [d2]; omega), fun t ht => (b6' t ht).fr g1, b7', ?_⟩, (fx 164).1.trans b9', ?_, q11, q12, q13, pupB_V b14' hlt hs2 ho2⟩
            · rw [hA']
              exact ⟨LP', (fx 160).2.trans d1, (g1 LP' hLP.1).2.2.2.1.trans d2, e1⟩
            · rw [hA']
              exact b3'.frL b1' g1 hLP (by rw [d2]; omega)
            · rw [hA']
              exact b4'.frL b1' g1 hLP (by rw [d2]; omega)
            · rcases b8' with b8' | ⟨b8', b8''⟩
              · exact Or.inl ((fx 165).1.trans b8')
              · have h3 := b8''.fr b11' b12' g1 (fun t ht e => (ht.kne hLP (by decide)) e) (fun a ha e => (ha.kne hLP (by decide)) e) (fun T a _ ha _ e => (ha.kne hLP (by decide)) e)
                obtain ⟨v1, v2, v3, v4⟩ := h3
                have hcb := np_castB b14' s o v1
                refine Or.inr ⟨(fx 165).1.trans b8', ?_, ?_, fun p j t hp ht => ?_, fun q' T hq' hT => ?_⟩
                · rw [hcb.1]; exact np_ord b14' s o v1
                · rw [hcb.1, v2, hA']
                  refine List.map_congr_left (fun a ha => ?_)
                  have := ((v1.2 a).mp ha).1
                  have this : a.1 < tN B := this
                  show (dT A a.1).getD a.2 0 = (va_up (dT A) (tN B) ts a.1).getD a.2 0
                  rw [va_up_ne _ _ (by omega)]
                · rw [hcb.2]
                  have hp : p < tN B + 1 := hp
                  rw [hA'] at ht
                  have ht : (va_up (dT A) (tN B) ts p)[j]? = some t := ht
                  by_cases e : p = tN B
                  · rw [e, va_up_self, hts] at ht; cases ht
                  · rw [va_up_ne _ _ e] at ht
                    exact v3 p j t (by omega) ht
                · intro b hb
                  rw [np_hm b14' s o v1]
                  rw [hA'] at hT
                  exact v4 q' T hq' hT b hb
            · rw [np_cl b14']
              rw [(fx 166).1, (fx 167).1]
              exact b10'
          · refine g_throwS C R Tb (kk := 5) rfl rfl tx_ISE tw_2_136 dX5_addPuppet_53 dX5_addPuppet_56 dX5_addPuppet_57 dX5_addPuppet_59 dX5_addPuppet_62 (by decide) (by simp [Value.category]) (by omega) (by omega) ?_
            refine ⟨rfl, Or.inr ⟨rfl, hy, hz, ?_⟩⟩
            rcases Nat.lt_or_ge (tN B) 8 with w | w
            · exact absurd (nI_lt w (by omega)) b5
            · exact w
        · refine g_throwS C R Tb (kk := 5) rfl rfl tx_IAE tw_2_126 dX5_addPuppet_31 dX5_addPuppet_34 dX5_addPuppet_35 dX5_addPuppet_37 dX5_addPuppet_40 (by decide) (by simp [Value.category]) (by omega) (by omega) ?_
          exact ⟨rfl, Or.inl ⟨rfl, fun h => in1_gt (by decide) b4 h.2⟩⟩
    · refine g_throwS C R Tb (kk := 5) rfl rfl tx_IAE tw_2_125 dX5_addPuppet_11 dX5_addPuppet_14 dX5_addPuppet_15 dX5_addPuppet_17 dX5_addPuppet_20 (by decide) (by simp [Value.category]) (by omega) (by omega) ?_
      exact ⟨rfl, Or.inl ⟨rfl, fun h => in1_gt (by decide) b2 h.1⟩⟩
