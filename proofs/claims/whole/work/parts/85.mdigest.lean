noncomputable def dgT (B : BT) (p s : Nat) (d : Int64) : Nat → Int64
  | 0 => d
  | w + 1 => dW (dgT B p s d w) (stW B p s w)
theorem md_digest {Γ : GBase} (F : FB Γ) (S : PS) (m : Nat) (rr : Nat → Nat) (B : BT) (hI : MdI S m rr B) : GMet Γ yX6_digest cX6_digest 6 ((some FieldType.long)) 6 1 8 [.ref m] S (fun r S' => MdV S S' m rr B ∧ r = some (.long (dgB B))) noX := by
  have hB1 : MdB (uI S 192 m 0) m rr B := (hI.thr 0).1
  have h8 := hB1.v.1
  have h5 := hB1.v.2.1
  have h40 := hB1.v.2.2.1
  refine GMet.of (loc0 := [(0, .ref m)]) F (by decide +kernel) rfl (Nat.le_of_ble_eq_true rfl) (fun X C R Tb nm => ?_)
  refine g_aload_n C dX6_digest_0 rfl rfl ?_
  refine g_iconst C dX6_digest_1 (v := 0) (by decide) ?_
  refine pu_Model_thrown C tw_5_89 (by exact hI.1.m) dX6_digest_2 ?_
  refine g_aload_n C dX6_digest_5 rfl rfl ?_
  refine g_callV C gy_X6_workOut tw_6_12 tw_6_14 ts_37 (by decide) (kk := 6) rfl rfl (by exact hB1.m) (md_workOut F _ m rr B (hI.thr 0)) rfl rfl (Nat.le_of_ble_eq_true rfl) (by omega) (by omega) dX6_digest_6 (fun _ _ h9 => h9.elim) ?_
  rintro _ _ ⟨rfl, hw⟩
  rename_i S2
  have gB := hw.1
  have hlen : ∀ p, p < tN B → (stL (dsB B p)).length ≤ 40 := fun p hp => by
    have h9 := stL_len (dsB B p)
    have := hB1.v.lenD hp
    omega
  obtain ⟨d1, hd1⟩ : ∃ d, d = dW 277 (nI (tN B)) := ⟨_, rfl⟩
  obtain ⟨d2, hd2⟩ : ∃ d, d = dW (dgP B d1 (tN B)) (nI (tQ B)) := ⟨_, rfl⟩
  obtain ⟨d3, hd3⟩ : ∃ d, d = dW (dgY B d2 (tQ B)) (nI (tC B)) := ⟨_, rfl⟩
  have hdB : dgB B = dW (dgC B d3 (tC B)) (nI (clN B)) := by rw [hd3, hd2, hd1]; rfl
  have cues : ∀ (k c : Nat), c + k = tC B → GW Γ X S2 1 8 156 [(0, .ref m), (1, .long (dgC B d3 c)), (3, .int (nI c))] [] := by
    intro k
    induction k with
    | zero =>
      intro c hc
      have ec : c = tC B := by omega
      subst ec
      refine g_iload_n C dX6_digest_156 rfl rfl ?_
      refine g_aload_n C dX6_digest_157 rfl rfl ?_
      refine ge_Model_cues C tw_5_96 (by exact gB.m) (by exact gB.c) dX6_digest_158 ?_
      refine g_icmp_ge C dX6_digest_161 (tgt := 230) (by decide) (fun e1 => ?_) (fun e1 => ?_)
      · refine g_lload_n C dX6_digest_230 rfl rfl ?_
        refine g_ldc2 C (v := 31) tw_6_128 dX6_digest_231 ?_
        refine g_lmul C dX6_digest_234 ?_
        refine g_aload_n C dX6_digest_235 rfl rfl ?_
        refine g_callV C gy_X6_allClashes tw_6_67 tw_6_69 ts_46 (by decide) (kk := 6) rfl rfl (by exact gB.m) (md_allClashes F S2 m rr B gB hw.2.2.1.pl) rfl rfl (Nat.le_of_ble_eq_true rfl) (by omega) (by omega) dX6_digest_236 (fun _ _ h9 => h9.elim) ?_
        rintro _ _ ⟨rfl, rfl⟩
        refine g_i2l C dX6_digest_239 ?_
        refine g_ladd C dX6_digest_240 ?_
        refine g_lret C R (by omega) (by omega) dX6_digest_241 ?_
        refine ⟨⟨hw.i, FrM.i.tr hw.2.2.2.1⟩, ?_⟩
        rw [hdB]
        rfl
      · exact absurd (nI_le (Nat.le_refl _) (by omega)) e1
    | succ k ih =>
      intro c hc
      have hcn : c < tC B := by omega
      have hcu := gB.cu c (by omega)
      have nx := ih (c + 1) (by omega)
      refine g_iload_n C dX6_digest_156 rfl rfl ?_
      refine g_aload_n C dX6_digest_157 rfl rfl ?_
      refine ge_Model_cues C tw_5_96 (by exact gB.m) (by exact gB.c) dX6_digest_158 ?_
      refine g_icmp_ge C dX6_digest_161 (tgt := 230) (by decide) (fun e1 => ?_) (fun e1 => ?_)
      · exact absurd e1 (nI_ge hcn (by omega))
      · refine g_aload_n C dX6_digest_164 rfl rfl ?_
        refine ge_Model_areStruck C tw_5_98 (by exact gB.m) (by exact gB.f.r i_201) dX6_digest_165 ?_
        refine g_iload_n C dX6_digest_168 rfl rfl ?_
        refine g_ldZ C rfl gB.f.z (gB.f.lt i_201 (n := 40) rfl (by omega)) (by omega) hcu.1 dX6_digest_169 ?_
        cases hk : tK B c with
        | true =>
          have e : dgC B d3 (c + 1) = dgC B d3 c := by simp only [dgC, hk, if_true]
          rw [e] at nx
          refine g_if_eq C dX6_digest_170 (tgt := 176) (by decide) (fun e2 => ?_) (fun e2 => ?_)
          · exact absurd e2 (by decide)
          · refine g_goto C dX6_digest_173 (tgt := 224) (by decide) ?_
            refine g_iinc C dX6_digest_224 rfl (by first | exact inc1 _ | exact rfl) (by decide) rfl ?_
            refine g_goto C dX6_digest_227 (tgt := 156) (by decide) ?_
            refine g_sub [(0, _), (1, _), (3, _)] ⟨rfl, rfl, rfl, trivial⟩ ?_
            exact nx
        | false =>
          have e : dgC B d3 (c + 1) = dW (dgU B c (dgC B d3 c) 5) (nI (tE B c)) := by simp [dgC, hk]
          rw [e] at nx
          have loop : ∀ (k w : Nat), w + k = 5 → GW Γ X S2 1 8 179 [(0, .ref m), (1, .long (dgU B c (dgC B d3 c) w)), (3, .int (nI c)), (4, .int (nI w))] [] := by
            intro k
            induction k with
            | zero =>
              intro w hw5
              have ew : w = 5 := by omega
              subst ew
              refine g_iload C dX6_digest_179 rfl ?_
              refine g_iconst C dX6_digest_181 (v := 5) (by decide) ?_
              refine g_icmp_ge C dX6_digest_182 (tgt := 210) (by decide) (fun e3 => ?_) (fun e3 => ?_)
              · refine g_lload_n C dX6_digest_210 rfl rfl ?_
                refine g_ldc2 C (v := 31) tw_6_128 dX6_digest_211 ?_
                refine g_lmul C dX6_digest_214 ?_
                refine g_aload_n C dX6_digest_215 rfl rfl ?_
                refine ge_Model_noted C tw_5_100 (by exact gB.m) (by exact gB.f.r i_203) dX6_digest_216 ?_
                refine g_iload_n C dX6_digest_219 rfl rfl ?_
                refine g_ldI C rfl (gB.f.i i_203 rfl) (gB.f.lt i_203 (n := 40) rfl (by omega)) (by omega) hcu.2.1 dX6_digest_220 ?_
                refine g_i2l C dX6_digest_221 ?_
                refine g_ladd C dX6_digest_222 ?_
                refine g_lstore_n C dX6_digest_223 rfl (by decide) rfl rfl ?_
                refine g_iinc C dX6_digest_224 rfl (by first | exact inc1 _ | exact rfl) (by decide) rfl ?_
                refine g_goto C dX6_digest_227 (tgt := 156) (by decide) ?_
                refine g_sub [(0, _), (1, _), (3, _)] ⟨rfl, rfl, rfl, trivial⟩ ?_
                exact nx
              · exact absurd (nI_le (a := 5) (Nat.le_refl _) (by omega)) e3
            | succ k ih2 =>
              intro w hw5
              have nx2 := ih2 (w + 1) (by omega)
              refine g_iload C dX6_digest_179 rfl ?_
              refine g_iconst C dX6_digest_181 (v := 5) (by decide) ?_
              refine g_icmp_ge C dX6_digest_182 (tgt := 210) (by decide) (fun e3 => ?_) (fun e3 => ?_)
              · exact absurd e3 (nI_ge (b := 5) (by omega) (by omega))
              · refine g_lload_n C dX6_digest_185 rfl rfl ?_
                refine g_ldc2 C (v := 31) tw_6_128 dX6_digest_186 ?_
                refine g_lmul C dX6_digest_189 ?_
                refine g_aload_n C dX6_digest_190 rfl rfl ?_
                refine ge_Model_table C tw_5_97 (by exact gB.m) (by exact gB.f.r i_200) dX6_digest_191 ?_
                refine g_iconst C dX6_digest_194 (v := 5) (by decide) ?_
                refine g_iload_n C dX6_digest_195 rfl rfl ?_
                refine g_imul C dX6_digest_196 ?_
                refine g_iload C dX6_digest_197 rfl ?_
                refine g_iadd C dX6_digest_199 ?_
                refine g_ldI C (tix c w) (gB.f.i i_200 rfl) (gB.f.lt i_200 (n := 200) rfl (by omega)) (by omega) (gB.tb c w hcn (by omega)) dX6_digest_200 ?_
                refine g_i2l C dX6_digest_201 ?_
                refine g_ladd C dX6_digest_202 ?_
                refine g_lstore_n C dX6_digest_203 rfl (by decide) rfl rfl ?_
                refine g_iinc C dX6_digest_204 rfl (by first | exact inc1 _ | exact rfl) (by decide) rfl ?_
                refine g_goto C dX6_digest_207 (tgt := 179) (by decide) ?_
                refine g_sub [(0, _), (1, _), (3, _), (4, _)] ⟨rfl, rfl, rfl, rfl, trivial⟩ ?_
                exact nx2
          refine g_if_eq C dX6_digest_170 (tgt := 176) (by decide) (fun e2 => ?_) (fun e2 => ?_)
          · refine g_iconst C dX6_digest_176 (v := 0) (by decide) ?_
            refine g_istore C dX6_digest_177 (by decide) rfl ?_
            refine g_sub [(0, _), (1, _), (3, _), (4, _)] ⟨rfl, rfl, rfl, rfl, trivial⟩ ?_
            exact loop 5 0 (by omega)
          · exact absurd rfl e2
  have plys : ∀ (k q : Nat), q + k = tQ B → GW Γ X S2 1 8 115 [(0, .ref m), (1, .long (dgY B d2 q)), (3, .int (nI q))] [] := by
    intro k
    induction k with
    | zero =>
      intro q hq
      have eq : q = tQ B := by omega
      subst eq
      refine g_iload_n C dX6_digest_115 rfl rfl ?_
      refine g_aload_n C dX6_digest_116 rfl rfl ?_
      refine ge_Model_players C tw_5_93 (by exact gB.m) (by exact gB.q) dX6_digest_117 ?_
      refine g_icmp_ge C dX6_digest_120 (tgt := 142) (by decide) (fun e1 => ?_) (fun e1 => ?_)
      · have nx := cues (tC B) 0 (by omega)
        rw [show dgC B d3 0 = d3 from rfl, hd3] at nx
        refine g_lload_n C dX6_digest_142 rfl rfl ?_
        refine g_ldc2 C (v := 31) tw_6_128 dX6_digest_143 ?_
        refine g_lmul C dX6_digest_146 ?_
        refine g_aload_n C dX6_digest_147 rfl rfl ?_
        refine ge_Model_cues C tw_5_96 (by exact gB.m) (by exact gB.c) dX6_digest_148 ?_
        refine g_i2l C dX6_digest_151 ?_
        refine g_ladd C dX6_digest_152 ?_
        refine g_lstore_n C dX6_digest_153 rfl (by decide) rfl rfl ?_
        refine g_iconst C dX6_digest_154 (v := 0) (by decide) ?_
        refine g_istore_n C dX6_digest_155 rfl (by decide) rfl ?_
        refine g_sub [(0, _), (1, _), (3, _)] ⟨rfl, rfl, rfl, trivial⟩ ?_
        exact nx
      · exact absurd (nI_le (Nat.le_refl _) (by omega)) e1
    | succ k ih =>
      intro q hq
      have nx := ih (q + 1) (by omega)
      refine g_iload_n C dX6_digest_115 rfl rfl ?_
      refine g_aload_n C dX6_digest_116 rfl rfl ?_
      refine ge_Model_players C tw_5_93 (by exact gB.m) (by exact gB.q) dX6_digest_117 ?_
      refine g_icmp_ge C dX6_digest_120 (tgt := 142) (by decide) (fun e1 => ?_) (fun e1 => ?_)
      · exact absurd e1 (nI_ge (by omega) (by omega))
      · refine g_lload_n C dX6_digest_123 rfl rfl ?_
        refine g_ldc2 C (v := 31) tw_6_128 dX6_digest_124 ?_
        refine g_lmul C dX6_digest_127 ?_
        refine g_aload_n C dX6_digest_128 rfl rfl ?_
        refine g_iload_n C dX6_digest_129 rfl rfl ?_
        refine g_callV C gy_X6_loadOf tw_6_107 tw_6_109 ts_50 (by decide) (kk := 6) rfl rfl (by exact gB.m) (md_loadOf F S2 m q rr B gB hw.2.2.1 (by omega)) rfl rfl (Nat.le_of_ble_eq_true rfl) (by omega) (by omega) dX6_digest_130 (fun _ _ h9 => h9.elim) ?_
        rintro _ _ ⟨rfl, rfl⟩
        refine g_i2l C dX6_digest_133 ?_
        refine g_ladd C dX6_digest_134 ?_
        refine g_lstore_n C dX6_digest_135 rfl (by decide) rfl rfl ?_
        refine g_iinc C dX6_digest_136 rfl (by first | exact inc1 _ | exact rfl) (by decide) rfl ?_
        refine g_goto C dX6_digest_139 (tgt := 115) (by decide) ?_
        refine g_sub [(0, _), (1, _), (3, _)] ⟨rfl, rfl, rfl, trivial⟩ ?_
        exact nx
  have pups : ∀ (k p : Nat), p + k = tN B → GW Γ X S2 1 8 21 [(0, .ref m), (1, .long (dgP B d1 p)), (3, .int (nI p))] [] := by
    intro k
    induction k with
    | zero =>
      intro p hp
      have ep : p = tN B := by omega
      subst ep
      refine g_iload_n C dX6_digest_21 rfl rfl ?_
      refine g_aload_n C dX6_digest_22 rfl rfl ?_
      refine ge_Model_puppets C tw_5_90 (by exact gB.m) (by exact gB.n) dX6_digest_23 ?_
      refine g_icmp_ge C dX6_digest_26 (tgt := 101) (by decide) (fun e1 => ?_) (fun e1 => ?_)
      · have nx := plys (tQ B) 0 (by omega)
        rw [show dgY B d2 0 = d2 from rfl, hd2] at nx
        refine g_lload_n C dX6_digest_101 rfl rfl ?_
        refine g_ldc2 C (v := 31) tw_6_128 dX6_digest_102 ?_
        refine g_lmul C dX6_digest_105 ?_
        refine g_aload_n C dX6_digest_106 rfl rfl ?_
        refine ge_Model_players C tw_5_93 (by exact gB.m) (by exact gB.q) dX6_digest_107 ?_
        refine g_i2l C dX6_digest_110 ?_
        refine g_ladd C dX6_digest_111 ?_
        refine g_lstore_n C dX6_digest_112 rfl (by decide) rfl rfl ?_
        refine g_iconst C dX6_digest_113 (v := 0) (by decide) ?_
        refine g_istore_n C dX6_digest_114 rfl (by decide) rfl ?_
        refine g_sub [(0, _), (1, _), (3, _)] ⟨rfl, rfl, rfl, trivial⟩ ?_
        exact nx
      · exact absurd (nI_le (Nat.le_refl _) (by omega)) e1
    | succ k ih =>
      intro p hp
      have hpN : p < tN B := by omega
      have hp40 := hlen p hpN
      have nx := ih (p + 1) (by omega)
      obtain ⟨d, hd⟩ : ∃ d, d = dW (dgP B d1 p) (nI (stL (dsB B p)).length) := ⟨_, rfl⟩
      have e : dgP B d1 (p + 1) = dgS B p d (stL (dsB B p)).length := by rw [hd]; rfl
      rw [e] at nx
      have stays : ∀ (k s : Nat), s + k = (stL (dsB B p)).length → GW Γ X S2 1 8 46 [(0, .ref m), (1, .long (dgS B p d s)), (3, .int (nI p)), (4, .int (nI s))] [] := by
        intro k
        induction k with
        | zero =>
          intro s hs
          have es : s = (stL (dsB B p)).length := by omega
          refine g_iload C dX6_digest_46 rfl ?_
          refine g_aload_n C dX6_digest_48 rfl rfl ?_
          refine ge_Model_manyStays C tw_5_107 (by exact gB.m) (by exact gB.f.r i_210) dX6_digest_49 ?_
          refine g_iload_n C dX6_digest_52 rfl rfl ?_
          refine g_ldI C rfl (gB.f.i i_210 rfl) (gB.f.lt i_210 (n := 8) rfl (by omega)) (by omega) (hw.2.2.1.2.2.1 p hpN) dX6_digest_53 ?_
          refine g_icmp_ge C dX6_digest_54 (tgt := 95) (by decide) (fun e1 => ?_) (fun e1 => ?_)
          · rw [es]
            refine g_iinc C dX6_digest_95 rfl (by first | exact inc1 _ | exact rfl) (by decide) rfl ?_
            refine g_goto C dX6_digest_98 (tgt := 21) (by decide) ?_
            refine g_sub [(0, _), (1, _), (3, _)] ⟨rfl, rfl, rfl, trivial⟩ ?_
            exact nx
          · exact absurd (nI_le (by omega) (by omega)) e1
        | succ k ih2 =>
          intro s hs
          have nx2 := ih2 (s + 1) (by omega)
          have loop : ∀ (k w : Nat), w + k = 3 → GW Γ X S2 1 8 60 [(0, .ref m), (1, .long (dgT B p s (dgS B p d s) w)), (3, .int (nI p)), (4, .int (nI s)), (5, .int (nI w))] [] := by
            intro k
            induction k with
            | zero =>
              intro w hw3
              have ew : w = 3 := by omega
              subst ew
              refine g_iload C dX6_digest_60 rfl ?_
              refine g_iconst C dX6_digest_62 (v := 3) (by decide) ?_
              refine g_icmp_ge C dX6_digest_63 (tgt := 89) (by decide) (fun e3 => ?_) (fun e3 => ?_)
              · refine g_iinc C dX6_digest_89 rfl (by first | exact inc1 _ | exact rfl) (by decide) rfl ?_
                refine g_goto C dX6_digest_92 (tgt := 46) (by decide) ?_
                refine g_sub [(0, _), (1, _), (3, _), (4, _)] ⟨rfl, rfl, rfl, rfl, trivial⟩ ?_
                exact nx2
              · exact absurd (nI_le (a := 3) (Nat.le_refl _) (by omega)) e3
            | succ k ih3 =>
              intro w hw3
              have nx3 := ih3 (w + 1) (by omega)
              refine g_iload C dX6_digest_60 rfl ?_
              refine g_iconst C dX6_digest_62 (v := 3) (by decide) ?_
              refine g_icmp_ge C dX6_digest_63 (tgt := 89) (by decide) (fun e3 => ?_) (fun e3 => ?_)
              · exact absurd e3 (nI_ge (b := 3) (by omega) (by omega))
              · refine g_lload_n C dX6_digest_66 rfl rfl ?_
                refine g_ldc2 C (v := 31) tw_6_128 dX6_digest_67 ?_
                refine g_lmul C dX6_digest_70 ?_
                refine g_aload_n C dX6_digest_71 rfl rfl ?_
                refine g_iload_n C dX6_digest_72 rfl rfl ?_
                refine g_iload C dX6_digest_73 rfl ?_
                refine g_iload C dX6_digest_75 rfl ?_
                refine g_callV C gy_X6_stayTold tw_6_83 tw_6_85 ts_47 (by decide) (kk := 6) rfl rfl (by exact gB.m) (md_stayTold F S2 m p s w rr B gB hw.2.2.1 hpN (by omega) (by omega)) rfl rfl (Nat.le_of_ble_eq_true rfl) (by omega) (by omega) dX6_digest_77 (fun _ _ h9 => h9.elim) ?_
                rintro _ _ ⟨rfl, rfl⟩
                refine g_i2l C dX6_digest_80 ?_
                refine g_ladd C dX6_digest_81 ?_
                refine g_lstore_n C dX6_digest_82 rfl (by decide) rfl rfl ?_
                refine g_iinc C dX6_digest_83 rfl (by first | exact inc1 _ | exact rfl) (by decide) rfl ?_
                refine g_goto C dX6_digest_86 (tgt := 60) (by decide) ?_
                refine g_sub [(0, _), (1, _), (3, _), (4, _), (5, _)] ⟨rfl, rfl, rfl, rfl, rfl, trivial⟩ ?_
                exact nx3
          refine g_iload C dX6_digest_46 rfl ?_
          refine g_aload_n C dX6_digest_48 rfl rfl ?_
          refine ge_Model_manyStays C tw_5_107 (by exact gB.m) (by exact gB.f.r i_210) dX6_digest_49 ?_
          refine g_iload_n C dX6_digest_52 rfl rfl ?_
          refine g_ldI C rfl (gB.f.i i_210 rfl) (gB.f.lt i_210 (n := 8) rfl (by omega)) (by omega) (hw.2.2.1.2.2.1 p hpN) dX6_digest_53 ?_
          refine g_icmp_ge C dX6_digest_54 (tgt := 95) (by decide) (fun e1 => ?_) (fun e1 => ?_)
          · exact absurd e1 (nI_ge (by omega) (by omega))
          · refine g_iconst C dX6_digest_57 (v := 0) (by decide) ?_
            refine g_istore C dX6_digest_58 (by decide) rfl ?_
            refine g_sub [(0, _), (1, _), (3, _), (4, _), (5, _)] ⟨rfl, rfl, rfl, rfl, rfl, trivial⟩ ?_
            exact loop 3 0 (by omega)
      refine g_iload_n C dX6_digest_21 rfl rfl ?_
      refine g_aload_n C dX6_digest_22 rfl rfl ?_
      refine ge_Model_puppets C tw_5_90 (by exact gB.m) (by exact gB.n) dX6_digest_23 ?_
      refine g_icmp_ge C dX6_digest_26 (tgt := 101) (by decide) (fun e1 => ?_) (fun e1 => ?_)
      · exact absurd e1 (nI_ge hpN (by omega))
      · have nx4 := stays (stL (dsB B p)).length 0 (by omega)
        rw [show dgS B p d 0 = d from rfl, hd] at nx4
        refine g_lload_n C dX6_digest_29 rfl rfl ?_
        refine g_ldc2 C (v := 31) tw_6_128 dX6_digest_30 ?_
        refine g_lmul C dX6_digest_33 ?_
        refine g_aload_n C dX6_digest_34 rfl rfl ?_
        refine ge_Model_manyStays C tw_5_107 (by exact gB.m) (by exact gB.f.r i_210) dX6_digest_35 ?_
        refine g_iload_n C dX6_digest_38 rfl rfl ?_
        refine g_ldI C rfl (gB.f.i i_210 rfl) (gB.f.lt i_210 (n := 8) rfl (by omega)) (by omega) (hw.2.2.1.2.2.1 p hpN) dX6_digest_39 ?_
        refine g_i2l C dX6_digest_40 ?_
        refine g_ladd C dX6_digest_41 ?_
        refine g_lstore_n C dX6_digest_42 rfl (by decide) rfl rfl ?_
        refine g_iconst C dX6_digest_43 (v := 0) (by decide) ?_
        refine g_istore C dX6_digest_44 (by decide) rfl ?_
        refine g_sub [(0, _), (1, _), (3, _), (4, _)] ⟨rfl, rfl, rfl, rfl, trivial⟩ ?_
        exact nx4
  have nx := pups (tN B) 0 (by omega)
  rw [show dgP B d1 0 = d1 from rfl, hd1, show dW 277 (nI (tN B)) = 8587 + (nI (tN B)).toInt64 from by unfold dW; rw [show (277 : Int64) * 31 = 8587 from by decide]] at nx
  refine g_ldc2 C (v := 8587) tw_6_127 dX6_digest_9 ?_
  refine g_aload_n C dX6_digest_12 rfl rfl ?_
  refine ge_Model_puppets C tw_5_90 (by exact gB.m) (by exact gB.n) dX6_digest_13 ?_
  refine g_i2l C dX6_digest_16 ?_
  refine g_ladd C dX6_digest_17 ?_
  refine g_lstore_n C dX6_digest_18 rfl (by decide) rfl rfl ?_
  refine g_iconst C dX6_digest_19 (v := 0) (by decide) ?_
  refine g_istore_n C dX6_digest_20 rfl (by decide) rfl ?_
  refine g_sub [(0, _), (1, _), (3, _)] ⟨rfl, rfl, rfl, trivial⟩ ?_
  exact nx
