/-! ===== the law builds a book ===== -/
theorem fr_own {S : PS} {q k n o : Nat} {mo ma : Nat → Nat → Prop} (hq : q ∉ pL S) : Fr S (uW (nA S q k n) q o) mo ma := by
  intro b hb
  have hbq : b ≠ q := mem_ne hb hq
  exact ⟨List.mem_append_left _ hb, va_up_ne _ _ hbq, va_up_ne _ _ hbq, uW_ne hbq, fun _ _ => ⟨rfl, rfl⟩, fun _ => ⟨va_up_ne _ _ hbq, va_up_ne _ _ hbq, va_up_ne _ _ hbq, va_up_ne _ _ hbq⟩⟩
/-- an int row of the law's, kind k, n cells, owned by P -/
def RwL (S : PS) (a k n P : Nat) : Prop := al S a k ∧ pN S a = n ∧ pW S a = P
theorem RwL.fr {S S' : PS} {mo ma : Nat → Nat → Prop} {a k n P : Nat} (h : RwL S a k n P) (hf : Fr S S' mo ma) : RwL S' a k n P := ⟨h.1.fr hf, ((hf a h.1.1).2.2.1).trans h.2.1, ((hf a h.1.1).2.2.2.1).trans h.2.2⟩
/-- the law's rows: puppets, players, cues -/
def AL3 (S : PS) (P Y Cu : Nat) : Prop := RwL S P 9 16 P ∧ RwL S Y 8 10 P ∧ RwL S Cu 8 246 P ∧ Y ≠ Cu
def AL (S : PS) (P Y Cu N : Nat) : Prop := AL3 S P Y Cu ∧ RwL S N 8 3 P ∧ Y ≠ N ∧ Cu ≠ N
theorem AL.fr {S S' : PS} {mo ma : Nat → Nat → Prop} {P Y Cu N : Nat} (h : AL S P Y Cu N) (hf : Fr S S' mo ma) : AL S' P Y Cu N := by
  obtain ⟨⟨h1, h2, h3, h4⟩, h5, h6⟩ := h
  exact ⟨⟨h1.fr hf, h2.fr hf, h3.fr hf, h4⟩, h5.fr hf, h6⟩
theorem AL.w {S : PS} {P Y Cu N : Nat} (h : AL S P Y Cu N) : al S (pW S P) 9 ∧ al S (pW S Y) 9 ∧ al S (pW S Cu) 9 ∧ al S (pW S N) 9 := by
  obtain ⟨⟨h1, h2, h3, -⟩, h5, -⟩ := h
  exact ⟨by rw [h1.2.2]; exact h1.1, by rw [h2.2.2]; exact h1.1, by rw [h3.2.2]; exact h1.1, by rw [h5.2.2]; exact h1.1⟩
theorem AL.ne {S : PS} {P Y Cu N : Nat} (h : AL S P Y Cu N) : P ≠ Y ∧ P ≠ Cu ∧ P ≠ N := ⟨h.1.1.1.kne h.1.2.1.1 (by decide), h.1.1.1.kne h.1.2.2.1.1 (by decide), h.1.1.1.kne h.2.1.1 (by decide)⟩
def PuV (S : PS) (P : Nat) (B : BT) : Prop := ∀ i, i < tN B → pR S P (2 * i) = nI (tW B i) ∧ pR S P (2 * i + 1) = nI (tH B i)
def PyV (S : PS) (Y : Nat) (B : BT) : Prop := ∀ i, i < tQ B → pR S Y (2 * i) = nI (tT B i) ∧ pR S Y (2 * i + 1) = nI (tO B i)
/-- a class's call leaves the law's rows -/
theorem FrB.row {S S' : PS} {a : Nat} (h : FrB S S') (ha : a ∈ pL S) (hw : al S (pW S a) 9) : pR S' a = pR S a := ((h a ha).2.2.2.2.2 (fun w => w hw)).1
/-- the law's world -/
def WO (Γ : GBase) (S : PS) (x P Y Cu N : Nat) (A : AD) (B : BT) : Prop := BkI Γ S x A B ∧ AL S P Y Cu N ∧ PuV S P B ∧ PyV S Y B ∧ CuR S Cu (tC B) (tU B) ∧ NrR S N (tN B) (tQ B) (tC B)
theorem WO.frB {Γ : GBase} {S S' : PS} {x P Y Cu N : Nat} {A A' : AD} {B : BT} (h : WO Γ S x P Y Cu N A B) (hf : FrB S S') (hI : BkI Γ S' x A' B) : WO Γ S' x P Y Cu N A' B := by
  obtain ⟨-, h2, h3, h4, h5, h6⟩ := h
  obtain ⟨w1, w2, w3, w4⟩ := h2.w
  refine ⟨hI, h2.fr hf, fun i hi => ?_, fun i hi => ?_, h5.fr hf (fun w => w w3), h6.fr hf (fun w => w w4)⟩
  · rw [hf.row h2.1.1.1.1 w1]; exact h3 i hi
  · rw [hf.row h2.1.2.1.1.1 w2]; exact h4 i hi
theorem l_build {Γ : GBase} (F : FB Γ) {L : Nat} {xs : Nat → Int32} (hX : LScr Γ L xs) (S : PS) (x P Y Cu : Nat) (A : AD) (hI : BkI Γ S x A B0) (hA3 : AL3 S P Y Cu) : GMet Γ yL_build cL_build 10 ((some (FieldType.array FieldType.int))) 12 1700 93000 [.ref x, .ref (bB Γ), .int (nI 0), .int (nI 18), .ref P, .ref Y, .ref Cu] S (fun r S' => ∃ N A' B', r = some (.ref N) ∧ WO Γ S' x P Y Cu N A' B' ∧ 1 ≤ tN B' ∧ tN B' ≤ 4 ∧ tQ B' ≤ 3 ∧ tC B' ≤ 18 ∧ BtI B') noX := by
  refine GMet.of (loc0 := [(0, .ref x), (1, .ref (bB Γ)), (2, .int (nI 0)), (3, .int (nI 18)), (4, .ref P), (5, .ref Y), (6, .ref Cu)]) F (by decide +kernel) rfl (Nat.le_of_ble_eq_true rfl) (fun X C R Tb nm => ?_)
  refine g_iconst C dL_build_0 (v := 3) (by decide) ?_
  rw [show (3 : Int32) = nI 3 from rfl]
  refine g_naI C rfl (by omega) (by omega) (by omega) dL_build_1 (fun N hN => ?_)
  refine g_own N P ?_
  have hF1 : ∀ {mo ma : Nat → Nat → Prop}, Fr S (uW (nA S N 8 3) N P) mo ma := fr_own hN
  have hI1 : BkI Γ (uW (nA S N 8 3) N P) x A B0 := hI.frN hF1
  have hAL1 : AL (uW (nA S N 8 3) N P) P Y Cu N := by
    obtain ⟨a1, a2, a3, a4⟩ := hA3
    have hF := hF1 (mo := moN) (ma := maN)
    exact ⟨⟨a1.fr hF, a2.fr hF, a3.fr hF, a4⟩, ⟨al_nA (S := S) (m := 3), nA_Nq (S := S) (q := N) (k := 8) (m := 3), uW_q⟩, mem_ne a2.1.1 hN, mem_ne a3.1.1 hN⟩
  generalize uW (nA S N 8 3) N P = S1 at hI1 hAL1 ⊢
  obtain ⟨⟨hP1, hY1, hC1, -⟩, hN1, -, -⟩ := id hAL1
  have zero0 : nI 0 + 1 = nI 1 := rfl
  have zero2 : nI 0 + 2 = nI 2 := rfl
  have zero3 : nI 0 + 3 = nI 3 := rfl
  refine g_dup C dL_build_3 rfl ?_
  refine g_iconst C dL_build_4 (v := 0) (by decide) ?_
  refine g_iconst C dL_build_5 (v := 1) (by decide) ?_
  refine g_aload_n C dL_build_6 rfl rfl ?_
  refine g_iload_n C dL_build_7 rfl rfl ?_
  refine g_callS C gy_L_cell tw_2_113 tw_2_114 (by decide) (l_cell F hX _ 0 (by decide)) rfl rfl (Nat.le_of_ble_eq_true rfl) (by omega) (by omega) dL_build_8 (fun _ _ h9 => h9.elim) ?_
  rintro _ _ ⟨rfl, v1, rfl⟩
  refine g_iconst C dL_build_11 (v := 4) (by decide) ?_
  refine g_callS C gy_L_below tw_2_117 tw_2_118 (by decide) (l_below F _ v1 4 (by decide) (by decide)) rfl rfl (Nat.le_of_ble_eq_true rfl) (by omega) (by omega) dL_build_12 (fun _ _ h9 => h9.elim) ?_
  rintro _ _ ⟨rfl, t1, ht1, rfl⟩
  refine g_iadd C dL_build_15 ?_
  rw [i1, nI_add]
  refine g_stI C i0 hN1.1 (by rw [hN1.2.1]; decide) (by decide) dL_build_16 ?_
  refine g_dup C dL_build_17 rfl ?_
  refine g_iconst C dL_build_18 (v := 1) (by decide) ?_
  refine g_aload_n C dL_build_19 rfl rfl ?_
  refine g_iload_n C dL_build_20 rfl rfl ?_
  refine g_callS C gy_L_cell tw_2_113 tw_2_114 (by decide) (l_cell F hX _ 0 (by decide)) rfl rfl (Nat.le_of_ble_eq_true rfl) (by omega) (by omega) dL_build_21 (fun _ _ h9 => h9.elim) ?_
  rintro _ _ ⟨rfl, v2, rfl⟩
  refine g_iconst C dL_build_24 (v := 3) (by decide) ?_
  refine g_ishr C dL_build_25 ?_
  refine g_iconst C dL_build_26 (v := 4) (by decide) ?_
  refine g_callS C gy_L_below tw_2_117 tw_2_118 (by decide) (l_below F _ _ 4 (by decide) (by decide)) rfl rfl (Nat.le_of_ble_eq_true rfl) (by omega) (by omega) dL_build_27 (fun _ _ h9 => h9.elim) ?_
  rintro _ _ ⟨rfl, t2, ht2, rfl⟩
  refine g_stI C i1 hN1.1 (by show _ < pN S1 N; rw [hN1.2.1]; decide) (by decide) dL_build_30 ?_
  rw [uR_uR, uR_q]
  refine g_dup C dL_build_31 rfl ?_
  refine g_iconst C dL_build_32 (v := 2) (by decide) ?_
  refine g_iconst C dL_build_33 (v := 0) (by decide) ?_
  refine g_stI C i2 hN1.1 (by show _ < pN S1 N; rw [hN1.2.1]; decide) (by decide) dL_build_34 ?_
  rw [uR_uR, uR_q]
  obtain ⟨S2, hS2⟩ : ∃ S2, S2 = uR S1 N (va_up (va_up (va_up (pR S1 N) 0 (nI (1 + t1))) 1 (nI t2)) 2 0) := ⟨_, rfl⟩
  rw [← hS2]
  have hF2 : Fr S1 S2 moN (fun _ b => b = N) := by rw [hS2]; exact fr_uR rfl
  have hN2 : NrR S2 N (1 + t1) t2 0 := by
    rw [hS2]
    refine ⟨hN1.1, hN1.2.1, ?_, ?_, ?_⟩
    · rw [uR_q, va_up_ne _ _ (by decide), va_up_ne _ _ (by decide), va_up_self]
    · rw [uR_q, va_up_ne _ _ (by decide), va_up_self]
    · rw [uR_q, va_up_self]; rfl
  have hI2 : BkI Γ S2 x A B0 := by rw [hS2]; exact hI1.uR hAL1.w.2.2.2
  have hAL2 : AL S2 P Y Cu N := hAL1.fr hF2
  -- the tries
  have tries : ∀ (m k tr : Nat) (S5 : PS) (A5 : AD) (B5 : BT), k + m = tr → tr ≤ 18 → WO Γ S5 x P Y Cu N A5 B5 → 1 ≤ tN B5 → tN B5 ≤ 4 → tQ B5 ≤ 3 → tC B5 ≤ k → BkN B5 → BtI B5 → GW Γ X S5 (37 + 92 * k) (12023 + 4481 * k) 253 [(0, .ref x), (1, .ref (bB Γ)), (2, .int (nI 0)), (3, .int (nI 18)), (4, .ref P), (5, .ref Y), (6, .ref Cu), (7, .ref N), (8, .int (nI tr)), (9, .int (nI k))] [] := by
    intro m
    induction m with
    | zero =>
      intro k tr S5 A5 B5 hk htr hW h1 h4 h3 hc hK hb
      refine g_iload C dL_build_253 rfl ?_
      refine g_iload C dL_build_255 rfl ?_
      refine g_icmp_ge C dL_build_257 (tgt := 301) (by decide) (fun c1 => ?_) (fun c1 => ?_)
      · refine g_aload C dL_build_301 rfl ?_
        refine g_aret C R (Or.inr ⟨_, rfl⟩) (by omega) (by omega) dL_build_303 ?_
        exact ⟨N, A5, B5, rfl, hW, h1, h4, h3, by omega, hb⟩
      · exact absurd (nI_le (by omega) (by omega)) c1
    | succ m ih =>
      intro k tr S5 A5 B5 hk htr hW h1 h4 h3 hc hK hb
      obtain ⟨w1, w2, w3, w4, w5, w6⟩ := id hW
      obtain ⟨o1, o2, o3, o4⟩ := w2.w
      have hle : k / 6 * 6 ≤ k := Nat.div_mul_le_self k 6
      refine g_iload C dL_build_253 rfl ?_
      refine g_iload C dL_build_255 rfl ?_
      refine g_icmp_ge C dL_build_257 (tgt := 301) (by decide) (fun c1 => ?_) (fun c1 => ?_)
      · exact absurd c1 (nI_ge (by omega) (by omega))
      · refine g_aload_n C dL_build_260 rfl rfl ?_
        refine g_aload_n C dL_build_261 rfl rfl ?_
        refine g_iload_n C dL_build_262 rfl rfl ?_
        refine g_iconst C dL_build_263 (v := 3) (by decide) ?_
        refine g_iadd C dL_build_264 ?_
        rw [zero3]
        refine g_iload C dL_build_265 rfl ?_
        refine g_bipush C dL_build_267 (v := 6) (by decide) ?_
        refine g_irem C dL_build_269 (by decide) ?_
        rw [show (6 : Int32) = nI 6 from rfl, pk_div (by omega) (by decide) (by decide), pk_mul, pk_sub hle]
        refine g_iadd C dL_build_270 ?_
        rw [nI_add]
        refine g_callS C gy_L_cell tw_2_113 tw_2_114 (by decide) (l_cell F hX _ (3 + (k - k / 6 * 6)) (by omega)) rfl rfl (Nat.le_of_ble_eq_true rfl) (by omega) (by omega) dL_build_271 (fun _ _ h9 => h9.elim) ?_
        rintro _ _ ⟨rfl, v5, rfl⟩
        refine g_iload C dL_build_274 rfl ?_
        refine g_bipush C dL_build_276 (v := 6) (by decide) ?_
        refine g_idiv C dL_build_278 (by decide) ?_
        refine g_bipush C dL_build_279 (v := 7) (by decide) ?_
        refine g_imul C dL_build_281 ?_
        refine g_ishr C dL_build_282 ?_
        refine g_aload C dL_build_283 rfl ?_
        refine g_aload C dL_build_285 rfl ?_
        refine g_callSH C gyh_write tw_2_219 tw_2_220 (by decide) (l_write F S5 x N Cu (tQ B5) _ A5 B5 w1 hK w5 o3 w6 o4 w2.2.2.2 h1 h4 (by omega) hb) rfl rfl (Nat.le_of_ble_eq_true rfl) (by omega) (by omega) dL_build_287 ?_
        rintro _ S6 ⟨A6, B6, hI6, ⟨e1, e2, e3, e4, e5, e6⟩, hK6, hc1, hc2, hC6, hN6, hb6, hF6, rfl⟩
        have hW6 : WO Γ S6 x P Y Cu N A6 B6 := by
          refine ⟨hI6, w2.fr hF6, fun i hi => ?_, fun i hi => ?_, hC6, ?_⟩
          · rw [((hF6 P w2.1.1.1.1).2.2.2.2.2 (fun w => w.elim (fun q => q o1) (fun q => q.elim (fun q => w2.ne.2.2 q) (fun q => w2.ne.2.1 q)))).1, e3, e4]
            exact w3 i (by rw [← e1]; exact hi)
          · rw [((hF6 Y w2.1.2.1.1.1).2.2.2.2.2 (fun w => w.elim (fun q => q o2) (fun q => q.elim (fun q => w2.2.2.1 q) (fun q => w2.1.2.2.2 q)))).1, e5, e6]
            exact w4 i (by rw [← e2]; exact hi)
          · rw [e1, e2]; exact hN6
        refine g_if_ne C dL_build_290 (tgt := 295) (by decide) (fun c2 => ?_) (fun c2 => ?_)
        · refine g_iinc C dL_build_295 rfl (by first | exact inc1 _ | exact rfl) (by decide) rfl ?_
          refine g_goto C dL_build_298 (tgt := 253) (by decide) ?_
          refine g_sub [(0, _), (1, _), (2, _), (3, _), (4, _), (5, _), (6, _), (7, _), (8, _), (9, _)] ⟨rfl, rfl, rfl, rfl, rfl, rfl, rfl, rfl, rfl, rfl, trivial⟩ ?_
          refine g_widen (37 + 92 * (k + 1)) (12023 + 4481 * (k + 1)) (by omega) (by omega) ?_
          exact ih (k + 1) tr S6 A6 B6 (by omega) htr hW6 (by omega) (by omega) (by omega) (by omega) hK6 hb6
        · exact absurd c2 (by decide)
  -- behind the players
  have at234 : ∀ (S4 : PS) (A4 : AD) (B4 : BT) (l8 : Int32), WO Γ S4 x P Y Cu N A4 B4 → 1 ≤ tN B4 → tN B4 ≤ 4 → tQ B4 ≤ 3 → tC B4 = 0 → BkN B4 → GW Γ X S4 37 12023 234 [(0, .ref x), (1, .ref (bB Γ)), (2, .int (nI 0)), (3, .int (nI 18)), (4, .ref P), (5, .ref Y), (6, .ref Cu), (7, .ref N), (8, .int l8)] [] := by
    intro S4 A4 B4 l8 hW h1 h4 h3 hc hK
    refine g_aload_n C dL_build_234 rfl rfl ?_
    refine g_iload_n C dL_build_235 rfl rfl ?_
    refine g_callS C gy_L_cell tw_2_113 tw_2_114 (by decide) (l_cell F hX _ 0 (by decide)) rfl rfl (Nat.le_of_ble_eq_true rfl) (by omega) (by omega) dL_build_236 (fun _ _ h9 => h9.elim) ?_
    rintro _ _ ⟨rfl, v5, rfl⟩
    refine g_bipush C dL_build_239 (v := 6) (by decide) ?_
    refine g_ishr C dL_build_241 ?_
    refine g_iload_n C dL_build_242 rfl rfl ?_
    refine g_iconst C dL_build_243 (v := 1) (by decide) ?_
    refine g_iadd C dL_build_244 ?_
    rw [ix_1]
    refine g_callS C gy_L_below tw_2_117 tw_2_118 (by decide) (l_below F _ _ (18 + 1) (by decide) (by decide)) rfl rfl (Nat.le_of_ble_eq_true rfl) (by omega) (by omega) dL_build_245 (fun _ _ h9 => h9.elim) ?_
    rintro _ _ ⟨rfl, t5, ht5, rfl⟩
    refine g_istore C dL_build_248 (by decide) rfl ?_
    refine g_iconst C dL_build_250 (v := 0) (by decide) ?_
    refine g_istore C dL_build_251 (by decide) rfl ?_
    refine g_sub [(0, _), (1, _), (2, _), (3, _), (4, _), (5, _), (6, _), (7, _), (8, _), (9, _)] ⟨rfl, rfl, rfl, rfl, rfl, rfl, rfl, rfl, rfl, rfl, trivial⟩ ?_
    exact tries t5 0 t5 S4 A4 B4 (by omega) (by omega) hW h1 h4 h3 (by omega) hK (fun c hcc => by omega)
  -- the players
  have players : ∀ (m k : Nat) (S4 : PS) (A4 : AD) (B4 : BT), k + m = t2 → BkI Γ S4 x A4 B4 → AL S4 P Y Cu N → PuV S4 P B4 → PyV S4 Y B4 → tQ B4 = k → tN B4 = 1 + t1 → tC B4 = 0 → BkN B4 → NrR S4 N (1 + t1) t2 0 → GW Γ X S4 (25 + 4 * k) (8603 + 1140 * k) 140 [(0, .ref x), (1, .ref (bB Γ)), (2, .int (nI 0)), (3, .int (nI 18)), (4, .ref P), (5, .ref Y), (6, .ref Cu), (7, .ref N), (8, .int (nI k))] [] := by
    intro m
    induction m with
    | zero =>
      intro k S4 A4 B4 hk hI4 hAL4 hPu hPy hq hn hc hK hN4
      refine g_iload C dL_build_140 rfl ?_
      refine g_aload C dL_build_142 rfl ?_
      refine g_iconst C dL_build_144 (v := 1) (by decide) ?_
      refine g_ldI C i1 hN4.1 (by rw [hN4.2.1]; decide) (by decide) hN4.2.2.2.1 dL_build_145 ?_
      refine g_icmp_ge C dL_build_146 (tgt := 234) (by decide) (fun c1 => ?_) (fun c1 => ?_)
      · refine g_widen 37 12023 (by omega) (by omega) ?_
        refine at234 S4 A4 B4 _ ⟨hI4, hAL4, hPu, hPy, ⟨hAL4.1.2.2.1.1, hAL4.1.2.2.1.2.1, fun c hcc => by omega⟩, ?_⟩ (by omega) (by omega) (by omega) hc hK
        rw [hn, hq, hc, show k = t2 by omega]
        exact hN4
      · exact absurd (nI_le (by omega) (by omega)) c1
    | succ m ih =>
      intro k S4 A4 B4 hk hI4 hAL4 hPu hPy hq hn hc hK hN4
      have hY4 := hAL4.1.2.1
      have k3 : k < 3 := by omega
      have hV4 : VB B4 := hI4.2.2.2.2.2.2.2.2.2.2
      refine g_iload C dL_build_140 rfl ?_
      refine g_aload C dL_build_142 rfl ?_
      refine g_iconst C dL_build_144 (v := 1) (by decide) ?_
      refine g_ldI C i1 hN4.1 (by rw [hN4.2.1]; decide) (by decide) hN4.2.2.2.1 dL_build_145 ?_
      refine g_icmp_ge C dL_build_146 (tgt := 234) (by decide) (fun c1 => ?_) (fun c1 => ?_)
      · exact absurd c1 (nI_ge (by omega) (by omega))
      · refine g_aload C dL_build_149 rfl ?_
        refine g_iconst C dL_build_151 (v := 2) (by decide) ?_
        refine g_iload C dL_build_152 rfl ?_
        refine g_imul C dL_build_154 ?_
        refine g_iconst C dL_build_155 (v := 1) (by decide) ?_
        refine g_aload_n C dL_build_156 rfl rfl ?_
        refine g_iload_n C dL_build_157 rfl rfl ?_
        refine g_iconst C dL_build_158 (v := 2) (by decide) ?_
        refine g_iadd C dL_build_159 ?_
        rw [zero2]
        refine g_callS C gy_L_cell tw_2_113 tw_2_114 (by decide) (l_cell F hX _ 2 (by decide)) rfl rfl (Nat.le_of_ble_eq_true rfl) (by omega) (by omega) dL_build_160 (fun _ _ h9 => h9.elim) ?_
        rintro _ _ ⟨rfl, v5, rfl⟩
        refine g_iconst C dL_build_163 (v := 4) (by decide) ?_
        refine g_iload C dL_build_164 rfl ?_
        refine g_imul C dL_build_166 ?_
        refine g_ishr C dL_build_167 ?_
        refine g_bipush C dL_build_168 (v := 20) (by decide) ?_
        refine g_callS C gy_L_below tw_2_117 tw_2_118 (by decide) (l_below F _ _ 20 (by decide) (by decide)) rfl rfl (Nat.le_of_ble_eq_true rfl) (by omega) (by omega) dL_build_170 (fun _ _ h9 => h9.elim) ?_
        rintro _ _ ⟨rfl, t5, ht5, rfl⟩
        refine g_iadd C dL_build_173 ?_
        rw [i1, nI_add]
        refine g_stI C (ix2_0 k) hY4.1 (by rw [hY4.2.1]; omega) (by omega) dL_build_174 ?_
        refine g_aload C dL_build_175 rfl ?_
        refine g_iconst C dL_build_177 (v := 2) (by decide) ?_
        refine g_iload C dL_build_178 rfl ?_
        refine g_imul C dL_build_180 ?_
        refine g_iconst C dL_build_181 (v := 1) (by decide) ?_
        refine g_iadd C dL_build_182 ?_
        refine g_aload_n C dL_build_183 rfl rfl ?_
        refine g_iload_n C dL_build_184 rfl rfl ?_
        refine g_iconst C dL_build_185 (v := 2) (by decide) ?_
        refine g_iadd C dL_build_186 ?_
        rw [zero2]
        refine g_callS C gy_L_cell tw_2_113 tw_2_114 (by decide) (l_cell F hX _ 2 (by decide)) rfl rfl (Nat.le_of_ble_eq_true rfl) (by omega) (by omega) dL_build_187 (fun _ _ h9 => h9.elim) ?_
        rintro _ _ ⟨rfl, v6, rfl⟩
        refine g_iconst C dL_build_190 (v := 5) (by decide) ?_
        refine g_iload C dL_build_191 rfl ?_
        refine g_imul C dL_build_193 ?_
        refine g_ishr C dL_build_194 ?_
        refine g_bipush C dL_build_195 (v := 20) (by decide) ?_
        refine g_callS C gy_L_below tw_2_117 tw_2_118 (by decide) (l_below F _ _ 20 (by decide) (by decide)) rfl rfl (Nat.le_of_ble_eq_true rfl) (by omega) (by omega) dL_build_197 (fun _ _ h9 => h9.elim) ?_
        rintro _ _ ⟨rfl, t6, ht6, rfl⟩
        refine g_stI C (ix2_1 k) hY4.1 (by show _ < pN S4 Y; rw [hY4.2.1]; omega) (by omega) dL_build_200 ?_
        rw [uR_uR, uR_q]
        obtain ⟨S5, hS5⟩ : ∃ S5, S5 = uR S4 Y (va_up (va_up (pR S4 Y) (2 * k) (nI (1 + t5))) (2 * k + 1) (nI t6)) := ⟨_, rfl⟩
        rw [← hS5]
        have hF5 : Fr S4 S5 moN (fun _ b => b = Y) := by rw [hS5]; exact fr_uR rfl
        have hI5 : BkI Γ S5 x A4 B4 := by rw [hS5]; exact hI4.uR hAL4.w.2.1
        have hAL5 := hAL4.fr hF5
        have hR5 : pR S5 Y = va_up (va_up (pR S4 Y) (2 * k) (nI (1 + t5))) (2 * k + 1) (nI t6) := by rw [hS5, uR_q]
        have hY5 := hAL5.1.2.1
        have r0 : pR S5 Y (2 * k) = nI (1 + t5) := by rw [hR5, va_up_ne _ _ (by omega), va_up_self]
        have r1 : pR S5 Y (2 * k + 1) = nI t6 := by rw [hR5, va_up_self]
        have hPu5 : PuV S5 P B4 := fun i hi => by
          rw [((hF5 P hAL4.1.1.1.1).2.2.2.2.2 hAL4.ne.1).1]; exact hPu i hi
        have hN5 : NrR S5 N (1 + t1) t2 0 := hN4.fr hF5 (fun e => hAL4.2.2.1 e.symm)
        have hin : in1 (nI (1 + t5)) 20 := ⟨1 + t5, by omega, by omega, rfl⟩
        have hin2 : inR (nI t6) 20 := ⟨t6, ht6, rfl⟩
        refine g_aload_n C dL_build_201 rfl rfl ?_
        refine g_aload C dL_build_202 rfl ?_
        refine g_iconst C dL_build_204 (v := 2) (by decide) ?_
        refine g_iload C dL_build_205 rfl ?_
        refine g_imul C dL_build_207 ?_
        refine g_ldI C (ix2_0 k) hY5.1 (by rw [hY5.2.1]; omega) (by omega) r0 dL_build_208 ?_
        refine g_aload C dL_build_209 rfl ?_
        refine g_iconst C dL_build_211 (v := 2) (by decide) ?_
        refine g_iload C dL_build_212 rfl ?_
        refine g_imul C dL_build_214 ?_
        refine g_iconst C dL_build_215 (v := 1) (by decide) ?_
        refine g_iadd C dL_build_216 ?_
        refine g_ldI C (ix2_1 k) hY5.1 (by rw [hY5.2.1]; omega) (by omega) r1 dL_build_217 ?_
        refine g_callV C gy_X5_addPlayer tw_2_191 tw_2_192 tw_2_193 (by decide) (kk := 5) rfl rfl (by exact hI5.1) (m_addPlayer F S5 x (nI (1 + t5)) (nI t6) A4 B4 hI5) rfl rfl (Nat.le_of_ble_eq_true rfl) (by omega) (by omega) dL_build_218 (fun E S9 h9 => h9.2.elim (fun h => absurd ⟨hin, hin2⟩ h.2) (fun h => absurd h.2.2.2 (by omega))) ?_
        rintro _ _ ⟨s, o, a1, a2, a3, a4, a5, a6, ⟨A6, hI6⟩, hF6, rfl⟩
        refine g_iload C dL_build_221 rfl ?_
        rename_i S6
        have es : s = 1 + t5 := (nI_inj (by omega) (by omega) a3).symm
        have eo : o = t6 := (nI_inj (by omega) (by omega) a5).symm
        rw [hq]
        obtain ⟨o1, o2, o3, o4⟩ := hAL5.w
        refine g_icmp_eq C dL_build_223 (tgt := 228) (by decide) (fun c2 => ?_) (fun c2 => ?_)
        · refine g_iinc C dL_build_228 rfl (by first | exact inc1 _ | exact rfl) (by decide) rfl ?_
          refine g_goto C dL_build_231 (tgt := 140) (by decide) ?_
          refine g_sub [(0, _), (1, _), (2, _), (3, _), (4, _), (5, _), (6, _), (7, _), (8, _)] ⟨rfl, rfl, rfl, rfl, rfl, rfl, rfl, rfl, rfl, trivial⟩ ?_
          refine g_widen (25 + 4 * (k + 1)) (8603 + 1140 * (k + 1)) (by omega) (by omega) ?_
          refine ih (k + 1) S6 A6 (plyB B4 s o) (by omega) hI6 (hAL5.fr hF6) (fun i hi => ?_) (fun i hi => ?_) (by show tQ B4 + 1 = k + 1; rw [hq]) hn hc hK (hN5.fr hF6 (fun w => w o4))
          · rw [hF6.row hAL5.1.1.1.1 o1]; exact hPu5 i hi
          · rw [hF6.row hAL5.1.2.1.1.1 o2]
            show pR S5 Y (2 * i) = nI (va_up (tT B4) (tQ B4) s i) ∧ pR S5 Y (2 * i + 1) = nI (va_up (tO B4) (tQ B4) o i)
            have hi : i < tQ B4 + 1 := hi
            by_cases e : i = tQ B4
            · rw [e, va_up_self, va_up_self, hq, r0, r1, es, eo]
              exact ⟨rfl, rfl⟩
            · rw [va_up_ne _ _ e, va_up_ne _ _ e, hR5, va_up_ne _ _ (by omega), va_up_ne _ _ (by omega), va_up_ne _ _ (by omega), va_up_ne _ _ (by omega)]
              exact hPy i (by omega)
        · exact absurd rfl c2
  -- the puppets
  have puppets : ∀ (m k : Nat) (S4 : PS) (A4 : AD) (B4 : BT), k + m = 1 + t1 → BkI Γ S4 x A4 B4 → AL S4 P Y Cu N → PuV S4 P B4 → tQ B4 = 0 → tN B4 = k → tC B4 = 0 → BkN B4 → NrR S4 N (1 + t1) t2 0 → GW Γ X S4 (1 + 6 * k) (3 + 2150 * k) 40 [(0, .ref x), (1, .ref (bB Γ)), (2, .int (nI 0)), (3, .int (nI 18)), (4, .ref P), (5, .ref Y), (6, .ref Cu), (7, .ref N), (8, .int (nI k))] [] := by
    intro m
    induction m with
    | zero =>
      intro k S4 A4 B4 hk hI4 hAL4 hPu hq hn hc hK hN4
      refine g_iload C dL_build_40 rfl ?_
      refine g_aload C dL_build_42 rfl ?_
      refine g_iconst C dL_build_44 (v := 0) (by decide) ?_
      refine g_ldI C i0 hN4.1 (by rw [hN4.2.1]; decide) (by decide) hN4.2.2.1 dL_build_45 ?_
      refine g_icmp_ge C dL_build_46 (tgt := 137) (by decide) (fun c1 => ?_) (fun c1 => ?_)
      · refine g_iconst C dL_build_137 (v := 0) (by decide) ?_
        refine g_istore C dL_build_138 (by decide) rfl ?_
        refine g_sub [(0, _), (1, _), (2, _), (3, _), (4, _), (5, _), (6, _), (7, _), (8, _)] ⟨rfl, rfl, rfl, rfl, rfl, rfl, rfl, rfl, rfl, trivial⟩ ?_
        refine g_widen 25 8603 (by omega) (by omega) ?_
        exact players t2 0 S4 A4 B4 (by omega) hI4 hAL4 hPu (fun i hi => by omega) hq (by omega) hc hK hN4
      · exact absurd (nI_le (by omega) (by omega)) c1
    | succ m ih =>
      intro k S4 A4 B4 hk hI4 hAL4 hPu hq hn hc hK hN4
      have hP4 := hAL4.1.1
      have k4 : k < 4 := by omega
      refine g_iload C dL_build_40 rfl ?_
      refine g_aload C dL_build_42 rfl ?_
      refine g_iconst C dL_build_44 (v := 0) (by decide) ?_
      refine g_ldI C i0 hN4.1 (by rw [hN4.2.1]; decide) (by decide) hN4.2.2.1 dL_build_45 ?_
      refine g_icmp_ge C dL_build_46 (tgt := 137) (by decide) (fun c1 => ?_) (fun c1 => ?_)
      · exact absurd c1 (nI_ge (by omega) (by omega))
      · refine g_aload C dL_build_49 rfl ?_
        refine g_iconst C dL_build_51 (v := 2) (by decide) ?_
        refine g_iload C dL_build_52 rfl ?_
        refine g_imul C dL_build_54 ?_
        refine g_iconst C dL_build_55 (v := 1) (by decide) ?_
        refine g_aload_n C dL_build_56 rfl rfl ?_
        refine g_iload_n C dL_build_57 rfl rfl ?_
        refine g_iconst C dL_build_58 (v := 1) (by decide) ?_
        refine g_iadd C dL_build_59 ?_
        rw [zero0]
        refine g_callS C gy_L_cell tw_2_113 tw_2_114 (by decide) (l_cell F hX _ 1 (by decide)) rfl rfl (Nat.le_of_ble_eq_true rfl) (by omega) (by omega) dL_build_60 (fun _ _ h9 => h9.elim) ?_
        rintro _ _ ⟨rfl, v5, rfl⟩
        refine g_iconst C dL_build_63 (v := 4) (by decide) ?_
        refine g_iload C dL_build_64 rfl ?_
        refine g_imul C dL_build_66 ?_
        refine g_ishr C dL_build_67 ?_
        refine g_bipush C dL_build_68 (v := 9) (by decide) ?_
        refine g_callS C gy_L_below tw_2_117 tw_2_118 (by decide) (l_below F _ _ 9 (by decide) (by decide)) rfl rfl (Nat.le_of_ble_eq_true rfl) (by omega) (by omega) dL_build_70 (fun _ _ h9 => h9.elim) ?_
        rintro _ _ ⟨rfl, t5, ht5, rfl⟩
        refine g_iadd C dL_build_73 ?_
        rw [i1, nI_add]
        refine g_stZ C (ix2_0 k) hP4.1 (by rw [hP4.2.1]; omega) (by omega) dL_build_74 ?_
        refine g_aload C dL_build_75 rfl ?_
        refine g_iconst C dL_build_77 (v := 2) (by decide) ?_
        refine g_iload C dL_build_78 rfl ?_
        refine g_imul C dL_build_80 ?_
        refine g_iconst C dL_build_81 (v := 1) (by decide) ?_
        refine g_iadd C dL_build_82 ?_
        refine g_iconst C dL_build_83 (v := 1) (by decide) ?_
        refine g_aload_n C dL_build_84 rfl rfl ?_
        refine g_iload_n C dL_build_85 rfl rfl ?_
        refine g_iconst C dL_build_86 (v := 1) (by decide) ?_
        refine g_iadd C dL_build_87 ?_
        rw [zero0]
        refine g_callS C gy_L_cell tw_2_113 tw_2_114 (by decide) (l_cell F hX _ 1 (by decide)) rfl rfl (Nat.le_of_ble_eq_true rfl) (by omega) (by omega) dL_build_88 (fun _ _ h9 => h9.elim) ?_
        rintro _ _ ⟨rfl, v6, rfl⟩
        refine g_iconst C dL_build_91 (v := 5) (by decide) ?_
        refine g_iload C dL_build_92 rfl ?_
        refine g_imul C dL_build_94 ?_
        refine g_ishr C dL_build_95 ?_
        refine g_iconst C dL_build_96 (v := 4) (by decide) ?_
        refine g_callS C gy_L_below tw_2_117 tw_2_118 (by decide) (l_below F _ _ 4 (by decide) (by decide)) rfl rfl (Nat.le_of_ble_eq_true rfl) (by omega) (by omega) dL_build_97 (fun _ _ h9 => h9.elim) ?_
        rintro _ _ ⟨rfl, t6, ht6, rfl⟩
        refine g_iconst C dL_build_100 (v := 3) (by decide) ?_
        refine g_idiv C dL_build_101 (by decide) ?_
        rw [show (3 : Int32) = nI 3 from rfl, pk_div (by omega) (by decide) (by decide)]
        refine g_iadd C dL_build_102 ?_
        rw [i1, nI_add]
        refine g_stZ C (ix2_1 k) hP4.1 (by show _ < pN S4 P; rw [hP4.2.1]; omega) (by omega) dL_build_103 ?_
        rw [uR_uR, uR_q]
        have ht63 : t6 / 3 ≤ 1 := by omega
        obtain ⟨h6, hh6⟩ : ∃ h6, h6 = t6 / 3 := ⟨_, rfl⟩
        rw [← hh6] at ht63 ⊢
        obtain ⟨S5, hS5⟩ : ∃ S5, S5 = uR S4 P (va_up (va_up (pR S4 P) (2 * k) (nI (1 + t5))) (2 * k + 1) (nI (1 + h6))) := ⟨_, rfl⟩
        rw [← hS5]
        have hF5 : Fr S4 S5 moN (fun _ b => b = P) := by rw [hS5]; exact fr_uR rfl
        have hI5 : BkI Γ S5 x A4 B4 := by rw [hS5]; exact hI4.uR hAL4.w.1
        have hAL5 := hAL4.fr hF5
        have hR5 : pR S5 P = va_up (va_up (pR S4 P) (2 * k) (nI (1 + t5))) (2 * k + 1) (nI (1 + h6)) := by rw [hS5, uR_q]
        have hP5 := hAL5.1.1
        have r0 : pR S5 P (2 * k) = nI (1 + t5) := by rw [hR5, va_up_ne _ _ (by omega), va_up_self]
        have r1 : pR S5 P (2 * k + 1) = nI (1 + h6) := by rw [hR5, va_up_self]
        have hN5 : NrR S5 N (1 + t1) t2 0 := hN4.fr hF5 (fun e => hAL4.ne.2.2 e.symm)
        have hin : in1 (nI (1 + t5)) 9 := ⟨1 + t5, by omega, by omega, rfl⟩
        have hin2 : in1 (nI (1 + h6)) 2 := ⟨1 + h6, by omega, by omega, rfl⟩
        refine g_aload_n C dL_build_104 rfl rfl ?_
        refine g_aload C dL_build_105 rfl ?_
        refine g_iconst C dL_build_107 (v := 2) (by decide) ?_
        refine g_iload C dL_build_108 rfl ?_
        refine g_imul C dL_build_110 ?_
        refine g_ldZ C (ix2_0 k) hP5.1 (by rw [hP5.2.1]; omega) (by omega) r0 dL_build_111 ?_
        refine g_aload C dL_build_112 rfl ?_
        refine g_iconst C dL_build_114 (v := 2) (by decide) ?_
        refine g_iload C dL_build_115 rfl ?_
        refine g_imul C dL_build_117 ?_
        refine g_iconst C dL_build_118 (v := 1) (by decide) ?_
        refine g_iadd C dL_build_119 ?_
        refine g_ldZ C (ix2_1 k) hP5.1 (by rw [hP5.2.1]; omega) (by omega) r1 dL_build_120 ?_
        refine g_callV C gy_X5_addPuppet tw_2_121 tw_2_122 tw_2_123 (by decide) (kk := 5) rfl rfl (by exact hI5.1) (m_addPuppet F S5 x (nI (1 + t5)) (nI (1 + h6)) A4 B4 hI5) rfl rfl (Nat.le_of_ble_eq_true rfl) (by omega) (by omega) dL_build_121 (fun E S9 h9 => h9.2.elim (fun h => absurd ⟨hin, hin2⟩ h.2) (fun h => absurd h.2.2.2 (by omega))) ?_
        rintro _ _ ⟨s, o, a1, a2, a3, a4, a5, a6, a7, ⟨A6, hI6⟩, hF6, rfl⟩
        refine g_iload C dL_build_124 rfl ?_
        rename_i S6
        have es : s = 1 + t5 := (nI_inj (by omega) (by omega) a3).symm
        have eo : o = 1 + h6 := (nI_inj (by omega) (by omega) a6).symm
        rw [hn]
        obtain ⟨o1, o2, o3, o4⟩ := hAL5.w
        refine g_icmp_eq C dL_build_126 (tgt := 131) (by decide) (fun c2 => ?_) (fun c2 => ?_)
        · refine g_iinc C dL_build_131 rfl (by first | exact inc1 _ | exact rfl) (by decide) rfl ?_
          refine g_goto C dL_build_134 (tgt := 40) (by decide) ?_
          refine g_sub [(0, _), (1, _), (2, _), (3, _), (4, _), (5, _), (6, _), (7, _), (8, _)] ⟨rfl, rfl, rfl, rfl, rfl, rfl, rfl, rfl, rfl, trivial⟩ ?_
          refine g_widen (1 + 6 * (k + 1)) (3 + 2150 * (k + 1)) (by omega) (by omega) ?_
          refine ih (k + 1) S6 A6 (pupB B4 s o) (by omega) hI6 (hAL5.fr hF6) (fun i hi => ?_) hq (by show tN B4 + 1 = k + 1; rw [hn]) hc hK (hN5.fr hF6 (fun w => w o4))
          rw [hF6.row hAL5.1.1.1.1 o1]
          show pR S5 P (2 * i) = nI (va_up (tW B4) (tN B4) s i) ∧ pR S5 P (2 * i + 1) = nI (va_up (tH B4) (tN B4) o i)
          have hi : i < tN B4 + 1 := hi
          by_cases e : i = tN B4
          · rw [e, va_up_self, va_up_self, hn, r0, r1, es, eo]
            exact ⟨rfl, rfl⟩
          · rw [va_up_ne _ _ e, va_up_ne _ _ e, hR5, va_up_ne _ _ (by omega), va_up_ne _ _ (by omega), va_up_ne _ _ (by omega), va_up_ne _ _ (by omega)]
            exact hPu i (by omega)
        · exact absurd rfl c2
  refine g_astore C dL_build_35 (by decide) rfl ?_
  refine g_iconst C dL_build_37 (v := 0) (by decide) ?_
  refine g_istore C dL_build_38 (by decide) rfl ?_
  refine g_sub [(0, _), (1, _), (2, _), (3, _), (4, _), (5, _), (6, _), (7, _), (8, _)] ⟨rfl, rfl, rfl, rfl, rfl, rfl, rfl, rfl, rfl, trivial⟩ ?_
  refine g_widen (1 + 6 * 0) (3 + 2150 * 0) (by omega) (by omega) ?_
  exact puppets (1 + t1) 0 S2 A B0 (by omega) hI2 hAL2 (fun i hi => absurd hi (Nat.not_lt_zero i)) rfl rfl rfl (fun _ => rfl) hN2
