/-! ===== the law writes a cue that a cell chooses ===== -/
def FrW (S S' : PS) (N Cu : Nat) : Prop := Fr S S' (fun _ b => ¬ al S b 9) (fun o b => ¬ al S o 9 ∨ b = N ∨ b = Cu)
theorem FrB.w {S S' : PS} {N Cu : Nat} (h : FrB S S') : FrW S S' N Cu := Fr.mono h (fun _ _ _ h => h) (fun _ _ _ h => Or.inl h)
theorem FrW.n {S S' : PS} {N Cu : Nat} (h : Fr S S' moN maN) : FrW S S' N Cu := Fr.mono h (fun _ _ _ h => h.elim) (fun _ _ _ h => h.elim)
theorem FrW.u1 {S : PS} {N Cu : Nat} {r : Nat → Int32} : FrW S (uR S N r) N Cu := fr_uR (Or.inr (Or.inl rfl))
theorem FrW.u2 {S : PS} {N Cu : Nat} {r : Nat → Int32} : FrW S (uR S Cu r) N Cu := fr_uR (Or.inr (Or.inr rfl))
theorem FrW.tr {S S1 S2 : PS} {N Cu : Nat} (h1 : FrW S S1 N Cu) (h2 : FrW S1 S2 N Cu) : FrW S S2 N Cu := Fr.tr h1 h2 (fun f b _ h ha => h.elim (fun q => q ha) (fun q => q (ha.fr h1))) (fun o b _ h => h.elim id (fun q => q.elim (fun w => Or.inl (fun ha => w (ha.fr h1))) Or.inr))
theorem BkI.frN {Γ : GBase} {S S' : PS} {x : Nat} {A : AD} {B : BT} (h : BkI Γ S x A B) (hf : Fr S S' moN maN) : BkI Γ S' x A B := h.frA hf (fun _ _ _ _ _ e => e) (fun _ _ _ _ _ e => e)
theorem BkI.uR {Γ : GBase} {S : PS} {x N : Nat} {A : AD} {B : BT} {r : Nat → Int32} (h : BkI Γ S x A B) (hN : al S (pW S N) 9) : BkI Γ (uR S N r) x A B := by
  refine h.frA (fr_uR (mo := moN) (ma := fun _ b => b = N) rfl) (fun _ _ _ _ _ e => e) (fun T o hT ho hw e => ?_)
  subst e
  rw [hw] at hN
  rcases ho with ho | ho | ho <;> (have := ho.2.symm.trans hN.2; omega)
/-- the law's row of three counts -/
def NrR (S : PS) (N a b c : Nat) : Prop := al S N 8 ∧ pN S N = 3 ∧ pR S N 0 = nI a ∧ pR S N 1 = nI b ∧ pR S N 2 = nI c
theorem NrR.fr {S S' : PS} {mo ma : Nat → Nat → Prop} {N a b c : Nat} (h : NrR S N a b c) (hf : Fr S S' mo ma) (hm : ¬ ma (pW S N) N) : NrR S' N a b c := by
  obtain ⟨h1, h2, h3, h4, h5⟩ := h
  have e := ((hf N h1.1).2.2.2.2.2 hm).1
  exact ⟨h1.fr hf, ((hf N h1.1).2.2.1).trans h2, by rw [e]; exact h3, by rw [e]; exact h4, by rw [e]; exact h5⟩
theorem NrR.set {S : PS} {N a b c c' : Nat} (h : NrR S N a b c) : NrR (uR S N (va_up (pR S N) 2 (nI c'))) N a b c' := by
  obtain ⟨h1, h2, h3, h4, h5⟩ := h
  refine ⟨h1, h2, ?_, ?_, ?_⟩
  · rw [uR_q, va_up_ne _ _ (by decide)]; exact h3
  · rw [uR_q, va_up_ne _ _ (by decide)]; exact h4
  · rw [uR_q, va_up_self]
def BkN (B : BT) : Prop := ∀ c, tK B c = false
def BtI (B : BT) : Prop := ∀ c, c < tC B → (tU B c).2.2.1 ≤ 60 + 12 * tC B
def Bsm (B B' : BT) : Prop := tN B' = tN B ∧ tQ B' = tQ B ∧ tW B' = tW B ∧ tH B' = tH B ∧ tT B' = tT B ∧ tO B' = tO B
/-- the row with a cue more -/
def row6 (r : Nat → Int32) (n : Nat) (k p b x3 x4 : Int32) : Nat → Int32 := va_up (va_up (va_up (va_up (va_up (va_up r (6 * n) k) (6 * n + 1) p) (6 * n + 2) b) (6 * n + 3) x3) (6 * n + 4) x4) (6 * n + 5) 1
theorem row6_old {r : Nat → Int32} {n j : Nat} {k p b x3 x4 : Int32} (h : j < 6 * n) : row6 r n k p b x3 x4 j = r j := by
  unfold row6
  rw [va_up_ne _ _ (by omega), va_up_ne _ _ (by omega), va_up_ne _ _ (by omega), va_up_ne _ _ (by omega), va_up_ne _ _ (by omega), va_up_ne _ _ (by omega)]
theorem row6_new (r : Nat → Int32) (n : Nat) (k p b x3 x4 : Int32) : row6 r n k p b x3 x4 (6 * n) = k ∧ row6 r n k p b x3 x4 (6 * n + 1) = p ∧ row6 r n k p b x3 x4 (6 * n + 2) = b ∧ row6 r n k p b x3 x4 (6 * n + 3) = x3 ∧ row6 r n k p b x3 x4 (6 * n + 4) = x4 ∧ row6 r n k p b x3 x4 (6 * n + 5) = 1 := by
  unfold row6
  refine ⟨?_, ?_, ?_, ?_, ?_, ?_⟩
  · rw [va_up_ne _ _ (by omega), va_up_ne _ _ (by omega), va_up_ne _ _ (by omega), va_up_ne _ _ (by omega), va_up_ne _ _ (by omega), va_up_self]
  · rw [va_up_ne _ _ (by omega), va_up_ne _ _ (by omega), va_up_ne _ _ (by omega), va_up_ne _ _ (by omega), va_up_self]
  · rw [va_up_ne _ _ (by omega), va_up_ne _ _ (by omega), va_up_ne _ _ (by omega), va_up_self]
  · rw [va_up_ne _ _ (by omega), va_up_ne _ _ (by omega), va_up_self]
  · rw [va_up_ne _ _ (by omega), va_up_self]
  · rw [va_up_self]
theorem CuR.new {S : PS} {a n p : Nat} {u : Nat → Nat × D4} {d : D4} {x3 x4 : Int32} (h : CuR S a n u) (hd : okD d) (hp : p < 8) (h3 : d.1 ≤ 1 → x3 = nI d.2.2.1) : CuR (uR S a (row6 (pR S a) n (nI d.1) (nI p) (nI d.2.1) x3 x4)) a (n + 1) (va_up u n (p, d)) := by
  obtain ⟨h1, h2, h4⟩ := h
  refine ⟨h1, h2, fun c hc => ?_⟩
  rw [uR_q]
  by_cases e : c = n
  · subst e
    obtain ⟨r0, r1, r2, r3, -, r5⟩ := row6_new (pR S a) c (nI d.1) (nI p) (nI d.2.1) x3 x4
    rw [va_up_self]
    exact ⟨⟨r0, r1, r2, r5⟩, fun q => r3.trans (h3 q), hd, hp⟩
  · rw [va_up_ne _ _ e, row6_old (by omega), row6_old (by omega), row6_old (by omega), row6_old (by omega), row6_old (by omega)]
    exact h4 c (by omega)
/-- what the class's answer to a cue was -/
def Told (Γ : GBase) (S : PS) (x p : Nat) (A : AD) (B : BT) (d : D4) (t : Int32) : Prop := (t = nI (tC B) ∧ okL none (dsB (addB B p d) p) = true ∧ ∃ A', BkI Γ S x A' (addB B p d)) ∨ (t = -3 ∧ okL none (dsB (addB B p d) p) = false ∧ BkI Γ S x A B)
theorem DidW.told {Γ : GBase} {S S' : PS} {x p : Nat} {A : AD} {B : BT} {d : D4} {r : Option Value} (h : DidW Γ S S' x A B p d r) : r = some (.int (nI (tC B))) ∧ Told Γ S' x p A B d (nI (tC B)) ∧ FrB S S' := ⟨h.2.2.1, Or.inl ⟨rfl, h.2.1, h.2.2.2.1⟩, h.2.2.2.2⟩
theorem NotW.told {Γ : GBase} {S S' : PS} {x p : Nat} {A : AD} {B : BT} {d : D4} (h : NotW Γ S S' x A B p d) (hc : tC B < 40) : Told Γ S' x p A B d (-3) ∧ FrB S S' := ⟨Or.inr ⟨rfl, h.1.elim (fun q => by omega) id, h.2.1⟩, h.2.2⟩
theorem l_write {Γ : GBase} (F : FB Γ) (S : PS) (x N Cu nb : Nat) (v : Int32) (A : AD) (B : BT) (hI : BkI Γ S x A B) (hK : BkN B) (hC : CuR S Cu (tC B) (tU B)) (hCw : al S (pW S Cu) 9) (hN : NrR S N (tN B) nb (tC B)) (hNw : al S (pW S N) 9) (hne : Cu ≠ N) (h1 : 1 ≤ tN B) (h4 : tN B ≤ 4) (h17 : tC B ≤ 17) (hbt : BtI B) : GMetH Γ yL_write cL_write 12 (some FieldType.boolean) [(293, 377, 380, 50)] 11 92 4481 [.ref x, .int v, .ref N, .ref Cu] S (fun r S' => ∃ A' B', BkI Γ S' x A' B' ∧ Bsm B B' ∧ BkN B' ∧ tC B ≤ tC B' ∧ tC B' ≤ tC B + 1 ∧ CuR S' Cu (tC B') (tU B') ∧ NrR S' N (tN B) nb (tC B') ∧ BtI B' ∧ FrW S S' N Cu ∧ r = some (.int 1)) := by
  refine GMetH.of (loc0 := [(0, .ref x), (1, .int v), (2, .ref N), (3, .ref Cu)]) F (by decide +kernel) rfl (Nat.le_of_ble_eq_true rfl) (fun X C R Tb => ?_)
  obtain ⟨n, hn⟩ : ∃ n, n = tC B := ⟨_, rfl⟩
  have hV : VB B := hI.2.2.2.2.2.2.2.2.2.2
  obtain ⟨hN8, hNN, hN0, hN1, hN2⟩ := id hN
  obtain ⟨hC8, hCN, hcu⟩ := id hC
  -- behind the class's answer
  have fin : ∀ (S2 : PS) (p : Nat) (d : D4) (told : Int32) (l4 l6 l7 l8 l9 : Int32), p < tN B → okD d → d.2.1 ≤ 60 + 12 * (tC B + 1) → FrW S S2 N Cu → CuR S2 Cu (tC B + 1) (va_up (tU B) (tC B) (p, d)) → NrR S2 N (tN B) nb (tC B) → Told Γ S2 x p A B d told → GW Γ X S2 91 4440 386 [(0, .ref x), (1, .int v), (2, .ref N), (3, .ref Cu), (4, .int l4), (5, .int (nI p)), (6, .int l6), (7, .int l7), (8, .int l8), (9, .int l9), (10, .int told)] [] := by
    intro S2 p d told l4 l6 l7 l8 l9 hp hd hdb hF2 hC2 hN2 hT
    obtain ⟨m8, mN, m0, m1, m2⟩ := id hN2
    have mw : al S2 (pW S2 N) 9 := by rw [(hF2 N hN8.1).2.2.2.1]; exact hNw.fr hF2
    refine g_aload_n C dL_write_386 rfl rfl ?_
    refine g_iconst C dL_write_387 (v := 2) (by decide) ?_
    refine g_dup2 C dL_write_388 rfl rfl ?_
    refine g_ldI C i2 m8 (by rw [mN]; decide) (by decide) m2 dL_write_389 ?_
    refine g_iconst C dL_write_390 (v := 1) (by decide) ?_
    refine g_iadd C dL_write_391 ?_
    rw [ix_1]
    refine g_stI C i2 m8 (by rw [mN]; decide) (by decide) dL_write_392 ?_
    obtain ⟨S3, hS3⟩ : ∃ S3, S3 = uR S2 N (va_up (pR S2 N) 2 (nI (tC B + 1))) := ⟨_, rfl⟩
    rw [← hS3]
    have hN3 : NrR S3 N (tN B) nb (tC B + 1) := by rw [hS3]; exact hN2.set
    have hF3 : FrW S S3 N Cu := by rw [hS3]; exact hF2.tr FrW.u1
    have hC3 : CuR S3 Cu (tC B + 1) (va_up (tU B) (tC B) (p, d)) := by rw [hS3]; exact hC2.fr (fr_uR (mo := moN) (ma := fun _ b => b = N) rfl) hne
    have hb3 : ∀ A' B', BkI Γ S2 x A' B' → BkI Γ S3 x A' B' := fun A' B' h => by rw [hS3]; exact h.uR mw
    obtain ⟨m8', mN', m0', m1', m2'⟩ := id hN3
    refine g_iload C dL_write_393 rfl ?_
    refine g_aload_n C dL_write_395 rfl rfl ?_
    refine g_iconst C dL_write_396 (v := 2) (by decide) ?_
    refine g_ldI C i2 m8' (by rw [mN']; decide) (by decide) m2' dL_write_397 ?_
    refine g_aload_n C dL_write_398 rfl rfl ?_
    refine g_callS C gy_L_areRight tw_3_169 tw_3_170 (by decide) (l_areRight F S3 p (tC B + 1) Cu (va_up (tU B) (tC B) (p, d)) hC3 (by omega) (by omega)) rfl rfl (Nat.le_of_ble_eq_true rfl) (by omega) (by omega) dL_write_399 (fun _ _ h9 => h9.elim) ?_
    rintro _ _ ⟨hF4, l, hl, w, hw, rfl⟩
    rename_i S4
    have hN4 : NrR S4 N (tN B) nb (tC B + 1) := hN3.fr hF4 id
    have hC4 : CuR S4 Cu (tC B + 1) (va_up (tU B) (tC B) (p, d)) := hC3.fr hF4 id
    have hFW4 : FrW S S4 N Cu := hF3.tr (FrW.n hF4)
    have hb4 : ∀ A' B', BkI Γ S2 x A' B' → BkI Γ S4 x A' B' := fun A' B' h => (hb3 A' B' h).frN hF4
    have mw4 : al S4 (pW S4 N) 9 := by rw [(hFW4 N hN8.1).2.2.2.1]; exact hNw.fr hFW4
    obtain ⟨n8, nN, n0, n1, n2⟩ := id hN4
    have hsc : scB (addB B p d) p = l := by
      have hl' : isScr (tU (addB B p d)) (tK (addB B p d)) (tC (addB B p d)) p l := by
        have e : tK (addB B p d) = fun _ => false := funext hK
        rw [e]; exact hl
      exact hl'.eqS
    have hds : dat (va_up (tU B) (tC B) (p, d)) l = dsB (addB B p d) p := by
      unfold dsB
      rw [hsc]
      rfl
    rw [hds] at hw
    rcases hT with ⟨rfl, hok, A', hB⟩ | ⟨rfl, hok, hB⟩
    · have ew : w = 1 := hw.elim (fun q => q.1) (fun q => absurd hok q.2)
      subst ew
      refine g_istore C dL_write_402 (by decide) rfl ?_
      refine g_iload C dL_write_404 rfl ?_
      refine g_if_ne C dL_write_406 (tgt := 416) (by decide) (fun c1 => ?_) (fun c1 => ?_)
      · refine g_iload C dL_write_416 rfl ?_
        refine g_iload C dL_write_418 rfl ?_
        refine g_if_eq C dL_write_420 (tgt := 431) (by decide) (fun c2 => ?_) (fun c2 => ?_)
        · exact absurd c2 (by decide)
        · refine g_aload_n C dL_write_423 rfl rfl ?_
          refine g_iconst C dL_write_424 (v := 2) (by decide) ?_
          refine g_ldI C i2 n8 (by rw [nN]; decide) (by decide) n2 dL_write_425 ?_
          refine g_iconst C dL_write_426 (v := 1) (by decide) ?_
          refine g_isub C dL_write_427 ?_
          rw [nI_pred]
          refine g_goto C dL_write_428 (tgt := 433) (by decide) ?_
          refine g_icmp_ne C dL_write_433 (tgt := 440) (by decide) (fun c3 => ?_) (fun c3 => ?_)
          · exact absurd rfl c3
          · refine g_iconst C dL_write_436 (v := 1) (by decide) ?_
            refine g_goto C dL_write_437 (tgt := 441) (by decide) ?_
            refine g_iret C R rfl (by omega) (by omega) dL_write_441 ?_
            refine ⟨A', addB B p d, hb4 _ _ hB, ⟨rfl, rfl, rfl, rfl, rfl, rfl⟩, hK, Nat.le_succ _, Nat.le_refl _, hC4, hN4, fun c hc => ?_, hFW4, rfl⟩
            have hc : c < tC B + 1 := hc
            show (va_up (tU B) (tC B) (p, d) c).2.2.1 ≤ 60 + 12 * (tC B + 1)
            by_cases e : c = tC B
            · rw [e, va_up_self]; exact hdb
            · rw [va_up_ne _ _ e]
              have := hbt c (by omega)
              omega
      · exact absurd c1 (by decide)
    · have ew : w = 0 := hw.elim (fun q => by rw [hok] at q; exact absurd q.2 (by decide)) (fun q => q.1)
      subst ew
      refine g_istore C dL_write_402 (by decide) rfl ?_
      refine g_iload C dL_write_404 rfl ?_
      refine g_if_ne C dL_write_406 (tgt := 416) (by decide) (fun c1 => ?_) (fun c1 => ?_)
      · exact absurd rfl c1
      · refine g_aload_n C dL_write_409 rfl rfl ?_
        refine g_iconst C dL_write_410 (v := 2) (by decide) ?_
        refine g_dup2 C dL_write_411 rfl rfl ?_
        refine g_ldI C i2 n8 (by rw [nN]; decide) (by decide) n2 dL_write_412 ?_
        refine g_iconst C dL_write_413 (v := 1) (by decide) ?_
        refine g_isub C dL_write_414 ?_
        rw [nI_pred]
        refine g_stI C i2 n8 (by rw [nN]; decide) (by decide) dL_write_415 ?_
        refine g_iload C dL_write_416 rfl ?_
        refine g_iload C dL_write_418 rfl ?_
        refine g_if_eq C dL_write_420 (tgt := 431) (by decide) (fun c2 => ?_) (fun c2 => ?_)
        · refine g_bipush C dL_write_431 (v := -3) (by decide) ?_
          refine g_icmp_ne C dL_write_433 (tgt := 440) (by decide) (fun c3 => ?_) (fun c3 => ?_)
          · exact absurd rfl c3
          · refine g_iconst C dL_write_436 (v := 1) (by decide) ?_
            refine g_goto C dL_write_437 (tgt := 441) (by decide) ?_
            refine g_iret C R rfl (by omega) (by omega) dL_write_441 ?_
            refine ⟨A, B, (hb4 _ _ hB).uR mw4, ⟨rfl, rfl, rfl, rfl, rfl, rfl⟩, hK, Nat.le_refl _, Nat.le_succ _, ?_, hN4.set, hbt, hFW4.tr FrW.u1, rfl⟩
            have hC5 : CuR (uR S4 N (va_up (pR S4 N) 2 (nI (tC B)))) Cu (tC B + 1) (va_up (tU B) (tC B) (p, d)) := hC4.fr (fr_uR (mo := moN) (ma := fun _ b => b = N) rfl) hne
            refine ⟨hC5.1, hC5.2.1, fun c hc => ?_⟩
            have := hC5.2.2 c (by omega)
            rw [va_up_ne _ _ (by omega)] at this
            exact this
        · exact absurd rfl c2
  -- the call itself
  have call : ∀ (kk p b pl tr : Nat) (x3 x4 : Int32) (l6 l7 : Int32), kk < 4 → p < tN B → b ≤ 60 + 12 * tC B + 11 → (kk ≤ 1 → x3 = nI pl ∧ pl < 20) → (kk = 0 ∨ kk = 2 → x4 = nI tr ∧ tr < 4) → GW Γ X (uR S Cu (row6 (pR S Cu) (tC B) (nI kk) (nI p) (nI b) x3 x4)) 0 0 289 [(0, .ref x), (1, .int v), (2, .ref N), (3, .ref Cu), (4, .int (nI (6 * tC B))), (5, .int (nI p)), (6, .int l6), (7, .int l7), (8, .int (nI kk)), (9, .int (nI b))] [] := by
    intro kk p b pl tr x3 x4 l6 l7 hkk hp hb h3 h4'
    obtain ⟨S1, hS1⟩ : ∃ S1, S1 = uR S Cu (row6 (pR S Cu) (tC B) (nI kk) (nI p) (nI b) x3 x4) := ⟨_, rfl⟩
    have hR : pR S1 Cu = row6 (pR S Cu) (tC B) (nI kk) (nI p) (nI b) x3 x4 := by rw [hS1, uR_q]
    obtain ⟨-, -, -, r3, r4, -⟩ := row6_new (pR S Cu) (tC B) (nI kk) (nI p) (nI b) x3 x4
    have c8 : al S1 Cu 8 := by rw [hS1]; exact hC8
    have cN : pN S1 Cu = 246 := by rw [hS1]; exact hCN
    have hI1 : BkI Γ S1 x A B := by rw [hS1]; exact hI.uR hCw
    have hF1 : FrW S S1 N Cu := by rw [hS1]; exact FrW.u2
    have hN1' : NrR S1 N (tN B) nb (tC B) := by rw [hS1]; exact hN.fr (fr_uR (mo := moN) (ma := fun _ b => b = Cu) rfl) hne.symm
    have hCn : ∀ d : D4, d.1 = kk → d.2.1 = b → okD d → (d.1 ≤ 1 → d.2.2.1 = pl) → CuR S1 Cu (tC B + 1) (va_up (tU B) (tC B) (p, d)) := by
      intro d e1 e2 hd e3
      have := hC.new (d := d) (p := p) (x3 := x3) (x4 := x4) hd (by omega) (fun q => by rw [e3 q]; exact (h3 (by omega)).1)
      rw [e1, e2] at this
      rw [hS1]; exact this
    have hC1w : al S1 (pW S1 Cu) 9 := by rw [hS1]; exact hCw
    rw [← hS1]
    have i3 : pR S1 Cu (6 * tC B + 3) = x3 := by rw [hR]; exact r3
    have i4 : pR S1 Cu (6 * tC B + 4) = x4 := by rw [hR]; exact r4
    have hx5 : al S1 x 5 := hI1.1
    -- behind an answer, behind a refusal
    have done : ∀ (S2 : PS) (d : D4) (t : Int32), d.1 = kk → d.2.1 = b → okD d → (d.1 ≤ 1 → d.2.2.1 = pl) → FrB S1 S2 → Told Γ S2 x p A B d t → GW Γ X S2 91 4440 386 [(0, .ref x), (1, .int v), (2, .ref N), (3, .ref Cu), (4, .int (nI (6 * tC B))), (5, .int (nI p)), (6, .int l6), (7, .int l7), (8, .int (nI kk)), (9, .int (nI b)), (10, .int t)] [] := by
      intro S2 d t e1 e2 hd e3 hF2 hT
      have hc2 := (hCn d e1 e2 hd e3)
      refine fin S2 p d t _ _ _ _ _ hp hd (by omega) (hF1.tr hF2.w) (hc2.fr hF2 (fun h => h hC1w)) (hN1'.fr hF2 (fun h => h ?_)) hT
      rw [(hF1 N hN8.1).2.2.2.1]
      exact hNw.fr hF1
    have thr : ∀ (S2 : PS) (d : D4) (E : String) (pc : Nat), 293 ≤ pc → pc < 377 → E = xISE → d.1 = kk → d.2.1 = b → okD d → (d.1 ≤ 1 → d.2.2.1 = pl) → NotW Γ S1 S2 x A B p d → GX Γ X S2 (0 + 91) (0 + 4440) pc [(0, .ref x), (1, .int v), (2, .ref N), (3, .ref Cu), (4, .int (nI (6 * tC B))), (5, .int (nI p)), (6, .int l6), (7, .int l7), (8, .int (nI kk)), (9, .int (nI b)), (10, .int (-3))] E := by
      intro S2 d E pc hpc1 hpc2 hE e1 e2 hd e3 hw
      subst hE
      have ht := hw.told (by omega)
      refine g_catch C (pre := []) (suf := []) (f := 293) (t := 377) (h := 380) (ct := 50) Tb (by intro z9 hz; cases hz) ⟨hpc1, hpc2⟩ (by decide) tw_2_222 tw_2_129 (fun q => ?_)
      refine g_astore C dL_write_380 (by decide) rfl ?_
      refine g_bipush C dL_write_382 (v := -3) (by decide) ?_
      refine g_istore C dL_write_384 (by decide) rfl ?_
      refine g_sub [(0, _), (1, _), (2, _), (3, _), (4, _), (5, _), (6, _), (7, _), (8, _), (9, _), (10, _)] ⟨rfl, rfl, rfl, rfl, rfl, rfl, rfl, rfl, rfl, rfl, rfl, trivial⟩ ?_
      exact done S2 d (-3) e1 e2 hd e3 ht.2 ht.1
    have hb1000 : b < 1000 := by omega
    have hpR : inR (nI p) (tN B) := ⟨p, hp, rfl⟩
    have hbR : inR (nI b) 1000 := ⟨b, hb1000, rfl⟩
    have pI : ∀ p', p' < tN B → nI p = nI p' → p' = p := fun p' h e => (nI_inj (by omega) (by omega) e).symm
    have bI : ∀ b', b' < 1000 → nI b = nI b' → b' = b := fun b' h e => (nI_inj (by omega) (by omega) e).symm
    refine g_bipush C dL_write_289 (v := -3) (by decide) ?_
    refine g_istore C dL_write_291 (by decide) rfl ?_
    refine g_sub [(0, _), (1, _), (2, _), (3, _), (4, _), (5, _), (6, _), (7, _), (8, _), (9, _), (10, _)] ⟨rfl, rfl, rfl, rfl, rfl, rfl, rfl, rfl, rfl, rfl, rfl, trivial⟩ ?_
    rcases (by omega : kk = 0 ∨ kk = 1 ∨ kk = 2 ∨ kk = 3) with e | e | e | e
    · subst e
      obtain ⟨g3, g3'⟩ := h3 (by decide)
      obtain ⟨g4, g4'⟩ := h4' (Or.inl rfl)
      rw [g3] at i3
      rw [g4] at i4
      have hd : okD (0, b, pl, tr) := ⟨by show 0 < 4; decide, hb1000, fun _ => g3', fun _ => g4'⟩
      have lI : ∀ l', l' < 20 → nI pl = nI l' → l' = pl := fun l' h e => (nI_inj (by omega) (by omega) e).symm
      have tI : ∀ l', l' < 4 → nI tr = nI l' → l' = tr := fun l' h e => (nI_inj (by omega) (by omega) e).symm
      refine g_iload C dL_write_293 rfl ?_
      refine g_if_ne C dL_write_295 (tgt := 321) (by decide) (fun c1 => ?_) (fun c1 => ?_)
      · exact absurd rfl c1
      · refine g_aload_n C dL_write_298 rfl rfl ?_
        refine g_iload C dL_write_299 rfl ?_
        refine g_iload C dL_write_301 rfl ?_
        refine g_aload_n C dL_write_303 rfl rfl ?_
        refine g_iload C dL_write_304 rfl ?_
        refine g_iconst C dL_write_306 (v := 3) (by decide) ?_
        refine g_iadd C dL_write_307 ?_
        refine g_ldI C (ix_3 _) c8 (by rw [cN]; omega) (by omega) i3 dL_write_308 ?_
        refine g_aload_n C dL_write_309 rfl rfl ?_
        refine g_iload C dL_write_310 rfl ?_
        refine g_iconst C dL_write_312 (v := 4) (by decide) ?_
        refine g_iadd C dL_write_313 ?_
        refine g_ldI C (ix_4 _) c8 (by rw [cN]; omega) (by omega) i4 dL_write_314 ?_
        refine g_callV C gy_X5_enter tw_2_224 tw_2_225 tw_2_226 (by decide) (kk := 5) rfl rfl (by exact hx5) (m_enter F S1 x (nI p) (nI b) (nI pl) (nI tr) A B hI1) rfl rfl (Nat.le_of_ble_eq_true rfl) (by omega) (by omega) dL_write_315 ?_ ?_
        · rintro E S2 (⟨-, ⟨-, h⟩ | ⟨-, -, h⟩⟩ | ⟨hE, p', b', l', t', q1, q2, q3, q4, q5, q6, q7, q8, hw⟩)
          · exact absurd hpR h
          · exact absurd ⟨hbR, ⟨pl, g3', rfl⟩, ⟨tr, g4', rfl⟩⟩ h
          · rw [pI p' q1 q2, bI b' q3 q4, lI l' q5 q6, tI t' q7 q8] at hw
            exact thr S2 _ E 315 (by decide) (by decide) hE rfl rfl hd (fun _ => rfl) hw
        · rintro _ S2 ⟨p', b', l', t', q1, q2, q3, q4, q5, q6, q7, q8, hw⟩
          rw [pI p' q1 q2, bI b' q3 q4, lI l' q5 q6, tI t' q7 q8] at hw
          obtain ⟨rfl, ht, hf⟩ := hw.told
          refine g_goto C dL_write_318 (tgt := 375) (by decide) ?_
          refine g_istore C dL_write_375 (by decide) rfl ?_
          refine g_goto C dL_write_377 (tgt := 386) (by decide) ?_
          refine g_sub [(0, _), (1, _), (2, _), (3, _), (4, _), (5, _), (6, _), (7, _), (8, _), (9, _), (10, _)] ⟨rfl, rfl, rfl, rfl, rfl, rfl, rfl, rfl, rfl, rfl, rfl, trivial⟩ ?_
          exact done S2 _ _ rfl rfl hd (fun _ => rfl) hf ht
    · subst e
      obtain ⟨g3, g3'⟩ := h3 (by decide)
      rw [g3] at i3
      have hd : okD (1, b, pl, 0) := ⟨by show 1 < 4; decide, hb1000, fun _ => g3', fun h => absurd h (by show ¬ (1 = 0 ∨ 1 = 2); decide)⟩
      have lI : ∀ l', l' < 20 → nI pl = nI l' → l' = pl := fun l' h e => (nI_inj (by omega) (by omega) e).symm
      refine g_iload C dL_write_293 rfl ?_
      refine g_if_ne C dL_write_295 (tgt := 321) (by decide) (fun c1 => ?_) (fun c1 => ?_)
      · refine g_iload C dL_write_321 rfl ?_
        refine g_iconst C dL_write_323 (v := 1) (by decide) ?_
        refine g_icmp_ne C dL_write_324 (tgt := 344) (by decide) (fun c2 => ?_) (fun c2 => ?_)
        · exact absurd rfl c2
        · refine g_aload_n C dL_write_327 rfl rfl ?_
          refine g_iload C dL_write_328 rfl ?_
          refine g_iload C dL_write_330 rfl ?_
          refine g_aload_n C dL_write_332 rfl rfl ?_
          refine g_iload C dL_write_333 rfl ?_
          refine g_iconst C dL_write_335 (v := 3) (by decide) ?_
          refine g_iadd C dL_write_336 ?_
          refine g_ldI C (ix_3 _) c8 (by rw [cN]; omega) (by omega) i3 dL_write_337 ?_
          refine g_callV C gy_X5_move tw_3_157 tw_3_158 tw_3_159 (by decide) (kk := 5) rfl rfl (by exact hx5) (m_move F S1 x (nI p) (nI b) (nI pl) A B hI1) rfl rfl (Nat.le_of_ble_eq_true rfl) (by omega) (by omega) dL_write_338 ?_ ?_
          · rintro E S2 (⟨-, ⟨-, h⟩ | ⟨-, -, h⟩⟩ | ⟨hE, p', b', l', q1, q2, q3, q4, q5, q6, hw⟩)
            · exact absurd hpR h
            · exact absurd ⟨hbR, ⟨pl, g3', rfl⟩⟩ h
            · rw [pI p' q1 q2, bI b' q3 q4, lI l' q5 q6] at hw
              exact thr S2 _ E 338 (by decide) (by decide) hE rfl rfl hd (fun _ => rfl) hw
          · rintro _ S2 ⟨p', b', l', q1, q2, q3, q4, q5, q6, hw⟩
            rw [pI p' q1 q2, bI b' q3 q4, lI l' q5 q6] at hw
            obtain ⟨rfl, ht, hf⟩ := hw.told
            refine g_goto C dL_write_341 (tgt := 375) (by decide) ?_
            refine g_istore C dL_write_375 (by decide) rfl ?_
            refine g_goto C dL_write_377 (tgt := 386) (by decide) ?_
            refine g_sub [(0, _), (1, _), (2, _), (3, _), (4, _), (5, _), (6, _), (7, _), (8, _), (9, _), (10, _)] ⟨rfl, rfl, rfl, rfl, rfl, rfl, rfl, rfl, rfl, rfl, rfl, trivial⟩ ?_
            exact done S2 _ _ rfl rfl hd (fun _ => rfl) hf ht
      · exact absurd c1 (by decide)
    · subst e
      obtain ⟨g4, g4'⟩ := h4' (Or.inr rfl)
      rw [g4] at i4
      have hd : okD (2, b, 0, tr) := ⟨by show 2 < 4; decide, hb1000, fun h => absurd h (by show ¬ 2 ≤ 1; decide), fun _ => g4'⟩
      have tI : ∀ l', l' < 4 → nI tr = nI l' → l' = tr := fun l' h e => (nI_inj (by omega) (by omega) e).symm
      refine g_iload C dL_write_293 rfl ?_
      refine g_if_ne C dL_write_295 (tgt := 321) (by decide) (fun c1 => ?_) (fun c1 => ?_)
      · refine g_iload C dL_write_321 rfl ?_
        refine g_iconst C dL_write_323 (v := 1) (by decide) ?_
        refine g_icmp_ne C dL_write_324 (tgt := 344) (by decide) (fun c2 => ?_) (fun c2 => ?_)
        · refine g_iload C dL_write_344 rfl ?_
          refine g_iconst C dL_write_346 (v := 2) (by decide) ?_
          refine g_icmp_ne C dL_write_347 (tgt := 367) (by decide) (fun c3 => ?_) (fun c3 => ?_)
          · exact absurd rfl c3
          · refine g_aload_n C dL_write_350 rfl rfl ?_
            refine g_iload C dL_write_351 rfl ?_
            refine g_iload C dL_write_353 rfl ?_
            refine g_aload_n C dL_write_355 rfl rfl ?_
            refine g_iload C dL_write_356 rfl ?_
            refine g_iconst C dL_write_358 (v := 4) (by decide) ?_
            refine g_iadd C dL_write_359 ?_
            refine g_ldI C (ix_4 _) c8 (by rw [cN]; omega) (by omega) i4 dL_write_360 ?_
            refine g_callV C gy_X5_shift tw_3_161 tw_3_162 tw_3_163 (by decide) (kk := 5) rfl rfl (by exact hx5) (m_shift F S1 x (nI p) (nI b) (nI tr) A B hI1) rfl rfl (Nat.le_of_ble_eq_true rfl) (by omega) (by omega) dL_write_361 ?_ ?_
            · rintro E S2 (⟨-, ⟨-, h⟩ | ⟨-, -, h⟩⟩ | ⟨hE, p', b', t', q1, q2, q3, q4, q7, q8, hw⟩)
              · exact absurd hpR h
              · exact absurd ⟨hbR, ⟨tr, g4', rfl⟩⟩ h
              · rw [pI p' q1 q2, bI b' q3 q4, tI t' q7 q8] at hw
                exact thr S2 _ E 361 (by decide) (by decide) hE rfl rfl hd (fun h => absurd h (by show ¬ 2 ≤ 1; decide)) hw
            · rintro _ S2 ⟨p', b', t', q1, q2, q3, q4, q7, q8, hw⟩
              rw [pI p' q1 q2, bI b' q3 q4, tI t' q7 q8] at hw
              obtain ⟨rfl, ht, hf⟩ := hw.told
              refine g_goto C dL_write_364 (tgt := 375) (by decide) ?_
              refine g_istore C dL_write_375 (by decide) rfl ?_
              refine g_goto C dL_write_377 (tgt := 386) (by decide) ?_
              refine g_sub [(0, _), (1, _), (2, _), (3, _), (4, _), (5, _), (6, _), (7, _), (8, _), (9, _), (10, _)] ⟨rfl, rfl, rfl, rfl, rfl, rfl, rfl, rfl, rfl, rfl, rfl, trivial⟩ ?_
              exact done S2 _ _ rfl rfl hd (fun h => absurd h (by show ¬ 2 ≤ 1; decide)) hf ht
        · exact absurd c2 (by decide)
      · exact absurd c1 (by decide)
    · subst e
      have hd : okD (3, b, 0, 0) := ⟨by show 3 < 4; decide, hb1000, fun h => absurd h (by show ¬ 3 ≤ 1; decide), fun h => absurd h (by show ¬ (3 = 0 ∨ 3 = 2); decide)⟩
      refine g_iload C dL_write_293 rfl ?_
      refine g_if_ne C dL_write_295 (tgt := 321) (by decide) (fun c1 => ?_) (fun c1 => ?_)
      · refine g_iload C dL_write_321 rfl ?_
        refine g_iconst C dL_write_323 (v := 1) (by decide) ?_
        refine g_icmp_ne C dL_write_324 (tgt := 344) (by decide) (fun c2 => ?_) (fun c2 => ?_)
        · refine g_iload C dL_write_344 rfl ?_
          refine g_iconst C dL_write_346 (v := 2) (by decide) ?_
          refine g_icmp_ne C dL_write_347 (tgt := 367) (by decide) (fun c3 => ?_) (fun c3 => ?_)
          · refine g_aload_n C dL_write_367 rfl rfl ?_
            refine g_iload C dL_write_368 rfl ?_
            refine g_iload C dL_write_370 rfl ?_
            refine g_callV C gy_X5_leave tw_3_165 tw_3_166 tw_3_167 (by decide) (kk := 5) rfl rfl (by exact hx5) (m_leave F S1 x (nI p) (nI b) A B hI1) rfl rfl (Nat.le_of_ble_eq_true rfl) (by omega) (by omega) dL_write_372 ?_ ?_
            · rintro E S2 (⟨-, ⟨-, h⟩ | ⟨-, -, h⟩⟩ | ⟨hE, p', b', q1, q2, q3, q4, hw⟩)
              · exact absurd hpR h
              · exact absurd hbR h
              · rw [pI p' q1 q2, bI b' q3 q4] at hw
                exact thr S2 _ E 372 (by decide) (by decide) hE rfl rfl hd (fun h => absurd h (by show ¬ 3 ≤ 1; decide)) hw
            · rintro _ S2 ⟨p', b', q1, q2, q3, q4, hw⟩
              rw [pI p' q1 q2, bI b' q3 q4] at hw
              obtain ⟨rfl, ht, hf⟩ := hw.told
              refine g_istore C dL_write_375 (by decide) rfl ?_
              refine g_goto C dL_write_377 (tgt := 386) (by decide) ?_
              refine g_sub [(0, _), (1, _), (2, _), (3, _), (4, _), (5, _), (6, _), (7, _), (8, _), (9, _), (10, _)] ⟨rfl, rfl, rfl, rfl, rfl, rfl, rfl, rfl, rfl, rfl, rfl, trivial⟩ ?_
              exact done S2 _ _ rfl rfl hd (fun h => absurd h (by show ¬ 3 ≤ 1; decide)) hf ht
          · exact absurd c3 (by decide)
        · exact absurd c2 (by decide)
      · exact absurd c1 (by decide)
  -- the cells of the row
  have stores : ∀ (kk p b : Nat) (l6 l7 : Int32), kk < 4 → p < tN B → b ≤ 60 + 12 * tC B + 11 → GW Γ X S 0 0 205 [(0, .ref x), (1, .int v), (2, .ref N), (3, .ref Cu), (4, .int (nI (6 * tC B))), (5, .int (nI p)), (6, .int l6), (7, .int l7), (8, .int (nI kk)), (9, .int (nI b))] [] := by
    intro kk p b l6 l7 hkk hp hb
    have at281 : ∀ (pl tr : Nat) (x3 x4 : Int32), (kk ≤ 1 → x3 = nI pl ∧ pl < 20) → (kk = 0 ∨ kk = 2 → x4 = nI tr ∧ tr < 4) → GW Γ X (uR S Cu (va_up (va_up (va_up (va_up (pR S Cu) (6 * tC B) (nI kk)) (6 * tC B + 1) (nI p)) (6 * tC B + 2) (nI b)) (6 * tC B + 3) x3)) 0 0 281 [(0, .ref x), (1, .int v), (2, .ref N), (3, .ref Cu), (4, .int (nI (6 * tC B))), (5, .int (nI p)), (6, .int l6), (7, .int l7), (8, .int (nI kk)), (9, .int (nI b))] [.int x4, .int (nI (6 * tC B) + 4), .ref Cu] := by
      intro pl tr x3 x4 q3 q4
      refine g_stI C (ix_4 _) hC8 (by show _ < pN S Cu; rw [hCN]; omega) (by omega) dL_write_281 ?_
      refine g_aload_n C dL_write_282 rfl rfl ?_
      refine g_iload C dL_write_283 rfl ?_
      refine g_iconst C dL_write_285 (v := 5) (by decide) ?_
      refine g_iadd C dL_write_286 ?_
      refine g_iconst C dL_write_287 (v := 1) (by decide) ?_
      rw [uR_uR, uR_q]
      refine g_stI C (ix_5 _) hC8 (by show _ < pN S Cu; rw [hCN]; omega) (by omega) dL_write_288 ?_
      rw [uR_uR, uR_q]
      exact call kk p b pl tr x3 x4 l6 l7 hkk hp hb q3 q4
    have at252 : ∀ (pl : Nat) (x3 : Int32), (kk ≤ 1 → x3 = nI pl ∧ pl < 20) → GW Γ X (uR S Cu (va_up (va_up (va_up (pR S Cu) (6 * tC B) (nI kk)) (6 * tC B + 1) (nI p)) (6 * tC B + 2) (nI b))) 0 0 252 [(0, .ref x), (1, .int v), (2, .ref N), (3, .ref Cu), (4, .int (nI (6 * tC B))), (5, .int (nI p)), (6, .int l6), (7, .int l7), (8, .int (nI kk)), (9, .int (nI b))] [.int x3, .int (nI (6 * tC B) + 3), .ref Cu] := by
      intro pl x3 q3
      refine g_stI C (ix_3 _) hC8 (by show _ < pN S Cu; rw [hCN]; omega) (by omega) dL_write_252 ?_
      rw [uR_uR, uR_q]
      have at269 : GW Γ X (uR S Cu (va_up (va_up (va_up (va_up (pR S Cu) (6 * tC B) (nI kk)) (6 * tC B + 1) (nI p)) (6 * tC B + 2) (nI b)) (6 * tC B + 3) x3)) 0 0 269 [(0, .ref x), (1, .int v), (2, .ref N), (3, .ref Cu), (4, .int (nI (6 * tC B))), (5, .int (nI p)), (6, .int l6), (7, .int l7), (8, .int (nI kk)), (9, .int (nI b))] [.int (nI (6 * tC B) + 4), .ref Cu] := by
        refine g_iload_n C dL_write_269 rfl rfl ?_
        refine g_bipush C dL_write_270 (v := 7) (by decide) ?_
        refine g_ishr C dL_write_272 ?_
        refine g_iconst C dL_write_273 (v := 2) (by decide) ?_
        refine g_callS C gy_L_below tw_2_117 tw_2_118 (by decide) (l_below F _ _ 2 (by decide) (by decide)) rfl rfl (Nat.le_of_ble_eq_true rfl) (by omega) (by omega) dL_write_274 (fun _ _ h9 => h9.elim) ?_
        rintro _ _ ⟨rfl, t, ht, rfl⟩
        refine g_goto C dL_write_277 (tgt := 281) (by decide) ?_
        exact at281 pl t x3 (nI t) q3 (fun _ => ⟨rfl, by omega⟩)
      refine g_aload_n C dL_write_253 rfl rfl ?_
      refine g_iload C dL_write_254 rfl ?_
      refine g_iconst C dL_write_256 (v := 4) (by decide) ?_
      refine g_iadd C dL_write_257 ?_
      refine g_iload C dL_write_258 rfl ?_
      refine g_if_eq C dL_write_260 (tgt := 269) (by decide) (fun c1 => ?_) (fun c1 => ?_)
      · exact at269
      · refine g_iload C dL_write_263 rfl ?_
        refine g_iconst C dL_write_265 (v := 2) (by decide) ?_
        rw [i2]
        refine g_icmp_ne C dL_write_266 (tgt := 280) (by decide) (fun c2 => ?_) (fun c2 => ?_)
        · have k0 : kk ≠ 0 := fun e => c1 (by rw [e]; rfl)
          have k2 : kk ≠ 2 := fun e => c2 (by rw [e])
          refine g_iconst C dL_write_280 (v := -1) (by decide) ?_
          exact at281 pl 0 x3 (-1) q3 (fun h => absurd h (by omega))
        · exact at269
    refine g_aload_n C dL_write_205 rfl rfl ?_
    refine g_iload C dL_write_206 rfl ?_
    refine g_iload C dL_write_208 rfl ?_
    refine g_stI C rfl hC8 (by rw [hCN]; omega) (by omega) dL_write_210 ?_
    refine g_aload_n C dL_write_211 rfl rfl ?_
    refine g_iload C dL_write_212 rfl ?_
    refine g_iconst C dL_write_214 (v := 1) (by decide) ?_
    refine g_iadd C dL_write_215 ?_
    refine g_iload C dL_write_216 rfl ?_
    refine g_stI C (ix_1 _) hC8 (by show _ < pN S Cu; rw [hCN]; omega) (by omega) dL_write_218 ?_
    rw [uR_uR, uR_q]
    refine g_aload_n C dL_write_219 rfl rfl ?_
    refine g_iload C dL_write_220 rfl ?_
    refine g_iconst C dL_write_222 (v := 2) (by decide) ?_
    refine g_iadd C dL_write_223 ?_
    refine g_iload C dL_write_224 rfl ?_
    refine g_stI C (ix_2 _) hC8 (by show _ < pN S Cu; rw [hCN]; omega) (by omega) dL_write_226 ?_
    rw [uR_uR, uR_q]
    refine g_aload_n C dL_write_227 rfl rfl ?_
    refine g_iload C dL_write_228 rfl ?_
    refine g_iconst C dL_write_230 (v := 3) (by decide) ?_
    refine g_iadd C dL_write_231 ?_
    refine g_iload C dL_write_232 rfl ?_
    refine g_iconst C dL_write_234 (v := 2) (by decide) ?_
    rw [i2]
    refine g_icmp_ge C dL_write_235 (tgt := 251) (by decide) (fun c1 => ?_) (fun c1 => ?_)
    · have hk2 : 2 ≤ kk := (nI_leI (by omega) (by omega)).mp c1
      refine g_iconst C dL_write_251 (v := -1) (by decide) ?_
      exact at252 0 (-1) (fun h => by omega)
    · refine g_iload_n C dL_write_238 rfl rfl ?_
      refine g_iconst C dL_write_239 (v := 3) (by decide) ?_
      refine g_ishr C dL_write_240 ?_
      refine g_bipush C dL_write_241 (v := 7) (by decide) ?_
      refine g_callS C gy_L_below tw_2_117 tw_2_118 (by decide) (l_below F _ _ 7 (by decide) (by decide)) rfl rfl (Nat.le_of_ble_eq_true rfl) (by omega) (by omega) dL_write_243 (fun _ _ h9 => h9.elim) ?_
      rintro _ _ ⟨rfl, t, ht, rfl⟩
      refine g_iconst C dL_write_246 (v := 2) (by decide) ?_
      refine g_imul C dL_write_247 ?_
      rw [i2, pk_mul]
      refine g_goto C dL_write_248 (tgt := 252) (by decide) ?_
      exact at252 (t * 2) _ (fun _ => ⟨rfl, by omega⟩)
  -- the beat
  have beats : ∀ (kk p la : Nat) (l6 : Int32), kk < 4 → p < tN B → la ≤ 60 + 12 * tC B → GW Γ X S 0 0 169 [(0, .ref x), (1, .int v), (2, .ref N), (3, .ref Cu), (4, .int (nI (6 * tC B))), (5, .int (nI p)), (6, .int l6), (7, .int (nI la)), (8, .int (nI kk))] [] := by
    intro kk p la l6 hkk hp hla
    have at203 : ∀ (b : Nat), b ≤ 60 + 12 * tC B + 11 → GW Γ X S 0 0 203 [(0, .ref x), (1, .int v), (2, .ref N), (3, .ref Cu), (4, .int (nI (6 * tC B))), (5, .int (nI p)), (6, .int l6), (7, .int (nI la)), (8, .int (nI kk))] [.int (nI b)] := by
      intro b hb
      refine g_istore C dL_write_203 (by decide) rfl ?_
      refine g_sub [(0, _), (1, _), (2, _), (3, _), (4, _), (5, _), (6, _), (7, _), (8, _), (9, _)] ⟨rfl, rfl, rfl, rfl, rfl, rfl, rfl, rfl, rfl, rfl, trivial⟩ ?_
      exact stores kk p b l6 _ hkk hp hb
    refine g_iload_n C dL_write_169 rfl rfl ?_
    refine g_iconst C dL_write_170 (v := 5) (by decide) ?_
    refine g_ishr C dL_write_171 ?_
    refine g_bipush C dL_write_172 (v := 6) (by decide) ?_
    refine g_callS C gy_L_below tw_2_117 tw_2_118 (by decide) (l_below F S _ 6 (by decide) (by decide)) rfl rfl (Nat.le_of_ble_eq_true rfl) (by omega) (by omega) dL_write_174 (fun _ _ h9 => h9.elim) ?_
    rintro _ _ ⟨rfl, t, ht, rfl⟩
    refine g_if_ne C dL_write_177 (tgt := 191) (by decide) (fun c1 => ?_) (fun c1 => ?_)
    · refine g_iload C dL_write_191 rfl ?_
      refine g_iload_n C dL_write_193 rfl rfl ?_
      refine g_bipush C dL_write_194 (v := 6) (by decide) ?_
      refine g_ishr C dL_write_196 ?_
      refine g_bipush C dL_write_197 (v := 12) (by decide) ?_
      refine g_callS C gy_L_below tw_2_117 tw_2_118 (by decide) (l_below F S _ 12 (by decide) (by decide)) rfl rfl (Nat.le_of_ble_eq_true rfl) (by omega) (by omega) dL_write_199 (fun _ _ h9 => h9.elim) ?_
      rintro _ _ ⟨rfl, t2, ht2, rfl⟩
      refine g_iadd C dL_write_202 ?_
      rw [nI_add]
      exact at203 (la + t2) (by omega)
    · refine g_iload_n C dL_write_180 rfl rfl ?_
      refine g_iconst C dL_write_181 (v := 3) (by decide) ?_
      refine g_ishr C dL_write_182 ?_
      refine g_bipush C dL_write_183 (v := 60) (by decide) ?_
      refine g_callS C gy_L_below tw_2_117 tw_2_118 (by decide) (l_below F S _ 60 (by decide) (by decide)) rfl rfl (Nat.le_of_ble_eq_true rfl) (by omega) (by omega) dL_write_185 (fun _ _ h9 => h9.elim) ?_
      rintro _ _ ⟨rfl, t2, ht2, rfl⟩
      refine g_goto C dL_write_188 (tgt := 203) (by decide) ?_
      exact at203 t2 (by omega)
  -- the kind
  have kinds : ∀ (p la : Nat) (l6 : Int32), p < tN B → la ≤ 60 + 12 * tC B → ∀ l8 : Int32, GW Γ X S 0 0 130 [(0, .ref x), (1, .int v), (2, .ref N), (3, .ref Cu), (4, .int (nI (6 * tC B))), (5, .int (nI p)), (6, .int l6), (7, .int (nI la)), (8, .int l8)] [] := by
    intro p la l6 hp hla l8
    have at167 : ∀ (kk : Nat), kk < 4 → ∀ l8 : Int32, GW Γ X S 0 0 167 [(0, .ref x), (1, .int v), (2, .ref N), (3, .ref Cu), (4, .int (nI (6 * tC B))), (5, .int (nI p)), (6, .int l6), (7, .int (nI la)), (8, .int l8)] [.int (nI kk)] := by
      intro kk hkk l8
      refine g_istore C dL_write_167 (by decide) rfl ?_
      refine g_sub [(0, _), (1, _), (2, _), (3, _), (4, _), (5, _), (6, _), (7, _), (8, _)] ⟨rfl, rfl, rfl, rfl, rfl, rfl, rfl, rfl, rfl, trivial⟩ ?_
      exact beats kk p la l6 hkk hp hla
    refine g_iload_n C dL_write_130 rfl rfl ?_
    refine g_iconst C dL_write_131 (v := 2) (by decide) ?_
    refine g_ishr C dL_write_132 ?_
    refine g_iconst C dL_write_133 (v := 4) (by decide) ?_
    refine g_callS C gy_L_below tw_2_117 tw_2_118 (by decide) (l_below F S _ 4 (by decide) (by decide)) rfl rfl (Nat.le_of_ble_eq_true rfl) (by omega) (by omega) dL_write_134 (fun _ _ h9 => h9.elim) ?_
    rintro _ _ ⟨rfl, t, ht, rfl⟩
    refine g_istore C dL_write_137 (by decide) rfl ?_
    refine g_iload_n C dL_write_139 rfl rfl ?_
    refine g_iconst C dL_write_140 (v := 4) (by decide) ?_
    refine g_ishr C dL_write_141 ?_
    refine g_iconst C dL_write_142 (v := 5) (by decide) ?_
    refine g_callS C gy_L_below tw_2_117 tw_2_118 (by decide) (l_below F S _ 5 (by decide) (by decide)) rfl rfl (Nat.le_of_ble_eq_true rfl) (by omega) (by omega) dL_write_143 (fun _ _ h9 => h9.elim) ?_
    rintro _ _ ⟨rfl, t5, ht5, rfl⟩
    refine g_if_le C dL_write_146 (tgt := 169) (by decide) (fun c1 => ?_) (fun c1 => ?_)
    · refine g_sub [(0, _), (1, _), (2, _), (3, _), (4, _), (5, _), (6, _), (7, _), (8, _)] ⟨rfl, rfl, rfl, rfl, rfl, rfl, rfl, rfl, rfl, trivial⟩ ?_
      exact beats t p la l6 ht hp hla
    · refine g_iload C dL_write_149 rfl ?_
      refine g_if_eq C dL_write_151 (tgt := 166) (by decide) (fun c2 => ?_) (fun c2 => ?_)
      · refine g_iconst C dL_write_166 (v := 0) (by decide) ?_
        refine g_sub [(0, _), (1, _), (2, _), (3, _), (4, _), (5, _), (6, _), (7, _), (8, _)] ⟨rfl, rfl, rfl, rfl, rfl, rfl, rfl, rfl, rfl, trivial⟩ ?_
        exact at167 0 (by decide) _
      · refine g_iconst C dL_write_154 (v := 1) (by decide) ?_
        refine g_iload_n C dL_write_155 rfl rfl ?_
        refine g_iconst C dL_write_156 (v := 2) (by decide) ?_
        refine g_ishr C dL_write_157 ?_
        refine g_iconst C dL_write_158 (v := 3) (by decide) ?_
        refine g_callS C gy_L_below tw_2_117 tw_2_118 (by decide) (l_below F S _ 3 (by decide) (by decide)) rfl rfl (Nat.le_of_ble_eq_true rfl) (by omega) (by omega) dL_write_159 (fun _ _ h9 => h9.elim) ?_
        rintro _ _ ⟨rfl, t3, ht3, rfl⟩
        refine g_iadd C dL_write_162 ?_
        rw [i1, nI_add]
        refine g_goto C dL_write_163 (tgt := 167) (by decide) ?_
        refine g_sub [(0, _), (1, _), (2, _), (3, _), (4, _), (5, _), (6, _), (7, _), (8, _)] ⟨rfl, rfl, rfl, rfl, rfl, rfl, rfl, rfl, rfl, trivial⟩ ?_
        exact at167 (1 + t3) (by omega) _
  -- what was written before
  have loop : ∀ (m k p la : Nat) (l6 : Int32), k + m = tC B → p < tN B → la ≤ 60 + 12 * tC B → GW Γ X S 0 0 26 [(0, .ref x), (1, .int v), (2, .ref N), (3, .ref Cu), (4, .int (nI (6 * tC B))), (5, .int (nI p)), (6, .int l6), (7, .int (nI la)), (8, .int (nI k))] [] := by
    intro m
    induction m with
    | zero =>
      intro k p la l6 hk hp hla
      refine g_iload C dL_write_26 rfl ?_
      refine g_aload_n C dL_write_28 rfl rfl ?_
      refine g_iconst C dL_write_29 (v := 2) (by decide) ?_
      refine g_ldI C i2 hN8 (by rw [hNN]; decide) (by decide) hN2 dL_write_30 ?_
      refine g_icmp_ge C dL_write_31 (tgt := 130) (by decide) (fun c1 => ?_) (fun c1 => ?_)
      · exact kinds p la l6 hp hla _
      · exact absurd (nI_le (by omega) (by omega)) c1
    | succ m ih =>
      intro k p la l6 hk hp hla
      have hkc : k < tC B := by omega
      obtain ⟨⟨v0, v1, v2, v5⟩, -, hok, hu8⟩ := hcu k hkc
      have hkb := hok.2.1
      have hbk := hbt k hkc
      have nx : ∀ (la : Nat) (l6 : Int32), la ≤ 60 + 12 * tC B → GW Γ X S 0 0 124 [(0, .ref x), (1, .int v), (2, .ref N), (3, .ref Cu), (4, .int (nI (6 * tC B))), (5, .int (nI p)), (6, .int l6), (7, .int (nI la)), (8, .int (nI k))] [] := by
        intro la l6 hla
        refine g_iinc C dL_write_124 rfl (by first | exact inc1 _ | exact rfl) (by decide) rfl ?_
        refine g_goto C dL_write_127 (tgt := 26) (by decide) ?_
        refine g_sub [(0, _), (1, _), (2, _), (3, _), (4, _), (5, _), (6, _), (7, _), (8, _)] ⟨rfl, rfl, rfl, rfl, rfl, rfl, rfl, rfl, rfl, trivial⟩ ?_
        exact ih (k + 1) p la l6 (by omega) hp hla
      refine g_iload C dL_write_26 rfl ?_
      refine g_aload_n C dL_write_28 rfl rfl ?_
      refine g_iconst C dL_write_29 (v := 2) (by decide) ?_
      refine g_ldI C i2 hN8 (by rw [hNN]; decide) (by decide) hN2 dL_write_30 ?_
      refine g_icmp_ge C dL_write_31 (tgt := 130) (by decide) (fun c1 => ?_) (fun c1 => ?_)
      · exact absurd c1 (nI_ge hkc (by omega))
      · refine g_aload_n C dL_write_34 rfl rfl ?_
        refine g_bipush C dL_write_35 (v := 6) (by decide) ?_
        refine g_iload C dL_write_37 rfl ?_
        refine g_imul C dL_write_39 ?_
        refine g_iconst C dL_write_40 (v := 1) (by decide) ?_
        refine g_iadd C dL_write_41 ?_
        refine g_ldI C (ix6_1 k) hC8 (by rw [hCN]; omega) (by omega) v1 dL_write_42 ?_
        refine g_iload C dL_write_43 rfl ?_
        refine g_icmp_ne C dL_write_45 (tgt := 124) (by decide) (fun c2 => ?_) (fun c2 => ?_)
        · exact nx la l6 hla
        · refine g_aload_n C dL_write_48 rfl rfl ?_
          refine g_bipush C dL_write_49 (v := 6) (by decide) ?_
          refine g_iload C dL_write_51 rfl ?_
          refine g_imul C dL_write_53 ?_
          refine g_iconst C dL_write_54 (v := 5) (by decide) ?_
          refine g_iadd C dL_write_55 ?_
          refine g_ldI C (ix6_5 k) hC8 (by rw [hCN]; omega) (by omega) v5 dL_write_56 ?_
          refine g_if_ne C dL_write_57 (tgt := 63) (by decide) (fun c3 => ?_) (fun c3 => ?_)
          · have at101 : ∀ (la : Nat) (l6 : Int32), la ≤ 60 + 12 * tC B → GW Γ X S 0 0 101 [(0, .ref x), (1, .int v), (2, .ref N), (3, .ref Cu), (4, .int (nI (6 * tC B))), (5, .int (nI p)), (6, .int l6), (7, .int (nI la)), (8, .int (nI k))] [] := by
              intro la l6 hla
              have at122 : ∀ (w : Int32), GW Γ X S 0 0 122 [(0, .ref x), (1, .int v), (2, .ref N), (3, .ref Cu), (4, .int (nI (6 * tC B))), (5, .int (nI p)), (6, .int l6), (7, .int (nI la)), (8, .int (nI k))] [.int w] := by
                intro w
                refine g_istore C dL_write_122 (by decide) rfl ?_
                refine g_sub [(0, _), (1, _), (2, _), (3, _), (4, _), (5, _), (6, _), (7, _), (8, _)] ⟨rfl, rfl, rfl, rfl, rfl, rfl, rfl, rfl, rfl, trivial⟩ ?_
                exact nx la w hla
              refine g_aload_n C dL_write_101 rfl rfl ?_
              refine g_bipush C dL_write_102 (v := 6) (by decide) ?_
              refine g_iload C dL_write_104 rfl ?_
              refine g_imul C dL_write_106 ?_
              refine g_ldI C (ix6_0 k) hC8 (by rw [hCN]; omega) (by omega) v0 dL_write_107 ?_
              refine g_iconst C dL_write_108 (v := 3) (by decide) ?_
              refine g_icmp_ne C dL_write_109 (tgt := 124) (by decide) (fun c4 => ?_) (fun c4 => ?_)
              · exact nx la l6 hla
              · refine g_iload C dL_write_112 rfl ?_
                refine g_if_ne C dL_write_114 (tgt := 121) (by decide) (fun c5 => ?_) (fun c5 => ?_)
                · refine g_iconst C dL_write_121 (v := 0) (by decide) ?_
                  exact at122 _
                · refine g_iconst C dL_write_117 (v := 1) (by decide) ?_
                  refine g_goto C dL_write_118 (tgt := 122) (by decide) ?_
                  exact at122 _
            have at79 : ∀ (la : Nat), la ≤ 60 + 12 * tC B → GW Γ X S 0 0 79 [(0, .ref x), (1, .int v), (2, .ref N), (3, .ref Cu), (4, .int (nI (6 * tC B))), (5, .int (nI p)), (6, .int l6), (7, .int (nI la)), (8, .int (nI k))] [] := by
              intro la hla
              have at99 : ∀ (w : Int32), GW Γ X S 0 0 99 [(0, .ref x), (1, .int v), (2, .ref N), (3, .ref Cu), (4, .int (nI (6 * tC B))), (5, .int (nI p)), (6, .int l6), (7, .int (nI la)), (8, .int (nI k))] [.int w] := by
                intro w
                refine g_istore C dL_write_99 (by decide) rfl ?_
                refine g_sub [(0, _), (1, _), (2, _), (3, _), (4, _), (5, _), (6, _), (7, _), (8, _)] ⟨rfl, rfl, rfl, rfl, rfl, rfl, rfl, rfl, rfl, trivial⟩ ?_
                exact at101 la w hla
              refine g_aload_n C dL_write_79 rfl rfl ?_
              refine g_bipush C dL_write_80 (v := 6) (by decide) ?_
              refine g_iload C dL_write_82 rfl ?_
              refine g_imul C dL_write_84 ?_
              refine g_ldI C (ix6_0 k) hC8 (by rw [hCN]; omega) (by omega) v0 dL_write_85 ?_
              refine g_if_ne C dL_write_86 (tgt := 101) (by decide) (fun c4 => ?_) (fun c4 => ?_)
              · exact at101 la l6 hla
              · refine g_iload C dL_write_89 rfl ?_
                refine g_if_ne C dL_write_91 (tgt := 98) (by decide) (fun c5 => ?_) (fun c5 => ?_)
                · refine g_iconst C dL_write_98 (v := 0) (by decide) ?_
                  exact at99 _
                · refine g_iconst C dL_write_94 (v := 1) (by decide) ?_
                  refine g_goto C dL_write_95 (tgt := 99) (by decide) ?_
                  exact at99 _
            refine g_iload C dL_write_63 rfl ?_
            refine g_aload_n C dL_write_65 rfl rfl ?_
            refine g_bipush C dL_write_66 (v := 6) (by decide) ?_
            refine g_iload C dL_write_68 rfl ?_
            refine g_imul C dL_write_70 ?_
            refine g_iconst C dL_write_71 (v := 2) (by decide) ?_
            refine g_iadd C dL_write_72 ?_
            refine g_ldI C (ix6_2 k) hC8 (by rw [hCN]; omega) (by omega) v2 dL_write_73 ?_
            refine g_max C tw_2_223 (by simp [Value.category]) (by omega) (by omega) dL_write_74 ?_
            have emax : (if nI la < nI (tU B k).2.2.1 then nI (tU B k).2.2.1 else nI la) = nI (if la < (tU B k).2.2.1 then (tU B k).2.2.1 else la) := by
              by_cases e : la < (tU B k).2.2.1
              · rw [if_pos e, if_pos (nI_lt e (by omega))]
              · rw [if_neg e, if_neg (nI_nlt (by omega) (by omega))]
            first | rw [emax] | skip
            refine g_istore C dL_write_77 (by decide) rfl ?_
            refine g_sub [(0, _), (1, _), (2, _), (3, _), (4, _), (5, _), (6, _), (7, _), (8, _)] ⟨rfl, rfl, rfl, rfl, rfl, rfl, rfl, rfl, rfl, trivial⟩ ?_
            exact at79 _ (by split <;> omega)
          · exact absurd c3 (by decide)
  refine g_bipush C dL_write_0 (v := 6) (by decide) ?_
  refine g_aload_n C dL_write_2 rfl rfl ?_
  refine g_iconst C dL_write_3 (v := 2) (by decide) ?_
  refine g_ldI C i2 hN8 (by rw [hNN]; decide) (by decide) hN2 dL_write_4 ?_
  refine g_imul C dL_write_5 ?_
  rw [ix6_0]
  refine g_istore C dL_write_6 (by decide) rfl ?_
  refine g_iload_n C dL_write_8 rfl rfl ?_
  refine g_aload_n C dL_write_9 rfl rfl ?_
  refine g_iconst C dL_write_10 (v := 0) (by decide) ?_
  refine g_ldI C i0 hN8 (by rw [hNN]; decide) (by decide) hN0 dL_write_11 ?_
  refine g_callS C gy_L_below tw_2_117 tw_2_118 (by decide) (l_below F S v (tN B) (by omega) (by omega)) rfl rfl (Nat.le_of_ble_eq_true rfl) (by omega) (by omega) dL_write_12 (fun _ _ h9 => h9.elim) ?_
  rintro _ _ ⟨rfl, t, ht, rfl⟩
  refine g_istore C dL_write_15 (by decide) rfl ?_
  refine g_iconst C dL_write_17 (v := 0) (by decide) ?_
  refine g_istore C dL_write_18 (by decide) rfl ?_
  refine g_iconst C dL_write_20 (v := 0) (by decide) ?_
  refine g_istore C dL_write_21 (by decide) rfl ?_
  refine g_iconst C dL_write_23 (v := 0) (by decide) ?_
  refine g_istore C dL_write_24 (by decide) rfl ?_
  refine g_sub [(0, _), (1, _), (2, _), (3, _), (4, _), (5, _), (6, _), (7, _), (8, _)] ⟨rfl, rfl, rfl, rfl, rfl, rfl, rfl, rfl, rfl, trivial⟩ ?_
  exact loop (tC B) 0 t 0 _ (by omega) ht (Nat.zero_le _)
