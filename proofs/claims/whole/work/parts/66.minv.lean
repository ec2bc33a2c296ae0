/-! ===== the model's invariant; what a call of it does to it ===== -/
/-- what the model worked out -/
def FreshV (S : PS) (rr : Nat → Nat) (B : BT) : Prop := isOrd (ctB B) (ordB B) ∧ (∀ p b, p < tN B → b < 1000 → pR S (rr 207) (1000 * p + b) = zO (plL (dsB B p) b) ∧ pR S (rr 208) (1000 * p + b) = zO (trL (dsB B p) b) ∧ pR S (rr 209) (1000 * p + b) = nI (stL (upTo (dsB B p) b)).length - 1) ∧ (∀ p, p < tN B → pR S (rr 210) p = nI (stL (dsB B p)).length) ∧ ∀ p j s, p < tN B → (stL (dsB B p))[j]? = some s → pR S (rr 211) (40 * p + j) = nI s.1 ∧ pR S (rr 212) (40 * p + j) = nI s.2 ∧ pR S (rr 213) (40 * p + j) = zO (castB B p j)
def MdB (S : PS) (m : Nat) (rr : Nat → Nat) (B : BT) : Prop := MdF S m rr ∧ pI S 193 m = nI (tN B) ∧ pI S 196 m = nI (tQ B) ∧ pI S 199 m = nI (tC B) ∧ pI S 202 m = nI (cntN (tK B) (tC B)) ∧ (∀ i, i < tN B → pR S (rr 194) i = nI (tW B i) ∧ pR S (rr 195) i = nI (tH B i)) ∧ (∀ q, q < tQ B → pR S (rr 197) q = nI (tT B q) ∧ pR S (rr 198) q = nI (tO B q)) ∧ (∀ c, c < 40 → pR S (rr 201) c = (if tK B c = true then 1 else 0) ∧ pR S (rr 203) c = nI (tE B c) ∧ pR S (rr 204) c = Int32.ofInt (tL B c) ∧ pR S (rr 205) c = nI (tF B c)) ∧ (∀ c w, c < tC B → w < 5 → pR S (rr 200) (5 * c + w) = cueW (tU B c) w) ∧ VB B
def MdI (S : PS) (m : Nat) (rr : Nat → Nat) (B : BT) : Prop := MdB S m rr B ∧ (pI S 206 m = 0 ∨ (pI S 206 m = 1 ∧ FreshV S rr B))
theorem MdB.f {S : PS} {m : Nat} {rr : Nat → Nat} {B : BT} (h : MdB S m rr B) : MdF S m rr := h.1
theorem MdB.m {S : PS} {m : Nat} {rr : Nat → Nat} {B : BT} (h : MdB S m rr B) : al S m 6 := h.1.1
theorem MdB.v {S : PS} {m : Nat} {rr : Nat → Nat} {B : BT} (h : MdB S m rr B) : VB B := h.2.2.2.2.2.2.2.2.2
theorem MdB.c {S : PS} {m : Nat} {rr : Nat → Nat} {B : BT} (h : MdB S m rr B) : pI S 199 m = nI (tC B) := h.2.2.2.1
theorem MdB.k {S : PS} {m : Nat} {rr : Nat → Nat} {B : BT} (h : MdB S m rr B) : pI S 202 m = nI (cntN (tK B) (tC B)) := h.2.2.2.2.1
theorem MdB.n {S : PS} {m : Nat} {rr : Nat → Nat} {B : BT} (h : MdB S m rr B) : pI S 193 m = nI (tN B) := h.2.1
theorem MdB.q {S : PS} {m : Nat} {rr : Nat → Nat} {B : BT} (h : MdB S m rr B) : pI S 196 m = nI (tQ B) := h.2.2.1
theorem MdB.pu {S : PS} {m : Nat} {rr : Nat → Nat} {B : BT} (h : MdB S m rr B) : ∀ i, i < tN B → pR S (rr 194) i = nI (tW B i) ∧ pR S (rr 195) i = nI (tH B i) := h.2.2.2.2.2.1
theorem MdB.pl {S : PS} {m : Nat} {rr : Nat → Nat} {B : BT} (h : MdB S m rr B) : ∀ q, q < tQ B → pR S (rr 197) q = nI (tT B q) ∧ pR S (rr 198) q = nI (tO B q) := h.2.2.2.2.2.2.1
theorem MdB.cu {S : PS} {m : Nat} {rr : Nat → Nat} {B : BT} (h : MdB S m rr B) : ∀ c, c < 40 → pR S (rr 201) c = (if tK B c = true then 1 else 0) ∧ pR S (rr 203) c = nI (tE B c) ∧ pR S (rr 204) c = Int32.ofInt (tL B c) ∧ pR S (rr 205) c = nI (tF B c) := h.2.2.2.2.2.2.2.1
theorem MdB.tb {S : PS} {m : Nat} {rr : Nat → Nat} {B : BT} (h : MdB S m rr B) : ∀ c w, c < tC B → w < 5 → pR S (rr 200) (5 * c + w) = cueW (tU B c) w := h.2.2.2.2.2.2.2.2.1
theorem MdB.t {S : PS} {m : Nat} {rr : Nat → Nat} {B : BT} (h : MdB S m rr B) : TabV S m rr (tC B) (tU B) (tK B) := by
  have hV := h.v
  have h40 := hV.2.2.1
  refine ⟨h.c, h40, fun c hc => ?_, h.tb⟩
  have hu := hV.2.2.2.2.2.1 c hc
  have := hV.1
  exact ⟨hu.1, by omega, (h.cu c (by omega)).1⟩
/-- what stays of the model: all but the fields Fs and the rows Gs -/
def Kp (S S' : PS) (m : Nat) (rr : Nat → Nat) (Fs Gs : Nat → Prop) : Prop := (∀ b k, al S b k → al S' b k) ∧ (∀ f, ¬ Fs f → pI S' f m = pI S f m ∧ pP S' f m = pP S f m) ∧ ∀ f, isRw f → pN S' (rr f) = pN S (rr f) ∧ pW S' (rr f) = pW S (rr f) ∧ (¬ Gs f → pR S' (rr f) = pR S (rr f))
theorem Kp.mdF {S S' : PS} {m : Nat} {rr : Nat → Nat} {Fs Gs : Nat → Prop} (h : Kp S S' m rr Fs Gs) (hM : MdF S m rr) (hF : ∀ f, isRw f → ¬ Fs f) : MdF S' m rr := by
  refine ⟨h.1 _ _ hM.1, fun f hf => ?_, hM.2.2⟩
  obtain ⟨h1, h2, h3, h4⟩ := hM.2.1 f hf
  have k2 := h.2.2 f hf
  exact ⟨(h.2.1 f (hF f hf)).2.trans h1, h.1 _ _ h2, k2.1.trans h3, k2.2.1.trans h4⟩
def sF (f : Nat) : Prop := f = 192 ∨ f = 206
def sG (g : Nat) : Prop := 207 ≤ g ∧ g ≤ 213
def nF (_ : Nat) : Prop := False
theorem Kp.mdB {S S' : PS} {m : Nat} {rr : Nat → Nat} {B : BT} (h : Kp S S' m rr sF sG) (hM : MdB S m rr B) : MdB S' m rr B := by
  have hF : ∀ f, f ≠ 192 → f ≠ 206 → pI S' f m = pI S f m := fun f h1 h2 => (h.2.1 f (fun w => w.elim h1 h2)).1
  have hR : ∀ f, isRw f → f < 207 → pR S' (rr f) = pR S (rr f) := fun f hf h1 => (h.2.2 f hf).2.2 (fun w => by have := w.1; omega)
  have i4 : isRw 194 := by unfold isRw; omega
  have i5 : isRw 195 := by unfold isRw; omega
  have i7 : isRw 197 := by unfold isRw; omega
  have i8 : isRw 198 := by unfold isRw; omega
  have i0 : isRw 200 := by unfold isRw; omega
  have i1 : isRw 201 := by unfold isRw; omega
  have i3 : isRw 203 := by unfold isRw; omega
  have j4 : isRw 204 := by unfold isRw; omega
  have j5 : isRw 205 := by unfold isRw; omega
  refine ⟨h.mdF hM.1 (fun f hf w => by unfold isRw at hf; unfold sF at w; omega), (hF 193 (by decide) (by decide)).trans hM.n, (hF 196 (by decide) (by decide)).trans hM.q, (hF 199 (by decide) (by decide)).trans hM.c, (hF 202 (by decide) (by decide)).trans hM.k, fun i hi => ?_, fun q hq => ?_, fun c hc => ?_, fun c w hc hw => ?_, hM.v⟩
  · rw [hR 194 i4 (by decide), hR 195 i5 (by decide)]; exact hM.pu i hi
  · rw [hR 197 i7 (by decide), hR 198 i8 (by decide)]; exact hM.pl q hq
  · rw [hR 201 i1 (by decide), hR 203 i3 (by decide), hR 204 j4 (by decide), hR 205 j5 (by decide)]; exact hM.cu c hc
  · rw [hR 200 i0 (by decide)]; exact hM.tb c w hc hw
theorem FreshV.kp {S S' : PS} {m : Nat} {rr : Nat → Nat} {B : BT} (h : Kp S S' m rr sF nF) (hV : FreshV S rr B) : FreshV S' rr B := by
  have hR : ∀ f, isRw f → pR S' (rr f) = pR S (rr f) := fun f hf => (h.2.2 f hf).2.2 (fun w => w)
  have i7 : isRw 207 := by unfold isRw; omega
  have i8 : isRw 208 := by unfold isRw; omega
  have i9 : isRw 209 := by unfold isRw; omega
  have i0 : isRw 210 := by unfold isRw; omega
  have i1 : isRw 211 := by unfold isRw; omega
  have i2 : isRw 212 := by unfold isRw; omega
  have i3 : isRw 213 := by unfold isRw; omega
  unfold FreshV
  rw [hR 207 i7, hR 208 i8, hR 209 i9, hR 210 i0, hR 211 i1, hR 212 i2, hR 213 i3]
  exact hV
theorem Kp.mdI {S S' : PS} {m : Nat} {rr : Nat → Nat} {B : BT} (h : Kp S S' m rr (fun f => f = 192) nF) (hM : MdI S m rr B) : MdI S' m rr B := by
  have h2 : Kp S S' m rr sF nF := ⟨h.1, fun f hf => h.2.1 f (fun w => hf (Or.inl w)), h.2.2⟩
  have h3 : Kp S S' m rr sF sG := ⟨h2.1, h2.2.1, fun f hf => ⟨(h2.2.2 f hf).1, (h2.2.2 f hf).2.1, fun _ => (h2.2.2 f hf).2.2 (fun w => w)⟩⟩
  refine ⟨h3.mdB hM.1, ?_⟩
  rw [(h.2.1 206 (by decide)).1]
  exact hM.2.imp id (fun w => ⟨w.1, w.2.kp h2⟩)
/-- only the model changed -/
def FrM (S S' : PS) (m : Nat) : Prop := Fr S S' (fun _ b => b = m) (fun o b => o = m ∧ ¬ al S b 10 ∧ ¬ al S b 11)
theorem FrM.tr {S S1 S2 : PS} {m : Nat} (h1 : FrM S S1 m) (h2 : FrM S1 S2 m) : FrM S S2 m := Fr.tr h1 h2 (fun _ _ _ h => h.elim id id) (fun _ _ _ h => h.elim id (fun w => ⟨w.1, fun q => w.2.1 (q.fr h1), fun q => w.2.2 (q.fr h1)⟩))
theorem FrM.i {S : PS} {m f : Nat} {v : Int32} : FrM S (uI S f m v) m := fr_uI rfl
theorem rk89 (f : Nat) : rkind f = 8 ∨ rkind f = 9 := by unfold rkind; split <;> simp
theorem FrM.r {S : PS} {m f : Nat} {rr : Nat → Nat} {r : Nat → Int32} (hM : MdF S m rr) (hf : isRw f) : FrM S (uR S (rr f) r) m := by
  obtain ⟨_, h2, _, h4⟩ := hM.2.1 f hf
  have hk := rk89 f
  refine fr_uR ⟨h4, fun q => ?_, fun q => ?_⟩
  · have := h2.2.symm.trans q.2; omega
  · have := h2.2.symm.trans q.2; omega
theorem FrB.kp {S S' : PS} {m : Nat} {rr : Nat → Nat} (h : FrB S S') (hM : MdF S m rr) : Kp S S' m rr nF nF := by
  have hm := h m hM.1.1
  refine ⟨fun b k hb => hb.fr h, fun f _ => hm.2.2.2.2.1 f (fun w => w hM.1), fun f hf => ?_⟩
  obtain ⟨h1, h2, h3, h4⟩ := hM.2.1 f hf
  have k := h (rr f) h2.1
  exact ⟨k.2.2.1, k.2.2.2.1, fun _ => (k.2.2.2.2.2 (fun w => w (by rw [h4]; exact hM.1))).1⟩
theorem MdI.frB {S S' : PS} {m : Nat} {rr : Nat → Nat} {B : BT} (h : MdI S m rr B) (hf : FrB S S') : MdI S' m rr B := by
  have k := hf.kp h.1.f
  exact Kp.mdI ⟨k.1, fun f _ => k.2.1 f (fun w => w), k.2.2⟩ h
theorem MdF.ne {S : PS} {m : Nat} {rr : Nat → Nat} (h : MdF S m rr) {f g : Nat} (hf : isRw f) (hg : isRw g) (hne : f ≠ g) : rr f ≠ rr g := h.2.2 f g hf hg hne
/-- a row written -/
theorem kp_uR {S : PS} {m g : Nat} {rr : Nat → Nat} {r : Nat → Int32} {Fs Gs : Nat → Prop} (hM : MdF S m rr) (hg : isRw g) (hG : Gs g) : Kp S (uR S (rr g) r) m rr Fs Gs := by
  refine ⟨fun b k h => h, fun f _ => ⟨rfl, rfl⟩, fun f hf => ⟨rfl, rfl, fun hn => uR_ne (hM.ne hf hg (fun e => hn (e ▸ hG)))⟩⟩
theorem kp_uI {S : PS} {m g : Nat} {rr : Nat → Nat} {v : Int32} {Fs Gs : Nat → Prop} (hG : Fs g) : Kp S (uI S g m v) m rr Fs Gs := by
  refine ⟨fun b k h => h, fun f hf => ⟨uI_ne (Or.inl (fun e => hf (e ▸ hG))), rfl⟩, fun f _ => ⟨rfl, rfl, fun _ => rfl⟩⟩
theorem Kp.tr {S S1 S2 : PS} {m : Nat} {rr : Nat → Nat} {Fs Gs : Nat → Prop} (h1 : Kp S S1 m rr Fs Gs) (h2 : Kp S1 S2 m rr Fs Gs) : Kp S S2 m rr Fs Gs :=
  ⟨fun b k h => h2.1 b k (h1.1 b k h), fun f hf => ⟨(h2.2.1 f hf).1.trans (h1.2.1 f hf).1, (h2.2.1 f hf).2.trans (h1.2.1 f hf).2⟩, fun f hf => ⟨(h2.2.2 f hf).1.trans (h1.2.2 f hf).1, (h2.2.2 f hf).2.1.trans (h1.2.2 f hf).2.1, fun hn => ((h2.2.2 f hf).2.2 hn).trans ((h1.2.2 f hf).2.2 hn)⟩⟩
theorem Kp.mono {S S' : PS} {m : Nat} {rr : Nat → Nat} {Fs Gs Fs' Gs' : Nat → Prop} (h : Kp S S' m rr Fs Gs) (hF : ∀ f, Fs f → Fs' f) (hG : ∀ g, Gs g → Gs' g) : Kp S S' m rr Fs' Gs' :=
  ⟨h.1, fun f hf => h.2.1 f (fun w => hf (hF f w)), fun f hf => ⟨(h.2.2 f hf).1, (h.2.2 f hf).2.1, fun hn => (h.2.2 f hf).2.2 (fun w => hn (hG f w))⟩⟩
theorem Kp.rf {S : PS} {m : Nat} {rr : Nat → Nat} {Fs Gs : Nat → Prop} : Kp S S m rr Fs Gs := ⟨fun _ _ h => h, fun _ _ => ⟨rfl, rfl⟩, fun _ _ => ⟨rfl, rfl, fun _ => rfl⟩⟩
/-- what a call of the model does: what the document asks (sp: which exception, the book behind it, the answer) -/
def MdO (S S' : PS) (m : Nat) (rr : Nat → Nat) (sp : Nat → BT → Int32 → Prop) (r : Option Value) : Prop := ∃ k B' v u, sp k B' v ∧ MdI S' m rr B' ∧ pI S' 192 m = nI k ∧ FrM S S' m ∧ r = some (.int u) ∧ (k = 0 → u = v)
/-- refused: only thrown changed -/
theorem MdI.thr {S : PS} {m : Nat} {rr : Nat → Nat} {B : BT} (h : MdI S m rr B) (v : Int32) : MdI (uI S 192 m v) m rr B := Kp.mdI (kp_uI rfl) h
theorem MdO.no {S : PS} {m : Nat} {rr : Nat → Nat} {B : BT} {sp : Nat → BT → Int32 → Prop} {k : Nat} {w : Int32} (h : MdI S m rr B) (hk : k ≠ 0) (hs : ∀ v, sp k B v) : MdO S (uI (uI S 192 m w) 192 m (nI k)) m rr sp (some (.int 0)) :=
  ⟨k, B, 0, 0, hs 0, (h.thr w).thr _, uI_q, FrM.i.tr FrM.i, rfl, fun e => absurd e hk⟩
theorem md_thrown {Γ : GBase} (F : FB Γ) (S : PS) (m k : Nat) (hm : al S m 6) (hk : pI S 192 m = nI k) : GMet Γ yX6_thrown cX6_thrown 1 ((some FieldType.int)) 0 0 0 [.ref m] S (fun r S' => S = S' ∧ r = some (.int (nI k))) noX := by
  refine GMet.of (loc0 := [(0, .ref m)]) F (by decide +kernel) rfl (Nat.le_of_ble_eq_true rfl) (fun X C R Tb nm => ?_)
  refine g_aload_n C dX6_thrown_0 rfl rfl ?_
  refine ge_Model_thrown C tw_5_89 (by exact hm) (by exact hk) dX6_thrown_1 ?_
  refine g_iret C R rfl (by omega) (by omega) dX6_thrown_4 ?_
  exact ⟨rfl, rfl⟩
theorem md_fail {Γ : GBase} (F : FB Γ) (S : PS) (m : Nat) (v : Int32) (hm : al S m 6) : GMet Γ yX6_fail cX6_fail 2 ((some FieldType.int)) 0 0 0 [.ref m, .int v] S (fun r S' => S' = uI S 192 m v ∧ r = some (.int 0)) noX := by
  refine GMet.of (loc0 := [(0, .ref m), (1, .int v)]) F (by decide +kernel) rfl (Nat.le_of_ble_eq_true rfl) (fun X C R Tb nm => ?_)
  refine g_aload_n C dX6_fail_0 rfl rfl ?_
  refine g_iload_n C dX6_fail_1 rfl rfl ?_
  refine pu_Model_thrown C tw_5_89 (by exact hm) dX6_fail_2 ?_
  refine g_iconst C dX6_fail_5 (v := 0) (by decide) ?_
  refine g_iret C R rfl (by omega) (by omega) dX6_fail_6 ?_
  exact ⟨rfl, rfl⟩
theorem md_isCue {Γ : GBase} (F : FB Γ) (S : PS) (m : Nat) (y : Int32) (rr : Nat → Nat) (B : BT) (hB : MdB S m rr B) : GMet Γ yX6_isCue cX6_isCue 2 ((some FieldType.boolean)) 1 0 0 [.ref m, .int y] S (fun r S' => S = S' ∧ ∃ v, isB v (∃ c, isC B y c) ∧ r = some (.int v)) noX := by
  have h40 := hB.v.2.2.1
  have r1 : isRw 201 := by unfold isRw; omega
  refine GMet.of (loc0 := [(0, .ref m), (1, .int y)]) F (by decide +kernel) rfl (Nat.le_of_ble_eq_true rfl) (fun X C R Tb nm => ?_)
  refine g_iload_n C dX6_isCue_0 rfl rfl ?_
  refine g_iconst C dX6_isCue_1 (v := 0) (by decide) ?_
  refine g_aload_n C dX6_isCue_2 rfl rfl ?_
  refine ge_Model_cues C tw_5_96 (by exact hB.m) (by exact hB.c) dX6_isCue_3 ?_
  refine g_iconst C dX6_isCue_6 (v := 1) (by decide) ?_
  refine g_isub C dX6_isCue_7 ?_
  refine g_callS C gy_X6_isIn tw_5_165 tw_5_166 (by decide) (md_isIn F S y 0 (nI (tC B) - 1)) rfl rfl (Nat.le_of_ble_eq_true rfl) (by omega) (by omega) dX6_isCue_8 (fun _ _ h9 => h9.elim) ?_
  rintro _ _ ⟨rfl, v, hv, rfl⟩
  rw [inR_in (by omega)] at hv
  refine g_if_eq C dX6_isCue_11 (tgt := 27) (by decide) (fun c1 => ?_) (fun c1 => ?_)
  · refine g_iconst C dX6_isCue_27 (v := 0) (by decide) ?_
    refine g_iret C R rfl (by omega) (by omega) dX6_isCue_28 ?_
    exact ⟨rfl, 0, Or.inr ⟨rfl, fun ⟨c, hc⟩ => hv.neg c1 ⟨c, hc.1, hc.2.1⟩⟩, rfl⟩
  · obtain ⟨c, hc, rfl⟩ := hv.pos c1
    refine g_aload_n C dX6_isCue_14 rfl rfl ?_
    refine ge_Model_areStruck C tw_5_98 (by exact hB.m) (by exact hB.f.r r1) dX6_isCue_15 ?_
    refine g_iload_n C dX6_isCue_18 rfl rfl ?_
    refine g_ldZ C rfl hB.f.z (by rw [hB.f.n r1 (n := 40) rfl]; omega) (by omega) (hB.cu c (by omega)).1 dX6_isCue_19 ?_
    cases hs : tK B c with
    | true =>
      refine g_if_ne C dX6_isCue_20 (tgt := 27) (by decide) (fun c2 => ?_) (fun c2 => ?_)
      · refine g_iconst C dX6_isCue_27 (v := 0) (by decide) ?_
        refine g_iret C R rfl (by omega) (by omega) dX6_isCue_28 ?_
        refine ⟨rfl, 0, Or.inr ⟨rfl, fun ⟨c', h1, h2, h3⟩ => ?_⟩, rfl⟩
        have e := (nI_eq (by omega) (by omega)).mp h2
        rw [e, h3] at hs
        cases hs
      · exact absurd c2 (by decide)
    | false =>
      refine g_if_ne C dX6_isCue_20 (tgt := 27) (by decide) (fun c2 => ?_) (fun c2 => ?_)
      · exact absurd rfl c2
      · refine g_iconst C dX6_isCue_23 (v := 1) (by decide) ?_
        refine g_goto C dX6_isCue_24 (tgt := 28) (by decide) ?_
        refine g_iret C R rfl (by omega) (by omega) dX6_isCue_28 ?_
        exact ⟨rfl, 1, Or.inl ⟨rfl, c, hc, rfl, hs⟩, rfl⟩
def spCount (B : BT) (y : Int32) (k : Nat) (B' : BT) (v : Int32) : Prop := (k = 1 ∧ B' = B ∧ ¬ inR y 4) ∨ (k = 0 ∧ B' = B ∧ ∃ w, w < 4 ∧ y = nI w ∧ v = nI (if w = 0 then tN B else if w = 1 then tQ B else if w = 2 then tC B else cntN (tK B) (tC B)))
theorem md_count {Γ : GBase} (F : FB Γ) (S : PS) (m : Nat) (y : Int32) (rr : Nat → Nat) (B : BT) (hI : MdI S m rr B) : GMet Γ yX6_count cX6_count 2 ((some FieldType.int)) 2 0 0 [.ref m, .int y] S (fun r S' => MdO S S' m rr (spCount B y) r) noX := by
  have hB := hI.1
  have hB1 : MdB (uI S 192 m 0) m rr B := (hI.thr 0).1
  refine GMet.of (loc0 := [(0, .ref m), (1, .int y)]) F (by decide +kernel) rfl (Nat.le_of_ble_eq_true rfl) (fun X C R Tb nm => ?_)
  refine g_aload_n C dX6_count_0 rfl rfl ?_
  refine g_iconst C dX6_count_1 (v := 0) (by decide) ?_
  refine pu_Model_thrown C tw_5_89 (by exact hB.m) dX6_count_2 ?_
  refine g_iload_n C dX6_count_5 rfl rfl ?_
  refine g_iconst C dX6_count_6 (v := 0) (by decide) ?_
  refine g_iconst C dX6_count_7 (v := 3) (by decide) ?_
  refine g_callS C gy_X6_isIn tw_5_165 tw_5_166 (by decide) (md_isIn F (uI S 192 m 0) y 0 3) rfl rfl (Nat.le_of_ble_eq_true rfl) (by omega) (by omega) dX6_count_8 (fun _ _ h9 => h9.elim) ?_
  rintro _ _ ⟨rfl, v, hv, rfl⟩
  rw [show (3 : Int32) = nI 4 - 1 from by decide, inR_in (by omega)] at hv
  have done : ∀ (w : Nat) (n : Nat), w < 4 → y = nI w → n = (if w = 0 then tN B else if w = 1 then tQ B else if w = 2 then tC B else cntN (tK B) (tC B)) → MdO S (uI S 192 m 0) m rr (spCount B y) (some (.int (nI n))) := fun w n h1 h2 h3 => ⟨0, B, nI n, nI n, Or.inr ⟨rfl, rfl, w, h1, h2, by rw [h3]⟩, hI.thr 0, uI_q, FrM.i, rfl, fun _ => rfl⟩
  refine g_if_ne C dX6_count_11 (tgt := 20) (by decide) (fun c1 => ?_) (fun c1 => ?_)
  · obtain ⟨w, hw, rfl⟩ := hv.pos c1
    refine g_iload_n C dX6_count_20 rfl rfl ?_
    refine g_if_ne C dX6_count_21 (tgt := 31) (by decide) (fun c2 => ?_) (fun c2 => ?_)
    · refine g_iload_n C dX6_count_31 rfl rfl ?_
      refine g_iconst C dX6_count_32 (v := 1) (by decide) ?_
      refine g_icmp_ne C dX6_count_33 (tgt := 43) (by decide) (fun c3 => ?_) (fun c3 => ?_)
      · refine g_iload_n C dX6_count_43 rfl rfl ?_
        refine g_iconst C dX6_count_44 (v := 2) (by decide) ?_
        refine g_icmp_ne C dX6_count_45 (tgt := 55) (by decide) (fun c4 => ?_) (fun c4 => ?_)
        · refine g_aload_n C dX6_count_55 rfl rfl ?_
          refine ge_Model_struck C tw_5_99 (by exact hB1.m) (by exact hB1.k) dX6_count_56 ?_
          refine g_iret C R rfl (by omega) (by omega) dX6_count_59 ?_
          have h0 : w ≠ 0 := fun e => c2 (by rw [e]; rfl)
          have h1 : w ≠ 1 := fun e => c3 (by rw [e]; rfl)
          have h2 : w ≠ 2 := fun e => c4 (by rw [e]; rfl)
          exact done w _ hw rfl (by rw [if_neg h0, if_neg h1, if_neg h2])
        · refine g_aload_n C dX6_count_48 rfl rfl ?_
          refine ge_Model_cues C tw_5_96 (by exact hB1.m) (by exact hB1.c) dX6_count_49 ?_
          refine g_goto C dX6_count_52 (tgt := 59) (by decide) ?_
          refine g_iret C R rfl (by omega) (by omega) dX6_count_59 ?_
          have h2 := (nI_eq (b := 2) (by omega) (by omega)).mp c4
          exact done w _ hw rfl (by rw [h2]; rfl)
      · refine g_aload_n C dX6_count_36 rfl rfl ?_
        refine ge_Model_players C tw_5_93 (by exact hB1.m) (by exact hB1.q) dX6_count_37 ?_
        refine g_goto C dX6_count_40 (tgt := 59) (by decide) ?_
        refine g_iret C R rfl (by omega) (by omega) dX6_count_59 ?_
        have h2 := (nI_eq (b := 1) (by omega) (by omega)).mp c3
        exact done w _ hw rfl (by rw [h2]; rfl)
    · refine g_aload_n C dX6_count_24 rfl rfl ?_
      refine ge_Model_puppets C tw_5_90 (by exact hB1.m) (by exact hB1.n) dX6_count_25 ?_
      refine g_goto C dX6_count_28 (tgt := 59) (by decide) ?_
      refine g_iret C R rfl (by omega) (by omega) dX6_count_59 ?_
      have h2 := (nI_eq (b := 0) (by omega) (by omega)).mp c2
      exact done w _ hw rfl (by rw [h2]; rfl)
  · refine g_aload_n C dX6_count_14 rfl rfl ?_
    refine g_iconst C dX6_count_15 (v := 1) (by decide) ?_
    refine g_callV C gy_X6_fail tw_5_168 tw_5_170 ts_26 (by decide) (kk := 6) rfl rfl (by exact hB1.m) (md_fail F _ m 1 hB1.m) rfl rfl (Nat.le_of_ble_eq_true rfl) (by omega) (by omega) dX6_count_16 (fun _ _ h9 => h9.elim) ?_
    rintro _ _ ⟨rfl, rfl⟩
    refine g_iret C R rfl (by omega) (by omega) dX6_count_19 ?_
    exact MdO.no (k := 1) hI (by decide) (fun v => Or.inl ⟨rfl, rfl, hv.neg c1⟩)
