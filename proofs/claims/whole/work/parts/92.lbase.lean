/-! ===== mean of the law; what the law's body stands on ===== -/
def LwD (Γ : GBase) (S S' : PS) (x o : Nat) (A : AD) (B : BT) (y : Int32) (r : Option Value) : Prop := ∃ k, ((k = 1 ∧ noC B y) ∨ (k = 0 ∧ ∃ c, isC B y c ∧ pRD S' o 0 = meanB B c)) ∧ BkI Γ S' x A B ∧ FrL S S' ∧ r = some (.int (nI k))
theorem gyh_mean : GYH yL_mean cL_mean 4 (some FieldType.int) [(0, 8, 11, 24)] 3 := ⟨tw_5_78, tw_1_0, ⟨by decide +kernel, by decide +kernel⟩, by decide +kernel, by decide⟩
theorem lw_mean {Γ : GBase} (F : FB Γ) (S : PS) (x o : Nat) (y : Int32) (A : AD) (B : BT) (hI : BkI Γ S x A B) (ho : al S o 11) (hn : pN S o = 1) : GMetH Γ yL_mean cL_mean 4 (some FieldType.int) [(0, 8, 11, 24)] 11 1 6 [.ref x, .int y, .ref o] S (fun r S' => LwD Γ S S' x o A B y r) := by
  refine GMetH.of (loc0 := [(0, .ref x), (1, .int y), (2, .ref o)]) F (by decide +kernel) rfl (Nat.le_of_ble_eq_true rfl) (fun X C R Tb => ?_)
  refine g_aload_n C dL_mean_0 rfl rfl ?_
  refine g_iconst C dL_mean_1 (v := 0) (by decide) ?_
  refine g_aload_n C dL_mean_2 rfl rfl ?_
  refine g_iload_n C dL_mean_3 rfl rfl ?_
  refine g_callV C gy_X5_mean tw_5_79 tw_5_80 tw_5_81 (by decide) (kk := 5) rfl rfl (by exact hI.1) (m_mean F S x y A B hI) rfl rfl (Nat.le_of_ble_eq_true rfl) (by omega) (by omega) dL_mean_4 ?_ ?_
  · rintro E S1 ⟨rfl, rfl, hno⟩
    refine g_catch C (pre := []) (suf := []) (f := 0) (t := 8) (h := 11) (ct := 24) Tb (by intro z9 hz; cases hz) (by decide) (by decide) tw_3_233 tw_1_164 (fun q => ?_)
    refine g_astore_n C dL_mean_11 rfl (by decide) rfl ?_
    refine g_iconst C dL_mean_12 (v := 1) (by decide) ?_
    refine g_iret C R rfl (by omega) (by omega) dL_mean_13 ?_
    exact ⟨1, Or.inl ⟨rfl, hno⟩, hI, FrB.rf.l, rfl⟩
  · rintro _ S1 ⟨rfl, c, hc, rfl⟩
    refine g_stD C rfl ho (by rw [hn]; decide) (by decide) dL_mean_7 ?_
    refine g_goto C dL_mean_8 (tgt := 14) (by decide) ?_
    refine g_iconst C dL_mean_14 (v := 0) (by decide) ?_
    refine g_iret C R rfl (by omega) (by omega) dL_mean_15 ?_
    refine ⟨0, Or.inr ⟨rfl, c, hc, ?_⟩, hI.frO (Or.inr ho) (fr_uRD rfl), fr_uRD (Or.inr (Or.inr ho)), rfl⟩
    exact (congrFun (va_up_self (pRD S) o (va_up (pRD S o) 0 (meanB B c))) 0).trans (va_up_self _ _ _)
theorem meanB_eq {B : BT} (hV : VB B) {c : Nat} (hc : c < tC B) : FP.dcmp (meanB B c) (meanB B c) = some Ordering.eq := by
  have hs := hV.2.2.2.2.2.2.2.1 c hc
  unfold meanB
  rcases Nat.eq_zero_or_pos (tE B c) with h | h
  · rw [if_pos h]
    decide +kernel
  · rw [if_neg (by omega)]
    exact (nan_no h hs.1 hs.2.1 hs.2.2.1).2
theorem nI_all (v : Int32) : ∃ a, v = nI a := by
  refine ⟨v.toBitVec.toNat, Int32.toBitVec_inj.mp ?_⟩
  show v.toBitVec = BitVec.ofNat 32 v.toBitVec.toNat
  apply BitVec.eq_of_toNat_eq
  rw [BitVec.toNat_ofNat]
  exact (Nat.mod_eq_of_lt v.toBitVec.isLt).symm
theorem and31 (v : Int32) : ∃ t, t < 32 ∧ v &&& 31 = nI t := by
  obtain ⟨a, rfl⟩ := nI_all v
  exact ⟨a &&& 31, Nat.lt_succ_of_le Nat.and_le_right, nb_and a 31⟩
theorem more_iff {L i : Nat} (hL : L ≤ 100000) (hi : i ≤ 100000) : (nI L - 5 < nI i) ↔ L < i + 5 := by
  rcases Nat.lt_or_ge L 5 with h | h
  · have hlt : (nI L - 5).toInt < 0 := by
      rcases (show L = 0 ∨ L = 1 ∨ L = 2 ∨ L = 3 ∨ L = 4 by omega) with rfl | rfl | rfl | rfl | rfl <;> decide
    rw [Int32.lt_iff_toInt_lt, nI_toInt (by omega)]
    omega
  · rw [show (5 : Int32) = nI 5 from rfl, nI_sub h, nI_ltI (by omega) (by omega)]
    omega
/-- the script lies below all that the law makes -/
def LScr (Γ : GBase) (X : Cx) (L : Nat) (xs : Nat → Int32) : Prop := va_X (bB Γ) L xs X.2.2.2.1 X.2.2.2.1.heap ∧ bB Γ < X.2.2.2.1.heap.size ∧ ¬ AA Γ (bB Γ) ∧ L ≤ 2560
section GScript
variable {Γ : GBase} {X : Cx} {cc : ByteArray} {nL : Nat} {own : String} {lvl mc ms : Nat} {S : PS} {k n pc : Nat} {loc : List (Nat × Value)} {st : List Value} {L : Nat} {xs : Nat → Int32}
theorem g_sld (C : GC Γ X cc nL own lvl mc ms) (hX : LScr Γ X L xs) {x : Int32} {i : Nat} (hx : x = nI i) (hi : i < L) (d : decode cc pc = .ok (.iaload, 1)) (q : GW Γ X S k n (pc + 1) loc (.int (xs i) :: st)) : GW Γ X S k n pc loc (.int x :: .ref (bB Γ) :: st) := fun H locs ls hP hD hS hl => by
  obtain ⟨h1, h2, h3, h4⟩ := hX
  subst hx
  refine va_sld C.hx C.hb h1 h2 h3 hS (vp_in_nI hi (by omega)) d ?_
  rw [nI_clamp (by omega)]
  exact q H locs ls hP hD hS hl
theorem g_slen (C : GC Γ X cc nL own lvl mc ms) (hX : LScr Γ X L xs) (d : decode cc pc = .ok (.arraylength, 1)) (q : GW Γ X S k n (pc + 1) loc (.int (nI L) :: st)) : GW Γ X S k n pc loc (.ref (bB Γ) :: st) := fun H locs ls hP hD hS hl => by
  obtain ⟨h1, h2, h3, h4⟩ := hX
  exact va_slen C.hx C.hb h1 h2 h3 hS d (q H locs ls hP hD hS hl)
end GScript
/-- the law's world -/
def LI (Γ : GBase) (S : PS) (x m o od : Nat) (B : BT) : Prop := (∃ A, BkI Γ S x A B) ∧ (∃ rr, MdI S m rr B) ∧ al S o 10 ∧ pN S o = 1 ∧ pW S o = m ∧ al S od 11 ∧ pN S od = 1 ∧ pW S od = m
theorem LI.m {Γ : GBase} {S : PS} {x m o od : Nat} {B : BT} (h : LI Γ S x m o od B) : al S m 6 := by
  obtain ⟨-, ⟨rr, h⟩, -⟩ := h
  exact h.1.m
theorem LI.v {Γ : GBase} {S : PS} {x m o od : Nat} {B : BT} (h : LI Γ S x m o od B) : VB B := by
  obtain ⟨-, ⟨rr, h⟩, -⟩ := h
  exact h.1.v
/-- behind a call of the class -/
theorem LI.l {Γ : GBase} {S S' : PS} {x m o od : Nat} {A' : AD} {B B' : BT} (h : LI Γ S x m o od B) (hf : FrL S S') (hI : BkI Γ S' x A' B') : (∃ rr, MdI S' m rr B) ∧ al S' o 10 ∧ pN S' o = 1 ∧ pW S' o = m ∧ al S' od 11 ∧ pN S' od = 1 ∧ pW S' od = m := by
  obtain ⟨-, ⟨rr, h1⟩, h2, h3, h4, h5, h6, h7⟩ := h
  exact ⟨⟨rr, h1.frL hf⟩, h2.fr hf, (hf o h2.1).2.2.1.trans h3, (hf o h2.1).2.2.2.1.trans h4, h5.fr hf, (hf od h5.1).2.2.1.trans h6, (hf od h5.1).2.2.2.1.trans h7⟩
/-- behind the model's call -/
theorem LI.of {Γ : GBase} {S1 S2 : PS} {x m o od : Nat} {A' : AD} {B' : BT} {rr : Nat → Nat} (hm : al S1 m 6) (hI : BkI Γ S1 x A' B') (h : al S1 o 10 ∧ pN S1 o = 1 ∧ pW S1 o = m ∧ al S1 od 11 ∧ pN S1 od = 1 ∧ pW S1 od = m) (hf : FrM S1 S2 m) (hM : MdI S2 m rr B') : LI Γ S2 x m o od B' ∧ pRL S2 o = pRL S1 o ∧ pRD S2 od = pRD S1 od := by
  obtain ⟨h2, h3, h4, h5, h6, h7⟩ := h
  have a := hf o h2.1
  have b := hf od h5.1
  exact ⟨⟨⟨A', hI.frM hm hf⟩, ⟨rr, hM⟩, h2.fr hf, a.2.2.1.trans h3, a.2.2.2.1.trans h4, h5.fr hf, b.2.2.1.trans h6, b.2.2.2.1.trans h7⟩, (a.2.2.2.2.2 (fun w => w.2.1 h2)).2.1, (b.2.2.2.2.2 (fun w => w.2.2 h5)).2.2.1⟩
theorem cmp_eq (x : Int64) : lg_cmp x x = 0 := by
  unfold lg_cmp
  rw [if_neg (by simp), if_pos rfl]
