/-! ===== the model: who holds what; can a player do it ===== -/
def PlV (S : PS) (rr : Nat → Nat) (B : BT) : Prop := ∀ p b, p < tN B → b < 1000 → pR S (rr 207) (1000 * p + b) = zO (plL (dsB B p) b) ∧ pR S (rr 208) (1000 * p + b) = zO (trL (dsB B p) b) ∧ pR S (rr 209) (1000 * p + b) = nI (stL (upTo (dsB B p) b)).length - 1
def CaV (S : PS) (rr : Nat → Nat) (B : BT) (A : AT) : Prop := ∀ p j s, p < tN B → (stL (dsB B p))[j]? = some s → pR S (rr 213) (40 * p + j) = zO (A p j)
noncomputable def plyAt (B : BT) (A : AT) (p b : Nat) : Option Nat := match plL (dsB B p) b with | none => none | some _ => A p ((stL (upTo (dsB B p) b)).length - 1)
theorem plyAt_none {B : BT} {A : AT} {p b : Nat} (h : plL (dsB B p) b = none) : plyAt B A p b = none := by unfold plyAt; rw [h]
theorem plyAt_some {B : BT} {A : AT} {p b v : Nat} (h : plL (dsB B p) b = some v) : plyAt B A p b = A p ((stL (upTo (dsB B p) b)).length - 1) := by unfold plyAt; rw [h]
theorem held_ply {B : BT} {A : AT} {p b q : Nat} (hV : VB B) (hp : p < tN B) (hb : b < 1000) : held (ctB B) A q b p = true ↔ plyAt B A p b = some q := by
  have hg := hV.good hp
  rw [held_iff]
  cases h : plL (dsB B p) b with
  | none =>
    rw [plyAt_none h]
    constructor
    · rintro ⟨j, s, h1, h2, h3⟩
      rw [inS_iff] at h2
      have := hg.on hb (List.mem_of_getElem? h1) h2.1 h2.2
      rw [h] at this
      cases this
    · intro e; cases e
  | some v =>
    rw [plyAt_some h]
    obtain ⟨j, s, e1, e2, e3, e4⟩ := hg.at hb (by rw [h]; rfl)
    rw [e1, Nat.add_sub_cancel]
    constructor
    · rintro ⟨j', s', h1, h2, h3⟩
      rw [inS_iff] at h2
      have : j' = j := hg.chain.one h1 e2 h2.1 h2.2 e3 e4
      rw [← this]; exact h3
    · intro e
      exact ⟨j, s, e2, inS_iff.mpr ⟨e3, e4⟩, e⟩
theorem zO_nI {o : Option Nat} {q : Nat} (h : ∀ v, o = some v → v < 1000) (hq : q < 1000) : zO o = nI q ↔ o = some q := zO_inj (o' := some q) h (fun v hv => by cases hv; exact hq)
theorem md_placeAt {Γ : GBase} (F : FB Γ) (S : PS) (m p b : Nat) (rr : Nat → Nat) (B : BT) (hB : MdB S m rr B) (hP : PlV S rr B) (hp : p < tN B) (hb : b < 1000) : GMet Γ yX6_placeAt cX6_placeAt 3 ((some FieldType.int)) 0 0 0 [.ref m, .int (nI p), .int (nI b)] S (fun r S' => S = S' ∧ r = some (.int (zO (plL (dsB B p) b)))) noX := by
  have h8 := hB.v.1
  refine GMet.of (loc0 := [(0, .ref m), (1, .int (nI p)), (2, .int (nI b))]) F (by decide +kernel) rfl (Nat.le_of_ble_eq_true rfl) (fun X C R Tb nm => ?_)
  refine g_aload_n C dX6_placeAt_0 rfl rfl ?_
  refine ge_Model_places C tw_5_104 (by exact hB.m) (by exact hB.f.r i_207) dX6_placeAt_1 ?_
  refine g_sipush C dX6_placeAt_4 (v := 1000) (by decide) ?_
  refine g_iload_n C dX6_placeAt_7 rfl rfl ?_
  refine g_imul C dX6_placeAt_8 ?_
  refine g_iload_n C dX6_placeAt_9 rfl rfl ?_
  refine g_iadd C dX6_placeAt_10 ?_
  refine g_ldI C (kix p b) (hB.f.i i_207 rfl) (hB.f.lt i_207 (n := 8000) rfl (by omega)) (by omega) (hP p b hp hb).1 dX6_placeAt_11 ?_
  refine g_iret C R rfl (by omega) (by omega) dX6_placeAt_12 ?_
  exact ⟨rfl, rfl⟩
theorem md_trackAt {Γ : GBase} (F : FB Γ) (S : PS) (m p b : Nat) (rr : Nat → Nat) (B : BT) (hB : MdB S m rr B) (hP : PlV S rr B) (hp : p < tN B) (hb : b < 1000) : GMet Γ yX6_trackAt cX6_trackAt 3 ((some FieldType.int)) 0 0 0 [.ref m, .int (nI p), .int (nI b)] S (fun r S' => S = S' ∧ r = some (.int (zO (trL (dsB B p) b)))) noX := by
  have h8 := hB.v.1
  refine GMet.of (loc0 := [(0, .ref m), (1, .int (nI p)), (2, .int (nI b))]) F (by decide +kernel) rfl (Nat.le_of_ble_eq_true rfl) (fun X C R Tb nm => ?_)
  refine g_aload_n C dX6_trackAt_0 rfl rfl ?_
  refine ge_Model_tracks C tw_5_105 (by exact hB.m) (by exact hB.f.r i_208) dX6_trackAt_1 ?_
  refine g_sipush C dX6_trackAt_4 (v := 1000) (by decide) ?_
  refine g_iload_n C dX6_trackAt_7 rfl rfl ?_
  refine g_imul C dX6_trackAt_8 ?_
  refine g_iload_n C dX6_trackAt_9 rfl rfl ?_
  refine g_iadd C dX6_trackAt_10 ?_
  refine g_ldI C (kix p b) (hB.f.i i_208 rfl) (hB.f.lt i_208 (n := 8000) rfl (by omega)) (by omega) (hP p b hp hb).2.1 dX6_trackAt_11 ?_
  refine g_iret C R rfl (by omega) (by omega) dX6_trackAt_12 ?_
  exact ⟨rfl, rfl⟩
theorem md_playerAt {Γ : GBase} (F : FB Γ) (S : PS) (m p b : Nat) (rr : Nat → Nat) (B : BT) (A : AT) (hB : MdB S m rr B) (hP : PlV S rr B) (hC : CaV S rr B A) (hp : p < tN B) (hb : b < 1000) : GMet Γ yX6_playerAt cX6_playerAt 3 ((some FieldType.int)) 0 0 0 [.ref m, .int (nI p), .int (nI b)] S (fun r S' => S = S' ∧ r = some (.int (zO (plyAt B A p b)))) noX := by
  have h8 := hB.v.1
  have hg := hB.v.good hp
  have hpl := hP p b hp hb
  refine GMet.of (loc0 := [(0, .ref m), (1, .int (nI p)), (2, .int (nI b))]) F (by decide +kernel) rfl (Nat.le_of_ble_eq_true rfl) (fun X C R Tb nm => ?_)
  refine g_aload_n C dX6_playerAt_0 rfl rfl ?_
  refine ge_Model_places C tw_5_104 (by exact hB.m) (by exact hB.f.r i_207) dX6_playerAt_1 ?_
  refine g_sipush C dX6_playerAt_4 (v := 1000) (by decide) ?_
  refine g_iload_n C dX6_playerAt_7 rfl rfl ?_
  refine g_imul C dX6_playerAt_8 ?_
  refine g_iload_n C dX6_playerAt_9 rfl rfl ?_
  refine g_iadd C dX6_playerAt_10 ?_
  refine g_ldI C (kix p b) (hB.f.i i_207 rfl) (hB.f.lt i_207 (n := 8000) rfl (by omega)) (by omega) hpl.1 dX6_playerAt_11 ?_
  refine g_iconst C dX6_playerAt_12 (v := -1) (by decide) ?_
  cases h : plL (dsB B p) b with
  | none =>
    refine g_icmp_ne C dX6_playerAt_13 (tgt := 20) (by decide) (fun c1 => ?_) (fun c1 => ?_)
    · exact absurd rfl c1
    · refine g_iconst C dX6_playerAt_16 (v := -1) (by decide) ?_
      refine g_goto C dX6_playerAt_17 (tgt := 42) (by decide) ?_
      refine g_iret C R rfl (by omega) (by omega) dX6_playerAt_42 ?_
      rw [plyAt_none h]
      exact ⟨rfl, rfl⟩
  | some v =>
    have hv := hg.pl h
    refine g_icmp_ne C dX6_playerAt_13 (tgt := 20) (by decide) (fun c1 => ?_) (fun c1 => ?_)
    · obtain ⟨j, s, e1, e2, e3, e4⟩ := hg.at hb (by rw [h]; rfl)
      have hj := (List.getElem?_eq_some_iff.mp e2).1
      have h40 : (stL (dsB B p)).length ≤ 40 := by
        have := stL_len (dsB B p)
        have := hB.v.lenD hp
        omega
      refine g_aload_n C dX6_playerAt_20 rfl rfl ?_
      refine ge_Model_cast C tw_5_110 (by exact hB.m) (by exact hB.f.r i_213) dX6_playerAt_21 ?_
      refine g_bipush C dX6_playerAt_24 (v := 40) (by decide) ?_
      refine g_iload_n C dX6_playerAt_26 rfl rfl ?_
      refine g_imul C dX6_playerAt_27 ?_
      refine g_aload_n C dX6_playerAt_28 rfl rfl ?_
      refine ge_Model_stays C tw_5_106 (by exact hB.m) (by exact hB.f.r i_209) dX6_playerAt_29 ?_
      refine g_sipush C dX6_playerAt_32 (v := 1000) (by decide) ?_
      refine g_iload_n C dX6_playerAt_35 rfl rfl ?_
      refine g_imul C dX6_playerAt_36 ?_
      refine g_iload_n C dX6_playerAt_37 rfl rfl ?_
      refine g_iadd C dX6_playerAt_38 ?_
      refine g_ldI C (kix p b) (hB.f.i i_209 rfl) (hB.f.lt i_209 (n := 8000) rfl (by omega)) (by omega) (v := nI j) (by rw [hpl.2.2, e1, nI_pred]) dX6_playerAt_39 ?_
      refine g_iadd C dX6_playerAt_40 ?_
      refine g_ldI C (fix40 p j) (hB.f.i i_213 rfl) (hB.f.lt i_213 (n := 320) rfl (by omega)) (by omega) (hC p j s hp e2) dX6_playerAt_41 ?_
      refine g_iret C R rfl (by omega) (by omega) dX6_playerAt_42 ?_
      rw [plyAt_some h, e1]
      exact ⟨rfl, rfl⟩
    · exact absurd c1 (nI_m1 (by omega))
theorem lastH_bd {C : CT} {A : AT} {q : Nat} (h : ∀ p b v, p < cN C → cP C p b = some v → v < 20) (ho : cO C q < 20) : ∀ b, (lastH C A q b).1 < 20 ∧ (lastH C A q b).2 ≤ b := by
  intro b
  induction b with
  | zero => exact ⟨ho, Nat.le_refl _⟩
  | succ b ih =>
    unfold lastH
    cases hf : fpl C A q b with
    | none => exact ⟨ih.1, by have := ih.2; show (lastH C A q b).2 ≤ b + 1; omega⟩
    | some x =>
      obtain ⟨k, h1, h2, h3⟩ := lastN_ex _ hf
      exact ⟨h _ _ _ h1 h3, Nat.le_succ b⟩
theorem nI_sub {a b : Nat} (h : b ≤ a) : nI a - nI b = nI (a - b) := by
  have : nI a = nI (a - b) + nI b := by rw [nI_add]; congr 1; omega
  rw [this, Int32.add_sub_cancel]
