def BkV (Γ : GBase) (S : PS) (x : Nat) (A : AD) (B : BT) (os : List Nat) : Prop := al S x 5 ∧ BkL Γ S x 160 (8 * x + 3) (rmap (dP A) (tN B)) ∧ BkL Γ S x 161 (8 * x + 4) (rmap (dY A) (tQ B)) ∧ BkL Γ S x 162 (8 * x + 5) (rmap (dC A) (tC B)) ∧ (BkL Γ S x 163 (8 * x + 6) os ∧ (∀ t, t ∈ os → al S t 4) ∧ os.length ≤ 60) ∧ pI S 164 x = nI (cntN (tK B) (tC B)) ∧ PupsI Γ S A B ∧ PlysI S A B ∧ CuesI S A B ∧ VB B
def moQ (S : PS) : Nat → Nat → Prop := fun f b => f = 131 ∧ al S b 4
def maQ (S : PS) : Nat → Nat → Prop := fun o _ => al S o 2
theorem BkV.p {Γ : GBase} {S : PS} {x : Nat} {A : AD} {B : BT} {os : List Nat} (h : BkV Γ S x A B os) : BkP Γ S x A B := ⟨h.1, h.2.1, h.2.2.2.2.2.2.1, h.2.2.2.2.2.2.2.2.2⟩
theorem BkV.frC {Γ : GBase} {S S' : PS} {x : Nat} {A : AD} {B : BT} {os : List Nat} (h : BkV Γ S x A B os) (hf : Fr S S' (moQ S) (maQ S)) : BkV Γ S' x A B os := by
  obtain ⟨a1, a2, a3, a4, ⟨a5, a6, a7⟩, a9, a11, a12, a13, a14⟩ := h
  have hk : ∀ f b k, al S b k → k ≠ 4 → ¬ moQ S f b := fun f b k hb hk h => (hb.kne h.2 hk) rfl
  have hr : ∀ o b k, al S o k → k ≠ 2 → ¬ maQ S o b := fun o b k hb hk h => (hb.kne h hk) rfl
  have bl : ∀ {f o xs}, BkL Γ S x f o xs → BkL Γ S' x f o xs := fun {f o xs} hb => hb.fr a1 hf (hk _ _ 5 a1 (by decide)) (fun L g hL _ => hk g L 7 hL (by decide)) (fun L E hL _ _ _ => hr L E 7 hL (by decide))
  refine ⟨a1.fr hf, bl a2, bl a3, bl a4, ⟨bl a5, fun t ht => (a6 t ht).fr hf, a7⟩, ((hf x a1.1).2.2.2.2.1 164 (hk _ _ 5 a1 (by decide))).1.trans a9, a11.fr hf (fun i hi => ?_), a12.fr hf (fun a f ha => hk f a 2 ha (by decide)), a13.fr hf (fun a f ha => hk f a 0 ha (by decide)), a14⟩
  have ha := a11.al i hi
  exact ⟨fun f => hk f _ 3 ha (by decide), fun L f hL _ => hk f L 7 hL (by decide), fun t f _ _ _ h3 h => by have := h.1; omega, fun T _ _ => hr _ T 3 ha (by decide), fun L E hL _ _ _ => hr L E 7 hL (by decide)⟩
theorem FrQ.tr {S S1 S2 : PS} (h1 : Fr S S1 (moQ S) (maQ S)) (h2 : Fr S1 S2 (moQ S1) (maQ S1)) (hq : ∀ o, al S1 o 2 → al S o 2) : Fr S S2 (moQ S) (maQ S) := Fr.tr h1 h2 (fun f b hb h => by
  rcases h with h | ⟨h, h3⟩
  · exact h
  · exact ⟨h, hb, (h1 b hb).2.1.symm.trans h3.2⟩) (fun o b _ h => h.elim id (hq o))
def Masks (S : PS) (A : AD) (B : BT) (As : AT) : Prop := ∀ q T, q < tQ B → pP S 66 (dY A q) = some T → RowH S T (msk B As q)
theorem RowH.congr {S : PS} {T : Nat} {f g : Nat → Nat} (h : RowH S T f) (e : ∀ b, b < 1000 → f b = g b) : RowH S T g := fun b hb => by rw [← e b hb]; exact h b hb
theorem msk_up {B : BT} {As : AT} {q p j b b0 b1 : Nat} (hp : p < tN B) (h0 : As p j = none) (hs : (stL (dsB B p))[j]? = some (b0, b1)) : msk B (upA As p j (some q)) q b = if b0 ≤ b ∧ b < b1 then msk B As q b ||| 2 ^ p else msk B As q b := by
  have hu : ∀ i, held (ctB B) (upA As p j (some q)) q b i = true ↔ (held (ctB B) As q b i = true ∨ (i = p ∧ b0 ≤ b ∧ b < b1)) := by
    intro i
    rw [held_iff, held_iff, Held_up (C := ctB B) h0 hs, inS_iff]
  by_cases hb : b0 ≤ b ∧ b < b1
  · rw [if_pos hb]
    unfold msk
    refine (maskN_set hp (fun i hi => ?_)).symm
    refine bool_eq ?_
    rw [hu]
    simp [hb.1, hb.2]
  · rw [if_neg hb]
    unfold msk
    refine maskN_congr _ (fun i hi => bool_eq ?_)
    rw [hu]
    constructor
    · rintro (h | ⟨_, h⟩)
      · exact h
      · exact absurd h hb
    · exact fun h => Or.inl h
theorem msk_upO {B : BT} {As : AT} {q p j b : Nat} {o : Option Nat} (h0 : As p j = none) (ho : o ≠ some q) : msk B (upA As p j o) q b = msk B As q b := maskN_congr _ (fun i _ => held_congr (Held_upO h0 ho))
theorem m_namePlayer {Γ : GBase} (F : FB Γ) (S : PS) (x t p j b0 b1 : Nat) (A : AD) (B : BT) (As : AT) (os : List Nat) (hI : BkV Γ S x A B os) (hM : Masks S A B As) (hp : p < tN B) (hst : (stL (dsB B p))[j]? = some (b0, b1)) (hs : StayO S t (dP A p) (b0, b1)) (h0 : As p j = none) (ho : ∀ q b, q < tQ B → b < 1000 → okAt (ctB B) As q b) (hcan : ∀ q, q < tQ B → (CanF (ctB B) (upA As p j (some q)) q ↔ CanL (ctB B) As q p b0 b1)) : GMet Γ yX5_namePlayer cX5_namePlayer 4 ((none : Option FieldType)) 6 0 0 [.ref x, .ref t] S (fun r S' => r = none ∧ BkV Γ S' x A B os ∧ Masks S' A B (castAt (ctB B) As p j) ∧ pI S' 131 t = zO (castAt (ctB B) As p j p j) ∧ (∀ t', t' ∈ pL S → t' ≠ t → pI S' 131 t' = pI S 131 t') ∧ Fr S S' (moQ S) (maQ S) ∧ ∀ o, al S' o 2 → al S o 2) noX := by
  have hch := ((hI.2.2.2.2.2.2.2.2.2).good hp).chain.1 _ (List.mem_of_getElem? hst)
  simp only at hch
  have hsm := List.mem_of_getElem? hst
  refine GMet.of (loc0 := [(0, .ref x), (1, .ref t)]) F (by decide +kernel) rfl (Nat.le_of_ble_eq_true rfl) (fun X C R Tb nm => ?_)
  refine g_aload_n C dX5_namePlayer_0 rfl rfl ?_
  refine g_iconst C dX5_namePlayer_1 (v := -1) (by decide) ?_
  refine pu_Stay_player C tw_3_137 (by exact hs.1) dX5_namePlayer_2 ?_
  refine g_iconst C dX5_namePlayer_5 (v := 0) (by decide) ?_
  refine g_istore_n C dX5_namePlayer_6 rfl (by decide) rfl ?_
  obtain ⟨S1, hS1⟩ : ∃ S1, S1 = uI S 131 t (-1) := ⟨_, rfl⟩
  rw [← hS1]
  have f1 : Fr S S1 (moQ S) (maQ S) := by rw [hS1]; exact fr_uI ⟨rfl, hs.1⟩
  have f1' : Fr S S1 (fun f b => f = 131 ∧ b = t) maN := by rw [hS1]; exact fr_uI ⟨rfl, rfl⟩
  have k1 : ∀ o k, al S1 o k → al S o k := fun o k h => by rw [hS1] at h; exact h
  have i1 := hI.frC f1
  have hs1 : StayO S1 t (dP A p) (b0, b1) := hs.fr f1' (fun f _ h h3 => by have := h3.1; omega)
  have m1 : Masks S1 A B As := fun q T hq hT => by
    rw [hS1] at hT
    have := hM q T hq hT
    intro b hb
    rw [hS1]
    exact this b hb
  have v1 : pI S1 131 t = -1 := by rw [hS1, uI_q]
  have u1 : ∀ t', t' ≠ t → pI S1 131 t' = pI S 131 t' := fun t' ht => by rw [hS1, uI_ne (Or.inr ht)]
  obtain ⟨a1, a2, ⟨LY, c1, c2, c3⟩, a4, a5, a9, a11, a12, a13, a14⟩ := id i1
  have hq5 := a14.2.1
  have hupd : ∀ o, upA As p j o p j = o := fun o => by unfold upA; rw [if_pos ⟨rfl, rfl⟩]
  have loop : ∀ (m i : Nat), i + m = tQ B → (∀ k, k < i → ¬ CanF (ctB B) (upA As p j (some k)) k) → GW Γ X S1 0 0 7 [(0, .ref x), (1, .ref t), (2, .int (nI i))] [] := by
    intro m
    induction m with
    | zero =>
      intro i hi hno
      have e0 : i = tQ B := by omega
      subst e0
      refine g_iload_n C dX5_namePlayer_7 rfl rfl ?_
      refine g_aload_n C dX5_namePlayer_8 rfl rfl ?_
      refine ge_Book_players C tw_1_57 (by exact a1) (by exact c1) dX5_namePlayer_9 ?_
      refine g_callV C gy_Jx4a65c_size_8abf5 tw_1_89 tw_1_90 tw_1_91 (by decide) (kk := 7) rfl rfl (by exact c3.1) (m_size F S1 LY _ c3) rfl rfl (Nat.le_of_ble_eq_true rfl) (by omega) (by omega) dX5_namePlayer_12 (fun _ _ h9 => h9.elim) ?_
      rintro _ _ ⟨rfl, rfl⟩
      rw [rmap_len]
      refine g_icmp_ge C dX5_namePlayer_15 (tgt := 56) (by decide) (fun d1 => ?_) (fun d1 => ?_)
      · refine g_vret C R (by omega) (by omega) dX5_namePlayer_56 ?_
        have hpk : castAt (ctB B) As p j = upA As p j none := by
          unfold castAt
          rw [pick_none (P := fun q => CanF (ctB B) (upA As p j (some q)) q) (n := cQ (ctB B)) hno]
        rw [hpk, hupd]
        refine ⟨rfl, i1, fun q T hq hT => (m1 q T hq hT).congr (fun b _ => (msk_upO h0 (by simp)).symm), v1, fun t' _ ht => u1 t' ht, f1, fun o => k1 o 2⟩
      · exact absurd (nI_le (Nat.le_refl _) (by omega)) d1
    | succ m ih =>
      intro i hi hno
      have hin : i < tQ B := by omega
      have hy := a12.2 i hin
      have hyh : PlyH S1 (dY A i) B As i := ⟨hy, hin, fun T hT => m1 i T hin hT⟩
      refine g_iload_n C dX5_namePlayer_7 rfl rfl ?_
      refine g_aload_n C dX5_namePlayer_8 rfl rfl ?_
      refine ge_Book_players C tw_1_57 (by exact a1) (by exact c1) dX5_namePlayer_9 ?_
      refine g_callV C gy_Jx4a65c_size_8abf5 tw_1_89 tw_1_90 tw_1_91 (by decide) (kk := 7) rfl rfl (by exact c3.1) (m_size F S1 LY _ c3) rfl rfl (Nat.le_of_ble_eq_true rfl) (by omega) (by omega) dX5_namePlayer_12 (fun _ _ h9 => h9.elim) ?_
      rintro _ _ ⟨rfl, rfl⟩
      rw [rmap_len]
      refine g_icmp_ge C dX5_namePlayer_15 (tgt := 56) (by decide) (fun d1 => ?_) (fun d1 => ?_)
      · exact absurd d1 (nI_ge hin (by omega))
      · refine g_aload_n C dX5_namePlayer_18 rfl rfl ?_
        refine ge_Book_players C tw_1_57 (by exact a1) (by exact c1) dX5_namePlayer_19 ?_
        refine g_iload_n C dX5_namePlayer_22 rfl rfl ?_
        refine g_callV C gy_Jx4a65c_get_915e3 tw_1_161 tw_1_162 tw_1_163 (by decide) (kk := 7) rfl rfl (by exact c3.1) (m_get F S1 LY _ c3 i (dY A i) (rmap_get hin)) rfl rfl (Nat.le_of_ble_eq_true rfl) (by omega) (by omega) dX5_namePlayer_23 (fun _ _ h9 => h9.elim) ?_
        rintro _ _ ⟨rfl, rfl⟩
        refine g_cast C (kk := 2) rfl hy.1 tw_1_217 dX5_namePlayer_26 ?_
        refine g_astore_n C dX5_namePlayer_29 rfl (by decide) rfl ?_
        refine g_aload_n C dX5_namePlayer_30 rfl rfl ?_
        refine g_aload_n C dX5_namePlayer_31 rfl rfl ?_
        refine g_aload_n C dX5_namePlayer_32 rfl rfl ?_
        refine g_callV C gy_X5_canDo tw_2_59 tw_2_61 ts_9 (by decide) (kk := 5) rfl rfl (by exact a1) (m_canDo F S1 x (dY A i) t i p b0 b1 A B As i1.p hyh hp hs1 hch.2.1 hsm (fun b hb => ho i b hin hb)) rfl rfl (Nat.le_of_ble_eq_true rfl) (by omega) (by omega) dX5_namePlayer_33 (fun _ _ h9 => h9.elim) ?_
        rintro _ _ ⟨rfl, v, hv, rfl⟩
        refine g_if_eq C dX5_namePlayer_36 (tgt := 50) (by decide) (fun d2 => ?_) (fun d2 => ?_)
        · have hn : ¬ CanF (ctB B) (upA As p j (some i)) i := fun h => hv.neg d2 ((hcan i hin).mp h)
          refine g_iinc C dX5_namePlayer_50 rfl (by first | exact inc1 _ | exact rfl) (by decide) rfl ?_
          refine g_goto C dX5_namePlayer_53 (tgt := 7) (by decide) ?_
          refine g_sub [(0, _), (1, _), (2, _)] ⟨rfl, rfl, rfl, trivial⟩ ?_
          refine ih (i + 1) (by omega) (fun k hk => ?_)
          by_cases e : k = i
          · rw [e]; exact hn
          · exact hno k (by omega)
        · have hyes : CanF (ctB B) (upA As p j (some i)) i := (hcan i hin).mpr (hv.pos d2)
          have hpk : castAt (ctB B) As p j = upA As p j (some i) := by
            unfold castAt
            rw [pick_some (P := fun q => CanF (ctB B) (upA As p j (some q)) q) (n := cQ (ctB B)) hin hyes hno]
          obtain ⟨g1, g2, g3, T, g4, g5⟩ := id hy
          obtain ⟨LS, LT, TA, TB, p1, p2, -⟩ := a11.2 p hp
          refine g_aload_n C dX5_namePlayer_39 rfl rfl ?_
          refine g_aload_n C dX5_namePlayer_40 rfl rfl ?_
          refine g_callV C gy_X2_take tw_2_85 tw_2_86 tw_2_87 (by decide) (kk := 2) rfl rfl (by exact g1) (m_take F S1 (dY A i) T t (dP A p) p b0 b1 (msk B As i) g1 g4 g5 (m1 i T hin g4) hs1 p1.1 p2.2.1 (by have := a14.1; omega)) rfl rfl (Nat.le_of_ble_eq_true rfl) (by omega) (by omega) dX5_namePlayer_41 (fun _ _ h9 => h9.elim) ?_
          rintro _ _ ⟨rfl, row, hrow, hRH⟩
          rename_i S2
          have t2 : al S2 t 4 := by rw [hrow]; exact hs1.1
          refine g_aload_n C dX5_namePlayer_44 rfl rfl ?_
          refine g_iload_n C dX5_namePlayer_45 rfl rfl ?_
          refine pu_Stay_player C tw_3_137 (by exact t2) dX5_namePlayer_46 ?_
          refine g_vret C R (by omega) (by omega) dX5_namePlayer_49 ?_
          have f2 : Fr S1 (uI S2 131 t (nI i)) (moQ S1) (maQ S1) := by
            rw [hrow]
            refine Fr.tr (mo := moQ S1) (ma := maQ S1) (mo' := moQ S1) (ma' := maQ S1) (fr_uR ?_) (fr_uI ⟨rfl, hs1.1⟩) (fun _ _ _ h => h.elim id id) (fun _ _ _ h => h.elim id id)
            show al S1 (pW S1 T) 2
            rw [g5.2.2]
            exact g1
          have k2 : ∀ o, al (uI S2 131 t (nI i)) o 2 → al S1 o 2 := fun o h => by rw [hrow] at h; exact h
          refine ⟨rfl, i1.frC f2, fun q T' hq hT' => ?_, ?_, fun t' _ ht => ?_, FrQ.tr f1 f2 (fun o => k1 o 2), fun o h => k1 o 2 (k2 o h)⟩
          · have hT1 : pP S1 66 (dY A q) = some T' := by rw [hrow] at hT'; exact hT'
            rw [hpk]
            by_cases e : q = i
            · subst e
              have eT : T' = T := Option.some.inj (hT1.symm.trans g4)
              subst eT
              have hR2 : RowH (uI S2 131 t (nI q)) T' (fun b => if b0 ≤ b ∧ b < b1 then msk B As q b ||| 2 ^ p else msk B As q b) := hRH
              exact hR2.congr (fun b _ => (msk_up hp h0 hst).symm)
            · have hTT : T' ≠ T := by
                intro eT
                obtain ⟨_, _, _, T2, w4, w5⟩ := a12.2 q hq
                have e2 : T2 = T' := Option.some.inj (w4.symm.trans hT1)
                rw [e2, eT] at w5
                exact e (a12.1 q i hq hin (w5.2.2.symm.trans g5.2.2))
              have hm := (m1 q T' hq hT1).congr (fun b _ => (msk_upO (o := some i) h0 (by intro h; exact e (Option.some.inj h).symm)).symm)
              intro b hb
              have : pR (uI S2 131 t (nI i)) T' b = pR S1 T' b := by
                show pR S2 T' b = _
                rw [hrow, uR_ne hTT]
              rw [this]
              exact hm b hb
          · rw [hpk, hupd, uI_q]; rfl
          · rw [uI_ne (Or.inr ht), hrow]
            exact u1 t' ht
  refine g_sub [(0, _), (1, _), (2, _)] ⟨rfl, rfl, rfl, trivial⟩ ?_
  exact loop (tQ B) 0 (by omega) (fun k hk => by omega)
