def bgn (C : CT) (a : Nat × Nat) : Nat := match (cS C a.1)[a.2]? with | some s => s.1 | none => 0
theorem okey_eq (C : CT) (a : Nat × Nat) : okey C a = bgn C a * 8 + a.1 := rfl
def adr (A : AD) (a : Nat × Nat) : Nat := (dT A a.1).getD a.2 0
/-- stays, as pairs, in the order of the casting -/
def OrdL (C : CT) (l : List (Nat × Nat)) : Prop := l.Pairwise (fun a b => okey C a < okey C b) ∧ ∀ a, a ∈ l → a.1 < cN C ∧ a.2 < (cS C a.1).length
theorem ord_split {C : CT} (h8 : cN C ≤ 8) {l : List (Nat × Nat)} (h : OrdL C l) {i : Nat} {a : Nat × Nat} (hi : l[i]? = some a) : (∀ b, b ∈ l.take i → bgn C b ≤ bgn C a) ∧ (∀ b, b ∈ l.drop i → bgn C a ≤ bgn C b) := by
  have key : ∀ c d, c ∈ l → d ∈ l → okey C c < okey C d → bgn C c ≤ bgn C d := by
    intro c d hc hd hlt
    have := (h.2 c hc).1
    have := (h.2 d hd).1
    rw [okey_eq, okey_eq] at hlt
    omega
  have ha := List.mem_of_getElem? hi
  have hil := (List.getElem?_eq_some_iff.mp hi).1
  have h0 : (l.take i ++ l.drop i).Pairwise (fun a b => okey C a < okey C b) := by rw [List.take_append_drop]; exact h.1
  have hp := List.pairwise_append.mp h0
  have hd : l.drop i = a :: l.drop (i + 1) := by
    rw [List.drop_eq_getElem_cons hil]
    congr 1
    exact (List.getElem?_eq_some_iff.mp hi).2
  refine ⟨fun b hb => key b a (List.mem_of_mem_take hb) ha (hp.2.2 b hb a (by rw [hd]; exact List.mem_cons_self)), fun b hb => ?_⟩
  rw [hd] at hb
  rcases List.mem_cons.mp hb with rfl | hb2
  · exact Nat.le_refl _
  · have h2 := hp.2.1
    rw [hd] at h2
    exact key a b ha (List.mem_of_mem_drop hb2) ((List.pairwise_cons.mp h2).1 b hb2)
theorem ord_ins {C : CT} (h8 : cN C ≤ 8) {l : List (Nat × Nat)} (h : OrdL C l) {n : Nat × Nat} {i : Nat} (hn : n.1 < cN C ∧ n.2 < (cS C n.1).length) (hlt : ∀ a, a ∈ l → bgn C a = bgn C n → a.1 < n.1) (h1 : ∀ b, b ∈ l.take i → bgn C b ≤ bgn C n) (h2 : ∀ b, b ∈ l.drop i → bgn C n < bgn C b) : OrdL C (insA l i n) := by
  have h0 : (l.take i ++ l.drop i).Pairwise (fun a b => okey C a < okey C b) := by rw [List.take_append_drop]; exact h.1
  have hp := List.pairwise_append.mp h0
  have c1 : ∀ b, b ∈ l.take i → okey C b < okey C n := by
    intro b hb
    have hm := List.mem_of_mem_take hb
    have := h1 b hb
    have := (h.2 b hm).1
    rw [okey_eq, okey_eq]
    by_cases e : bgn C b = bgn C n
    · have := hlt b hm e; omega
    · omega
  have c2 : ∀ b, b ∈ l.drop i → okey C n < okey C b := by
    intro b hb
    have := h2 b hb
    rw [okey_eq, okey_eq]
    omega
  refine ⟨?_, fun a ha => ?_⟩
  · unfold insA
    refine List.pairwise_append.mpr ⟨hp.1, List.pairwise_cons.mpr ⟨c2, hp.2.1⟩, fun a ha b hb => ?_⟩
    rcases List.mem_cons.mp hb with rfl | hb
    · exact c1 a ha
    · exact hp.2.2 a ha b hb
  · unfold insA at ha
    rcases List.mem_append.mp ha with ha | ha
    · exact h.2 a (List.mem_of_mem_take ha)
    · rcases List.mem_cons.mp ha with rfl | ha
      · exact hn
      · exact h.2 a (List.mem_of_mem_drop ha)
theorem mem_insA {α : Type} {l : List α} {i : Nat} {n a : α} : a ∈ insA l i n ↔ (a ∈ l ∨ a = n) := by
  unfold insA
  conv => rhs; rw [← List.take_append_drop i l]
  simp only [List.mem_append, List.mem_cons]
  constructor
  · rintro (h | h | h)
    · exact Or.inl (Or.inl h)
    · exact Or.inr h
    · exact Or.inl (Or.inr h)
  · rintro ((h | h) | h)
    · exact Or.inl h
    · exact Or.inr (Or.inr h)
    · exact Or.inr (Or.inl h)
theorem map_insA2 {A : AD} {l : List (Nat × Nat)} {i : Nat} {n : Nat × Nat} : (insA l i n).map (adr A) = insL (l.map (adr A)) i (adr A n) := by
  simp [insA, insL]
theorem m_putInOrder {Γ : GBase} (F : FB Γ) (S : PS) (x LO : Nat) (A : AD) (B : BT) (l : List (Nat × Nat)) (n : Nat × Nat) (hx : al S x 5) (hLO : pP S 163 x = some LO) (hL : isL Γ S LO (l.map (adr A))) (h8 : tN B ≤ 8) (hO : OrdL (ctB B) l) (h60 : l.length ≤ 59) (hst : ∀ a, a ∈ l ∨ a = n → ∃ q, (stL (dsB B a.1))[a.2]? = some q ∧ StayO S (adr A a) (dP A a.1) q) (hn : n.1 < tN B) (hlt : ∀ a, a ∈ l → bgn (ctB B) a = bgn (ctB B) n → a.1 < n.1) : GMet Γ yX5_putInOrder cX5_putInOrder 3 ((none : Option FieldType)) 6 1 100 [.ref x, .ref (adr A n)] S (fun r S' => r = none ∧ Fr S S' (moL LO) (maL LO) ∧ ∃ l', isL Γ S' LO (l'.map (adr A)) ∧ OrdL (ctB B) l' ∧ l'.length = l.length + 1 ∧ ∀ a, a ∈ l' ↔ (a ∈ l ∨ a = n)) noX := by
  have hbg : ∀ a, a ∈ l ∨ a = n → al S (adr A a) 4 ∧ pI S 129 (adr A a) = nI (bgn (ctB B) a) ∧ bgn (ctB B) a < 1000 := by
    intro a ha
    obtain ⟨q, h1, h2, _, h3, _, h4, _⟩ := hst a ha
    have e : bgn (ctB B) a = q.1 := by
      unfold bgn
      rw [show (cS (ctB B) a.1)[a.2]? = some q from h1]
    rw [e]
    exact ⟨h2, h3, h4⟩
  have hnn := hbg n (Or.inr rfl)
  have hnl : n.2 < (stL (dsB B n.1)).length := by
    obtain ⟨q, h1, _⟩ := hst n (Or.inr rfl)
    exact (List.getElem?_eq_some_iff.mp h1).1
  have hall : ∀ z, z ∈ l.map (adr A) → al S z 4 := fun z hz => by
    obtain ⟨a, ha, rfl⟩ := List.mem_map.mp hz
    exact (hbg a (Or.inl ha)).1
  refine GMet.of (loc0 := [(0, .ref x), (1, .ref (adr A n))]) F (by decide +kernel) rfl (Nat.le_of_ble_eq_true rfl) (fun X C R Tb nm => ?_)
  have body : ∀ i, i ≤ l.length → (∀ b, b ∈ l.take i → bgn (ctB B) b ≤ bgn (ctB B) n) → (∀ b, b ∈ l.drop i → bgn (ctB B) n < bgn (ctB B) b) → GW Γ X S 0 0 41 [(0, .ref x), (1, .ref (adr A n)), (2, .int (nI i))] [] := by
    intro i hi h1 h2
    refine g_aload_n C dX5_putInOrder_41 rfl rfl ?_
    refine ge_Book_castingOrder C tw_1_59 (by exact hx) (by exact hLO) dX5_putInOrder_42 ?_
    refine g_iload_n C dX5_putInOrder_45 rfl rfl ?_
    refine g_aload_n C dX5_putInOrder_46 rfl rfl ?_
    refine g_callV C gy_Jx4a65c_add_7a177 tw_1_237 tw_1_238 tw_1_239 (by decide) (kk := 7) rfl rfl (by exact hL.1) (m_addAt F S LO (adr A n) i 4 (l.map (adr A)) hL (by rw [List.length_map]; exact hi) hnn.1 (by rw [List.length_map]; omega) (by decide) hall) rfl rfl (Nat.le_of_ble_eq_true rfl) (by omega) (by omega) dX5_putInOrder_47 (fun _ _ h9 => h9.elim) ?_
    rintro _ _ ⟨rfl, hL1, hF1⟩
    refine g_vret C R (by omega) (by omega) dX5_putInOrder_50 ?_
    refine ⟨rfl, hF1, insA l i n, ?_, ord_ins (C := ctB B) h8 hO ⟨hn, hnl⟩ hlt h1 h2, insA_len hi, fun a => mem_insA⟩
    rw [map_insA2]
    exact hL1
  have loop : ∀ (i : Nat), i ≤ l.length → (∀ b, b ∈ l.drop i → bgn (ctB B) n < bgn (ctB B) b) → GW Γ X S 0 0 8 [(0, .ref x), (1, .ref (adr A n)), (2, .int (nI i))] [] := by
    intro i
    induction i with
    | zero =>
      intro hi h2
      refine g_iload_n C dX5_putInOrder_8 rfl rfl ?_
      refine g_if_le C dX5_putInOrder_9 (tgt := 41) (by decide) (fun c1 => ?_) (fun c1 => ?_)
      · refine g_sub [(0, _), (1, _), (2, _)] ⟨rfl, rfl, rfl, trivial⟩ ?_
        exact body 0 hi (fun b hb => by simp at hb) h2
      · exact absurd (by decide) c1
    | succ i ih =>
      intro hi h2
      obtain ⟨a, ha⟩ : ∃ a, l[i]? = some a := ⟨_, List.getElem?_eq_getElem (by omega)⟩
      have ham := List.mem_of_getElem? ha
      have hba := hbg a (Or.inl ham)
      have hsp := ord_split (C := ctB B) h8 hO ha
      have hga : (l.map (adr A))[i]? = some (adr A a) := by rw [List.getElem?_map, ha]; rfl
      refine g_iload_n C dX5_putInOrder_8 rfl rfl ?_
      refine g_if_le C dX5_putInOrder_9 (tgt := 41) (by decide) (fun c1 => ?_) (fun c1 => ?_)
      · exact absurd c1 (nI_nle (by omega) (by omega))
      · refine g_aload_n C dX5_putInOrder_12 rfl rfl ?_
        refine ge_Book_castingOrder C tw_1_59 (by exact hx) (by exact hLO) dX5_putInOrder_13 ?_
        refine g_iload_n C dX5_putInOrder_16 rfl rfl ?_
        refine g_iconst C dX5_putInOrder_17 (v := 1) (by decide) ?_
        refine g_isub C dX5_putInOrder_18 ?_
        rw [nI_pred]
        refine g_callV C gy_Jx4a65c_get_915e3 tw_1_161 tw_1_162 tw_1_163 (by decide) (kk := 7) rfl rfl (by exact hL.1) (m_get F S LO _ hL i (adr A a) hga) rfl rfl (Nat.le_of_ble_eq_true rfl) (by omega) (by omega) dX5_putInOrder_19 (fun _ _ h9 => h9.elim) ?_
        rintro _ _ ⟨rfl, rfl⟩
        refine g_cast C (kk := 4) rfl hba.1 tw_1_203 dX5_putInOrder_22 ?_
        refine ge_Stay_begin C tw_3_131 (by exact hba.1) (by exact hba.2.1) dX5_putInOrder_25 ?_
        refine g_aload_n C dX5_putInOrder_28 rfl rfl ?_
        refine ge_Stay_begin C tw_3_131 (by exact hnn.1) (by exact hnn.2.1) dX5_putInOrder_29 ?_
        refine g_icmp_le C dX5_putInOrder_32 (tgt := 41) (by decide) (fun c3 => ?_) (fun c3 => ?_)
        · have h3 : bgn (ctB B) a ≤ bgn (ctB B) n := (nI_leI (by omega) (by omega)).mp c3
          refine g_sub [(0, _), (1, _), (2, _)] ⟨rfl, rfl, rfl, trivial⟩ ?_
          refine body (i + 1) hi (fun b hb => ?_) h2
          rw [take_succ_get ha] at hb
          rcases List.mem_append.mp hb with h | h
          · have := hsp.1 b h; omega
          · rw [List.mem_singleton] at h; rw [h]; exact h3
        · have h3 : bgn (ctB B) n < bgn (ctB B) a := by
            rcases Nat.lt_or_ge (bgn (ctB B) n) (bgn (ctB B) a) with w | w
            · exact w
            · exact absurd (nI_le w (by omega)) c3
          refine g_iinc C dX5_putInOrder_35 rfl (by first | exact decr1 _ | exact rfl) (by decide) rfl ?_
          refine g_goto C dX5_putInOrder_38 (tgt := 8) (by decide) ?_
          refine g_sub [(0, _), (1, _), (2, _)] ⟨rfl, rfl, rfl, trivial⟩ ?_
          refine ih (by omega) (fun b hb => ?_)
          have := hsp.2 b hb
          omega
  refine g_aload_n C dX5_putInOrder_0 rfl rfl ?_
  refine ge_Book_castingOrder C tw_1_59 (by exact hx) (by exact hLO) dX5_putInOrder_1 ?_
  refine g_callV C gy_Jx4a65c_size_8abf5 tw_1_89 tw_1_90 tw_1_91 (by decide) (kk := 7) rfl rfl (by exact hL.1) (m_size F S LO _ hL) rfl rfl (Nat.le_of_ble_eq_true rfl) (by omega) (by omega) dX5_putInOrder_4 (fun _ _ h9 => h9.elim) ?_
  rintro _ _ ⟨rfl, rfl⟩
  refine g_istore_n C dX5_putInOrder_7 rfl (by decide) rfl ?_
  rw [List.length_map]
  refine g_sub [(0, _), (1, _), (2, _)] ⟨rfl, rfl, rfl, trivial⟩ ?_
  exact loop l.length (Nat.le_refl _) (fun b hb => by rw [List.drop_eq_nil_of_le (Nat.le_refl _)] at hb; cases hb)
