/-! ===== lists: add, add at a place, remove, clear; Arrays.fill; Integer.signum ===== -/
/-- a list with its row E, which has room for one more -/
def isR (S : PS) (a E : Nat) (xs : List Nat) : Prop := al S a 7 ∧ pI S 226 a = nI xs.length ∧ pP S 225 a = some E ∧ al S E 12 ∧ pW S E = a ∧ xs.length < pN S E ∧ pN S E ≤ 100 ∧ ∀ j, j < xs.length → pRP S E j = xs[j]?
theorem isR.L {Γ : GBase} {S : PS} {a E : Nat} {xs : List Nat} (h : isR S a E xs) : isL Γ S a xs := by
  obtain ⟨h1, h2, h3, h4, h5, h6, h7, h8⟩ := h
  exact ⟨h1, h2, E, h3, Or.inr ⟨h4, h5, by omega, by omega, h7, h8⟩⟩
theorem isL.uI224 {Γ : GBase} {S : PS} {a b : Nat} {xs : List Nat} {z : Int32} (h : isL Γ S a xs) : isL Γ (uI S 224 b z) a xs :=
  h.fr (S' := uI S 224 b z) (mo := fun f c => f = 224 ∧ c = b) (ma := fun _ _ => False) (fr_uI ⟨rfl, rfl⟩) (fun q => absurd q.1 (by decide)) (fun q => absurd q.1 (by decide)) (fun _ _ _ q => q)
theorem g_know {Γ : GBase} {X : Cx} {S : PS} {k n pc : Nat} {loc : List (Nat × Value)} {st : List Value} (q : (∀ b, b ∈ pL S → AA Γ b) → GW Γ X S k n pc loc st) : GW Γ X S k n pc loc st := fun H locs ls hP hD hS hl => by
  refine q (fun b hb => ?_) H locs ls hP hD hS hl
  obtain ⟨j, hj⟩ := pw_get (bC Γ) hb
  exact hD.2 j _ hj
theorem PFo_uW (cy : Nat → ClassId) (S : PS) (a o : Nat) : PFo cy (uW S a o) = PFo cy S := by
  funext b
  unfold PFo
  have e1 : pK (uW S a o) b = pK S b := rfl
  have e2 : fvs (uW S a o) (pK S b) b 0 (kref (pK S b)) = fvs S (pK S b) b 0 (kref (pK S b)) := fvs_ext _ _ (fun _ _ _ => ⟨rfl, rfl⟩)
  rw [e1, e2]
  rfl
/-- a ghost: who owns the row a -/
theorem g_own {Γ : GBase} {X : Cx} {S : PS} {k n pc : Nat} {loc : List (Nat × Value)} {st : List Value} (a o : Nat) (q : GW Γ X (uW S a o) k n pc loc st) : GW Γ X S k n pc loc st := g_ghost (uW S a o) rfl (fun cy => PFo_uW cy S a o) q
theorem g_E0 {Γ : GBase} {S : PS} (F : FB Γ) (h : ∀ b, b ∈ pL S → AA Γ b) : bE Γ ∉ pL S := fun hm => by
  obtain ⟨_, _, _, _, _, _, _, hn⟩ := F.2.2.2.2.2
  exact hn (h _ hm)
/-- what grow leaves, its new row given to the list -/
theorem grown {S : PS} {a q N : Nat} {row : Nat → Option Nat} {xs : List Nat} (ha : al S a 7) (hs : pI S 226 a = nI xs.length) (hq : q ∉ pL S) (h1 : xs.length < N) (h2 : N ≤ 100) (h3 : ∀ j, j < xs.length → row j = xs[j]?) : isR (uW (uP (uRP (nA S q 12 N) q row) 225 a (some q)) q a) a q xs ∧ Fr S (uW (uP (uRP (nA S q 12 N) q row) 225 a (some q)) q a) (moL a) (maL a) := by
  refine ⟨⟨ha.nA (m := N) hq, hs, uP_q (S := uRP (nA S q 12 N) q row) (f := 225) (a := a) (v := some q), al_nA (m := N), uW_q, ?_, ?_, fun j hj => ?_⟩, fun b hb => ?_⟩
  · show _ < pN (nA S q 12 N) q
    rw [nA_Nq]; exact h1
  · show pN (nA S q 12 N) q ≤ _
    rw [nA_Nq]; exact h2
  · show pRP (uRP (nA S q 12 N) q row) q j = _
    rw [uRP_q]; exact h3 j hj
  · have hbq : b ≠ q := mem_ne hb hq
    refine ⟨List.mem_append_left _ hb, va_up_ne _ _ hbq, va_up_ne _ _ hbq, uW_ne hbq, fun f hf => ⟨rfl, ?_⟩, fun _ => ⟨va_up_ne _ _ hbq, va_up_ne _ _ hbq, va_up_ne _ _ hbq, ?_⟩⟩
    · exact (uP_ne (S := uRP (nA S q 12 N) q row) (Or.inr hf)).trans rfl
    · exact (uRP_ne (S := nA S q 12 N) hbq).trans (nA_RP hbq)
/-- one stored at the end, the size set -/
theorem isR.put {Γ : GBase} {S : PS} {a E v : Nat} {xs : List Nat} (h : isR S a E xs) : isL Γ (uI (uRP S E (va_up (pRP S E) xs.length (some v))) 226 a (nI (xs.length + 1))) a (xs ++ [v]) ∧ Fr S (uI (uRP S E (va_up (pRP S E) xs.length (some v))) 226 a (nI (xs.length + 1))) (moL a) (maL a) := by
  obtain ⟨h1, h2, h3, h4, h5, h6, h7, h8⟩ := h
  refine ⟨⟨h1, ?_, E, h3, Or.inr ⟨h4, h5, by show 0 < pN S E; omega, ?_, h7, fun j hj => ?_⟩⟩, fun b hb => ?_⟩
  · rw [uI_q]; simp
  · show (xs ++ [v]).length ≤ pN S E
    simp; omega
  · show pRP (uRP S E _) E j = _
    rw [uRP_q]
    by_cases hj2 : j = xs.length
    · subst hj2; rw [va_up_self]; simp
    · rw [va_up_ne _ _ hj2, h8 j (by simp at hj; omega), List.getElem?_append_left (by simp at hj; omega)]
  · refine ⟨hb, rfl, rfl, rfl, fun f hf => ⟨(uI_ne (Or.inr hf)).trans rfl, rfl⟩, fun hf => ⟨rfl, rfl, rfl, ?_⟩⟩
    have : b ≠ E := fun q => hf (by rw [q]; exact h5)
    exact uRP_ne this
theorem Fr.trL {S S1 S2 : PS} {a : Nat} (h1 : Fr S S1 (moL a) (maL a)) (h2 : Fr S1 S2 (moL a) (maL a)) : Fr S S2 (moL a) (maL a) := h1.tr h2 (fun _ _ _ h => h.elim id id) (fun _ _ _ h => h.elim id id)
theorem m_add3 {Γ : GBase} (F : FB Γ) (S : PS) (a v E kv : Nat) (xs : List Nat) (hL : isL Γ S a xs) (hE : pP S 225 a = some E) (hv : al S v kv) (h60 : xs.length ≤ 60) (h8 : kv < 8) (hel : ∀ x, x ∈ xs → al S x kv) : GMet Γ yJx4a65c_add_72be8 cJx4a65c_add_72be8 4 ((none : Option FieldType)) 4 1 100 [.ref a, .ref v, .ref E, .int (nI xs.length)] S (fun r S' => r = none ∧ isL Γ S' a (xs ++ [v]) ∧ Fr S S' (moL a) (maL a)) noX := by
  refine GMet.of (loc0 := [(0, .ref a), (1, .ref v), (2, .ref E), (3, .int (nI xs.length))]) F (by decide +kernel) rfl (Nat.le_of_ble_eq_true rfl) (fun X C R Tb nm => ?_)
  have key : ∀ (S1 : PS) (E1 : Nat), isR S1 a E1 xs → Fr S S1 (moL a) (maL a) → GW Γ X S1 1 100 11 [(0, .ref a), (1, .ref v), (2, .ref E1), (3, .int (nI xs.length))] [] := by
    intro S1 E1 hR hF
    refine g_aload_n C dJx4a65c_add_72be8_11 rfl rfl ?_
    refine g_iload_n C dJx4a65c_add_72be8_12 rfl rfl ?_
    refine g_aload_n C dJx4a65c_add_72be8_13 rfl rfl ?_
    refine g_stQ C rfl hR.2.2.2.1 (hv.fr hF) h8 hR.2.2.2.2.2.1 (by omega) dJx4a65c_add_72be8_14 ?_
    refine g_aload_n C dJx4a65c_add_72be8_15 rfl rfl ?_
    refine g_iload_n C dJx4a65c_add_72be8_16 rfl rfl ?_
    refine g_iconst C dJx4a65c_add_72be8_17 (v := 1) (by decide) ?_
    refine g_iadd C dJx4a65c_add_72be8_18 ?_
    rw [nI_1]
    refine pu_AL_size C tw_1_45 (by exact hR.1) dJx4a65c_add_72be8_19 ?_
    refine g_vret C R (by omega) (by omega) dJx4a65c_add_72be8_22 ?_
    obtain ⟨p1, p2⟩ := hR.put (Γ := Γ) (v := v)
    exact ⟨rfl, p1, hF.trL p2⟩
  have hL0 := hL
  obtain ⟨ha, hs, E', hE', hc⟩ := hL
  have hEE : E' = E := Option.some.inj (hE'.symm.trans hE)
  subst hEE
  have kgrow : (∀ E9, pP S 225 a = some E9 → al S E9 12 → pN S E9 = xs.length) → GW Γ X S 0 0 6 [(0, .ref a), (1, .ref v), (2, .ref E'), (3, .int (nI xs.length))] [] := by
    intro hfull
    refine g_aload_n C dJx4a65c_add_72be8_6 rfl rfl ?_
    refine g_callV C gy_Jx4a65c_grow_d5877 tw_2_5 tw_2_7 ts_6 (by decide) (kk := 7) rfl rfl (by exact ha) (m_grow F S a kv xs hL0 hfull h60 h8 hel) rfl rfl (Nat.le_of_ble_eq_true rfl) (by omega) (by omega) dJx4a65c_add_72be8_7 (fun _ _ h9 => h9.elim) ?_
    rintro _ _ ⟨q, N, row, rfl, hq, g1, g2, g3, rfl⟩
    refine g_astore_n C dJx4a65c_add_72be8_10 rfl (by decide) rfl ?_
    obtain ⟨g4, g5⟩ := grown ha hs hq g1 g2 g3
    refine g_own q a ?_
    refine g_sub [(0, _), (1, _), (2, _), (3, _)] ⟨rfl, rfl, rfl, rfl, trivial⟩ ?_
    exact key _ q g4 g5
  rcases hc with ⟨rfl, rfl⟩ | ⟨c1, c2, c3, c4, c5, c6⟩
  · refine g_iload_n C dJx4a65c_add_72be8_0 rfl rfl ?_
    refine g_aload_n C dJx4a65c_add_72be8_1 rfl rfl ?_
    refine g_alenE0 C dJx4a65c_add_72be8_2 ?_
    refine g_icmp_ne C dJx4a65c_add_72be8_3 (tgt := 11) (by decide) (fun c => ?_) (fun c => ?_)
    · exact absurd rfl c
    · refine g_sub [(0, _), (1, _), (2, _), (3, _)] ⟨rfl, rfl, rfl, rfl, trivial⟩ ?_
      refine g_know (fun hAA => kgrow (fun E9 h9 h10 => ?_))
      exfalso
      have h11 : E9 = bE Γ := Option.some.inj (h9.symm.trans hE)
      subst h11
      exact g_E0 F hAA h10.1
  · refine g_iload_n C dJx4a65c_add_72be8_0 rfl rfl ?_
    refine g_aload_n C dJx4a65c_add_72be8_1 rfl rfl ?_
    refine g_alen C (by decide) c1 dJx4a65c_add_72be8_2 ?_
    refine g_icmp_ne C dJx4a65c_add_72be8_3 (tgt := 11) (by decide) (fun c => ?_) (fun c => ?_)
    · refine g_sub [(0, _), (1, _), (2, _), (3, _)] ⟨rfl, rfl, rfl, rfl, trivial⟩ ?_
      refine g_widen 1 100 (by omega) (by omega) ?_
      have hlt : xs.length < pN S E' := by
        rcases Nat.lt_or_ge xs.length (pN S E') with q | q
        · exact q
        · exact absurd (by rw [show pN S E' = xs.length by omega]) c
      exact key S E' ⟨ha, hs, hE, c1, c2, hlt, c5, c6⟩ Fr.rf
    · refine g_sub [(0, _), (1, _), (2, _), (3, _)] ⟨rfl, rfl, rfl, rfl, trivial⟩ ?_
      refine kgrow (fun E9 h9 _ => ?_)
      have : E9 = E' := Option.some.inj (h9.symm.trans hE)
      subst this
      exact ((nI_eq (by omega) (by omega)).mp c).symm
theorem m_add {Γ : GBase} (F : FB Γ) (S : PS) (a v kv : Nat) (xs : List Nat) (hL : isL Γ S a xs) (hv : al S v kv) (h60 : xs.length ≤ 60) (h8 : kv < 8) (hel : ∀ x, x ∈ xs → al S x kv) : GMet Γ yJx4a65c_add_9ea2d cJx4a65c_add_9ea2d 2 ((some FieldType.boolean)) 5 1 100 [.ref a, .ref v] S (fun r S' => r = some (.int 1) ∧ isL Γ S' a (xs ++ [v]) ∧ Fr S S' (moL a) (maL a)) noX := by
  have hL0 := hL
  obtain ⟨ha, hs, E, hE, hc⟩ := hL
  refine GMet.of (loc0 := [(0, .ref a), (1, .ref v)]) F (by decide +kernel) rfl (Nat.le_of_ble_eq_true rfl) (fun X C R Tb nm => ?_)
  refine g_aload_n C dJx4a65c_add_9ea2d_0 rfl rfl ?_
  refine g_dup C dJx4a65c_add_9ea2d_1 rfl ?_
  refine ge_AL_modCount C tw_1_47 (by exact ha) rfl dJx4a65c_add_9ea2d_2 ?_
  refine g_iconst C dJx4a65c_add_9ea2d_5 (v := 1) (by decide) ?_
  refine g_iadd C dJx4a65c_add_9ea2d_6 ?_
  refine pu_AL_modCount C tw_1_47 (by exact ha) dJx4a65c_add_9ea2d_7 ?_
  refine g_aload_n C dJx4a65c_add_9ea2d_10 rfl rfl ?_
  refine g_aload_n C dJx4a65c_add_9ea2d_11 rfl rfl ?_
  refine g_aload_n C dJx4a65c_add_9ea2d_12 rfl rfl ?_
  refine ge_AL_elementData C tw_1_44 (by exact ha) (by exact hE) dJx4a65c_add_9ea2d_13 ?_
  refine g_aload_n C dJx4a65c_add_9ea2d_16 rfl rfl ?_
  refine ge_AL_size C tw_1_45 (by exact ha) (by exact hs) dJx4a65c_add_9ea2d_17 ?_
  refine g_callV C gy_Jx4a65c_add_72be8 tw_2_187 tw_2_189 ts_14 (by decide) (kk := 7) rfl rfl (by exact ha) (m_add3 F _ a v E kv xs hL0.uI224 hE hv h60 h8 hel) rfl rfl (Nat.le_of_ble_eq_true rfl) (by omega) (by omega) dJx4a65c_add_9ea2d_20 (fun _ _ h9 => h9.elim) ?_
  rintro _ _ ⟨rfl, h1, h2⟩
  refine g_iconst C dJx4a65c_add_9ea2d_23 (v := 1) (by decide) ?_
  refine g_iret C R rfl (by omega) (by omega) dJx4a65c_add_9ea2d_24 ?_
  exact ⟨rfl, h1, Fr.trL (fr_uI rfl) h2⟩
theorem m_rangeCheck {Γ : GBase} (F : FB Γ) (S : PS) (a j : Nat) (xs : List Nat) (hL : isL Γ S a xs) (hj : j ≤ xs.length) : GMet Γ yJx4a65c_rangeCheckForAdd_d00df cJx4a65c_rangeCheckForAdd_d00df 2 ((none : Option FieldType)) 0 0 0 [.ref a, .int (nI j)] S (fun r S' => r = none ∧ S = S') noX := by
  have hlen := hL.len
  refine GMet.of (loc0 := [(0, .ref a), (1, .int (nI j))]) F (by decide +kernel) rfl (Nat.le_of_ble_eq_true rfl) (fun X C R Tb nm => ?_)
  refine g_iload_n C dJx4a65c_rangeCheckForAdd_d00df_0 rfl rfl ?_
  refine g_aload_n C dJx4a65c_rangeCheckForAdd_d00df_1 rfl rfl ?_
  refine ge_AL_size C tw_1_45 (by exact hL.1) (by exact hL.2.1) dJx4a65c_rangeCheckForAdd_d00df_2 ?_
  refine g_icmp_gt C dJx4a65c_rangeCheckForAdd_d00df_5 (tgt := 12) (by decide) (fun c => ?_) (fun c => ?_)
  · exact absurd c (nI_nlt hj (by omega))
  · refine g_iload_n C dJx4a65c_rangeCheckForAdd_d00df_8 rfl rfl ?_
    refine g_if_ge C dJx4a65c_rangeCheckForAdd_d00df_9 (tgt := 25) (by decide) (fun c2 => ?_) (fun c2 => ?_)
    · refine g_vret C R (by omega) (by omega) dJx4a65c_rangeCheckForAdd_d00df_25 ?_
      exact ⟨rfl, rfl⟩
    · exact absurd (nI_pos' (by omega)) c2
/-- the insertion: the row moved up from j, v stored -/
theorem isR.ins {Γ : GBase} {S : PS} {a E v j : Nat} {xs : List Nat} (h : isR S a E xs) (hj : j ≤ xs.length) : ∀ S2, S2 = uI (uRP (uRP S E (va_cpy (pRP S E) (pRP S E) j (j + 1) (xs.length - j))) E (va_up (pRP (uRP S E (va_cpy (pRP S E) (pRP S E) j (j + 1) (xs.length - j))) E) j (some v))) 226 a (nI (xs.length + 1)) → isL Γ S2 a (insL xs j v) ∧ Fr S S2 (moL a) (maL a) := by
  rintro S2 rfl
  obtain ⟨h1, h2, h3, h4, h5, h6, h7, h8⟩ := h
  refine ⟨⟨h1, ?_, E, h3, Or.inr ⟨h4, h5, by show 0 < pN S E; omega, ?_, h7, fun i hi => ?_⟩⟩, fun b hb => ?_⟩
  · rw [uI_q, insL_len hj]
  · show (insL xs j v).length ≤ pN S E
    rw [insL_len hj]; omega
  · rw [insL_len hj] at hi
    rw [insL_get hj]
    show pRP (uRP (uRP S E _) E _) E i = _
    rw [uRP_q, uRP_q]
    by_cases c1 : i = j
    · subst c1
      rw [va_up_self, if_neg (by omega), if_pos rfl]
    · rw [va_up_ne _ _ c1]
      by_cases c2 : i < j
      · rw [if_pos c2, pk_cpy_out (Or.inl (by omega)), h8 i (by omega)]
      · rw [if_neg c2, if_neg c1, pk_cpy_in (by omega) (by omega), h8 _ (by omega)]
        congr 1; omega
  · refine ⟨hb, rfl, rfl, rfl, fun f hf => ⟨(uI_ne (Or.inr hf)).trans rfl, rfl⟩, fun hf => ⟨rfl, rfl, rfl, ?_⟩⟩
    have hne : b ≠ E := fun q => hf (by rw [q]; exact h5)
    exact (uRP_ne hne).trans (uRP_ne hne)
theorem m_addAt {Γ : GBase} (F : FB Γ) (S : PS) (a v j kv : Nat) (xs : List Nat) (hL : isL Γ S a xs) (hj : j ≤ xs.length) (hv : al S v kv) (h60 : xs.length ≤ 60) (h8 : kv < 8) (hel : ∀ x, x ∈ xs → al S x kv) : GMet Γ yJx4a65c_add_7a177 cJx4a65c_add_7a177 5 ((none : Option FieldType)) 5 1 100 [.ref a, .int (nI j), .ref v] S (fun r S' => r = none ∧ isL Γ S' a (insL xs j v) ∧ Fr S S' (moL a) (maL a)) noX := by
  refine GMet.of (loc0 := [(0, .ref a), (1, .int (nI j)), (2, .ref v)]) F (by decide +kernel) rfl (Nat.le_of_ble_eq_true rfl) (fun X C R Tb nm => ?_)
  have hL0 := hL
  obtain ⟨ha, hs, E, hE, hc⟩ := hL
  refine g_aload_n C dJx4a65c_add_7a177_0 rfl rfl ?_
  refine g_iload_n C dJx4a65c_add_7a177_1 rfl rfl ?_
  refine g_callV C gy_Jx4a65c_rangeCheckForAdd_d00df tw_2_1 tw_2_3 ts_5 (by decide) (kk := 7) rfl rfl (by exact ha) (m_rangeCheck F S a j xs hL0 hj) rfl rfl (Nat.le_of_ble_eq_true rfl) (by omega) (by omega) dJx4a65c_add_7a177_2 (fun _ _ h9 => h9.elim) ?_
  rintro _ _ ⟨rfl, rfl⟩
  refine g_aload_n C dJx4a65c_add_7a177_5 rfl rfl ?_
  refine g_dup C dJx4a65c_add_7a177_6 rfl ?_
  refine ge_AL_modCount C tw_1_47 (by exact ha) rfl dJx4a65c_add_7a177_7 ?_
  refine g_iconst C dJx4a65c_add_7a177_10 (v := 1) (by decide) ?_
  refine g_iadd C dJx4a65c_add_7a177_11 ?_
  refine pu_AL_modCount C tw_1_47 (by exact ha) dJx4a65c_add_7a177_12 ?_
  generalize hm : pI S 224 a + 1 = mm
  have hF0 : Fr S (uI S 224 a mm) (moL a) (maL a) := fr_uI rfl
  have hL1 : isL Γ (uI S 224 a mm) a xs := hL0.uI224
  have hv1 : al (uI S 224 a mm) v kv := hv
  have hel1 : ∀ x, x ∈ xs → al (uI S 224 a mm) x kv := hel
  have hE1 : pP (uI S 224 a mm) 225 a = some E := hE
  have hs1 : pI (uI S 224 a mm) 226 a = nI xs.length := hs
  have ha1 : al (uI S 224 a mm) a 7 := ha
  have hc1 : (E = bE Γ ∧ xs = []) ∨ (al (uI S 224 a mm) E 12 ∧ pW (uI S 224 a mm) E = a ∧ 0 < pN (uI S 224 a mm) E ∧ xs.length ≤ pN (uI S 224 a mm) E ∧ pN (uI S 224 a mm) E ≤ 100 ∧ ∀ j, j < xs.length → pRP (uI S 224 a mm) E j = xs[j]?) := hc
  generalize uI S 224 a mm = S0 at hF0 hL1 hv1 hel1 hE1 hs1 ha1 hc1 ⊢
  have key : ∀ (S1 : PS) (E1 : Nat), isR S1 a E1 xs → Fr S0 S1 (moL a) (maL a) → GW Γ X S1 1 100 38 [(0, .ref a), (1, .int (nI j)), (2, .ref v), (3, .int (nI xs.length)), (4, .ref E1)] [] := by
    intro S1 E1 hR hF
    have hlt := hR.2.2.2.2.2.1
    have h100 := hR.2.2.2.2.2.2.1
    refine g_aload C dJx4a65c_add_7a177_38 rfl ?_
    refine g_iload_n C dJx4a65c_add_7a177_40 rfl rfl ?_
    refine g_aload C dJx4a65c_add_7a177_41 rfl ?_
    refine g_iload_n C dJx4a65c_add_7a177_43 rfl rfl ?_
    refine g_iconst C dJx4a65c_add_7a177_44 (v := 1) (by decide) ?_
    refine g_iadd C dJx4a65c_add_7a177_45 ?_
    rw [nI_1]
    refine g_iload_n C dJx4a65c_add_7a177_46 rfl rfl ?_
    refine g_iload_n C dJx4a65c_add_7a177_47 rfl rfl ?_
    refine g_isub C dJx4a65c_add_7a177_48 ?_
    rw [pk_sub hj]
    refine g_copyQ C tw_2_54 (sp := j) (dp := j + 1) (m := xs.length - j) (kv := kv) rfl rfl rfl hR.2.2.2.1 hR.2.2.2.1 (by omega) (by omega) (by omega) h8 (fun i hi w hw => (hel1 w (by rw [hR.2.2.2.2.2.2.2 _ (by omega)] at hw; exact List.mem_of_getElem? hw)).fr hF) (by simp [Value.category]) dJx4a65c_add_7a177_49 ?_
    refine g_aload C dJx4a65c_add_7a177_52 rfl ?_
    refine g_iload_n C dJx4a65c_add_7a177_54 rfl rfl ?_
    refine g_aload_n C dJx4a65c_add_7a177_55 rfl rfl ?_
    refine g_stQ C rfl (by exact hR.2.2.2.1) (by exact (hv1.fr hF).uRP) h8 (by show j < pN S1 E1; omega) (by omega) dJx4a65c_add_7a177_56 ?_
    refine g_aload_n C dJx4a65c_add_7a177_57 rfl rfl ?_
    refine g_iload_n C dJx4a65c_add_7a177_58 rfl rfl ?_
    refine g_iconst C dJx4a65c_add_7a177_59 (v := 1) (by decide) ?_
    refine g_iadd C dJx4a65c_add_7a177_60 ?_
    rw [nI_1]
    refine pu_AL_size C tw_1_45 (by exact hR.1) dJx4a65c_add_7a177_61 ?_
    refine g_vret C R (by omega) (by omega) dJx4a65c_add_7a177_64 ?_
    obtain ⟨p1, p2⟩ := hR.ins (Γ := Γ) (v := v) hj _ rfl
    exact ⟨rfl, p1, hF0.trL (hF.trL p2)⟩
  have kgrow : (∀ E9, pP S0 225 a = some E9 → al S0 E9 12 → pN S0 E9 = xs.length) → ∀ ee, GW Γ X S0 0 0 32 [(0, .ref a), (1, .int (nI j)), (2, .ref v), (3, .int (nI xs.length)), (4, .ref ee)] [] := by
    intro hfull ee
    refine g_aload_n C dJx4a65c_add_7a177_32 rfl rfl ?_
    refine g_callV C gy_Jx4a65c_grow_d5877 tw_2_5 tw_2_7 ts_6 (by decide) (kk := 7) rfl rfl (by exact ha1) (m_grow F S0 a kv xs hL1 hfull h60 h8 hel1) rfl rfl (Nat.le_of_ble_eq_true rfl) (by omega) (by omega) dJx4a65c_add_7a177_33 (fun _ _ h9 => h9.elim) ?_
    rintro _ _ ⟨q, N, row, rfl, hq, g1, g2, g3, rfl⟩
    refine g_astore C dJx4a65c_add_7a177_36 (by decide) rfl ?_
    obtain ⟨g4, g5⟩ := grown ha1 hs1 hq g1 g2 g3
    refine g_own q a ?_
    refine g_sub [(0, _), (1, _), (2, _), (3, _), (4, _)] ⟨rfl, rfl, rfl, rfl, rfl, trivial⟩ ?_
    exact key _ q g4 g5
  rcases hc1 with ⟨rfl, rfl⟩ | ⟨c1, c2, c3, c4, c5, c6⟩
  · refine g_aload_n C dJx4a65c_add_7a177_15 rfl rfl ?_
    refine ge_AL_size C tw_1_45 (by exact ha1) (by exact hs1) dJx4a65c_add_7a177_16 ?_
    refine g_dup C dJx4a65c_add_7a177_19 rfl ?_
    refine g_istore_n C dJx4a65c_add_7a177_20 rfl (by decide) rfl ?_
    refine g_aload_n C dJx4a65c_add_7a177_21 rfl rfl ?_
    refine ge_AL_elementData C tw_1_44 (by exact ha1) (by exact hE1) dJx4a65c_add_7a177_22 ?_
    refine g_dup C dJx4a65c_add_7a177_25 rfl ?_
    refine g_astore C dJx4a65c_add_7a177_26 (by decide) rfl ?_
    refine g_alenE0 C dJx4a65c_add_7a177_28 ?_
    refine g_icmp_ne C dJx4a65c_add_7a177_29 (tgt := 38) (by decide) (fun c => ?_) (fun c => ?_)
    · exact absurd rfl c
    · refine g_sub [(0, _), (1, _), (2, _), (3, _), (4, _)] ⟨rfl, rfl, rfl, rfl, rfl, trivial⟩ ?_
      refine g_know (fun hAA => kgrow (fun E9 h9 h10 => ?_) _)
      exfalso
      have h11 : E9 = bE Γ := Option.some.inj (h9.symm.trans hE1)
      subst h11
      exact g_E0 F hAA h10.1
  · refine g_aload_n C dJx4a65c_add_7a177_15 rfl rfl ?_
    refine ge_AL_size C tw_1_45 (by exact ha1) (by exact hs1) dJx4a65c_add_7a177_16 ?_
    refine g_dup C dJx4a65c_add_7a177_19 rfl ?_
    refine g_istore_n C dJx4a65c_add_7a177_20 rfl (by decide) rfl ?_
    refine g_aload_n C dJx4a65c_add_7a177_21 rfl rfl ?_
    refine ge_AL_elementData C tw_1_44 (by exact ha1) (by exact hE1) dJx4a65c_add_7a177_22 ?_
    refine g_dup C dJx4a65c_add_7a177_25 rfl ?_
    refine g_astore C dJx4a65c_add_7a177_26 (by decide) rfl ?_
    refine g_alen C (by decide) c1 dJx4a65c_add_7a177_28 ?_
    refine g_icmp_ne C dJx4a65c_add_7a177_29 (tgt := 38) (by decide) (fun c => ?_) (fun c => ?_)
    · refine g_sub [(0, _), (1, _), (2, _), (3, _), (4, _)] ⟨rfl, rfl, rfl, rfl, rfl, trivial⟩ ?_
      refine g_widen 1 100 (by omega) (by omega) ?_
      have hlt : xs.length < pN S0 E := by
        rcases Nat.lt_or_ge xs.length (pN S0 E) with q | q
        · exact q
        · exact absurd (by rw [show pN S0 E = xs.length by omega]) c
      exact key S0 E ⟨ha1, hs1, hE1, c1, c2, hlt, c5, c6⟩ Fr.rf
    · refine g_sub [(0, _), (1, _), (2, _), (3, _), (4, _)] ⟨rfl, rfl, rfl, rfl, rfl, trivial⟩ ?_
      refine kgrow (fun E9 h9 _ => ?_) _
      have h11 : E9 = E := Option.some.inj (h9.symm.trans hE1)
      subst h11
      exact ((nI_eq (by omega) (by omega)).mp c).symm
