theorem ord_lenN {B : BT} (hV : VB B) {l : List (Nat × Nat)} (h : l.Nodup ∧ ∀ a, a ∈ l → a.1 < tN B ∧ a.2 < (stL (dsB B a.1)).length) : l.length ≤ tC B := by
  have hget : ∀ a, a ∈ l → ∃ c, (scB B a.1)[a.2]? = some c ∧ c < tC B ∧ (tU B c).1 = a.1 := by
    intro a ha
    have ⟨h1, h2⟩ := h.2 a ha
    have h1 : a.1 < tN B := h1
    have h2 : a.2 < (stL (dsB B a.1)).length := h2
    have h3 := stL_len (dsB B a.1)
    have h4 : (dsB B a.1).length = (scB B a.1).length := by simp [dsB, dat]
    have h5 : a.2 < (scB B a.1).length := by omega
    refine ⟨(scB B a.1)[a.2], List.getElem?_eq_getElem h5, ?_⟩
    have := (((hV.2.2.2.2.2.2.1 a.1 h1).1).2 _).mp (List.getElem_mem h5)
    exact ⟨this.1, this.2.1⟩
  have hnd : (l.map (fun a => (scB B a.1).getD a.2 0)).Nodup := by
    unfold List.Nodup
    rw [List.pairwise_map]
    refine List.Pairwise.imp_of_mem (fun {a b} ha hb hab e => ?_) h.1
    obtain ⟨c, c1, c2, c3⟩ := hget a ha
    obtain ⟨d, d1, d2, d3⟩ := hget b hb
    rw [List.getD_eq_getElem?_getD, List.getD_eq_getElem?_getD, c1, d1] at e
    have e : c = d := e
    subst e
    have e1 : a.1 = b.1 := c3.symm.trans d3
    rw [← e1] at d1
    have hl := (List.getElem?_eq_some_iff.mp c1).1
    have hn := (hV.2.2.2.2.2.2.1 a.1 (h.2 a ha).1).1.nodup
    have e2 := (List.getElem?_inj hl hn).mp (c1.trans d1.symm)
    have : a = b := Prod.ext e1 e2
    exact hab this
  have := nodup_lt_len (tC B) _ hnd (fun c hc => by
    obtain ⟨a, ha, rfl⟩ := List.mem_map.mp hc
    obtain ⟨c, c1, c2, _⟩ := hget a ha
    rw [List.getD_eq_getElem?_getD, c1]
    exact c2)
  simpa using this
theorem ord_len {B : BT} (hV : VB B) {l : List (Nat × Nat)} (h : OrdL (ctB B) l) : l.length ≤ tC B := ord_lenN hV ⟨h.1.imp (fun hab => fun e => by rw [e] at hab; omega), h.2⟩
theorem BkV.frO {Γ : GBase} {S S' : PS} {x LO : Nat} {A : AD} {B : BT} {os xs : List Nat} (h : BkV Γ S x A B os) (hLO : pP S 163 x = some LO) (hf : Fr S S' (moL LO) (maL LO)) (hL : isL Γ S' LO xs) (h4 : ∀ t, t ∈ xs → al S t 4) (h60 : xs.length ≤ 60) : BkV Γ S' x A B xs := by
  obtain ⟨a1, a2, a3, a4, ⟨⟨LO', o1, o2, o3⟩, a6, a7⟩, a9, a11, a12, a13, a14⟩ := h
  have e : LO' = LO := Option.some.inj (o1.symm.trans hLO)
  subst e
  have hl := o3.1
  have fx : ∀ f, pI S' f x = pI S f x ∧ pP S' f x = pP S f x := fun f => (hf x a1.1).2.2.2.2.1 f (fun e => (a1.kne hl (by decide)) e)
  exact ⟨a1.fr hf, a2.frL a1 hf hl (by rw [o2]; omega), a3.frL a1 hf hl (by rw [o2]; omega), a4.frL a1 hf hl (by rw [o2]; omega), ⟨⟨LO', (fx 163).2.trans o1, (hf LO' hl.1).2.2.2.1.trans o2, hL⟩, fun t ht => (h4 t ht).fr hf, h60⟩, (fx 164).1.trans a9, a11.fr hf (fun i hi => OffP.list hl (a11.al i hi) (by rw [o2]; omega) (by rw [o2]; omega)), a12.fr hf (fun a f ha e => (ha.kne hl (by decide)) e), a13.fr hf (fun a f ha e => (ha.kne hl (by decide)) e), a14⟩
theorem PupsI.addr {Γ : GBase} {S : PS} {A : AD} {B : BT} (h : PupsI Γ S A B) {a : Nat × Nat} (h1 : a.1 < tN B) (h2 : a.2 < (stL (dsB B a.1)).length) : ∃ q, (stL (dsB B a.1))[a.2]? = some q ∧ StayO S (adr A a) (dP A a.1) q ∧ (dT A a.1)[a.2]? = some (adr A a) := by
  obtain ⟨LS, LT, TA, TB, -, -, -, -, -, -, h7, -⟩ := h.2 a.1 h1
  have hl : a.2 < (dT A a.1).length := by rw [h7.1]; exact h2
  have e : (dT A a.1)[a.2]? = some (adr A a) := by
    unfold adr
    rw [List.getD_eq_getElem?_getD, List.getElem?_eq_getElem hl]
    rfl
  exact ⟨_, List.getElem?_eq_getElem h2, h7.2.2 a.2 _ _ e (List.getElem?_eq_getElem h2), e⟩
