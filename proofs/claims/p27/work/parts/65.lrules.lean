/-! ===== what the law's body stands on ===== -/
def Bud (S : PS) (x k n : Nat) : Prop := (pI S 165 x = 1 ∧ k ≤ 2040 ∧ n ≤ 100000) ∨ (k ≤ 2000 ∧ n ≤ 96000)
theorem Bud.k {S : PS} {x k n : Nat} (h : Bud S x k n) : k ≤ 2040 := by
  rcases h with h | h
  · exact h.2.1
  · omega
theorem Bud.n {S : PS} {x k n : Nat} (h : Bud S x k n) : n ≤ 100000 := by
  rcases h with h | h
  · exact h.2.2
  · omega
/-- the law's world, and what it cost -/
def LWd (Γ : GBase) (S : PS) (x P Y Cu N : Nat) (B : BT) (k n : Nat) : Prop := (∃ A, WO Γ S x P Y Cu N A B) ∧ Bud S x k n
theorem LWd.ord {Γ : GBase} {S : PS} {x P Y Cu N : Nat} {B : BT} {k n : Nat} (h : LWd Γ S x P Y Cu N B k n) (h5 : pI S 165 x = 1) : isOrd (ctB B) (ordB B) := by
  obtain ⟨⟨A, hW⟩, -⟩ := h
  obtain ⟨os, -, hc⟩ := hW.1.cast h5
  exact hc.1
theorem LWd.nr {Γ : GBase} {S : PS} {x P Y Cu N : Nat} {B : BT} {k n : Nat} (h : LWd Γ S x P Y Cu N B k n) : NrR S N (tN B) (tQ B) (tC B) := h.1.elim (fun _ w => w.2.2.2.2.2)
theorem LWd.cu {Γ : GBase} {S : PS} {x P Y Cu N : Nat} {B : BT} {k n : Nat} (h : LWd Γ S x P Y Cu N B k n) : CuR S Cu (tC B) (tU B) := h.1.elim (fun _ w => w.2.2.2.2.1)
theorem LWd.pu {Γ : GBase} {S : PS} {x P Y Cu N : Nat} {B : BT} {k n : Nat} (h : LWd Γ S x P Y Cu N B k n) : al S P 9 ∧ pN S P = 16 ∧ PuV S P B := h.1.elim (fun _ w => ⟨w.2.1.1.1.1, w.2.1.1.1.2.1, w.2.2.1⟩)
theorem LWd.py {Γ : GBase} {S : PS} {x P Y Cu N : Nat} {B : BT} {k n : Nat} (h : LWd Γ S x P Y Cu N B k n) : al S Y 8 ∧ pN S Y = 10 ∧ PyV S Y B := h.1.elim (fun _ w => ⟨w.2.1.1.2.1.1, w.2.1.1.2.1.2.1, w.2.2.2.1⟩)
section LRules
variable {Γ : GBase} {X : Cx} {S : PS} {x P Y Cu N k n pc : Nat} {B : BT} {loc : List (Nat × Value)} {st : List Value}
theorem r_stay (C : GC Γ X cL_law 16 "CueBookLaw" 13 600104 7301314) {i j v : Nat} {w : Int32} (hW : LWd Γ S x P Y Cu N B k n) (hi : i < tN B) (hj : j < (stL (dsB B i)).length) (hv : v < 3) (e : w = nI v) (hcat : (st.map fun v => v.category).sum ≤ 8) (d : decode cL_law pc = .ok (.invokevirtual 75, 3)) (q : ∀ S' k' n', LWd Γ S' x P Y Cu N B k' n' → pI S' 165 x = 1 → GW Γ X S' k' n' (pc + 3) loc (.int (stW B i j v) :: st)) : GW Γ X S k n pc loc (.int w :: .int (nI j) :: .int (nI i) :: .ref x :: st) := by
  subst e
  obtain ⟨⟨A, hO⟩, hb⟩ := id hW
  have hk := hb.k
  have hn := hb.n
  have hI := hO.1
  by_cases h5 : pI S 165 x = 1
  · refine g_callV C gy_X5_stay tw_1_208 tw_1_209 tw_1_210 (by decide) (kk := 5) rfl rfl hI.1 (z_stay C.F S x i j v A B hI h5 hi hj hv) rfl rfl hcat (by omega) (by omega) d (fun _ _ h9 => h9.elim) ?_
    rintro _ _ ⟨rfl, rfl⟩
    exact q S k n hW h5
  · have hb2 : k ≤ 2000 ∧ n ≤ 96000 := hb.elim (fun h => absurd h.1 h5) id
    refine g_callV C gy_X5_stay tw_1_208 tw_1_209 tw_1_210 (by decide) (kk := 5) rfl rfl hI.1 (o_stay C.F S x i j v A B hI hi hj hv) rfl rfl hcat (by omega) (by omega) d (fun _ _ h9 => h9.elim) ?_
    rintro _ S2 ⟨hI2, h52, hF, rfl⟩
    exact q S2 (k + 40) (n + 4000) ⟨⟨A, hO.frB hF hI2⟩, Or.inl ⟨h52, by omega, by omega⟩⟩ h52
theorem r_hands (C : GC Γ X cL_law 16 "CueBookLaw" 13 600104 7301314) {i b : Nat} (hW : LWd Γ S x P Y Cu N B k n) (hi : i < tQ B) (hb1 : b < 1000) (hcat : (st.map fun v => v.category).sum ≤ 8) (d : decode cL_law pc = .ok (.invokevirtual 84, 3)) (q : ∀ S' k' n', LWd Γ S' x P Y Cu N B k' n' → pI S' 165 x = 1 → GW Γ X S' k' n' (pc + 3) loc (.int (nI (hmB B i b)) :: st)) : GW Γ X S k n pc loc (.int (nI b) :: .int (nI i) :: .ref x :: st) := by
  obtain ⟨⟨A, hO⟩, hb⟩ := id hW
  have hk := hb.k
  have hn := hb.n
  have hI := hO.1
  by_cases h5 : pI S 165 x = 1
  · refine g_callV C gy_X5_hands tw_2_93 tw_2_94 tw_2_95 (by decide) (kk := 5) rfl rfl hI.1 (z_hands C.F S x i b A B hI h5 hi hb1) rfl rfl hcat (by omega) (by omega) d (fun _ _ h9 => h9.elim) ?_
    rintro _ _ ⟨rfl, rfl⟩
    exact q S k n hW h5
  · have hb2 : k ≤ 2000 ∧ n ≤ 96000 := hb.elim (fun h => absurd h.1 h5) id
    refine g_callV C gy_X5_hands tw_2_93 tw_2_94 tw_2_95 (by decide) (kk := 5) rfl rfl hI.1 (o_hands C.F S x i b A B hI hi hb1) rfl rfl hcat (by omega) (by omega) d (fun _ _ h9 => h9.elim) ?_
    rintro _ S2 ⟨hI2, h52, hF, rfl⟩
    exact q S2 (k + 40) (n + 4000) ⟨⟨A, hO.frB hF hI2⟩, Or.inl ⟨h52, by omega, by omega⟩⟩ h52
theorem r_place (C : GC Γ X cL_law 16 "CueBookLaw" 13 600104 7301314) {i b : Nat} (hW : LWd Γ S x P Y Cu N B k n) (hi : i < tN B) (hb1 : b < 1000) (hcat : (st.map fun v => v.category).sum ≤ 8) (d : decode cL_law pc = .ok (.invokevirtual 78, 3)) (q : GW Γ X S k n (pc + 3) loc (.int (zO (plL (dsB B i) b)) :: st)) : GW Γ X S k n pc loc (.int (nI b) :: .int (nI i) :: .ref x :: st) := by
  obtain ⟨⟨A, hO⟩, hb⟩ := id hW
  have hk := hb.k
  have hn := hb.n
  have hI := hO.1
  refine g_callV C gy_X5_place tw_1_81 tw_1_82 tw_1_83 (by decide) (kk := 5) rfl rfl hI.1 (z_place C.F S x i b A B hI hi hb1) rfl rfl hcat (by omega) (by omega) d (fun _ _ h9 => h9.elim) ?_
  rintro _ _ ⟨rfl, rfl⟩
  exact q
theorem r_track (C : GC Γ X cL_law 16 "CueBookLaw" 13 600104 7301314) {i b : Nat} (hW : LWd Γ S x P Y Cu N B k n) (hi : i < tN B) (hb1 : b < 1000) (hcat : (st.map fun v => v.category).sum ≤ 8) (d : decode cL_law pc = .ok (.invokevirtual 81, 3)) (q : GW Γ X S k n (pc + 3) loc (.int (zO (trL (dsB B i) b)) :: st)) : GW Γ X S k n pc loc (.int (nI b) :: .int (nI i) :: .ref x :: st) := by
  obtain ⟨⟨A, hO⟩, hb⟩ := id hW
  have hk := hb.k
  have hn := hb.n
  have hI := hO.1
  refine g_callV C gy_X5_track tw_1_195 tw_1_196 tw_1_197 (by decide) (kk := 5) rfl rfl hI.1 (z_track C.F S x i b A B hI hi hb1) rfl rfl hcat (by omega) (by omega) d (fun _ _ h9 => h9.elim) ?_
  rintro _ _ ⟨rfl, rfl⟩
  exact q
theorem r_stays (C : GC Γ X cL_law 16 "CueBookLaw" 13 600104 7301314) {i : Nat} (hW : LWd Γ S x P Y Cu N B k n) (hi : i < tN B) (hcat : (st.map fun v => v.category).sum ≤ 8) (d : decode cL_law pc = .ok (.invokevirtual 72, 3)) (q : GW Γ X S k n (pc + 3) loc (.int (nI (stL (dsB B i)).length) :: st)) : GW Γ X S k n pc loc (.int (nI i) :: .ref x :: st) := by
  obtain ⟨⟨A, hO⟩, hb⟩ := id hW
  have hk := hb.k
  have hn := hb.n
  have hI := hO.1
  refine g_callV C gy_X5_stays tw_1_204 tw_1_205 tw_1_206 (by decide) (kk := 5) rfl rfl hI.1 (z_stays C.F S x i A B hI hi) rfl rfl hcat (by omega) (by omega) d (fun _ _ h9 => h9.elim) ?_
  rintro _ _ ⟨rfl, rfl⟩
  exact q
theorem r_beats (C : GC Γ X cL_law 16 "CueBookLaw" 13 600104 7301314) {i : Nat} (hW : LWd Γ S x P Y Cu N B k n) (hi : i < tN B) (hcat : (st.map fun v => v.category).sum ≤ 8) (d : decode cL_law pc = .ok (.invokevirtual 87, 3)) (q : GW Γ X S k n (pc + 3) loc (.int (nI (sumS (stL (dsB B i)))) :: st)) : GW Γ X S k n pc loc (.int (nI i) :: .ref x :: st) := by
  obtain ⟨⟨A, hO⟩, hb⟩ := id hW
  have hk := hb.k
  have hn := hb.n
  have hI := hO.1
  refine g_callV C gy_X5_beats tw_1_199 tw_1_200 tw_1_201 (by decide) (kk := 5) rfl rfl hI.1 (z_beats C.F S x i A B hI hi) rfl rfl hcat (by omega) (by omega) d (fun _ _ h9 => h9.elim) ?_
  rintro _ _ ⟨rfl, rfl⟩
  exact q
theorem r_load (C : GC Γ X cL_law 16 "CueBookLaw" 13 600104 7301314) {i : Nat} (hW : LWd Γ S x P Y Cu N B k n) (h5 : pI S 165 x = 1) (hi : i < tQ B) (hcat : (st.map fun v => v.category).sum ≤ 8) (d : decode cL_law pc = .ok (.invokevirtual 90, 3)) (q : GW Γ X S k n (pc + 3) loc (.int (nI (cntN (fun b => hmB B i b != 0) 1000)) :: st)) : GW Γ X S k n pc loc (.int (nI i) :: .ref x :: st) := by
  obtain ⟨⟨A, hO⟩, hb⟩ := id hW
  have hk := hb.k
  have hn := hb.n
  have hI := hO.1
  refine g_callV C gy_X5_load tw_2_102 tw_2_103 tw_2_104 (by decide) (kk := 5) rfl rfl hI.1 (z_load C.F S x i A B hI h5 hi) rfl rfl hcat (by omega) (by omega) d (fun _ _ h9 => h9.elim) ?_
  rintro _ _ ⟨rfl, rfl⟩
  exact q
end LRules
/-- a bit of a set of puppets -/
theorem nb_shr : ∀ m, m < 16 → ∀ i, i < 4 → ((nI m >>> (nI i &&& 31)) &&& 1) = if m.testBit i then 1 else 0 := by decide +kernel
theorem stW_eq {B : BT} {i j : Nat} {s : Nat × Nat} (hs : (stL (dsB B i))[j]? = some s) : stW B i j 0 = nI s.1 ∧ stW B i j 1 = nI s.2 ∧ stW B i j 2 = zO (castB B i j) := by
  unfold stW
  rw [hs]
  exact ⟨rfl, rfl, rfl⟩
theorem zO_k {o : Option Nat} {k : Nat} (ho : ∀ v, o = some v → v < 1000) (hk : k < 1000) : nI k = zO o ↔ o = some k := by
  have := zO_inj (o := some k) (o' := o) (fun v hv => by cases hv; exact hk) ho
  rw [show zO (some k) = nI k from rfl] at this
  rw [this]
  exact ⟨fun h => h.symm, fun h => h.symm⟩
theorem cast_lt {B : BT} (hV : VB B) (hO : isOrd (ctB B) (ordB B)) {i j : Nat} : ∀ v, castB B i j = some v → v < 1000 := by
  intro v hv
  have h1 : v < tQ B := ((castB_I hO).2 i j v hv).2
  have h2 := hV.2.1
  omega
