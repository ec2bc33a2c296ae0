/-! ===== more rows; frames; lists; the JDK's methods ===== -/
section GMore
variable {Γ : GBase} {X : Cx} {cc : ByteArray} {nL : Nat} {own : String} {lvl mc ms : Nat} {S : PS} {k n pc : Nat} {loc : List (Nat × Value)} {st : List Value}
theorem g_ineg (C : GC Γ X cc nL own lvl mc ms) {x : Int32} (d : decode cc pc = .ok (.ineg, 1)) (kk : GW Γ X S k n (pc + 1) loc (.int (-x) :: st)) : GW Γ X S k n pc loc (.int x :: st) := fun H locs ls hP hD hS hl => lv_ineg C.hx C.hb d (by simpa using kk H locs ls hP hD hS hl)
theorem g_iushr (C : GC Γ X cc nL own lvl mc ms) {x y : Int32} (d : decode cc pc = .ok (.iushr, 1)) (kk : GW Γ X S k n (pc + 1) loc (.int ((x.toUInt32 >>> (y.toUInt32 &&& Int32.toUInt32 31)).toInt32) :: st)) : GW Γ X S k n pc loc (.int y :: .int x :: st) := fun H locs ls hP hD hS hl => lv_iushr C.hx C.hb d rfl (kk H locs ls hP hD hS hl)
theorem g_ldc (C : GC Γ X cc nL own lvl mc ms) {index : Nat} {v : Int32} (w : Cond.constant own index v ∈ lw_tbl) (d : decode cc pc = .ok (.ldc index, 2)) (kk : GW Γ X S k n (pc + 2) loc (.int v :: st)) : GW Γ X S k n pc loc st := fun H locs ls hP hD hS hl => lv_ldc C.hx C.hb C.hown (C.tw w rfl) d (kk H locs ls hP hD hS hl)
theorem g_min (C : GC Γ X cc nL own lvl mc ms) {index : Nat} {x y : Int32} (w : Cond.methodLink own index Lib.Math.min.name ∈ lw_tbl) (w2 : Cond.static Lib.Math.min.name ∈ lw_tbl) (w3 : Cond.code Lib.Math.min.name Lib.Math.min.code 2 (some .int) ∈ lw_tbl) (w4 : Cond.initialized "java/lang/Math" ∈ lw_tbl) (hr : (st.map fun v => v.category).sum ≤ 60) (hk : k ≤ mc) (hn : n ≤ ms) (d : decode cc pc = .ok (.invokestatic index, 3)) (q : GW Γ X S k n (pc + 3) loc (.int (if y < x then y else x) :: st)) : GW Γ X S k n pc loc (.int y :: .int x :: st) := fun H locs ls hP hD hS hl =>
  va_mmin C.hx C.hb hl.1.symm C.hown (C.tw w rfl) (C.tw w2 rfl) (C.tw w4 rfl) (C.tw w3 rfl) (by have := C.rf; omega) (by have := C.rl; omega) (by rw [C.rc]; exact hk) (by rw [C.rs]; exact hn) d (q H locs ls hP hD hS hl)
theorem g_recvQ (C : GC Γ X cc nL own lvl mc ms) {H : Heap} (hP : va_P (bD Γ) gcl (pw (bC Γ) S) H) {a : Nat} (ha : al S a 12) : ∃ cell : Cell, H[a]? = some cell ∧ cell.vm.isStatics = false ∧ X.2.2.2.1.vm.findClass "[Ljava/lang/Object;" = some cell.cls := by
  obtain ⟨q0, hq⟩ := pw_get (bC Γ) ha.1
  rw [PFo_Q (bC Γ) ha] at hq
  exact ⟨_, hP q0 _ hq, rfl, va_nmO (C.hK.2 4 _ rfl).2 (by decide +kernel)⟩
theorem g_getClassQ (C : GC Γ X cc nL own lvl mc ms) {a mi index : Nat} (hM : va_Mi "[Ljava/lang/Object;" mi (bS Γ)) (ha : al S a 12) (w : Cond.methodLink own index ⟨"java/lang/Object", "getClass", "()Ljava/lang/Class;"⟩ ∈ lw_tbl) (hr : (st.map fun v => v.category).sum ≤ 60) (d : decode cc pc = .ok (.invokevirtual index, 3)) (q : GW Γ X S k n (pc + 3) loc (.ref mi :: st)) : GW Γ X S k n pc loc (.ref a :: st) := fun H locs ls hP hD hS hl =>
  va_getC C.hx C.hb hl.1.symm C.hown (C.tw w rfl) (C.tw2 tw_3_192 rfl) (C.tw tw_3_191 rfl) (C.tw tw_2_27 rfl) (C.tw tw_2_39 rfl) (va_Mi.moved C.hW.alike hM) (g_recvQ C hP ha) (by have := C.rf; omega) (by have := C.rl; omega) d (q H locs ls hP hD hS hl)
theorem g_ldcM (C : GC Γ X cc nL own lvl mc ms) {mi index : Nat} (hM : va_Mi "[Ljava/lang/Object;" mi (bS Γ)) (w : Cond.classLink own index "[Ljava/lang/Object;" ∈ lw_tbl) (d : decode cc pc = .ok (.ldc index, 2)) (q : GW Γ X S k n (pc + 2) loc (.ref mi :: st)) : GW Γ X S k n pc loc st := fun H locs ls hP hD hS hl =>
  va_ldcM C.hx C.hb C.hown (C.tw w rfl) (va_Mi.moved C.hW.alike hM) d (q H locs ls hP hD hS hl)
theorem g_acmp_ne (C : GC Γ X cc nL own lvl mc ms) {x y : Nat} {off : Int} {tgt : Nat} (d : decode cc pc = .ok (.if_acmp .ne off, 3)) (ht : (pc : Int) + off = (tgt : Int)) (kt : ¬ x = y → GW Γ X S k n tgt loc st) (kf : x = y → GW Γ X S k n (pc + 3) loc st) : GW Γ X S k n pc loc (.ref y :: .ref x :: st) := fun H locs ls hP hD hS hl => lv_acmp_ne (rx := some x) (ry := some y) C.hx C.hb d ht (fun h => kt (fun q => h (congrArg some q)) H locs ls hP hD hS hl) (fun h => kf (Option.some.inj h) H locs ls hP hD hS hl)
end GMore
/-! frames: mo f b: field f of b may have changed; ma o b: the row b, owned by o, may have changed -/
def Fr (S S' : PS) (mo : Nat → Nat → Prop) (ma : Nat → Nat → Prop) : Prop := ∀ b, b ∈ pL S → b ∈ pL S' ∧ pK S' b = pK S b ∧ pN S' b = pN S b ∧ pW S' b = pW S b ∧ (∀ f, ¬ mo f b → pI S' f b = pI S f b ∧ pP S' f b = pP S f b) ∧ (¬ ma (pW S b) b → pR S' b = pR S b ∧ pRL S' b = pRL S b ∧ pRD S' b = pRD S b ∧ pRP S' b = pRP S b)
theorem Fr.rf {S : PS} {mo ma : Nat → Nat → Prop} : Fr S S mo ma := fun b h => ⟨h, rfl, rfl, rfl, fun _ _ => ⟨rfl, rfl⟩, fun _ => ⟨rfl, rfl, rfl, rfl⟩⟩
theorem Fr.tr {S S1 S2 : PS} {mo ma mo' ma' mo2 ma2 : Nat → Nat → Prop} (h1 : Fr S S1 mo ma) (h2 : Fr S1 S2 mo' ma') (hm : ∀ f b, b ∈ pL S → mo f b ∨ mo' f b → mo2 f b) (hr : ∀ o b, b ∈ pL S → ma o b ∨ ma' o b → ma2 o b) : Fr S S2 mo2 ma2 := by
  intro b hb
  obtain ⟨a1, a2, a3, a4, a5, a6⟩ := h1 b hb
  obtain ⟨b1, b2, b3, b4, b5, b6⟩ := h2 b a1
  refine ⟨b1, b2.trans a2, b3.trans a3, b4.trans a4, fun f hf => ?_, fun hf => ?_⟩
  · obtain ⟨c1, c2⟩ := a5 f (fun q => hf (hm f b hb (Or.inl q)))
    obtain ⟨d1, d2⟩ := b5 f (fun q => hf (hm f b hb (Or.inr q)))
    exact ⟨d1.trans c1, d2.trans c2⟩
  · obtain ⟨c1, c2, c3, c4⟩ := a6 (fun q => hf (hr _ b hb (Or.inl q)))
    obtain ⟨d1, d2, d3, d4⟩ := b6 (fun q => hf (hr _ b hb (Or.inr (a4 ▸ q))))
    exact ⟨d1.trans c1, d2.trans c2, d3.trans c3, d4.trans c4⟩
theorem Fr.mono {S S1 : PS} {mo ma mo2 ma2 : Nat → Nat → Prop} (h1 : Fr S S1 mo ma) (hm : ∀ f b, b ∈ pL S → mo f b → mo2 f b) (hr : ∀ o b, b ∈ pL S → ma o b → ma2 o b) : Fr S S1 mo2 ma2 := by
  intro b hb
  obtain ⟨a1, a2, a3, a4, a5, a6⟩ := h1 b hb
  exact ⟨a1, a2, a3, a4, fun f hf => a5 f (fun q => hf (hm f b hb q)), fun hf => a6 (fun q => hf (hr _ b hb q))⟩
theorem mem_ne {L : List Nat} {a b : Nat} (h : b ∈ L) (ha : a ∉ L) : b ≠ a := fun q => ha (by rw [← q]; exact h)
theorem al.fr {S S' : PS} {mo ma : Nat → Nat → Prop} {b k : Nat} (h : al S b k) (hf : Fr S S' mo ma) : al S' b k := ⟨(hf b h.1).1, (hf b h.1).2.1.trans h.2⟩
theorem al.nO {S : PS} {a k b j : Nat} (h : al S b j) (ha : a ∉ pL S) : al (nO S a k) b j := ⟨List.mem_append_left _ h.1, (va_up_ne _ _ (mem_ne h.1 ha)).trans h.2⟩
theorem al.nA {S : PS} {a k m b j : Nat} (h : al S b j) (ha : a ∉ pL S) : al (nA S a k m) b j := ⟨List.mem_append_left _ h.1, (va_up_ne _ _ (mem_ne h.1 ha)).trans h.2⟩
theorem al_nO {S : PS} {a k : Nat} : al (nO S a k) a k := ⟨List.mem_append_right _ List.mem_cons_self, va_up_self _ _ _⟩
theorem al_nA {S : PS} {a k m : Nat} : al (nA S a k m) a k := ⟨List.mem_append_right _ List.mem_cons_self, va_up_self _ _ _⟩
theorem al.ne {S : PS} {b k a : Nat} (h : al S b k) (ha : a ∉ pL S) : b ≠ a := mem_ne h.1 ha
theorem al.kne {S : PS} {a b k j : Nat} (h : al S a k) (h2 : al S b j) (hk : k ≠ j) : a ≠ b := fun q => hk (by rw [← h.2, ← h2.2, q])
theorem fr_uI {S : PS} {f a : Nat} {v : Int32} {mo ma : Nat → Nat → Prop} (h : mo f a) : Fr S (uI S f a v) mo ma := by
  intro b hb
  refine ⟨hb, rfl, rfl, rfl, fun g hg => ⟨?_, rfl⟩, fun _ => ⟨rfl, rfl, rfl, rfl⟩⟩
  simp only [pI, uI]
  split
  · rename_i h1
    split
    · rename_i h2
      subst h1; subst h2
      exact absurd h hg
    · rfl
  · rfl
theorem fr_uP {S : PS} {f a : Nat} {v : Option Nat} {mo ma : Nat → Nat → Prop} (h : mo f a) : Fr S (uP S f a v) mo ma := by
  intro b hb
  refine ⟨hb, rfl, rfl, rfl, fun g hg => ⟨rfl, ?_⟩, fun _ => ⟨rfl, rfl, rfl, rfl⟩⟩
  simp only [pP, uP]
  split
  · rename_i h1
    split
    · rename_i h2
      subst h1; subst h2
      exact absurd h hg
    · rfl
  · rfl
theorem fr_uR {S : PS} {a : Nat} {r : Nat → Int32} {mo ma : Nat → Nat → Prop} (h : ma (pW S a) a) : Fr S (uR S a r) mo ma := by
  intro b hb
  refine ⟨hb, rfl, rfl, rfl, fun g hg => ⟨rfl, rfl⟩, fun hn => ?_⟩
  have hba : b ≠ a := fun q => hn (q ▸ h)
  exact ⟨va_up_ne _ _ hba, rfl, rfl, rfl⟩
theorem fr_uRP {S : PS} {a : Nat} {r : Nat → Option Nat} {mo ma : Nat → Nat → Prop} (h : ma (pW S a) a) : Fr S (uRP S a r) mo ma := by
  intro b hb
  refine ⟨hb, rfl, rfl, rfl, fun g hg => ⟨rfl, rfl⟩, fun hn => ?_⟩
  have hba : b ≠ a := fun q => hn (q ▸ h)
  exact ⟨rfl, rfl, rfl, va_up_ne _ _ hba⟩
theorem fr_new {S : PS} {a k : Nat} {mo ma : Nat → Nat → Prop} (ha : a ∉ pL S) : Fr S (nO S a k) mo ma := by
  intro b hb
  have hba : b ≠ a := mem_ne hb ha
  refine ⟨List.mem_append_left _ hb, va_up_ne _ _ hba, rfl, rfl, fun g _ => ⟨?_, ?_⟩, fun _ => ⟨rfl, rfl, rfl, rfl⟩⟩
  · simp [pI, nO, hba]
  · simp [pP, nO, hba]
theorem fr_newA {S : PS} {a k m : Nat} {mo ma : Nat → Nat → Prop} (ha : a ∉ pL S) : Fr S (nA S a k m) mo ma := by
  intro b hb
  have hba : b ≠ a := mem_ne hb ha
  exact ⟨List.mem_append_left _ hb, va_up_ne _ _ hba, va_up_ne _ _ hba, rfl, fun g _ => ⟨rfl, rfl⟩, fun _ => ⟨va_up_ne _ _ hba, va_up_ne _ _ hba, va_up_ne _ _ hba, va_up_ne _ _ hba⟩⟩
theorem fr_uW {S : PS} {a o : Nat} {mo ma : Nat → Nat → Prop} (ha : a ∉ pL S) : Fr S (uW S a o) mo ma := by
  intro b hb
  have hba : b ≠ a := mem_ne hb ha
  exact ⟨hb, rfl, rfl, va_up_ne _ _ hba, fun g _ => ⟨rfl, rfl⟩, fun _ => ⟨rfl, rfl, rfl, rfl⟩⟩
theorem uRP_self (S : PS) (a : Nat) : uRP S a (pRP S a) = S := by
  obtain ⟨s1, s2, s3, s4, s5, s6, s7, s8, s9, s10⟩ := S
  simp only [uRP, pRP, Prod.mk.injEq, true_and, and_true]
  funext b
  by_cases hb : b = a
  · subst hb; exact va_up_self _ _ _
  · exact va_up_ne _ _ hb
/-- a list object, and what it holds -/
def isL (Γ : GBase) (S : PS) (a : Nat) (xs : List Nat) : Prop := al S a 7 ∧ pI S 226 a = nI xs.length ∧ ∃ E, pP S 225 a = some E ∧ ((E = bE Γ ∧ xs = []) ∨ (al S E 12 ∧ pW S E = a ∧ 0 < pN S E ∧ xs.length ≤ pN S E ∧ pN S E ≤ 100 ∧ ∀ j, j < xs.length → pRP S E j = xs[j]?))
theorem isL.len {Γ : GBase} {S : PS} {a : Nat} {xs : List Nat} (h : isL Γ S a xs) : xs.length ≤ 100 := by
  obtain ⟨-, -, E, -, h | h⟩ := h
  · rw [h.2]; simp
  · omega
theorem isL.fr {Γ : GBase} {S S' : PS} {mo ma : Nat → Nat → Prop} {a : Nat} {xs : List Nat} (h : isL Γ S a xs) (hf : Fr S S' mo ma) (h1 : ¬ mo 225 a) (h2 : ¬ mo 226 a) (h3 : ∀ E, al S E 12 → pW S E = a → ¬ ma a E) : isL Γ S' a xs := by
  obtain ⟨ha, hs, E, hE, hc⟩ := h
  obtain ⟨f1, f2, f3, f4, f5, f6⟩ := hf a ha.1
  refine ⟨ha.fr hf, (f5 226 h2).1.trans hs, E, (f5 225 h1).2.trans hE, ?_⟩
  rcases hc with hc | ⟨c1, c2, c3, c4, c5, c6⟩
  · exact Or.inl hc
  · obtain ⟨g1, g2, g3, g4, g5, g6⟩ := hf E c1.1
    refine Or.inr ⟨c1.fr hf, g4.trans c2, by rw [g3]; exact c3, by rw [g3]; exact c4, by rw [g3]; exact c5, fun j hj => ?_⟩
    rw [(g6 (c2 ▸ h3 E c1 c2)).2.2.2]
    exact c6 j hj
/-- what a call on the list a may change -/
def moL (a : Nat) : Nat → Nat → Prop := fun _ b => b = a
def maL (a : Nat) : Nat → Nat → Prop := fun o _ => o = a
/-! the methods -/
set_option maxHeartbeats 1000000 in
theorem m_ACinit {Γ : GBase} (F : FB Γ) (S : PS) (a : Nat) : GMet Γ yJxa1e45_init_da8c8 cJxa1e45_init_da8c8 1 ((none : Option FieldType)) 0 0 0 [.ref a] S (fun v S' => v = none ∧ S = S') noX := by
  refine GMet.of (loc0 := [(0, .ref a)]) F (by decide +kernel) rfl (Nat.le_of_ble_eq_true rfl) (fun X C R Tb nm => ?_)
  refine g_aload_n C dJxa1e45_init_da8c8_0 rfl rfl ?_
  refine g_objInit C tw_1_41 tw_1_28 tw_1_29 dJxa1e45_init_da8c8_1 (by simp [Value.category]) ?_
  refine g_vret C R (by omega) (by omega) dJxa1e45_init_da8c8_4 ?_
  exact ⟨rfl, rfl⟩
theorem m_ALinit0 {Γ : GBase} (F : FB Γ) (S : PS) (a : Nat) (ha : al S a 7) : GMet Γ yJxc12de_init_da8c8 cJxc12de_init_da8c8 1 ((none : Option FieldType)) 1 0 0 [.ref a] S (fun v S' => v = none ∧ S' = uI S 224 a 0) noX := by
  refine GMet.of (loc0 := [(0, .ref a)]) F (by decide +kernel) rfl (Nat.le_of_ble_eq_true rfl) (fun X C R Tb nm => ?_)
  refine g_aload_n C dJxc12de_init_da8c8_0 rfl rfl ?_
  refine g_callI C gy_Jxa1e45_init_da8c8 tw_1_38 tw_1_39 rfl rfl (by decide) (m_ACinit F S a) rfl rfl (Nat.le_of_ble_eq_true rfl) (by omega) (by omega) dJxc12de_init_da8c8_1 ?_
  rintro _ _ ⟨rfl, rfl⟩
  refine g_aload_n C dJxc12de_init_da8c8_4 rfl rfl ?_
  refine g_iconst C dJxc12de_init_da8c8_5 (v := 0) (by decide) ?_
  refine g_putI C kd_7 (i := 0) (v := 0) (ref := "java/util/AbstractList") rfl tw_1_46 (Or.inl rfl) (Or.inl rfl) ha rfl rfl dJxc12de_init_da8c8_6 ?_
  refine g_vret C R (by omega) (by omega) dJxc12de_init_da8c8_9 ?_
  exact ⟨rfl, rfl⟩
theorem m_ALinit {Γ : GBase} (F : FB Γ) (S : PS) (a : Nat) (ha : al S a 7) : GMet Γ yJx4a65c_init_da8c8 cJx4a65c_init_da8c8 1 ((none : Option FieldType)) 2 0 0 [.ref a] S (fun v S' => v = none ∧ S' = uP (uI S 224 a 0) 225 a (some (bE Γ))) noX := by
  refine GMet.of (loc0 := [(0, .ref a)]) F (by decide +kernel) rfl (Nat.le_of_ble_eq_true rfl) (fun X C R Tb nm => ?_)
  refine g_aload_n C dJx4a65c_init_da8c8_0 rfl rfl ?_
  refine g_callI C gy_Jxc12de_init_da8c8 tw_1_35 tw_1_36 rfl rfl (by decide) (m_ALinit0 F S a ha) rfl rfl (Nat.le_of_ble_eq_true rfl) (by omega) (by omega) dJx4a65c_init_da8c8_1 ?_
  rintro _ _ ⟨rfl, rfl⟩
  refine g_aload_n C dJx4a65c_init_da8c8_4 rfl rfl ?_
  refine g_getE0 C tw_1_42 dJx4a65c_init_da8c8_5 ?_
  refine pu_AL_elementData C tw_1_44 (by exact ha) dJx4a65c_init_da8c8_8 ?_
  refine g_vret C R (by omega) (by omega) dJx4a65c_init_da8c8_11 ?_
  exact ⟨rfl, rfl⟩
theorem m_size {Γ : GBase} (F : FB Γ) (S : PS) (a : Nat) (xs : List Nat) (hL : isL Γ S a xs) : GMet Γ yJx4a65c_size_8abf5 cJx4a65c_size_8abf5 1 ((some FieldType.int)) 0 0 0 [.ref a] S (fun v S' => v = some (.int (nI xs.length)) ∧ S = S') noX := by
  refine GMet.of (loc0 := [(0, .ref a)]) F (by decide +kernel) rfl (Nat.le_of_ble_eq_true rfl) (fun X C R Tb nm => ?_)
  refine g_aload_n C dJx4a65c_size_8abf5_0 rfl rfl ?_
  refine ge_AL_size C tw_1_45 (by exact hL.1) (by exact hL.2.1) dJx4a65c_size_8abf5_1 ?_
  refine g_iret C R rfl (by omega) (by omega) dJx4a65c_size_8abf5_4 ?_
  exact ⟨rfl, rfl⟩
theorem m_isEmpty {Γ : GBase} (F : FB Γ) (S : PS) (a : Nat) (xs : List Nat) (hL : isL Γ S a xs) : GMet Γ yJx4a65c_isEmpty_aae02 cJx4a65c_isEmpty_aae02 1 ((some FieldType.boolean)) 0 0 0 [.ref a] S (fun v S' => v = some (.int (if xs.length = 0 then 1 else 0)) ∧ S = S') noX := by
  have hlen := hL.len
  refine GMet.of (loc0 := [(0, .ref a)]) F (by decide +kernel) rfl (Nat.le_of_ble_eq_true rfl) (fun X C R Tb nm => ?_)
  refine g_aload_n C dJx4a65c_isEmpty_aae02_0 rfl rfl ?_
  refine ge_AL_size C tw_1_45 (by exact hL.1) (by exact hL.2.1) dJx4a65c_isEmpty_aae02_1 ?_
  refine g_if_ne C dJx4a65c_isEmpty_aae02_4 (tgt := 11) (by decide) (fun c => ?_) (fun c => ?_)
  · refine g_iconst C dJx4a65c_isEmpty_aae02_11 (v := 0) (by decide) ?_
    refine g_iret C R rfl (by omega) (by omega) dJx4a65c_isEmpty_aae02_12 ?_
    refine ⟨?_, rfl⟩
    have : ¬ xs.length = 0 := fun q => c (by rw [q]; rfl)
    rw [if_neg this]
  · refine g_iconst C dJx4a65c_isEmpty_aae02_7 (v := 1) (by decide) ?_
    refine g_goto C dJx4a65c_isEmpty_aae02_8 (tgt := 12) (by decide) ?_
    refine g_iret C R rfl (by omega) (by omega) dJx4a65c_isEmpty_aae02_12 ?_
    refine ⟨?_, rfl⟩
    have : xs.length = 0 := by
      rcases Nat.eq_zero_or_pos xs.length with q | q
      · exact q
      · exact absurd c (nI_ne0 q (by omega))
    rw [if_pos this]
theorem m_elementData {Γ : GBase} (F : FB Γ) (S : PS) (a : Nat) (xs : List Nat) (hL : isL Γ S a xs) (j v : Nat) (hj : xs[j]? = some v) : GMet Γ yJx4a65c_elementData_915e3 cJx4a65c_elementData_915e3 2 ((some (FieldType.object "java/lang/Object"))) 0 0 0 [.ref a, .int (nI j)] S (fun r S' => r = some (.ref v) ∧ S = S') noX := by
  have hlen := hL.len
  have hjl : j < xs.length := (List.getElem?_eq_some_iff.mp hj).1
  obtain ⟨ha, hs, E, hE, hc | ⟨c1, c2, c3, c4, c5, c6⟩⟩ := hL
  · exfalso
    rw [hc.2] at hjl
    simp at hjl
  · refine GMet.of (loc0 := [(0, .ref a), (1, .int (nI j))]) F (by decide +kernel) rfl (Nat.le_of_ble_eq_true rfl) (fun X C R Tb nm => ?_)
    refine g_aload_n C dJx4a65c_elementData_915e3_0 rfl rfl ?_
    refine ge_AL_elementData C tw_1_44 (by assumption) (by assumption) dJx4a65c_elementData_915e3_1 ?_
    refine g_iload_n C dJx4a65c_elementData_915e3_4 rfl rfl ?_
    refine g_ldQ C rfl c1 (by omega) (by omega) ((c6 j hjl).trans hj) dJx4a65c_elementData_915e3_5 ?_
    refine g_aret C R (Or.inl ⟨_, rfl⟩) (by omega) (by omega) dJx4a65c_elementData_915e3_6 ?_
    exact ⟨rfl, rfl⟩
theorem m_checkIndex0 {Γ : GBase} (F : FB Γ) (S : PS) (j m : Nat) (hj : j < m) (hm : m < 1000000) : GMet Γ yJ3_checkIndex_8e157 cJ3_checkIndex_8e157 3 ((some FieldType.int)) 0 0 0 [.int (nI j), .int (nI m), .null] S (fun r S' => r = some (.int (nI j)) ∧ S = S') noX := by
  refine GMet.of (loc0 := [(0, .int (nI j)), (1, .int (nI m)), (2, .null)]) F (by decide +kernel) rfl (Nat.le_of_ble_eq_true rfl) (fun X C R Tb nm => ?_)
  refine g_iload_n C dJ3_checkIndex_8e157_0 rfl rfl ?_
  refine g_if_lt C dJ3_checkIndex_8e157_1 (tgt := 9) (by decide) (fun c => ?_) (fun c => ?_)
  · exact absurd c (nI_pos (by omega))
  · refine g_iload_n C dJ3_checkIndex_8e157_4 rfl rfl ?_
    refine g_iload_n C dJ3_checkIndex_8e157_5 rfl rfl ?_
    refine g_icmp_lt C dJ3_checkIndex_8e157_6 (tgt := 16) (by decide) (fun c2 => ?_) (fun c2 => ?_)
    · refine g_iload_n C dJ3_checkIndex_8e157_16 rfl rfl ?_
      refine g_iret C R rfl (by omega) (by omega) dJ3_checkIndex_8e157_17 ?_
      exact ⟨rfl, rfl⟩
    · exact absurd (nI_lt hj (by omega)) c2
theorem m_checkIndex {Γ : GBase} (F : FB Γ) (S : PS) (j m : Nat) (hj : j < m) (hm : m < 1000000) : GMet Γ yJ15_checkIndex_7cf53 cJ15_checkIndex_7cf53 2 ((some FieldType.int)) 1 0 0 [.int (nI j), .int (nI m)] S (fun r S' => r = some (.int (nI j)) ∧ S = S') noX := by
  refine GMet.of (loc0 := [(0, .int (nI j)), (1, .int (nI m))]) F (by decide +kernel) rfl (Nat.le_of_ble_eq_true rfl) (fun X C R Tb nm => ?_)
  refine g_iload_n C dJ15_checkIndex_7cf53_0 rfl rfl ?_
  refine g_iload_n C dJ15_checkIndex_7cf53_1 rfl rfl ?_
  refine g_null C dJ15_checkIndex_7cf53_2 ?_
  refine g_callS C gy_J3_checkIndex_8e157 tw_1_168 tw_1_169 (by decide) (m_checkIndex0 F S j m hj hm) rfl rfl (Nat.le_of_ble_eq_true rfl) (by omega) (by omega) dJ15_checkIndex_7cf53_3 (fun _ _ h9 => h9.elim) ?_
  rintro _ _ ⟨rfl, rfl⟩
  refine g_iret C R rfl (by omega) (by omega) dJ15_checkIndex_7cf53_6 ?_
  exact ⟨rfl, rfl⟩
theorem m_get {Γ : GBase} (F : FB Γ) (S : PS) (a : Nat) (xs : List Nat) (hL : isL Γ S a xs) (j v : Nat) (hj : xs[j]? = some v) : GMet Γ yJx4a65c_get_915e3 cJx4a65c_get_915e3 2 ((some (FieldType.object "java/lang/Object"))) 2 0 0 [.ref a, .int (nI j)] S (fun r S' => r = some (.ref v) ∧ S = S') noX := by
  have hlen := hL.len
  have hjl : j < xs.length := (List.getElem?_eq_some_iff.mp hj).1
  refine GMet.of (loc0 := [(0, .ref a), (1, .int (nI j))]) F (by decide +kernel) rfl (Nat.le_of_ble_eq_true rfl) (fun X C R Tb nm => ?_)
  refine g_iload_n C dJx4a65c_get_915e3_0 rfl rfl ?_
  refine g_aload_n C dJx4a65c_get_915e3_1 rfl rfl ?_
  refine ge_AL_size C tw_1_45 (by exact hL.1) (by exact hL.2.1) dJx4a65c_get_915e3_2 ?_
  refine g_callS C gy_J15_checkIndex_7cf53 tw_1_165 tw_1_166 (by decide) (m_checkIndex F S j xs.length hjl (by omega)) rfl rfl (Nat.le_of_ble_eq_true rfl) (by omega) (by omega) dJx4a65c_get_915e3_5 (fun _ _ h9 => h9.elim) ?_
  rintro _ _ ⟨rfl, rfl⟩
  refine g_pop C dJx4a65c_get_915e3_8 rfl ?_
  refine g_aload_n C dJx4a65c_get_915e3_9 rfl rfl ?_
  refine g_iload_n C dJx4a65c_get_915e3_10 rfl rfl ?_
  refine g_callV C gy_Jx4a65c_elementData_915e3 tw_1_171 tw_1_172 tw_1_173 (by decide) (kk := 7) rfl rfl (by exact hL.1) (m_elementData F S a xs hL j v hj) rfl rfl (Nat.le_of_ble_eq_true rfl) (by omega) (by omega) dJx4a65c_get_915e3_11 (fun _ _ h9 => h9.elim) ?_
  rintro _ _ ⟨rfl, rfl⟩
  refine g_aret C R (Or.inl ⟨_, rfl⟩) (by omega) (by omega) dJx4a65c_get_915e3_14 ?_
  exact ⟨rfl, rfl⟩
