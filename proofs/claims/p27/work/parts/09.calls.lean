/-! ===== the kinds; contracts over the pool; calls, ends, throws ===== -/
theorem lay_0 : ∀ w ∈ u_ws RX0 TX0 9, w ∈ lw_tbl ∧ goodWord w = true := by decide +kernel
theorem kd_0 : KD 0 RX0 TX0 9 tyX0 := ⟨rfl, lay_0, tyX0_ok, nmX0, by decide, rfl, by intro j hj; rcases (show j = 0 ∨ j = 1 ∨ j = 2 ∨ j = 3 ∨ j = 4 ∨ j = 5 ∨ j = 6 ∨ j = 7 ∨ j = 8 by omega) with rfl | rfl | rfl | rfl | rfl | rfl | rfl | rfl | rfl <;> rfl⟩
theorem lay_1 : ∀ w ∈ u_ws RX1 TX1 7, w ∈ lw_tbl ∧ goodWord w = true := by decide +kernel
theorem kd_1 : KD 1 RX1 TX1 7 tyX1 := ⟨rfl, lay_1, tyX1_ok, nmX1, by decide, rfl, by intro j hj; rcases (show j = 0 ∨ j = 1 ∨ j = 2 ∨ j = 3 ∨ j = 4 ∨ j = 5 ∨ j = 6 by omega) with rfl | rfl | rfl | rfl | rfl | rfl | rfl <;> rfl⟩
theorem lay_2 : ∀ w ∈ u_ws RX2 TX2 3, w ∈ lw_tbl ∧ goodWord w = true := by decide +kernel
theorem kd_2 : KD 2 RX2 TX2 3 tyX2 := ⟨rfl, lay_2, tyX2_ok, nmX2, by decide, rfl, by intro j hj; rcases (show j = 0 ∨ j = 1 ∨ j = 2 by omega) with rfl | rfl | rfl <;> rfl⟩
theorem lay_3 : ∀ w ∈ u_ws RX3 TX3 8, w ∈ lw_tbl ∧ goodWord w = true := by decide +kernel
theorem kd_3 : KD 3 RX3 TX3 8 tyX3 := ⟨rfl, lay_3, tyX3_ok, nmX3, by decide, rfl, by intro j hj; rcases (show j = 0 ∨ j = 1 ∨ j = 2 ∨ j = 3 ∨ j = 4 ∨ j = 5 ∨ j = 6 ∨ j = 7 by omega) with rfl | rfl | rfl | rfl | rfl | rfl | rfl | rfl <;> rfl⟩
theorem lay_4 : ∀ w ∈ u_ws RX4 TX4 4, w ∈ lw_tbl ∧ goodWord w = true := by decide +kernel
theorem kd_4 : KD 4 RX4 TX4 4 tyX4 := ⟨rfl, lay_4, tyX4_ok, nmX4, by decide, rfl, by intro j hj; rcases (show j = 0 ∨ j = 1 ∨ j = 2 ∨ j = 3 by omega) with rfl | rfl | rfl | rfl <;> rfl⟩
theorem lay_5 : ∀ w ∈ u_ws RX5 TX5 8, w ∈ lw_tbl ∧ goodWord w = true := by decide +kernel
theorem kd_5 : KD 5 RX5 TX5 8 tyX5 := ⟨rfl, lay_5, tyX5_ok, nmX5, by decide, rfl, by intro j hj; rcases (show j = 0 ∨ j = 1 ∨ j = 2 ∨ j = 3 ∨ j = 4 ∨ j = 5 ∨ j = 6 ∨ j = 7 by omega) with rfl | rfl | rfl | rfl | rfl | rfl | rfl | rfl <;> rfl⟩
theorem lay_6 : ∀ w ∈ u_ws RX0 TX0 9, w ∈ lw_tbl ∧ goodWord w = true := by decide +kernel
theorem kd_6 : KD 6 RX0 TX0 9 tyX0 := ⟨rfl, lay_6, tyX0_ok, nmX0, by decide, rfl, by intro j hj; rcases (show j = 0 ∨ j = 1 ∨ j = 2 ∨ j = 3 ∨ j = 4 ∨ j = 5 ∨ j = 6 ∨ j = 7 ∨ j = 8 by omega) with rfl | rfl | rfl | rfl | rfl | rfl | rfl | rfl | rfl <;> rfl⟩
theorem lay_7 : ∀ w ∈ u_ws RJx4a65c TJx4a65c 3, w ∈ lw_tbl ∧ goodWord w = true := by decide +kernel
theorem kd_7 : KD 7 RJx4a65c TJx4a65c 3 tyJx4a65c := ⟨rfl, lay_7, tyJx4a65c_ok, nmJx4a65c, by decide, rfl, by intro j hj; rcases (show j = 0 ∨ j = 1 ∨ j = 2 by omega) with rfl | rfl | rfl <;> rfl⟩
/-- a contract's end: it returns v over the pool S', or throws E over S' -/
def GPost (Γ : GBase) (post : Option Value → PS → Prop) : Array Value → State → Outcome → State → Prop := fun _ st oc t => (∃ (v : Option Value) (S' : PS), oc = .returned v ∧ post v S' ∧ GU Γ S' t) ∧ va_F (AA Γ) st t
def GH (Γ : GBase) (S : PS) (H : Heap) : Prop := (bS Γ).heap.size ≤ H.size ∧ (∀ q : Nat, q < (bS Γ).heap.size → H[q]? = (bS Γ).heap[q]?) ∧ va_P (bD Γ) gcl (pw (bC Γ) S) H ∧ va_D (AA Γ) (pw (bC Γ) S)
def GPx (Γ : GBase) (px : String → PS → Prop) : String → State → State → Prop := fun E st t => (∃ S' : PS, px E S' ∧ GH Γ S' t.heap) ∧ va_F (AA Γ) st t
def noX : String → PS → Prop := fun _ _ => False
abbrev gws (y : MethodName) (cc : ByteArray) (maxL : Nat) (ret : Option FieldType) : List Cond := [Cond.code y cc maxL ret]
/-- a contract over the pool -/
def GMet (Γ : GBase) (y : MethodName) (cc : ByteArray) (maxL : Nat) (ret : Option FieldType) (lvl mc ms : Nat) (av : List Value) (S : PS) (post : Option Value → PS → Prop) (px : String → PS → Prop) : Prop :=
  vx_Met (bL Γ) y (gws y cc maxL ret) (rmv lvl mc ms) (va_Pc av (GU Γ S)) (GPost Γ post) (GPx Γ px) mc ms (AA Γ)
theorem GMet.plain {Γ : GBase} {y : MethodName} {cc : ByteArray} {maxL : Nat} {ret : Option FieldType} {lvl mc ms : Nat} {av : List Value} {S : PS} {post : Option Value → PS → Prop} (h : GMet Γ y cc maxL ret lvl mc ms av S post noX) : Met (bL Γ) y (gws y cc maxL ret) (rmv lvl mc ms) (va_Pc av (GU Γ S)) (GPost Γ post) mc ms (AA Γ) := by
  unfold Met
  refine MetFree.mono h (fun _ _ h9 => h9) (by intros; trivial) (fun a st oc t _ hq => ?_)
  rcases hq with hq | ⟨q, -, E, ce, L, ⟨⟨S', hx, -⟩, -⟩, -⟩
  · exact hq
  · exact hx.elim
theorem GMet.weak {Γ : GBase} {y : MethodName} {cc : ByteArray} {maxL : Nat} {ret : Option FieldType} {lvl mc ms : Nat} {av : List Value} {S : PS} {post post' : Option Value → PS → Prop} {px px' : String → PS → Prop} (h : GMet Γ y cc maxL ret lvl mc ms av S post px) (h1 : ∀ v S', post v S' → post' v S') (h2 : ∀ E S', px E S' → px' E S') : GMet Γ y cc maxL ret lvl mc ms av S post' px' := by
  unfold GMet vx_Met at h ⊢
  refine MetFree.mono h (fun _ _ h9 => h9) (by intros; trivial) (fun a st oc t _ hq => ?_)
  rcases hq with ⟨⟨⟨v, S', e1, e2, e3⟩, e4⟩, e5⟩ | ⟨q, e0, E, ce, L, ⟨⟨S', hx, e1⟩, e2⟩, e3⟩
  · exact Or.inl ⟨⟨⟨v, S', e1, h1 _ _ e2, e3⟩, e4⟩, e5⟩
  · exact Or.inr ⟨q, e0, E, ce, L, ⟨⟨S', h2 _ _ hx, e1⟩, e2⟩, e3⟩
theorem GU_blind {Γ : GBase} {S : PS} {av : List Value} : FrameBlind (va_Pc av (GU Γ S)) := fun _ _ _ _ h => h
/-- what a body's end is told -/
def GRet (Γ : GBase) (X : Cx) (ret : Option FieldType) (mc ms : Nat) (post : Option Value → PS → Prop) (px : String → PS → Prop) : Prop :=
  X.2.2.2.2.2.2.2.2.2 = vx_MQ X.2.2.2.2.2.2.1 (GPost Γ post) (GPx Γ px) X.2.2.2.2.2.1 X.2.2.2.1 mc ms (AA Γ) ∧ X.2.2.2.2.2.2.2.1.sig.returnType = ret
theorem GMet.of {Γ : GBase} {y : MethodName} {cc : ByteArray} {maxL : Nat} {ret : Option FieldType} {lvl mc ms : Nat} {av : List Value} {S : PS} {post : Option Value → PS → Prop} {px : String → PS → Prop} {loc0 : List (Nat × Value)} (F : FB Γ) (hy : plainName y.cls = true) (h0 : lv_args 0 av = loc0) (hn : (lg_sl av).length ≤ maxL)
    (body : ∀ X : Cx, GC Γ X cc maxL y.cls lvl mc ms → GRet Γ X ret mc ms post px → (∀ x ∈ X.2.2.2.2.2.2.2.2.1.exceptionTable.toList, False) → X.2.2.2.2.2.2.2.1.name = y.name → GW Γ X S 0 0 0 loc0 []) : GMet Γ y cc maxL ret lvl mc ms av S post px := by
  refine vx_ofW (cc := cc) (maxL := maxL) (ret := ret) hy rfl ?_
  intro p e s m args below meth c s₁ B hml htab hv
  obtain ⟨rfl, hW, hN, hq, hP, hD⟩ := hv
  have hown : s.vm.findClass y.cls = some m.cls := findClass_of_methodNamed B.named
  have K := body (p, e, (headSpec (gws y cc maxL ret) (rmv lvl mc ms)).room, s, m, av.toArray, below, meth, c, vx_MQ below (GPost Γ post) (GPx Γ px) av.toArray s mc ms (AA Γ)) ⟨B.exec, B.bytes, hml, hown, hW, hN, hq, F, B.notSynchronized, Nat.le_refl _, Nat.le_refl _, rfl, rfl⟩ ⟨rfl, B.returns⟩ htab (name_of_methodNamed B.named B.method).1
  rw [lg_entry_eq]
  subst h0
  have hl := lh_entry av hn
  rw [← hml] at hl
  rw [← hml]
  exact K s.heap [] _ hP hD va_S.rf hl
theorem g_loc {a b m : Nat} (h : a < b) (h5 : m ≤ 21) : 8 + (m + 11) + (40 * a + 138) ≤ (40 * b + 138) := by omega
section GEnds
variable {Γ : GBase} {X : Cx} {cc : ByteArray} {nL : Nat} {own : String} {lvl mc ms : Nat} {S : PS} {k n pc : Nat} {loc : List (Nat × Value)} {st : List Value} {ret : Option FieldType} {post : Option Value → PS → Prop} {px : String → PS → Prop}
theorem GU_end (C : GC Γ X cc nL own lvl mc ms) {H : Heap} {locs : List Loc} (hP : va_P (bD Γ) gcl (pw (bC Γ) S) H) (hD : va_D (AA Γ) (pw (bC Γ) S)) (hS : va_S (AA Γ) X.2.2.2.1.heap H locs) {t : State} (ht : t.heap = H) (hW : X.2.2.2.1.WarmedH t.vm) : GU Γ S t := by
  refine ⟨C.hW.trans hW, by rw [ht]; exact Nat.le_trans C.hN hS.1, fun q h => ?_, by rw [ht]; exact hP, hD⟩
  rw [ht, hS.2.1 q (Nat.lt_of_lt_of_le h C.hN) (fun z => by unfold AA at z; omega)]
  exact C.hq q h
theorem GH_end (C : GC Γ X cc nL own lvl mc ms) {H : Heap} {locs : List Loc} (hP : va_P (bD Γ) gcl (pw (bC Γ) S) H) (hD : va_D (AA Γ) (pw (bC Γ) S)) (hS : va_S (AA Γ) X.2.2.2.1.heap H locs) {H' : Heap} (ht : H' = H) : GH Γ S H' := by
  subst ht
  refine ⟨Nat.le_trans C.hN hS.1, fun q h => ?_, hP, hD⟩
  rw [hS.2.1 q (Nat.lt_of_lt_of_le h C.hN) (fun z => by unfold AA at z; omega)]
  exact C.hq q h
theorem g_ghost (S' : PS) (h1 : pL S' = pL S) (h2 : ∀ cy, PFo cy S' = PFo cy S) (q : GW Γ X S' k n pc loc st) : GW Γ X S k n pc loc st := fun H locs ls hP hD hS hl => by
  have e : pw (bC Γ) S' = pw (bC Γ) S := by unfold pw; rw [h1, h2]
  refine q H locs ls ?_ ?_ hS hl
  · rw [e]; exact hP
  · rw [e]; exact hD
theorem g_iret (C : GC Γ X cc nL own lvl mc ms) {ty : FieldType} (R : GRet Γ X (some ty) mc ms post px) {v : Int32} (hn : narrow ty (.int v) = .int v) (hk : k ≤ mc) (hms : n ≤ ms) (d : decode cc pc = .ok (.ireturn, 1)) (hp : post (some (.int v)) S) : GW Γ X S k n pc loc [.int v] := fun H locs ls hP hD hS hl => by
  rw [R.1]
  exact W.widen hk hms (vx_ret (W.zret C.hx C.hb R.2 hn (fun t ht hW => ⟨⟨_, S, rfl, hp, GU_end C hP hD hS ht hW⟩, hS.F ht⟩) hS.2.2 d C.locks))
theorem g_vret (C : GC Γ X cc nL own lvl mc ms) (R : GRet Γ X none mc ms post px) (hk : k ≤ mc) (hms : n ≤ ms) (d : decode cc pc = .ok (.return_, 1)) (hp : post none S) : GW Γ X S k n pc loc [] := fun H locs ls hP hD hS hl => by
  rw [R.1]
  exact W.widen hk hms (vx_ret (W.vret C.hx C.hb R.2 (fun t ht hW => ⟨⟨_, S, rfl, hp, GU_end C hP hD hS ht hW⟩, hS.F ht⟩) hS.2.2 d C.locks))
theorem g_lret (C : GC Γ X cc nL own lvl mc ms) (R : GRet Γ X (some .long) mc ms post px) {v : Int64} (hk : k ≤ mc) (hms : n ≤ ms) (d : decode cc pc = .ok (.lreturn, 1)) (hp : post (some (.long v)) S) : GW Γ X S k n pc loc [.long v] := fun H locs ls hP hD hS hl => by
  rw [R.1]
  exact W.widen hk hms (vx_ret (W.lret C.hx C.hb R.2 (fun t ht hW => ⟨⟨_, S, rfl, hp, GU_end C hP hD hS ht hW⟩, hS.F ht⟩) hS.2.2 d C.locks))
theorem g_dret (C : GC Γ X cc nL own lvl mc ms) (R : GRet Γ X (some .double) mc ms post px) {v : UInt64} (hk : k ≤ mc) (hms : n ≤ ms) (d : decode cc pc = .ok (.dreturn, 1)) (hp : post (some (.double v)) S) : GW Γ X S k n pc loc [.double v] := fun H locs ls hP hD hS hl => by
  rw [R.1]
  exact W.widen hk hms (vx_ret (W.dret C.hx C.hb R.2 (fun t ht hW => ⟨⟨_, S, rfl, hp, GU_end C hP hD hS ht hW⟩, hS.F ht⟩) hS.2.2 d C.locks))
theorem g_aret (C : GC Γ X cc nL own lvl mc ms) {ty : FieldType} (R : GRet Γ X (some ty) mc ms post px) (hty : (∃ n, ty = .object n) ∨ ∃ t, ty = .array t) {v : Nat} (hk : k ≤ mc) (hms : n ≤ ms) (d : decode cc pc = .ok (.areturn, 1)) (hp : post (some (.ref v)) S) : GW Γ X S k n pc loc [.ref v] := fun H locs ls hP hD hS hl => by
  rw [R.1]
  exact W.widen hk hms (vx_ret (W.aret C.hx C.hb R.2 hty (Or.inr ⟨v, rfl⟩) (fun t ht hW => ⟨⟨_, S, rfl, hp, GU_end C hP hD hS ht hW⟩, hS.F ht⟩) hS.2.2 d C.locks))
/-- E was thrown to the frame at pc -/
def GX (Γ : GBase) (X : Cx) (S : PS) (k n pc : Nat) (loc : List (Nat × Value)) (E : String) : Prop :=
  ∀ (H : Heap) (locs : List Loc) (ls : Array Slot) (ce : Cell) (q : Addr) (st : List Value), va_P (bD Γ) gcl (pw (bC Γ) S) H → va_D (AA Γ) (pw (bC Γ) S) → va_S (AA Γ) X.2.2.2.1.heap H locs → lh ls X.2.2.2.2.2.2.2.2.1.maxLocals loc → H[q]? = some ce → ce.vm = .none → X.2.2.2.1.vm.findClass E = some ce.cls →
    vx_W X.1 (bL Γ) X.2.1 X.2.2.1 X.2.2.2.1 X.2.2.2.2.1 X.2.2.2.2.2.1 X.2.2.2.2.2.2.1 X.2.2.2.2.2.2.2.1 X.2.2.2.2.2.2.2.2.1 H locs k n X.2.2.2.2.2.2.2.2.2 (F0 X.2.2.2.2.1 pc ls st) q
theorem g_out (C : GC Γ X cc nL own lvl mc ms) (R : GRet Γ X ret mc ms post px) (Tb : ∀ x ∈ X.2.2.2.2.2.2.2.2.1.exceptionTable.toList, False) {E : String} (hk : k ≤ mc) (hms : n ≤ ms) (hp : px E S) : GX Γ X S k n pc loc E := fun H locs ls ce q st hP hD hS hl h1 h2 h3 => by
  rw [R.1]
  refine vx_out (fun x hx => (Tb x hx).elim) C.locks h1 h2 h3 (fun t ht hA => ?_) hS.2.2 hk hms
  exact ⟨⟨S, hp, GH_end C hP hD hS ht⟩, hS.F ht⟩
/-- facts of a method that callers want -/
def GY (y : MethodName) (cc : ByteArray) (maxL : Nat) (ret : Option FieldType) (np : Nat) : Prop := Cond.code y cc maxL ret ∈ lw_tbl ∧ Cond.initialized y.cls ∈ lw_tbl ∧ (y.cls ≠ "java/lang/invoke/MethodHandle" ∧ y.cls ≠ "java/lang/invoke/VarHandle") ∧ (parseMethodDescriptor y.desc).map (fun d => d.parameters.length) = some np ∧ maxL ≤ 21
variable {y : MethodName} {cy : ByteArray} {maxL np lvl' mc' ms' index : Nat} {rety : Option FieldType} {As : List Value} {b : Nat} {posty : Option Value → PS → Prop} {pxy : String → PS → Prop}
theorem g_cb (C : GC Γ X cc nL own lvl mc ms) (hy : GY y cy maxL rety np) (w : Cond.methodLink own index y ∈ lw_tbl) (hlv : lvl' < lvl) : CallB X.2.2.1 X.2.2.2.1 X.2.2.2.2.2.1 own index y cy maxL rety (gws y cy maxL rety) (rmv lvl' mc' ms') mc' ms' np := by
  obtain ⟨h1, h2, h3, h4, h5⟩ := hy
  refine ⟨rfl, rfl, ?_, ?_, ?_, List.mem_cons_self, C.tw h1 rfl, C.tw h2 rfl, h3, fun sig h => ?_, C.tw w rfl⟩
  · have := C.rf
    show (lvl' + 1) + 1 ≤ _
    omega
  · refine Nat.le_trans ?_ C.rl
    show 8 + (maxL + 11) + (40 * lvl' + 138) ≤ (40 * lvl + 138)
    exact g_loc hlv h5
  · intro w' hw' a' U hU
    rw [List.mem_singleton.mp hw']
    exact word_at hU (Or.inl rfl) (C.tw h1 rfl)
  · rw [h] at h4
    exact (Option.some.inj h4).symm
theorem g_fin (C : GC Γ X cc nL own lvl mc ms) {H : Heap} {locs : List Loc} (hP : va_P (bD Γ) gcl (pw (bC Γ) S) H) (hD : va_D (AA Γ) (pw (bC Γ) S)) (hS : va_S (AA Γ) X.2.2.2.1.heap H locs) {av : List Value} : ∀ U : State, U.heap = H → X.2.2.2.1.WarmedH U.vm → va_Pc av (GU Γ S) av.toArray U := fun U hU hW => ⟨rfl, GU_end C hP hD hS hU hW⟩
theorem g_keep {H : Heap} {locs L : List Loc} {H0 : Heap} {T' t st₀ : State} (hS : va_S (AA Γ) H0 H locs) (h0 : st₀.heap = H) (e1 : T'.heap = t.heap) (hL : ∀ q ∈ L, AA Γ q.base) (hF : va_F (AA Γ) st₀ t) : va_S (AA Γ) H0 T'.heap (locs ++ L) := by
  obtain ⟨hz, hk⟩ := hF
  rw [h0] at hz hk
  refine ⟨by rw [e1]; exact Nat.le_trans hS.1 hz, fun q h1 h2 => ?_, fun q hq => ?_⟩
  · rw [e1, hk q (Nat.lt_of_lt_of_le h1 hS.1) h2]
    exact hS.2.1 q h1 h2
  · rcases List.mem_append.mp hq with h | h
    · exact hS.2.2 q h
    · exact hL q h
end GEnds

