/-! ===== throws ===== -/
def okW (w : Cond) : Bool := goodWord w || (match w with | .castable .. => true | .declares .. => true | _ => false)
theorem noTr {Γ : GBase} (F : FB Γ) : (bL Γ).stackTraces = false := by
  unfold Launch.stackTraces
  rw [F.2.2.1]
  decide +kernel
theorem st_U {Γ : GBase} (F : FB Γ) : vx_Zq Bundle.tN "UNASSIGNED_STACK" Bundle.steD (AA Γ) (bS Γ) (bS Γ).heap :=
  vx_Zqof (F.1 _ tw_1_120) (F.1 _ tw_1_5) (flat_of_before _ F.2.2.2.1 _ (by decide +kernel)) (fun a h z => by unfold AA at z; omega)
theorem st_N {Γ : GBase} (F : FB Γ) : vx_Zq Bundle.tN "SUPPRESSED_SENTINEL" Bundle.listD (AA Γ) (bS Γ) (bS Γ).heap :=
  vx_Zqof (F.1 _ tw_1_122) (F.1 _ tw_1_5) (flat_of_before _ F.2.2.2.1 _ (by decide +kernel)) (fun a h z => by unfold AA at z; omega)
section GThrow
variable {Γ : GBase} {X : Cx} {cc : ByteArray} {nL : Nat} {own : String} {lvl mc ms : Nat} {S : PS} {k n pc : Nat} {loc : List (Nat × Value)} {st : List Value} {ret : Option FieldType} {post : Option Value → PS → Prop} {px : String → PS → Prop}
theorem GC.tw2 (C : GC Γ X cc nL own lvl mc ms) {w : Cond} (h : w ∈ lw_tbl) (g : okW w = true) : w.before X.2.2.2.2.2.1 X.2.2.2.1 = true := by
  simp only [okW, Bool.or_eq_true] at g
  rcases g with g | g
  · exact C.tw h g
  · have hb := C.F.1 w h
    cases w <;> first | exact Bool.noConfusion (show false = true from g) | exact va_Nw.use rfl (va_Nw.warmC C.hW (va_Nw.of rfl hb)) | exact va_Nw.use rfl (va_Nw.warmD C.hW (va_Nw.of rfl hb))
theorem kept_pool {D : va_G} {cy : Nat → ClassId} {H H1 : Heap} (hP : va_P D gcl (pw cy S) H) (hk : ∀ q : Nat, q < H.size → H1[q]? = H[q]?) : va_P D gcl (pw cy S) H1 := hP.kept (fun i x hx => hk x.1 ((hP i x hx).lt))
theorem g_throwx (C : GC Γ X cc nL own lvl mc ms) {H : Heap} {locs : List Loc} (hP : va_P (bD Γ) gcl (pw (bC Γ) S) H) (hD : va_D (AA Γ) (pw (bC Γ) S)) (hS : va_S (AA Γ) X.2.2.2.1.heap H locs) {E : String} (hp : px E S) : ∀ t : State, X.2.2.2.1.vm.Alike t.vm → H.size ≤ t.heap.size → (∀ q : Nat, q < H.size → t.heap[q]? = H[q]?) → GPx Γ px E X.2.2.2.1 t := by
  intro t hA hz hq
  refine ⟨⟨S, hp, Nat.le_trans C.hN (Nat.le_trans hS.1 hz), fun q h => ?_, kept_pool hP hq, hD⟩, Nat.le_trans hS.1 hz, fun q h1 h2 => ?_⟩
  · rw [hq q (Nat.lt_of_lt_of_le h (Nat.le_trans C.hN hS.1)), hS.2.1 q (Nat.lt_of_lt_of_le h C.hN) (fun z => by unfold AA at z; omega)]
    exact C.hq q h
  · rw [hq q (Nat.lt_of_lt_of_le h1 hS.1)]
    exact hS.2.1 q h1 h2
/-- what a throw of ours stands on: class, text, places in the pool -/
def TX (own cls : String) (ik ic : Nat) : Prop := Bundle.fit cls = true ∧ Cond.classLink own ik cls ∈ lw_tbl ∧ Cond.initialized cls ∈ lw_tbl ∧ (∀ w ∈ vx_atS own ic cls ["java/lang/RuntimeException", "java/lang/Exception"], w ∈ lw_tbl ∧ okW w = true ∧ vx_ot w = true)
theorem vkR_base {Γ : GBase} (F : FB Γ) {tx : String} {is kk : Nat} {r : vw_C} (hr : gcl[kk]? = some r) (w : Cond.stringRef r.1 is tx ∈ lw_tbl) : ∃ sa, vk_R r.1 is tx sa (bS Γ) := by
  obtain ⟨_, _, _, a, _, _, _, _, _, h⟩ := Cond.stringRef_spec (F.2.1.1 kk r hr).2.1 (F.1 _ w)
  exact ⟨a, vk_R.of (F.1 _ w) h⟩
theorem g_throwS (C : GC Γ X cc nL own lvl mc ms) (R : GRet Γ X ret mc ms post px) (Tb : ∀ x ∈ X.2.2.2.2.2.2.2.2.1.exceptionTable.toList, False) {cls tx : String} {ik is ic kk : Nat} {r : vw_C} (hr : gcl[kk]? = some r) (ho : r.1 = own) (t : TX own cls ik ic) (w : Cond.stringRef own is tx ∈ lw_tbl)
    (d0 : decode cc pc = .ok (.new ik, 3)) (d3 : decode cc (pc + 3) = .ok (.dup, 1)) (d4 : decode cc (pc + 4) = .ok (.ldc is, 2)) (d6 : decode cc (pc + 6) = .ok (.invokespecial ic, 3)) (d9 : decode cc (pc + 9) = .ok (.athrow, 1)) (h5 : 5 ≤ lvl) (hst : (st.map fun v => v.category).sum ≤ 200) (hk : k + 1 ≤ mc) (hn : n + 6 ≤ ms) (hp : px cls S) : GW Γ X S k n pc loc st := fun H locs ls hP hD hS hl => by
  subst ho
  obtain ⟨sa, hsa⟩ := vkR_base C.F hr w
  rw [R.1]
  obtain ⟨t1, t2, t3, t4⟩ := t
  refine vx_throwS C.hx C.hb (noTr C.F) C.hown t1 (names := ["java/lang/RuntimeException", "java/lang/Exception"]) (by decide) (C.tw t2 rfl) (C.tw t3 rfl) (vk_R.warm C.hW hsa) (fun w' h' => C.tw2 (t4 w' h').1 (t4 w' h').2.1) (fun w' h' => ?_) (vx_Zq.moved C.hW.alike (vx_Zq.kept (st_U C.F) (fun q h _ => C.hq q h))) (vx_Zq.moved C.hW.alike (vx_Zq.kept (st_N C.F) (fun q h _ => C.hq q h))) hS hl.1 d0 d3 d4 d6 d9 (fun x hx => (Tb x hx).elim) ?_ ?_ ?_ ?_ C.locks (g_throwx C hP hD hS hp) hS.2.2 hk hn
  · rcases List.mem_cons.mp h' with rfl | h'
    · rfl
    · rcases List.mem_cons.mp h' with rfl | h'
      · rfl
      · exact (t4 w' h').2.2
  · have := C.rf; show 2 + 3 < _; omega
  · have := C.rl; show _ + (13 * (2 + 1) + 43) ≤ _; omega
  · rw [C.rc]; exact hk
  · rw [C.rs]; exact hn
theorem g_throwSW (C : GC Γ X cc nL own lvl mc ms) (R : GRet Γ X ret mc ms post px) (Tb : ∀ x ∈ X.2.2.2.2.2.2.2.2.1.exceptionTable.toList, False) {cls tx : String} {ik is ic kk : Nat} {r : vw_C} (hr : gcl[kk]? = some r) (ho : r.1 = own) (t : TX own cls ik ic) (w : Cond.stringRef own is tx ∈ lw_tbl)
    (d0 : decode cc pc = .ok (.new ik, 3)) (d3 : decode cc (pc + 3) = .ok (.dup, 1)) (d4 : decode cc (pc + 4) = .ok (.ldc_w is, 3)) (d6 : decode cc (pc + 7) = .ok (.invokespecial ic, 3)) (d9 : decode cc (pc + 10) = .ok (.athrow, 1)) (h5 : 5 ≤ lvl) (hst : (st.map fun v => v.category).sum ≤ 200) (hk : k + 1 ≤ mc) (hn : n + 6 ≤ ms) (hp : px cls S) : GW Γ X S k n pc loc st := fun H locs ls hP hD hS hl => by
  subst ho
  obtain ⟨sa, hsa⟩ := vkR_base C.F hr w
  rw [R.1]
  obtain ⟨t1, t2, t3, t4⟩ := t
  refine vx_throwSW C.hx C.hb (noTr C.F) C.hown t1 (names := ["java/lang/RuntimeException", "java/lang/Exception"]) (by decide) (C.tw t2 rfl) (C.tw t3 rfl) (vk_R.warm C.hW hsa) (fun w' h' => C.tw2 (t4 w' h').1 (t4 w' h').2.1) (fun w' h' => ?_) (vx_Zq.moved C.hW.alike (vx_Zq.kept (st_U C.F) (fun q h _ => C.hq q h))) (vx_Zq.moved C.hW.alike (vx_Zq.kept (st_N C.F) (fun q h _ => C.hq q h))) hS hl.1 d0 d3 d4 d6 d9 (fun x hx => (Tb x hx).elim) ?_ ?_ ?_ ?_ C.locks (g_throwx C hP hD hS hp) hS.2.2 hk hn
  · rcases List.mem_cons.mp h' with rfl | h'
    · rfl
    · rcases List.mem_cons.mp h' with rfl | h'
      · rfl
      · exact (t4 w' h').2.2
  · have := C.rf; show 2 + 3 < _; omega
  · have := C.rl; show _ + (13 * (2 + 1) + 43) ≤ _; omega
  · rw [C.rc]; exact hk
  · rw [C.rs]; exact hn
/-- System.arraycopy between two rows of references to objects of one kind -/
theorem g_copyQ (C : GC Γ X cc nL own lvl mc ms) {index a0 a1 sp dp m kv : Nat} {x y z : Int32} (w : Cond.methodLink own index arraycopyName ∈ lw_tbl) (hx : x = nI sp) (hy : y = nI dp) (hz : z = nI m) (ha0 : al S a0 12) (ha1 : al S a1 12) (h4 : sp + m ≤ pN S a0) (h5 : dp + m ≤ pN S a1) (h6 : pN S a0 < 1000000 ∧ pN S a1 < 1000000) (h8 : kv < 8) (hel : ∀ i : Nat, i < m → ∀ v : Nat, pRP S a0 (sp + i) = some v → al S v kv) (hst : (st.map fun v => v.category).sum ≤ 20) (d : decode cc pc = .ok (.invokestatic index, 3)) (q : GW Γ X (uRP S a1 (va_cpy (pRP S a0) (pRP S a1) sp dp m)) k n (pc + 3) loc st) : GW Γ X S k n pc loc (.int z :: .int y :: .ref a1 :: .int x :: .ref a0 :: st) := fun H locs ls hP hD hS hl => by
  subst hx; subst hy; subst hz
  obtain ⟨q0, hq0⟩ := pw_get (bC Γ) ha0.1
  obtain ⟨q1, hq1'⟩ := pw_get (bC Γ) ha1.1
  have hq1 := hq1'
  rw [PFo_Q (bC Γ) ha0] at hq0
  rw [PFo_Q (bC Γ) ha1] at hq1
  obtain ⟨r, hr⟩ := gcl_of h8
  have c1 : (nI sp).toNatClampNeg = sp := nI_clamp (by omega)
  have c2 : (nI dp).toNatClampNeg = dp := nI_clamp (by omega)
  have c3 : (nI m).toNatClampNeg = m := nI_clamp (by omega)
  refine va_copyq (C := r.1) (E0 := "java/lang/Object") (E1 := "java/lang/Object") C.hx C.hb hl.1.symm C.hown (C.tw w rfl) (C.tw tw_2_51 rfl) (C.tw tw_2_50 rfl) (C.tw tw_1_14 rfl) C.hK hP hD hS q0 q1 4 4 hq0 hq1 rfl rfl (nI_pos (by omega)) (nI_pos (by omega)) (nI_pos (by omega)) (by rw [c1, c3]; exact h4) (by rw [c2, c3]; exact h5) (fun i hi v hv => ?_) (vb_asgC (va_Nw.warmC C.hW (cast_obj C.F hr))) (by have := C.rf; omega) ?_ d (fun H1 locs1 hP1 hD1 hS1 => ?_)
  · rw [c3] at hi
    rw [c1] at hv
    exact g_recv C hP (hel i hi v hv) hr
  · have e : nativeFrameWords "java/lang/System" "arraycopy" 5 + 11 ≤ 100 := by decide
    have := C.rl
    omega
  · rw [c1, c2, c3] at hP1 hD1
    have e : ∀ r, (pw (bC Γ) S).set q1 (a1, .inl (bC Γ 4, (pN S a1, .inr (.inr (.inr (.inr r)))))) = pw (bC Γ) (uRP S a1 r) := fun r => by
      rw [pw_set hD ha1.1 hq1']
      exact va_pl_congr (PFo_uRP (bC Γ) S ha1.2 r)
    rw [e] at hP1 hD1
    exact q H1 locs1 ls hP1 hD1 hS1 hl
end GThrow
theorem tx_IAE : TX "CueBook" "java/lang/IllegalArgumentException" 39 43 := ⟨by decide +kernel, tw_1_179, tw_1_8, by decide +kernel⟩
theorem tx_ISE : TX "CueBook" "java/lang/IllegalStateException" 52 56 := ⟨by decide +kernel, tw_2_127, tw_1_9, by decide +kernel⟩
theorem tx_IOB : TX "CueBook" "java/lang/IndexOutOfBoundsException" 121 125 := ⟨by decide +kernel, tw_1_93, tw_1_16, by decide +kernel⟩

