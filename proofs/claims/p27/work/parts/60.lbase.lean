/-! ===== the law's own methods: bodies with handlers; calls of them; the script ===== -/
def GMetH (Γ : GBase) (y : MethodName) (cc : ByteArray) (maxL : Nat) (ret : Option FieldType) (hh : List (Nat × Nat × Nat × Nat)) (lvl mc ms : Nat) (av : List Value) (S : PS) (post : Option Value → PS → Prop) : Prop :=
  vx_Met (bL Γ) y [Cond.codeWith y cc maxL ret hh] (rmv lvl mc ms) (va_Pc av (GU Γ S)) (GPost Γ post) (GPx Γ noX) mc ms (AA Γ)
theorem GMetH.of {Γ : GBase} {y : MethodName} {cc : ByteArray} {maxL : Nat} {ret : Option FieldType} {hh : List (Nat × Nat × Nat × Nat)} {lvl mc ms : Nat} {av : List Value} {S : PS} {post : Option Value → PS → Prop} {loc0 : List (Nat × Value)} (F : FB Γ) (hy : plainName y.cls = true) (h0 : lv_args 0 av = loc0) (hn : (lg_sl av).length ≤ maxL)
    (body : ∀ X : Cx, GC Γ X cc maxL y.cls lvl mc ms → GRet Γ X ret mc ms post noX → X.2.2.2.2.2.2.2.2.1.exceptionTable.toList = tableOf hh → GW Γ X S 0 0 0 loc0 []) : GMetH Γ y cc maxL ret hh lvl mc ms av S post := by
  refine vx_ofWH (cc := cc) (maxL := maxL) (ret := ret) (hh := hh) hy rfl ?_
  intro p e s m args below meth c s₁ B hml hv
  have htab := vx_table (x := y) B (atoms_spec (ws := [Cond.codeWith y cc maxL ret hh]) B.pre _ List.mem_cons_self)
  obtain ⟨rfl, hW, hN, hq, hP, hD⟩ := hv
  have hown : s.vm.findClass y.cls = some m.cls := findClass_of_methodNamed B.named
  have K := body (p, e, (headSpec [Cond.codeWith y cc maxL ret hh] (rmv lvl mc ms)).room, s, m, av.toArray, below, meth, c, vx_MQ below (GPost Γ post) (GPx Γ noX) av.toArray s mc ms (AA Γ)) ⟨B.exec, B.bytes, hml, hown, hW, hN, hq, F, B.notSynchronized, Nat.le_refl _, Nat.le_refl _, rfl, rfl⟩ ⟨rfl, B.returns⟩ htab
  rw [lg_entry_eq]
  subst h0
  have hl := lh_entry av hn
  rw [← hml] at hl
  rw [← hml]
  exact K s.heap [] _ hP hD va_S.rf hl
/-- what callers want of a method with handlers -/
def GYH (y : MethodName) (cc : ByteArray) (maxL : Nat) (ret : Option FieldType) (hh : List (Nat × Nat × Nat × Nat)) (np : Nat) : Prop := Cond.codeWith y cc maxL ret hh ∈ lw_tbl ∧ Cond.initialized y.cls ∈ lw_tbl ∧ (y.cls ≠ "java/lang/invoke/MethodHandle" ∧ y.cls ≠ "java/lang/invoke/VarHandle") ∧ (parseMethodDescriptor y.desc).map (fun d => d.parameters.length) = some np ∧ maxL ≤ 21
section GLaw
variable {Γ : GBase} {X : Cx} {cc : ByteArray} {nL : Nat} {own : String} {lvl mc ms : Nat} {S : PS} {k n pc : Nat} {loc : List (Nat × Value)} {st st0 : List Value}
variable {y : MethodName} {cy : ByteArray} {maxL np lvl' mc' ms' index : Nat} {rety : Option FieldType} {As : List Value} {posty : Option Value → PS → Prop} {hh : List (Nat × Nat × Nat × Nat)}
theorem g_cbH (C : GC Γ X cc nL own lvl mc ms) (hy : GYH y cy maxL rety hh np) (w : Cond.methodLink own index y ∈ lw_tbl) (w2 : Cond.static y ∈ lw_tbl) (hlv : lvl' < lvl) : vx_CSW X.2.2.1 X.2.2.2.1 X.2.2.2.2.2.1 own index y cy maxL rety hh [Cond.codeWith y cy maxL rety hh] (rmv lvl' mc' ms') mc' ms' np := by
  obtain ⟨h1, h2, h3, h4, h5⟩ := hy
  refine ⟨⟨rfl, rfl, ?_, ?_, ?_, List.mem_cons_self⟩, C.tw h1 rfl, C.tw h2 rfl, h3, fun sig h => ?_, C.tw w rfl, C.tw w2 rfl⟩
  · have := C.rf
    show (lvl' + 1) + 1 ≤ _
    omega
  · refine Nat.le_trans ?_ C.rl
    show 8 + (maxL + 11) + (40 * lvl' + 138) ≤ (40 * lvl + 138)
    exact g_loc hlv h5
  · intro w' hw' a' U hU
    rw [List.mem_singleton.mp hw']
    exact word_at hU (Or.inl rfl) (C.tw h1 rfl)
  · rw [h] at h4
    exact (Option.some.inj h4).symm
theorem g_callSH (C : GC Γ X cc nL own lvl mc ms) (hy : GYH y cy maxL rety hh np) (w : Cond.methodLink own index y ∈ lw_tbl) (w2 : Cond.static y ∈ lw_tbl) (hlv : lvl' < lvl) (hM : GMetH Γ y cy maxL rety hh lvl' mc' ms' As S posty) (hAs : As.length = np) (hst : st0 = As.reverse ++ st) (hcat : (st.map fun v => v.category).sum ≤ 8) (hk : k + mc' ≤ mc) (hn : n + ms' ≤ ms) (d : decode cc pc = .ok (.invokestatic index, 3))
    (q : ∀ (v : Option Value) (S' : PS), posty v S' → GW Γ X S' (k + mc') (n + ms') (pc + 3) loc (v.toList ++ st)) : GW Γ X S k n pc loc st0 := fun H locs ls hP hD hS hl => by
  subst hst
  intro T hT X0
  rcases vx_runSX (rest := st) (As := As) (g := F0 X.2.2.2.2.1 pc ls _) (Ts := []) ⟨C.hx, C.hb, C.hml, C.hown, fun _ h => nomatch h⟩ hM (g_cbH C hy w w2 hlv) ⟨GU_blind, g_fin C hP hD hS⟩ rfl hAs (hl.1.trans C.hml) rfl (lv_room hcat) d ⟨by rw [C.rc]; exact hk, by rw [C.rs]; exact hn⟩ T hT X0 with ⟨v, st₀, t, T', L, h0, X', hL, e1, e2, ⟨⟨v', S', hv, hpost, hU⟩, hF⟩, go⟩ | ⟨q9, st₀, t, T', L, E, ce, h0, X', hL, e1, e2, ⟨⟨S', hpx, hH⟩, hF⟩, hce, hcv, hcl, go⟩
  · cases hv
    have hS' := g_keep (H0 := X.2.2.2.1.heap) hS h0 e1 hL hF
    obtain ⟨-, -, -, hP', hD'⟩ := hU
    rw [← e1] at hP'
    obtain ⟨t2, a1, b1⟩ := q v S' hpost T'.heap (locs ++ L) ls hP' hD' hS' hl T' rfl X'
    exact ⟨t2, go t2 a1, b1⟩
  · exact hpx.elim
/-- caught: by the row (f, t, h, ct) of the table; the rows ahead name other classes -/
theorem g_catch (C : GC Γ X cc nL own lvl mc ms) {pre suf : List (Nat × Nat × Nat × Nat)} {f t h ct : Nat} {E : String} (Tb : X.2.2.2.2.2.2.2.2.1.exceptionTable.toList = tableOf (pre ++ (f, t, h, ct) :: suf)) (hpass : ∀ z ∈ pre, z.2.2.2 ≠ 0 ∧ ∃ nm, Cond.classLink own z.2.2.2 nm ∈ lw_tbl ∧ va_Nc E nm (bS Γ)) (hx : f ≤ pc ∧ pc < t) (h0 : ct ≠ 0) (hl : Cond.classLink own ct E ∈ lw_tbl) (hc : Cond.castable E E ∈ lw_tbl) (kk : ∀ q : Nat, GW Γ X S k n h loc [.ref q]) : GX Γ X S k n pc loc E := fun H locs ls ce q st hP hD hS hl2 h1 h2 h3 => by
  refine vx_catch (own := own) (name := E) (E := E) C.hown (tableOf pre) ⟨f, t, h, ct⟩ (tableOf suf) ?_ (fun z hz => ?_) ?_ h0 (C.tw hl rfl) (C.tw2 hc rfl) h1 h2 h3 (kk q H locs ls hP hD hS hl2)
  · rw [Tb]
    unfold tableOf
    rw [List.map_append, List.map_cons]
  · unfold tableOf at hz
    obtain ⟨z', hz', rfl⟩ := List.mem_map.mp hz
    obtain ⟨a1, nm, a2, a3⟩ := hpass z' hz'
    exact Or.inr ⟨a1, nm, C.tw a2 rfl, va_Nc.moved C.hW.alike a3⟩
  · simp only [covers, Bool.and_eq_true, decide_eq_true_eq]
    exact hx
end GLaw
/-- the script lies below all that the law makes -/
def LScr (Γ : GBase) (L : Nat) (xs : Nat → Int32) : Prop := va_X (bB Γ) L xs (bS Γ) (bS Γ).heap ∧ bB Γ < (bS Γ).heap.size ∧ L ≤ 260
section GScript
variable {Γ : GBase} {X : Cx} {cc : ByteArray} {nL : Nat} {own : String} {lvl mc ms : Nat} {S : PS} {k n pc : Nat} {loc : List (Nat × Value)} {st : List Value} {L : Nat} {xs : Nat → Int32}
theorem GC.scr (C : GC Γ X cc nL own lvl mc ms) (hX : LScr Γ L xs) : va_X (bB Γ) L xs X.2.2.2.1 X.2.2.2.1.heap ∧ bB Γ < X.2.2.2.1.heap.size ∧ ¬ AA Γ (bB Γ) := ⟨va_X.kept (va_X.moved C.hW.alike hX.1) (C.hq _ hX.2.1), Nat.lt_of_lt_of_le hX.2.1 C.hN, Nat.not_le.mpr hX.2.1⟩
theorem g_sld (C : GC Γ X cc nL own lvl mc ms) (hX : LScr Γ L xs) {x : Int32} {i : Nat} (hx : x = nI i) (hi : i < L) (d : decode cc pc = .ok (.iaload, 1)) (q : GW Γ X S k n (pc + 1) loc (.int (xs i) :: st)) : GW Γ X S k n pc loc (.int x :: .ref (bB Γ) :: st) := fun H locs ls hP hD hS hl => by
  obtain ⟨h1, h2, h3⟩ := C.scr hX
  have h4 := hX.2.2
  subst hx
  refine va_sld C.hx C.hb h1 h2 h3 hS (vp_in_nI hi (by omega)) d ?_
  rw [nI_clamp (by omega)]
  exact q H locs ls hP hD hS hl
theorem g_slen (C : GC Γ X cc nL own lvl mc ms) (hX : LScr Γ L xs) (d : decode cc pc = .ok (.arraylength, 1)) (q : GW Γ X S k n (pc + 1) loc (.int (nI L) :: st)) : GW Γ X S k n pc loc (.ref (bB Γ) :: st) := fun H locs ls hP hD hS hl => by
  obtain ⟨h1, h2, h3⟩ := C.scr hX
  exact va_slen C.hx C.hb h1 h2 h3 hS d (q H locs ls hP hD hS hl)
end GScript
theorem gy_L_below : GY yL_below cL_below 2 ((some FieldType.int)) 2 := ⟨tw_2_119, tw_1_0, ⟨by decide +kernel, by decide +kernel⟩, by decide +kernel, by decide⟩
theorem gy_L_cell : GY yL_cell cL_cell 2 ((some FieldType.int)) 2 := ⟨tw_2_115, tw_1_0, ⟨by decide +kernel, by decide +kernel⟩, by decide +kernel, by decide⟩
theorem gy_L_order : GY yL_order cL_order 6 ((some (FieldType.array FieldType.int))) 3 := ⟨tw_3_174, tw_1_0, ⟨by decide +kernel, by decide +kernel⟩, by decide +kernel, by decide⟩
theorem gy_L_areRight : GY yL_areRight cL_areRight 10 ((some FieldType.boolean)) 3 := ⟨tw_3_171, tw_1_0, ⟨by decide +kernel, by decide +kernel⟩, by decide +kernel, by decide⟩
theorem gy_L_build : GY yL_build cL_build 10 ((some (FieldType.array FieldType.int))) 7 := ⟨tw_2_112, tw_1_0, ⟨by decide +kernel, by decide +kernel⟩, by decide +kernel, by decide⟩
theorem gyh_write : GYH yL_write cL_write 12 (some FieldType.boolean) [(293, 377, 380, 50)] 4 := ⟨tw_2_221, tw_1_0, ⟨by decide +kernel, by decide +kernel⟩, by decide +kernel, by decide⟩
theorem ix6_0 (k : Nat) : (6 : Int32) * nI k = nI (6 * k) := by rw [show (6 : Int32) = nI 6 from rfl, pk_mul]
theorem ix6_1 (k : Nat) : (6 : Int32) * nI k + 1 = nI (6 * k + 1) := by rw [ix6_0, show (1 : Int32) = nI 1 from rfl, nI_add]
theorem ix6_2 (k : Nat) : (6 : Int32) * nI k + 2 = nI (6 * k + 2) := by rw [ix6_0, show (2 : Int32) = nI 2 from rfl, nI_add]
theorem ix6_5 (k : Nat) : (6 : Int32) * nI k + 5 = nI (6 * k + 5) := by rw [ix6_0, show (5 : Int32) = nI 5 from rfl, nI_add]
theorem ix2_0 (k : Nat) : (2 : Int32) * nI k = nI (2 * k) := by rw [show (2 : Int32) = nI 2 from rfl, pk_mul]
theorem ix2_1 (k : Nat) : (2 : Int32) * nI k + 1 = nI (2 * k + 1) := by rw [ix2_0, show (1 : Int32) = nI 1 from rfl, nI_add]
theorem ix_1 (k : Nat) : nI k + 1 = nI (k + 1) := nI_1 k
theorem ix_2 (k : Nat) : nI k + 2 = nI (k + 2) := nI_add k 2
theorem ix_3 (k : Nat) : nI k + 3 = nI (k + 3) := nI_add k 3
theorem ix_4 (k : Nat) : nI k + 4 = nI (k + 4) := nI_add k 4
theorem ix_5 (k : Nat) : nI k + 5 = nI (k + 5) := nI_add k 5
theorem l_below {Γ : GBase} (F : FB Γ) (S : PS) (v : Int32) (n : Nat) (h0 : 0 < n) (hn : n ≤ 1000) : GMet Γ yL_below cL_below 2 ((some FieldType.int)) 0 0 0 [.int v, .int (nI n)] S (fun r S' => S = S' ∧ ∃ j, j < n ∧ r = some (.int (nI j))) noX := by
  refine GMet.of (loc0 := [(0, .int v), (1, .int (nI n))]) F (by decide +kernel) rfl (Nat.le_of_ble_eq_true rfl) (fun X C R Tb nm => ?_)
  refine g_iload_n C dL_below_0 rfl rfl ?_
  refine g_ldc C (v := 2147483647) tw_2_120 dL_below_1 ?_
  refine g_iand C dL_below_3 ?_
  obtain ⟨a, ha, e⟩ := pk_andE v 31 (m := 2147483647) (by decide)
  rw [e]
  refine g_iload_n C dL_below_4 rfl rfl ?_
  refine g_irem C dL_below_5 (nI_ne0 h0 (by omega)) ?_
  have hle : a / n * n ≤ a := Nat.div_mul_le_self a n
  rw [pk_div (by omega) h0 (by omega), pk_mul, pk_sub hle]
  refine g_iret C R rfl (by omega) (by omega) dL_below_6 ?_
  refine ⟨rfl, a - a / n * n, ?_, rfl⟩
  have h1 := Nat.mod_lt a h0
  have h2 := Nat.mod_def a n
  rw [Nat.mul_comm] at h2
  omega
theorem l_cell {Γ : GBase} (F : FB Γ) {L : Nat} {xs : Nat → Int32} (hX : LScr Γ L xs) (S : PS) (i : Nat) (hi : i < 100000) : GMet Γ yL_cell cL_cell 2 ((some FieldType.int)) 0 0 0 [.ref (bB Γ), .int (nI i)] S (fun r S' => S = S' ∧ ∃ v, r = some (.int v)) noX := by
  have hL := hX.2.2
  refine GMet.of (loc0 := [(0, .ref (bB Γ)), (1, .int (nI i))]) F (by decide +kernel) rfl (Nat.le_of_ble_eq_true rfl) (fun X C R Tb nm => ?_)
  refine g_iload_n C dL_cell_0 rfl rfl ?_
  refine g_aload_n C dL_cell_1 rfl rfl ?_
  refine g_slen C hX dL_cell_2 ?_
  refine g_icmp_ge C dL_cell_3 (tgt := 12) (by decide) (fun c1 => ?_) (fun c1 => ?_)
  · refine g_ldc C (v := 790386105) tw_2_116 dL_cell_12 ?_
    refine g_iload_n C dL_cell_14 rfl rfl ?_
    refine g_iconst C dL_cell_15 (v := 3) (by decide) ?_
    refine g_iadd C dL_cell_16 ?_
    refine g_imul C dL_cell_17 ?_
    refine g_iret C R rfl (by omega) (by omega) dL_cell_18 ?_
    exact ⟨rfl, _, rfl⟩
  · have hlt : i < L := by
      rcases Nat.lt_or_ge i L with h | h
      · exact h
      · exact absurd (nI_le h (by omega)) c1
    refine g_aload_n C dL_cell_6 rfl rfl ?_
    refine g_iload_n C dL_cell_7 rfl rfl ?_
    refine g_sld C hX rfl hlt dL_cell_8 ?_
    refine g_goto C dL_cell_9 (tgt := 18) (by decide) ?_
    refine g_iret C R rfl (by omega) (by omega) dL_cell_18 ?_
    exact ⟨rfl, _, rfl⟩
