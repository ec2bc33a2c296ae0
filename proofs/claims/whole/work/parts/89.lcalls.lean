/-! ===== the law's own methods: bodies with handlers; calls of them ===== -/
theorem fr_uRL {S : PS} {a : Nat} {r : Nat → Int64} {mo ma : Nat → Nat → Prop} (h : ma (pW S a) a) : Fr S (uRL S a r) mo ma := by
  intro b hb
  refine ⟨hb, rfl, rfl, rfl, fun _ _ => ⟨rfl, rfl⟩, fun hn => ⟨rfl, ?_, rfl, rfl⟩⟩
  exact va_up_ne _ _ (fun e => hn (by rw [e]; exact h))
theorem fr_uRD {S : PS} {a : Nat} {r : Nat → UInt64} {mo ma : Nat → Nat → Prop} (h : ma (pW S a) a) : Fr S (uRD S a r) mo ma := by
  intro b hb
  refine ⟨hb, rfl, rfl, rfl, fun _ _ => ⟨rfl, rfl⟩, fun hn => ⟨rfl, rfl, ?_, rfl⟩⟩
  exact va_up_ne _ _ (fun e => hn (by rw [e]; exact h))
/-- the model stands; of its rows only those of longs and doubles may change -/
def FrL (S S' : PS) : Prop := Fr S S' (fun _ b => ¬ al S b 6) (fun o b => ¬ al S o 6 ∨ al S b 10 ∨ al S b 11)
theorem FrB.l {S S' : PS} (h : FrB S S') : FrL S S' := Fr.mono h (fun _ _ _ h => h) (fun _ _ _ h => Or.inl h)
theorem FrL.tr {S S1 S2 : PS} (h1 : FrL S S1) (h2 : FrL S1 S2) : FrL S S2 := Fr.tr h1 h2 (fun f b _ h ha => h.elim (fun q => q ha) (fun q => q (ha.fr h1))) (fun o b hb h => h.elim id (fun q => q.elim (fun w => Or.inl (fun ha => w (ha.fr h1))) (fun w => Or.inr (w.imp (fun z => ⟨hb, (h1 b hb).2.1.symm.trans z.2⟩) (fun z => ⟨hb, (h1 b hb).2.1.symm.trans z.2⟩)))))
theorem FrL.kp {S S' : PS} {m : Nat} {rr : Nat → Nat} (h : FrL S S') (hM : MdF S m rr) : Kp S S' m rr nF nF := by
  have hm := h m hM.1.1
  refine ⟨fun b k hb => hb.fr h, fun f _ => hm.2.2.2.2.1 f (fun w => w hM.1), fun f hf => ?_⟩
  obtain ⟨h1, h2, h3, h4⟩ := hM.2.1 f hf
  have k := h (rr f) h2.1
  have hk := rk89 f
  refine ⟨k.2.2.1, k.2.2.2.1, fun _ => (k.2.2.2.2.2 (fun w => ?_)).1⟩
  rcases w with w | w | w
  · exact w (by rw [h4]; exact hM.1)
  · have := h2.2.symm.trans w.2; omega
  · have := h2.2.symm.trans w.2; omega
theorem MdI.frL {S S' : PS} {m : Nat} {rr : Nat → Nat} {B : BT} (h : MdI S m rr B) (hf : FrL S S') : MdI S' m rr B := by
  have k := hf.kp h.1.f
  exact Kp.mdI ⟨k.1, fun f _ => k.2.1 f (fun w => w), k.2.2⟩ h
theorem BkI.frM {Γ : GBase} {S S' : PS} {x m : Nat} {A : AD} {B : BT} (h : BkI Γ S x A B) (hm : al S m 6) (hf : FrM S S' m) : BkI Γ S' x A B := by
  refine h.frA hf (fun f b k hb hk e => ?_) (fun T o hT ho hw e => ?_)
  · have := hb.2.symm.trans ((congrArg (pK S) e).trans hm.2); omega
  · have e1 := e.1
    rcases ho with ho | ho | ho <;> (have := ho.2.symm.trans ((congrArg (pK S) e1).trans hm.2); omega)
theorem BkI.frO {Γ : GBase} {S S' : PS} {x o : Nat} {A : AD} {B : BT} (h : BkI Γ S x A B) (ho : al S o 10 ∨ al S o 11) (hf : Fr S S' (fun _ _ => False) (fun _ b => b = o)) : BkI Γ S' x A B := by
  refine h.frA hf (fun f b k hb hk e => e) (fun T w hT hw _ e => ?_)
  rw [e] at hT
  rcases hT with hT | hT <;> rcases ho with ho | ho <;> (have := hT.2.symm.trans ho.2; omega)
def GMetH (Γ : GBase) (y : MethodName) (cc : ByteArray) (maxL : Nat) (ret : Option FieldType) (hh : List (Nat × Nat × Nat × Nat)) (lvl mc ms : Nat) (av : List Value) (S : PS) (post : Option Value → PS → Prop) : Prop :=
  vx_Met (bL Γ) y [Cond.codeWith y cc maxL ret hh] (rmv lvl mc ms) (va_Pc av (GU Γ S)) (GPost Γ post) (GPx Γ noX) mc ms (AA Γ)
theorem GMetH.of {Γ : GBase} {y : MethodName} {cc : ByteArray} {maxL : Nat} {ret : Option FieldType} {hh : List (Nat × Nat × Nat × Nat)} {lvl mc ms : Nat} {av : List Value} {S : PS} {post : Option Value → PS → Prop} {loc0 : List (Nat × Value)} (F : FB Γ) (hy : plainName y.cls = true) (h0 : lv_args 0 av = loc0) (hn : (lg_sl av).length ≤ maxL)
    (body : ∀ X : Cx, GC Γ X cc maxL y.cls lvl mc ms → GRet Γ X ret mc ms post noX → X.2.2.2.2.2.2.2.2.1.exceptionTable.toList = tableOf hh → GW Γ X S 0 0 0 loc0 []) : GMetH Γ y cc maxL ret hh lvl mc ms av S post := by
  refine vx_ofWH (cc := cc) (maxL := maxL) (ret := ret) (hh := hh) hy rfl ?_
  intro p e s m args below meth c s₁ B hml hv
  have htab := vx_table (x := y) B (atoms_spec (ws := [Cond.codeWith y cc maxL ret hh]) B.pre _ List.mem_cons_self)
  obtain ⟨rfl, hW, hN, hq, hP, hD⟩ := hv
  have hown : s.vm.findClass y.cls = some m.cls := findClass_of_methodNamed B.named
  have K := body (p, e, (headSpec [Cond.codeWith y cc maxL ret hh] (rmv lvl mc ms)).room, s, m, av.toArray, below, meth, c, vx_MQ below (GPost Γ post) (GPx Γ noX) av.toArray s mc ms (AA Γ)) ⟨B.exec, B.bytes, hml, hown, hW, hN, hq, F, B.notSynchronized, Nat.le_refl _, Nat.le_refl _, rfl, rfl⟩ ⟨rfl, B.returns⟩ htab
  rw [lg_entry_eq]
  subst h0
  have hl := lh_entry av hn
  rw [← hml] at hl
  rw [← hml]
  exact K s.heap [] _ hP hD va_S.rf hl
/-- what callers want of a method with handlers -/
def GYH (y : MethodName) (cc : ByteArray) (maxL : Nat) (ret : Option FieldType) (hh : List (Nat × Nat × Nat × Nat)) (np : Nat) : Prop := Cond.codeWith y cc maxL ret hh ∈ lw_tbl ∧ Cond.initialized y.cls ∈ lw_tbl ∧ (y.cls ≠ "java/lang/invoke/MethodHandle" ∧ y.cls ≠ "java/lang/invoke/VarHandle") ∧ (parseMethodDescriptor y.desc).map (fun d => d.parameters.length) = some np ∧ maxL ≤ 100
section GLaw
variable {Γ : GBase} {X : Cx} {cc : ByteArray} {nL : Nat} {own : String} {lvl mc ms : Nat} {S : PS} {k n pc : Nat} {loc : List (Nat × Value)} {st st0 : List Value}
variable {y : MethodName} {cy : ByteArray} {maxL np lvl' mc' ms' index : Nat} {rety : Option FieldType} {As : List Value} {posty : Option Value → PS → Prop} {hh : List (Nat × Nat × Nat × Nat)}
theorem g_cbH (C : GC Γ X cc nL own lvl mc ms) (hy : GYH y cy maxL rety hh np) (w : Cond.methodLink own index y ∈ lw_tbl) (w2 : Cond.static y ∈ lw_tbl) (hlv : lvl' < lvl) : vx_CSW X.2.2.1 X.2.2.2.1 X.2.2.2.2.2.1 own index y cy maxL rety hh [Cond.codeWith y cy maxL rety hh] (rmv lvl' mc' ms') mc' ms' np := by
  obtain ⟨h1, h2, h3, h4, h5⟩ := hy
  refine ⟨⟨rfl, rfl, ?_, ?_, ?_, List.mem_cons_self⟩, C.tw h1 rfl, C.tw h2 rfl, h3, fun sig h => ?_, C.tw w rfl, C.tw w2 rfl⟩
  · have := C.rf
    show 20 * (lvl' + 1) + 1 ≤ _
    omega
  · refine Nat.le_trans ?_ C.rl
    show 8 + (maxL + 11) + 400 * (lvl' + 1) ≤ 400 * (lvl + 1)
    exact g_loc hlv h5
  · intro w' hw' a' U hU
    rw [List.mem_singleton.mp hw']
    exact word_at hU (Or.inl rfl) (C.tw h1 rfl)
  · rw [h] at h4
    exact (Option.some.inj h4).symm
theorem g_callSH (C : GC Γ X cc nL own lvl mc ms) (hy : GYH y cy maxL rety hh np) (w : Cond.methodLink own index y ∈ lw_tbl) (w2 : Cond.static y ∈ lw_tbl) (hlv : lvl' < lvl) (hM : GMetH Γ y cy maxL rety hh lvl' mc' ms' As S posty) (hAs : As.length = np) (hst : st0 = As.reverse ++ st) (hcat : (st.map fun v => v.category).sum ≤ 8) (hk : k + mc' ≤ mc) (hn : n + ms' ≤ ms) (d : decode cc pc = .ok (.invokestatic index, 3))
    (q : ∀ (v : Option Value) (S' : PS), posty v S' → GW Γ X S' (k + mc') (n + ms') (pc + 3) loc (v.toList ++ st)) : GW Γ X S k n pc loc st0 := fun H locs ls hP hD hS hl => by
  subst hst
  intro T hT X0
  rcases vx_runSX (rest := st) (As := As) (g := F0 X.2.2.2.2.1 pc ls _) (Ts := []) ⟨C.hx, C.hb, C.hml, C.hown, fun _ h => nomatch h⟩ hM (g_cbH C hy w w2 hlv) ⟨GU_blind, g_fin C hP hD hS⟩ rfl hAs (hl.1.trans C.hml) rfl (lv_room hcat) d ⟨by rw [C.rc]; exact hk, by rw [C.rs]; exact hn⟩ T hT X0 with ⟨v, st₀, t, T', L, h0, X', hL, e1, e2, ⟨⟨v', S', hv, hpost, hU⟩, hF⟩, go⟩ | ⟨q9, st₀, t, T', L, E, ce, h0, X', hL, e1, e2, ⟨⟨S', hpx, hH⟩, hF⟩, hce, hcv, hcl, go⟩
  · cases hv
    have hS' := g_keep (H0 := X.2.2.2.1.heap) hS h0 e1 hL hF
    obtain ⟨-, -, -, hP', hD'⟩ := hU
    rw [← e1] at hP'
    obtain ⟨t2, a1, b1⟩ := q v S' hpost T'.heap (locs ++ L) ls hP' hD' hS' hl T' rfl X'
    exact ⟨t2, go t2 a1, b1⟩
  · exact hpx.elim
/-- caught: by the row (f, t, h, ct) of the table; the rows ahead name other classes -/
theorem g_catch (C : GC Γ X cc nL own lvl mc ms) {pre suf : List (Nat × Nat × Nat × Nat)} {f t h ct : Nat} {E : String} (Tb : X.2.2.2.2.2.2.2.2.1.exceptionTable.toList = tableOf (pre ++ (f, t, h, ct) :: suf)) (hpass : ∀ z ∈ pre, z.2.2.2 ≠ 0 ∧ ∃ nm, Cond.classLink own z.2.2.2 nm ∈ lw_tbl ∧ va_Nc E nm (bS Γ)) (hx : f ≤ pc ∧ pc < t) (h0 : ct ≠ 0) (hl : Cond.classLink own ct E ∈ lw_tbl) (hc : Cond.castable E E ∈ lw_tbl) (kk : ∀ q : Nat, GW Γ X S k n h loc [.ref q]) : GX Γ X S k n pc loc E := fun H locs ls ce q st hP hD hS hl2 h1 h2 h3 => by
  refine vx_catch (own := own) (name := E) (E := E) C.hown (tableOf pre) ⟨f, t, h, ct⟩ (tableOf suf) ?_ (fun z hz => ?_) ?_ h0 (C.tw hl rfl) (C.tw2 hc rfl) h1 h2 h3 (kk q H locs ls hP hD hS hl2)
  · rw [Tb]
    unfold tableOf
    rw [List.map_append, List.map_cons]
  · unfold tableOf at hz
    obtain ⟨z', hz', rfl⟩ := List.mem_map.mp hz
    obtain ⟨a1, nm, a2, a3⟩ := hpass z' hz'
    exact Or.inr ⟨a1, nm, C.tw a2 rfl, va_Nc.moved C.hW.alike a3⟩
  · simp only [covers, Bool.and_eq_true, decide_eq_true_eq]
    exact hx
end GLaw
theorem nc_1 {Γ : GBase} (F : FB Γ) : va_Nc xISE xIAE (bS Γ) := va_Nc.of (flat_of_before _ F.2.2.2.1 _ (by decide +kernel))
theorem nc_2 {Γ : GBase} (F : FB Γ) : va_Nc xIAE xIOB (bS Γ) := va_Nc.of (flat_of_before _ F.2.2.2.1 _ (by decide +kernel))
theorem nc_3 {Γ : GBase} (F : FB Γ) : va_Nc xISE xIOB (bS Γ) := va_Nc.of (flat_of_before _ F.2.2.2.1 _ (by decide +kernel))
