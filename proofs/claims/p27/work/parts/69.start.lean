/-! THE CLAIM OUT OF ONE WALK OF THE LAW'S BODY. Your part is whole_start (and what it stands on); all else here is the same for every law, but numbers. -/
def R_law : String := "CueBookLaw"
def lw_P (b : Addr) (xs : List Int32) (args : Array Value) (s : State) : Prop := args = #[.ref b] ∧ s.IntsAt b xs ∧ xs.length ≤ 260 ∧ (Jvm.Cond.and given_1 narrow_1).before args s = true
def lw_Q (_ : Array Value) (s : State) (o : Outcome) (t : State) : Prop := o = .returned (some (.int 1)) ∧ Framed s o t [] 600104 7301314
def lw_Z (below : List Frame) (a : Array Value) (s : State) : State → Prop := fun t => ∃ o, t.status = .running ∧ Ended t below o ∧ lw_Q a s o t
/-- the law's own end, with 1 on the stack, nothing written that was there before, its room as the claim has it -/
theorem lw_ret {p : Program} {l : Launch} {e : Env} {s : State} {m : MethodId} {below : List Frame} {meth : Method} {c : Code} {b : Nat} (hx : p.tables.exec = Jvm.exec) (hb : c.code = code) (hr : meth.sig.returnType = ret) (hlocks : meth.locks = false) {pc : Nat} {H : Heap} {ls : Array Slot} (hdg : decode code pc = .ok (.ireturn, 1)) : W p l e room_1 s m #[Value.ref b] below meth c H [] 600104 7301314 (lw_Z below #[Value.ref b] s) (F0 m pc ls [.int 1]) := by
  intro T hT X
  obtain ⟨fs, hret, hrun, hended, hW, hframe⟩ := X.leave (v := some (.int 1)) (hlocks := hlocks) (fun h => by rw [hr] at h; cases h)
  have hmeth' : T.vm.method? m = some meth := X.method'
  refine ⟨T.setFrames fs, ?_, .returned (some (.int 1)), hrun, hended, rfl, ⟨_, rfl⟩, hW, hframe⟩
  jvm_step X.here [X.here.top, hx, hb, hdg, hmeth', hr, ret, narrow_b1]
  (try refine ⟨rfl, ?_⟩); (try refine ⟨rfl, ?_⟩)
  first | (intro acts; rw [hret _ acts rfl rfl rfl]) | rw [hret _ _ rfl rfl rfl]
  exact Steps.refl _
/-- what holds at the law's entry: the machine, the code, the tables' words (any of lw_tbl by 'hts w (by decide +kernel)'), the script of L ints xs at the cell b, what the Statement gives of the start (any of its parts by flat_of_before) -/
def lw_At (p : Program) (s : State) (m : MethodId) (meth : Method) (c : Code) (b L : Nat) (xs : Nat → Int32) : Prop :=
  p.tables.exec = Jvm.exec ∧ c.code = code ∧ meth.sig.returnType = ret ∧ c.maxLocals = 16 ∧ s.vm.findClass R_law = some m.cls ∧ (∀ w ∈ lw_tbl, w.before #[Value.ref b] s = true) ∧ va_X b L xs s s.heap ∧ b < s.heap.size ∧ meth.locks = false ∧ (Jvm.Cond.and given_1 narrow_1).before #[Value.ref b] s = true
theorem arr_of {U : State} {cA comp : ClassId} {k : Class} {ty : FieldType} (h1 : U.vm.classes[cA]? = some k) (h2 : k.kind = .array comp ty) : ArrOfT U cA ty := fun n z => ⟨fun k h => (by cases h), k, h1, comp, h2⟩
/-- the base of all: out of what the Statement gives of the start -/
theorem fb_start {s : State} {l : Launch} {b : Nat} (hflags : l.flags = flags0) (hts : ∀ w ∈ lw_tbl, w.before #[Value.ref b] s = true) (hgv : (Jvm.Cond.and given_1 narrow_1).before #[Value.ref b] s = true) : ∃ (D : va_G) (cy : Nat → ClassId) (E0 : Nat), FB (s, D, cy, l, b, E0) := by
  obtain ⟨c0, i0, hK0⟩ := u_known (C := RX0) (T := TX0) (N := 9) (n := 9) hts (fun w hw => (lay_0 w hw).1) (hts _ tw_2_233)
  obtain ⟨c1, i1, hK1⟩ := u_known (C := RX1) (T := TX1) (N := 7) (n := 7) hts (fun w hw => (lay_1 w hw).1) (hts _ tw_3_51)
  obtain ⟨c2, i2, hK2⟩ := u_known (C := RX2) (T := TX2) (N := 3) (n := 3) hts (fun w hw => (lay_2 w hw).1) (hts _ tw_2_201)
  obtain ⟨c3, i3, hK3⟩ := u_known (C := RX3) (T := TX3) (N := 8) (n := 8) hts (fun w hw => (lay_3 w hw).1) (hts _ tw_2_144)
  obtain ⟨c4, i4, hK4⟩ := u_known (C := RX4) (T := TX4) (N := 4) (n := 4) hts (fun w hw => (lay_4 w hw).1) (hts _ tw_3_121)
  obtain ⟨c5, i5, hK5⟩ := u_known (C := RX5) (T := TX5) (N := 8) (n := 8) hts (fun w hw => (lay_5 w hw).1) (hts _ tw_1_23)
  obtain ⟨c6, i6, hK6⟩ := u_known (C := RX0) (T := TX0) (N := 9) (n := 9) hts (fun w hw => (lay_6 w hw).1) (hts _ tw_2_233)
  obtain ⟨c7, i7, hK7⟩ := u_known (C := RJx4a65c) (T := TJx4a65c) (N := 3) (n := 3) hts (fun w hw => (lay_7 w hw).1) (hts _ tw_1_31)
  obtain ⟨a0, k0, p0, f0, g0, h0⟩ := Cond.arrayClass_spec (hts _ tw_2_143)
  obtain ⟨a1, k1, p1, f1, g1, h1⟩ := Cond.arrayClass_spec (hts _ tw_2_143)
  obtain ⟨a2, k2, p2, f2, g2, h2⟩ := Cond.arrayClass_spec (hts _ tw_2_143)
  obtain ⟨a3, k3, p3, f3, g3, h3⟩ := Cond.arrayClass_spec (hts _ tw_2_143)
  obtain ⟨p4, a4, k4, e4, f4, g4, h4, m4⟩ := Cond.arrayOver_spec (hts _ tw_2_44)
  have hA : ∀ a : Nat, a < s.heap.size → ¬ (fun q : Nat => s.heap.size ≤ q) a := fun a h => Nat.not_le.mpr h
  obtain ⟨E0, hE1, hE2⟩ := va_Tof (A := fun q : Nat => s.heap.size ≤ q) (tm := Term.static "java/util/ArrayList" "DEFAULTCAPACITY_EMPTY_ELEMENTDATA" "[Ljava/lang/Object;") (ty := .object "java/lang/Object") (N := 0) (f := fun _ => .null) (by decide) (flat_of_before _ hgv _ (by decide +kernel)) (va_eqt (z := 0) (flat_of_before _ hgv _ (by decide +kernel))) (fun j hj => absurd hj (Nat.not_lt_zero j)) hA
  have hZ : va_Z "java/util/ArrayList" "DEFAULTCAPACITY_EMPTY_ELEMENTDATA" "[Ljava/lang/Object;" (.ref E0) (fun q : Nat => s.heap.size ≤ q) s s.heap := va_Zof (hts _ tw_1_43) (hts _ tw_1_4) hE1 hA
  refine ⟨(fun k => match k with | 0 => c0 | 1 => c1 | 2 => c2 | 3 => c3 | 4 => c4 | 5 => c5 | 6 => c6 | _ => c7, fun k => match k with | 0 => i0 | 1 => i1 | 2 => i2 | 3 => i3 | 4 => i4 | 5 => i5 | 6 => i6 | _ => i7), fun k => match k with | 0 => a0 | 1 => a1 | 2 => a2 | 3 => a3 | _ => a4, E0, hts, ⟨fun k q hq => ?_, fun k q hq => ?_⟩, hflags, hgv, hZ, hE2⟩
  · match k, hq with
    | 0, hq => cases hq; exact hK0
    | 1, hq => cases hq; exact hK1
    | 2, hq => cases hq; exact hK2
    | 3, hq => cases hq; exact hK3
    | 4, hq => cases hq; exact hK4
    | 5, hq => cases hq; exact hK5
    | 6, hq => cases hq; exact hK6
    | 7, hq => cases hq; exact hK7
    | k + 8, hq => simp [gcl] at hq
  · match k, hq with
    | 0, hq => cases hq; exact ⟨arr_of g0 h0, f0⟩
    | 1, hq => cases hq; exact ⟨arr_of g1 h1, f1⟩
    | 2, hq => cases hq; exact ⟨arr_of g2 h2, f2⟩
    | 3, hq => cases hq; exact ⟨arr_of g3 h3, f3⟩
    | 4, hq => cases hq; exact ⟨arr_of g4 h4, k4, p4, g4, h4, e4, m4⟩
    | k + 5, hq => simp [atys] at hq
def S00 : PS := ([], fun _ => 0, fun _ _ => 0, fun _ _ => none, fun _ => 0, fun _ _ => 0, fun _ _ => 0, fun _ _ => 0, fun _ _ => none, fun _ => 0)
theorem law_body {Γ : GBase} {X : Cx} {L : Nat} {xs : Nat → Int32} (C : GC Γ X cL_law 16 "CueBookLaw" 13 600104 7301314) (hX : LScr Γ L xs) (hend : ∀ (S : PS) (kc nc : Nat) (loc : List (Nat × Value)), kc ≤ 600104 → nc ≤ 7301314 → GW Γ X S kc nc 698 loc [.int 1]) : GW Γ X S00 0 0 0 [(0, .ref (bB Γ))] [] := by
  refine g_new C kd_5 tw_1_22 tw_1_23 tw_1_1 (by omega) (by omega) dL_law_0 (fun x hx => ?_)
  refine g_dup C dL_law_3 rfl ?_
  refine g_callI C gy_X5_init tw_1_24 tw_1_25 rfl rfl (by decide) (m_Book_init C.F _ x al_nO) rfl rfl (Nat.le_of_ble_eq_true rfl) (by omega) (by omega) dL_law_4 ?_
  rintro _ _ ⟨rfl, hI1, hF1⟩
  rename_i S1
  refine g_astore_n C dL_law_7 rfl (by decide) rfl ?_
  refine g_bipush C dL_law_8 (v := 16) (by decide) ?_
  rw [show (16 : Int32) = nI 16 from rfl]
  refine g_naZ C rfl (by omega) (by omega) (by omega) dL_law_10 (fun P hP => ?_)
  refine g_own P P ?_
  have hI2 : BkI Γ (uW (nA S1 P 9 16) P P) x A0 B0 := hI1.frN (fr_own hP)
  have rP2 : RwL (uW (nA S1 P 9 16) P P) P 9 16 P := ⟨al_nA (S := S1) (m := 16), nA_Nq (S := S1) (q := P) (k := 9) (m := 16), uW_q⟩
  generalize uW (nA S1 P 9 16) P P = S2 at hI2 rP2 ⊢
  refine g_astore_n C dL_law_12 rfl (by decide) rfl ?_
  refine g_bipush C dL_law_13 (v := 10) (by decide) ?_
  rw [show (10 : Int32) = nI 10 from rfl]
  refine g_naI C rfl (by omega) (by omega) (by omega) dL_law_15 (fun Y hY => ?_)
  refine g_own Y P ?_
  have hI3 : BkI Γ (uW (nA S2 Y 8 10) Y P) x A0 B0 := hI2.frN (fr_own hY)
  have rP3 : RwL (uW (nA S2 Y 8 10) Y P) P 9 16 P := rP2.fr (fr_own (mo := moN) (ma := maN) hY)
  have rY3 : RwL (uW (nA S2 Y 8 10) Y P) Y 8 10 P := ⟨al_nA (S := S2) (m := 10), nA_Nq (S := S2) (q := Y) (k := 8) (m := 10), uW_q⟩
  generalize uW (nA S2 Y 8 10) Y P = S3 at hI3 rP3 rY3 ⊢
  refine g_astore_n C dL_law_17 rfl (by decide) rfl ?_
  refine g_sipush C dL_law_18 (v := 246) (by decide) ?_
  rw [show (246 : Int32) = nI 246 from rfl]
  refine g_naI C rfl (by omega) (by omega) (by omega) dL_law_21 (fun Cu hCu => ?_)
  refine g_own Cu P ?_
  have hI4 : BkI Γ (uW (nA S3 Cu 8 246) Cu P) x A0 B0 := hI3.frN (fr_own hCu)
  have hA4 : AL3 (uW (nA S3 Cu 8 246) Cu P) P Y Cu := ⟨rP3.fr (fr_own (mo := moN) (ma := maN) hCu), rY3.fr (fr_own (mo := moN) (ma := maN) hCu), ⟨al_nA (S := S3) (m := 246), nA_Nq (S := S3) (q := Cu) (k := 8) (m := 246), uW_q⟩, mem_ne rY3.1.1 hCu⟩
  generalize uW (nA S3 Cu 8 246) Cu P = S4 at hI4 hA4 ⊢
  refine g_astore C dL_law_23 (by decide) rfl ?_
  refine g_aload_n C dL_law_25 rfl rfl ?_
  refine g_aload_n C dL_law_26 rfl rfl ?_
  refine g_iconst C dL_law_27 (v := 0) (by decide) ?_
  refine g_bipush C dL_law_28 (v := 18) (by decide) ?_
  rw [i0, show (18 : Int32) = nI 18 from rfl]
  refine g_aload_n C dL_law_30 rfl rfl ?_
  refine g_aload_n C dL_law_31 rfl rfl ?_
  refine g_aload C dL_law_32 rfl ?_
  refine g_callS C gy_L_build tw_2_110 tw_2_111 (by decide) (l_build C.F hX S4 x P Y Cu A0 hI4 hA4) rfl rfl (Nat.le_of_ble_eq_true rfl) (by omega) (by omega) dL_law_34 (fun _ _ h9 => h9.elim) ?_
  rintro _ _ ⟨N, A', B', rfl, hW, h1, h4, h3, hc, hbt⟩
  refine g_astore C dL_law_37 (by decide) rfl ?_
  refine g_aload C dL_law_39 rfl ?_
  refine g_ifnonnull C dL_law_41 (tgt := 46) (by decide) ?_
  refine g_iconst C dL_law_46 (v := 1) (by decide) ?_
  rename_i S5
  rw [i1]
  refine g_istore C dL_law_47 (by decide) rfl ?_
  refine g_iconst C dL_law_49 (v := 0) (by decide) ?_
  rw [i0]
  refine g_istore C dL_law_50 (by decide) rfl ?_
  refine g_widen 2000 96000 (by omega) (by omega) ?_
  refine g_sub [(0, _), (1, _), (2, _), (3, _), (4, _), (5, _), (6, _), (7, _)] ⟨rfl, rfl, rfl, rfl, rfl, rfl, rfl, rfl, trivial⟩ ?_
  exact lp_max C hc hbt (fun la S6 k6 n6 hla hW6 => lp_all C hla h4 hend hW6) (tC B') 0 1 S5 2000 96000 (by omega) (by decide) ⟨⟨A', hW⟩, Or.inr ⟨Nat.le_refl _, Nat.le_refl _⟩⟩
/-- from the entry, for every script of at most 260 ints, the law comes to its end with true -/
theorem whole_start {p : Program} {e : Env} {s : State} {m : MethodId} {below : List Frame} {meth : Method} {c : Code} (l : Launch) (hflags : l.flags = flags0) {b L : Nat} {xs : Nat → Int32} (hL : L ≤ 260) (C0 : lw_At p s m meth c b L xs) : W p l e room_1 s m #[Value.ref b] below meth c s.heap [] 0 0 (lw_Z below #[Value.ref b] s) (entryFrame m ([Value.ref b] : List Value).toArray 16) := by
  obtain ⟨hx, hb, hr, hml, hown, hts, hX, hbl, hlocks, hgv⟩ := id C0
  obtain ⟨D, cy, E0, hF⟩ := fb_start (l := l) hflags hts hgv
  obtain ⟨Γ, hΓ⟩ : ∃ Γ : GBase, Γ = (s, D, cy, l, b, E0) := ⟨_, rfl⟩
  have F : FB Γ := by rw [hΓ]; exact hF
  obtain ⟨X, hXe⟩ : ∃ X : Cx, X = (p, e, room_1, s, m, #[Value.ref b], below, meth, c, lw_Z below #[Value.ref b] s) := ⟨_, rfl⟩
  have C : GC Γ X cL_law 16 "CueBookLaw" 13 600104 7301314 := by
    rw [hXe, hΓ]
    exact ⟨hx, hb, hml, hown, State.WarmedH.refl s, Nat.le_refl _, fun _ _ => rfl, hF, hlocks, by show 13 + 1 ≤ 16; omega, by show 40 * 13 + 138 ≤ 658; omega, rfl, rfl⟩
  have hS : LScr Γ L xs := by
    rw [hΓ]
    exact ⟨hX, hbl, hL⟩
  have hend : ∀ (S : PS) (kc nc : Nat) (loc : List (Nat × Value)), kc ≤ 600104 → nc ≤ 7301314 → GW Γ X S kc nc 698 loc [.int 1] := by
    intro S kc nc loc hk hn H locs ls hP hD hS hl
    rw [hXe, hΓ] at *
    refine va_forget (fun q hq => hS.2.2 q hq) ?_
    refine W.widen hk hn ?_
    exact lw_ret hx hb hr hlocks dL_law_698
  have K := law_body C hS hend
  rw [hXe, hΓ] at K
  rw [lg_entry_eq]
  have hl := lh_entry [Value.ref b] (n := 16) (Nat.le_of_ble_eq_true rfl)
  rw [← hml] at hl
  have K2 := K s.heap [] _ (fun k q h => by simp [pw, va_pl, pL, S00] at h) ⟨fun i j p q h => by simp [pw, va_pl, pL, S00] at h, fun k q h => by simp [pw, va_pl, pL, S00] at h⟩ va_S.rf hl
  rw [hml] at K2
  exact K2
