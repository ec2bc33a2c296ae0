/-! THE CLAIM OUT OF ONE WALK OF THE LAW'S BODY. Your part is whole_start (and what it stands on); all else here is the same for every law, but numbers. -/
def R_law : String := "CueBookLaw"
def lw_P (b : Addr) (xs : List Int32) (args : Array Value) (s : State) : Prop := args = #[.ref b] ∧ s.IntsAt b xs ∧ xs.length ≤ 2560 ∧ (Jvm.Cond.and given_1 narrow_1).before args s = true
/-- what a walk over the start with the record d0 says of its end, said of the start itself -/
theorem lw_closed {s t : State} {o : Outcome} {d0 : Drawn} {L : List Loc} {k n : Nat} (hd0 : s.drawn.sameBut d0 lw_cs) (hv : ∃ v, o = .returned v) (hW : (s.setDrawn d0).WarmedH t.vm) (hs : (s.setDrawn d0).sameButNew ({ t with vm := s.vm } : State) L k n) : State.butDraws s t lw_cs (fun t1 => Framed s o t1 L k n) := by
  have h2 : t.drawn = d0 := congrArg State.drawn hs.1
  refine ⟨⟨hv, hW, State.sameButNew.setDrawn hs s.drawn⟩, ?_, by decide⟩
  rw [h2]
  exact hd0
def lw_Q (_ : Array Value) (s : State) (o : Outcome) (t : State) : Prop := o = .returned (some (.int 1)) ∧ State.butDraws s t lw_cs (fun t1 => Framed s o t1 [] 601024 7293034)
def lw_Z (below : List Frame) (a : Array Value) (s : State) : State → Prop := fun t => ∃ o, t.status = .running ∧ Ended t below o ∧ lw_Q a s o t
/-- the law's own end, with 1 on the stack, nothing written that was there before, its room as the claim has it; d0: the record of draws at this point (at the entry s.drawn: begin with 'refine W.base ?_' and 'have hd0 := Drawn.sameBut.refl s.drawn lw_cs') -/
theorem lw_ret {p : Program} {l : Launch} {e : Env} {s : State} {m : MethodId} {below : List Frame} {meth : Method} {c : Code} {b : Nat} {d0 : Drawn} (hd0 : s.drawn.sameBut d0 lw_cs) (hx : p.tables.exec = Jvm.exec) (hb : c.code = code) (hr : meth.sig.returnType = ret) (hlocks : meth.locks = false) {pc : Nat} {H : Heap} {ls : Array Slot} (hdg : decode code pc = .ok (.ireturn, 1)) : W p l e room_1 (s.setDrawn d0) m #[Value.ref b] below meth c H [] 601024 7293034 (lw_Z below #[Value.ref b] s) (F0 m pc ls [.int 1]) := by
  intro T hT X
  obtain ⟨fs, hret, hrun, hended, hW, hframe⟩ := X.leave (v := some (.int 1)) (hlocks := hlocks) (fun h => by rw [hr] at h; cases h)
  have hmeth' : T.vm.method? m = some meth := X.method'
  refine ⟨T.setFrames fs, ?_, .returned (some (.int 1)), hrun, hended, rfl, lw_closed hd0 ⟨_, rfl⟩ hW hframe⟩
  jvm_step X.here [X.here.top, hx, hb, hdg, hmeth', hr, ret, narrow_b1]
  (try refine ⟨rfl, ?_⟩); (try refine ⟨rfl, ?_⟩)
  first | (intro acts; rw [hret _ acts rfl rfl rfl]) | rw [hret _ _ rfl rfl rfl]
  exact Steps.refl _
/-- what holds at the law's entry: the machine, the code, the tables' words (any of lw_tbl by 'hts w (by decide +kernel)'), the script of L ints xs at the cell b, what the Statement gives of the start (any of its parts by flat_of_before) -/
def lw_At (p : Program) (s : State) (m : MethodId) (meth : Method) (c : Code) (b L : Nat) (xs : Nat → Int32) : Prop :=
  p.tables.exec = Jvm.exec ∧ c.code = code ∧ meth.sig.returnType = ret ∧ c.maxLocals = 9 ∧ s.vm.findClass R_law = some m.cls ∧ (∀ w ∈ lw_tbl, w.before #[Value.ref b] s = true) ∧ va_X b L xs s s.heap ∧ b < s.heap.size ∧ meth.locks = false ∧ (Jvm.Cond.and given_1 narrow_1).before #[Value.ref b] s = true
theorem arr_of {U : State} {cA comp : ClassId} {k : Class} {ty : FieldType} (h1 : U.vm.classes[cA]? = some k) (h2 : k.kind = .array comp ty) : ArrOfT U cA ty := fun n z => ⟨fun k h => (by cases h), k, h1, comp, h2⟩
theorem fr_own {S : PS} {q k n o : Nat} {mo ma : Nat → Nat → Prop} (hq : q ∉ pL S) : Fr S (uW (nA S q k n) q o) mo ma := by
  intro b hb
  have hbq : b ≠ q := mem_ne hb hq
  exact ⟨List.mem_append_left _ hb, va_up_ne _ _ hbq, va_up_ne _ _ hbq, uW_ne hbq, fun _ _ => ⟨rfl, rfl⟩, fun _ => ⟨va_up_ne _ _ hbq, va_up_ne _ _ hbq, va_up_ne _ _ hbq, va_up_ne _ _ hbq⟩⟩
/-- the base of all: out of what the Statement gives of the start -/
theorem fb_start {s : State} {l : Launch} {b : Nat} (hflags : l.flags = flags0) (hts : ∀ w ∈ lw_tbl, w.before #[Value.ref b] s = true) (hgv : (Jvm.Cond.and given_1 narrow_1).before #[Value.ref b] s = true) : ∃ (D : va_G) (cy : Nat → ClassId) (E0 : Nat), FB (s, D, cy, l, b, E0) := by
  obtain ⟨c0, i0, hK0⟩ := u_known (C := RX0) (T := TX0) (N := 9) (n := 9) hts (fun w hw => (lay_0 w hw).1) (hts _ tw_4_11)
  obtain ⟨c1, i1, hK1⟩ := u_known (C := RX1) (T := TX1) (N := 7) (n := 7) hts (fun w hw => (lay_1 w hw).1) (hts _ tw_4_77)
  obtain ⟨c2, i2, hK2⟩ := u_known (C := RX2) (T := TX2) (N := 3) (n := 3) hts (fun w hw => (lay_2 w hw).1) (hts _ tw_3_212)
  obtain ⟨c3, i3, hK3⟩ := u_known (C := RX3) (T := TX3) (N := 8) (n := 8) hts (fun w hw => (lay_3 w hw).1) (hts _ tw_3_148)
  obtain ⟨c4, i4, hK4⟩ := u_known (C := RX4) (T := TX4) (N := 4) (n := 4) hts (fun w hw => (lay_4 w hw).1) (hts _ tw_4_147)
  obtain ⟨c5, i5, hK5⟩ := u_known (C := RX5) (T := TX5) (N := 8) (n := 8) hts (fun w hw => (lay_5 w hw).1) (hts _ tw_1_31)
  obtain ⟨c6, i6, hK6⟩ := u_known (C := RX6) (T := TX6) (N := 22) (n := 22) hts (fun w hw => (lay_6 w hw).1) (hts _ tw_5_84)
  obtain ⟨c7, i7, hK7⟩ := u_known (C := RJx4a65c) (T := TJx4a65c) (N := 3) (n := 3) hts (fun w hw => (lay_7 w hw).1) (hts _ tw_1_39)
  obtain ⟨a0, k0, p0, f0, g0, h0⟩ := Cond.arrayClass_spec (hts _ tw_3_190)
  obtain ⟨a1, k1, p1, f1, g1, h1⟩ := Cond.arrayClass_spec (hts _ tw_5_156)
  obtain ⟨a2, k2, p2, f2, g2, h2⟩ := Cond.arrayClass_spec (hts _ tw_6_129)
  obtain ⟨a3, k3, p3, f3, g3, h3⟩ := Cond.arrayClass_spec (hts _ tw_6_130)
  obtain ⟨p4, a4, k4, e4, f4, g4, h4, m4⟩ := Cond.arrayOver_spec (hts _ tw_3_45)
  have hA : ∀ a : Nat, a < s.heap.size → ¬ (fun q : Nat => s.heap.size ≤ q) a := fun a h => Nat.not_le.mpr h
  obtain ⟨E0, hE1, hE2⟩ := va_Tof (A := fun q : Nat => s.heap.size ≤ q) (tm := Term.static "java/util/ArrayList" "DEFAULTCAPACITY_EMPTY_ELEMENTDATA" "[Ljava/lang/Object;") (ty := .object "java/lang/Object") (N := 0) (f := fun _ => .null) (by decide) (flat_of_before _ hgv _ (by decide +kernel)) (va_eqt (z := 0) (flat_of_before _ hgv _ (by decide +kernel))) (fun j hj => absurd hj (Nat.not_lt_zero j)) hA
  have hZ : va_Z "java/util/ArrayList" "DEFAULTCAPACITY_EMPTY_ELEMENTDATA" "[Ljava/lang/Object;" (.ref E0) (fun q : Nat => s.heap.size ≤ q) s s.heap := va_Zof (hts _ tw_1_51) (hts _ tw_1_4) hE1 hA
  refine ⟨(fun k => match k with | 0 => c0 | 1 => c1 | 2 => c2 | 3 => c3 | 4 => c4 | 5 => c5 | 6 => c6 | _ => c7, fun k => match k with | 0 => i0 | 1 => i1 | 2 => i2 | 3 => i3 | 4 => i4 | 5 => i5 | 6 => i6 | _ => i7), fun k => match k with | 0 => a0 | 1 => a1 | 2 => a2 | 3 => a3 | _ => a4, E0, hts, ⟨fun k q hq => ?_, fun k q hq => ?_⟩, hflags, hgv, hZ, hE2⟩
  · match k, hq with
    | 0, hq => cases hq; exact hK0
    | 1, hq => cases hq; exact hK1
    | 2, hq => cases hq; exact hK2
    | 3, hq => cases hq; exact hK3
    | 4, hq => cases hq; exact hK4
    | 5, hq => cases hq; exact hK5
    | 6, hq => cases hq; exact hK6
    | 7, hq => cases hq; exact hK7
    | k + 8, hq => simp [gcl] at hq
  · match k, hq with
    | 0, hq => cases hq; exact ⟨arr_of g0 h0, f0⟩
    | 1, hq => cases hq; exact ⟨arr_of g1 h1, f1⟩
    | 2, hq => cases hq; exact ⟨arr_of g2 h2, f2⟩
    | 3, hq => cases hq; exact ⟨arr_of g3 h3, f3⟩
    | 4, hq => cases hq; exact ⟨arr_of g4 h4, k4, p4, g4, h4, e4, m4⟩
    | k + 5, hq => simp [atys] at hq
def S00 : PS := ([], fun _ => 0, fun _ _ => 0, fun _ _ => none, fun _ => 0, fun _ _ => 0, fun _ _ => 0, fun _ _ => 0, fun _ _ => none, fun _ => 0)
theorem law_body {Γ : GBase} {X : Cx} {L : Nat} {xs : Nat → Int32} (C : GC Γ X code 9 "CueBookLaw" 12 601024 7293034) (hX : LScr Γ X L xs) (hend : ∀ (S : PS) (kc nc : Nat) (loc : List (Nat × Value)), kc ≤ 601024 → nc ≤ 7293034 → GW Γ X S kc nc 1573 loc [.int 1]) : GW Γ X S00 0 0 0 [(0, .ref (bB Γ))] [] := by
  refine g_new C kd_5 tw_1_30 tw_1_31 tw_1_1 (by omega) (by omega) dL_law_0 (fun x hx => ?_)
  refine g_dup C dL_law_3 rfl ?_
  refine g_callI C gy_X5_init tw_1_32 tw_1_33 rfl rfl (by decide) (m_Book_init C.F _ x al_nO) rfl rfl (Nat.le_of_ble_eq_true rfl) (by omega) (by omega) dL_law_4 ?_
  rintro _ _ ⟨rfl, hI1, hF1⟩
  rename_i S1
  refine g_astore_n C dL_law_7 rfl (by decide) rfl ?_
  refine g_new C kd_6 tw_5_83 tw_5_84 tw_1_5 (by omega) (by omega) dL_law_8 (fun m hm => ?_)
  refine g_dup C dL_law_11 rfl ?_
  have hzm : ∀ f, pI (nO S1 m 6) f m = 0 := fun f => by simp [pI, nO]
  refine g_callI C gy_X6_init tw_5_85 tw_5_86 rfl rfl (by decide) (md_init C.F _ m al_nO hzm) rfl rfl (Nat.le_of_ble_eq_true rfl) (by omega) (by omega) dL_law_12 ?_
  rintro _ _ ⟨rfl, hF2, rr, hM2⟩
  rename_i S2
  have hF12 : Fr S1 S2 maN maN := fr_newobj hm hF2
  have hI2 : BkI Γ S2 x A0 B0 := hI1.frA hF12 (fun f b k hb hk e => e) (fun T o hT ho hw e => e)
  refine g_astore_n C dL_law_15 rfl (by decide) rfl ?_
  refine g_iconst C dL_law_16 (v := 1) (by decide) ?_
  rw [show (1 : Int32) = nI 1 from rfl]
  refine g_naJ C rfl (by omega) (by omega) (by omega) dL_law_17 (fun o ho => ?_)
  refine g_own o m ?_
  have hF3 : FrB S2 (uW (nA S2 o 10 1) o m) := fr_own ho
  have hI3 : BkI Γ (uW (nA S2 o 10 1) o m) x A0 B0 := hI2.frA (fr_own ho (mo := maN) (ma := maN)) (fun f b k hb hk e => e) (fun T o hT ho hw e => e)
  have hM3 := hM2.frB hF3
  have ho1 : al (uW (nA S2 o 10 1) o m) o 10 := al_nA (S := S2) (m := 1)
  have ho2 : pN (uW (nA S2 o 10 1) o m) o = 1 := nA_Nq (S := S2) (q := o) (k := 10) (m := 1)
  have ho3 : pW (uW (nA S2 o 10 1) o m) o = m := uW_q
  generalize uW (nA S2 o 10 1) o m = S3 at hF3 hI3 hM3 ho1 ho2 ho3 ⊢
  refine g_astore_n C dL_law_19 rfl (by decide) rfl ?_
  refine g_iconst C dL_law_20 (v := 1) (by decide) ?_
  rw [show (1 : Int32) = nI 1 from rfl]
  refine g_naD C rfl (by omega) (by omega) (by omega) dL_law_21 (fun od hod => ?_)
  refine g_own od m ?_
  have hF4 : FrB S3 (uW (nA S3 od 11 1) od m) := fr_own hod
  have hI4 : BkI Γ (uW (nA S3 od 11 1) od m) x A0 B0 := hI3.frA (fr_own hod (mo := maN) (ma := maN)) (fun f b k hb hk e => e) (fun T o hT ho hw e => e)
  have hM4 := hM3.frB hF4
  have hLI : LI Γ (uW (nA S3 od 11 1) od m) x m o od B0 := ⟨⟨A0, hI4⟩, ⟨rr, hM4⟩, ho1.fr hF4, (hF4 o ho1.1).2.2.1.trans ho2, (hF4 o ho1.1).2.2.2.1.trans ho3, al_nA (S := S3) (m := 1), nA_Nq (S := S3) (q := od) (k := 11) (m := 1), uW_q⟩
  generalize uW (nA S3 od 11 1) od m = S4 at hLI ⊢
  have hL := hX.2.2.2
  refine g_astore C dL_law_23 (by decide) rfl ?_
  refine g_iconst C dL_law_25 (v := 0) (by decide) ?_
  refine g_istore C dL_law_26 (by decide) rfl ?_
  refine g_widen 30 30000 (by omega) (by omega) ?_
  refine g_sub [(0, _), (1, _), (2, _), (3, _), (4, _), (5, _)] ⟨rfl, rfl, rfl, rfl, rfl, rfl, trivial⟩ ?_
  exact law_loop C hX hend 512 0 30 30000 S4 B0 (by omega) (by omega) (by omega) (by omega) hLI
/-- YOUR PART: from the entry, for every script of at most 2560 ints, the law comes to its end with true ('hflags': the launch's flags, for a law that throws: no stack traces) -/
theorem whole_start {p : Program} {e : Env} {s : State} {m : MethodId} {below : List Frame} {meth : Method} {c : Code} (l : Launch) (hflags : l.flags = flags0) {b L : Nat} {xs : Nat → Int32} (hL : L ≤ 2560) (C0 : lw_At p s m meth c b L xs) : W p l e room_1 s m #[Value.ref b] below meth c s.heap [] 0 0 (lw_Z below #[Value.ref b] s) (entryFrame m ([Value.ref b] : List Value).toArray 9) := by
  obtain ⟨hx, hb, hr, hml, hown, hts, hX, hbl, hlocks, hgv⟩ := id C0
  obtain ⟨D, cy, E0, hF⟩ := fb_start (l := l) hflags hts hgv
  obtain ⟨Γ, hΓ⟩ : ∃ Γ : GBase, Γ = (s, D, cy, l, b, E0) := ⟨_, rfl⟩
  have F : FB Γ := by rw [hΓ]; exact hF
  obtain ⟨X, hXe⟩ : ∃ X : Cx, X = (p, e, room_1, s, m, #[Value.ref b], below, meth, c, lw_Z below #[Value.ref b] s) := ⟨_, rfl⟩
  have C : GC Γ X code 9 "CueBookLaw" 12 601024 7293034 := by
    rw [hXe, hΓ]
    exact ⟨hx, hb, hml, hown, State.WarmedH.refl s, Nat.le_refl _, fun _ _ => rfl, hF, hlocks, by show 20 * 13 ≤ 2048; omega, by show 400 * 13 ≤ 84000; omega, rfl, rfl⟩
  have hS : LScr Γ X L xs := by
    rw [hXe, hΓ]
    exact ⟨hX, hbl, Nat.not_le.mpr hbl, hL⟩
  have hend : ∀ (S : PS) (kc nc : Nat) (loc : List (Nat × Value)), kc ≤ 601024 → nc ≤ 7293034 → GW Γ X S kc nc 1573 loc [.int 1] := by
    intro S kc nc loc hk hn H locs ls hP hD hS hl
    rw [hXe, hΓ] at *
    refine va_forget (fun q hq => hS.2.2 q hq) ?_
    refine W.widen hk hn ?_
    refine W.base ?_
    exact lw_ret (Drawn.sameBut.refl s.drawn lw_cs) hx hb hr hlocks dL_law_1573
  have K := law_body C hS hend
  rw [hXe, hΓ] at K
  rw [lg_entry_eq]
  have hl := lh_entry [Value.ref b] (n := 9) (Nat.le_of_ble_eq_true rfl)
  rw [← hml] at hl
  have K2 := K s.heap [] _ (fun k q h => by simp [pw, va_pl, pL, S00] at h) ⟨fun i j p q h => by simp [pw, va_pl, pL, S00] at h, fun k q h => by simp [pw, va_pl, pL, S00] at h⟩ va_S.rf hl
  rw [hml] at K2
  exact K2
