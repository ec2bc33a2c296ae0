/-! ===== the judgement over the pool, and a row for each instruction ===== -/
/-- what all walks stand on: the law's start, the class numbers, the array classes' numbers, the launch, the script's address, the empty row of lists -/
abbrev GBase : Type := State × va_G × (Nat → ClassId) × Launch × Nat × Nat
def bS (Γ : GBase) : State := Γ.1
def bD (Γ : GBase) : va_G := Γ.2.1
def bC (Γ : GBase) : Nat → ClassId := Γ.2.2.1
def bL (Γ : GBase) : Launch := Γ.2.2.2.1
def bB (Γ : GBase) : Nat := Γ.2.2.2.2.1
def bE (Γ : GBase) : Nat := Γ.2.2.2.2.2
def AA (Γ : GBase) : Nat → Prop := fun q => (bS Γ).heap.size ≤ q
/-- what holds at the law's start -/
def FB (Γ : GBase) : Prop := (∀ w ∈ lw_tbl, w.before #[Value.ref (bB Γ)] (bS Γ) = true) ∧ va_K (bD Γ) gcl (atys (bC Γ)) (bS Γ) ∧ (bL Γ).flags = flags0 ∧ (Jvm.Cond.and given_1 narrow_1).before #[Value.ref (bB Γ)] (bS Γ) = true ∧ va_Z "java/util/ArrayList" "DEFAULTCAPACITY_EMPTY_ELEMENTDATA" "[Ljava/lang/Object;" (.ref (bE Γ)) (AA Γ) (bS Γ) (bS Γ).heap ∧ va_T (.object "java/lang/Object") (bE Γ) 0 (fun _ => .null) (AA Γ) (bS Γ) (bS Γ).heap
/-- the world at a state -/
def GU (Γ : GBase) (S : PS) (U : State) : Prop := (bS Γ).WarmedH U.vm ∧ (bS Γ).heap.size ≤ U.heap.size ∧ (∀ q : Nat, q < (bS Γ).heap.size → U.heap[q]? = (bS Γ).heap[q]?) ∧ va_P (bD Γ) gcl (pw (bC Γ) S) U.heap ∧ va_D (AA Γ) (pw (bC Γ) S)
abbrev Cx : Type := Program × Env × Room × State × MethodId × Array Value × List Frame × Method × Code × (State → Prop)
def rmv (lvl mc ms : Nat) : Room := { frames := (lvl + 1), cells := mc, slots := ms, locals := (40 * lvl + 138) }
/-- what a body stands on -/
def GC (Γ : GBase) (X : Cx) (cc : ByteArray) (nL : Nat) (own : String) (lvl mc ms : Nat) : Prop :=
  X.1.tables.exec = Jvm.exec ∧ X.2.2.2.2.2.2.2.2.1.code = cc ∧ X.2.2.2.2.2.2.2.2.1.maxLocals = nL ∧ X.2.2.2.1.vm.findClass own = some X.2.2.2.2.1.cls ∧ (bS Γ).WarmedH X.2.2.2.1.vm ∧ (bS Γ).heap.size ≤ X.2.2.2.1.heap.size ∧ (∀ q : Nat, q < (bS Γ).heap.size → X.2.2.2.1.heap[q]? = (bS Γ).heap[q]?) ∧ FB Γ ∧ X.2.2.2.2.2.2.2.1.locks = false ∧ (lvl + 1) ≤ X.2.2.1.frames ∧ (40 * lvl + 138) ≤ X.2.2.1.locals ∧ X.2.2.1.cells = mc ∧ X.2.2.1.slots = ms
theorem GC.hx {Γ : GBase} {X : Cx} {cc : ByteArray} {nL : Nat} {own : String} {lvl mc ms : Nat} (C : GC Γ X cc nL own lvl mc ms) : X.1.tables.exec = Jvm.exec := C.1
theorem GC.hb {Γ : GBase} {X : Cx} {cc : ByteArray} {nL : Nat} {own : String} {lvl mc ms : Nat} (C : GC Γ X cc nL own lvl mc ms) : X.2.2.2.2.2.2.2.2.1.code = cc := C.2.1
theorem GC.hml {Γ : GBase} {X : Cx} {cc : ByteArray} {nL : Nat} {own : String} {lvl mc ms : Nat} (C : GC Γ X cc nL own lvl mc ms) : X.2.2.2.2.2.2.2.2.1.maxLocals = nL := C.2.2.1
theorem GC.hown {Γ : GBase} {X : Cx} {cc : ByteArray} {nL : Nat} {own : String} {lvl mc ms : Nat} (C : GC Γ X cc nL own lvl mc ms) : X.2.2.2.1.vm.findClass own = some X.2.2.2.2.1.cls := C.2.2.2.1
theorem GC.hW {Γ : GBase} {X : Cx} {cc : ByteArray} {nL : Nat} {own : String} {lvl mc ms : Nat} (C : GC Γ X cc nL own lvl mc ms) : (bS Γ).WarmedH X.2.2.2.1.vm := C.2.2.2.2.1
theorem GC.hN {Γ : GBase} {X : Cx} {cc : ByteArray} {nL : Nat} {own : String} {lvl mc ms : Nat} (C : GC Γ X cc nL own lvl mc ms) : (bS Γ).heap.size ≤ X.2.2.2.1.heap.size := C.2.2.2.2.2.1
theorem GC.hq {Γ : GBase} {X : Cx} {cc : ByteArray} {nL : Nat} {own : String} {lvl mc ms : Nat} (C : GC Γ X cc nL own lvl mc ms) : ∀ q : Nat, q < (bS Γ).heap.size → X.2.2.2.1.heap[q]? = (bS Γ).heap[q]? := C.2.2.2.2.2.2.1
theorem GC.F {Γ : GBase} {X : Cx} {cc : ByteArray} {nL : Nat} {own : String} {lvl mc ms : Nat} (C : GC Γ X cc nL own lvl mc ms) : FB Γ := C.2.2.2.2.2.2.2.1
theorem GC.locks {Γ : GBase} {X : Cx} {cc : ByteArray} {nL : Nat} {own : String} {lvl mc ms : Nat} (C : GC Γ X cc nL own lvl mc ms) : X.2.2.2.2.2.2.2.1.locks = false := C.2.2.2.2.2.2.2.2.1
theorem GC.rf {Γ : GBase} {X : Cx} {cc : ByteArray} {nL : Nat} {own : String} {lvl mc ms : Nat} (C : GC Γ X cc nL own lvl mc ms) : (lvl + 1) ≤ X.2.2.1.frames := C.2.2.2.2.2.2.2.2.2.1
theorem GC.rl {Γ : GBase} {X : Cx} {cc : ByteArray} {nL : Nat} {own : String} {lvl mc ms : Nat} (C : GC Γ X cc nL own lvl mc ms) : (40 * lvl + 138) ≤ X.2.2.1.locals := C.2.2.2.2.2.2.2.2.2.2.1
theorem GC.rc {Γ : GBase} {X : Cx} {cc : ByteArray} {nL : Nat} {own : String} {lvl mc ms : Nat} (C : GC Γ X cc nL own lvl mc ms) : X.2.2.1.cells = mc := C.2.2.2.2.2.2.2.2.2.2.2.1
theorem GC.rs {Γ : GBase} {X : Cx} {cc : ByteArray} {nL : Nat} {own : String} {lvl mc ms : Nat} (C : GC Γ X cc nL own lvl mc ms) : X.2.2.1.slots = ms := C.2.2.2.2.2.2.2.2.2.2.2.2
theorem GC.tw {Γ : GBase} {X : Cx} {cc : ByteArray} {nL : Nat} {own : String} {lvl mc ms : Nat} (C : GC Γ X cc nL own lvl mc ms) {w : Cond} (h : w ∈ lw_tbl) (g : goodWord w = true) : w.before X.2.2.2.2.2.1 X.2.2.2.1 = true := word_at C.hW (good_of_word g) (C.F.1 w h)
theorem GC.hK {Γ : GBase} {X : Cx} {cc : ByteArray} {nL : Nat} {own : String} {lvl mc ms : Nat} (C : GC Γ X cc nL own lvl mc ms) : va_K (bD Γ) gcl (atys (bC Γ)) X.2.2.2.1 := va_K.moved C.hW.alike C.F.2.1
theorem GC.hA {Γ : GBase} {X : Cx} {cc : ByteArray} {nL : Nat} {own : String} {lvl mc ms : Nat} (C : GC Γ X cc nL own lvl mc ms) : ∀ q, X.2.2.2.1.heap.size ≤ q → AA Γ q := fun _ h => Nat.le_trans C.hN h
/-- locals: the first entry of a place counts -/
def lk : List (Nat × Value) → Nat → Option Value
  | [], _ => none
  | (j, v) :: l, i => if j = i then some v else lk l i
def lh (ls : Array Slot) (n : Nat) (loc : List (Nat × Value)) : Prop := ls.size = n ∧ lv_wf ls ∧ ∀ i v, lk loc i = some v → ls[i]? = some (.val v)
/-- nothing of two slots ends at the place i -/
def oks (loc : List (Nat × Value)) : Nat → Bool
  | 0 => true
  | i + 1 => match lk loc i with
    | some w => w.category == 1
    | none => true
def lsub (loc : List (Nat × Value)) : List (Nat × Value) → Prop
  | [] => True
  | (i, v) :: r => lk loc i = some v ∧ lsub loc r
theorem lsub_lk {loc : List (Nat × Value)} : ∀ {l : List (Nat × Value)}, lsub loc l → ∀ i v, lk l i = some v → lk loc i = some v := by
  intro l
  induction l with
  | nil => intro _ i v h; simp [lk] at h
  | cons q r ih =>
    obtain ⟨j, w⟩ := q
    intro h i v hv
    simp only [lk] at hv
    by_cases hj : j = i
    · rw [if_pos hj] at hv
      cases hv
      rw [← hj]
      exact h.1
    · rw [if_neg hj] at hv
      exact ih h.2 i v hv
theorem lh_sub {ls : Array Slot} {n : Nat} {loc l : List (Nat × Value)} (h : lh ls n loc) (hs : lsub loc l) : lh ls n l := ⟨h.1, h.2.1, fun i v hv => h.2.2 i v (lsub_lk hs i v hv)⟩
def leff (loc : List (Nat × Value)) : List (Nat × Value) := loc.filterMap (fun q => (lk loc q.1).map (fun v => (q.1, v)))
theorem leff_mem {loc : List (Nat × Value)} {i : Nat} {v : Value} (h : lk loc i = some v) : (i, v) ∈ leff loc := by
  have h2 : ∃ w, (i, w) ∈ loc := by
    have : ∀ (l : List (Nat × Value)), lk l i = some v → ∃ w, (i, w) ∈ l := by
      intro l
      induction l with
      | nil => intro h; simp [lk] at h
      | cons q r ih =>
        obtain ⟨j, w⟩ := q
        intro h
        simp only [lk] at h
        by_cases hj : j = i
        · exact ⟨w, by rw [hj]; exact List.mem_cons_self⟩
        · rw [if_neg hj] at h
          obtain ⟨w', hw⟩ := ih h
          exact ⟨w', List.mem_cons_of_mem _ hw⟩
    exact this loc h
  obtain ⟨w, hw⟩ := h2
  exact List.mem_filterMap.mpr ⟨(i, w), hw, by simp [h]⟩
theorem lh_has {ls : Array Slot} {n : Nat} {loc : List (Nat × Value)} (h : lh ls n loc) : lv_has ls n (leff loc) := by
  refine ⟨h.1, h.2.1, fun q hq => ?_⟩
  obtain ⟨p, -, hp⟩ := List.mem_filterMap.mp hq
  cases hv : lk loc p.1 with
  | none => rw [hv] at hp; cases hp
  | some v => rw [hv] at hp; cases hp; exact h.2.2 _ _ hv
theorem has_lh1 {ls : Array Slot} {n : Nat} {loc : List (Nat × Value)} {i : Nat} {v : Value} (ho : oks loc i = true) (h : lv_has ls n ((i, v) :: (leff loc).filter (fun q => !(q.1 == i) && !(q.1 + 1 == i && q.2.category == 2)))) : lh ls n ((i, v) :: loc) := by
  refine ⟨h.1, h.2.1, fun j w hw => ?_⟩
  simp only [lk] at hw
  by_cases hj : i = j
  · rw [if_pos hj] at hw
    cases hw
    rw [← hj]
    exact h.2.2 _ List.mem_cons_self
  · rw [if_neg hj] at hw
    refine h.2.2 (j, w) (List.mem_cons_of_mem _ (List.mem_filter.mpr ⟨leff_mem hw, ?_⟩))
    have hji : ¬ j = i := fun q => hj q.symm
    simp only [Bool.and_eq_true, Bool.not_eq_true', beq_eq_false_iff_ne, ne_eq, hji, not_false_eq_true, true_and, Bool.and_eq_false_iff]
    by_cases hji2 : j + 1 = i
    · right
      subst hji2
      simp only [oks, hw, beq_iff_eq] at ho
      omega
    · exact Or.inl hji2
theorem has_lh2 {ls : Array Slot} {n : Nat} {loc : List (Nat × Value)} {i : Nat} {v : Value} (ho : oks loc i = true) (hn : lk loc (i + 1) = none) (h : lv_has ls n ((i, v) :: (leff loc).filter (fun q => !(q.1 == i) && (!(q.1 == i + 1) && !(q.1 + 1 == i && q.2.category == 2))))) : lh ls n ((i, v) :: loc) := by
  refine ⟨h.1, h.2.1, fun j w hw => ?_⟩
  simp only [lk] at hw
  by_cases hj : i = j
  · rw [if_pos hj] at hw
    cases hw
    rw [← hj]
    exact h.2.2 _ List.mem_cons_self
  · rw [if_neg hj] at hw
    refine h.2.2 (j, w) (List.mem_cons_of_mem _ (List.mem_filter.mpr ⟨leff_mem hw, ?_⟩))
    have hji : ¬ j = i := fun q => hj q.symm
    have hj1 : ¬ j = i + 1 := fun q => by rw [q, hn] at hw; cases hw
    simp only [Bool.and_eq_true, Bool.not_eq_true', beq_eq_false_iff_ne, ne_eq, hji, hj1, not_false_eq_true, true_and, Bool.and_eq_false_iff]
    by_cases hji2 : j + 1 = i
    · right
      subst hji2
      simp only [oks, hw, beq_iff_eq] at ho
      omega
    · exact Or.inl hji2
theorem lh_entry (vs : List Value) {n : Nat} (h : (lg_sl vs).length ≤ n) : lh ((lg_sl vs ++ List.replicate (n - (lg_sl vs).length) Slot.unset).toArray) n (lv_args 0 vs) := by
  have h1 := lv_entry vs h
  refine ⟨h1.1, h1.2.1, fun i v hv => ?_⟩
  have : ∀ (l : List (Nat × Value)), lk l i = some v → (i, v) ∈ l := by
    intro l
    induction l with
    | nil => intro h; simp [lk] at h
    | cons q r ih =>
      obtain ⟨j, w⟩ := q
      intro h
      simp only [lk] at h
      by_cases hj : j = i
      · rw [if_pos hj] at h
        cases h
        rw [hj]
        exact List.mem_cons_self
      · rw [if_neg hj] at h
        exact List.mem_cons_of_mem _ (ih h)
  exact h1.2.2 _ (this _ hv)
/-- the judgement: pool S, k cells and n slots made so far, the frame at pc -/
def GW (Γ : GBase) (X : Cx) (S : PS) (k n pc : Nat) (loc : List (Nat × Value)) (st : List Value) : Prop :=
  ∀ (H : Heap) (locs : List Loc) (ls : Array Slot), va_P (bD Γ) gcl (pw (bC Γ) S) H → va_D (AA Γ) (pw (bC Γ) S) → va_S (AA Γ) X.2.2.2.1.heap H locs → lh ls X.2.2.2.2.2.2.2.2.1.maxLocals loc →
    W X.1 (bL Γ) X.2.1 X.2.2.1 X.2.2.2.1 X.2.2.2.2.1 X.2.2.2.2.2.1 X.2.2.2.2.2.2.1 X.2.2.2.2.2.2.2.1 X.2.2.2.2.2.2.2.2.1 H locs k n X.2.2.2.2.2.2.2.2.2 (F0 X.2.2.2.2.1 pc ls st)
section GRows
variable {Γ : GBase} {X : Cx} {cc : ByteArray} {nL : Nat} {own : String} {lvl mc ms : Nat} {S : PS} {k n pc : Nat} {loc : List (Nat × Value)} {st : List Value}
theorem g_pc {pc' : Nat} (h : pc = pc') (kk : GW Γ X S k n pc' loc st) : GW Γ X S k n pc loc st := h ▸ kk
theorem g_sub (l : List (Nat × Value)) (hs : lsub loc l) (kk : GW Γ X S k n pc l st) : GW Γ X S k n pc loc st := fun H locs ls hP hD hS hl => kk H locs ls hP hD hS (lh_sub hl hs)
theorem g_widen (k' n' : Nat) (h1 : k ≤ k') (h2 : n ≤ n') (kk : GW Γ X S k' n' pc loc st) : GW Γ X S k n pc loc st := fun H locs ls hP hD hS hl => W.widen h1 h2 (kk H locs ls hP hD hS hl)

theorem g_iconst (C : GC Γ X cc nL own lvl mc ms) {i : Int} {v : Int32} (d : decode cc pc = .ok (.iconst i, 1)) (h : Int32.ofInt i = v) (kk : GW Γ X S k n (pc + 1) loc (.int v :: st)) : GW Γ X S k n pc loc (st) := fun H locs ls hP hD hS hl => lv_iconst C.hx C.hb d h (kk H locs ls hP hD hS hl)
theorem g_bipush (C : GC Γ X cc nL own lvl mc ms) {i : Int} {v : Int32} (d : decode cc pc = .ok (.bipush i, 2)) (h : (Int8.ofInt i).toInt32 = v) (kk : GW Γ X S k n (pc + 2) loc (.int v :: st)) : GW Γ X S k n pc loc (st) := fun H locs ls hP hD hS hl => lv_bipush C.hx C.hb d h (kk H locs ls hP hD hS hl)
theorem g_sipush (C : GC Γ X cc nL own lvl mc ms) {i : Int} {v : Int32} (d : decode cc pc = .ok (.sipush i, 3)) (h : (Int16.ofInt i).toInt32 = v) (kk : GW Γ X S k n (pc + 3) loc (.int v :: st)) : GW Γ X S k n pc loc (st) := fun H locs ls hP hD hS hl => lv_sipush C.hx C.hb d h (kk H locs ls hP hD hS hl)
theorem g_lconst (C : GC Γ X cc nL own lvl mc ms) {i : Fin 2} {v : Int64} (d : decode cc pc = .ok (.lconst i, 1)) (h : Int64.ofNat (i : Nat) = v) (kk : GW Γ X S k n (pc + 1) loc (.long v :: st)) : GW Γ X S k n pc loc (st) := fun H locs ls hP hD hS hl => lv_lconst C.hx C.hb d h (kk H locs ls hP hD hS hl)
theorem g_dconst0 (C : GC Γ X cc nL own lvl mc ms)  (d : decode cc pc = .ok (.dconst 0, 1))  (kk : GW Γ X S k n (pc + 1) loc (.double 0 :: st)) : GW Γ X S k n pc loc (st) := fun H locs ls hP hD hS hl => lv_dconst0 C.hx C.hb d  (kk H locs ls hP hD hS hl)
theorem g_null (C : GC Γ X cc nL own lvl mc ms)  (d : decode cc pc = .ok (.aconst_null, 1))  (kk : GW Γ X S k n (pc + 1) loc (.null :: st)) : GW Γ X S k n pc loc (st) := fun H locs ls hP hD hS hl => lv_null C.hx C.hb d  (kk H locs ls hP hD hS hl)
theorem g_iload (C : GC Γ X cc nL own lvl mc ms) {i : Nat} {x : Int32} (d : decode cc pc = .ok (.iload i, 2)) (h : lk loc i = some (.int x)) (kk : GW Γ X S k n (pc + 2) loc (.int x :: st)) : GW Γ X S k n pc loc (st) := fun H locs ls hP hD hS hl => lv_iload C.hx C.hb d (hl.2.2 i _ h) (kk H locs ls hP hD hS hl)
theorem g_iload_n (C : GC Γ X cc nL own lvl mc ms) {i : Nat} {j : Fin 4} {x : Int32} (d : decode cc pc = .ok (.iload_n j, 1)) (hi : (j : Nat) = i) (h : lk loc i = some (.int x)) (kk : GW Γ X S k n (pc + 1) loc (.int x :: st)) : GW Γ X S k n pc loc (st) := fun H locs ls hP hD hS hl => lv_iload_n C.hx C.hb d hi (hl.2.2 i _ h) (kk H locs ls hP hD hS hl)
theorem g_lload (C : GC Γ X cc nL own lvl mc ms) {i : Nat} {x : Int64} (d : decode cc pc = .ok (.lload i, 2)) (h : lk loc i = some (.long x)) (kk : GW Γ X S k n (pc + 2) loc (.long x :: st)) : GW Γ X S k n pc loc (st) := fun H locs ls hP hD hS hl => lv_lload C.hx C.hb d (hl.2.2 i _ h) (kk H locs ls hP hD hS hl)
theorem g_lload_n (C : GC Γ X cc nL own lvl mc ms) {i : Nat} {j : Fin 4} {x : Int64} (d : decode cc pc = .ok (.lload_n j, 1)) (hi : (j : Nat) = i) (h : lk loc i = some (.long x)) (kk : GW Γ X S k n (pc + 1) loc (.long x :: st)) : GW Γ X S k n pc loc (st) := fun H locs ls hP hD hS hl => lv_lload_n C.hx C.hb d hi (hl.2.2 i _ h) (kk H locs ls hP hD hS hl)
theorem g_dload (C : GC Γ X cc nL own lvl mc ms) {i : Nat} {x : UInt64} (d : decode cc pc = .ok (.dload i, 2)) (h : lk loc i = some (.double x)) (kk : GW Γ X S k n (pc + 2) loc (.double x :: st)) : GW Γ X S k n pc loc (st) := fun H locs ls hP hD hS hl => lv_dload C.hx C.hb d (hl.2.2 i _ h) (kk H locs ls hP hD hS hl)
theorem g_dload_n (C : GC Γ X cc nL own lvl mc ms) {i : Nat} {j : Fin 4} {x : UInt64} (d : decode cc pc = .ok (.dload_n j, 1)) (hi : (j : Nat) = i) (h : lk loc i = some (.double x)) (kk : GW Γ X S k n (pc + 1) loc (.double x :: st)) : GW Γ X S k n pc loc (st) := fun H locs ls hP hD hS hl => lv_dload_n C.hx C.hb d hi (hl.2.2 i _ h) (kk H locs ls hP hD hS hl)
theorem g_aload (C : GC Γ X cc nL own lvl mc ms) {i : Nat} {x : Nat} (d : decode cc pc = .ok (.aload i, 2)) (h : lk loc i = some (.ref x)) (kk : GW Γ X S k n (pc + 2) loc (.ref x :: st)) : GW Γ X S k n pc loc (st) := fun H locs ls hP hD hS hl => lv_aload C.hx C.hb d (hl.2.2 i _ h) (kk H locs ls hP hD hS hl)
theorem g_aload_n (C : GC Γ X cc nL own lvl mc ms) {i : Nat} {j : Fin 4} {x : Nat} (d : decode cc pc = .ok (.aload_n j, 1)) (hi : (j : Nat) = i) (h : lk loc i = some (.ref x)) (kk : GW Γ X S k n (pc + 1) loc (.ref x :: st)) : GW Γ X S k n pc loc (st) := fun H locs ls hP hD hS hl => lv_aload_n C.hx C.hb d hi (hl.2.2 i _ h) (kk H locs ls hP hD hS hl)
theorem g_aloadN (C : GC Γ X cc nL own lvl mc ms) {i : Nat} (d : decode cc pc = .ok (.aload i, 2)) (h : lk loc i = some .null) (kk : GW Γ X S k n (pc + 2) loc (.null :: st)) : GW Γ X S k n pc loc (st) := fun H locs ls hP hD hS hl => lv_aloadN C.hx C.hb d (hl.2.2 i _ h) (kk H locs ls hP hD hS hl)
theorem g_aload_nN (C : GC Γ X cc nL own lvl mc ms) {i : Nat} {j : Fin 4} (d : decode cc pc = .ok (.aload_n j, 1)) (hi : (j : Nat) = i) (h : lk loc i = some .null) (kk : GW Γ X S k n (pc + 1) loc (.null :: st)) : GW Γ X S k n pc loc (st) := fun H locs ls hP hD hS hl => lv_aload_nN C.hx C.hb d hi (hl.2.2 i _ h) (kk H locs ls hP hD hS hl)
theorem g_istore (C : GC Γ X cc nL own lvl mc ms) {i : Nat} {x : Int32} (d : decode cc pc = .ok (.istore i, 2)) (hn : i < nL) (ho : oks loc i = true) (kk : GW Γ X S k n (pc + 2) ((i, .int x) :: loc) st) : GW Γ X S k n pc loc (.int x :: st) := fun H locs ls hP hD hS hl => lv_istore C.hx C.hb d (lh_has hl) (by rw [C.hml]; exact hn) rfl (fun ls' h' => kk H locs ls' hP hD hS (has_lh1 ho h'))
theorem g_istore_n (C : GC Γ X cc nL own lvl mc ms) {i : Nat} {j : Fin 4} {x : Int32} (d : decode cc pc = .ok (.istore_n j, 1)) (hi : (j : Nat) = i) (hn : i < nL) (ho : oks loc i = true) (kk : GW Γ X S k n (pc + 1) ((i, .int x) :: loc) st) : GW Γ X S k n pc loc (.int x :: st) := fun H locs ls hP hD hS hl => lv_istore_n C.hx C.hb d hi (lh_has hl) (by rw [C.hml]; exact hn) rfl (fun ls' h' => kk H locs ls' hP hD hS (has_lh1 ho h'))
theorem g_astore (C : GC Γ X cc nL own lvl mc ms) {i : Nat} {x : Nat} (d : decode cc pc = .ok (.astore i, 2)) (hn : i < nL) (ho : oks loc i = true) (kk : GW Γ X S k n (pc + 2) ((i, .ref x) :: loc) st) : GW Γ X S k n pc loc (.ref x :: st) := fun H locs ls hP hD hS hl => lv_astore C.hx C.hb d (lh_has hl) (by rw [C.hml]; exact hn) rfl (fun ls' h' => kk H locs ls' hP hD hS (has_lh1 ho h'))
theorem g_astore_n (C : GC Γ X cc nL own lvl mc ms) {i : Nat} {j : Fin 4} {x : Nat} (d : decode cc pc = .ok (.astore_n j, 1)) (hi : (j : Nat) = i) (hn : i < nL) (ho : oks loc i = true) (kk : GW Γ X S k n (pc + 1) ((i, .ref x) :: loc) st) : GW Γ X S k n pc loc (.ref x :: st) := fun H locs ls hP hD hS hl => lv_astore_n C.hx C.hb d hi (lh_has hl) (by rw [C.hml]; exact hn) rfl (fun ls' h' => kk H locs ls' hP hD hS (has_lh1 ho h'))
theorem g_lstore (C : GC Γ X cc nL own lvl mc ms) {i : Nat} {x : Int64} (d : decode cc pc = .ok (.lstore i, 2)) (hn : i + 1 < nL) (ho : oks loc i = true) (h2 : lk loc (i + 1) = none) (kk : GW Γ X S k n (pc + 2) ((i, .long x) :: loc) st) : GW Γ X S k n pc loc (.long x :: st) := fun H locs ls hP hD hS hl => lv_lstore C.hx C.hb d (lh_has hl) (by rw [C.hml]; exact hn) rfl (fun ls' h' => kk H locs ls' hP hD hS (has_lh2 ho h2 h'))
theorem g_lstore_n (C : GC Γ X cc nL own lvl mc ms) {i : Nat} {j : Fin 4} {x : Int64} (d : decode cc pc = .ok (.lstore_n j, 1)) (hi : (j : Nat) = i) (hn : i + 1 < nL) (ho : oks loc i = true) (h2 : lk loc (i + 1) = none) (kk : GW Γ X S k n (pc + 1) ((i, .long x) :: loc) st) : GW Γ X S k n pc loc (.long x :: st) := fun H locs ls hP hD hS hl => lv_lstore_n C.hx C.hb d hi (lh_has hl) (by rw [C.hml]; exact hn) rfl (fun ls' h' => kk H locs ls' hP hD hS (has_lh2 ho h2 h'))
theorem g_dstore (C : GC Γ X cc nL own lvl mc ms) {i : Nat} {x : UInt64} (d : decode cc pc = .ok (.dstore i, 2)) (hn : i + 1 < nL) (ho : oks loc i = true) (h2 : lk loc (i + 1) = none) (kk : GW Γ X S k n (pc + 2) ((i, .double x) :: loc) st) : GW Γ X S k n pc loc (.double x :: st) := fun H locs ls hP hD hS hl => lv_dstore C.hx C.hb d (lh_has hl) (by rw [C.hml]; exact hn) rfl (fun ls' h' => kk H locs ls' hP hD hS (has_lh2 ho h2 h'))
theorem g_dstore_n (C : GC Γ X cc nL own lvl mc ms) {i : Nat} {j : Fin 4} {x : UInt64} (d : decode cc pc = .ok (.dstore_n j, 1)) (hi : (j : Nat) = i) (hn : i + 1 < nL) (ho : oks loc i = true) (h2 : lk loc (i + 1) = none) (kk : GW Γ X S k n (pc + 1) ((i, .double x) :: loc) st) : GW Γ X S k n pc loc (.double x :: st) := fun H locs ls hP hD hS hl => lv_dstore_n C.hx C.hb d hi (lh_has hl) (by rw [C.hml]; exact hn) rfl (fun ls' h' => kk H locs ls' hP hD hS (has_lh2 ho h2 h'))
theorem g_iinc (C : GC Γ X cc nL own lvl mc ms) {i : Nat} {j : Int} {x v : Int32} (d : decode cc pc = .ok (.iinc i j, 3)) (h : lk loc i = some (.int x)) (hv : x + Int32.ofInt j = v) (hn : i < nL) (ho : oks loc i = true) (kk : GW Γ X S k n (pc + 3) ((i, .int v) :: loc) st) : GW Γ X S k n pc loc st := fun H locs ls hP hD hS hl => by
  obtain ⟨q, hq⟩ := List.getElem?_of_mem (leff_mem h)
  exact lv_iinc C.hx C.hb d (lh_has hl) (k := q) hq hv (by rw [C.hml]; exact hn) rfl (fun ls' h' => kk H locs ls' hP hD hS (has_lh1 ho h'))
theorem g_iadd (C : GC Γ X cc nL own lvl mc ms) {x y : Int32} (d : decode cc pc = .ok (.iadd, 1))  (kk : GW Γ X S k n (pc + 1) loc (.int (x + y) :: st)) : GW Γ X S k n pc loc (.int y :: .int x :: st) := fun H locs ls hP hD hS hl => lv_iadd C.hx C.hb d  (kk H locs ls hP hD hS hl)
theorem g_isub (C : GC Γ X cc nL own lvl mc ms) {x y : Int32} (d : decode cc pc = .ok (.isub, 1))  (kk : GW Γ X S k n (pc + 1) loc (.int (x - y) :: st)) : GW Γ X S k n pc loc (.int y :: .int x :: st) := fun H locs ls hP hD hS hl => lv_isub C.hx C.hb d  (kk H locs ls hP hD hS hl)
theorem g_imul (C : GC Γ X cc nL own lvl mc ms) {x y : Int32} (d : decode cc pc = .ok (.imul, 1))  (kk : GW Γ X S k n (pc + 1) loc (.int (x * y) :: st)) : GW Γ X S k n pc loc (.int y :: .int x :: st) := fun H locs ls hP hD hS hl => lv_imul C.hx C.hb d  (kk H locs ls hP hD hS hl)
theorem g_iand (C : GC Γ X cc nL own lvl mc ms) {x y : Int32} (d : decode cc pc = .ok (.iand, 1))  (kk : GW Γ X S k n (pc + 1) loc (.int (x &&& y) :: st)) : GW Γ X S k n pc loc (.int y :: .int x :: st) := fun H locs ls hP hD hS hl => lv_iand C.hx C.hb d  (kk H locs ls hP hD hS hl)
theorem g_ior (C : GC Γ X cc nL own lvl mc ms) {x y : Int32} (d : decode cc pc = .ok (.ior, 1))  (kk : GW Γ X S k n (pc + 1) loc (.int (x ||| y) :: st)) : GW Γ X S k n pc loc (.int y :: .int x :: st) := fun H locs ls hP hD hS hl => lv_ior C.hx C.hb d  (kk H locs ls hP hD hS hl)
theorem g_ladd (C : GC Γ X cc nL own lvl mc ms) {x y : Int64} (d : decode cc pc = .ok (.ladd, 1))  (kk : GW Γ X S k n (pc + 1) loc (.long (x + y) :: st)) : GW Γ X S k n pc loc (.long y :: .long x :: st) := fun H locs ls hP hD hS hl => lv_ladd C.hx C.hb d  (kk H locs ls hP hD hS hl)
theorem g_lmul (C : GC Γ X cc nL own lvl mc ms) {x y : Int64} (d : decode cc pc = .ok (.lmul, 1))  (kk : GW Γ X S k n (pc + 1) loc (.long (x * y) :: st)) : GW Γ X S k n pc loc (.long y :: .long x :: st) := fun H locs ls hP hD hS hl => lv_lmul C.hx C.hb d  (kk H locs ls hP hD hS hl)
theorem g_ishl (C : GC Γ X cc nL own lvl mc ms) {x y : Int32} (d : decode cc pc = .ok (.ishl, 1))  (kk : GW Γ X S k n (pc + 1) loc (.int (x <<< (y &&& 31)) :: st)) : GW Γ X S k n pc loc (.int y :: .int x :: st) := fun H locs ls hP hD hS hl => lv_ishl C.hx C.hb d  (kk H locs ls hP hD hS hl)
theorem g_ishr (C : GC Γ X cc nL own lvl mc ms) {x y : Int32} (d : decode cc pc = .ok (.ishr, 1))  (kk : GW Γ X S k n (pc + 1) loc (.int (x >>> (y &&& 31)) :: st)) : GW Γ X S k n pc loc (.int y :: .int x :: st) := fun H locs ls hP hD hS hl => lv_ishr C.hx C.hb d  (kk H locs ls hP hD hS hl)
theorem g_i2l (C : GC Γ X cc nL own lvl mc ms) {x : Int32} (d : decode cc pc = .ok (.i2l, 1))  (kk : GW Γ X S k n (pc + 1) loc (.long x.toInt64 :: st)) : GW Γ X S k n pc loc (.int x :: st) := fun H locs ls hP hD hS hl => lv_i2l C.hx C.hb d rfl (kk H locs ls hP hD hS hl)
theorem g_i2d (C : GC Γ X cc nL own lvl mc ms) {x : Int32} (d : decode cc pc = .ok (.i2d, 1))  (kk : GW Γ X S k n (pc + 1) loc (.double (FP.i2d x) :: st)) : GW Γ X S k n pc loc (.int x :: st) := fun H locs ls hP hD hS hl => lv_i2d C.hx C.hb d  (kk H locs ls hP hD hS hl)
theorem g_ddiv (C : GC Γ X cc nL own lvl mc ms) {x y : UInt64} (d : decode cc pc = .ok (.ddiv, 1)) (hne : vf_n64 (FP.ddiv x y)) (kk : GW Γ X S k n (pc + 1) loc (.double (FP.ddiv x y) :: st)) : GW Γ X S k n pc loc (.double y :: .double x :: st) := fun H locs ls hP hD hS hl => lv_ddiv C.hx C.hb d hne (kk H locs ls hP hD hS hl)
theorem g_lcmp (C : GC Γ X cc nL own lvl mc ms) {x y : Int64} (d : decode cc pc = .ok (.lcmp, 1))  (kk : GW Γ X S k n (pc + 1) loc (.int (lg_cmp x y) :: st)) : GW Γ X S k n pc loc (.long y :: .long x :: st) := fun H locs ls hP hD hS hl => W.lcmp C.hx C.hb d  (kk H locs ls hP hD hS hl)
theorem g_dcmp (C : GC Γ X cc nL own lvl mc ms) {x y : UInt64} {op : CmpOp} (d : decode cc pc = .ok (.dcmp op, 1))  (kk : GW Γ X S k n (pc + 1) loc (.int (Op.cmpValue (FP.dcmp x y) op) :: st)) : GW Γ X S k n pc loc (.double y :: .double x :: st) := fun H locs ls hP hD hS hl => lv_dcmp C.hx C.hb d  (kk H locs ls hP hD hS hl)
theorem g_dup (C : GC Γ X cc nL own lvl mc ms) {v : Value} (d : decode cc pc = .ok (.dup, 1)) (h : v.category = 1) (kk : GW Γ X S k n (pc + 1) loc (v :: v :: st)) : GW Γ X S k n pc loc (v :: st) := fun H locs ls hP hD hS hl => lv_dup C.hx C.hb d h (kk H locs ls hP hD hS hl)
theorem g_pop (C : GC Γ X cc nL own lvl mc ms) {v : Value} (d : decode cc pc = .ok (.pop, 1)) (h : v.category = 1) (kk : GW Γ X S k n (pc + 1) loc (st)) : GW Γ X S k n pc loc (v :: st) := fun H locs ls hP hD hS hl => lv_pop C.hx C.hb d h (kk H locs ls hP hD hS hl)
theorem g_dup_x1 (C : GC Γ X cc nL own lvl mc ms) {v w : Value} (d : decode cc pc = .ok (.dup_x1, 1)) (h : v.category = 1) (h2 : w.category = 1) (kk : GW Γ X S k n (pc + 1) loc (v :: w :: v :: st)) : GW Γ X S k n pc loc (v :: w :: st) := fun H locs ls hP hD hS hl => lv_dup_x1 C.hx C.hb d h h2 (kk H locs ls hP hD hS hl)
theorem g_dup_x2 (C : GC Γ X cc nL own lvl mc ms) {v w u : Value} (d : decode cc pc = .ok (.dup_x2, 1)) (h : v.category = 1) (h2 : w.category = 1) (h3 : u.category = 1) (kk : GW Γ X S k n (pc + 1) loc (v :: w :: u :: v :: st)) : GW Γ X S k n pc loc (v :: w :: u :: st) := fun H locs ls hP hD hS hl => lv_dup_x2 C.hx C.hb d h h2 h3 (kk H locs ls hP hD hS hl)
theorem g_dup2 (C : GC Γ X cc nL own lvl mc ms) {v w : Value} (d : decode cc pc = .ok (.dup2, 1)) (h : v.category = 1) (h2 : w.category = 1) (kk : GW Γ X S k n (pc + 1) loc (v :: w :: v :: w :: st)) : GW Γ X S k n pc loc (v :: w :: st) := fun H locs ls hP hD hS hl => lv_dup2_11 C.hx C.hb d h h2 (kk H locs ls hP hD hS hl)
theorem g_irem (C : GC Γ X cc nL own lvl mc ms) {x y : Int32} (d : decode cc pc = .ok (.irem, 1)) (hne : ¬ y = 0) (kk : GW Γ X S k n (pc + 1) loc (.int (x - x / y * y) :: st)) : GW Γ X S k n pc loc (.int y :: .int x :: st) := fun H locs ls hP hD hS hl => lv_irem C.hx C.hb d hne (kk H locs ls hP hD hS hl)
theorem g_idiv (C : GC Γ X cc nL own lvl mc ms) {x y : Int32} (d : decode cc pc = .ok (.idiv, 1)) (hne : ¬ y = 0) (kk : GW Γ X S k n (pc + 1) loc (.int (x / y) :: st)) : GW Γ X S k n pc loc (.int y :: .int x :: st) := fun H locs ls hP hD hS hl => lv_idiv C.hx C.hb d hne (kk H locs ls hP hD hS hl)
theorem g_ifnonnull (C : GC Γ X cc nL own lvl mc ms) {x : Nat} {off : Int} {tgt : Nat} (d : decode cc pc = .ok (.ifnonnull off, 3)) (ht : (pc : Int) + off = (tgt : Int)) (kk : GW Γ X S k n tgt loc st) : GW Γ X S k n pc loc (.ref x :: st) := fun H locs ls hP hD hS hl => lv_ifnonnull C.hx C.hb d ht (kk H locs ls hP hD hS hl)
theorem g_goto (C : GC Γ X cc nL own lvl mc ms) {off : Int} {tgt : Nat} (d : decode cc pc = .ok (.goto off, 3)) (ht : (pc : Int) + off = (tgt : Int)) (kk : GW Γ X S k n tgt loc st) : GW Γ X S k n pc loc st := fun H locs ls hP hD hS hl => lv_goto C.hx C.hb d ht (kk H locs ls hP hD hS hl)
theorem g_if_eq (C : GC Γ X cc nL own lvl mc ms) {x : Int32} {off : Int} {tgt : Nat} (d : decode cc pc = .ok (.ifCond .eq off, 3)) (ht : (pc : Int) + off = (tgt : Int)) (kt : x = 0 → GW Γ X S k n tgt loc st) (kf : ¬ (x = 0) → GW Γ X S k n (pc + 3) loc st) : GW Γ X S k n pc loc (.int x :: st) := fun H locs ls hP hD hS hl => lv_if_eq C.hx C.hb d ht (fun h => kt h H locs ls hP hD hS hl) (fun h => kf h H locs ls hP hD hS hl)
theorem g_icmp_eq (C : GC Γ X cc nL own lvl mc ms) {x y : Int32} {off : Int} {tgt : Nat} (d : decode cc pc = .ok (.if_icmp .eq off, 3)) (ht : (pc : Int) + off = (tgt : Int)) (kt : x = y → GW Γ X S k n tgt loc st) (kf : ¬ (x = y) → GW Γ X S k n (pc + 3) loc st) : GW Γ X S k n pc loc (.int y :: .int x :: st) := fun H locs ls hP hD hS hl => lv_icmp_eq C.hx C.hb d ht (fun h => kt h H locs ls hP hD hS hl) (fun h => kf h H locs ls hP hD hS hl)
theorem g_if_ne (C : GC Γ X cc nL own lvl mc ms) {x : Int32} {off : Int} {tgt : Nat} (d : decode cc pc = .ok (.ifCond .ne off, 3)) (ht : (pc : Int) + off = (tgt : Int)) (kt : ¬ x = 0 → GW Γ X S k n tgt loc st) (kf : x = 0 → GW Γ X S k n (pc + 3) loc st) : GW Γ X S k n pc loc (.int x :: st) := fun H locs ls hP hD hS hl => lv_if_ne C.hx C.hb d ht (fun h => kt h H locs ls hP hD hS hl) (fun h => kf h H locs ls hP hD hS hl)
theorem g_icmp_ne (C : GC Γ X cc nL own lvl mc ms) {x y : Int32} {off : Int} {tgt : Nat} (d : decode cc pc = .ok (.if_icmp .ne off, 3)) (ht : (pc : Int) + off = (tgt : Int)) (kt : ¬ x = y → GW Γ X S k n tgt loc st) (kf : x = y → GW Γ X S k n (pc + 3) loc st) : GW Γ X S k n pc loc (.int y :: .int x :: st) := fun H locs ls hP hD hS hl => lv_icmp_ne C.hx C.hb d ht (fun h => kt h H locs ls hP hD hS hl) (fun h => kf h H locs ls hP hD hS hl)
theorem g_if_lt (C : GC Γ X cc nL own lvl mc ms) {x : Int32} {off : Int} {tgt : Nat} (d : decode cc pc = .ok (.ifCond .lt off, 3)) (ht : (pc : Int) + off = (tgt : Int)) (kt : x < 0 → GW Γ X S k n tgt loc st) (kf : ¬ (x < 0) → GW Γ X S k n (pc + 3) loc st) : GW Γ X S k n pc loc (.int x :: st) := fun H locs ls hP hD hS hl => lv_if_lt C.hx C.hb d ht (fun h => kt h H locs ls hP hD hS hl) (fun h => kf h H locs ls hP hD hS hl)
theorem g_icmp_lt (C : GC Γ X cc nL own lvl mc ms) {x y : Int32} {off : Int} {tgt : Nat} (d : decode cc pc = .ok (.if_icmp .lt off, 3)) (ht : (pc : Int) + off = (tgt : Int)) (kt : x < y → GW Γ X S k n tgt loc st) (kf : ¬ (x < y) → GW Γ X S k n (pc + 3) loc st) : GW Γ X S k n pc loc (.int y :: .int x :: st) := fun H locs ls hP hD hS hl => lv_icmp_lt C.hx C.hb d ht (fun h => kt h H locs ls hP hD hS hl) (fun h => kf h H locs ls hP hD hS hl)
theorem g_if_ge (C : GC Γ X cc nL own lvl mc ms) {x : Int32} {off : Int} {tgt : Nat} (d : decode cc pc = .ok (.ifCond .ge off, 3)) (ht : (pc : Int) + off = (tgt : Int)) (kt : 0 ≤ x → GW Γ X S k n tgt loc st) (kf : ¬ (0 ≤ x) → GW Γ X S k n (pc + 3) loc st) : GW Γ X S k n pc loc (.int x :: st) := fun H locs ls hP hD hS hl => lv_if_ge C.hx C.hb d ht (fun h => kt h H locs ls hP hD hS hl) (fun h => kf h H locs ls hP hD hS hl)
theorem g_icmp_ge (C : GC Γ X cc nL own lvl mc ms) {x y : Int32} {off : Int} {tgt : Nat} (d : decode cc pc = .ok (.if_icmp .ge off, 3)) (ht : (pc : Int) + off = (tgt : Int)) (kt : y ≤ x → GW Γ X S k n tgt loc st) (kf : ¬ (y ≤ x) → GW Γ X S k n (pc + 3) loc st) : GW Γ X S k n pc loc (.int y :: .int x :: st) := fun H locs ls hP hD hS hl => lv_icmp_ge C.hx C.hb d ht (fun h => kt h H locs ls hP hD hS hl) (fun h => kf h H locs ls hP hD hS hl)
theorem g_if_gt (C : GC Γ X cc nL own lvl mc ms) {x : Int32} {off : Int} {tgt : Nat} (d : decode cc pc = .ok (.ifCond .gt off, 3)) (ht : (pc : Int) + off = (tgt : Int)) (kt : 0 < x → GW Γ X S k n tgt loc st) (kf : ¬ (0 < x) → GW Γ X S k n (pc + 3) loc st) : GW Γ X S k n pc loc (.int x :: st) := fun H locs ls hP hD hS hl => lv_if_gt C.hx C.hb d ht (fun h => kt h H locs ls hP hD hS hl) (fun h => kf h H locs ls hP hD hS hl)
theorem g_icmp_gt (C : GC Γ X cc nL own lvl mc ms) {x y : Int32} {off : Int} {tgt : Nat} (d : decode cc pc = .ok (.if_icmp .gt off, 3)) (ht : (pc : Int) + off = (tgt : Int)) (kt : y < x → GW Γ X S k n tgt loc st) (kf : ¬ (y < x) → GW Γ X S k n (pc + 3) loc st) : GW Γ X S k n pc loc (.int y :: .int x :: st) := fun H locs ls hP hD hS hl => lv_icmp_gt C.hx C.hb d ht (fun h => kt h H locs ls hP hD hS hl) (fun h => kf h H locs ls hP hD hS hl)
theorem g_if_le (C : GC Γ X cc nL own lvl mc ms) {x : Int32} {off : Int} {tgt : Nat} (d : decode cc pc = .ok (.ifCond .le off, 3)) (ht : (pc : Int) + off = (tgt : Int)) (kt : x ≤ 0 → GW Γ X S k n tgt loc st) (kf : ¬ (x ≤ 0) → GW Γ X S k n (pc + 3) loc st) : GW Γ X S k n pc loc (.int x :: st) := fun H locs ls hP hD hS hl => lv_if_le C.hx C.hb d ht (fun h => kt h H locs ls hP hD hS hl) (fun h => kf h H locs ls hP hD hS hl)
theorem g_icmp_le (C : GC Γ X cc nL own lvl mc ms) {x y : Int32} {off : Int} {tgt : Nat} (d : decode cc pc = .ok (.if_icmp .le off, 3)) (ht : (pc : Int) + off = (tgt : Int)) (kt : x ≤ y → GW Γ X S k n tgt loc st) (kf : ¬ (x ≤ y) → GW Γ X S k n (pc + 3) loc st) : GW Γ X S k n pc loc (.int y :: .int x :: st) := fun H locs ls hP hD hS hl => lv_icmp_le C.hx C.hb d ht (fun h => kt h H locs ls hP hD hS hl) (fun h => kf h H locs ls hP hD hS hl)
theorem g_acmp_eq (C : GC Γ X cc nL own lvl mc ms) {x y : Nat} {off : Int} {tgt : Nat} (d : decode cc pc = .ok (.if_acmp .eq off, 3)) (ht : (pc : Int) + off = (tgt : Int)) (kt : x = y → GW Γ X S k n tgt loc st) (kf : ¬ x = y → GW Γ X S k n (pc + 3) loc st) : GW Γ X S k n pc loc (.ref y :: .ref x :: st) := fun H locs ls hP hD hS hl => lv_acmp_eq (rx := some x) (ry := some y) C.hx C.hb d ht (fun h => kt (Option.some.inj h) H locs ls hP hD hS hl) (fun h => kf (fun q => h (congrArg some q)) H locs ls hP hD hS hl)
theorem g_tableIn (C : GC Γ X cc nL own lvl mc ms) {dflt lo hi : Int} {offs : Array Int} {len : Nat} {x : Int32} {off : Int} {tgt : Nat} (d : decode cc pc = .ok (.tableswitch dflt lo hi offs, len)) (h1 : ¬ x.toInt < lo) (h2 : ¬ hi < x.toInt) (ho : offs[(x.toInt - lo).toNat]? = some off) (ht : (pc : Int) + off = (tgt : Int)) (kk : GW Γ X S k n tgt loc st) : GW Γ X S k n pc loc (.int x :: st) := fun H locs ls hP hD hS hl => lv_tableIn C.hx C.hb d h1 h2 ho ht (kk H locs ls hP hD hS hl)
theorem g_tableOut (C : GC Γ X cc nL own lvl mc ms) {dflt lo hi : Int} {offs : Array Int} {len : Nat} {x : Int32} {tgt : Nat} (d : decode cc pc = .ok (.tableswitch dflt lo hi offs, len)) (h : x.toInt < lo ∨ hi < x.toInt) (ht : (pc : Int) + dflt = (tgt : Int)) (kk : GW Γ X S k n tgt loc st) : GW Γ X S k n pc loc (.int x :: st) := fun H locs ls hP hD hS hl => lv_tableOut C.hx C.hb d h ht (kk H locs ls hP hD hS hl)
theorem g_ldc2 (C : GC Γ X cc nL own lvl mc ms) {index : Nat} {v : Int64} (w : Cond.constantLong own index v ∈ lw_tbl) (d : decode cc pc = .ok (.ldc2_w index, 3)) (kk : GW Γ X S k n (pc + 3) loc (.long v :: st)) : GW Γ X S k n pc loc st := fun H locs ls hP hD hS hl => lv_ldc2 C.hx C.hb C.hown (C.tw w rfl) d (kk H locs ls hP hD hS hl)
theorem g_objInit (C : GC Γ X cc nL own lvl mc ms) {index a : Nat} (w : Cond.methodLink own index Lib.objectInit ∈ lw_tbl) (w2 : Cond.instanceMethod Lib.objectInit ∈ lw_tbl) (w3 : Cond.code Lib.objectInit ⟨#[0xb1]⟩ 1 none ∈ lw_tbl) (d : decode cc pc = .ok (.invokespecial index, 3)) (hr : (st.map fun v => v.category).sum ≤ 60) (kk : GW Γ X S k n (pc + 3) loc st) : GW Γ X S k n pc loc (.ref a :: st) := fun H locs ls hP hD hS hl => W.objInit C.hx C.hb C.hown (C.tw w rfl) (C.tw w2 rfl) (C.tw w3 rfl) rfl hl.1 rfl d (by have := C.rf; omega) (by have := C.rl; show 2 * 0 + _ + 12 ≤ _; omega) (kk H locs ls hP hD hS hl)
/-! fields -/
def KD (kk : Nat) (Cn : String) (T : u_T) (N : Nat) (ty : Nat → FieldType) : Prop := gcl[kk]? = some (Cn, T, N) ∧ (∀ w ∈ u_ws Cn T N, w ∈ lw_tbl ∧ goodWord w = true) ∧ (∀ j, j < N → parseFieldDescriptor (T j).2.2.1 = some (ty j)) ∧ (∀ a, a < N → ∀ b, b < N → a ≠ b → (T a).2.1 ≠ (T b).2.1) ∧ kk < 8 ∧ (kref kk).length = N ∧ (∀ j, j < N → defaultValue (ty j) = vp_V ((kref kk).map (fun r => if r then Value.null else .int 0)) j)
theorem KD.ts {kk : Nat} {Cn : String} {T : u_T} {N : Nat} {ty : Nat → FieldType} (h : KD kk Cn T N ty) (C : GC Γ X cc nL own lvl mc ms) : ∀ w ∈ u_ws Cn T N, w.before X.2.2.2.2.2.1 X.2.2.2.1 = true := fun w hw => C.tw (h.2.1 w hw).1 (h.2.1 w hw).2
theorem g_getI (C : GC Γ X cc nL own lvl mc ms) {kk : Nat} {Cn : String} {T : u_T} {N : Nat} {ty : Nat → FieldType} (h : KD kk Cn T N ty) {i index a : Nat} {ref : String} (hi : (kref kk)[i]? = some false) (hlink : Cond.fieldLink own index ref (T i).2.1 (T i).2.2.1 ∈ lw_tbl) (hsame : ref = (T i).1 ∨ Cond.sameField ref (T i).1 (T i).2.1 (T i).2.2.1 ∈ lw_tbl) (ha : al S a kk) {v : Int32} (hv : pI S (32 * kk + i) a = v) (d : decode cc pc = .ok (.getfield index, 3)) (q : GW Γ X S k n (pc + 3) loc (.int v :: st)) : GW Γ X S k n pc loc (.ref a :: st) := fun H locs ls hP hD hS hl => by
  obtain ⟨q0, hq⟩ := pw_get (bC Γ) ha.1
  rw [PFo_obj (bC Γ) ha h.2.2.2.2.1] at hq
  have hiN : i < N := by rw [← h.2.2.2.2.2.1]; exact (List.getElem?_eq_some_iff.mp hi).1
  refine va_get (own := own) (ref := ref) C.hx C.hb (h.ts C) (fun w hw => hw) C.hown C.hK hP q0 hq h.1 i hiN (C.tw hlink rfl) ?_ (v := .int v) ?_ d (q H locs ls hP hD hS hl)
  · rcases hsame with rfl | hs
    · exact fun _ h9 => h9
    · exact u_same (C.tw hs rfl)
  · rw [fvs_get _ _ _ _ _ _ _ hi]
    simp [← hv]
theorem g_getP (C : GC Γ X cc nL own lvl mc ms) {kk : Nat} {Cn : String} {T : u_T} {N : Nat} {ty : Nat → FieldType} (h : KD kk Cn T N ty) {i index a : Nat} (hi : (kref kk)[i]? = some true) (hlink : Cond.fieldLink own index (T i).1 (T i).2.1 (T i).2.2.1 ∈ lw_tbl) (ha : al S a kk) {v : Nat} (hv : pP S (32 * kk + i) a = some v) (d : decode cc pc = .ok (.getfield index, 3)) (q : GW Γ X S k n (pc + 3) loc (.ref v :: st)) : GW Γ X S k n pc loc (.ref a :: st) := fun H locs ls hP hD hS hl => by
  obtain ⟨q0, hq⟩ := pw_get (bC Γ) ha.1
  rw [PFo_obj (bC Γ) ha h.2.2.2.2.1] at hq
  have hiN : i < N := by rw [← h.2.2.2.2.2.1]; exact (List.getElem?_eq_some_iff.mp hi).1
  refine va_get (own := own) (ref := (T i).1) C.hx C.hb (h.ts C) (fun w hw => hw) C.hown C.hK hP q0 hq h.1 i hiN (C.tw hlink rfl) (fun _ h9 => h9) (v := .ref v) ?_ d (q H locs ls hP hD hS hl)
  rw [fvs_get _ _ _ _ _ _ _ hi]
  simp [hv, va_rf]
theorem pw_uI {cy : Nat → ClassId} {A : Nat → Prop} {a kk i q0 : Nat} (hD : va_D A (pw cy S)) (ha : al S a kk) (h8 : kk < 8) (hq : (pw cy S)[q0]? = some (a, PFo cy S a)) (hi : (kref kk)[i]? = some false) (v : Int32) : (pw cy S).set q0 (a, .inr (kk, (fvs S kk a 0 (kref kk)).set i (.int v))) = pw cy (uI S (32 * kk + i) a v) := by
  rw [pw_set hD ha.1 hq]
  exact va_pl_congr (PFo_uI cy S ha.2 h8 hi v)
theorem pw_uP {cy : Nat → ClassId} {A : Nat → Prop} {a kk i q0 : Nat} (hD : va_D A (pw cy S)) (ha : al S a kk) (h8 : kk < 8) (hq : (pw cy S)[q0]? = some (a, PFo cy S a)) (hi : (kref kk)[i]? = some true) (v : Option Nat) : (pw cy S).set q0 (a, .inr (kk, (fvs S kk a 0 (kref kk)).set i (va_rf v))) = pw cy (uP S (32 * kk + i) a v) := by
  rw [pw_set hD ha.1 hq]
  exact va_pl_congr (PFo_uP cy S ha.2 h8 hi v)
theorem g_putI (C : GC Γ X cc nL own lvl mc ms) {kk : Nat} {Cn : String} {T : u_T} {N : Nat} {ty : Nat → FieldType} (h : KD kk Cn T N ty) {i index a : Nat} {ref : String} (hi : (kref kk)[i]? = some false) (hlink : Cond.fieldLink own index ref (T i).2.1 (T i).2.2.1 ∈ lw_tbl) (hsame : ref = (T i).1 ∨ Cond.sameField ref (T i).1 (T i).2.1 (T i).2.2.1 ∈ lw_tbl) (hfin : (T i).2.2.2 = false ∨ ((T i).2.2.2 = true ∧ X.2.2.2.2.2.2.2.1.name = "<init>" ∧ (T i).1 = own ∧ ref = (T i).1)) (ha : al S a kk) {v : Int32} (hn : narrow (ty i) (.int v) = .int v) (hfit : fits (ty i) (.int v) = true) (d : decode cc pc = .ok (.putfield index, 3)) (q : GW Γ X (uI S (32 * kk + i) a v) k n (pc + 3) loc st) : GW Γ X S k n pc loc (.int v :: .ref a :: st) := fun H locs ls hP hD hS hl => by
  obtain ⟨q0, hq0⟩ := pw_get (bC Γ) ha.1
  have hq := hq0
  rw [PFo_obj (bC Γ) ha h.2.2.2.2.1] at hq
  have hiN : i < N := by rw [← h.2.2.2.2.2.1]; exact (List.getElem?_eq_some_iff.mp hi).1
  have hsame' : ∀ x, X.2.2.2.1.fieldFound? (T i).1 (T i).2.1 (T i).2.2.1 = some x → X.2.2.2.1.fieldFound? ref (T i).2.1 (T i).2.2.1 = some x := by
    rcases hsame with rfl | hs
    · exact fun _ h9 => h9
    · exact u_same (C.tw hs rfl)
  rcases hfin with hf | ⟨hf, hin, hdecl, href⟩
  · refine va_put (own := own) (ref := ref) C.hx C.hb (h.ts C) (fun w hw => hw) ty h.2.2.1 h.2.2.2.1 C.hown C.hK hP hD hS q0 hq h.1 i hiN (C.tw hlink rfl) hsame' hf (h.2.2.1 i hiN) hn hfit (by rw [fvs_len, h.2.2.2.2.2.1]; exact hiN) d (fun H1 locs1 hP1 hD1 hS1 => ?_)
    rw [pw_uI hD ha h.2.2.2.2.1 hq0 hi] at hP1 hD1
    exact q H1 locs1 ls hP1 hD1 hS1 hl
  · refine va_putF (own := own) (ref := ref) C.hx C.hb (h.ts C) (fun w hw => hw) ty h.2.2.1 h.2.2.2.1 C.hown C.hK hP hD hS q0 hq h.1 i hiN (C.tw hlink rfl) hsame' hf hin hdecl (h.2.2.1 i hiN) hn hfit (by rw [fvs_len, h.2.2.2.2.2.1]; exact hiN) d (fun H1 locs1 hP1 hD1 hS1 => ?_)
    rw [pw_uI hD ha h.2.2.2.2.1 hq0 hi] at hP1 hD1
    exact q H1 locs1 ls hP1 hD1 hS1 hl
theorem g_putP (C : GC Γ X cc nL own lvl mc ms) {kk : Nat} {Cn : String} {T : u_T} {N : Nat} {ty : Nat → FieldType} (h : KD kk Cn T N ty) {i index a : Nat} (hi : (kref kk)[i]? = some true) (hlink : Cond.fieldLink own index (T i).1 (T i).2.1 (T i).2.2.1 ∈ lw_tbl) (hfin : (T i).2.2.2 = false ∨ ((T i).2.2.2 = true ∧ X.2.2.2.2.2.2.2.1.name = "<init>" ∧ (T i).1 = own)) (ha : al S a kk) {v : Nat} (hn : narrow (ty i) (.ref v) = .ref v) (hfit : fits (ty i) (.ref v) = true) (d : decode cc pc = .ok (.putfield index, 3)) (q : GW Γ X (uP S (32 * kk + i) a (some v)) k n (pc + 3) loc st) : GW Γ X S k n pc loc (.ref v :: .ref a :: st) := fun H locs ls hP hD hS hl => by
  obtain ⟨q0, hq0⟩ := pw_get (bC Γ) ha.1
  have hq := hq0
  rw [PFo_obj (bC Γ) ha h.2.2.2.2.1] at hq
  have hiN : i < N := by rw [← h.2.2.2.2.2.1]; exact (List.getElem?_eq_some_iff.mp hi).1
  rcases hfin with hf | ⟨hf, hin, hdecl⟩
  · refine va_put (own := own) (ref := (T i).1) C.hx C.hb (h.ts C) (fun w hw => hw) ty h.2.2.1 h.2.2.2.1 C.hown C.hK hP hD hS q0 hq h.1 i hiN (C.tw hlink rfl) (fun _ h9 => h9) hf (h.2.2.1 i hiN) hn hfit (by rw [fvs_len, h.2.2.2.2.2.1]; exact hiN) d (fun H1 locs1 hP1 hD1 hS1 => ?_)
    have e := pw_uP (cy := bC Γ) hD ha h.2.2.2.2.1 hq0 hi (some v)
    simp only [va_rf] at e
    rw [e] at hP1 hD1
    exact q H1 locs1 ls hP1 hD1 hS1 hl
  · refine va_putF (own := own) (ref := (T i).1) C.hx C.hb (h.ts C) (fun w hw => hw) ty h.2.2.1 h.2.2.2.1 C.hown C.hK hP hD hS q0 hq h.1 i hiN (C.tw hlink rfl) (fun _ h9 => h9) hf hin hdecl (h.2.2.1 i hiN) hn hfit (by rw [fvs_len, h.2.2.2.2.2.1]; exact hiN) d (fun H1 locs1 hP1 hD1 hS1 => ?_)
    have e := pw_uP (cy := bC Γ) hD ha h.2.2.2.2.1 hq0 hi (some v)
    simp only [va_rf] at e
    rw [e] at hP1 hD1
    exact q H1 locs1 ls hP1 hD1 hS1 hl
theorem pw_fresh {cy : Nat → ClassId} {D : va_G} {H : Heap} (hP : va_P D gcl (pw cy S) H) {a : Nat} (h : H.size ≤ a) : a ∉ pL S := va_pl_fresh (X := []) hP h
theorem g_new (C : GC Γ X cc nL own lvl mc ms) {kk : Nat} {Cn : String} {T : u_T} {N : Nat} {ty : Nat → FieldType} (h : KD kk Cn T N ty) {index : Nat} (w1 : Cond.classLink own index Cn ∈ lw_tbl) (w2 : Cond.instantiable Cn N ∈ lw_tbl) (w3 : Cond.initialized Cn ∈ lw_tbl) (hk : k + 1 ≤ mc) (hn : n + N ≤ ms) (d : decode cc pc = .ok (.new index, 3)) (q : ∀ a : Nat, a ∉ pL S → GW Γ X (nO S a kk) (k + 1) (n + N) (pc + 3) loc (.ref a :: st)) : GW Γ X S k n pc loc st := fun H locs ls hP hD hS hl => by
  refine va_new (own := own) (ci := kk) (fs := (kref kk).map (fun r => if r then Value.null else .int 0)) C.hx C.hb (h.ts C) (fun w hw => hw) ty h.2.2.1 C.hown (C.tw w1 rfl) (C.tw w2 rfl) (C.tw w3 rfl) C.hK hP hD hS C.hA h.1 h.2.2.2.2.2.2 (by rw [C.rc]; exact hk) (by rw [C.rs]; exact hn) d (fun a H1 hP1 hD1 hS1 => ?_)
  have hf : a ∉ pL S := by
    intro hm
    obtain ⟨j, hj⟩ := pw_get (bC Γ) hm
    have hl2 : j < (pw (bC Γ) S).length := (List.getElem?_eq_some_iff.mp hj).1
    have e1 : (pw (bC Γ) S ++ [(a, .inr (kk, (kref kk).map (fun r => if r then Value.null else .int 0)))])[j]? = some (a, PFo (bC Γ) S a) := by rw [List.getElem?_append_left hl2]; exact hj
    have e2 : (pw (bC Γ) S ++ [(a, (.inr (kk, (kref kk).map (fun r => if r then Value.null else .int 0)) : va_E))])[(pw (bC Γ) S).length]? = some (a, .inr (kk, (kref kk).map (fun r => if r then Value.null else .int 0))) := by simp
    have := hD1.1 _ _ _ _ e1 e2 rfl
    omega
  have e : pw (bC Γ) S ++ [(a, (.inr (kk, (kref kk).map (fun r => if r then Value.null else .int 0)) : va_E))] = pw (bC Γ) (nO S a kk) := by
    rw [va_pl_push hf]
    exact va_pl_congr (PFo_nO (bC Γ) S h.2.2.2.2.1)
  rw [e] at hP1 hD1
  exact q a hf H1 locs ls hP1 hD1 hS1 hl

/-! arrays -/
theorem g_alen (C : GC Γ X cc nL own lvl mc ms) {a kk : Nat} (h8 : 8 ≤ kk) (ha : al S a kk) (d : decode cc pc = .ok (.arraylength, 1)) (q : GW Γ X S k n (pc + 1) loc (.int (nI (pN S a)) :: st)) : GW Γ X S k n pc loc (.ref a :: st) := fun H locs ls hP hD hS hl => by
  obtain ⟨q0, hq⟩ := pw_get (bC Γ) ha.1
  have h1 : ¬ kk < 8 := by omega
  unfold PFo at hq
  rw [ha.2, if_neg h1] at hq
  by_cases h2 : kk = 8
  · rw [if_pos h2] at hq
    exact va_alen C.hx C.hb C.hK hP q0 0 hq rfl rfl d (q H locs ls hP hD hS hl)
  · rw [if_neg h2] at hq
    by_cases h3 : kk = 9
    · rw [if_pos h3] at hq
      exact va_alen C.hx C.hb C.hK hP q0 1 hq rfl rfl d (q H locs ls hP hD hS hl)
    · rw [if_neg h3] at hq
      by_cases h4 : kk = 10
      · rw [if_pos h4] at hq
        exact va_alen C.hx C.hb C.hK hP q0 2 hq rfl rfl d (q H locs ls hP hD hS hl)
      · rw [if_neg h4] at hq
        by_cases h5 : kk = 11
        · rw [if_pos h5] at hq
          exact va_alen C.hx C.hb C.hK hP q0 3 hq rfl rfl d (q H locs ls hP hD hS hl)
        · rw [if_neg h5] at hq
          exact va_alen C.hx C.hb C.hK hP q0 4 hq rfl rfl d (q H locs ls hP hD hS hl)
theorem nI_vp {j N : Nat} (hj : j < N) (h31 : j < 2147483648) : vp_in (nI j) N := by
  intro h
  rw [nI_clamp (by omega)] at h
  rcases h with h | h
  · exact nI_pos (by omega) h
  · omega
theorem up_vup (f : Nat → Int32) (j : Nat) (v : Int32) : upd f j v = va_up f j v := rfl

theorem g_ldI (C : GC Γ X cc nL own lvl mc ms) {a j : Nat} {x : Int32} (hx : x = nI j) (ha : al S a 8) (hj : j < pN S a) (h31 : j < 2147483648) {v : Int32} (hv : pR S a j = v) (d : decode cc pc = .ok (.iaload, 1)) (q : GW Γ X S k n (pc + 1) loc (.int v :: st)) : GW Γ X S k n pc loc (.int x :: .ref a :: st) := fun H locs ls hP hD hS hl => by
  subst hx; subst hv
  obtain ⟨q0, hq⟩ := pw_get (bC Γ) ha.1
  rw [PFo_I (bC Γ) ha] at hq
  refine va_iald C.hx C.hb C.hK hP q0 0 hq rfl (nI_vp hj h31) d ?_
  rw [nI_clamp (by omega)]
  exact q H locs ls hP hD hS hl
theorem g_stI (C : GC Γ X cc nL own lvl mc ms) {a j : Nat} {x : Int32} {v : Int32} (hx : x = nI j) (ha : al S a 8) (hj : j < pN S a) (h31 : j < 2147483648) (d : decode cc pc = .ok (.iastore, 1)) (q : GW Γ X (uR S a (va_up (pR S a) j v)) k n (pc + 1) loc st) : GW Γ X S k n pc loc (.int v :: .int x :: .ref a :: st) := fun H locs ls hP hD hS hl => by
  subst hx
  obtain ⟨q0, hq0⟩ := pw_get (bC Γ) ha.1
  have hq := hq0
  rw [PFo_I (bC Γ) ha] at hq
  refine va_iast C.hx C.hb C.hK hP hD hS q0 0 hq rfl (nI_vp hj h31) d (fun H1 locs1 hP1 hD1 hS1 => ?_)
  rw [nI_clamp (by omega)] at hP1 hD1
  have e : ∀ r, (pw (bC Γ) S).set q0 (a, .inl (bC Γ 0, (pN S a, .inl r))) = pw (bC Γ) (uR S a r) := fun r => by
    rw [pw_set hD ha.1 hq0]
    exact va_pl_congr (PFo_uR (bC Γ) S ha.2 (Or.inl rfl) r)
  erw [e] at hP1 hD1
  exact q H1 locs1 ls hP1 hD1 hS1 hl
theorem g_ldZ (C : GC Γ X cc nL own lvl mc ms) {a j : Nat} {x : Int32} (hx : x = nI j) (ha : al S a 9) (hj : j < pN S a) (h31 : j < 2147483648) {v : Int32} (hv : pR S a j = v) (d : decode cc pc = .ok (.iaload, 1)) (q : GW Γ X S k n (pc + 1) loc (.int v :: st)) : GW Γ X S k n pc loc (.int x :: .ref a :: st) := fun H locs ls hP hD hS hl => by
  subst hx; subst hv
  obtain ⟨q0, hq⟩ := pw_get (bC Γ) ha.1
  rw [PFo_Z (bC Γ) ha] at hq
  refine va_iald C.hx C.hb C.hK hP q0 1 hq rfl (nI_vp hj h31) d ?_
  rw [nI_clamp (by omega)]
  exact q H locs ls hP hD hS hl
theorem g_stZ (C : GC Γ X cc nL own lvl mc ms) {a j : Nat} {x : Int32} {v : Int32} (hx : x = nI j) (ha : al S a 9) (hj : j < pN S a) (h31 : j < 2147483648) (d : decode cc pc = .ok (.iastore, 1)) (q : GW Γ X (uR S a (va_up (pR S a) j v)) k n (pc + 1) loc st) : GW Γ X S k n pc loc (.int v :: .int x :: .ref a :: st) := fun H locs ls hP hD hS hl => by
  subst hx
  obtain ⟨q0, hq0⟩ := pw_get (bC Γ) ha.1
  have hq := hq0
  rw [PFo_Z (bC Γ) ha] at hq
  refine va_iast C.hx C.hb C.hK hP hD hS q0 1 hq rfl (nI_vp hj h31) d (fun H1 locs1 hP1 hD1 hS1 => ?_)
  rw [nI_clamp (by omega)] at hP1 hD1
  have e : ∀ r, (pw (bC Γ) S).set q0 (a, .inl (bC Γ 1, (pN S a, .inl r))) = pw (bC Γ) (uR S a r) := fun r => by
    rw [pw_set hD ha.1 hq0]
    exact va_pl_congr (PFo_uR (bC Γ) S ha.2 (Or.inr rfl) r)
  erw [e] at hP1 hD1
  exact q H1 locs1 ls hP1 hD1 hS1 hl
theorem g_ldQ (C : GC Γ X cc nL own lvl mc ms) {a j : Nat} {x : Int32} (hx : x = nI j) (ha : al S a 12) (hj : j < pN S a) (h31 : j < 2147483648) {v : Nat} (hv : pRP S a j = some v) (d : decode cc pc = .ok (.aaload, 1)) (q : GW Γ X S k n (pc + 1) loc (.ref v :: st)) : GW Γ X S k n pc loc (.int x :: .ref a :: st) := fun H locs ls hP hD hS hl => by
  subst hx
  obtain ⟨q0, hq⟩ := pw_get (bC Γ) ha.1
  rw [PFo_Q (bC Γ) ha] at hq
  refine va_aldq C.hx C.hb C.hK hP q0 4 hq rfl (nI_vp hj h31) d ?_
  rw [nI_clamp (by omega), hv]
  exact q H locs ls hP hD hS hl
theorem g_stQN (C : GC Γ X cc nL own lvl mc ms) {a j : Nat} {x : Int32} (hx : x = nI j) (ha : al S a 12) (hj : j < pN S a) (h31 : j < 2147483648) (d : decode cc pc = .ok (.aastore, 1)) (q : GW Γ X (uRP S a (va_up (pRP S a) j none)) k n (pc + 1) loc st) : GW Γ X S k n pc loc (.null :: .int x :: .ref a :: st) := fun H locs ls hP hD hS hl => by
  subst hx
  obtain ⟨q0, hq0⟩ := pw_get (bC Γ) ha.1
  have hq := hq0
  rw [PFo_Q (bC Γ) ha] at hq
  refine va_astqN C.hx C.hb C.hK hP hD hS q0 4 hq rfl (nI_vp hj h31) d (fun H1 locs1 hP1 hD1 hS1 => ?_)
  rw [nI_clamp (by omega)] at hP1 hD1
  have e : ∀ r, (pw (bC Γ) S).set q0 (a, .inl (bC Γ 4, (pN S a, .inr (.inr (.inr (.inr r)))))) = pw (bC Γ) (uRP S a r) := fun r => by
    rw [pw_set hD ha.1 hq0]
    exact va_pl_congr (PFo_uRP (bC Γ) S ha.2 r)
  rw [e] at hP1 hD1
  exact q H1 locs1 ls hP1 hD1 hS1 hl
/-- a class of ours may be cast to Object -/
theorem cast_obj (hF : FB Γ) {kk : Nat} {r : vw_C} (hr : gcl[kk]? = some r) : va_Nw (.castable r.1 "java/lang/Object") (bS Γ) := by
  have key : ∀ {w : Cond}, w ∈ lw_tbl → w.onTables = true → va_Nw w (bS Γ) := fun h g => va_Nw.of g (hF.1 _ h)
  match kk, hr with
  | 0, h => cases h; exact key tw_3_185 rfl
  | 1, h => cases h; exact key tw_3_186 rfl
  | 2, h => cases h; exact key tw_3_183 rfl
  | 3, h => cases h; exact key tw_3_182 rfl
  | 4, h => cases h; exact key tw_3_187 rfl
  | 5, h => cases h; exact key tw_3_178 rfl
  | 6, h => cases h; exact key tw_3_185 rfl
  | 7, h => cases h; exact key tw_3_179 rfl
  | j + 8, h => simp at h
theorem gcl_of {kk : Nat} (h : kk < 8) : ∃ r, gcl[kk]? = some r := ⟨gcl[kk], List.getElem?_eq_getElem h⟩
theorem g_stQ (C : GC Γ X cc nL own lvl mc ms) {a j v kv : Nat} {x : Int32} (hx : x = nI j) (ha : al S a 12) (hv : al S v kv) (h8 : kv < 8) (hj : j < pN S a) (h31 : j < 2147483648) (d : decode cc pc = .ok (.aastore, 1)) (q : GW Γ X (uRP S a (va_up (pRP S a) j (some v))) k n (pc + 1) loc st) : GW Γ X S k n pc loc (.ref v :: .int x :: .ref a :: st) := fun H locs ls hP hD hS hl => by
  subst hx
  obtain ⟨q0, hq0⟩ := pw_get (bC Γ) ha.1
  have hq := hq0
  rw [PFo_Q (bC Γ) ha] at hq
  obtain ⟨q1, hq1⟩ := pw_get (bC Γ) hv.1
  rw [PFo_obj (bC Γ) hv h8] at hq1
  obtain ⟨r, hr⟩ := gcl_of h8
  refine va_astqO C.hx C.hb C.hK hP hD hS q0 4 q1 kv hq rfl (va_Nw.warmC C.hW (cast_obj C.F hr)) hq1 hr (nI_vp hj h31) d (fun H1 locs1 hP1 hD1 hS1 => ?_)
  rw [nI_clamp (by omega)] at hP1 hD1
  have e : ∀ r, (pw (bC Γ) S).set q0 (a, .inl (bC Γ 4, (pN S a, .inr (.inr (.inr (.inr r)))))) = pw (bC Γ) (uRP S a r) := fun r => by
    rw [pw_set hD ha.1 hq0]
    exact va_pl_congr (PFo_uRP (bC Γ) S ha.2 r)
  rw [e] at hP1 hD1
  exact q H1 locs1 ls hP1 hD1 hS1 hl
theorem pw_push {cy : Nat → ClassId} {A : Nat → Prop} {a kk N : Nat} {e : va_E} (h8 : 8 ≤ kk) (he : e = aE cy kk N) (hD1 : va_D A (pw cy S ++ [(a, e)])) : a ∉ pL S ∧ pw cy S ++ [(a, e)] = pw cy (nA S a kk N) := by
  have hf : a ∉ pL S := by
    intro hm
    obtain ⟨j, hj⟩ := pw_get cy hm
    have hl2 : j < (pw cy S).length := (List.getElem?_eq_some_iff.mp hj).1
    have e1 : (pw cy S ++ [(a, e)])[j]? = some (a, PFo cy S a) := by rw [List.getElem?_append_left hl2]; exact hj
    have e2 : (pw cy S ++ [(a, e)])[(pw cy S).length]? = some (a, e) := by simp
    have := hD1.1 _ _ _ _ e1 e2 rfl
    omega
  refine ⟨hf, ?_⟩
  subst he
  rw [va_pl_push hf]
  exact va_pl_congr (PFo_nA cy S h8)
theorem arr_id {D : va_G} {s : State} {cy : Nat → ClassId} {cA : ClassId} {ty : FieldType} {j : Nat} (hK : va_K D gcl (atys cy) s) (hK1 : va_K D gcl (atys cy ++ [(cA, ty)]) s) (hj : (atys cy)[j]? = some (cy j, ty)) : cA = cy j := by
  have h5 : (atys cy ++ [(cA, ty)])[5]? = some (cA, ty) := rfl
  have h1 := (hK1.2 5 _ h5).2
  have h2 := (hK.2 j _ hj).2
  cases ty with
  | object C =>
    obtain ⟨_, _, _, _, _, e1⟩ := h1
    obtain ⟨_, _, _, _, _, e2⟩ := h2
    exact Option.some.inj (e1.symm.trans e2)
  | _ => exact Option.some.inj (h1.symm.trans h2)

theorem g_naI (C : GC Γ X cc nL own lvl mc ms) {N : Nat} {x : Int32} (hx : x = nI N) (hN : N ≤ 60000000) (hk : k + 1 ≤ mc) (hn : n + N ≤ ms) (d : decode cc pc = .ok (.newarray .int, 2)) (q : ∀ a : Nat, a ∉ pL S → GW Γ X (nA S a 8 N) (k + 1) (n + N) (pc + 2) loc (.ref a :: st)) : GW Γ X S k n pc loc (.int x :: st) := fun H locs ls hP hD hS hl => by
  subst hx
  have hb : N * componentBytes .int ≤ 536870912 := by
    have : componentBytes .int ≤ 8 := by decide
    have : N * componentBytes .int ≤ 60000000 * 8 := Nat.mul_le_mul hN this
    omega
  refine va_newa (atype := .int) (a0 := (N, .inl (fun _ => 0))) C.hx C.hb (C.tw tw_2_143 rfl) rfl C.hK hP hD hS C.hA (fun cA => rfl) (nI_pos (by omega)) (nI_clamp (by omega)) hb (by rw [C.rc]; exact hk) (by rw [C.rs]; exact hn) d (fun a cA H1 hK1 hP1 hD1 hS1 => ?_)
  have hc : cA = bC Γ 0 := arr_id (j := 0) C.hK hK1 rfl
  subst hc
  obtain ⟨hf, e⟩ := pw_push (kk := 8) (N := N) (e := .inl (bC Γ 0, (N, .inl (fun _ => 0)))) (by decide) rfl hD1
  rw [e] at hP1 hD1
  exact q a hf H1 locs ls hP1 hD1 hS1 hl
theorem g_naZ (C : GC Γ X cc nL own lvl mc ms) {N : Nat} {x : Int32} (hx : x = nI N) (hN : N ≤ 60000000) (hk : k + 1 ≤ mc) (hn : n + N ≤ ms) (d : decode cc pc = .ok (.newarray .int, 2)) (q : ∀ a : Nat, a ∉ pL S → GW Γ X (nA S a 9 N) (k + 1) (n + N) (pc + 2) loc (.ref a :: st)) : GW Γ X S k n pc loc (.int x :: st) := fun H locs ls hP hD hS hl => by
  subst hx
  have hb : N * componentBytes .int ≤ 536870912 := by
    have : componentBytes .int ≤ 8 := by decide
    have : N * componentBytes .int ≤ 60000000 * 8 := Nat.mul_le_mul hN this
    omega
  refine va_newa (atype := .int) (a0 := (N, .inl (fun _ => 0))) C.hx C.hb (C.tw tw_2_143 rfl) rfl C.hK hP hD hS C.hA (fun cA => rfl) (nI_pos (by omega)) (nI_clamp (by omega)) hb (by rw [C.rc]; exact hk) (by rw [C.rs]; exact hn) d (fun a cA H1 hK1 hP1 hD1 hS1 => ?_)
  have hc : cA = bC Γ 1 := arr_id (j := 1) C.hK hK1 rfl
  subst hc
  obtain ⟨hf, e⟩ := pw_push (kk := 9) (N := N) (e := .inl (bC Γ 1, (N, .inl (fun _ => 0)))) (by decide) rfl hD1
  rw [e] at hP1 hD1
  exact q a hf H1 locs ls hP1 hD1 hS1 hl
theorem g_naQ (C : GC Γ X cc nL own lvl mc ms) {N index : Nat} {x : Int32} (w : Cond.classLink own index "java/lang/Object" ∈ lw_tbl) (hx : x = nI N) (hN : N ≤ 60000000) (hk : k + 1 ≤ mc) (hn : n + N ≤ ms) (d : decode cc pc = .ok (.anewarray index, 3)) (q : ∀ a : Nat, a ∉ pL S → GW Γ X (nA S a 12 N) (k + 1) (n + N) (pc + 3) loc (.ref a :: st)) : GW Γ X S k n pc loc (.int x :: st) := fun H locs ls hP hD hS hl => by
  subst hx
  have hover : va_AO "java/lang/Object" X.2.2.2.1 := va_AO.moved C.hW.alike (va_AO.of (C.F.1 _ tw_2_44))
  refine va_newq C.hx C.hb C.hown (C.tw w rfl) hover C.hK hP hD hS C.hA (nI_pos (by omega)) (nI_clamp (by omega)) (by omega) (by rw [C.rc]; exact hk) (by rw [C.rs]; exact hn) d (fun a cA H1 hK1 hP1 hD1 hS1 => ?_)
  have hc : cA = bC Γ 4 := arr_id (j := 4) C.hK hK1 rfl
  subst hc
  obtain ⟨hf, e⟩ := pw_push (kk := 12) (N := N) (e := .inl (bC Γ 4, (N, .inr (.inr (.inr (.inr (fun _ => none))))))) (by decide) rfl hD1
  rw [e] at hP1 hD1
  exact q a hf H1 locs ls hP1 hD1 hS1 hl
theorem g_recv (C : GC Γ X cc nL own lvl mc ms) {H : Heap} (hP : va_P (bD Γ) gcl (pw (bC Γ) S) H) {a kk : Nat} (ha : al S a kk) {r : vw_C} (hr : gcl[kk]? = some r) : ∃ cell : Cell, H[a]? = some cell ∧ cell.vm.isStatics = false ∧ X.2.2.2.1.vm.findClass r.1 = some cell.cls := by
  obtain ⟨q0, hq⟩ := pw_get (bC Γ) ha.1
  have h8 : kk < 8 := (List.getElem?_eq_some_iff.mp hr).1
  rw [PFo_obj (bC Γ) ha h8] at hq
  exact va_recv C.hK hP hr hq
theorem g_cast (C : GC Γ X cc nL own lvl mc ms) {a kk index : Nat} {r : vw_C} (hr : gcl[kk]? = some r) (ha : al S a kk) (w : Cond.classLink own index r.1 ∈ lw_tbl) (d : decode cc pc = .ok (.checkcast index, 3)) (q : GW Γ X S k n (pc + 3) loc (.ref a :: st)) : GW Γ X S k n pc loc (.ref a :: st) := fun H locs ls hP hD hS hl =>
  va_castS C.hx C.hb C.hown (C.tw w rfl) (C.hK.1 kk r hr).2 (g_recv C hP ha hr) d (q H locs ls hP hD hS hl)
theorem sE0 (C : GC Γ X cc nL own lvl mc ms) : va_Z "java/util/ArrayList" "DEFAULTCAPACITY_EMPTY_ELEMENTDATA" "[Ljava/lang/Object;" (.ref (bE Γ)) (AA Γ) X.2.2.2.1 X.2.2.2.1.heap := va_Z.moved C.hW.alike (va_Z.kept C.F.2.2.2.2.1 (fun q h _ => C.hq q h))
theorem tE0 (C : GC Γ X cc nL own lvl mc ms) : va_T (.object "java/lang/Object") (bE Γ) 0 (fun _ => .null) (AA Γ) X.2.2.2.1 X.2.2.2.1.heap := va_T.moved C.hW.alike (va_T.kept C.F.2.2.2.2.2 (fun q h _ => C.hq q h))
theorem g_getE0 (C : GC Γ X cc nL own lvl mc ms) {index : Nat} (w : Cond.fieldLink own index "java/util/ArrayList" "DEFAULTCAPACITY_EMPTY_ELEMENTDATA" "[Ljava/lang/Object;" ∈ lw_tbl) (d : decode cc pc = .ok (.getstatic index, 3)) (q : GW Γ X S k n (pc + 3) loc (.ref (bE Γ) :: st)) : GW Γ X S k n pc loc st := fun H locs ls hP hD hS hl =>
  va_gets C.hx C.hb (sE0 C) hS C.hown (C.tw w rfl) (fun _ h => h) d (q H locs ls hP hD hS hl)
theorem g_alenE0 (C : GC Γ X cc nL own lvl mc ms) (d : decode cc pc = .ok (.arraylength, 1)) (q : GW Γ X S k n (pc + 1) loc (.int 0 :: st)) : GW Γ X S k n pc loc (.ref (bE Γ) :: st) := fun H locs ls hP hD hS hl =>
  va_tlen (v := 0) C.hx C.hb (tE0 C) hS rfl d (q H locs ls hP hD hS hl)
/-- the absolute value, as Java has it -/
def jabs (x : Int32) : Int32 := if 0 ≤ x then x else 0 - x
theorem g_abs (C : GC Γ X cc nL own lvl mc ms) {index : Nat} {x : Int32} (w : Cond.methodLink own index Lib.Math.abs.name ∈ lw_tbl) (hr : (st.map fun v => v.category).sum ≤ 60) (hk : k ≤ mc) (hn : n ≤ ms) (d : decode cc pc = .ok (.invokestatic index, 3)) (q : GW Γ X S k n (pc + 3) loc (.int (jabs x) :: st)) : GW Γ X S k n pc loc (.int x :: st) := fun H locs ls hP hD hS hl =>
  va_mabs C.hx C.hb hl.1.symm C.hown (C.tw w rfl) (C.tw tw_2_79 rfl) (C.tw tw_1_13 rfl) (C.tw tw_2_80 rfl) (by have := C.rf; omega) (by have := C.rl; omega) (by rw [C.rc]; exact hk) (by rw [C.rs]; exact hn) d (q H locs ls hP hD hS hl)
theorem g_max (C : GC Γ X cc nL own lvl mc ms) {index : Nat} {x y : Int32} (w : Cond.methodLink own index Lib.Math.max.name ∈ lw_tbl) (hr : (st.map fun v => v.category).sum ≤ 60) (hk : k ≤ mc) (hn : n ≤ ms) (d : decode cc pc = .ok (.invokestatic index, 3)) (q : GW Γ X S k n (pc + 3) loc (.int (if x < y then y else x) :: st)) : GW Γ X S k n pc loc (.int y :: .int x :: st) := fun H locs ls hP hD hS hl =>
  va_mmax C.hx C.hb hl.1.symm C.hown (C.tw w rfl) (C.tw tw_2_17 rfl) (C.tw tw_1_13 rfl) (C.tw tw_2_18 rfl) (by have := C.rf; omega) (by have := C.rl; omega) (by rw [C.rc]; exact hk) (by rw [C.rs]; exact hn) d (q H locs ls hP hD hS hl)
end GRows

