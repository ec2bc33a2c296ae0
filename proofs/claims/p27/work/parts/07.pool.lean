/-! ===== the pool: one world for all objects; a map for each field ===== -/
abbrev PS : Type := List Nat × (Nat → Nat) × (Nat → Nat → Int32) × (Nat → Nat → Option Nat) × (Nat → Nat) × (Nat → Nat → Int32) × (Nat → Nat → Int64) × (Nat → Nat → UInt64) × (Nat → Nat → Option Nat) × (Nat → Nat)
def pL (S : PS) : List Nat := S.1
def pK (S : PS) : Nat → Nat := S.2.1
def pI (S : PS) : Nat → Nat → Int32 := S.2.2.1
def pP (S : PS) : Nat → Nat → Option Nat := S.2.2.2.1
def pN (S : PS) : Nat → Nat := S.2.2.2.2.1
def pR (S : PS) : Nat → Nat → Int32 := S.2.2.2.2.2.1
def pRL (S : PS) : Nat → Nat → Int64 := S.2.2.2.2.2.2.1
def pRD (S : PS) : Nat → Nat → UInt64 := S.2.2.2.2.2.2.2.1
def pRP (S : PS) : Nat → Nat → Option Nat := S.2.2.2.2.2.2.2.2.1
def pW (S : PS) : Nat → Nat := S.2.2.2.2.2.2.2.2.2
def uI (S : PS) (f a : Nat) (v : Int32) : PS := (S.1, S.2.1, fun g b => if g = f then (if b = a then v else S.2.2.1 g b) else S.2.2.1 g b, S.2.2.2)
def uP (S : PS) (f a : Nat) (v : Option Nat) : PS := (S.1, S.2.1, S.2.2.1, fun g b => if g = f then (if b = a then v else S.2.2.2.1 g b) else S.2.2.2.1 g b, S.2.2.2.2)
def uR (S : PS) (a : Nat) (r : Nat → Int32) : PS := (S.1, S.2.1, S.2.2.1, S.2.2.2.1, S.2.2.2.2.1, va_up S.2.2.2.2.2.1 a r, S.2.2.2.2.2.2)
def uRL (S : PS) (a : Nat) (r : Nat → Int64) : PS := (S.1, S.2.1, S.2.2.1, S.2.2.2.1, S.2.2.2.2.1, S.2.2.2.2.2.1, va_up S.2.2.2.2.2.2.1 a r, S.2.2.2.2.2.2.2)
def uRD (S : PS) (a : Nat) (r : Nat → UInt64) : PS := (S.1, S.2.1, S.2.2.1, S.2.2.2.1, S.2.2.2.2.1, S.2.2.2.2.2.1, S.2.2.2.2.2.2.1, va_up S.2.2.2.2.2.2.2.1 a r, S.2.2.2.2.2.2.2.2)
def uRP (S : PS) (a : Nat) (r : Nat → Option Nat) : PS := (S.1, S.2.1, S.2.2.1, S.2.2.2.1, S.2.2.2.2.1, S.2.2.2.2.2.1, S.2.2.2.2.2.2.1, S.2.2.2.2.2.2.2.1, va_up S.2.2.2.2.2.2.2.2.1 a r, S.2.2.2.2.2.2.2.2.2)
def uW (S : PS) (a o : Nat) : PS := (S.1, S.2.1, S.2.2.1, S.2.2.2.1, S.2.2.2.2.1, S.2.2.2.2.2.1, S.2.2.2.2.2.2.1, S.2.2.2.2.2.2.2.1, S.2.2.2.2.2.2.2.2.1, va_up S.2.2.2.2.2.2.2.2.2 a o)
/-- a new object of kind k -/
def nO (S : PS) (q k : Nat) : PS := (S.1 ++ [q], va_up S.2.1 q k, fun g b => if b = q then 0 else S.2.2.1 g b, fun g b => if b = q then none else S.2.2.2.1 g b, S.2.2.2.2)
/-- a new array of kind k and length n -/
def nA (S : PS) (q k n : Nat) : PS := (S.1 ++ [q], va_up S.2.1 q k, S.2.2.1, S.2.2.2.1, va_up S.2.2.2.2.1 q n, va_up S.2.2.2.2.2.1 q (fun _ => 0), va_up S.2.2.2.2.2.2.1 q (fun _ => 0), va_up S.2.2.2.2.2.2.2.1 q (fun _ => 0), va_up S.2.2.2.2.2.2.2.2.1 q (fun _ => none), S.2.2.2.2.2.2.2.2.2)
def al (S : PS) (a k : Nat) : Prop := a ∈ pL S ∧ pK S a = k
/-- fields: how many a kind has, and which are references -/
def kN : Nat → Nat
  | 0 => 9 | 1 => 7 | 2 => 3 | 3 => 8 | 4 => 4 | 5 => 8 | 6 => 9 | _ => 3
def kref : Nat → List Bool
  | 0 => [false, true, false, false, false, false, false, false, false]
  | 1 => [false, false, false, false, false, false, false]
  | 2 => [false, false, true]
  | 3 => [false, false, false, false, true, true, true, true]
  | 4 => [true, false, false, false]
  | 5 => [true, true, true, true, false, false, false, false]
  | 6 => [false, true, false, false, false, false, false, false, false]
  | _ => [false, true, false]
def fvs : PS → Nat → Nat → Nat → List Bool → List Value
  | _, _, _, _, [] => []
  | S, k, a, j, r :: rs => (if r then va_rf (pP S (32 * k + j) a) else .int (pI S (32 * k + j) a)) :: fvs S k a (j + 1) rs
def PFo (cy : Nat → ClassId) (S : PS) (a : Nat) : va_E :=
  if pK S a < 8 then .inr (pK S a, fvs S (pK S a) a 0 (kref (pK S a)))
  else if pK S a = 8 then .inl (cy 0, (pN S a, .inl (pR S a)))
  else if pK S a = 9 then .inl (cy 1, (pN S a, .inl (pR S a)))
  else if pK S a = 10 then .inl (cy 2, (pN S a, .inr (.inl (pRL S a))))
  else if pK S a = 11 then .inl (cy 3, (pN S a, .inr (.inr (.inr (.inl (pRD S a))))))
  else .inl (cy 4, (pN S a, .inr (.inr (.inr (.inr (pRP S a))))))
abbrev gcl : List vw_C := [(RX0, TX0, 9), (RX1, TX1, 7), (RX2, TX2, 3), (RX3, TX3, 8), (RX4, TX4, 4), (RX5, TX5, 8), (RX0, TX0, 9), (RJx4a65c, TJx4a65c, 3)]
abbrev atys (cy : Nat → ClassId) : List (ClassId × FieldType) := [(cy 0, .int), (cy 1, .int), (cy 2, .int), (cy 3, .int), (cy 4, .object "java/lang/Object")]
abbrev pw (cy : Nat → ClassId) (S : PS) : va_W := va_pl (pL S) (PFo cy S)
theorem fvs_get (S : PS) (k a : Nat) : ∀ (rs : List Bool) (j i : Nat) (r : Bool), rs[i]? = some r → (fvs S k a j rs)[i]? = some (if r then va_rf (pP S (32 * k + (j + i)) a) else .int (pI S (32 * k + (j + i)) a)) := by
  intro rs
  induction rs with
  | nil => intro j i r h; simp at h
  | cons b bs ih =>
    intro j i r h
    cases i with
    | zero => simp at h; subst h; simp [fvs]
    | succ i =>
      simp at h
      have := ih (j + 1) i r h
      rw [show j + (i + 1) = j + 1 + i by omega]
      simpa [fvs] using this
theorem fvs_len (S : PS) (k a : Nat) : ∀ (rs : List Bool) (j : Nat), (fvs S k a j rs).length = rs.length := by
  intro rs
  induction rs with
  | nil => intro j; rfl
  | cons b bs ih => intro j; simp [fvs, ih]
theorem fvs_ext {S S' : PS} {k a : Nat} : ∀ (rs : List Bool) (j : Nat), (∀ i, j ≤ i → i < j + rs.length → pI S' (32 * k + i) a = pI S (32 * k + i) a ∧ pP S' (32 * k + i) a = pP S (32 * k + i) a) → fvs S' k a j rs = fvs S k a j rs := by
  intro rs
  induction rs with
  | nil => intro j h; rfl
  | cons b bs ih =>
    intro j h
    obtain ⟨h1, h2⟩ := h j (Nat.le_refl _) (by simp)
    simp only [fvs, h1, h2]
    rw [ih (j + 1) (fun i hi hj => h i (by omega) (by simp at hj ⊢; omega))]
theorem kref_len (k : Nat) (h : k < 8) : (kref k).length ≤ 32 := by
  match k, h with
  | 0, _ => decide | 1, _ => decide | 2, _ => decide | 3, _ => decide | 4, _ => decide | 5, _ => decide | 6, _ => decide | 7, _ => decide
  | n + 8, h => omega
theorem fid_inj {k k' i i' : Nat} (hi : i < 32) (hi' : i' < 32) (h : 32 * k + i = 32 * k' + i') : k = k' ∧ i = i' := by omega
/-- a field of ints set: what a cell holds then -/
theorem PFo_uI (cy : Nat → ClassId) (S : PS) {a k i : Nat} (hk : pK S a = k) (h8 : k < 8) (hi : (kref k)[i]? = some false) (v : Int32) : ∀ b, va_up (PFo cy S) a (.inr (k, (fvs S k a 0 (kref k)).set i (.int v))) b = PFo cy (uI S (32 * k + i) a v) b := by
  have hl := kref_len k h8
  have hil : i < (kref k).length := (List.getElem?_eq_some_iff.mp hi).1
  intro b
  by_cases hb : b = a
  · subst hb
    rw [va_up_self]
    unfold PFo
    have e1 : pK (uI S (32 * k + i) b v) b = k := hk
    rw [e1, if_pos h8]
    congr 2
    apply List.ext_getElem?
    intro j
    by_cases hj : j = i
    · subst hj
      rw [List.getElem?_set_self (by rw [fvs_len]; exact hil), fvs_get _ _ _ _ _ _ _ hi]
      simp [pI, uI]
    · rw [List.getElem?_set_ne (Ne.symm hj)]
      cases hr : (kref k)[j]? with
      | none =>
        have h0 : (kref k).length ≤ j := by simpa using hr
        rw [List.getElem?_eq_none (by rw [fvs_len]; exact h0), List.getElem?_eq_none (by rw [fvs_len]; exact h0)]
      | some r =>
        rw [fvs_get _ _ _ _ _ _ _ hr, fvs_get _ _ _ _ _ _ _ hr]
        have hne : ¬ 32 * k + (0 + j) = 32 * k + i := by omega
        cases r
        · simp [pI, uI, hj]
        · rfl
  · rw [va_up_ne _ _ hb]
    unfold PFo
    have e1 : pK (uI S (32 * k + i) a v) b = pK S b := rfl
    have e2 : fvs (uI S (32 * k + i) a v) (pK S b) b 0 (kref (pK S b)) = fvs S (pK S b) b 0 (kref (pK S b)) := by
      refine fvs_ext _ _ (fun j _ _ => ⟨?_, rfl⟩)
      simp only [pI, uI, if_neg hb]
      split <;> rfl
    rw [e1, e2]
    rfl
theorem PFo_uP (cy : Nat → ClassId) (S : PS) {a k i : Nat} (hk : pK S a = k) (h8 : k < 8) (hi : (kref k)[i]? = some true) (v : Option Nat) : ∀ b, va_up (PFo cy S) a (.inr (k, (fvs S k a 0 (kref k)).set i (va_rf v))) b = PFo cy (uP S (32 * k + i) a v) b := by
  have hl := kref_len k h8
  have hil : i < (kref k).length := (List.getElem?_eq_some_iff.mp hi).1
  intro b
  by_cases hb : b = a
  · subst hb
    rw [va_up_self]
    unfold PFo
    have e1 : pK (uP S (32 * k + i) b v) b = k := hk
    rw [e1, if_pos h8]
    congr 2
    apply List.ext_getElem?
    intro j
    by_cases hj : j = i
    · subst hj
      rw [List.getElem?_set_self (by rw [fvs_len]; exact hil), fvs_get _ _ _ _ _ _ _ hi]
      simp [pP, uP]
    · rw [List.getElem?_set_ne (Ne.symm hj)]
      cases hr : (kref k)[j]? with
      | none =>
        have h0 : (kref k).length ≤ j := by simpa using hr
        rw [List.getElem?_eq_none (by rw [fvs_len]; exact h0), List.getElem?_eq_none (by rw [fvs_len]; exact h0)]
      | some r =>
        rw [fvs_get _ _ _ _ _ _ _ hr, fvs_get _ _ _ _ _ _ _ hr]
        have hne : ¬ 32 * k + (0 + j) = 32 * k + i := by omega
        cases r
        · rfl
        · simp [pP, uP, hj]
  · rw [va_up_ne _ _ hb]
    unfold PFo
    have e1 : pK (uP S (32 * k + i) a v) b = pK S b := rfl
    have e2 : fvs (uP S (32 * k + i) a v) (pK S b) b 0 (kref (pK S b)) = fvs S (pK S b) b 0 (kref (pK S b)) := by
      refine fvs_ext _ _ (fun j _ _ => ⟨rfl, ?_⟩)
      simp only [pP, uP, if_neg hb]
      split <;> rfl
    rw [e1, e2]
    rfl
theorem fvs_zero (S : PS) (k q : Nat) (hI : ∀ f, pI S f q = 0) (hP : ∀ f, pP S f q = none) : ∀ (rs : List Bool) (j : Nat), fvs S k q j rs = rs.map (fun r => if r then Value.null else .int 0) := by
  intro rs
  induction rs with
  | nil => intro j; rfl
  | cons b bs ih =>
    intro j
    simp only [fvs, List.map_cons, ih, hI, hP]
    cases b <;> rfl
theorem PFo_nO (cy : Nat → ClassId) (S : PS) {q k : Nat} (h8 : k < 8) : ∀ b, va_up (PFo cy S) q (.inr (k, (kref k).map (fun r => if r then Value.null else .int 0))) b = PFo cy (nO S q k) b := by
  intro b
  by_cases hb : b = q
  · subst hb
    rw [va_up_self]
    unfold PFo
    have e1 : pK (nO S b k) b = k := va_up_self _ _ _
    rw [e1, if_pos h8, fvs_zero]
    · intro f; simp [pI, nO]
    · intro f; simp [pP, nO]
  · rw [va_up_ne _ _ hb]
    unfold PFo
    have e1 : pK (nO S q k) b = pK S b := va_up_ne _ _ hb
    have e2 : fvs (nO S q k) (pK S b) b 0 (kref (pK S b)) = fvs S (pK S b) b 0 (kref (pK S b)) := by
      refine fvs_ext _ _ (fun j _ _ => ⟨?_, ?_⟩)
      · simp [pI, nO, hb]
      · simp [pP, nO, hb]
    rw [e1, e2]
    rfl
/-- the cell of a new array -/
def aE (cy : Nat → ClassId) (k n : Nat) : va_E :=
  if k = 8 then .inl (cy 0, (n, .inl (fun _ => 0)))
  else if k = 9 then .inl (cy 1, (n, .inl (fun _ => 0)))
  else if k = 10 then .inl (cy 2, (n, .inr (.inl (fun _ => 0))))
  else if k = 11 then .inl (cy 3, (n, .inr (.inr (.inr (.inl (fun _ => 0))))))
  else .inl (cy 4, (n, .inr (.inr (.inr (.inr (fun _ => none))))))
theorem PFo_nA (cy : Nat → ClassId) (S : PS) {q k n : Nat} (h8 : 8 ≤ k) : ∀ b, va_up (PFo cy S) q (aE cy k n) b = PFo cy (nA S q k n) b := by
  intro b
  by_cases hb : b = q
  · subst hb
    rw [va_up_self]
    unfold PFo aE
    have e1 : pK (nA S b k n) b = k := va_up_self _ _ _
    have e2 : pN (nA S b k n) b = n := va_up_self _ _ _
    have e3 : pR (nA S b k n) b = fun _ => 0 := va_up_self _ _ _
    have e4 : pRL (nA S b k n) b = fun _ => 0 := va_up_self _ _ _
    have e5 : pRD (nA S b k n) b = fun _ => 0 := va_up_self _ _ _
    have e6 : pRP (nA S b k n) b = fun _ => none := va_up_self _ _ _
    rw [e1, e2, e3, e4, e5, e6, if_neg (show ¬ k < 8 by omega)]
  · rw [va_up_ne _ _ hb]
    unfold PFo
    have e1 : pK (nA S q k n) b = pK S b := va_up_ne _ _ hb
    have e0 : pN (nA S q k n) b = pN S b := va_up_ne _ _ hb
    have e3 : pR (nA S q k n) b = pR S b := va_up_ne _ _ hb
    have e4 : pRL (nA S q k n) b = pRL S b := va_up_ne _ _ hb
    have e5 : pRD (nA S q k n) b = pRD S b := va_up_ne _ _ hb
    have e6 : pRP (nA S q k n) b = pRP S b := va_up_ne _ _ hb
    have e2 : fvs (nA S q k n) (pK S b) b 0 (kref (pK S b)) = fvs S (pK S b) b 0 (kref (pK S b)) := fvs_ext _ _ (fun j _ _ => ⟨rfl, rfl⟩)
    rw [e1, e2, e0, e3, e4, e5, e6]
theorem PFo_uR (cy : Nat → ClassId) (S : PS) {a k : Nat} (hk : pK S a = k) (h8 : k = 8 ∨ k = 9) (r : Nat → Int32) : ∀ b, va_up (PFo cy S) a (.inl (cy (k - 8), (pN S a, .inl r))) b = PFo cy (uR S a r) b := by
  intro b
  by_cases hb : b = a
  · subst hb
    rw [va_up_self]
    unfold PFo
    have e1 : pK (uR S b r) b = k := hk
    have e3 : pR (uR S b r) b = r := va_up_self _ _ _
    rw [e1, e3]
    rcases h8 with rfl | rfl
    · simp; rfl
    · simp; rfl
  · rw [va_up_ne _ _ hb]
    unfold PFo
    have e1 : pK (uR S a r) b = pK S b := rfl
    have e3 : pR (uR S a r) b = pR S b := va_up_ne _ _ hb
    have e2 : fvs (uR S a r) (pK S b) b 0 (kref (pK S b)) = fvs S (pK S b) b 0 (kref (pK S b)) := fvs_ext _ _ (fun _ _ _ => ⟨rfl, rfl⟩)
    rw [e1, e2, e3]
    rfl
theorem PFo_uRL (cy : Nat → ClassId) (S : PS) {a : Nat} (hk : pK S a = 10) (r : Nat → Int64) : ∀ b, va_up (PFo cy S) a (.inl (cy 2, (pN S a, .inr (.inl r)))) b = PFo cy (uRL S a r) b := by
  intro b
  by_cases hb : b = a
  · subst hb
    rw [va_up_self]
    unfold PFo
    have e1 : pK (uRL S b r) b = 10 := hk
    have e3 : pRL (uRL S b r) b = r := va_up_self _ _ _
    rw [e1, e3]
    simp; rfl
  · rw [va_up_ne _ _ hb]
    unfold PFo
    have e1 : pK (uRL S a r) b = pK S b := rfl
    have e3 : pRL (uRL S a r) b = pRL S b := va_up_ne _ _ hb
    have e2 : fvs (uRL S a r) (pK S b) b 0 (kref (pK S b)) = fvs S (pK S b) b 0 (kref (pK S b)) := fvs_ext _ _ (fun _ _ _ => ⟨rfl, rfl⟩)
    rw [e1, e2, e3]
    rfl
theorem PFo_uRD (cy : Nat → ClassId) (S : PS) {a : Nat} (hk : pK S a = 11) (r : Nat → UInt64) : ∀ b, va_up (PFo cy S) a (.inl (cy 3, (pN S a, .inr (.inr (.inr (.inl r)))))) b = PFo cy (uRD S a r) b := by
  intro b
  by_cases hb : b = a
  · subst hb
    rw [va_up_self]
    unfold PFo
    have e1 : pK (uRD S b r) b = 11 := hk
    have e3 : pRD (uRD S b r) b = r := va_up_self _ _ _
    rw [e1, e3]
    simp; rfl
  · rw [va_up_ne _ _ hb]
    unfold PFo
    have e1 : pK (uRD S a r) b = pK S b := rfl
    have e3 : pRD (uRD S a r) b = pRD S b := va_up_ne _ _ hb
    have e2 : fvs (uRD S a r) (pK S b) b 0 (kref (pK S b)) = fvs S (pK S b) b 0 (kref (pK S b)) := fvs_ext _ _ (fun _ _ _ => ⟨rfl, rfl⟩)
    rw [e1, e2, e3]
    rfl
theorem PFo_uRP (cy : Nat → ClassId) (S : PS) {a : Nat} (hk : pK S a = 12) (r : Nat → Option Nat) : ∀ b, va_up (PFo cy S) a (.inl (cy 4, (pN S a, .inr (.inr (.inr (.inr r)))))) b = PFo cy (uRP S a r) b := by
  intro b
  by_cases hb : b = a
  · subst hb
    rw [va_up_self]
    unfold PFo
    have e1 : pK (uRP S b r) b = 12 := hk
    have e3 : pRP (uRP S b r) b = r := va_up_self _ _ _
    rw [e1, e3]
    simp; rfl
  · rw [va_up_ne _ _ hb]
    unfold PFo
    have e1 : pK (uRP S a r) b = pK S b := rfl
    have e3 : pRP (uRP S a r) b = pRP S b := va_up_ne _ _ hb
    have e2 : fvs (uRP S a r) (pK S b) b 0 (kref (pK S b)) = fvs S (pK S b) b 0 (kref (pK S b)) := fvs_ext _ _ (fun _ _ _ => ⟨rfl, rfl⟩)
    rw [e1, e2, e3]
    rfl
theorem PFo_obj (cy : Nat → ClassId) {S : PS} {a k : Nat} (h : al S a k) (h8 : k < 8) : PFo cy S a = .inr (k, fvs S k a 0 (kref k)) := by
  unfold PFo; rw [h.2, if_pos h8]
theorem PFo_I (cy : Nat → ClassId) {S : PS} {a : Nat} (h : al S a 8) : PFo cy S a = .inl (cy 0, (pN S a, .inl (pR S a))) := by unfold PFo; rw [h.2]; rfl
theorem PFo_Z (cy : Nat → ClassId) {S : PS} {a : Nat} (h : al S a 9) : PFo cy S a = .inl (cy 1, (pN S a, .inl (pR S a))) := by unfold PFo; rw [h.2]; rfl
theorem PFo_J (cy : Nat → ClassId) {S : PS} {a : Nat} (h : al S a 10) : PFo cy S a = .inl (cy 2, (pN S a, .inr (.inl (pRL S a)))) := by unfold PFo; rw [h.2]; rfl
theorem PFo_D (cy : Nat → ClassId) {S : PS} {a : Nat} (h : al S a 11) : PFo cy S a = .inl (cy 3, (pN S a, .inr (.inr (.inr (.inl (pRD S a)))))) := by unfold PFo; rw [h.2]; rfl
theorem PFo_Q (cy : Nat → ClassId) {S : PS} {a : Nat} (h : al S a 12) : PFo cy S a = .inl (cy 4, (pN S a, .inr (.inr (.inr (.inr (pRP S a)))))) := by unfold PFo; rw [h.2]; rfl
theorem pw_get (cy : Nat → ClassId) {S : PS} {a : Nat} (h : a ∈ pL S) : ∃ k : Nat, (pw cy S)[k]? = some (a, PFo cy S a) := by
  apply List.getElem?_of_mem
  exact List.mem_map.mpr ⟨a, h, rfl⟩
theorem pw_set {cy : Nat → ClassId} {A : Nat → Prop} {S : PS} {a k : Nat} {e : va_E} (hD : va_D A (pw cy S)) (h : a ∈ pL S) (hk : (pw cy S)[k]? = some (a, PFo cy S a)) : (pw cy S).set k (a, e) = va_pl (pL S) (va_up (PFo cy S) a e) :=
  va_pl_set (X := []) hD h hk
