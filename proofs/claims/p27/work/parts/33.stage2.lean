theorem plAt_lt {p : PT} {b v : Nat} (hp : okP p) (h : plAt p b = some v) : v < 20 := by
  cases p with
  | none => cases h
  | some q =>
    obtain ⟨e, t, fp, tp, fb, tb⟩ := q
    simp only [okP] at hp
    simp only [plAt, Option.some.injEq] at h
    obtain ⟨_, _, h1, h2, _, h3⟩ := hp
    unfold ndist at h3
    split at h
    · omega
    · split at h
      · rw [if_pos (by omega)] at h3; omega
      · omega
theorem trOf_lt {p : PT} {v : Nat} (hp : okP p) (h : trOf p = some v) : v < 4 := by
  cases p with
  | none => cases h
  | some q =>
    obtain ⟨e, t, fp, tp, fb, tb⟩ := q
    simp only [okP] at hp
    simp only [trOf, Option.some.injEq] at h
    omega
theorem good.pl {ds : List D4} (h : good ds) {b v : Nat} (hv : plL ds b = some v) : v < 20 := plAt_lt (okP_pth _ none trivial (fun d hd => h.2.1 d (upTo_mem hd))) hv
theorem good.tr {ds : List D4} (h : good ds) {b v : Nat} (hv : trL ds b = some v) : v < 4 := trOf_lt (okP_pth _ none trivial (fun d hd => h.2.1 d (upTo_mem hd))) hv
theorem nI_m1 {v : Nat} (h : v < 2147483648) : nI v ≠ -1 := by
  intro e
  have := congrArg Int32.toInt e
  rw [nI_toInt (by omega)] at this
  have e2 : (-1 : Int32).toInt = -1 := by decide
  rw [e2] at this
  omega
theorem zO_m1 {o : Option Nat} (h : ∀ v, o = some v → v < 1000) : zO o = -1 ↔ o = none := by
  cases o with
  | none => exact ⟨fun _ => rfl, fun _ => rfl⟩
  | some v => exact ⟨fun e => absurd e (nI_m1 (by have := h v rfl; omega)), fun e => by cases e⟩
theorem zO_inj {o o' : Option Nat} (h : ∀ v, o = some v → v < 1000) (h' : ∀ v, o' = some v → v < 1000) : zO o = zO o' ↔ o = o' := by
  cases o with
  | none =>
    cases o' with
    | none => exact ⟨fun _ => rfl, fun _ => rfl⟩
    | some v => exact ⟨fun e => absurd e.symm (nI_m1 (by have := h' v rfl; omega)), fun e => by cases e⟩
  | some u =>
    cases o' with
    | none => exact ⟨fun e => absurd e (nI_m1 (by have := h u rfl; omega)), fun e => by cases e⟩
    | some v =>
      have := h u rfl; have := h' v rfl
      constructor
      · intro e; rw [nI_inj (by omega) (by omega) e]
      · intro e; rw [e]
theorem good.plz {ds : List D4} (h : good ds) (b : Nat) : zO (plL ds b) = -1 ↔ plL ds b = none := zO_m1 (fun v hv => by have := h.pl hv; omega)
theorem good.trz {ds : List D4} (h : good ds) (b : Nat) : zO (trL ds b) = -1 ↔ trL ds b = none := zO_m1 (fun v hv => by have := h.tr hv; omega)
theorem good.pli {ds es : List D4} (h : good ds) (h' : good es) (b c : Nat) : zO (plL ds b) = zO (plL es c) ↔ plL ds b = plL es c := zO_inj (fun v hv => by have := h.pl hv; omega) (fun v hv => by have := h'.pl hv; omega)
theorem good.tri {ds es : List D4} (h : good ds) (h' : good es) (b c : Nat) : zO (trL ds b) = zO (trL es c) ↔ trL ds b = trL es c := zO_inj (fun v hv => by have := h.tr hv; omega) (fun v hv => by have := h'.tr hv; omega)
