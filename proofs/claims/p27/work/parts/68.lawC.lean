/-! ===== the law's third part: what is uncast nobody could do; the law's loops together ===== -/
section LawC
variable {Γ : GBase} {X : Cx} {x P Y Cu N la : Nat} {B : BT}
theorem lp_players (C : GC Γ X cL_law 16 "CueBookLaw" 13 600104 7301314) (hla : la ≤ 1000) (h4 : tN B ≤ 4) (cont : ∀ S k n, LWd Γ S x P Y Cu N B k n → GW Γ X S k n 549 [(0, .ref (bB Γ)), (1, .ref x), (2, .ref P), (3, .ref Y), (4, .ref Cu), (5, .ref N), (6, .int (nI la))] []) : ∀ (m q : Nat) (S : PS) (k n : Nat), q + m = tQ B → LWd Γ S x P Y Cu N B k n → GW Γ X S k n 350 [(0, .ref (bB Γ)), (1, .ref x), (2, .ref P), (3, .ref Y), (4, .ref Cu), (5, .ref N), (6, .int (nI la)), (7, .int (nI q))] [] := by
  intro m
  induction m with
  | zero =>
    intro q S k n hq hW
    obtain ⟨N8, NN, n0, n1, n2⟩ := hW.nr
    have hq5 := hW.v.2.1
    refine g_iload C dL_law_350 rfl ?_
    refine g_aload C dL_law_352 rfl ?_
    refine g_iconst C dL_law_354 (v := 1) (by decide) ?_
    refine g_ldI C i1 N8 (by rw [NN]; decide) (by decide) n1 dL_law_355 ?_
    refine g_icmp_ge C dL_law_356 (tgt := 549) (by decide) (fun c1 => ?_) (fun c1 => ?_)
    · refine g_sub [(0, _), (1, _), (2, _), (3, _), (4, _), (5, _), (6, _)] ⟨rfl, rfl, rfl, rfl, rfl, rfl, rfl, trivial⟩ ?_
      exact cont S k n hW
    · exact absurd (nI_le (by omega) (by omega)) c1
  | succ m ih =>
    intro q S k n hq hW
    obtain ⟨N8, NN, n0, n1, n2⟩ := hW.nr
    obtain ⟨Y8, YN, hPy⟩ := hW.py
    have hq5 := hW.v.2.1
    have hqn : q < tQ B := by omega
    refine g_iload C dL_law_350 rfl ?_
    refine g_aload C dL_law_352 rfl ?_
    refine g_iconst C dL_law_354 (v := 1) (by decide) ?_
    refine g_ldI C i1 N8 (by rw [NN]; decide) (by decide) n1 dL_law_355 ?_
    refine g_icmp_ge C dL_law_356 (tgt := 549) (by decide) (fun c1 => ?_) (fun c1 => ?_)
    · exact absurd c1 (nI_ge hqn (by omega))
    · refine g_aload_n C dL_law_359 rfl rfl ?_
      refine g_iconst C dL_law_360 (v := 2) (by decide) ?_
      refine g_iload C dL_law_361 rfl ?_
      refine g_imul C dL_law_363 ?_
      refine g_iconst C dL_law_364 (v := 1) (by decide) ?_
      refine g_iadd C dL_law_365 ?_
      refine g_ldI C (ix2_1 q) Y8 (by rw [YN]; omega) (by omega) (hPy q hqn).2 dL_law_366 ?_
      refine g_istore C dL_law_367 (by decide) rfl ?_
      refine g_iconst C dL_law_369 (v := 0) (by decide) ?_
      refine g_istore C dL_law_370 (by decide) rfl ?_
      refine g_iconst C dL_law_372 (v := 0) (by decide) ?_
      refine g_istore C dL_law_373 (by decide) rfl ?_
      rw [i0]
      have hh := lp_hold (x := x) (P := P) (Y := Y) (Cu := Cu) (N := N) C hla h4 hqn (fun S2 k2 n2 hW2 => ?_) la 0 S k n (by omega) hW
      · refine g_sub [(0, _), (1, _), (2, _), (3, _), (4, _), (5, _), (6, _), (7, _), (8, _), (9, _), (10, _)] ⟨rfl, rfl, rfl, rfl, rfl, rfl, rfl, rfl, rfl, rfl, rfl, trivial⟩ ?_
        exact hh
      · refine g_iinc C dL_law_543 rfl (by first | exact inc1 _ | exact rfl) (by decide) rfl ?_
        refine g_goto C dL_law_546 (tgt := 350) (by decide) ?_
        refine g_sub [(0, _), (1, _), (2, _), (3, _), (4, _), (5, _), (6, _), (7, _)] ⟨rfl, rfl, rfl, rfl, rfl, rfl, rfl, rfl, trivial⟩ ?_
        exact ih (q + 1) S2 k2 n2 (by omega) hW2
theorem lp_free (C : GC Γ X cL_law 16 "CueBookLaw" 13 600104 7301314) (h4 : tN B ≤ 4) {p j : Nat} {s : Nat × Nat} (hp : p < tN B) (hs : (stL (dsB B p))[j]? = some s) (hn0 : castB B p j = none) (cont : ∀ S k n, LWd Γ S x P Y Cu N B k n → GW Γ X S k n 685 [(0, .ref (bB Γ)), (1, .ref x), (2, .ref P), (3, .ref Y), (4, .ref Cu), (5, .ref N), (6, .int (nI la)), (7, .int (nI p)), (8, .int (nI j))] []) : ∀ (m q : Nat) (S : PS) (k n : Nat), q + m = tQ B → LWd Γ S x P Y Cu N B k n → GW Γ X S k n 593 [(0, .ref (bB Γ)), (1, .ref x), (2, .ref P), (3, .ref Y), (4, .ref Cu), (5, .ref N), (6, .int (nI la)), (7, .int (nI p)), (8, .int (nI j)), (9, .int (nI q))] [] := by
  intro m
  induction m with
  | zero =>
    intro q S k n hq hW
    obtain ⟨N8, NN, n0, n1, n2⟩ := hW.nr
    have hq5 := hW.v.2.1
    refine g_iload C dL_law_593 rfl ?_
    refine g_aload C dL_law_595 rfl ?_
    refine g_iconst C dL_law_597 (v := 1) (by decide) ?_
    refine g_ldI C i1 N8 (by rw [NN]; decide) (by decide) n1 dL_law_598 ?_
    refine g_icmp_ge C dL_law_599 (tgt := 685) (by decide) (fun c1 => ?_) (fun c1 => ?_)
    · refine g_sub [(0, _), (1, _), (2, _), (3, _), (4, _), (5, _), (6, _), (7, _), (8, _)] ⟨rfl, rfl, rfl, rfl, rfl, rfl, rfl, rfl, rfl, trivial⟩ ?_
      exact cont S k n hW
    · exact absurd (nI_le (by omega) (by omega)) c1
  | succ m ih =>
    intro q S k n hq hW
    obtain ⟨N8, NN, n0, n1, n2⟩ := hW.nr
    obtain ⟨P9, PN, hPu⟩ := hW.pu
    obtain ⟨Y8, YN, hPy⟩ := hW.py
    have hk := hW.2.k
    have hn := hW.2.n
    have hV := hW.v
    have hq5 := hV.2.1
    have hqn : q < tQ B := by omega
    have hw9 := (hV.2.2.2.1 p hp).1
    have hst := hV.2.2.2.2.1 q hqn
    have hg := hV.good hp
    have hmem := List.mem_of_getElem? hs
    have hc := hg.chain.1 s hmem
    have hjl := (List.getElem?_eq_some_iff.mp hs).1
    obtain ⟨g, hgg⟩ := Option.isSome_iff_exists.mp (hg.on (b := s.1) (by omega) hmem (Nat.le_refl _) hc.2.1)
    have hg20 := hg.pl hgg
    have hd20 := ndist_le hg20 hst.2
    have next : ∀ (S2 : PS) (k2 n2 : Nat) (l10 : Int32), LWd Γ S2 x P Y Cu N B k2 n2 → GW Γ X S2 k2 n2 679 [(0, .ref (bB Γ)), (1, .ref x), (2, .ref P), (3, .ref Y), (4, .ref Cu), (5, .ref N), (6, .int (nI la)), (7, .int (nI p)), (8, .int (nI j)), (9, .int (nI q)), (10, .int l10)] [] := by
      intro S2 k2 n2 l10 hW2
      refine g_iinc C dL_law_679 rfl (by first | exact inc1 _ | exact rfl) (by decide) rfl ?_
      refine g_goto C dL_law_682 (tgt := 593) (by decide) ?_
      refine g_sub [(0, _), (1, _), (2, _), (3, _), (4, _), (5, _), (6, _), (7, _), (8, _), (9, _)] ⟨rfl, rfl, rfl, rfl, rfl, rfl, rfl, rfl, rfl, rfl, trivial⟩ ?_
      exact ih (q + 1) S2 k2 n2 (by omega) hW2
    have no : ∀ (S2 : PS) (k2 n2 : Nat), LWd Γ S2 x P Y Cu N B k2 n2 → GW Γ X S2 k2 n2 660 [(0, .ref (bB Γ)), (1, .ref x), (2, .ref P), (3, .ref Y), (4, .ref Cu), (5, .ref N), (6, .int (nI la)), (7, .int (nI p)), (8, .int (nI j)), (9, .int (nI q))] [] := by
      intro S2 k2 n2 hW2
      refine g_iconst C dL_law_660 (v := 0) (by decide) ?_
      refine g_istore C dL_law_661 (by decide) rfl ?_
      refine g_iload C dL_law_663 rfl ?_
      refine g_if_eq C dL_law_665 (tgt := 679) (by decide) (fun c9 => ?_) (fun c9 => ?_)
      · refine g_sub [(0, _), (1, _), (2, _), (3, _), (4, _), (5, _), (6, _), (7, _), (8, _), (9, _), (10, _)] ⟨rfl, rfl, rfl, rfl, rfl, rfl, rfl, rfl, rfl, rfl, rfl, trivial⟩ ?_
        exact next S2 k2 n2 _ hW2
      · exact absurd rfl c9
    refine g_iload C dL_law_593 rfl ?_
    refine g_aload C dL_law_595 rfl ?_
    refine g_iconst C dL_law_597 (v := 1) (by decide) ?_
    refine g_ldI C i1 N8 (by rw [NN]; decide) (by decide) n1 dL_law_598 ?_
    refine g_icmp_ge C dL_law_599 (tgt := 685) (by decide) (fun c1 => ?_) (fun c1 => ?_)
    · exact absurd c1 (nI_ge hqn (by omega))
    · refine g_aload_n C dL_law_602 rfl rfl ?_
      refine g_iconst C dL_law_603 (v := 2) (by decide) ?_
      refine g_iload C dL_law_604 rfl ?_
      refine g_imul C dL_law_606 ?_
      refine g_ldZ C (ix2_0 p) P9 (by rw [PN]; omega) (by omega) (hPu p hp).1 dL_law_607 ?_
      refine g_aload_n C dL_law_608 rfl rfl ?_
      refine g_iconst C dL_law_609 (v := 2) (by decide) ?_
      refine g_iload C dL_law_610 rfl ?_
      refine g_imul C dL_law_612 ?_
      refine g_ldI C (ix2_0 q) Y8 (by rw [YN]; omega) (by omega) (hPy q hqn).1 dL_law_613 ?_
      refine g_icmp_gt C dL_law_614 (tgt := 660) (by decide) (fun c2 => ?_) (fun c2 => ?_)
      · exact no S k n hW
      · have hle : tW B p ≤ tT B q := by
          rcases Nat.lt_or_ge (tT B q) (tW B p) with h | h
          · exact absurd (nI_lt h (by omega)) c2
          · exact h
        refine g_aload_n C dL_law_617 rfl rfl ?_
        refine g_iload C dL_law_618 rfl ?_
        refine g_aload_n C dL_law_620 rfl rfl ?_
        refine g_iload C dL_law_621 rfl ?_
        refine g_iload C dL_law_623 rfl ?_
        refine g_iconst C dL_law_625 (v := 0) (by decide) ?_
        refine r_stay C hW hp hjl (v := 0) (by decide) i0 (Nat.le_of_ble_eq_true rfl) dL_law_626 (fun S2 k2 n2' hW2 h52 => ?_)
        rw [(stW_eq hs).1]
        refine r_place C hW2 hp (by omega) (Nat.le_of_ble_eq_true rfl) dL_law_629 ?_
        rw [hgg, show zO (some g) = nI g from rfl]
        obtain ⟨Y82, YN2, hPy2⟩ := hW2.py
        have hk2 := hW2.2.k
        have hn2 := hW2.2.n
        refine g_aload_n C dL_law_632 rfl rfl ?_
        refine g_iconst C dL_law_633 (v := 2) (by decide) ?_
        refine g_iload C dL_law_634 rfl ?_
        refine g_imul C dL_law_636 ?_
        refine g_iconst C dL_law_637 (v := 1) (by decide) ?_
        refine g_iadd C dL_law_638 ?_
        refine g_ldI C (ix2_1 q) Y82 (by rw [YN2]; omega) (by omega) (hPy2 q hqn).2 dL_law_639 ?_
        refine g_isub C dL_law_640 ?_
        refine g_abs C tw_3_175 (by simp [Value.category]) (by omega) (by omega) dL_law_641 ?_
        rw [jabs_sub (by omega) (by omega)]
        refine g_aload_n C dL_law_644 rfl rfl ?_
        refine g_iload C dL_law_645 rfl ?_
        refine g_iload C dL_law_647 rfl ?_
        refine g_iconst C dL_law_649 (v := 0) (by decide) ?_
        refine r_stay C hW2 hp hjl (v := 0) (by decide) i0 (Nat.le_of_ble_eq_true rfl) dL_law_650 (fun S3 k3 n3 hW3 h53 => ?_)
        rw [(stW_eq hs).1]
        refine g_icmp_gt C dL_law_653 (tgt := 660) (by decide) (fun c3 => ?_) (fun c3 => ?_)
        · exact no S3 k3 n3 hW3
        · have hd : ndist g (tO B q) ≤ s.1 := by
            rcases Nat.lt_or_ge s.1 (ndist g (tO B q)) with h | h
            · exact absurd (nI_lt h (by omega)) c3
            · exact h
          have hno := uncast_no hV (hW3.ord h53) hp hs hn0 hqn hle hgg hd
          have hcl := cntN_le (fun b => hmB B q b != 0) 1000
          refine g_iconst C dL_law_656 (v := 1) (by decide) ?_
          refine g_goto C dL_law_657 (tgt := 661) (by decide) ?_
          refine g_istore C dL_law_661 (by decide) rfl ?_
          refine g_iload C dL_law_663 rfl ?_
          refine g_if_eq C dL_law_665 (tgt := 679) (by decide) (fun c4 => ?_) (fun c4 => ?_)
          · exact absurd c4 (by decide)
          · refine g_aload_n C dL_law_668 rfl rfl ?_
            refine g_iload C dL_law_669 rfl ?_
            refine r_load C hW3 h53 hqn (Nat.le_of_ble_eq_true rfl) dL_law_671 ?_
            refine g_if_ne C dL_law_674 (tgt := 679) (by decide) (fun c5 => ?_) (fun c5 => ?_)
            · refine g_sub [(0, _), (1, _), (2, _), (3, _), (4, _), (5, _), (6, _), (7, _), (8, _), (9, _), (10, _)] ⟨rfl, rfl, rfl, rfl, rfl, rfl, rfl, rfl, rfl, rfl, rfl, trivial⟩ ?_
              exact next S3 k3 n3 _ hW3
            · exact absurd c5 (nI_ne0 (Nat.pos_of_ne_zero hno) (by omega))
theorem lp_uncast (C : GC Γ X cL_law 16 "CueBookLaw" 13 600104 7301314) (h4 : tN B ≤ 4) {p : Nat} (hp : p < tN B) (cont : ∀ S k n, LWd Γ S x P Y Cu N B k n → GW Γ X S k n 691 [(0, .ref (bB Γ)), (1, .ref x), (2, .ref P), (3, .ref Y), (4, .ref Cu), (5, .ref N), (6, .int (nI la)), (7, .int (nI p))] []) : ∀ (m j : Nat) (S : PS) (k n : Nat), j + m = (stL (dsB B p)).length → LWd Γ S x P Y Cu N B k n → GW Γ X S k n 564 [(0, .ref (bB Γ)), (1, .ref x), (2, .ref P), (3, .ref Y), (4, .ref Cu), (5, .ref N), (6, .int (nI la)), (7, .int (nI p)), (8, .int (nI j))] [] := by
  have len : ∀ {S k n}, LWd Γ S x P Y Cu N B k n → (stL (dsB B p)).length ≤ 40 := fun hW => Nat.le_trans (stL_len _) (hW.v.lenD hp)
  intro m
  induction m with
  | zero =>
    intro j S k n hj hW
    have hl := len hW
    refine g_iload C dL_law_564 rfl ?_
    refine g_aload_n C dL_law_566 rfl rfl ?_
    refine g_iload C dL_law_567 rfl ?_
    refine r_stays C hW hp (Nat.le_of_ble_eq_true rfl) dL_law_569 ?_
    refine g_icmp_ge C dL_law_572 (tgt := 691) (by decide) (fun c1 => ?_) (fun c1 => ?_)
    · refine g_sub [(0, _), (1, _), (2, _), (3, _), (4, _), (5, _), (6, _), (7, _)] ⟨rfl, rfl, rfl, rfl, rfl, rfl, rfl, rfl, trivial⟩ ?_
      exact cont S k n hW
    · exact absurd (nI_le (by omega) (by omega)) c1
  | succ m ih =>
    intro j S k n hj hW
    have hl := len hW
    have hjl : j < (stL (dsB B p)).length := by omega
    obtain ⟨s, hs⟩ : ∃ s, (stL (dsB B p))[j]? = some s := ⟨_, List.getElem?_eq_getElem hjl⟩
    have next : ∀ (S2 : PS) (k2 n2 : Nat), LWd Γ S2 x P Y Cu N B k2 n2 → GW Γ X S2 k2 n2 685 [(0, .ref (bB Γ)), (1, .ref x), (2, .ref P), (3, .ref Y), (4, .ref Cu), (5, .ref N), (6, .int (nI la)), (7, .int (nI p)), (8, .int (nI j))] [] := by
      intro S2 k2 n2 hW2
      refine g_iinc C dL_law_685 rfl (by first | exact inc1 _ | exact rfl) (by decide) rfl ?_
      refine g_goto C dL_law_688 (tgt := 564) (by decide) ?_
      refine g_sub [(0, _), (1, _), (2, _), (3, _), (4, _), (5, _), (6, _), (7, _), (8, _)] ⟨rfl, rfl, rfl, rfl, rfl, rfl, rfl, rfl, rfl, trivial⟩ ?_
      exact ih (j + 1) S2 k2 n2 (by omega) hW2
    refine g_iload C dL_law_564 rfl ?_
    refine g_aload_n C dL_law_566 rfl rfl ?_
    refine g_iload C dL_law_567 rfl ?_
    refine r_stays C hW hp (Nat.le_of_ble_eq_true rfl) dL_law_569 ?_
    refine g_icmp_ge C dL_law_572 (tgt := 691) (by decide) (fun c1 => ?_) (fun c1 => ?_)
    · exact absurd c1 (nI_ge hjl (by omega))
    · refine g_aload_n C dL_law_575 rfl rfl ?_
      refine g_iload C dL_law_576 rfl ?_
      refine g_iload C dL_law_578 rfl ?_
      refine g_iconst C dL_law_580 (v := 2) (by decide) ?_
      refine r_stay C hW hp hjl (v := 2) (by decide) i2 (Nat.le_of_ble_eq_true rfl) dL_law_581 (fun S2 k2 n2 hW2 h52 => ?_)
      rw [(stW_eq hs).2.2]
      cases hcp : castB B p j with
      | none =>
        rw [show zO none = (-1 : Int32) from rfl]
        refine g_if_lt C dL_law_584 (tgt := 590) (by decide) (fun c2 => ?_) (fun c2 => ?_)
        · refine g_iconst C dL_law_590 (v := 0) (by decide) ?_
          refine g_istore C dL_law_591 (by decide) rfl ?_
          refine g_sub [(0, _), (1, _), (2, _), (3, _), (4, _), (5, _), (6, _), (7, _), (8, _), (9, _)] ⟨rfl, rfl, rfl, rfl, rfl, rfl, rfl, rfl, rfl, rfl, trivial⟩ ?_
          exact lp_free C h4 hp hs hcp next (tQ B) 0 S2 k2 n2 (by omega) hW2
        · exact absurd (by decide) c2
      | some q =>
        have hq := cast_lt hW2.v (hW2.ord h52) q hcp
        rw [show zO (some q) = nI q from rfl]
        refine g_if_lt C dL_law_584 (tgt := 590) (by decide) (fun c2 => ?_) (fun c2 => ?_)
        · exact absurd c2 (nI_pos (by omega))
        · refine g_goto C dL_law_587 (tgt := 685) (by decide) ?_
          exact next S2 k2 n2 hW2
theorem lp_last (C : GC Γ X cL_law 16 "CueBookLaw" 13 600104 7301314) (h4 : tN B ≤ 4) (cont : ∀ S k n, LWd Γ S x P Y Cu N B k n → GW Γ X S k n 697 [(0, .ref (bB Γ)), (1, .ref x), (2, .ref P), (3, .ref Y), (4, .ref Cu), (5, .ref N), (6, .int (nI la))] []) : ∀ (m p : Nat) (S : PS) (k n : Nat), p + m = tN B → LWd Γ S x P Y Cu N B k n → GW Γ X S k n 552 [(0, .ref (bB Γ)), (1, .ref x), (2, .ref P), (3, .ref Y), (4, .ref Cu), (5, .ref N), (6, .int (nI la)), (7, .int (nI p))] [] := by
  intro m
  induction m with
  | zero =>
    intro p S k n hp hW
    obtain ⟨N8, NN, n0, n1, n2⟩ := hW.nr
    refine g_iload C dL_law_552 rfl ?_
    refine g_aload C dL_law_554 rfl ?_
    refine g_iconst C dL_law_556 (v := 0) (by decide) ?_
    refine g_ldI C i0 N8 (by rw [NN]; decide) (by decide) n0 dL_law_557 ?_
    refine g_icmp_ge C dL_law_558 (tgt := 697) (by decide) (fun c1 => ?_) (fun c1 => ?_)
    · refine g_sub [(0, _), (1, _), (2, _), (3, _), (4, _), (5, _), (6, _)] ⟨rfl, rfl, rfl, rfl, rfl, rfl, rfl, trivial⟩ ?_
      exact cont S k n hW
    · exact absurd (nI_le (by omega) (by omega)) c1
  | succ m ih =>
    intro p S k n hp hW
    obtain ⟨N8, NN, n0, n1, n2⟩ := hW.nr
    refine g_iload C dL_law_552 rfl ?_
    refine g_aload C dL_law_554 rfl ?_
    refine g_iconst C dL_law_556 (v := 0) (by decide) ?_
    refine g_ldI C i0 N8 (by rw [NN]; decide) (by decide) n0 dL_law_557 ?_
    refine g_icmp_ge C dL_law_558 (tgt := 697) (by decide) (fun c1 => ?_) (fun c1 => ?_)
    · exact absurd c1 (nI_ge (by omega) (by omega))
    · refine g_iconst C dL_law_561 (v := 0) (by decide) ?_
      refine g_istore C dL_law_562 (by decide) rfl ?_
      rw [i0]
      have hh := lp_uncast (x := x) (P := P) (Y := Y) (Cu := Cu) (N := N) (la := la) C h4 (p := p) (by omega) (fun S2 k2 n2 hW2 => ?_) (stL (dsB B p)).length 0 S k n (by omega) hW
      · refine g_sub [(0, _), (1, _), (2, _), (3, _), (4, _), (5, _), (6, _), (7, _), (8, _)] ⟨rfl, rfl, rfl, rfl, rfl, rfl, rfl, rfl, rfl, trivial⟩ ?_
        exact hh
      · refine g_iinc C dL_law_691 rfl (by first | exact inc1 _ | exact rfl) (by decide) rfl ?_
        refine g_goto C dL_law_694 (tgt := 552) (by decide) ?_
        refine g_sub [(0, _), (1, _), (2, _), (3, _), (4, _), (5, _), (6, _), (7, _)] ⟨rfl, rfl, rfl, rfl, rfl, rfl, rfl, rfl, trivial⟩ ?_
        exact ih (p + 1) S2 k2 n2 (by omega) hW2
/-- from the book built to the end -/
theorem lp_all (C : GC Γ X cL_law 16 "CueBookLaw" 13 600104 7301314) (hla : la ≤ 1000) (h4 : tN B ≤ 4) (hend : ∀ (S : PS) (kc nc : Nat) (loc : List (Nat × Value)), kc ≤ 600104 → nc ≤ 7301314 → GW Γ X S kc nc 698 loc [.int 1]) {S : PS} {k n : Nat} (hW : LWd Γ S x P Y Cu N B k n) : GW Γ X S k n 93 [(0, .ref (bB Γ)), (1, .ref x), (2, .ref P), (3, .ref Y), (4, .ref Cu), (5, .ref N), (6, .int (nI la))] [] := by
  refine g_iconst C dL_law_93 (v := 0) (by decide) ?_
  refine g_istore C dL_law_94 (by decide) rfl ?_
  rw [i0]
  have hh := lp_puppets (x := x) (P := P) (Y := Y) (Cu := Cu) (N := N) C hla h4 (fun S2 k2 n2 hW2 => ?_) (tN B) 0 S k n (by omega) hW
  · refine g_sub [(0, _), (1, _), (2, _), (3, _), (4, _), (5, _), (6, _), (7, _)] ⟨rfl, rfl, rfl, rfl, rfl, rfl, rfl, rfl, trivial⟩ ?_
    exact hh
  · refine g_iconst C dL_law_347 (v := 0) (by decide) ?_
    refine g_istore C dL_law_348 (by decide) rfl ?_
    rw [i0]
    have h2 := lp_players (x := x) (P := P) (Y := Y) (Cu := Cu) (N := N) C hla h4 (fun S3 k3 n3 hW3 => ?_) (tQ B) 0 S2 k2 n2 (by omega) hW2
    · refine g_sub [(0, _), (1, _), (2, _), (3, _), (4, _), (5, _), (6, _), (7, _)] ⟨rfl, rfl, rfl, rfl, rfl, rfl, rfl, rfl, trivial⟩ ?_
      exact h2
    · refine g_iconst C dL_law_549 (v := 0) (by decide) ?_
      refine g_istore C dL_law_550 (by decide) rfl ?_
      rw [i0]
      have h3 := lp_last (x := x) (P := P) (Y := Y) (Cu := Cu) (N := N) (la := la) C h4 (fun S4 k4 n4 hW4 => ?_) (tN B) 0 S3 k3 n3 (by omega) hW3
      · refine g_sub [(0, _), (1, _), (2, _), (3, _), (4, _), (5, _), (6, _), (7, _)] ⟨rfl, rfl, rfl, rfl, rfl, rfl, rfl, rfl, trivial⟩ ?_
        exact h3
      · have hk := hW4.2.k
        have hn := hW4.2.n
        refine g_iconst C dL_law_697 (v := 1) (by decide) ?_
        exact hend S4 k4 n4 _ (by omega) (by omega)
/-- the last beat that is looked at -/
theorem lp_max (C : GC Γ X cL_law 16 "CueBookLaw" 13 600104 7301314) (hc18 : tC B ≤ 18) (hbt : BtI B) (cont : ∀ (la : Nat) (S : PS) (k n : Nat), la ≤ 1000 → LWd Γ S x P Y Cu N B k n → GW Γ X S k n 93 [(0, .ref (bB Γ)), (1, .ref x), (2, .ref P), (3, .ref Y), (4, .ref Cu), (5, .ref N), (6, .int (nI la))] []) : ∀ (m c la : Nat) (S : PS) (k n : Nat), c + m = tC B → la ≤ 1000 → LWd Γ S x P Y Cu N B k n → GW Γ X S k n 52 [(0, .ref (bB Γ)), (1, .ref x), (2, .ref P), (3, .ref Y), (4, .ref Cu), (5, .ref N), (6, .int (nI la)), (7, .int (nI c))] [] := by
  intro m
  induction m with
  | zero =>
    intro c la S k n hc hla hW
    obtain ⟨N8, NN, n0, n1, n2⟩ := hW.nr
    refine g_iload C dL_law_52 rfl ?_
    refine g_aload C dL_law_54 rfl ?_
    refine g_iconst C dL_law_56 (v := 2) (by decide) ?_
    refine g_ldI C i2 N8 (by rw [NN]; decide) (by decide) n2 dL_law_57 ?_
    refine g_icmp_ge C dL_law_58 (tgt := 93) (by decide) (fun c1 => ?_) (fun c1 => ?_)
    · refine g_sub [(0, _), (1, _), (2, _), (3, _), (4, _), (5, _), (6, _)] ⟨rfl, rfl, rfl, rfl, rfl, rfl, rfl, trivial⟩ ?_
      exact cont la S k n hla hW
    · exact absurd (nI_le (by omega) (by omega)) c1
  | succ m ih =>
    intro c la S k n hc hla hW
    obtain ⟨N8, NN, n0, n1, n2⟩ := hW.nr
    have hk := hW.2.k
    have hn := hW.2.n
    obtain ⟨C8, CN, hcu⟩ := hW.cu
    obtain ⟨⟨-, -, v2, -⟩, -, -, -⟩ := hcu c (by omega)
    have hb := hbt c (by omega)
    refine g_iload C dL_law_52 rfl ?_
    refine g_aload C dL_law_54 rfl ?_
    refine g_iconst C dL_law_56 (v := 2) (by decide) ?_
    refine g_ldI C i2 N8 (by rw [NN]; decide) (by decide) n2 dL_law_57 ?_
    refine g_icmp_ge C dL_law_58 (tgt := 93) (by decide) (fun c1 => ?_) (fun c1 => ?_)
    · exact absurd c1 (nI_ge (by omega) (by omega))
    · refine g_iload C dL_law_61 rfl ?_
      refine g_sipush C dL_law_63 (v := 1000) (by decide) ?_
      refine g_aload C dL_law_66 rfl ?_
      refine g_bipush C dL_law_68 (v := 6) (by decide) ?_
      refine g_iload C dL_law_70 rfl ?_
      refine g_imul C dL_law_72 ?_
      refine g_iconst C dL_law_73 (v := 2) (by decide) ?_
      refine g_iadd C dL_law_74 ?_
      refine g_ldI C (ix6_2 c) C8 (by rw [CN]; omega) (by omega) v2 dL_law_75 ?_
      refine g_bipush C dL_law_76 (v := 25) (by decide) ?_
      rw [show (25 : Int32) = nI 25 from rfl, show (1000 : Int32) = nI 1000 from rfl]
      refine g_iadd C dL_law_78 ?_
      rw [nI_add]
      refine g_min C tw_3_176 tw_2_47 tw_2_48 tw_1_13 (by simp [Value.category]) (by omega) (by omega) dL_law_79 ?_
      rw [min_nI (by omega) (by omega)]
      refine g_max C tw_2_223 (by simp [Value.category]) (by omega) (by omega) dL_law_82 ?_
      rw [max_nI (by omega) (by omega)]
      refine g_istore C dL_law_85 (by decide) rfl ?_
      refine g_iinc C dL_law_87 rfl (by first | exact inc1 _ | exact rfl) (by decide) rfl ?_
      refine g_goto C dL_law_90 (tgt := 52) (by decide) ?_
      refine g_sub [(0, _), (1, _), (2, _), (3, _), (4, _), (5, _), (6, _), (7, _)] ⟨rfl, rfl, rfl, rfl, rfl, rfl, rfl, rfl, trivial⟩ ?_
      exact ih (c + 1) _ S k n (by omega) (by omega) hW
end LawC
