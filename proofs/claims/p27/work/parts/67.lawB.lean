/-! ===== the law's second part: what each player has in its hands ===== -/
section LawB
variable {Γ : GBase} {X : Cx} {x P Y Cu N la : Nat} {B : BT}
theorem lp_set (C : GC Γ X cL_law 16 "CueBookLaw" 13 600104 7301314) (h4 : tN B ≤ 4) {q b : Nat} (hok : okAt (ctB B) (castB B) q b) (hb1 : b < 1000) {l8 l9 : Int32} {S : PS} {k n : Nat} (hW : LWd Γ S x P Y Cu N B k n) (cont : GW Γ X S k n 486 [(0, .ref (bB Γ)), (1, .ref x), (2, .ref P), (3, .ref Y), (4, .ref Cu), (5, .ref N), (6, .int (nI la)), (7, .int (nI q)), (8, .int l8), (9, .int l9), (10, .int (nI b)), (11, .int (nI (hmB B q b))), (12, .int (nI (sumN (held (ctB B) (castB B) q b) (tH B) (tN B)))), (13, .int (nI (sumN (held (ctB B) (castB B) q b) (tW B) (tN B)))), (14, .int (zO (lastN (held (ctB B) (castB B) q b) (fun p => plL (dsB B p) b) (tN B))))] []) : ∀ (m p : Nat), p + m = tN B → GW Γ X S k n 404 [(0, .ref (bB Γ)), (1, .ref x), (2, .ref P), (3, .ref Y), (4, .ref Cu), (5, .ref N), (6, .int (nI la)), (7, .int (nI q)), (8, .int l8), (9, .int l9), (10, .int (nI b)), (11, .int (nI (hmB B q b))), (12, .int (nI (sumN (held (ctB B) (castB B) q b) (tH B) p))), (13, .int (nI (sumN (held (ctB B) (castB B) q b) (tW B) p))), (14, .int (zO (lastN (held (ctB B) (castB B) q b) (fun p => plL (dsB B p) b) p))), (15, .int (nI p))] [] := by
  have hk := hW.2.k
  have hn := hW.2.n
  have hV := hW.v
  obtain ⟨N8, NN, n0, n1, n2⟩ := hW.nr
  obtain ⟨P9, PN, hPu⟩ := hW.pu
  intro m
  induction m with
  | zero =>
    intro p hp
    refine g_iload C dL_law_404 rfl ?_
    refine g_aload C dL_law_406 rfl ?_
    refine g_iconst C dL_law_408 (v := 0) (by decide) ?_
    refine g_ldI C i0 N8 (by rw [NN]; decide) (by decide) n0 dL_law_409 ?_
    refine g_icmp_ge C dL_law_410 (tgt := 486) (by decide) (fun c1 => ?_) (fun c1 => ?_)
    · rw [show p = tN B by omega]
      refine g_sub [(0, _), (1, _), (2, _), (3, _), (4, _), (5, _), (6, _), (7, _), (8, _), (9, _), (10, _), (11, _), (12, _), (13, _), (14, _)] ⟨rfl, rfl, rfl, rfl, rfl, rfl, rfl, rfl, rfl, rfl, rfl, rfl, rfl, rfl, rfl, trivial⟩ ?_
      exact cont
    · exact absurd (nI_le (by omega) (by omega)) c1
  | succ m ih =>
    intro p hp
    have hpn : p < tN B := by omega
    refine g_iload C dL_law_404 rfl ?_
    refine g_aload C dL_law_406 rfl ?_
    refine g_iconst C dL_law_408 (v := 0) (by decide) ?_
    refine g_ldI C i0 N8 (by rw [NN]; decide) (by decide) n0 dL_law_409 ?_
    refine g_icmp_ge C dL_law_410 (tgt := 486) (by decide) (fun c1 => ?_) (fun c1 => ?_)
    · exact absurd c1 (nI_ge hpn (by omega))
    · have at480 : ∀ (a c d : Int32), a = nI (sumN (held (ctB B) (castB B) q b) (tH B) (p + 1)) → c = nI (sumN (held (ctB B) (castB B) q b) (tW B) (p + 1)) → d = zO (lastN (held (ctB B) (castB B) q b) (fun p => plL (dsB B p) b) (p + 1)) → GW Γ X S k n 480 [(0, .ref (bB Γ)), (1, .ref x), (2, .ref P), (3, .ref Y), (4, .ref Cu), (5, .ref N), (6, .int (nI la)), (7, .int (nI q)), (8, .int l8), (9, .int l9), (10, .int (nI b)), (11, .int (nI (hmB B q b))), (12, .int a), (13, .int c), (14, .int d), (15, .int (nI p))] [] := by
        intro a c d ha hc hd
        subst ha; subst hc; subst hd
        refine g_iinc C dL_law_480 rfl (by first | exact inc1 _ | exact rfl) (by decide) rfl ?_
        refine g_goto C dL_law_483 (tgt := 404) (by decide) ?_
        refine g_sub [(0, _), (1, _), (2, _), (3, _), (4, _), (5, _), (6, _), (7, _), (8, _), (9, _), (10, _), (11, _), (12, _), (13, _), (14, _), (15, _)] ⟨rfl, rfl, rfl, rfl, rfl, rfl, rfl, rfl, rfl, rfl, rfl, rfl, rfl, rfl, rfl, rfl, trivial⟩ ?_
        exact ih (p + 1) (by omega)
      refine g_iload C dL_law_413 rfl ?_
      refine g_iload C dL_law_415 rfl ?_
      refine g_ishr C dL_law_417 ?_
      refine g_iconst C dL_law_418 (v := 1) (by decide) ?_
      refine g_iand C dL_law_419 ?_
      rw [nb_shr _ (hm_lt B h4 q b) _ (by omega), hm_held hpn]
      by_cases e : (held (ctB B) (castB B) q b) p = true
      · rw [if_pos e]
        refine g_if_ne C dL_law_420 (tgt := 426) (by decide) (fun c2 => ?_) (fun c2 => ?_)
        · obtain ⟨v, hv, hv20⟩ := held_on hV hpn e
          have hsh : sumN (held (ctB B) (castB B) q b) (tH B) p + tH B p = sumN (held (ctB B) (castB B) q b) (tH B) (p + 1) := by simp only [sumN]; rw [if_pos e]
          have hsw : sumN (held (ctB B) (castB B) q b) (tW B) p + tW B p = sumN (held (ctB B) (castB B) q b) (tW B) (p + 1) := by simp only [sumN]; rw [if_pos e]
          have hla : lastN (held (ctB B) (castB B) q b) (fun p => plL (dsB B p) b) (p + 1) = some v := by
            simp only [lastN]
            rw [if_pos e]
            exact hv
          have at470 : ∀ (d : Int32), GW Γ X S k n 470 [(0, .ref (bB Γ)), (1, .ref x), (2, .ref P), (3, .ref Y), (4, .ref Cu), (5, .ref N), (6, .int (nI la)), (7, .int (nI q)), (8, .int l8), (9, .int l9), (10, .int (nI b)), (11, .int (nI (hmB B q b))), (12, .int (nI (sumN (held (ctB B) (castB B) q b) (tH B) (p + 1)))), (13, .int (nI (sumN (held (ctB B) (castB B) q b) (tW B) (p + 1)))), (14, .int d), (15, .int (nI p))] [] := by
            intro d
            refine g_aload_n C dL_law_470 rfl rfl ?_
            refine g_iload C dL_law_471 rfl ?_
            refine g_iload C dL_law_473 rfl ?_
            refine r_place C hW hpn hb1 (Nat.le_of_ble_eq_true rfl) dL_law_475 ?_
            refine g_istore C dL_law_478 (by decide) rfl ?_
            refine g_sub [(0, _), (1, _), (2, _), (3, _), (4, _), (5, _), (6, _), (7, _), (8, _), (9, _), (10, _), (11, _), (12, _), (13, _), (14, _), (15, _)] ⟨rfl, rfl, rfl, rfl, rfl, rfl, rfl, rfl, rfl, rfl, rfl, rfl, rfl, rfl, rfl, rfl, trivial⟩ ?_
            exact at480 _ _ _ rfl rfl (by rw [hv, hla])
          refine g_iload C dL_law_426 rfl ?_
          refine g_aload_n C dL_law_428 rfl rfl ?_
          refine g_iconst C dL_law_429 (v := 2) (by decide) ?_
          refine g_iload C dL_law_430 rfl ?_
          refine g_imul C dL_law_432 ?_
          refine g_iconst C dL_law_433 (v := 1) (by decide) ?_
          refine g_iadd C dL_law_434 ?_
          refine g_ldZ C (ix2_1 p) P9 (by rw [PN]; omega) (by omega) (hPu p hpn).2 dL_law_435 ?_
          refine g_iadd C dL_law_436 ?_
          rw [nI_add, hsh]
          refine g_istore C dL_law_437 (by decide) rfl ?_
          refine g_iload C dL_law_439 rfl ?_
          refine g_aload_n C dL_law_441 rfl rfl ?_
          refine g_iconst C dL_law_442 (v := 2) (by decide) ?_
          refine g_iload C dL_law_443 rfl ?_
          refine g_imul C dL_law_445 ?_
          refine g_ldZ C (ix2_0 p) P9 (by rw [PN]; omega) (by omega) (hPu p hpn).1 dL_law_446 ?_
          refine g_iadd C dL_law_447 ?_
          rw [nI_add, hsw]
          refine g_istore C dL_law_448 (by decide) rfl ?_
          refine g_iload C dL_law_450 rfl ?_
          cases hl : lastN (held (ctB B) (castB B) q b) (fun p => plL (dsB B p) b) p with
          | none =>
            rw [show zO none = (-1 : Int32) from rfl]
            refine g_if_lt C dL_law_452 (tgt := 470) (by decide) (fun c3 => ?_) (fun c3 => ?_)
            · refine g_sub [(0, _), (1, _), (2, _), (3, _), (4, _), (5, _), (6, _), (7, _), (8, _), (9, _), (10, _), (11, _), (12, _), (13, _), (14, _), (15, _)] ⟨rfl, rfl, rfl, rfl, rfl, rfl, rfl, rfl, rfl, rfl, rfl, rfl, rfl, rfl, rfl, rfl, trivial⟩ ?_
              exact at470 _
            · exact absurd (by decide) c3
          | some w =>
            obtain ⟨j, hj1, hj2, hj3⟩ := lastN_ex _ hl
            obtain ⟨w', hw', hw20⟩ := held_on hV (by omega) hj2
            have hwv : w = v := by
              have e1 : plL (dsB B j) b = plL (dsB B p) b := hok.1 j p (by show j < tN B; omega) hpn hj2 e
              have e2 : plL (dsB B j) b = some w := hj3
              rw [e2, hv] at e1
              exact Option.some.inj e1
            subst hwv
            rw [show zO (some w) = nI w from rfl]
            refine g_if_lt C dL_law_452 (tgt := 470) (by decide) (fun c3 => ?_) (fun c3 => ?_)
            · exact absurd c3 (nI_pos (by omega))
            · refine g_iload C dL_law_455 rfl ?_
              refine g_aload_n C dL_law_457 rfl rfl ?_
              refine g_iload C dL_law_458 rfl ?_
              refine g_iload C dL_law_460 rfl ?_
              refine r_place C hW hpn hb1 (Nat.le_of_ble_eq_true rfl) dL_law_462 ?_
              rw [hv, show zO (some w) = nI w from rfl]
              refine g_icmp_eq C dL_law_465 (tgt := 470) (by decide) (fun c4 => ?_) (fun c4 => ?_)
              · refine g_sub [(0, _), (1, _), (2, _), (3, _), (4, _), (5, _), (6, _), (7, _), (8, _), (9, _), (10, _), (11, _), (12, _), (13, _), (14, _), (15, _)] ⟨rfl, rfl, rfl, rfl, rfl, rfl, rfl, rfl, rfl, rfl, rfl, rfl, rfl, rfl, rfl, rfl, trivial⟩ ?_
                exact at470 _
              · exact absurd rfl c4
        · exact absurd c2 (by decide)
      · rw [if_neg e]
        refine g_if_ne C dL_law_420 (tgt := 426) (by decide) (fun c2 => ?_) (fun c2 => ?_)
        · exact absurd rfl c2
        · refine g_goto C dL_law_423 (tgt := 480) (by decide) ?_
          refine at480 _ _ _ ?_ ?_ ?_
          · simp only [sumN]; rw [if_neg e]; rfl
          · simp only [sumN]; rw [if_neg e]; rfl
          · simp only [lastN]; rw [if_neg e]
theorem lp_hold (C : GC Γ X cL_law 16 "CueBookLaw" 13 600104 7301314) (hla : la ≤ 1000) (h4 : tN B ≤ 4) {q : Nat} (hq : q < tQ B) (cont : ∀ S k n, LWd Γ S x P Y Cu N B k n → GW Γ X S k n 543 [(0, .ref (bB Γ)), (1, .ref x), (2, .ref P), (3, .ref Y), (4, .ref Cu), (5, .ref N), (6, .int (nI la)), (7, .int (nI q))] []) : ∀ (m b : Nat) (S : PS) (k n : Nat), b + m = la → LWd Γ S x P Y Cu N B k n → GW Γ X S k n 375 [(0, .ref (bB Γ)), (1, .ref x), (2, .ref P), (3, .ref Y), (4, .ref Cu), (5, .ref N), (6, .int (nI la)), (7, .int (nI q)), (8, .int (nI (lastH (ctB B) (castB B) q b).1)), (9, .int (nI (lastH (ctB B) (castB B) q b).2)), (10, .int (nI b))] [] := by
  intro m
  induction m with
  | zero =>
    intro b S k n hb hW
    refine g_iload C dL_law_375 rfl ?_
    refine g_iload C dL_law_377 rfl ?_
    refine g_icmp_ge C dL_law_379 (tgt := 543) (by decide) (fun c1 => ?_) (fun c1 => ?_)
    · refine g_sub [(0, _), (1, _), (2, _), (3, _), (4, _), (5, _), (6, _), (7, _)] ⟨rfl, rfl, rfl, rfl, rfl, rfl, rfl, rfl, trivial⟩ ?_
      exact cont S k n hW
    · exact absurd (nI_le (by omega) (by omega)) c1
  | succ m ih =>
    intro b S k n hb hW
    have hb1 : b < 1000 := by omega
    have hV := hW.v
    refine g_iload C dL_law_375 rfl ?_
    refine g_iload C dL_law_377 rfl ?_
    refine g_icmp_ge C dL_law_379 (tgt := 543) (by decide) (fun c1 => ?_) (fun c1 => ?_)
    · exact absurd c1 (nI_ge (by omega) (by omega))
    · refine g_aload_n C dL_law_382 rfl rfl ?_
      refine g_iload C dL_law_383 rfl ?_
      refine g_iload C dL_law_385 rfl ?_
      refine r_hands C hW hq hb1 (Nat.le_of_ble_eq_true rfl) dL_law_387 (fun S2 k2 n2 hW2 h5 => ?_)
      have hk := hW2.2.k
      have hn := hW2.2.n
      have hO := hW2.ord h5
      obtain ⟨hok, hwalk⟩ := (castB_I hO).1 q hq b hb1
      have hlh := lastH_le hV hq b
      obtain ⟨Y8, YN, hPy⟩ := hW2.py
      obtain ⟨pl, hpl⟩ : ∃ pl, pl = (lastH (ctB B) (castB B) q b).1 := ⟨_, rfl⟩
      obtain ⟨si, hsi⟩ : ∃ si, si = (lastH (ctB B) (castB B) q b).2 := ⟨_, rfl⟩
      rw [← hpl, ← hsi] at hlh
      rw [← hpl, ← hsi]
      refine g_istore C dL_law_390 (by decide) rfl ?_
      refine g_iconst C dL_law_392 (v := 0) (by decide) ?_
      refine g_istore C dL_law_393 (by decide) rfl ?_
      refine g_iconst C dL_law_395 (v := 0) (by decide) ?_
      refine g_istore C dL_law_396 (by decide) rfl ?_
      refine g_iconst C dL_law_398 (v := -1) (by decide) ?_
      refine g_istore C dL_law_399 (by decide) rfl ?_
      refine g_iconst C dL_law_401 (v := 0) (by decide) ?_
      refine g_istore C dL_law_402 (by decide) rfl ?_
      rw [i0]
      have hset := lp_set (la := la) C h4 hok hb1 (l8 := nI pl) (l9 := nI si) hW2 ?_ (tN B) 0 (by omega)
      · refine g_sub [(0, _), (1, _), (2, _), (3, _), (4, _), (5, _), (6, _), (7, _), (8, _), (9, _), (10, _), (11, _), (12, _), (13, _), (14, _), (15, _)] ⟨rfl, rfl, rfl, rfl, rfl, rfl, rfl, rfl, rfl, rfl, rfl, rfl, rfl, rfl, rfl, rfl, trivial⟩ ?_
        exact hset
      · have at537 : ∀ (a c : Int32), a = nI (lastH (ctB B) (castB B) q (b + 1)).1 → c = nI (lastH (ctB B) (castB B) q (b + 1)).2 → GW Γ X S2 k2 n2 537 [(0, .ref (bB Γ)), (1, .ref x), (2, .ref P), (3, .ref Y), (4, .ref Cu), (5, .ref N), (6, .int (nI la)), (7, .int (nI q)), (8, .int a), (9, .int c), (10, .int (nI b))] [] := by
          intro a c ha hc
          subst ha; subst hc
          refine g_iinc C dL_law_537 rfl (by first | exact inc1 _ | exact rfl) (by decide) rfl ?_
          refine g_goto C dL_law_540 (tgt := 375) (by decide) ?_
          refine g_sub [(0, _), (1, _), (2, _), (3, _), (4, _), (5, _), (6, _), (7, _), (8, _), (9, _), (10, _)] ⟨rfl, rfl, rfl, rfl, rfl, rfl, rfl, rfl, rfl, rfl, rfl, trivial⟩ ?_
          exact ih (b + 1) S2 k2 n2 (by omega) hW2
        have hsH : sumN (held (ctB B) (castB B) q b) (tH B) (tN B) ≤ 2 := hok.2.1
        have hsW : sumN (held (ctB B) (castB B) q b) (tW B) (tN B) ≤ tT B q := hok.2.2
        have hT20 := (hV.2.2.2.2.1 q hq).1
        have hq5 := hV.2.1
        refine g_iload C dL_law_486 rfl ?_
        cases hf : fpl (ctB B) (castB B) q b with
        | none =>
          have h0 := (fpl_none hV).mp hf
          rw [h0]
          refine g_if_ne C dL_law_488 (tgt := 494) (by decide) (fun c2 => ?_) (fun c2 => ?_)
          · exact absurd rfl c2
          · refine g_goto C dL_law_491 (tgt := 537) (by decide) ?_
            refine g_sub [(0, _), (1, _), (2, _), (3, _), (4, _), (5, _), (6, _), (7, _), (8, _), (9, _), (10, _)] ⟨rfl, rfl, rfl, rfl, rfl, rfl, rfl, rfl, rfl, rfl, rfl, trivial⟩ ?_
            refine at537 _ _ ?_ ?_
            · simp only [lastH]; rw [hf, hpl]
            · simp only [lastH]; rw [hf, hsi]
        | some y =>
          have h0 : hmB B q b ≠ 0 := fun h => by rw [(fpl_none hV).mpr h] at hf; cases hf
          have hw := hwalk y hf
          rw [← hpl, ← hsi] at hw
          obtain ⟨j, hj1, hj2, hj3⟩ := lastN_ex _ hf
          obtain ⟨y', hy', hy20⟩ := held_on hV hj1 hj2
          have hyy : y = y' := by
            have e2 : plL (dsB B j) b = some y := hj3
            rw [hy'] at e2
            exact (Option.some.inj e2).symm
          rw [← hyy] at hy20
          have hl : lastN (held (ctB B) (castB B) q b) (fun p => plL (dsB B p) b) (tN B) = some y := hf
          rw [hl, show zO (some y) = nI y from rfl]
          refine g_if_ne C dL_law_488 (tgt := 494) (by decide) (fun c2 => ?_) (fun c2 => ?_)
          · refine g_iload C dL_law_494 rfl ?_
            refine g_iconst C dL_law_496 (v := 2) (by decide) ?_
            rw [i2]
            refine g_icmp_gt C dL_law_497 (tgt := 527) (by decide) (fun c3 => ?_) (fun c3 => ?_)
            · exact absurd c3 (nI_nlt hsH (by decide))
            · refine g_iload C dL_law_500 rfl ?_
              refine g_aload_n C dL_law_502 rfl rfl ?_
              refine g_iconst C dL_law_503 (v := 2) (by decide) ?_
              refine g_iload C dL_law_504 rfl ?_
              refine g_imul C dL_law_506 ?_
              refine g_ldI C (ix2_0 q) Y8 (by rw [YN]; omega) (by omega) (hPy q hq).1 dL_law_507 ?_
              refine g_icmp_gt C dL_law_508 (tgt := 527) (by decide) (fun c4 => ?_) (fun c4 => ?_)
              · exact absurd c4 (nI_nlt hsW (by omega))
              · refine g_iload C dL_law_511 rfl ?_
                refine g_iload C dL_law_513 rfl ?_
                refine g_isub C dL_law_515 ?_
                refine g_abs C tw_3_175 (by simp [Value.category]) (by omega) (by omega) dL_law_516 ?_
                rw [jabs_sub (by omega) (by omega)]
                refine g_iload C dL_law_519 rfl ?_
                refine g_iload C dL_law_521 rfl ?_
                refine g_isub C dL_law_523 ?_
                rw [pk_sub hlh.2]
                refine g_icmp_le C dL_law_524 (tgt := 529) (by decide) (fun c5 => ?_) (fun c5 => ?_)
                · refine g_iload C dL_law_529 rfl ?_
                  refine g_istore C dL_law_531 (by decide) rfl ?_
                  refine g_iload C dL_law_533 rfl ?_
                  refine g_istore C dL_law_535 (by decide) rfl ?_
                  refine g_sub [(0, _), (1, _), (2, _), (3, _), (4, _), (5, _), (6, _), (7, _), (8, _), (9, _), (10, _)] ⟨rfl, rfl, rfl, rfl, rfl, rfl, rfl, rfl, rfl, rfl, rfl, trivial⟩ ?_
                  refine at537 _ _ ?_ ?_
                  · simp only [lastH]; rw [hf]
                  · simp only [lastH]; rw [hf]
                · exact absurd (nI_le hw (by omega)) c5
          · exact absurd c2 (nI_ne0 (Nat.pos_of_ne_zero h0) (by have := hm_lt B h4 q b; omega))
end LawB
