def cueW (u : Nat × D4) (w : Nat) : Int32 := if w = 0 then nI u.2.1 else if w = 1 then nI u.1 else if w = 2 then nI u.2.2.1 else if w = 3 then (if u.2.1 ≤ 1 then nI u.2.2.2.1 else -1) else (if u.2.1 = 0 ∨ u.2.1 = 2 then nI u.2.2.2.2 else -1)
theorem inR_cases5 {y : Int32} (h : inR y 5) : y = nI 0 ∨ y = nI 1 ∨ y = nI 2 ∨ y = nI 3 ∨ y = nI 4 := by
  obtain ⟨i, hi, rfl⟩ := h
  rcases (by omega : i = 0 ∨ i = 1 ∨ i = 2 ∨ i = 3 ∨ i = 4) with rfl | rfl | rfl | rfl | rfl
  · exact Or.inl rfl
  · exact Or.inr (Or.inl rfl)
  · exact Or.inr (Or.inr (Or.inl rfl))
  · exact Or.inr (Or.inr (Or.inr (Or.inl rfl)))
  · exact Or.inr (Or.inr (Or.inr (Or.inr rfl)))
theorem m_tellOfStay {Γ : GBase} (F : FB Γ) (S : PS) (t a : Nat) (y v : Int32) (q : Nat × Nat) (hs : StayO S t a q) (hv : pI S 131 t = v) : GMet Γ yX5_tellOfStay cX5_tellOfStay 2 ((some FieldType.int)) 5 1 6 [.ref t, .int y] S (fun r S' => S = S' ∧ ∃ w, w < 3 ∧ y = nI w ∧ r = some (.int (if w = 0 then nI q.1 else if w = 1 then nI q.2 else v))) (fun E S' => E = xIOB ∧ S = S' ∧ ¬ inR y 3) := by
  obtain ⟨h0, -, h1, h2, -, -⟩ := hs
  refine GMet.of (loc0 := [(0, .ref t), (1, .int y)]) F (by decide +kernel) rfl (Nat.le_of_ble_eq_true rfl) (fun X C R Tb nm => ?_)
  refine g_iload_n C dX5_tellOfStay_0 rfl rfl ?_
  by_cases hy : inR y 3
  · obtain ⟨i, hi, hyi⟩ := id hy
    rcases (by omega : i = 0 ∨ i = 1 ∨ i = 2) with e | e | e
    · rw [e] at hyi; subst hyi
      refine g_tableIn C dX5_tellOfStay_1 (by decide) (by decide) (off := 27) (by decide +kernel) (tgt := 28) (by decide) ?_
      refine g_aload_n C dX5_tellOfStay_28 rfl rfl ?_
      refine ge_Stay_begin C tw_3_131 (by exact h0) (by exact h1) dX5_tellOfStay_29 ?_
      refine g_iret C R rfl (by omega) (by omega) dX5_tellOfStay_32 ?_
      exact ⟨rfl, 0, by decide, rfl, rfl⟩
    · rw [e] at hyi; subst hyi
      refine g_tableIn C dX5_tellOfStay_1 (by decide) (by decide) (off := 32) (by decide +kernel) (tgt := 33) (by decide) ?_
      refine g_aload_n C dX5_tellOfStay_33 rfl rfl ?_
      refine ge_Stay_end C tw_3_135 (by exact h0) (by exact h2) dX5_tellOfStay_34 ?_
      refine g_iret C R rfl (by omega) (by omega) dX5_tellOfStay_37 ?_
      exact ⟨rfl, 1, by decide, rfl, rfl⟩
    · rw [e] at hyi; subst hyi
      refine g_tableIn C dX5_tellOfStay_1 (by decide) (by decide) (off := 37) (by decide +kernel) (tgt := 38) (by decide) ?_
      refine g_aload_n C dX5_tellOfStay_38 rfl rfl ?_
      refine ge_Stay_player C tw_3_137 (by exact h0) (by exact hv) dX5_tellOfStay_39 ?_
      refine g_iret C R rfl (by omega) (by omega) dX5_tellOfStay_42 ?_
      exact ⟨rfl, 2, by decide, rfl, rfl⟩
  · refine g_tableOut C dX5_tellOfStay_1 (by have := inR_toInt hy; omega) (tgt := 43) (by decide) ?_
    refine g_throwSW C R Tb (kk := 5) rfl rfl tx_IOB tw_2_92 dX5_tellOfStay_43 dX5_tellOfStay_46 dX5_tellOfStay_47 dX5_tellOfStay_50 dX5_tellOfStay_53 (by decide) (by simp [Value.category]) (by omega) (by omega) ?_
    exact ⟨rfl, rfl, hy⟩
