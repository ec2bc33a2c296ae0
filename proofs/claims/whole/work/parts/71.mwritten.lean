/-- a cue that may be written: refused or written -/
def spW (B : BT) (p : Nat) (d : D4) (k : Nat) (B' : BT) (v : Int32) : Prop := (k = 3 ∧ B' = B ∧ (40 ≤ tC B ∨ okL none (dsB (addB B p d) p) = false)) ∨ (k = 0 ∧ tC B < 40 ∧ okL none (dsB (addB B p d) p) = true ∧ B' = addB B p d ∧ v = nI (tC B))
def spX (B : BT) (y yb : Int32) (ok : Nat → D4 → Prop) (good : Prop) (k : Nat) (B' : BT) (v : Int32) : Prop := (k = 1 ∧ B' = B ∧ ¬ inR y (tN B)) ∨ (k = 2 ∧ B' = B ∧ inR y (tN B) ∧ ¬ good) ∨ (∃ p d, p < tN B ∧ y = nI p ∧ ok p d ∧ spW B p d k B' v)
/-- the model's walk behind the looks at what a cue says -/
theorem md_wr {Γ : GBase} {X : Cx} {m p : Nat} {rr : Nat → Nat} {S : PS} {B : BT} {d : D4} {sp : Nat → BT → Int32 → Prop} (F : FB Γ) (hI : MdI S m rr B) (hp : p < tN B) (hd : okD d) (hs : ∀ k B' v, spW B p d k B' v → sp k B' v) (C : GC Γ X cX6_written 8 "CueBookModel" 5 0 0) (R : GRet Γ X (some FieldType.int) 0 0 (fun r S' => MdO S S' m rr sp r) noX) : GW Γ X (uI S 192 m 0) 0 0 80 [(0, .ref m), (1, .int (nI d.1)), (2, .int (nI p)), (3, .int (nI d.2.1)), (4, .int (cueW (p, d) 3)), (5, .int (cueW (p, d) 4))] [] := by
  have hI1 := hI.thr 0
  refine g_aload_n C dX6_written_80 rfl rfl ?_
  refine g_iload_n C dX6_written_81 rfl rfl ?_
  refine g_iload_n C dX6_written_82 rfl rfl ?_
  refine g_iload_n C dX6_written_83 rfl rfl ?_
  refine g_iload C dX6_written_84 rfl ?_
  refine g_iload C dX6_written_86 rfl ?_
  refine g_callV C gy_X6_write tw_5_191 tw_5_193 ts_29 (by decide) (kk := 6) rfl rfl (by exact hI1.1.m) (md_write F _ m p rr B d hI1 hp hd) rfl rfl (Nat.le_of_ble_eq_true rfl) (by omega) (by omega) dX6_written_88 (fun _ _ h9 => h9.elim) ?_
  rintro _ _ ⟨h1, h2, h3⟩
  rename_i S1
  have h2' : pI S1 192 m = 0 := h2.trans uI_q
  rcases h3 with ⟨a1, a2, rfl⟩ | ⟨a0, a1, a2, rfl⟩
  · refine g_istore C dX6_written_91 (by decide) rfl ?_
    refine g_iload C dX6_written_93 rfl ?_
    refine g_iconst C dX6_written_95 (v := -1) (by decide) ?_
    refine g_icmp_ne C dX6_written_96 (tgt := 107) (by decide) (fun c1 => ?_) (fun c1 => ?_)
    · exact absurd rfl c1
    · refine g_aload_n C dX6_written_99 rfl rfl ?_
      refine g_iconst C dX6_written_100 (v := 3) (by decide) ?_
      refine g_callV C gy_X6_fail tw_5_168 tw_5_170 ts_26 (by decide) (kk := 6) rfl rfl (by exact a2.1.m) (md_fail F _ m 3 a2.1.m) rfl rfl (Nat.le_of_ble_eq_true rfl) (by omega) (by omega) dX6_written_101 (fun _ _ h9 => h9.elim) ?_
      rintro _ _ ⟨rfl, rfl⟩
      refine g_goto C dX6_written_104 (tgt := 109) (by decide) ?_
      refine g_iret C R rfl (by omega) (by omega) dX6_written_109 ?_
      exact ⟨3, B, 0, 0, hs _ _ _ (Or.inl ⟨rfl, rfl, a1⟩), a2.thr 3, uI_q, (FrM.i.tr h1).tr FrM.i, rfl, fun e => absurd e (by decide)⟩
  · refine g_istore C dX6_written_91 (by decide) rfl ?_
    refine g_iload C dX6_written_93 rfl ?_
    refine g_iconst C dX6_written_95 (v := -1) (by decide) ?_
    refine g_icmp_ne C dX6_written_96 (tgt := 107) (by decide) (fun c1 => ?_) (fun c1 => ?_)
    · refine g_iload C dX6_written_107 rfl ?_
      refine g_iret C R rfl (by omega) (by omega) dX6_written_109 ?_
      exact ⟨0, addB B p d, _, _, hs _ _ _ (Or.inr ⟨rfl, a0, a1, rfl, rfl⟩), a2, h2', FrM.i.tr h1, rfl, fun _ => rfl⟩
    · exact absurd c1 (nI_m1 (by omega))
