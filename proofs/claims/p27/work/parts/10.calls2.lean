/-! ===== calls ===== -/
theorem ts_0 : Cond.selects "CueBook" ⟨"CueBook", "puppetNumbered", "(I)LCueBook$Puppet;"⟩ ⟨"CueBook", "puppetNumbered", "(I)LCueBook$Puppet;"⟩ ∈ lw_tbl := List.mem_append_left _ (List.mem_of_getElem? (i := 0) (by decide +kernel))
theorem ts_1 : Cond.selects "java/lang/Throwable" ⟨"java/lang/Throwable", "fillInStackTrace", "(I)Ljava/lang/Throwable;"⟩ ⟨"java/lang/Throwable", "fillInStackTrace", "(I)Ljava/lang/Throwable;"⟩ ∈ lw_tbl := List.mem_append_left _ (List.mem_of_getElem? (i := 1) (by decide +kernel))
theorem ts_2 : Cond.selects "CueBook" ⟨"CueBook", "findCasting", "()V"⟩ ⟨"CueBook", "findCasting", "()V"⟩ ∈ lw_tbl := List.mem_append_left _ (List.mem_of_getElem? (i := 2) (by decide +kernel))
theorem ts_3 : Cond.selects "CueBook" ⟨"CueBook", "orderStays", "()V"⟩ ⟨"CueBook", "orderStays", "()V"⟩ ∈ lw_tbl := List.mem_append_left _ (List.mem_of_getElem? (i := 3) (by decide +kernel))
theorem ts_4 : Cond.selects "CueBook" ⟨"CueBook", "putInOrder", "(LCueBook$Stay;)V"⟩ ⟨"CueBook", "putInOrder", "(LCueBook$Stay;)V"⟩ ∈ lw_tbl := List.mem_append_left _ (List.mem_of_getElem? (i := 4) (by decide +kernel))
theorem ts_5 : Cond.selects "java/util/ArrayList" ⟨"java/util/ArrayList", "rangeCheckForAdd", "(I)V"⟩ ⟨"java/util/ArrayList", "rangeCheckForAdd", "(I)V"⟩ ∈ lw_tbl := List.mem_append_left _ (List.mem_of_getElem? (i := 5) (by decide +kernel))
theorem ts_6 : Cond.selects "java/util/ArrayList" ⟨"java/util/ArrayList", "grow", "()[Ljava/lang/Object;"⟩ ⟨"java/util/ArrayList", "grow", "()[Ljava/lang/Object;"⟩ ∈ lw_tbl := List.mem_append_left _ (List.mem_of_getElem? (i := 6) (by decide +kernel))
theorem ts_7 : Cond.selects "java/util/ArrayList" ⟨"java/util/ArrayList", "grow", "(I)[Ljava/lang/Object;"⟩ ⟨"java/util/ArrayList", "grow", "(I)[Ljava/lang/Object;"⟩ ∈ lw_tbl := List.mem_append_left _ (List.mem_of_getElem? (i := 7) (by decide +kernel))
theorem ts_8 : Cond.selects "CueBook" ⟨"CueBook", "namePlayer", "(LCueBook$Stay;)V"⟩ ⟨"CueBook", "namePlayer", "(LCueBook$Stay;)V"⟩ ∈ lw_tbl := List.mem_append_left _ (List.mem_of_getElem? (i := 8) (by decide +kernel))
theorem ts_9 : Cond.selects "CueBook" ⟨"CueBook", "canDo", "(LCueBook$Player;LCueBook$Stay;)Z"⟩ ⟨"CueBook", "canDo", "(LCueBook$Player;LCueBook$Stay;)Z"⟩ ∈ lw_tbl := List.mem_append_left _ (List.mem_of_getElem? (i := 9) (by decide +kernel))
theorem ts_10 : Cond.selects "CueBook" ⟨"CueBook", "canComeToBeginning", "(LCueBook$Player;LCueBook$Stay;)Z"⟩ ⟨"CueBook", "canComeToBeginning", "(LCueBook$Player;LCueBook$Stay;)Z"⟩ ∈ lw_tbl := List.mem_append_left _ (List.mem_of_getElem? (i := 10) (by decide +kernel))
theorem ts_11 : Cond.selects "CueBook" ⟨"CueBook", "placeOfHeld", "(LCueBook$Player;I)I"⟩ ⟨"CueBook", "placeOfHeld", "(LCueBook$Player;I)I"⟩ ∈ lw_tbl := List.mem_append_left _ (List.mem_of_getElem? (i := 11) (by decide +kernel))
theorem ts_12 : Cond.selects "CueBook" ⟨"CueBook", "canHold", "(LCueBook$Player;LCueBook$Puppet;I)Z"⟩ ⟨"CueBook", "canHold", "(LCueBook$Player;LCueBook$Puppet;I)Z"⟩ ∈ lw_tbl := List.mem_append_left _ (List.mem_of_getElem? (i := 12) (by decide +kernel))
theorem ts_13 : Cond.selects "CueBook" ⟨"CueBook", "playerNumbered", "(I)LCueBook$Player;"⟩ ⟨"CueBook", "playerNumbered", "(I)LCueBook$Player;"⟩ ∈ lw_tbl := List.mem_append_left _ (List.mem_of_getElem? (i := 13) (by decide +kernel))
theorem ts_14 : Cond.selects "java/util/ArrayList" ⟨"java/util/ArrayList", "add", "(Ljava/lang/Object;[Ljava/lang/Object;I)V"⟩ ⟨"java/util/ArrayList", "add", "(Ljava/lang/Object;[Ljava/lang/Object;I)V"⟩ ∈ lw_tbl := List.mem_append_left _ (List.mem_of_getElem? (i := 14) (by decide +kernel))
theorem ts_15 : Cond.selects "CueBook" ⟨"CueBook", "write", "(LCueBook$Cue;)I"⟩ ⟨"CueBook", "write", "(LCueBook$Cue;)I"⟩ ∈ lw_tbl := List.mem_append_left _ (List.mem_of_getElem? (i := 15) (by decide +kernel))
theorem ts_16 : Cond.selects "CueBook$Puppet" ⟨"CueBook$Puppet", "isScriptRight", "()Z"⟩ ⟨"CueBook$Puppet", "isScriptRight", "()Z"⟩ ∈ lw_tbl := List.mem_append_left _ (List.mem_of_getElem? (i := 16) (by decide +kernel))
theorem ts_17 : Cond.selects "CueBook$Path" ⟨"CueBook$Path", "walk", "(III)V"⟩ ⟨"CueBook$Path", "walk", "(III)V"⟩ ∈ lw_tbl := List.mem_append_left _ (List.mem_of_getElem? (i := 17) (by decide +kernel))
theorem ts_18 : Cond.selects "java/util/ArrayList" ⟨"java/util/ArrayList", "fastRemove", "([Ljava/lang/Object;I)V"⟩ ⟨"java/util/ArrayList", "fastRemove", "([Ljava/lang/Object;I)V"⟩ ∈ lw_tbl := List.mem_append_left _ (List.mem_of_getElem? (i := 18) (by decide +kernel))
theorem ts_19 : Cond.selects "CueBook$Puppet" ⟨"CueBook$Puppet", "playScript", "()V"⟩ ⟨"CueBook$Puppet", "playScript", "()V"⟩ ∈ lw_tbl := List.mem_append_left _ (List.mem_of_getElem? (i := 19) (by decide +kernel))
theorem ts_20 : Cond.selects "CueBook$Puppet" ⟨"CueBook$Puppet", "playBeats", "(LCueBook$Path;II)V"⟩ ⟨"CueBook$Puppet", "playBeats", "(LCueBook$Path;II)V"⟩ ∈ lw_tbl := List.mem_append_left _ (List.mem_of_getElem? (i := 20) (by decide +kernel))
theorem ts_21 : Cond.selects "CueBook$Puppet" ⟨"CueBook$Puppet", "recordStay", "(LCueBook$Cue;)V"⟩ ⟨"CueBook$Puppet", "recordStay", "(LCueBook$Cue;)V"⟩ ∈ lw_tbl := List.mem_append_left _ (List.mem_of_getElem? (i := 21) (by decide +kernel))
theorem ts_22 : Cond.selects "CueBook" ⟨"CueBook", "forgetWhatWasFound", "()V"⟩ ⟨"CueBook", "forgetWhatWasFound", "()V"⟩ ∈ lw_tbl := List.mem_append_left _ (List.mem_of_getElem? (i := 22) (by decide +kernel))
section GCalls
variable {Γ : GBase} {X : Cx} {cc : ByteArray} {nL : Nat} {own : String} {lvl mc ms : Nat} {S : PS} {k n pc : Nat} {loc : List (Nat × Value)} {st st0 : List Value}
variable {y : MethodName} {cy : ByteArray} {maxL np lvl' mc' ms' index : Nat} {rety : Option FieldType} {As : List Value} {b : Nat} {posty : Option Value → PS → Prop} {pxy : String → PS → Prop}
theorem g_callV (C : GC Γ X cc nL own lvl mc ms) (hy : GY y cy maxL rety np) (w : Cond.methodLink own index y ∈ lw_tbl) (w2 : Cond.instanceMethod y ∈ lw_tbl) (w3 : Cond.selects y.cls y y ∈ lw_tbl) (hlv : lvl' < lvl) {kk : Nat} {r : vw_C} (hr : gcl[kk]? = some r) (hC : r.1 = y.cls) (ha : al S b kk) (hM : GMet Γ y cy maxL rety lvl' mc' ms' (.ref b :: As) S posty pxy) (hAs : As.length = np) (hst : st0 = As.reverse ++ .ref b :: st) (hcat : (st.map fun v => v.category).sum ≤ 8) (hk : k + mc' ≤ mc) (hn : n + ms' ≤ ms) (d : decode cc pc = .ok (.invokevirtual index, 3))
    (kx : ∀ (E : String) (S' : PS), pxy E S' → GX Γ X S' (k + mc') (n + ms') pc loc E) (q : ∀ (v : Option Value) (S' : PS), posty v S' → GW Γ X S' (k + mc') (n + ms') (pc + 3) loc (v.toList ++ st)) : GW Γ X S k n pc loc st0 := fun H locs ls hP hD hS hl => by
  subst hst
  intro T hT X0
  rcases vx_runV (rest := st) (As := As) (g := F0 X.2.2.2.2.1 pc ls _) (Ts := []) ⟨C.hx, C.hb, C.hml, C.hown, fun _ h => nomatch h⟩ hM ⟨g_cb C hy w hlv, C.tw w2 rfl, C.tw w3 rfl⟩ ⟨GU_blind, hC ▸ g_recv C hP ha hr, g_fin C hP hD hS⟩ rfl hAs (hl.1.trans C.hml) rfl (lv_room hcat) d ⟨by rw [C.rc]; exact hk, by rw [C.rs]; exact hn⟩ T hT X0 with ⟨v, st₀, t, T', L, h0, X', hL, e1, e2, ⟨⟨v', S', hv, hpost, hU⟩, hF⟩, go⟩ | ⟨q9, st₀, t, T', L, E, ce, h0, X', hL, e1, e2, ⟨⟨S', hpx, hH⟩, hF⟩, hce, hcv, hcl, go⟩
  · cases hv
    have hS' := g_keep (H0 := X.2.2.2.1.heap) hS h0 e1 hL hF
    obtain ⟨-, -, -, hP', hD'⟩ := hU
    rw [← e1] at hP'
    obtain ⟨t2, a1, b1⟩ := q v S' hpost T'.heap (locs ++ L) ls hP' hD' hS' hl T' rfl X'
    exact ⟨t2, go t2 a1, b1⟩
  · have hS' := g_keep (H0 := X.2.2.2.1.heap) hS h0 e1 hL hF
    obtain ⟨-, -, hP', hD'⟩ := hH
    rw [← e1] at hP' hce
    obtain ⟨t2, a1, b1⟩ := kx E S' hpx T'.heap (locs ++ L) ls ce q9 st hP' hD' hS' hl hce hcv hcl T' rfl X'
    exact ⟨t2, go.trans a1, b1⟩
theorem g_callS (C : GC Γ X cc nL own lvl mc ms) (hy : GY y cy maxL rety np) (w : Cond.methodLink own index y ∈ lw_tbl) (w2 : Cond.static y ∈ lw_tbl) (hlv : lvl' < lvl)  (hM : GMet Γ y cy maxL rety lvl' mc' ms' As S posty pxy) (hAs : As.length = np) (hst : st0 = As.reverse ++ st) (hcat : (st.map fun v => v.category).sum ≤ 8) (hk : k + mc' ≤ mc) (hn : n + ms' ≤ ms) (d : decode cc pc = .ok (.invokestatic index, 3))
    (kx : ∀ (E : String) (S' : PS), pxy E S' → GX Γ X S' (k + mc') (n + ms') pc loc E) (q : ∀ (v : Option Value) (S' : PS), posty v S' → GW Γ X S' (k + mc') (n + ms') (pc + 3) loc (v.toList ++ st)) : GW Γ X S k n pc loc st0 := fun H locs ls hP hD hS hl => by
  subst hst
  intro T hT X0
  rcases vx_runS (rest := st) (As := As) (g := F0 X.2.2.2.2.1 pc ls _) (Ts := []) ⟨C.hx, C.hb, C.hml, C.hown, fun _ h => nomatch h⟩ hM ⟨g_cb C hy w hlv, C.tw w2 rfl⟩ ⟨GU_blind, g_fin C hP hD hS⟩ rfl hAs (hl.1.trans C.hml) rfl (lv_room hcat) d ⟨by rw [C.rc]; exact hk, by rw [C.rs]; exact hn⟩ T hT X0 with ⟨v, st₀, t, T', L, h0, X', hL, e1, e2, ⟨⟨v', S', hv, hpost, hU⟩, hF⟩, go⟩ | ⟨q9, st₀, t, T', L, E, ce, h0, X', hL, e1, e2, ⟨⟨S', hpx, hH⟩, hF⟩, hce, hcv, hcl, go⟩
  · cases hv
    have hS' := g_keep (H0 := X.2.2.2.1.heap) hS h0 e1 hL hF
    obtain ⟨-, -, -, hP', hD'⟩ := hU
    rw [← e1] at hP'
    obtain ⟨t2, a1, b1⟩ := q v S' hpost T'.heap (locs ++ L) ls hP' hD' hS' hl T' rfl X'
    exact ⟨t2, go t2 a1, b1⟩
  · have hS' := g_keep (H0 := X.2.2.2.1.heap) hS h0 e1 hL hF
    obtain ⟨-, -, hP', hD'⟩ := hH
    rw [← e1] at hP' hce
    obtain ⟨t2, a1, b1⟩ := kx E S' hpx T'.heap (locs ++ L) ls ce q9 st hP' hD' hS' hl hce hcv hcl T' rfl X'
    exact ⟨t2, go.trans a1, b1⟩
theorem g_callI (C : GC Γ X cc nL own lvl mc ms) (hy : GY y cy maxL rety np) (w : Cond.methodLink own index y ∈ lw_tbl) (w2 : Cond.instanceMethod y ∈ lw_tbl) (h1 : y.name = "<init>") (hret : rety = none) (hlv : lvl' < lvl)  (hM : GMet Γ y cy maxL rety lvl' mc' ms' (.ref b :: As) S posty noX) (hAs : As.length = np) (hst : st0 = As.reverse ++ .ref b :: st) (hcat : (st.map fun v => v.category).sum ≤ 8) (hk : k + mc' ≤ mc) (hn : n + ms' ≤ ms) (d : decode cc pc = .ok (.invokespecial index, 3))
    (q : ∀ (v : Option Value) (S' : PS), posty v S' → GW Γ X S' (k + mc') (n + ms') (pc + 3) loc (v.toList ++ st)) : GW Γ X S k n pc loc st0 := fun H locs ls hP hD hS hl => by
  subst hst
  intro T hT X0
  obtain ⟨v, st₀, t, T', L, h0, X', hL, e1, e2, ⟨⟨v', S', hv, hpost, hU⟩, hF⟩, go⟩ := va_runI (rest := st) (As := As) (g := F0 X.2.2.2.2.1 pc ls _) (Ts := []) ⟨C.hx, C.hb, C.hml, C.hown, fun _ h => nomatch h⟩ hM.plain ⟨by subst hret; exact g_cb C hy w hlv, h1, C.tw w2 rfl⟩ ⟨GU_blind, g_fin C hP hD hS⟩ rfl hAs (hl.1.trans C.hml) rfl (lv_room hcat) d ⟨by rw [C.rc]; exact hk, by rw [C.rs]; exact hn⟩ T hT X0
  cases hv
  have hS' := g_keep (H0 := X.2.2.2.1.heap) hS h0 e1 hL hF
  obtain ⟨-, -, -, hP', hD'⟩ := hU
  rw [← e1] at hP'
  obtain ⟨t2, a1, b1⟩ := q v S' hpost T'.heap (locs ++ L) ls hP' hD' hS' hl T' rfl X'
  exact ⟨t2, go t2 a1, b1⟩
theorem g_cbN (C : GC Γ X cc nL own lvl mc ms) {host : String} (hy : GY y cy maxL rety np) (w : Cond.methodLinkNest own index y host ∈ lw_tbl) (hlv : lvl' < lvl) : va_CN X.2.2.1 X.2.2.2.1 X.2.2.2.2.2.1 own index y host cy maxL rety (gws y cy maxL rety) (rmv lvl' mc' ms') mc' ms' np := by
  obtain ⟨h1, h2, h3, h4, h5⟩ := hy
  refine ⟨⟨rfl, rfl, ?_, ?_, ?_, List.mem_cons_self⟩, C.tw h1 rfl, C.tw h2 rfl, h3, fun sig h => ?_, va_Nw.use rfl (va_Nw.warmM C.hW (va_Nw.of rfl (C.F.1 _ w)))⟩
  · have := C.rf
    show (lvl' + 1) + 1 ≤ _
    omega
  · refine Nat.le_trans ?_ C.rl
    show 8 + (maxL + 11) + (40 * lvl' + 138) ≤ (40 * lvl + 138)
    exact g_loc hlv h5
  · intro w' hw' a' U hU
    rw [List.mem_singleton.mp hw']
    exact word_at hU (Or.inl rfl) (C.tw h1 rfl)
  · rw [h] at h4
    exact (Option.some.inj h4).symm
theorem g_callIN (C : GC Γ X cc nL own lvl mc ms) (hy : GY y cy maxL rety np) {host : String} (w : Cond.methodLinkNest own index y host ∈ lw_tbl) (w2 : Cond.instanceMethod y ∈ lw_tbl) (h1 : y.name = "<init>") (hret : rety = none) (hlv : lvl' < lvl)  (hM : GMet Γ y cy maxL rety lvl' mc' ms' (.ref b :: As) S posty noX) (hAs : As.length = np) (hst : st0 = As.reverse ++ .ref b :: st) (hcat : (st.map fun v => v.category).sum ≤ 8) (hk : k + mc' ≤ mc) (hn : n + ms' ≤ ms) (d : decode cc pc = .ok (.invokespecial index, 3))
    (q : ∀ (v : Option Value) (S' : PS), posty v S' → GW Γ X S' (k + mc') (n + ms') (pc + 3) loc (v.toList ++ st)) : GW Γ X S k n pc loc st0 := fun H locs ls hP hD hS hl => by
  subst hst
  intro T hT X0
  obtain ⟨v, st₀, t, T', L, h0, X', hL, e1, e2, ⟨⟨v', S', hv, hpost, hU⟩, hF⟩, go⟩ := va_runIN (rest := st) (As := As) (g := F0 X.2.2.2.2.1 pc ls _) (Ts := []) ⟨C.hx, C.hb, C.hml, C.hown, fun _ h => nomatch h⟩ hM.plain ⟨by subst hret; exact g_cbN C hy w hlv, h1, C.tw w2 rfl⟩ ⟨GU_blind, g_fin C hP hD hS⟩ rfl hAs (hl.1.trans C.hml) rfl (lv_room hcat) d ⟨by rw [C.rc]; exact hk, by rw [C.rs]; exact hn⟩ T hT X0
  cases hv
  have hS' := g_keep (H0 := X.2.2.2.1.heap) hS h0 e1 hL hF
  obtain ⟨-, -, -, hP', hD'⟩ := hU
  rw [← e1] at hP'
  obtain ⟨t2, a1, b1⟩ := q v S' hpost T'.heap (locs ++ L) ls hP' hD' hS' hl T' rfl X'
  exact ⟨t2, go t2 a1, b1⟩
theorem g_callSN (C : GC Γ X cc nL own lvl mc ms) (hy : GY y cy maxL rety np) {host : String} (w : Cond.methodLinkNest own index y host ∈ lw_tbl) (w2 : Cond.static y ∈ lw_tbl) (hlv : lvl' < lvl)  (hM : GMet Γ y cy maxL rety lvl' mc' ms' As S posty noX) (hAs : As.length = np) (hst : st0 = As.reverse ++ st) (hcat : (st.map fun v => v.category).sum ≤ 8) (hk : k + mc' ≤ mc) (hn : n + ms' ≤ ms) (d : decode cc pc = .ok (.invokestatic index, 3))
    (q : ∀ (v : Option Value) (S' : PS), posty v S' → GW Γ X S' (k + mc') (n + ms') (pc + 3) loc (v.toList ++ st)) : GW Γ X S k n pc loc st0 := fun H locs ls hP hD hS hl => by
  subst hst
  intro T hT X0
  obtain ⟨v, st₀, t, T', L, h0, X', hL, e1, e2, ⟨⟨v', S', hv, hpost, hU⟩, hF⟩, go⟩ := va_runSN (rest := st) (As := As) (g := F0 X.2.2.2.2.1 pc ls _) (Ts := []) ⟨C.hx, C.hb, C.hml, C.hown, fun _ h => nomatch h⟩ hM.plain ⟨g_cbN C hy w hlv, C.tw w2 rfl, trivial⟩ ⟨GU_blind, g_fin C hP hD hS⟩ rfl hAs (hl.1.trans C.hml) rfl (lv_room hcat) d ⟨by rw [C.rc]; exact hk, by rw [C.rs]; exact hn⟩ T hT X0
  cases hv
  have hS' := g_keep (H0 := X.2.2.2.1.heap) hS h0 e1 hL hF
  obtain ⟨-, -, -, hP', hD'⟩ := hU
  rw [← e1] at hP'
  obtain ⟨t2, a1, b1⟩ := q v S' hpost T'.heap (locs ++ L) ls hP' hD' hS' hl T' rfl X'
  exact ⟨t2, go t2 a1, b1⟩
end GCalls
