/-! ===== the law's first part: each puppet's stays ===== -/
theorem LWd.v {Γ : GBase} {S : PS} {x P Y Cu N : Nat} {B : BT} {k n : Nat} (h : LWd Γ S x P Y Cu N B k n) : VB B := h.1.elim (fun _ w => w.1.2.2.2.2.2.2.2.2.2.2)
theorem min_nI {a b : Nat} (ha : a < 100000) (hb : b < 100000) : (if nI b < nI a then nI b else nI a) = nI (min a b) := by
  by_cases e : b < a
  · rw [if_pos (nI_lt e (by omega)), Nat.min_eq_right (by omega)]
  · rw [if_neg (nI_nlt (by omega) (by omega)), Nat.min_eq_left (by omega)]
theorem max_nI {a b : Nat} (ha : a < 100000) (hb : b < 100000) : (if nI a < nI b then nI b else nI a) = nI (max a b) := by
  by_cases e : a < b
  · rw [if_pos (nI_lt e (by omega)), Nat.max_eq_right (by omega)]
  · rw [if_neg (nI_nlt (by omega) (by omega)), Nat.max_eq_left (by omega)]
section LawA
variable {Γ : GBase} {X : Cx} {x P Y Cu N la : Nat} {B : BT}
theorem lp_hands (C : GC Γ X cL_law 16 "CueBookLaw" 13 600104 7301314) (h4 : tN B ≤ 4) {p j b : Nat} {s : Nat × Nat} (hp : p < tN B) (hs : (stL (dsB B p))[j]? = some s) (h1 : s.1 ≤ b) (h2 : b < s.2) (hb1 : b < 1000) {l8 l10 l11 : Int32} (cont : ∀ S k n, LWd Γ S x P Y Cu N B k n → GW Γ X S k n 316 [(0, .ref (bB Γ)), (1, .ref x), (2, .ref P), (3, .ref Y), (4, .ref Cu), (5, .ref N), (6, .int (nI la)), (7, .int (nI p)), (8, .int l8), (9, .int (nI j)), (10, .int l10), (11, .int l11), (12, .int (nI b))] []) : ∀ (m q : Nat) (S : PS) (k n : Nat), q + m = tQ B → LWd Γ S x P Y Cu N B k n → GW Γ X S k n 271 [(0, .ref (bB Γ)), (1, .ref x), (2, .ref P), (3, .ref Y), (4, .ref Cu), (5, .ref N), (6, .int (nI la)), (7, .int (nI p)), (8, .int l8), (9, .int (nI j)), (10, .int l10), (11, .int l11), (12, .int (nI b)), (13, .int (zO (castB B p j))), (14, .int (nI q))] [] := by
  intro m
  induction m with
  | zero =>
    intro q S k n hq hW
    obtain ⟨N8, NN, n0, n1, n2⟩ := hW.nr
    have hk := hW.2.k
    have hn := hW.2.n
    have hq5 := hW.v.2.1
    refine g_iload C dL_law_271 rfl ?_
    refine g_aload C dL_law_273 rfl ?_
    refine g_iconst C dL_law_275 (v := 1) (by decide) ?_
    refine g_ldI C i1 N8 (by rw [NN]; decide) (by decide) n1 dL_law_276 ?_
    refine g_icmp_ge C dL_law_277 (tgt := 316) (by decide) (fun c1 => ?_) (fun c1 => ?_)
    · refine g_sub [(0, _), (1, _), (2, _), (3, _), (4, _), (5, _), (6, _), (7, _), (8, _), (9, _), (10, _), (11, _), (12, _)] ⟨rfl, rfl, rfl, rfl, rfl, rfl, rfl, rfl, rfl, rfl, rfl, rfl, rfl, trivial⟩ ?_
      exact cont S k n hW
    · exact absurd (nI_le (by omega) (by omega)) c1
  | succ m ih =>
    intro q S k n hq hW
    obtain ⟨N8, NN, n0, n1, n2⟩ := hW.nr
    have hk := hW.2.k
    have hn := hW.2.n
    have hV := hW.v
    have hq5 := hV.2.1
    refine g_iload C dL_law_271 rfl ?_
    refine g_aload C dL_law_273 rfl ?_
    refine g_iconst C dL_law_275 (v := 1) (by decide) ?_
    refine g_ldI C i1 N8 (by rw [NN]; decide) (by decide) n1 dL_law_276 ?_
    refine g_icmp_ge C dL_law_277 (tgt := 316) (by decide) (fun c1 => ?_) (fun c1 => ?_)
    · exact absurd c1 (nI_ge (by omega) (by omega))
    · refine g_aload_n C dL_law_280 rfl rfl ?_
      refine g_iload C dL_law_281 rfl ?_
      refine g_iload C dL_law_283 rfl ?_
      refine r_hands C hW (by omega) hb1 (Nat.le_of_ble_eq_true rfl) dL_law_285 (fun S2 k2 n2 hW2 h5 => ?_)
      have hO := hW2.ord h5
      have hz := cast_lt hV hO (i := p) (j := j)
      refine g_iload C dL_law_288 rfl ?_
      refine g_ishr C dL_law_290 ?_
      refine g_iconst C dL_law_291 (v := 1) (by decide) ?_
      refine g_iand C dL_law_292 ?_
      rw [nb_shr _ (hm_lt B h4 q b) _ (by omega), hm_bit hV hp hs h1 h2]
      have at310 : GW Γ X S2 k2 n2 310 [(0, .ref (bB Γ)), (1, .ref x), (2, .ref P), (3, .ref Y), (4, .ref Cu), (5, .ref N), (6, .int (nI la)), (7, .int (nI p)), (8, .int l8), (9, .int (nI j)), (10, .int l10), (11, .int l11), (12, .int (nI b)), (13, .int (zO (castB B p j))), (14, .int (nI q))] [] := by
        refine g_iinc C dL_law_310 rfl (by first | exact inc1 _ | exact rfl) (by decide) rfl ?_
        refine g_goto C dL_law_313 (tgt := 271) (by decide) ?_
        refine g_sub [(0, _), (1, _), (2, _), (3, _), (4, _), (5, _), (6, _), (7, _), (8, _), (9, _), (10, _), (11, _), (12, _), (13, _), (14, _)] ⟨rfl, rfl, rfl, rfl, rfl, rfl, rfl, rfl, rfl, rfl, rfl, rfl, rfl, rfl, rfl, trivial⟩ ?_
        exact ih (q + 1) S2 k2 n2 (by omega) hW2
      refine g_iload C dL_law_293 rfl ?_
      refine g_iload C dL_law_295 rfl ?_
      refine g_icmp_ne C dL_law_297 (tgt := 304) (by decide) (fun c2 => ?_) (fun c2 => ?_)
      · have e : ¬ castB B p j = some q := fun e => c2 ((zO_k hz (by omega)).mpr e)
        rw [if_neg (by simpa using e)]
        refine g_iconst C dL_law_304 (v := 0) (by decide) ?_
        refine g_icmp_eq C dL_law_305 (tgt := 310) (by decide) (fun c3 => ?_) (fun c3 => ?_)
        · exact at310
        · exact absurd rfl c3
      · have e : castB B p j = some q := (zO_k hz (by omega)).mp c2
        rw [if_pos (by simpa using e)]
        refine g_iconst C dL_law_300 (v := 1) (by decide) ?_
        refine g_goto C dL_law_301 (tgt := 305) (by decide) ?_
        refine g_icmp_eq C dL_law_305 (tgt := 310) (by decide) (fun c3 => ?_) (fun c3 => ?_)
        · exact at310
        · exact absurd rfl c3
theorem lp_beats (C : GC Γ X cL_law 16 "CueBookLaw" 13 600104 7301314) (hla : la ≤ 1000) (h4 : tN B ≤ 4) {p j : Nat} {s : Nat × Nat} (hp : p < tN B) (hs : (stL (dsB B p))[j]? = some s) {l8 : Int32} (cont : ∀ S k n, LWd Γ S x P Y Cu N B k n → GW Γ X S k n 322 [(0, .ref (bB Γ)), (1, .ref x), (2, .ref P), (3, .ref Y), (4, .ref Cu), (5, .ref N), (6, .int (nI la)), (7, .int (nI p)), (8, .int l8), (9, .int (nI j))] []) : ∀ (m b : Nat) (S : PS) (k n : Nat), s.1 ≤ b → min s.2 la ≤ b + m → b < 2000 → LWd Γ S x P Y Cu N B k n → GW Γ X S k n 188 [(0, .ref (bB Γ)), (1, .ref x), (2, .ref P), (3, .ref Y), (4, .ref Cu), (5, .ref N), (6, .int (nI la)), (7, .int (nI p)), (8, .int l8), (9, .int (nI j)), (10, .int (nI s.1)), (11, .int (nI s.2)), (12, .int (nI b))] [] := by
  intro m
  have head : ∀ (b : Nat) (S : PS) (k n : Nat), s.1 ≤ b → b < 2000 → LWd Γ S x P Y Cu N B k n → (b < min s.2 la → GW Γ X S k n 200 [(0, .ref (bB Γ)), (1, .ref x), (2, .ref P), (3, .ref Y), (4, .ref Cu), (5, .ref N), (6, .int (nI la)), (7, .int (nI p)), (8, .int l8), (9, .int (nI j)), (10, .int (nI s.1)), (11, .int (nI s.2)), (12, .int (nI b))] []) → GW Γ X S k n 188 [(0, .ref (bB Γ)), (1, .ref x), (2, .ref P), (3, .ref Y), (4, .ref Cu), (5, .ref N), (6, .int (nI la)), (7, .int (nI p)), (8, .int l8), (9, .int (nI j)), (10, .int (nI s.1)), (11, .int (nI s.2)), (12, .int (nI b))] [] := by
    intro b S k n h1 hb hW body
    have hk := hW.2.k
    have hn := hW.2.n
    have hc := (hW.v.good hp).chain.1 s (List.mem_of_getElem? hs)
    refine g_iload C dL_law_188 rfl ?_
    refine g_iload C dL_law_190 rfl ?_
    refine g_iload C dL_law_192 rfl ?_
    refine g_min C tw_3_176 tw_2_47 tw_2_48 tw_1_13 (by simp [Value.category]) (by omega) (by omega) dL_law_194 ?_
    rw [min_nI (by omega) (by omega)]
    have hmin : min s.2 la ≤ 1000 := by omega
    refine g_icmp_ge C dL_law_197 (tgt := 322) (by decide) (fun c1 => ?_) (fun c1 => ?_)
    · refine g_sub [(0, _), (1, _), (2, _), (3, _), (4, _), (5, _), (6, _), (7, _), (8, _), (9, _)] ⟨rfl, rfl, rfl, rfl, rfl, rfl, rfl, rfl, rfl, rfl, trivial⟩ ?_
      exact cont S k n hW
    · refine body ?_
      rcases Nat.lt_or_ge b (min s.2 la) with h | h
      · exact h
      · exact absurd (nI_le h (by omega)) c1
  induction m with
  | zero =>
    intro b S k n h1 hm hb hW
    exact head b S k n h1 hb hW (fun h => by omega)
  | succ m ih =>
    intro b S k n h1 hm hb hW
    refine head b S k n h1 hb hW (fun hlt => ?_)
    have hk := hW.2.k
    have hn := hW.2.n
    have hV := hW.v
    have hg := hV.good hp
    have hmem := List.mem_of_getElem? hs
    have hc := hg.chain.1 s hmem
    have h2 : b < s.2 := by omega
    have hb1 : b < 1000 := by omega
    obtain ⟨v, hv⟩ := Option.isSome_iff_exists.mp (hg.on hb1 hmem h1 h2)
    have hv20 := hg.pl hv
    obtain ⟨t, ht⟩ : ∃ t, trL (dsB B p) b = some t := Option.isSome_iff_exists.mp (by rw [plL_trL, hv]; rfl)
    have ht4 := hg.tr ht
    have at257 : GW Γ X S k n 257 [(0, .ref (bB Γ)), (1, .ref x), (2, .ref P), (3, .ref Y), (4, .ref Cu), (5, .ref N), (6, .int (nI la)), (7, .int (nI p)), (8, .int l8), (9, .int (nI j)), (10, .int (nI s.1)), (11, .int (nI s.2)), (12, .int (nI b))] [] := by
      refine g_aload_n C dL_law_257 rfl rfl ?_
      refine g_iload C dL_law_258 rfl ?_
      refine g_iload C dL_law_260 rfl ?_
      refine g_iconst C dL_law_262 (v := 2) (by decide) ?_
      refine r_stay C hW hp (List.getElem?_eq_some_iff.mp hs).1 (v := 2) (by decide) i2 (Nat.le_of_ble_eq_true rfl) dL_law_263 (fun S2 k2 n2 hW2 h5 => ?_)
      rw [(stW_eq hs).2.2]
      refine g_istore C dL_law_266 (by decide) rfl ?_
      refine g_iconst C dL_law_268 (v := 0) (by decide) ?_
      refine g_istore C dL_law_269 (by decide) rfl ?_
      refine g_sub [(0, _), (1, _), (2, _), (3, _), (4, _), (5, _), (6, _), (7, _), (8, _), (9, _), (10, _), (11, _), (12, _), (13, _), (14, _)] ⟨rfl, rfl, rfl, rfl, rfl, rfl, rfl, rfl, rfl, rfl, rfl, rfl, rfl, rfl, rfl, trivial⟩ ?_
      refine lp_hands C h4 hp hs h1 h2 hb1 (fun S3 k3 n3 hW3 => ?_) (tQ B) 0 S2 k2 n2 (by omega) hW2
      refine g_iinc C dL_law_316 rfl (by first | exact inc1 _ | exact rfl) (by decide) rfl ?_
      refine g_goto C dL_law_319 (tgt := 188) (by decide) ?_
      refine g_sub [(0, _), (1, _), (2, _), (3, _), (4, _), (5, _), (6, _), (7, _), (8, _), (9, _), (10, _), (11, _), (12, _)] ⟨rfl, rfl, rfl, rfl, rfl, rfl, rfl, rfl, rfl, rfl, rfl, rfl, rfl, trivial⟩ ?_
      exact ih (b + 1) S3 k3 n3 (by omega) (by omega) (by omega) hW3
    refine g_aload_n C dL_law_200 rfl rfl ?_
    refine g_iload C dL_law_201 rfl ?_
    refine g_iload C dL_law_203 rfl ?_
    refine r_place C hW hp hb1 (Nat.le_of_ble_eq_true rfl) dL_law_205 ?_
    rw [hv, show zO (some v) = nI v from rfl]
    refine g_if_lt C dL_law_208 (tgt := 255) (by decide) (fun c1 => ?_) (fun c1 => ?_)
    · exact absurd c1 (nI_pos (by omega))
    · refine g_aload_n C dL_law_211 rfl rfl ?_
      refine g_iload C dL_law_212 rfl ?_
      refine g_iload C dL_law_214 rfl ?_
      refine r_track C hW hp hb1 (Nat.le_of_ble_eq_true rfl) dL_law_216 ?_
      rw [ht, show zO (some t) = nI t from rfl]
      refine g_if_lt C dL_law_219 (tgt := 255) (by decide) (fun c2 => ?_) (fun c2 => ?_)
      · exact absurd c2 (nI_pos (by omega))
      · refine g_iload C dL_law_222 rfl ?_
        refine g_iload C dL_law_224 rfl ?_
        refine g_icmp_le C dL_law_226 (tgt := 257) (by decide) (fun c3 => ?_) (fun c3 => ?_)
        · exact at257
        · have h3 : s.1 < b := by
            rcases Nat.lt_or_ge s.1 b with h | h
            · exact h
            · exact absurd (nI_le h (by omega)) c3
          have hbb : b - 1 + 1 = b := by omega
          obtain ⟨u, hu⟩ := Option.isSome_iff_exists.mp (hg.on (b := b - 1) (by omega) hmem (by omega) (by omega))
          have hu20 := hg.pl hu
          have hmv := hg.move (b := b - 1) (u := u) (v := v) hmem (by omega) (by omega) hu (by rw [hbb]; exact hv)
          refine g_aload_n C dL_law_229 rfl rfl ?_
          refine g_iload C dL_law_230 rfl ?_
          refine g_iload C dL_law_232 rfl ?_
          refine r_place C hW hp hb1 (Nat.le_of_ble_eq_true rfl) dL_law_234 ?_
          rw [hv, show zO (some v) = nI v from rfl]
          refine g_aload_n C dL_law_237 rfl rfl ?_
          refine g_iload C dL_law_238 rfl ?_
          refine g_iload C dL_law_240 rfl ?_
          refine g_iconst C dL_law_242 (v := 1) (by decide) ?_
          refine g_isub C dL_law_243 ?_
          rw [i1, pk_sub (by omega)]
          refine r_place C hW hp (by omega) (Nat.le_of_ble_eq_true rfl) dL_law_244 ?_
          rw [hu, show zO (some u) = nI u from rfl]
          refine g_isub C dL_law_247 ?_
          refine g_abs C tw_3_175 (by simp [Value.category]) (by omega) (by omega) dL_law_248 ?_
          rw [jabs_sub (by omega) (by omega)]
          refine g_iconst C dL_law_251 (v := 1) (by decide) ?_
          rw [i1]
          refine g_icmp_le C dL_law_252 (tgt := 257) (by decide) (fun c4 => ?_) (fun c4 => ?_)
          · exact at257
          · exact absurd (nI_le (by rw [ndist_comm]; exact hmv) (by decide)) c4
theorem lp_stays (C : GC Γ X cL_law 16 "CueBookLaw" 13 600104 7301314) (hla : la ≤ 1000) (h4 : tN B ≤ 4) {p : Nat} (hp : p < tN B) (cont : ∀ S k n, LWd Γ S x P Y Cu N B k n → GW Γ X S k n 328 [(0, .ref (bB Γ)), (1, .ref x), (2, .ref P), (3, .ref Y), (4, .ref Cu), (5, .ref N), (6, .int (nI la)), (7, .int (nI p)), (8, .int (nI (sumS (stL (dsB B p)))))] []) : ∀ (m j : Nat) (S : PS) (k n : Nat), j + m = (stL (dsB B p)).length → LWd Γ S x P Y Cu N B k n → GW Γ X S k n 111 [(0, .ref (bB Γ)), (1, .ref x), (2, .ref P), (3, .ref Y), (4, .ref Cu), (5, .ref N), (6, .int (nI la)), (7, .int (nI p)), (8, .int (nI (sumS ((stL (dsB B p)).take j)))), (9, .int (nI j))] [] := by
  intro m
  have len : ∀ {S k n}, LWd Γ S x P Y Cu N B k n → (stL (dsB B p)).length ≤ 40 := fun hW => Nat.le_trans (stL_len _) (hW.v.lenD hp)
  induction m with
  | zero =>
    intro j S k n hj hW
    have hk := hW.2.k
    have hn := hW.2.n
    have hl := len hW
    refine g_iload C dL_law_111 rfl ?_
    refine g_aload_n C dL_law_113 rfl rfl ?_
    refine g_iload C dL_law_114 rfl ?_
    refine r_stays C hW hp (Nat.le_of_ble_eq_true rfl) dL_law_116 ?_
    refine g_icmp_ge C dL_law_119 (tgt := 328) (by decide) (fun c1 => ?_) (fun c1 => ?_)
    · rw [List.take_of_length_le (by omega)]
      refine g_sub [(0, _), (1, _), (2, _), (3, _), (4, _), (5, _), (6, _), (7, _), (8, _)] ⟨rfl, rfl, rfl, rfl, rfl, rfl, rfl, rfl, rfl, trivial⟩ ?_
      exact cont S k n hW
    · exact absurd (nI_le (by omega) (by omega)) c1
  | succ m ih =>
    intro j S k n hj hW
    have hk := hW.2.k
    have hn := hW.2.n
    have hl := len hW
    have hg := hW.v.good hp
    have hjl : j < (stL (dsB B p)).length := by omega
    obtain ⟨s, hs⟩ : ∃ s, (stL (dsB B p))[j]? = some s := ⟨_, List.getElem?_eq_getElem hjl⟩
    have hc := hg.chain.1 s (List.mem_of_getElem? hs)
    refine g_iload C dL_law_111 rfl ?_
    refine g_aload_n C dL_law_113 rfl rfl ?_
    refine g_iload C dL_law_114 rfl ?_
    refine r_stays C hW hp (Nat.le_of_ble_eq_true rfl) dL_law_116 ?_
    refine g_icmp_ge C dL_law_119 (tgt := 328) (by decide) (fun c1 => ?_) (fun c1 => ?_)
    · exact absurd c1 (nI_ge hjl (by omega))
    · refine g_aload_n C dL_law_122 rfl rfl ?_
      refine g_iload C dL_law_123 rfl ?_
      refine g_iload C dL_law_125 rfl ?_
      refine g_iconst C dL_law_127 (v := 0) (by decide) ?_
      refine r_stay C hW hp hjl (v := 0) (by decide) i0 (Nat.le_of_ble_eq_true rfl) dL_law_128 (fun S2 k2 n2 hW2 h5 => ?_)
      rw [(stW_eq hs).1]
      refine g_istore C dL_law_131 (by decide) rfl ?_
      refine g_aload_n C dL_law_133 rfl rfl ?_
      refine g_iload C dL_law_134 rfl ?_
      refine g_iload C dL_law_136 rfl ?_
      refine g_iconst C dL_law_138 (v := 1) (by decide) ?_
      refine r_stay C hW2 hp hjl (v := 1) (by decide) i1 (Nat.le_of_ble_eq_true rfl) dL_law_139 (fun S3 k3 n3 hW3 h53 => ?_)
      rw [(stW_eq hs).2.1]
      have at174 : ∀ (S4 : PS) (k4 n4 : Nat), LWd Γ S4 x P Y Cu N B k4 n4 → GW Γ X S4 k4 n4 174 [(0, .ref (bB Γ)), (1, .ref x), (2, .ref P), (3, .ref Y), (4, .ref Cu), (5, .ref N), (6, .int (nI la)), (7, .int (nI p)), (8, .int (nI (sumS ((stL (dsB B p)).take j)))), (9, .int (nI j)), (10, .int (nI s.1)), (11, .int (nI s.2))] [] := by
        intro S4 k4 n4 hW4
        refine g_iload C dL_law_174 rfl ?_
        refine g_iload C dL_law_176 rfl ?_
        refine g_iload C dL_law_178 rfl ?_
        refine g_isub C dL_law_180 ?_
        rw [pk_sub (by omega)]
        refine g_iadd C dL_law_181 ?_
        rw [nI_add, ← sumS_take hs]
        refine g_istore C dL_law_182 (by decide) rfl ?_
        refine g_iload C dL_law_184 rfl ?_
        refine g_istore C dL_law_186 (by decide) rfl ?_
        refine g_sub [(0, _), (1, _), (2, _), (3, _), (4, _), (5, _), (6, _), (7, _), (8, _), (9, _), (10, _), (11, _), (12, _)] ⟨rfl, rfl, rfl, rfl, rfl, rfl, rfl, rfl, rfl, rfl, rfl, rfl, rfl, trivial⟩ ?_
        refine lp_beats C hla h4 hp hs (fun S5 k5 n5 hW5 => ?_) 1000 s.1 S4 k4 n4 (Nat.le_refl _) (by omega) (by omega) hW4
        refine g_iinc C dL_law_322 rfl (by first | exact inc1 _ | exact rfl) (by decide) rfl ?_
        refine g_goto C dL_law_325 (tgt := 111) (by decide) ?_
        refine g_sub [(0, _), (1, _), (2, _), (3, _), (4, _), (5, _), (6, _), (7, _), (8, _), (9, _)] ⟨rfl, rfl, rfl, rfl, rfl, rfl, rfl, rfl, rfl, rfl, trivial⟩ ?_
        exact ih (j + 1) S5 k5 n5 (by omega) hW5
      refine g_istore C dL_law_142 (by decide) rfl ?_
      refine g_iload C dL_law_144 rfl ?_
      refine g_iload C dL_law_146 rfl ?_
      refine g_icmp_ge C dL_law_148 (tgt := 172) (by decide) (fun c2 => ?_) (fun c2 => ?_)
      · exact absurd c2 (nI_ge hc.2.1 (by omega))
      · refine g_iload C dL_law_151 rfl ?_
        refine g_if_le C dL_law_153 (tgt := 174) (by decide) (fun c3 => ?_) (fun c3 => ?_)
        · refine g_sub [(0, _), (1, _), (2, _), (3, _), (4, _), (5, _), (6, _), (7, _), (8, _), (9, _), (10, _), (11, _)] ⟨rfl, rfl, rfl, rfl, rfl, rfl, rfl, rfl, rfl, rfl, rfl, rfl, trivial⟩ ?_
          exact at174 S3 k3 n3 hW3
        · have hj0 : 0 < j := by
            rcases Nat.eq_zero_or_pos j with h | h
            · exact absurd (by rw [h]; decide) c3
            · exact h
          obtain ⟨s', hs'⟩ : ∃ s', (stL (dsB B p))[j - 1]? = some s' := ⟨_, List.getElem?_eq_getElem (by omega)⟩
          have hcc : s'.2 ≤ s.1 := by
            have a := List.getElem?_eq_some_iff.mp hs'
            have b := List.getElem?_eq_some_iff.mp hs
            have := List.pairwise_iff_getElem.mp hg.chain.2 (j - 1) j a.1 b.1 (by omega)
            rw [a.2, b.2] at this
            exact this
          refine g_iload C dL_law_156 rfl ?_
          refine g_aload_n C dL_law_158 rfl rfl ?_
          refine g_iload C dL_law_159 rfl ?_
          refine g_iload C dL_law_161 rfl ?_
          refine g_iconst C dL_law_163 (v := 1) (by decide) ?_
          refine g_isub C dL_law_164 ?_
          rw [i1, pk_sub (by omega)]
          refine g_iconst C dL_law_165 (v := 1) (by decide) ?_
          refine r_stay C hW3 hp (j := j - 1) (by omega) (v := 1) (by decide) (by first | rfl | exact i1) (Nat.le_of_ble_eq_true rfl) dL_law_166 (fun S4 k4 n4 hW4 h54 => ?_)
          rw [(stW_eq hs').2.1]
          refine g_icmp_ge C dL_law_169 (tgt := 174) (by decide) (fun c4 => ?_) (fun c4 => ?_)
          · refine g_sub [(0, _), (1, _), (2, _), (3, _), (4, _), (5, _), (6, _), (7, _), (8, _), (9, _), (10, _), (11, _)] ⟨rfl, rfl, rfl, rfl, rfl, rfl, rfl, rfl, rfl, rfl, rfl, rfl, trivial⟩ ?_
            exact at174 S4 k4 n4 hW4
          · exact absurd (nI_le hcc (by omega)) c4
theorem lp_puppets (C : GC Γ X cL_law 16 "CueBookLaw" 13 600104 7301314) (hla : la ≤ 1000) (h4 : tN B ≤ 4) (cont : ∀ S k n, LWd Γ S x P Y Cu N B k n → GW Γ X S k n 347 [(0, .ref (bB Γ)), (1, .ref x), (2, .ref P), (3, .ref Y), (4, .ref Cu), (5, .ref N), (6, .int (nI la))] []) : ∀ (m p : Nat) (S : PS) (k n : Nat), p + m = tN B → LWd Γ S x P Y Cu N B k n → GW Γ X S k n 96 [(0, .ref (bB Γ)), (1, .ref x), (2, .ref P), (3, .ref Y), (4, .ref Cu), (5, .ref N), (6, .int (nI la)), (7, .int (nI p))] [] := by
  intro m
  induction m with
  | zero =>
    intro p S k n hp hW
    obtain ⟨N8, NN, n0, n1, n2⟩ := hW.nr
    refine g_iload C dL_law_96 rfl ?_
    refine g_aload C dL_law_98 rfl ?_
    refine g_iconst C dL_law_100 (v := 0) (by decide) ?_
    refine g_ldI C i0 N8 (by rw [NN]; decide) (by decide) n0 dL_law_101 ?_
    refine g_icmp_ge C dL_law_102 (tgt := 347) (by decide) (fun c1 => ?_) (fun c1 => ?_)
    · refine g_sub [(0, _), (1, _), (2, _), (3, _), (4, _), (5, _), (6, _)] ⟨rfl, rfl, rfl, rfl, rfl, rfl, rfl, trivial⟩ ?_
      exact cont S k n hW
    · exact absurd (nI_le (by omega) (by omega)) c1
  | succ m ih =>
    intro p S k n hp hW
    obtain ⟨N8, NN, n0, n1, n2⟩ := hW.nr
    have hk := hW.2.k
    have hn := hW.2.n
    refine g_iload C dL_law_96 rfl ?_
    refine g_aload C dL_law_98 rfl ?_
    refine g_iconst C dL_law_100 (v := 0) (by decide) ?_
    refine g_ldI C i0 N8 (by rw [NN]; decide) (by decide) n0 dL_law_101 ?_
    refine g_icmp_ge C dL_law_102 (tgt := 347) (by decide) (fun c1 => ?_) (fun c1 => ?_)
    · exact absurd c1 (nI_ge (by omega) (by omega))
    · refine g_iconst C dL_law_105 (v := 0) (by decide) ?_
      refine g_istore C dL_law_106 (by decide) rfl ?_
      refine g_iconst C dL_law_108 (v := 0) (by decide) ?_
      refine g_istore C dL_law_109 (by decide) rfl ?_
      rw [i0]
      have hlp := lp_stays C hla h4 (p := p) (by omega) (x := x) (P := P) (Y := Y) (Cu := Cu) (N := N) (fun S2 k2 n2 hW2 => ?_) (stL (dsB B p)).length 0 S k n (by omega) hW
      · refine g_sub [(0, _), (1, _), (2, _), (3, _), (4, _), (5, _), (6, _), (7, _), (8, _), (9, _)] ⟨rfl, rfl, rfl, rfl, rfl, rfl, rfl, rfl, rfl, rfl, trivial⟩ ?_
        exact hlp
      · have hk2 := hW2.2.k
        have hn2 := hW2.2.n
        refine g_aload_n C dL_law_328 rfl rfl ?_
        refine g_iload C dL_law_329 rfl ?_
        refine r_beats C hW2 (by omega) (Nat.le_of_ble_eq_true rfl) dL_law_331 ?_
        refine g_iload C dL_law_334 rfl ?_
        refine g_icmp_eq C dL_law_336 (tgt := 341) (by decide) (fun c2 => ?_) (fun c2 => ?_)
        · refine g_iinc C dL_law_341 rfl (by first | exact inc1 _ | exact rfl) (by decide) rfl ?_
          refine g_goto C dL_law_344 (tgt := 96) (by decide) ?_
          refine g_sub [(0, _), (1, _), (2, _), (3, _), (4, _), (5, _), (6, _), (7, _)] ⟨rfl, rfl, rfl, rfl, rfl, rfl, rfl, rfl, trivial⟩ ?_
          exact ih (p + 1) S2 k2 n2 (by omega) hW2
        · exact absurd rfl c2
end LawA
