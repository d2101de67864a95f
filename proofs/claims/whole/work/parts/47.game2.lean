section GM
variable {w : Wl} {N : Nt} {fu : Nat} {m : Mm} {v : Int} {V : Vt}
theorem sk265 : SK[265]? = some (0, [some 2, some 266, some 274, none]) := by decide +kernel
theorem sk266 : SK[266]? = some (16, [some 267, some 268, some 269, some 270, some 271, some 272, some 273]) := by decide +kernel
theorem sk274 : SK[274]? = some (16, [some 275, some 276, some 277, some 278, some 279, some 280, some 281]) := by decide +kernel
theorem skRow {p : Nat} (h0 : 267 ≤ p) (h1 : p ≤ 281) (h2 : p ≠ 274) : SK[p]? = some (13, List.replicate 8 none) := by
  have h : ∀ p, p < 15 → p ≠ 7 → SK[267 + p]? = some (13, List.replicate 8 none) := by decide +kernel
  have := h (p - 267) (by omega) (by omega)
  rw [show 267 + (p - 267) = p by omega] at this
  exact this
theorem G0_0 : gP (mem w m) 265 0 0 = some 2 := gP_mem sk265 rfl
theorem G0_1 : gP (mem w m) 265 0 1 = some 266 := gP_mem sk265 rfl
theorem G0_2 : gP (mem w m) 265 0 2 = some 274 := gP_mem sk265 rfl
theorem G0_3 : gI (mem w m) 265 0 3 = some (iI (m 265 3)) := gI_mem sk265 rfl
theorem U0_3 : pF (mem w m) 265 0 3 (.int (iI v)) = some (mem w (up m 265 3 v)) := pF_mem sk265 rfl
theorem H0 : hasO (mem w m) 265 0 = some () := hasO_mem sk265
theorem R_w {l : Nat} (hl : l ≤ 6) : aP (mem w m) 266 16 (iI (l : Int)) = some (267 + l) := by
  refine aP_mem sk266 (by omega) (by omega) ?_
  rw [Int.toNat_natCast]
  rcases (show l = 0 ∨ l = 1 ∨ l = 2 ∨ l = 3 ∨ l = 4 ∨ l = 5 ∨ l = 6 by omega) with rfl | rfl | rfl | rfl | rfl | rfl | rfl <;> rfl
theorem R_n {l : Nat} (hl : l ≤ 6) : aP (mem w m) 274 16 (iI (l : Int)) = some (275 + l) := by
  refine aP_mem sk274 (by omega) (by omega) ?_
  rw [Int.toNat_natCast]
  rcases (show l = 0 ∨ l = 1 ∨ l = 2 ∨ l = 3 ∨ l = 4 ∨ l = 5 ∨ l = 6 by omega) with rfl | rfl | rfl | rfl | rfl | rfl | rfl <;> rfl
theorem R_get {p : Nat} {z : Int} (h0 : 267 ≤ p) (h1 : p ≤ 281) (h2 : p ≠ 274) (h3 : 0 ≤ z) (h4 : z < 8) : aI (mem w m) p 13 (iI z) = some (iI (m p z)) := aI_mem (skRow h0 h1 h2) h3 h4 (by decide)
theorem R_set {p : Nat} {z : Int} (h0 : 267 ≤ p) (h1 : p ≤ 281) (h2 : p ≠ 274) (h3 : 0 ≤ z) (h4 : z < 8) : aSet (mem w m) p 13 (iI z) (.int (iI v)) = some (mem w (up m p z v)) := aSet_mem (skRow h0 h1 h2) h3 h4 (by decide)
def gmAt (m : Mm) (N : Nt) (V : Vt) : Prop := ∀ (l : Nat) (v : Int), l ≤ 6 → 0 ≤ v → v < nN N → m (267 + l) v = V v l
theorem gmAt.net {m m' : Mm} (h : ∀ p, p < 267 → m' p = m p) (hN : isNet m 2 N) : isNet m' 2 N := hN.cong (h _ (by omega)) (h _ (by omega)) (h _ (by omega)) (h _ (by omega)) (h _ (by omega))
theorem arcNumber_eq {l : Nat} {a t : Int} (hN : isNet m 2 N) (hG : gmAt m N V) (hV : VOK N V t) (ht : 0 ≤ t ∧ t ≤ 100000) (hl : l ≤ 6) (ha : 0 ≤ a ∧ a < nA N) : f_X0_arcNumber fu 265 (iI a) (iI (l : Int)) (mem w m) = some (iI (num N V a l), mem w m) := by
  have hW := hN.2.2.1
  have hA := hN.2.2.arc ha.1 ha.2
  obtain ⟨b1, b2, b3⟩ := hV (aHd N a) l hA.2.2.1 hA.2.2.2.1 (by omega) (by omega)
  have g1 := hG l (aHd N a) hl hA.2.2.1 hA.2.2.2.1
  unfold f_X0_arcNumber
  simp (disch := omega) only [Option.bind_some, bd2_some, bdX_ok, bdX_er, nm_eq, n_0, n_1, n_2, n_3, n_4, n_5, n_6, n_7, n_8, n_9, n_10, n_11, n_12, n_14, n_15, n_16, n_17, n_18, n_19, n_20, n_21, n_24, n_27, n_28, n_32, n_43, n_45, n_48, n_56, n_57, n_59, n_64, n_70, n_97, n_99, n_100, n_104, n_118, n_122, n_126, n_127, n_128, n_129, n_130, n_150, n_255, n_600, n_1000, n_1050, n_1200, n_999999, n_1000000, iI_neg, iI_add, iI_sub, iI_mul, ile, ilt, ieq, G0_0, G0_1, K_has hN, K_0 hN, K_1 hN, K_2 hN, K_3 hN, K_4 hN, K_5 hN, K_6 hN, K_7 hN, K_8 hN, K_tl hN, K_hd hN, K_co hN, K_ex hN, R_w hl, R_get, g1, n_m1]
  unfold num
  by_cases c : V (aHd N a) l = -1
  · rw [if_pos c, if_pos c]
  · rw [if_neg c, if_neg c]
    by_cases cl : (l : Int) = 0
    · rw [if_pos cl, if_pos cl, cl]
    · rw [if_neg cl, if_neg cl]
      obtain ⟨d1, d2, d3⟩ := hV (aHd N a) ((l : Int) - 1) hA.2.2.1 hA.2.2.2.1 (by omega) (by omega)
      have g2 := hG (l - 1) (aHd N a) (by omega) hA.2.2.1 hA.2.2.2.1
      rw [show (((l - 1 : Nat) : Int)) = (l : Int) - 1 by omega] at g2
      have hr : aP (mem w m) 266 16 (iI ((l : Int) - 1)) = some (267 + (l - 1)) := by
        have := R_w (w := w) (m := m) (l := l - 1) (by omega)
        rw [show (((l - 1 : Nat) : Int)) = (l : Int) - 1 by omega] at this
        exact this
      simp (disch := omega) only [Option.bind_some, bd2_some, bdX_ok, bdX_er, nm_eq, n_0, n_1, n_2, n_3, n_4, n_5, n_6, n_7, n_8, n_9, n_10, n_11, n_12, n_14, n_15, n_16, n_17, n_18, n_19, n_20, n_21, n_24, n_27, n_28, n_32, n_43, n_45, n_48, n_56, n_57, n_59, n_64, n_70, n_97, n_99, n_100, n_104, n_118, n_122, n_126, n_127, n_128, n_129, n_130, n_150, n_255, n_600, n_1000, n_1050, n_1200, n_999999, n_1000000, iI_neg, iI_add, iI_sub, iI_mul, ile, ilt, ieq, G0_0, G0_1, K_has hN, K_0 hN, K_1 hN, K_2 hN, K_3 hN, K_4 hN, K_5 hN, K_6 hN, K_7 hN, K_8 hN, K_tl hN, K_hd hN, K_co hN, K_ex hN, hr, R_get, g2]
      by_cases cc : aCo N a + V (aHd N a) l < aCo N a + aEx N a + V (aHd N a) ((l : Int) - 1)
      · rw [if_neg (by omega), if_pos cc]
      · rw [if_pos (by omega), if_neg cc]
theorem bestArcOf_go {l : Nat} {t : Int} (hN : isNet m 2 N) (hG : gmAt m N V) (hV : VOK N V t) (ht : 0 ≤ t ∧ t ≤ 100000) (hl : l ≤ 6) (hv : 0 ≤ v ∧ v < nN N) : ∀ (d n : Nat) (f b s : Int), nA N - f = d → 0 ≤ f → d < n → -1 ≤ b → b < 16 → -1 ≤ s → s ≤ 1000000 → f_X0_bestArcOf_9 fu n 265 (iI v) (iI (l : Int)) (iI b) (iI s) (iI f) (mem w m) = some (iI (bA N V v l (arF N f) b s), mem w m) := by
  have hW := hN.2.2.1
  intro d
  induction d with
  | zero =>
    intro n f b s hd h0 hn _ _ _ _
    obtain ⟨n, rfl⟩ : ∃ k, n = k + 1 := ⟨n - 1, by omega⟩
    rw [f_X0_bestArcOf_9, f_X0_bestArcOf_9b, arF_nil (by omega)]
    simp (disch := omega) only [Option.bind_some, bd2_some, bdX_ok, bdX_er, nm_eq, n_0, n_1, n_2, n_3, n_4, n_5, n_6, n_7, n_8, n_9, n_10, n_11, n_12, n_14, n_15, n_16, n_17, n_18, n_19, n_20, n_21, n_24, n_27, n_28, n_32, n_43, n_45, n_48, n_56, n_57, n_59, n_64, n_70, n_97, n_99, n_100, n_104, n_118, n_122, n_126, n_127, n_128, n_129, n_130, n_150, n_255, n_600, n_1000, n_1050, n_1200, n_999999, n_1000000, iI_neg, iI_add, iI_sub, iI_mul, ile, ilt, ieq, G0_0, K_has hN, K_0 hN, K_1 hN, K_2 hN, K_3 hN, K_4 hN, K_5 hN, K_6 hN, K_7 hN, K_8 hN, K_tl hN, K_hd hN, K_co hN, K_ex hN]
    rw [if_pos (by first | exact trivial | omega | decide)]
    rfl
  | succ d ih =>
    intro n f b s hd h0 hn h1 h2 h3 h4
    obtain ⟨n, rfl⟩ : ∃ k, n = k + 1 := ⟨n - 1, by omega⟩
    have hA := hN.2.2.arc h0 (by omega)
    have hr := num_r hN.2.2 hV (a := f) (l := l) ⟨h0, by omega⟩ ⟨by omega, by omega⟩ ht.1
    rw [f_X0_bestArcOf_9, f_X0_bestArcOf_9b, arF_cons (by omega), bA]
    unfold f_X0_bestArcOf_75
    simp (disch := omega) only [Option.bind_some, bd2_some, bdX_ok, bdX_er, nm_eq, n_0, n_1, n_2, n_3, n_4, n_5, n_6, n_7, n_8, n_9, n_10, n_11, n_12, n_14, n_15, n_16, n_17, n_18, n_19, n_20, n_21, n_24, n_27, n_28, n_32, n_43, n_45, n_48, n_56, n_57, n_59, n_64, n_70, n_97, n_99, n_100, n_104, n_118, n_122, n_126, n_127, n_128, n_129, n_130, n_150, n_255, n_600, n_1000, n_1050, n_1200, n_999999, n_1000000, iI_neg, iI_add, iI_sub, iI_mul, ile, ilt, ieq, G0_0, H0, K_has hN, K_0 hN, K_1 hN, K_2 hN, K_3 hN, K_4 hN, K_5 hN, K_6 hN, K_7 hN, K_8 hN, K_tl hN, K_hd hN, K_co hN, K_ex hN, arcNumber_eq hN hG hV ht hl (a := f) ⟨h0, by omega⟩, n_m1]
    rw [if_neg (by first | exact not_false | omega | decide)]
    have ih1 := ih n (f + 1) b s (by omega) (by omega) (by omega) h1 h2 h3 h4
    have ih2 := ih n (f + 1) f (num N V f l) (by omega) (by omega) (by omega) (by omega) (by omega) (by omega) (by omega)
    by_cases c0 : v = nT N
    · rw [if_pos c0, if_pos c0]
    · rw [if_neg c0, if_neg c0]
      by_cases c1 : aTl N f = v
      · rw [if_pos c1, if_pos c1]
        by_cases c2 : num N V f l = -1
        · rw [if_pos c2, if_pos c2]; exact ih1
        · rw [if_neg c2, if_neg c2]
          by_cases c3 : s ≤ num N V f l
          · rw [if_pos c3, if_pos c3]; exact ih1
          · rw [if_neg c3, if_neg c3]; exact ih2
      · rw [if_neg c1, if_neg c1]; exact ih1
theorem bestArcOf_eq {l : Nat} {t : Int} (hfu : 100 ≤ fu) (hN : isNet m 2 N) (hG : gmAt m N V) (hV : VOK N V t) (ht : 0 ≤ t ∧ t ≤ 100000) (hl : l ≤ 6) (hv : 0 ≤ v ∧ v < nN N) : f_X0_bestArcOf fu 265 (iI v) (iI (l : Int)) (mem w m) = some (iI (bestA N V v l), mem w m) := by
  have hW := hN.2.2.1
  rw [f_X0_bestArcOf]
  simp (disch := omega) only [Option.bind_some, bd2_some, bdX_ok, bdX_er, nm_eq, n_0, n_1, n_2, n_3, n_4, n_5, n_6, n_7, n_8, n_9, n_10, n_11, n_12, n_14, n_15, n_16, n_17, n_18, n_19, n_20, n_21, n_24, n_27, n_28, n_32, n_43, n_45, n_48, n_56, n_57, n_59, n_64, n_70, n_97, n_99, n_100, n_104, n_118, n_122, n_126, n_127, n_128, n_129, n_130, n_150, n_255, n_600, n_1000, n_1050, n_1200, n_999999, n_1000000, iI_neg, iI_add, iI_sub, iI_mul, ile, ilt, ieq, n_m1]
  exact bestArcOf_go (w := w) hN hG hV ht hl hv (nA N).toNat fu 0 (-1) 1000000 (by omega) (by omega) (by omega) (by omega) (by omega) (by omega) (by omega)
theorem leastNumber_eq {l : Nat} {t : Int} (hfu : 100 ≤ fu) (hN : isNet m 2 N) (hG : gmAt m N V) (hV : VOK N V t) (ht : 0 ≤ t ∧ t ≤ 100000) (hl : l ≤ 6) (hv : 0 ≤ v ∧ v < nN N) : f_X0_leastNumber fu 265 (iI v) (iI (l : Int)) (mem w m) = some (iI (TV N V v l), mem w m) := by
  have hW := hN.2.2.1
  unfold f_X0_leastNumber TV
  have hb : -1 ≤ bestA N V v l ∧ bestA N V v l < 16 := by
    by_cases c : bestA N V v l = -1
    · omega
    · have := bestA_in c; omega
  simp (disch := omega) only [Option.bind_some, bd2_some, bdX_ok, bdX_er, nm_eq, n_0, n_1, n_2, n_3, n_4, n_5, n_6, n_7, n_8, n_9, n_10, n_11, n_12, n_14, n_15, n_16, n_17, n_18, n_19, n_20, n_21, n_24, n_27, n_28, n_32, n_43, n_45, n_48, n_56, n_57, n_59, n_64, n_70, n_97, n_99, n_100, n_104, n_118, n_122, n_126, n_127, n_128, n_129, n_130, n_150, n_255, n_600, n_1000, n_1050, n_1200, n_999999, n_1000000, iI_neg, iI_add, iI_sub, iI_mul, ile, ilt, ieq, G0_0, H0, K_has hN, K_0 hN, K_1 hN, K_2 hN, K_3 hN, K_4 hN, K_5 hN, K_6 hN, K_7 hN, K_8 hN, K_tl hN, K_hd hN, K_co hN, K_ex hN, bestArcOf_eq (w := w) hfu hN hG hV ht hl hv, n_m1]
  by_cases c0 : v = nT N
  · rw [if_pos c0, if_pos c0]
  · rw [if_neg c0, if_neg c0]
    by_cases c1 : bestA N V v l = -1
    · rw [if_pos c1, if_pos c1]
    · rw [if_neg c1, if_neg c1]
      obtain ⟨b1, b2, -⟩ := bestA_in c1
      rw [arcNumber_eq hN hG hV ht hl ⟨b1, b2⟩]
      rfl
theorem next_row {k41 : Nat → Int32 → List Ob → Option (Int32 × List Ob)} {l : Nat} {t : Int} (hfu : 100 ≤ fu) (hV : VOK N V t) (ht : 0 ≤ t ∧ t ≤ 100000) (hl : l ≤ 6) : ∀ (d n : Nat) (m : Mm) (j : Int), isNet m 2 N → gmAt m N V → nN N - j = d → 0 ≤ j → d < n → ∃ m', f_X0_allowOneMoreStep_10 fu k41 n 265 (iI (l : Int)) (iI j) (mem w m) = k41 265 (iI (l : Int)) (mem w m') ∧ sameP (275 + l) m m' ∧ (∀ v, j ≤ v → v < nN N → m' (275 + l) v = TV N V v l) ∧ (∀ v, v < j → m' (275 + l) v = m (275 + l) v) := by
  intro d
  induction d with
  | zero =>
    intro n m j hN hG hd h0 hn
    have hW := hN.2.2.1
    obtain ⟨n, rfl⟩ : ∃ k, n = k + 1 := ⟨n - 1, by omega⟩
    rw [f_X0_allowOneMoreStep_10, f_X0_allowOneMoreStep_10b]
    simp (disch := omega) only [Option.bind_some, bd2_some, bdX_ok, bdX_er, nm_eq, n_0, n_1, n_2, n_3, n_4, n_5, n_6, n_7, n_8, n_9, n_10, n_11, n_12, n_14, n_15, n_16, n_17, n_18, n_19, n_20, n_21, n_24, n_27, n_28, n_32, n_43, n_45, n_48, n_56, n_57, n_59, n_64, n_70, n_97, n_99, n_100, n_104, n_118, n_122, n_126, n_127, n_128, n_129, n_130, n_150, n_255, n_600, n_1000, n_1050, n_1200, n_999999, n_1000000, iI_neg, iI_add, iI_sub, iI_mul, ile, ilt, ieq, G0_0, K_has hN, K_0 hN, K_1 hN, K_2 hN, K_3 hN, K_4 hN, K_5 hN, K_6 hN, K_7 hN, K_8 hN, K_tl hN, K_hd hN, K_co hN, K_ex hN]
    rw [if_pos (by first | exact trivial | omega | decide)]
    exact ⟨m, rfl, sameP.rf, fun v a b => by omega, fun v _ => rfl⟩
  | succ d ih =>
    intro n m j hN hG hd h0 hn
    have hW := hN.2.2.1
    obtain ⟨n, rfl⟩ : ∃ k, n = k + 1 := ⟨n - 1, by omega⟩
    rw [f_X0_allowOneMoreStep_10, f_X0_allowOneMoreStep_10b]
    simp (disch := omega) only [Option.bind_some, bd2_some, bdX_ok, bdX_er, nm_eq, n_0, n_1, n_2, n_3, n_4, n_5, n_6, n_7, n_8, n_9, n_10, n_11, n_12, n_14, n_15, n_16, n_17, n_18, n_19, n_20, n_21, n_24, n_27, n_28, n_32, n_43, n_45, n_48, n_56, n_57, n_59, n_64, n_70, n_97, n_99, n_100, n_104, n_118, n_122, n_126, n_127, n_128, n_129, n_130, n_150, n_255, n_600, n_1000, n_1050, n_1200, n_999999, n_1000000, iI_neg, iI_add, iI_sub, iI_mul, ile, ilt, ieq, G0_0, G0_2, H0, K_has hN, K_0 hN, K_1 hN, K_2 hN, K_3 hN, K_4 hN, K_5 hN, K_6 hN, K_7 hN, K_8 hN, K_tl hN, K_hd hN, K_co hN, K_ex hN, R_n hl, leastNumber_eq (w := w) hfu hN hG hV ht hl (v := j) ⟨h0, by omega⟩, R_set]
    rw [if_neg (by first | exact not_false | omega | decide)]
    have hs : sameP (275 + l) m (up m (275 + l) j (TV N V j l)) := sameP_up
    have hG1 : gmAt (up m (275 + l) j (TV N V j l)) N V := fun l' v a b c => by rw [hs (267 + l') (by omega)]; exact hG l' v a b c
    obtain ⟨m', q1, q2, q3, q4⟩ := ih n _ (j + 1) (hs.net (by omega) hN) hG1 (by omega) (by omega) (by omega)
    refine ⟨m', q1, hs.trans q2, fun v a b => ?_, fun v a => ?_⟩
    · by_cases e : v = j
      · rw [q4 v (by omega), e, up_at]
      · exact q3 v (by omega) b
    · rw [q4 v (by omega), up_off (by omega)]
/-- nothing but rows from one on -/
def sameG (a : Nat) (m m' : Mm) : Prop := ∀ p, p < a ∨ 281 < p → m' p = m p
theorem sameG.trans {a b : Nat} {m m' m'' : Mm} (h : sameG a m m') (h' : sameG b m' m'') (hab : a ≤ b) : sameG a m m'' := fun p hp => (h' p (by omega)).trans (h p hp)
theorem next_all {k47 : Nat → List Ob → Option (Int32 × List Ob)} {t : Int} (hfu : 100 ≤ fu) (hV : VOK N V t) (ht : 0 ≤ t ∧ t ≤ 100000) : ∀ (d n : Nat) (m : Mm) (l : Nat), isNet m 2 N → gmAt m N V → l + d = 7 → d < n → ∃ m', f_X0_allowOneMoreStep_2 fu k47 n 265 (iI (l : Int)) (mem w m) = k47 265 (mem w m') ∧ sameG (275 + l) m m' ∧ (∀ (l' : Nat) (v : Int), l ≤ l' → l' ≤ 6 → 0 ≤ v → v < nN N → m' (275 + l') v = TV N V v l') := by
  intro d
  induction d with
  | zero =>
    intro n m l hN hG hd hn
    obtain ⟨n, rfl⟩ : ∃ k, n = k + 1 := ⟨n - 1, by omega⟩
    rw [f_X0_allowOneMoreStep_2, f_X0_allowOneMoreStep_2b]
    simp (disch := omega) only [Option.bind_some, bd2_some, bdX_ok, bdX_er, nm_eq, n_0, n_1, n_2, n_3, n_4, n_5, n_6, n_7, n_8, n_9, n_10, n_11, n_12, n_14, n_15, n_16, n_17, n_18, n_19, n_20, n_21, n_24, n_27, n_28, n_32, n_43, n_45, n_48, n_56, n_57, n_59, n_64, n_70, n_97, n_99, n_100, n_104, n_118, n_122, n_126, n_127, n_128, n_129, n_130, n_150, n_255, n_600, n_1000, n_1050, n_1200, n_999999, n_1000000, iI_neg, iI_add, iI_sub, iI_mul, ile, ilt, ieq]
    rw [if_pos (by first | exact trivial | omega | decide)]
    exact ⟨m, rfl, fun _ _ => rfl, fun l' v a b => by omega⟩
  | succ d ih =>
    intro n m l hN hG hd hn
    have hW := hN.2.2.1
    obtain ⟨n, rfl⟩ : ∃ k, n = k + 1 := ⟨n - 1, by omega⟩
    rw [f_X0_allowOneMoreStep_2, f_X0_allowOneMoreStep_2b]
    simp (disch := omega) only [Option.bind_some, bd2_some, bdX_ok, bdX_er, nm_eq, n_0, n_1, n_2, n_3, n_4, n_5, n_6, n_7, n_8, n_9, n_10, n_11, n_12, n_14, n_15, n_16, n_17, n_18, n_19, n_20, n_21, n_24, n_27, n_28, n_32, n_43, n_45, n_48, n_56, n_57, n_59, n_64, n_70, n_97, n_99, n_100, n_104, n_118, n_122, n_126, n_127, n_128, n_129, n_130, n_150, n_255, n_600, n_1000, n_1050, n_1200, n_999999, n_1000000, iI_neg, iI_add, iI_sub, iI_mul, ile, ilt, ieq]
    rw [if_neg (by first | exact not_false | omega | decide)]
    obtain ⟨m1, p1, p2, p3, p4⟩ := next_row (w := w) (k41 := fun x1 x2 M3 => f_X0_allowOneMoreStep_41 fu x1 x2 M3 (fun a0 a1 M => f_X0_allowOneMoreStep_2 fu k47 n a0 a1 M) k47) (l := l) hfu hV ht (by omega) (nN N).toNat fu m 0 hN hG (by omega) (by omega) (by omega)
    rw [p1]
    unfold f_X0_allowOneMoreStep_41
    simp (disch := omega) only [Option.bind_some, bd2_some, bdX_ok, bdX_er, nm_eq, n_0, n_1, n_2, n_3, n_4, n_5, n_6, n_7, n_8, n_9, n_10, n_11, n_12, n_14, n_15, n_16, n_17, n_18, n_19, n_20, n_21, n_24, n_27, n_28, n_32, n_43, n_45, n_48, n_56, n_57, n_59, n_64, n_70, n_97, n_99, n_100, n_104, n_118, n_122, n_126, n_127, n_128, n_129, n_130, n_150, n_255, n_600, n_1000, n_1050, n_1200, n_999999, n_1000000, iI_neg, iI_add, iI_sub, iI_mul, ile, ilt, ieq]
    have hG1 : gmAt m1 N V := fun l' v a b c => by rw [p2 (267 + l') (by omega)]; exact hG l' v a b c
    obtain ⟨m', q1, q2, q3⟩ := ih n m1 (l + 1) (p2.net (by omega) hN) hG1 (by omega) (by omega)
    rw [show ((l + 1 : Nat) : Int) = (l : Int) + 1 by omega] at q1
    refine ⟨m', q1, fun p hp => (q2 p (by omega)).trans (p2 p (by omega)), fun l' v a b c e => ?_⟩
    by_cases hl : l' = l
    · subst hl
      rw [q2 (275 + l') (by omega)]
      exact p3 v c e
    · exact q3 l' v (by omega) b c e
/-- a row is taken over; was anything else in it? -/
theorem take_row {k121 : Nat → Int32 → Int32 → List Ob → Option (Int32 × List Ob)} {l : Nat} {V' : Vt} {t : Int} (hV : VOK N V t) (hV' : VOK N V' t) (ht : 0 ≤ t ∧ t ≤ 200000) (hl : l ≤ 6) : ∀ (d n : Nat) (m : Mm) (j c : Int), isNet m 2 N → (∀ v, j ≤ v → v < nN N → m (267 + l) v = V v l) → (∀ v, 0 ≤ v → v < nN N → m (275 + l) v = V' v l) → nN N - j = d → 0 ≤ j → d < n → (c = 0 ∨ c = 1) → ∃ m' c', f_X0_allowOneMoreStep_59 fu k121 n 265 (iI c) (iI (l : Int)) (iI j) (mem w m) = k121 265 (iI c') (iI (l : Int)) (mem w m') ∧ sameP (267 + l) m m' ∧ (∀ v, j ≤ v → v < nN N → m' (267 + l) v = V' v l) ∧ (∀ v, v < j → m' (267 + l) v = m (267 + l) v) ∧ (c' = 0 ∨ c' = 1) ∧ (c' = 0 → c = 0 ∧ ∀ v, j ≤ v → v < nN N → V v l = V' v l) := by
  intro d
  induction d with
  | zero =>
    intro n m j c hN h1 h2 hd h0 hn hc
    have hW := hN.2.2.1
    obtain ⟨n, rfl⟩ : ∃ k, n = k + 1 := ⟨n - 1, by omega⟩
    rw [f_X0_allowOneMoreStep_59, f_X0_allowOneMoreStep_59b]
    simp (disch := omega) only [Option.bind_some, bd2_some, bdX_ok, bdX_er, nm_eq, n_0, n_1, n_2, n_3, n_4, n_5, n_6, n_7, n_8, n_9, n_10, n_11, n_12, n_14, n_15, n_16, n_17, n_18, n_19, n_20, n_21, n_24, n_27, n_28, n_32, n_43, n_45, n_48, n_56, n_57, n_59, n_64, n_70, n_97, n_99, n_100, n_104, n_118, n_122, n_126, n_127, n_128, n_129, n_130, n_150, n_255, n_600, n_1000, n_1050, n_1200, n_999999, n_1000000, iI_neg, iI_add, iI_sub, iI_mul, ile, ilt, ieq, G0_0, K_has hN, K_0 hN, K_1 hN, K_2 hN, K_3 hN, K_4 hN, K_5 hN, K_6 hN, K_7 hN, K_8 hN, K_tl hN, K_hd hN, K_co hN, K_ex hN]
    rw [if_pos (by first | exact trivial | omega | decide)]
    exact ⟨m, c, rfl, sameP.rf, fun v a b => by omega, fun v _ => rfl, hc, fun h => ⟨h, fun v a b => by omega⟩⟩
  | succ d ih =>
    intro n m j c hN h1 h2 hd h0 hn hc
    have hW := hN.2.2.1
    obtain ⟨n, rfl⟩ : ∃ k, n = k + 1 := ⟨n - 1, by omega⟩
    have e1 := h1 j (by omega) (by omega)
    have e2 := h2 j (by omega) (by omega)
    have r1 := hV j l h0 (by omega) (by omega) (by omega)
    have r2 := hV' j l h0 (by omega) (by omega) (by omega)
    have hs : sameP (267 + l) m (up m (267 + l) j (V' j l)) := sameP_up
    have hN1 := hs.net (by omega) hN
    have step : ∀ c2 : Int, (c2 = 0 ∨ c2 = 1) → (c2 = 0 → c = 0 ∧ V j l = V' j l) → ∃ m' c', f_X0_allowOneMoreStep_98 fu 265 (iI (l : Int)) (iI j) (iI c2) (mem w m) (fun a0 a1 a2 a3 M => f_X0_allowOneMoreStep_59 fu k121 n a0 a1 a2 a3 M) k121 = k121 265 (iI c') (iI (l : Int)) (mem w m') ∧ sameP (267 + l) m m' ∧ (∀ v, j ≤ v → v < nN N → m' (267 + l) v = V' v l) ∧ (∀ v, v < j → m' (267 + l) v = m (267 + l) v) ∧ (c' = 0 ∨ c' = 1) ∧ (c' = 0 → c = 0 ∧ ∀ v, j ≤ v → v < nN N → V v l = V' v l) := by
      intro c2 hc2 hc3
      unfold f_X0_allowOneMoreStep_98
      simp (disch := omega) only [Option.bind_some, bd2_some, bdX_ok, bdX_er, nm_eq, n_0, n_1, n_2, n_3, n_4, n_5, n_6, n_7, n_8, n_9, n_10, n_11, n_12, n_14, n_15, n_16, n_17, n_18, n_19, n_20, n_21, n_24, n_27, n_28, n_32, n_43, n_45, n_48, n_56, n_57, n_59, n_64, n_70, n_97, n_99, n_100, n_104, n_118, n_122, n_126, n_127, n_128, n_129, n_130, n_150, n_255, n_600, n_1000, n_1050, n_1200, n_999999, n_1000000, iI_neg, iI_add, iI_sub, iI_mul, ile, ilt, ieq, G0_1, G0_2, R_w hl, R_n hl, R_get, R_set, e2]
      obtain ⟨m', c', q1, q2, q3, q4, q5, q6⟩ := ih n (up m (267 + l) j (V' j l)) (j + 1) c2 hN1 (fun v a b => by rw [up_off (by omega)]; exact h1 v (by omega) b) (fun v a b => by rw [hs (275 + l) (by omega)]; exact h2 v a b) (by omega) (by omega) (by omega) hc2
      refine ⟨m', c', q1, hs.trans q2, fun v a b => ?_, fun v a => ?_, q5, fun h => ?_⟩
      · by_cases e : v = j
        · rw [q4 v (by omega), e, up_at]
        · exact q3 v (by omega) b
      · rw [q4 v (by omega), up_off (by omega)]
      · obtain ⟨g1, g2⟩ := q6 h
        obtain ⟨g3, g4⟩ := hc3 g1
        refine ⟨g3, fun v a b => ?_⟩
        by_cases e : v = j
        · rw [e]; exact g4
        · exact g2 v (by omega) b
    rw [f_X0_allowOneMoreStep_59, f_X0_allowOneMoreStep_59b]
    unfold f_X0_allowOneMoreStep_93
    simp (disch := omega) only [Option.bind_some, bd2_some, bdX_ok, bdX_er, nm_eq, n_0, n_1, n_2, n_3, n_4, n_5, n_6, n_7, n_8, n_9, n_10, n_11, n_12, n_14, n_15, n_16, n_17, n_18, n_19, n_20, n_21, n_24, n_27, n_28, n_32, n_43, n_45, n_48, n_56, n_57, n_59, n_64, n_70, n_97, n_99, n_100, n_104, n_118, n_122, n_126, n_127, n_128, n_129, n_130, n_150, n_255, n_600, n_1000, n_1050, n_1200, n_999999, n_1000000, iI_neg, iI_add, iI_sub, iI_mul, ile, ilt, ieq, G0_0, G0_1, G0_2, K_has hN, K_0 hN, K_1 hN, K_2 hN, K_3 hN, K_4 hN, K_5 hN, K_6 hN, K_7 hN, K_8 hN, K_tl hN, K_hd hN, K_co hN, K_ex hN, R_w hl, R_n hl, R_get, e1, e2]
    rw [if_neg (by first | exact not_false | omega | decide)]
    by_cases c0 : c = 0
    · rw [if_pos c0]
      by_cases c1 : V j l = V' j l
      · rw [if_pos c1]
        exact step 0 (Or.inl rfl) (fun _ => ⟨c0, c1⟩)
      · rw [if_neg c1]
        exact step 1 (Or.inr rfl) (fun h => by omega)
    · rw [if_neg c0]
      exact step 1 (Or.inr rfl) (fun h => by omega)
theorem take_all {V' : Vt} {t : Int} (hfu : 100 ≤ fu) (hV : VOK N V t) (hV' : VOK N V' t) (ht : 0 ≤ t ∧ t ≤ 200000) : ∀ (d n : Nat) (m : Mm) (l : Nat) (c : Int), isNet m 2 N → (∀ (l' : Nat) (v : Int), l ≤ l' → l' ≤ 6 → 0 ≤ v → v < nN N → m (267 + l') v = V v l') → (∀ (l' : Nat) (v : Int), l' ≤ 6 → 0 ≤ v → v < nN N → m (275 + l') v = V' v l') → l + d = 7 → d < n → (c = 0 ∨ c = 1) → ∃ m' c', f_X0_allowOneMoreStep_51 fu n 265 (iI c) (iI (l : Int)) (mem w m) = some (iI c', mem w m') ∧ (∀ p, p < 267 ∨ 273 < p → m' p = m p) ∧ (∀ (l' : Nat) (v : Int), l ≤ l' → l' ≤ 6 → 0 ≤ v → v < nN N → m' (267 + l') v = V' v l') ∧ (∀ l' : Nat, l' < l → m' (267 + l') = m (267 + l')) ∧ (c' = 0 ∨ c' = 1) ∧ (c' = 0 → c = 0 ∧ ∀ (l' : Nat) (v : Int), l ≤ l' → l' ≤ 6 → 0 ≤ v → v < nN N → V v l' = V' v l') := by
  intro d
  induction d with
  | zero =>
    intro n m l c hN h1 h2 hd hn hc
    obtain ⟨n, rfl⟩ : ∃ k, n = k + 1 := ⟨n - 1, by omega⟩
    rw [f_X0_allowOneMoreStep_51, f_X0_allowOneMoreStep_51b]
    simp (disch := omega) only [Option.bind_some, bd2_some, bdX_ok, bdX_er, nm_eq, n_0, n_1, n_2, n_3, n_4, n_5, n_6, n_7, n_8, n_9, n_10, n_11, n_12, n_14, n_15, n_16, n_17, n_18, n_19, n_20, n_21, n_24, n_27, n_28, n_32, n_43, n_45, n_48, n_56, n_57, n_59, n_64, n_70, n_97, n_99, n_100, n_104, n_118, n_122, n_126, n_127, n_128, n_129, n_130, n_150, n_255, n_600, n_1000, n_1050, n_1200, n_999999, n_1000000, iI_neg, iI_add, iI_sub, iI_mul, ile, ilt, ieq]
    rw [if_pos (by first | exact trivial | omega | decide)]
    have hcc : iI c &&& iI 1 = iI c := by rcases hc with rfl | rfl <;> decide
    have hcc' : iI c &&& 1 = iI c := hcc
    refine ⟨m, c, ?_, fun _ _ => rfl, fun l' v a b => by omega, fun _ _ => rfl, hc, fun h => ⟨h, fun l' v a b => by omega⟩⟩
    first | rw [if_pos hcc] | rw [if_pos hcc']
  | succ d ih =>
    intro n m l c hN h1 h2 hd hn hc
    have hW := hN.2.2.1
    obtain ⟨n, rfl⟩ : ∃ k, n = k + 1 := ⟨n - 1, by omega⟩
    rw [f_X0_allowOneMoreStep_51, f_X0_allowOneMoreStep_51b]
    simp (disch := omega) only [Option.bind_some, bd2_some, bdX_ok, bdX_er, nm_eq, n_0, n_1, n_2, n_3, n_4, n_5, n_6, n_7, n_8, n_9, n_10, n_11, n_12, n_14, n_15, n_16, n_17, n_18, n_19, n_20, n_21, n_24, n_27, n_28, n_32, n_43, n_45, n_48, n_56, n_57, n_59, n_64, n_70, n_97, n_99, n_100, n_104, n_118, n_122, n_126, n_127, n_128, n_129, n_130, n_150, n_255, n_600, n_1000, n_1050, n_1200, n_999999, n_1000000, iI_neg, iI_add, iI_sub, iI_mul, ile, ilt, ieq]
    rw [if_neg (by first | exact not_false | omega | decide)]
    obtain ⟨m1, c1, p1, p2, p3, p4, p5, p6⟩ := take_row (w := w) (k121 := fun x1 x2 x3 M4 => f_X0_allowOneMoreStep_121 fu x1 x2 x3 M4 (fun a0 a1 a2 M => f_X0_allowOneMoreStep_51 fu n a0 a1 a2 M)) (l := l) hV hV' ht (by omega) (nN N).toNat fu m 0 c hN (fun v a b => h1 l v (by omega) (by omega) a b) (fun v a b => h2 l v (by omega) a b) (by omega) (by omega) (by omega) hc
    rw [p1]
    unfold f_X0_allowOneMoreStep_121
    simp (disch := omega) only [Option.bind_some, bd2_some, bdX_ok, bdX_er, nm_eq, n_0, n_1, n_2, n_3, n_4, n_5, n_6, n_7, n_8, n_9, n_10, n_11, n_12, n_14, n_15, n_16, n_17, n_18, n_19, n_20, n_21, n_24, n_27, n_28, n_32, n_43, n_45, n_48, n_56, n_57, n_59, n_64, n_70, n_97, n_99, n_100, n_104, n_118, n_122, n_126, n_127, n_128, n_129, n_130, n_150, n_255, n_600, n_1000, n_1050, n_1200, n_999999, n_1000000, iI_neg, iI_add, iI_sub, iI_mul, ile, ilt, ieq]
    obtain ⟨m', c', q1, q2, q3, q4, q5, q6⟩ := ih n m1 (l + 1) c1 (p2.net (by omega) hN) (fun l' v a b c e => by rw [p2 (267 + l') (by omega)]; exact h1 l' v (by omega) b c e) (fun l' v a b c => by rw [p2 (275 + l') (by omega)]; exact h2 l' v a b c) (by omega) (by omega) p5
    rw [show ((l + 1 : Nat) : Int) = (l : Int) + 1 by omega] at q1
    refine ⟨m', c', q1, fun p hp => (q2 p hp).trans (p2 p (by omega)), fun l' v a b c e => ?_, fun l' a => (q4 l' (by omega)).trans (p2 _ (by omega)), q5, fun h => ?_⟩
    · by_cases hl : l' = l
      · subst hl
        rw [q4 l' (by omega)]
        exact p3 v c e
      · exact q3 l' v (by omega) b c e
    · obtain ⟨g1, g2⟩ := q6 h
      obtain ⟨g3, g4⟩ := p6 g1
      refine ⟨g3, fun l' v a b c e => ?_⟩
      by_cases hl : l' = l
      · subst hl; exact g4 v c e
      · exact g2 l' v (by omega) b c e
theorem oneMore_eq {t : Int} (hfu : 100 ≤ fu) (hN : isNet m 2 N) (hG : gmAt m N V) (hV : VOK N V t) (ht : 0 ≤ t ∧ t ≤ 100000) : ∃ m' c, f_X0_allowOneMoreStep fu 265 (mem w m) = some (iI c, mem w m') ∧ sameG 267 m m' ∧ gmAt m' N (TV N V) ∧ (c = 0 ∨ c = 1) ∧ (c = 0 → agr N (TV N V) V) := by
  unfold f_X0_allowOneMoreStep
  simp (disch := omega) only [Option.bind_some, bd2_some, bdX_ok, bdX_er, nm_eq, n_0, n_1, n_2, n_3, n_4, n_5, n_6, n_7, n_8, n_9, n_10, n_11, n_12, n_14, n_15, n_16, n_17, n_18, n_19, n_20, n_21, n_24, n_27, n_28, n_32, n_43, n_45, n_48, n_56, n_57, n_59, n_64, n_70, n_97, n_99, n_100, n_104, n_118, n_122, n_126, n_127, n_128, n_129, n_130, n_150, n_255, n_600, n_1000, n_1050, n_1200, n_999999, n_1000000, iI_neg, iI_add, iI_sub, iI_mul, ile, ilt, ieq]
  obtain ⟨m1, p1, p2, p3⟩ := next_all (w := w) (k47 := fun x1 M2 => f_X0_allowOneMoreStep_47 fu x1 M2) hfu hV ht 7 fu m 0 hN hG (by omega) (by omega)
  rw [show ((0 : Nat) : Int) = 0 from rfl] at p1
  rw [p1]
  unfold f_X0_allowOneMoreStep_47
  simp (disch := omega) only [Option.bind_some, bd2_some, bdX_ok, bdX_er, nm_eq, n_0, n_1, n_2, n_3, n_4, n_5, n_6, n_7, n_8, n_9, n_10, n_11, n_12, n_14, n_15, n_16, n_17, n_18, n_19, n_20, n_21, n_24, n_27, n_28, n_32, n_43, n_45, n_48, n_56, n_57, n_59, n_64, n_70, n_97, n_99, n_100, n_104, n_118, n_122, n_126, n_127, n_128, n_129, n_130, n_150, n_255, n_600, n_1000, n_1050, n_1200, n_999999, n_1000000, iI_neg, iI_add, iI_sub, iI_mul, ile, ilt, ieq]
  have hV1 : VOK N V (t + 198) := fun v l a b c d => by have := hV v l a b c d; omega
  obtain ⟨m', c', q1, q2, q3, q4, q5, q6⟩ := take_all (w := w) (fu := fu) (V := V) (V' := TV N V) hfu hV1 (TV_ok hN.2.2 hV ht.1 ht.2) (by omega) 7 fu m1 0 0 (hN.cong (p2 _ (by omega)) (p2 _ (by omega)) (p2 _ (by omega)) (p2 _ (by omega)) (p2 _ (by omega))) (fun l' v a b c d => by rw [p2 (267 + l') (by omega)]; exact hG l' v b c d) (fun l' v a b c => p3 l' v (by omega) a b c) (by omega) (by omega) (Or.inl rfl)
  rw [show ((0 : Nat) : Int) = 0 from rfl] at q1
  refine ⟨m', c', q1, fun p hp => (q2 p (by omega)).trans (p2 p (by omega)), fun l v a b c => q3 l v (by omega) a b c, q5, fun h => ?_⟩
  intro v l a b c d
  have := (q6 h).2 l.toNat v (by omega) (by omega) a b
  rw [show ((l.toNat : Nat) : Int) = l by omega] at this
  exact this.symm
theorem solve_loop (hfu : 100 ≤ fu) : ∀ (d n k : Nat) (m : Mm) (c : Int), isNet m 2 N → gmAt m N (GV N k) → k + d = 64 → d < n → (c = 0 ∨ c = 1) → (c = 0 → agr N (GV N 64) (GV N k)) → ∃ m', f_X0_solve_56 fu n 265 (iI c) (iI ((k : Int) + 1)) (mem w m) = some ((), mem w m') ∧ sameG 267 m m' ∧ gmAt m' N (GV N 64) := by
  intro d
  induction d with
  | zero =>
    intro n k m c hN hG hk hn hc hfix
    obtain ⟨n, rfl⟩ : ∃ k, n = k + 1 := ⟨n - 1, by omega⟩
    rw [f_X0_solve_56, f_X0_solve_56b]
    simp (disch := omega) only [Option.bind_some, bd2_some, bdX_ok, bdX_er, nm_eq, n_0, n_1, n_2, n_3, n_4, n_5, n_6, n_7, n_8, n_9, n_10, n_11, n_12, n_14, n_15, n_16, n_17, n_18, n_19, n_20, n_21, n_24, n_27, n_28, n_32, n_43, n_45, n_48, n_56, n_57, n_59, n_64, n_70, n_97, n_99, n_100, n_104, n_118, n_122, n_126, n_127, n_128, n_129, n_130, n_150, n_255, n_600, n_1000, n_1050, n_1200, n_999999, n_1000000, iI_neg, iI_add, iI_sub, iI_mul, ile, ilt, ieq]
    rw [if_pos (by omega)]
    have : k = 64 := by omega
    subst this
    exact ⟨m, rfl, fun _ _ => rfl, hG⟩
  | succ d ih =>
    intro n k m c hN hG hk hn hc hfix
    have hW := hN.2.2.1
    obtain ⟨n, rfl⟩ : ∃ k, n = k + 1 := ⟨n - 1, by omega⟩
    rw [f_X0_solve_56, f_X0_solve_56b]
    simp (disch := omega) only [Option.bind_some, bd2_some, bdX_ok, bdX_er, nm_eq, n_0, n_1, n_2, n_3, n_4, n_5, n_6, n_7, n_8, n_9, n_10, n_11, n_12, n_14, n_15, n_16, n_17, n_18, n_19, n_20, n_21, n_24, n_27, n_28, n_32, n_43, n_45, n_48, n_56, n_57, n_59, n_64, n_70, n_97, n_99, n_100, n_104, n_118, n_122, n_126, n_127, n_128, n_129, n_130, n_150, n_255, n_600, n_1000, n_1050, n_1200, n_999999, n_1000000, iI_neg, iI_add, iI_sub, iI_mul, ile, ilt, ieq, H0]
    rw [if_neg (by omega)]
    by_cases c0 : c = 0
    · rw [if_pos c0]
      exact ⟨m, rfl, fun _ _ => rfl, fun l v a b c' => by rw [hfix c0 v l b c' (by omega) (by omega)]; exact hG l v a b c'⟩
    · rw [if_neg c0]
      obtain ⟨m1, c1, p1, p2, p3, p4, p5⟩ := oneMore_eq (w := w) hfu hN hG (GV_ok hN.2.2 k (by omega)) (by omega)
      rw [p1, bd2_some]
      obtain ⟨m', q1, q2, q3⟩ := ih n (k + 1) m1 c1 (hN.cong (p2 _ (by omega)) (p2 _ (by omega)) (p2 _ (by omega)) (p2 _ (by omega)) (p2 _ (by omega))) p3 (by omega) (by omega) p4 (fun h => by
        have h9 := GV_stop hN.2.2 (k := k) (p5 h) (64 - k)
        rw [show k + (64 - k) = 64 by omega] at h9
        intro v l a b c' e
        exact (h9 v l a b c' e).trans ((p5 h) v l a b c' e).symm)
      rw [show (((k + 1 : Nat) : Int) + 1) = (k : Int) + 1 + 1 by omega] at q1
      exact ⟨m', q1, p2.trans q2 (Nat.le_refl _), q3⟩
theorem solve_init {k52 : Nat → List Ob → Option (Unit × List Ob)} (hfu : 1000 ≤ fu) : ∀ (d n : Nat) (m : Mm) (l : Nat), isNet m 2 N → l + d = 7 → d < n → ∃ m', f_X0_solve_15 fu k52 n 265 (iI (l : Int)) (mem w m) = k52 265 (mem w m') ∧ sameG 267 m m' ∧ (∀ (l' : Nat) (v : Int), l ≤ l' → l' ≤ 6 → 0 ≤ v → v < nN N → m' (267 + l') v = GV N 0 v l') ∧ (∀ l' : Nat, l' < l → m' (267 + l') = m (267 + l')) := by
  intro d
  induction d with
  | zero =>
    intro n m l hN hd hn
    obtain ⟨n, rfl⟩ : ∃ k, n = k + 1 := ⟨n - 1, by omega⟩
    rw [f_X0_solve_15, f_X0_solve_15b]
    simp (disch := omega) only [Option.bind_some, bd2_some, bdX_ok, bdX_er, nm_eq, n_0, n_1, n_2, n_3, n_4, n_5, n_6, n_7, n_8, n_9, n_10, n_11, n_12, n_14, n_15, n_16, n_17, n_18, n_19, n_20, n_21, n_24, n_27, n_28, n_32, n_43, n_45, n_48, n_56, n_57, n_59, n_64, n_70, n_97, n_99, n_100, n_104, n_118, n_122, n_126, n_127, n_128, n_129, n_130, n_150, n_255, n_600, n_1000, n_1050, n_1200, n_999999, n_1000000, iI_neg, iI_add, iI_sub, iI_mul, ile, ilt, ieq]
    rw [if_pos (by omega)]
    exact ⟨m, rfl, fun _ _ => rfl, fun l' v a b => by omega, fun _ _ => rfl⟩
  | succ d ih =>
    intro n m l hN hd hn
    have hW := hN.2.2.1
    obtain ⟨n, rfl⟩ : ∃ k, n = k + 1 := ⟨n - 1, by omega⟩
    rw [f_X0_solve_15, f_X0_solve_15b]
    have hfl := fill_eq (w := w) (fu := fu) (v := -1) (m := m) hfu (skRow (p := 267 + l) (by omega) (by omega) (by omega)) (by decide)
    have hs1 : sameP (267 + l) m (fill1 m (267 + l) (-1) 0 (8 : Nat)) := fun p hp => by funext k; unfold fill1; rw [if_neg (fun q => hp q.1)]
    have hN1 := hs1.net (by omega) hN
    simp (disch := omega) only [Option.bind_some, bd2_some, bdX_ok, bdX_er, nm_eq, n_0, n_1, n_2, n_3, n_4, n_5, n_6, n_7, n_8, n_9, n_10, n_11, n_12, n_14, n_15, n_16, n_17, n_18, n_19, n_20, n_21, n_24, n_27, n_28, n_32, n_43, n_45, n_48, n_56, n_57, n_59, n_64, n_70, n_97, n_99, n_100, n_104, n_118, n_122, n_126, n_127, n_128, n_129, n_130, n_150, n_255, n_600, n_1000, n_1050, n_1200, n_999999, n_1000000, iI_neg, iI_add, iI_sub, iI_mul, ile, ilt, ieq, G0_0, G0_1, R_w (show l ≤ 6 by omega), n_m1, hfl, K_has hN1, K_0 hN1, K_1 hN1, K_2 hN1, K_3 hN1, K_4 hN1, K_5 hN1, K_6 hN1, K_7 hN1, K_8 hN1, K_tl hN1, K_hd hN1, K_co hN1, K_ex hN1, R_set]
    rw [if_neg (by omega)]
    have hs2 : sameP (267 + l) m (up (fill1 m (267 + l) (-1) 0 (8 : Nat)) (267 + l) (nT N) 0) := hs1.trans sameP_up
    obtain ⟨m', q1, q2, q3, q4⟩ := ih n _ (l + 1) (hs2.net (by omega) hN) (by omega) (by omega)
    rw [show ((l + 1 : Nat) : Int) = (l : Int) + 1 by omega] at q1
    refine ⟨m', q1, fun p hp => (q2 p hp).trans (hs2 p (by omega)), fun l' v a b c e => ?_, fun l' a => (q4 l' (by omega)).trans (hs2 _ (by omega))⟩
    by_cases hl : l' = l
    · subst hl
      rw [q4 l' (by omega)]
      show up _ _ _ _ _ _ = (if v = nT N then (0 : Int) else -1)
      by_cases hv : v = nT N
      · rw [if_pos hv, hv, up_at]
      · rw [if_neg hv, up_off hv]
        unfold fill1
        rw [if_pos (by omega)]
    · exact q3 l' v (by omega) b c e
/-- the values are there -/
def solved (m : Mm) (N : Nt) : Prop := m 265 3 = 0 ∨ (m 265 3 = 1 ∧ gmAt m N (GV N 64))
def sameH (m m' : Mm) : Prop := ∀ p, p ≠ 265 → (p < 267 ∨ 281 < p) → m' p = m p
theorem solve_eq (hfu : 1000 ≤ fu) (hN : isNet m 2 N) (hs : solved m N) : ∃ m', f_X0_solve fu 265 (mem w m) = some ((), mem w m') ∧ sameH m m' ∧ m' 265 3 = 1 ∧ gmAt m' N (GV N 64) := by
  unfold f_X0_solve
  rcases hs with h | ⟨h, hG⟩
  · simp (disch := omega) only [Option.bind_some, bd2_some, bdX_ok, bdX_er, nm_eq, n_0, n_1, n_2, n_3, n_4, n_5, n_6, n_7, n_8, n_9, n_10, n_11, n_12, n_14, n_15, n_16, n_17, n_18, n_19, n_20, n_21, n_24, n_27, n_28, n_32, n_43, n_45, n_48, n_56, n_57, n_59, n_64, n_70, n_97, n_99, n_100, n_104, n_118, n_122, n_126, n_127, n_128, n_129, n_130, n_150, n_255, n_600, n_1000, n_1050, n_1200, n_999999, n_1000000, iI_neg, iI_add, iI_sub, iI_mul, ile, ilt, ieq, G0_3, h, U0_3]
    rw [if_pos (by first | exact trivial | omega | decide)]
    have hN1 : isNet (up m 265 3 1) 2 N := (sameP_up (q := 265)).net (by decide) hN
    obtain ⟨m1, p1, p2, p3, -⟩ := solve_init (w := w) (k52 := fun x5 M6 => f_X0_solve_52 fu x5 M6) hfu 7 fu (up m 265 3 1) 0 hN1 (by omega) (by omega)
    rw [show ((0 : Nat) : Int) = 0 from rfl] at p1
    rw [p1]
    unfold f_X0_solve_52
    simp (disch := omega) only [Option.bind_some, bd2_some, bdX_ok, bdX_er, nm_eq, n_0, n_1, n_2, n_3, n_4, n_5, n_6, n_7, n_8, n_9, n_10, n_11, n_12, n_14, n_15, n_16, n_17, n_18, n_19, n_20, n_21, n_24, n_27, n_28, n_32, n_43, n_45, n_48, n_56, n_57, n_59, n_64, n_70, n_97, n_99, n_100, n_104, n_118, n_122, n_126, n_127, n_128, n_129, n_130, n_150, n_255, n_600, n_1000, n_1050, n_1200, n_999999, n_1000000, iI_neg, iI_add, iI_sub, iI_mul, ile, ilt, ieq]
    have hN2 : isNet m1 2 N := hN1.cong (p2 _ (by omega)) (p2 _ (by omega)) (p2 _ (by omega)) (p2 _ (by omega)) (p2 _ (by omega))
    obtain ⟨m2, q1, q2, q3⟩ := solve_loop (w := w) (fu := fu) (by omega) 64 fu 0 m1 1 hN2 (fun l v a b c => p3 l v (by omega) a b c) (by omega) (by omega) (Or.inr rfl) (fun h => by omega)
    rw [show ((0 : Nat) : Int) + 1 = 1 from rfl] at q1
    refine ⟨m2, q1, fun p h1 h2 => ?_, ?_, q3⟩
    · rw [q2 p h2, p2 p h2, up_ne h1]
    · rw [q2 265 (by omega), p2 265 (by omega), up_at]
  · simp (disch := omega) only [Option.bind_some, bd2_some, bdX_ok, bdX_er, nm_eq, n_0, n_1, n_2, n_3, n_4, n_5, n_6, n_7, n_8, n_9, n_10, n_11, n_12, n_14, n_15, n_16, n_17, n_18, n_19, n_20, n_21, n_24, n_27, n_28, n_32, n_43, n_45, n_48, n_56, n_57, n_59, n_64, n_70, n_97, n_99, n_100, n_104, n_118, n_122, n_126, n_127, n_128, n_129, n_130, n_150, n_255, n_600, n_1000, n_1050, n_1200, n_999999, n_1000000, iI_neg, iI_add, iI_sub, iI_mul, ile, ilt, ieq, G0_3, h]
    rw [if_neg (by first | exact not_false | omega | decide)]
    exact ⟨m, rfl, fun _ _ _ => rfl, h, hG⟩
theorem worthOf_eq {l : Nat} (hG : gmAt m N V) (hN : isNet m 2 N) (hl : l ≤ 6) (hv : 0 ≤ v ∧ v < nN N) : f_X0_worthOf fu 265 (iI v) (iI (l : Int)) (mem w m) = some (iI (V v l), mem w m) := by
  have hW := hN.2.2.1
  unfold f_X0_worthOf
  simp (disch := omega) only [Option.bind_some, bd2_some, bdX_ok, bdX_er, nm_eq, n_0, n_1, n_2, n_3, n_4, n_5, n_6, n_7, n_8, n_9, n_10, n_11, n_12, n_14, n_15, n_16, n_17, n_18, n_19, n_20, n_21, n_24, n_27, n_28, n_32, n_43, n_45, n_48, n_56, n_57, n_59, n_64, n_70, n_97, n_99, n_100, n_104, n_118, n_122, n_126, n_127, n_128, n_129, n_130, n_150, n_255, n_600, n_1000, n_1050, n_1200, n_999999, n_1000000, iI_neg, iI_add, iI_sub, iI_mul, ile, ilt, ieq, G0_1, R_w hl, R_get, hG l v hl hv.1 hv.2]
theorem forgetValues_eq : f_X0_forgetValues fu 265 (mem w m) = some ((), mem w (up m 265 3 0)) := by
  unfold f_X0_forgetValues
  simp (disch := omega) only [Option.bind_some, bd2_some, bdX_ok, bdX_er, nm_eq, n_0, n_1, n_2, n_3, n_4, n_5, n_6, n_7, n_8, n_9, n_10, n_11, n_12, n_14, n_15, n_16, n_17, n_18, n_19, n_20, n_21, n_24, n_27, n_28, n_32, n_43, n_45, n_48, n_56, n_57, n_59, n_64, n_70, n_97, n_99, n_100, n_104, n_118, n_122, n_126, n_127, n_128, n_129, n_130, n_150, n_255, n_600, n_1000, n_1050, n_1200, n_999999, n_1000000, iI_neg, iI_add, iI_sub, iI_mul, ile, ilt, ieq, U0_3]
end GM
