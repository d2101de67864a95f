/-! the reference's game -/
def fv (y : Int) : Int := if y = -1 then 999999 else y
def vL (V : Vt) (k : Int) : Int := fv (V (k / 7) (k % 7))
def vRow (f : Int → Int) (N : Nt) (V : Vt) : Prop := ∀ k, 0 ≤ k → k < 7 * nN N → f k = vL V k
theorem iI_div7 {k : Int} (h0 : 0 ≤ k) (h1 : k < 56) : iI k / iI 7 = iI (k / 7) := by
  have h : ∀ n : Nat, n < 56 → iI (n : Int) / iI 7 = iI ((n : Int) / 7) := by decide +kernel
  have := h k.toNat (by omega)
  rw [show ((k.toNat : Nat) : Int) = k by omega] at this
  exact this
theorem iI_div100 {k : Int} (h0 : 0 ≤ k) (h1 : k < 200) : iI k / iI 100 = iI (k / 100) := by
  have h : ∀ n : Nat, n < 200 → iI (n : Int) / iI 100 = iI ((n : Int) / 100) := by decide +kernel
  have := h k.toNat (by omega)
  rw [show ((k.toNat : Nat) : Int) = k by omega] at this
  exact this
theorem vRow.at {f : Int → Int} {N : Nt} {V : Vt} (h : vRow f N V) {v l : Int} (v0 : 0 ≤ v) (v1 : v < nN N) (l0 : 0 ≤ l) (l1 : l ≤ 6) : f (7 * v + l) = fv (V v l) := by
  rw [h (7 * v + l) (by omega) (by omega)]
  unfold vL
  rw [show (7 * v + l) / 7 = v by omega, show (7 * v + l) % 7 = l by omega]
theorem fv_r {y t : Int} (h0 : -1 ≤ y) (h1 : y ≤ t) (h2 : t ≤ 100198) : 0 ≤ fv y ∧ fv y ≤ 999999 ∧ (fv y < 999999 ↔ y ≠ -1) ∧ (y ≠ -1 → fv y = y) := by
  unfold fv
  split
  · exact ⟨by omega, by omega, ⟨fun q => by omega, fun q => by omega⟩, fun q => by omega⟩
  · exact ⟨by omega, by omega, ⟨fun _ => by assumption, fun _ => by omega⟩, fun _ => rfl⟩
section RI8
variable {w : Wl} {m m' : Mm} {p : Nat} {z v k a : Int} {fu : Nat} {N : Nt} {D : Int32} {x x' : Sg} {H H' : List Sg} {l : List Int} {T : List (List Int)} {V : Vt} {t b s : Int}
def isV (p : Nat) : Prop := SK[p]? = some (13, List.replicate 56 none)
theorem isV_291 : isV 291 := sk291
theorem isV_292 : isV 292 := sk292
theorem V_g (h : isV p) (h0 : 0 ≤ z) (h1 : z < 56) : aI (mem w m) p 13 (iI z) = some (iI (m p z)) := aI_mem h h0 h1 (by decide)
theorem gameOf_eq {left : Int} (hp : isV p) (hN : rNet (m 284) N) (hV : VOK N V t) (ht : 0 ≤ t ∧ t ≤ 100000) (hr : vRow (m p) N V) (ha : 0 ≤ a ∧ a < nA N) (hl : 0 ≤ left ∧ left ≤ 6) : f_X11_gameOf fu 283 p (iI a) (iI left) (mem w m) = some (iI (fv (num N V a left)), mem w m) := by
  have hw := hN.1.1
  have hA := hN.1.arc ha.1 ha.2
  have hv := hV (aHd N a) left hA.2.2.1 hA.2.2.2.1 hl.1 hl.2
  have g1 := hr.at hA.2.2.1 hA.2.2.2.1 hl.1 hl.2
  have f1 := fv_r hv.1 hv.2.1 (show t ≤ 100198 by omega)
  unfold f_X11_gameOf f_X11_gameOf_66
  simp (disch := omega) only [n_69, n_50, n_13, Option.bind_some, bd2_some, bdX_ok, bdX_er, nm_eq, n_0, n_1, n_2, n_3, n_4, n_5, n_6, n_7, n_8, n_9, n_10, n_11, n_12, n_14, n_15, n_16, n_17, n_18, n_19, n_20, n_21, n_24, n_27, n_28, n_32, n_43, n_45, n_48, n_56, n_57, n_59, n_64, n_70, n_97, n_99, n_100, n_104, n_118, n_122, n_126, n_127, n_128, n_129, n_130, n_150, n_255, n_600, n_1000, n_1050, n_1200, n_999999, n_1000000, iI_neg, iI_add, iI_sub, iI_mul, ile, ilt, ieq, Z_has, Z_0, Z_1, Z_2, Z_5, Z_15, Z_17, Z_18, Z_24, Z_25, Z_26, Z_3, Z_4, Z_6, Z_7, Z_8, Z_9, Z_10, Z_11, Z_12, Z_13, Z_14, Z_16, Z_19, Z_20, Z_21, Z_22, Z_23, Z_27, Y_3, Y_4, Y_6, Y_7, Y_8, Y_9, Y_10, Y_11, Y_12, Y_13, Y_14, Y_16, Y_19, Y_20, Y_21, Y_22, Y_23, Y_27, A_g, A_s, up_at, up_ne, up_off, of_1 hN ha.1 ha.2, of_2 hN ha.1 ha.2, of_3 hN ha.1 ha.2, V_g hp, g1]
  unfold num
  by_cases c : V (aHd N a) left = -1
  · rw [if_neg (by omega), if_pos c]; rfl
  · have e1 := f1.2.2.2 c
    rw [if_pos (by omega), if_neg c, e1]
    by_cases cl : left = 0
    · rw [if_pos cl, if_pos cl]
      subst cl
      have : fv (aCo N a + V (aHd N a) 0) = aCo N a + V (aHd N a) 0 := by unfold fv; rw [if_neg (by omega)]
      rw [this]
      split
      · congr 3; omega
      · rfl
    · rw [if_neg cl, if_neg cl]
      have hv2 := hV (aHd N a) (left - 1) hA.2.2.1 hA.2.2.2.1 (by omega) (by omega)
      have hv0 := hV (aHd N a) 0 hA.2.2.1 hA.2.2.2.1 (by omega) (by omega)
      have c2 : ¬ V (aHd N a) (left - 1) = -1 := fun q => c (hv.2.2.mpr (hv2.2.2.mp q))
      have g2 := hr.at hA.2.2.1 hA.2.2.2.1 (show 0 ≤ left - 1 by omega) (by omega)
      have e2 := (fv_r hv2.1 hv2.2.1 (show t ≤ 100198 by omega)).2.2.2 c2
      rw [show 7 * aHd N a + (left - 1) = 7 * aHd N a + left - 1 by omega, e2] at g2
      simp (disch := omega) only [n_69, n_50, n_13, Option.bind_some, bd2_some, bdX_ok, bdX_er, nm_eq, n_0, n_1, n_2, n_3, n_4, n_5, n_6, n_7, n_8, n_9, n_10, n_11, n_12, n_14, n_15, n_16, n_17, n_18, n_19, n_20, n_21, n_24, n_27, n_28, n_32, n_43, n_45, n_48, n_56, n_57, n_59, n_64, n_70, n_97, n_99, n_100, n_104, n_118, n_122, n_126, n_127, n_128, n_129, n_130, n_150, n_255, n_600, n_1000, n_1050, n_1200, n_999999, n_1000000, iI_neg, iI_add, iI_sub, iI_mul, ile, ilt, ieq, Z_has, Z_0, Z_1, Z_2, Z_5, Z_15, Z_17, Z_18, Z_24, Z_25, Z_26, Z_3, Z_4, Z_6, Z_7, Z_8, Z_9, Z_10, Z_11, Z_12, Z_13, Z_14, Z_16, Z_19, Z_20, Z_21, Z_22, Z_23, Z_27, Y_3, Y_4, Y_6, Y_7, Y_8, Y_9, Y_10, Y_11, Y_12, Y_13, Y_14, Y_16, Y_19, Y_20, Y_21, Y_22, Y_23, Y_27, A_g, A_s, up_at, up_ne, up_off, of_1 hN ha.1 ha.2, of_2 hN ha.1 ha.2, of_3 hN ha.1 ha.2, V_g hp, g1, g2]
      have fz : ∀ y : Int, 0 ≤ y → fv y = y := fun y hy => by unfold fv; rw [if_neg (by omega)]
      by_cases q : aCo N a + V (aHd N a) left ≤ aCo N a + aEx N a + V (aHd N a) (left - 1)
      · rw [if_pos q]
        by_cases q2 : aCo N a + V (aHd N a) left < aCo N a + aEx N a + V (aHd N a) (left - 1)
        · rw [if_pos q2, fz _ (by omega)]
        · rw [if_neg q2, fz _ (by omega)]; congr 3; omega
      · rw [if_neg q, if_neg (by omega), fz _ (by omega)]
theorem bestBy_go {left : Int} (hp : isV p) (hN : rNet (m 284) N) (hV : VOK N V t) (ht : 0 ≤ t ∧ t ≤ 100000) (hr : vRow (m p) N V) (hl : 0 ≤ left ∧ left ≤ 6) (hv : 0 ≤ v ∧ v < nN N) (hvt : v ≠ nT N) : ∀ (d n : Nat) (f b s : Int), nA N - f = d → 0 ≤ f → d < n → ((b = -1 ∧ s = 1000000) ∨ (0 ≤ b ∧ b < nA N ∧ s = num N V b left ∧ s ≠ -1)) → f_X11_bestBy_6 fu n 283 p (iI v) (iI left) (iI b) (iI f) (mem w m) = some (iI (bA N V v left (arF N f) b s), mem w m) := by
  have hw := hN.1.1
  intro d
  induction d with
  | zero =>
    intro n f b s hd h0 hn _
    obtain ⟨n, rfl⟩ : ∃ k, n = k + 1 := ⟨n - 1, by omega⟩
    rw [f_X11_bestBy_6, f_X11_bestBy_6b, arF_nil (by omega)]
    simp (disch := omega) only [n_69, n_50, n_13, Option.bind_some, bd2_some, bdX_ok, bdX_er, nm_eq, n_0, n_1, n_2, n_3, n_4, n_5, n_6, n_7, n_8, n_9, n_10, n_11, n_12, n_14, n_15, n_16, n_17, n_18, n_19, n_20, n_21, n_24, n_27, n_28, n_32, n_43, n_45, n_48, n_56, n_57, n_59, n_64, n_70, n_97, n_99, n_100, n_104, n_118, n_122, n_126, n_127, n_128, n_129, n_130, n_150, n_255, n_600, n_1000, n_1050, n_1200, n_999999, n_1000000, iI_neg, iI_add, iI_sub, iI_mul, ile, ilt, ieq, Z_has, Z_0, Z_1, Z_2, Z_5, Z_15, Z_17, Z_18, Z_24, Z_25, Z_26, Z_3, Z_4, Z_6, Z_7, Z_8, Z_9, Z_10, Z_11, Z_12, Z_13, Z_14, Z_16, Z_19, Z_20, Z_21, Z_22, Z_23, Z_27, Y_3, Y_4, Y_6, Y_7, Y_8, Y_9, Y_10, Y_11, Y_12, Y_13, Y_14, Y_16, Y_19, Y_20, Y_21, Y_22, Y_23, Y_27, A_g, A_s, up_at, up_ne, up_off, hN.2.1.2.2.2.2]
    rw [if_pos (by omega)]
    rfl
  | succ d ih =>
    intro n f b s hd h0 hn hb
    obtain ⟨n, rfl⟩ : ∃ k, n = k + 1 := ⟨n - 1, by omega⟩
    have hf : f < nA N := by omega
    have hA := hN.1.arc h0 hf
    have hnr := num_r hN.1 hV ⟨h0, hf⟩ hl ht.1
    have hfr := fv_r hnr.1 hnr.2.1 (show t + 198 ≤ 100198 by omega)
    have i1 := fun b s hb => ih n (f + 1) b s (by omega) (by omega) (by omega) hb
    rw [f_X11_bestBy_6, f_X11_bestBy_6b, arF_cons hf, bA, if_neg hvt]
    unfold f_X11_bestBy_69 f_X11_bestBy_73
    simp (disch := omega) only [n_69, n_50, n_13, Option.bind_some, bd2_some, bdX_ok, bdX_er, nm_eq, n_0, n_1, n_2, n_3, n_4, n_5, n_6, n_7, n_8, n_9, n_10, n_11, n_12, n_14, n_15, n_16, n_17, n_18, n_19, n_20, n_21, n_24, n_27, n_28, n_32, n_43, n_45, n_48, n_56, n_57, n_59, n_64, n_70, n_97, n_99, n_100, n_104, n_118, n_122, n_126, n_127, n_128, n_129, n_130, n_150, n_255, n_600, n_1000, n_1050, n_1200, n_999999, n_1000000, iI_neg, iI_add, iI_sub, iI_mul, ile, ilt, ieq, Z_has, Z_0, Z_1, Z_2, Z_5, Z_15, Z_17, Z_18, Z_24, Z_25, Z_26, Z_3, Z_4, Z_6, Z_7, Z_8, Z_9, Z_10, Z_11, Z_12, Z_13, Z_14, Z_16, Z_19, Z_20, Z_21, Z_22, Z_23, Z_27, Y_3, Y_4, Y_6, Y_7, Y_8, Y_9, Y_10, Y_11, Y_12, Y_13, Y_14, Y_16, Y_19, Y_20, Y_21, Y_22, Y_23, Y_27, A_g, A_s, up_at, up_ne, up_off, hN.2.1.2.2.2.2, of_0 hN h0 hf, gameOf_eq (w := w) (fu := fu) hp hN hV ht hr ⟨h0, hf⟩ hl, n_m1]
    rw [if_neg (by omega)]
    by_cases c1 : aTl N f = v
    · rw [if_pos c1, if_pos c1]
      by_cases c2 : num N V f left = -1
      · rw [if_pos c2, if_neg (by omega)]
        exact i1 b s hb
      · rw [if_neg c2, if_pos (by omega)]
        have e1 := hfr.2.2.2 c2
        rcases hb with ⟨rfl, rfl⟩ | ⟨b1, b2, b3, b4⟩
        · rw [if_pos rfl, if_neg (by omega)]
          exact i1 f _ (Or.inr ⟨h0, hf, rfl, c2⟩)
        · have hnb := num_r hN.1 hV ⟨b1, b2⟩ hl ht.1
          have hfb := fv_r hnb.1 hnb.2.1 (show t + 198 ≤ 100198 by omega)
          have e2 := hfb.2.2.2 (by omega)
          rw [if_neg (by omega)]
          simp (disch := omega) only [n_69, n_50, n_13, Option.bind_some, bd2_some, bdX_ok, bdX_er, nm_eq, n_0, n_1, n_2, n_3, n_4, n_5, n_6, n_7, n_8, n_9, n_10, n_11, n_12, n_14, n_15, n_16, n_17, n_18, n_19, n_20, n_21, n_24, n_27, n_28, n_32, n_43, n_45, n_48, n_56, n_57, n_59, n_64, n_70, n_97, n_99, n_100, n_104, n_118, n_122, n_126, n_127, n_128, n_129, n_130, n_150, n_255, n_600, n_1000, n_1050, n_1200, n_999999, n_1000000, iI_neg, iI_add, iI_sub, iI_mul, ile, ilt, ieq, Z_has, Z_0, Z_1, Z_2, Z_5, Z_15, Z_17, Z_18, Z_24, Z_25, Z_26, Z_3, Z_4, Z_6, Z_7, Z_8, Z_9, Z_10, Z_11, Z_12, Z_13, Z_14, Z_16, Z_19, Z_20, Z_21, Z_22, Z_23, Z_27, Y_3, Y_4, Y_6, Y_7, Y_8, Y_9, Y_10, Y_11, Y_12, Y_13, Y_14, Y_16, Y_19, Y_20, Y_21, Y_22, Y_23, Y_27, A_g, A_s, up_at, up_ne, up_off, gameOf_eq (w := w) (fu := fu) hp hN hV ht hr ⟨h0, hf⟩ hl, gameOf_eq (w := w) (fu := fu) hp hN hV ht hr ⟨b1, b2⟩ hl]
          rw [e1, e2]
          by_cases c3 : s ≤ num N V f left
          · rw [if_pos c3, if_pos (by omega)]
            exact i1 b s (Or.inr ⟨b1, b2, b3, b4⟩)
          · rw [if_neg c3, if_neg (by omega)]
            exact i1 f _ (Or.inr ⟨h0, hf, rfl, c2⟩)
    · rw [if_neg c1, if_neg c1]
      exact i1 b s hb
theorem bestBy_eq {left : Int} (hfu : 100 ≤ fu) (hp : isV p) (hN : rNet (m 284) N) (hV : VOK N V t) (ht : 0 ≤ t ∧ t ≤ 100000) (hr : vRow (m p) N V) (hl : 0 ≤ left ∧ left ≤ 6) (hv : 0 ≤ v ∧ v < nN N) (hvt : v ≠ nT N) : f_X11_bestBy fu 283 p (iI v) (iI left) (mem w m) = some (iI (bestA N V v left), mem w m) := by
  have hw := hN.1.1
  unfold f_X11_bestBy
  simp (disch := omega) only [n_69, n_50, n_13, Option.bind_some, bd2_some, bdX_ok, bdX_er, nm_eq, n_0, n_1, n_2, n_3, n_4, n_5, n_6, n_7, n_8, n_9, n_10, n_11, n_12, n_14, n_15, n_16, n_17, n_18, n_19, n_20, n_21, n_24, n_27, n_28, n_32, n_43, n_45, n_48, n_56, n_57, n_59, n_64, n_70, n_97, n_99, n_100, n_104, n_118, n_122, n_126, n_127, n_128, n_129, n_130, n_150, n_255, n_600, n_1000, n_1050, n_1200, n_999999, n_1000000, iI_neg, iI_add, iI_sub, iI_mul, ile, ilt, ieq, n_m1]
  exact bestBy_go (w := w) hp hN hV ht hr hl hv hvt (nA N).toNat fu 0 (-1) 1000000 (by omega) (by omega) (by omega) (Or.inl ⟨rfl, rfl⟩)
theorem play_init {k39 : Nat → List Ob → Option (Unit × List Ob)} : ∀ (d n : Nat) (m : Mm) (i : Int), rNet (m 284) N → i + d = 56 → 0 ≤ i → d < n → (∀ k, 0 ≤ k → k < i → m 291 k = vL (GV N 0) k) → ∃ m', f_X11_plays_2 fu k39 n 283 (iI i) (mem w m) = k39 283 (mem w m') ∧ (∀ q, q ≠ 291 → m' q = m q) ∧ ∀ k, 0 ≤ k → k < 56 → m' 291 k = vL (GV N 0) k := by
  intro d
  induction d with
  | zero =>
    intro n m i hN hi h0 hn hv
    obtain ⟨n, rfl⟩ : ∃ k, n = k + 1 := ⟨n - 1, by omega⟩
    rw [f_X11_plays_2, f_X11_plays_2b]
    simp (disch := omega) only [n_69, n_50, n_13, Option.bind_some, bd2_some, bdX_ok, bdX_er, nm_eq, n_0, n_1, n_2, n_3, n_4, n_5, n_6, n_7, n_8, n_9, n_10, n_11, n_12, n_14, n_15, n_16, n_17, n_18, n_19, n_20, n_21, n_24, n_27, n_28, n_32, n_43, n_45, n_48, n_56, n_57, n_59, n_64, n_70, n_97, n_99, n_100, n_104, n_118, n_122, n_126, n_127, n_128, n_129, n_130, n_150, n_255, n_600, n_1000, n_1050, n_1200, n_999999, n_1000000, iI_neg, iI_add, iI_sub, iI_mul, ile, ilt, ieq]
    rw [if_pos (by omega)]
    exact ⟨m, rfl, fun _ _ => rfl, fun k a b => hv k a (by omega)⟩
  | succ d ih =>
    intro n m i hN hi h0 hn hv
    have hw := hN.1.1
    obtain ⟨n, rfl⟩ : ∃ k, n = k + 1 := ⟨n - 1, by omega⟩
    rw [f_X11_plays_2, f_X11_plays_2b]
    unfold f_X11_plays_32
    simp (disch := omega) only [n_69, n_50, n_13, Option.bind_some, bd2_some, bdX_ok, bdX_er, nm_eq, n_0, n_1, n_2, n_3, n_4, n_5, n_6, n_7, n_8, n_9, n_10, n_11, n_12, n_14, n_15, n_16, n_17, n_18, n_19, n_20, n_21, n_24, n_27, n_28, n_32, n_43, n_45, n_48, n_56, n_57, n_59, n_64, n_70, n_97, n_99, n_100, n_104, n_118, n_122, n_126, n_127, n_128, n_129, n_130, n_150, n_255, n_600, n_1000, n_1050, n_1200, n_999999, n_1000000, iI_neg, iI_add, iI_sub, iI_mul, ile, ilt, ieq, Z_has, Z_0, Z_1, Z_2, Z_5, Z_15, Z_17, Z_18, Z_24, Z_25, Z_26, Z_3, Z_4, Z_6, Z_7, Z_8, Z_9, Z_10, Z_11, Z_12, Z_13, Z_14, Z_16, Z_19, Z_20, Z_21, Z_22, Z_23, Z_27, Y_3, Y_4, Y_6, Y_7, Y_8, Y_9, Y_10, Y_11, Y_12, Y_13, Y_14, Y_16, Y_19, Y_20, Y_21, Y_22, Y_23, Y_27, A_g, A_s, up_at, up_ne, up_off, hN.2.1.2.2.1, iI_div7, Va_s]
    rw [if_neg (by omega)]
    have nx : ∀ c : Int, c = vL (GV N 0) i → ∃ m', f_X11_plays_2 fu k39 n 283 (iI (i + 1)) (mem w (up m 291 i c)) = k39 283 (mem w m') ∧ (∀ q, q ≠ 291 → m' q = m q) ∧ ∀ k, 0 ≤ k → k < 56 → m' 291 k = vL (GV N 0) k := fun c hc => by
      obtain ⟨m', q1, q2, q3⟩ := ih n (up m 291 i c) (i + 1) (by rw [up_ne (by omega)]; exact hN) (by omega) (by omega) (by omega) (fun k a b => by
        by_cases e : k = i
        · subst e; rw [up_at]; exact hc
        · rw [up_off e]; exact hv k a (by omega))
      exact ⟨m', q1, fun q hq => by rw [q2 q hq, up_ne hq], q3⟩
    have e0 : vL (GV N 0) i = if i / 7 = nT N then 0 else 999999 := by
      unfold vL
      show fv (if i / 7 = nT N then 0 else -1) = _
      split <;> rfl
    by_cases c : i / 7 = nT N
    · rw [if_pos c]; exact nx 0 (by rw [e0, if_pos c])
    · rw [if_neg c]; exact nx 999999 (by rw [e0, if_neg c])
theorem play_copy {k73 : Nat → Int32 → List Ob → Option (Unit × List Ob)} {a1 : Int32} : ∀ (d n : Nat) (m : Mm) (i : Int), i + d = 56 → 0 ≤ i → d < n → ∃ m', f_X11_plays_49 fu k73 n 283 a1 (iI i) (mem w m) = k73 283 a1 (mem w m') ∧ (∀ q, q ≠ 292 → m' q = m q) ∧ ∀ k, m' 292 k = if i ≤ k ∧ k < 56 then m 291 k else m 292 k := by
  intro d
  induction d with
  | zero =>
    intro n m i hi h0 hn
    obtain ⟨n, rfl⟩ : ∃ k, n = k + 1 := ⟨n - 1, by omega⟩
    rw [f_X11_plays_49, f_X11_plays_49b]
    simp (disch := omega) only [n_69, n_50, n_13, Option.bind_some, bd2_some, bdX_ok, bdX_er, nm_eq, n_0, n_1, n_2, n_3, n_4, n_5, n_6, n_7, n_8, n_9, n_10, n_11, n_12, n_14, n_15, n_16, n_17, n_18, n_19, n_20, n_21, n_24, n_27, n_28, n_32, n_43, n_45, n_48, n_56, n_57, n_59, n_64, n_70, n_97, n_99, n_100, n_104, n_118, n_122, n_126, n_127, n_128, n_129, n_130, n_150, n_255, n_600, n_1000, n_1050, n_1200, n_999999, n_1000000, iI_neg, iI_add, iI_sub, iI_mul, ile, ilt, ieq]
    rw [if_pos (by omega)]
    exact ⟨m, rfl, fun _ _ => rfl, fun k => by rw [if_neg (by omega)]⟩
  | succ d ih =>
    intro n m i hi h0 hn
    obtain ⟨n, rfl⟩ : ∃ k, n = k + 1 := ⟨n - 1, by omega⟩
    rw [f_X11_plays_49, f_X11_plays_49b]
    simp (disch := omega) only [n_69, n_50, n_13, Option.bind_some, bd2_some, bdX_ok, bdX_er, nm_eq, n_0, n_1, n_2, n_3, n_4, n_5, n_6, n_7, n_8, n_9, n_10, n_11, n_12, n_14, n_15, n_16, n_17, n_18, n_19, n_20, n_21, n_24, n_27, n_28, n_32, n_43, n_45, n_48, n_56, n_57, n_59, n_64, n_70, n_97, n_99, n_100, n_104, n_118, n_122, n_126, n_127, n_128, n_129, n_130, n_150, n_255, n_600, n_1000, n_1050, n_1200, n_999999, n_1000000, iI_neg, iI_add, iI_sub, iI_mul, ile, ilt, ieq, Z_has, Z_0, Z_1, Z_2, Z_5, Z_15, Z_17, Z_18, Z_24, Z_25, Z_26, Z_3, Z_4, Z_6, Z_7, Z_8, Z_9, Z_10, Z_11, Z_12, Z_13, Z_14, Z_16, Z_19, Z_20, Z_21, Z_22, Z_23, Z_27, Y_3, Y_4, Y_6, Y_7, Y_8, Y_9, Y_10, Y_11, Y_12, Y_13, Y_14, Y_16, Y_19, Y_20, Y_21, Y_22, Y_23, Y_27, A_g, A_s, up_at, up_ne, up_off, Va_g, Vb_s]
    rw [if_neg (by omega)]
    obtain ⟨m', q1, q2, q3⟩ := ih n (up m 292 i (m 291 i)) (i + 1) (by omega) (by omega) (by omega)
    refine ⟨m', q1, fun q hq => by rw [q2 q hq, up_ne hq], fun k => ?_⟩
    rw [q3 k, up_ne (p := 292) (p' := 291) (by omega)]
    by_cases c : k = i
    · subst c; rw [if_neg (by omega), up_at, if_pos (by omega)]
    · rw [up_off c]
      by_cases c2 : i + 1 ≤ k ∧ k < 56
      · rw [if_pos c2, if_pos (by omega)]
      · rw [if_neg c2, if_neg (by omega)]
theorem play_round {k156 : Nat → Int32 → List Ob → Option (Unit × List Ob)} {a1 : Int32} (hfu : 100 ≤ fu) (hV : VOK N V t) (ht : 0 ≤ t ∧ t ≤ 100000) (hVT : ∀ l, V (nT N) l = 0) : ∀ (d n : Nat) (m : Mm) (i : Int), rNet (m 284) N → vRow (m 292) N V → 7 * nN N - i = d → 0 ≤ i → d < n → (∀ k, 0 ≤ k → k < i → m 291 k = vL (TV N V) k) → (∀ k, i ≤ k → k < 7 * nN N → m 291 k = vL V k) → ∃ m', f_X11_plays_75 fu k156 n 283 a1 (iI i) (mem w m) = k156 283 a1 (mem w m') ∧ (∀ q, q ≠ 291 → m' q = m q) ∧ vRow (m' 291) N (TV N V) := by
  intro d
  induction d with
  | zero =>
    intro n m i hN hB hi h0 hn hv1 hv2
    have hw := hN.1.1
    obtain ⟨n, rfl⟩ : ∃ k, n = k + 1 := ⟨n - 1, by omega⟩
    rw [f_X11_plays_75, f_X11_plays_75b]
    simp (disch := omega) only [n_69, n_50, n_13, Option.bind_some, bd2_some, bdX_ok, bdX_er, nm_eq, n_0, n_1, n_2, n_3, n_4, n_5, n_6, n_7, n_8, n_9, n_10, n_11, n_12, n_14, n_15, n_16, n_17, n_18, n_19, n_20, n_21, n_24, n_27, n_28, n_32, n_43, n_45, n_48, n_56, n_57, n_59, n_64, n_70, n_97, n_99, n_100, n_104, n_118, n_122, n_126, n_127, n_128, n_129, n_130, n_150, n_255, n_600, n_1000, n_1050, n_1200, n_999999, n_1000000, iI_neg, iI_add, iI_sub, iI_mul, ile, ilt, ieq, Z_has, Z_0, Z_1, Z_2, Z_5, Z_15, Z_17, Z_18, Z_24, Z_25, Z_26, Z_3, Z_4, Z_6, Z_7, Z_8, Z_9, Z_10, Z_11, Z_12, Z_13, Z_14, Z_16, Z_19, Z_20, Z_21, Z_22, Z_23, Z_27, Y_3, Y_4, Y_6, Y_7, Y_8, Y_9, Y_10, Y_11, Y_12, Y_13, Y_14, Y_16, Y_19, Y_20, Y_21, Y_22, Y_23, Y_27, A_g, A_s, up_at, up_ne, up_off, hN.2.1.1]
    rw [if_pos (by omega)]
    exact ⟨m, rfl, fun _ _ => rfl, fun k a b => hv1 k a (by omega)⟩
  | succ d ih =>
    intro n m i hN hB hi h0 hn hv1 hv2
    have hw := hN.1.1
    have hi56 : i < 56 := by omega
    have hv : 0 ≤ i / 7 ∧ i / 7 < nN N := by omega
    have hl : 0 ≤ i % 7 ∧ i % 7 ≤ 6 := by omega
    obtain ⟨n, rfl⟩ : ∃ k, n = k + 1 := ⟨n - 1, by omega⟩
    have er : i - i / 7 * 7 = i % 7 := by omega
    have nx : ∀ c : Int, c = vL (TV N V) i → ∃ m', f_X11_plays_75 fu k156 n 283 a1 (iI (i + 1)) (mem w (up m 291 i c)) = k156 283 a1 (mem w m') ∧ (∀ q, q ≠ 291 → m' q = m q) ∧ vRow (m' 291) N (TV N V) := fun c hc => by
      obtain ⟨m', q1, q2, q3⟩ := ih n (up m 291 i c) (i + 1) (by rw [up_ne (by omega)]; exact hN) (by rw [up_ne (by omega)]; exact hB) (by omega) (by omega) (by omega) (fun k a b => by
        by_cases e : k = i
        · subst e; rw [up_at]; exact hc
        · rw [up_off e]; exact hv1 k a (by omega)) (fun k a b => by rw [up_off (by omega)]; exact hv2 k (by omega) b)
      exact ⟨m', q1, fun q hq => by rw [q2 q hq, up_ne hq], q3⟩
    rw [f_X11_plays_75, f_X11_plays_75b]
    unfold f_X11_plays_149 f_X11_plays_150
    simp (disch := omega) only [n_69, n_50, n_13, Option.bind_some, bd2_some, bdX_ok, bdX_er, nm_eq, n_0, n_1, n_2, n_3, n_4, n_5, n_6, n_7, n_8, n_9, n_10, n_11, n_12, n_14, n_15, n_16, n_17, n_18, n_19, n_20, n_21, n_24, n_27, n_28, n_32, n_43, n_45, n_48, n_56, n_57, n_59, n_64, n_70, n_97, n_99, n_100, n_104, n_118, n_122, n_126, n_127, n_128, n_129, n_130, n_150, n_255, n_600, n_1000, n_1050, n_1200, n_999999, n_1000000, iI_neg, iI_add, iI_sub, iI_mul, ile, ilt, ieq, Z_has, Z_0, Z_1, Z_2, Z_5, Z_15, Z_17, Z_18, Z_24, Z_25, Z_26, Z_3, Z_4, Z_6, Z_7, Z_8, Z_9, Z_10, Z_11, Z_12, Z_13, Z_14, Z_16, Z_19, Z_20, Z_21, Z_22, Z_23, Z_27, Y_3, Y_4, Y_6, Y_7, Y_8, Y_9, Y_10, Y_11, Y_12, Y_13, Y_14, Y_16, Y_19, Y_20, Y_21, Y_22, Y_23, Y_27, A_g, A_s, up_at, up_ne, up_off, hN.2.1.1, hN.2.1.2.2.1, iI_div7, er, n_m1]
    rw [if_neg (by omega)]
    by_cases c : i / 7 = nT N
    · rw [if_pos c]
      have e0 : m 291 i = vL (TV N V) i := by
        rw [hv2 i (Int.le_refl _) (by omega)]
        unfold vL
        rw [c, hVT]
        show fv 0 = fv (if nT N = nT N then 0 else _)
        rw [if_pos rfl]
      obtain ⟨m', q1, q2, q3⟩ := ih n m (i + 1) hN hB (by omega) (by omega) (by omega) (fun k a b => by
        by_cases e : k = i
        · subst e; exact e0
        · exact hv1 k a (by omega)) (fun k a b => hv2 k (by omega) b)
      exact ⟨m', q1, q2, q3⟩
    · rw [if_neg c]
      rw [bestBy_eq (w := w) (v := i / 7) (left := i % 7) hfu isV_292 hN hV ht hB hl hv c, bd2_some]
      have et : vL (TV N V) i = fv (if bestA N V (i / 7) (i % 7) = -1 then -1 else num N V (bestA N V (i / 7) (i % 7)) (i % 7)) := by
        unfold vL TV
        rw [if_neg c]
      have hbr : -1 ≤ bestA N V (i / 7) (i % 7) ∧ bestA N V (i / 7) (i % 7) < 16 := by
        by_cases q : bestA N V (i / 7) (i % 7) = -1
        · omega
        · have := bestA_in q; omega
      simp (disch := omega) only [n_69, n_50, n_13, Option.bind_some, bd2_some, bdX_ok, bdX_er, nm_eq, n_0, n_1, n_2, n_3, n_4, n_5, n_6, n_7, n_8, n_9, n_10, n_11, n_12, n_14, n_15, n_16, n_17, n_18, n_19, n_20, n_21, n_24, n_27, n_28, n_32, n_43, n_45, n_48, n_56, n_57, n_59, n_64, n_70, n_97, n_99, n_100, n_104, n_118, n_122, n_126, n_127, n_128, n_129, n_130, n_150, n_255, n_600, n_1000, n_1050, n_1200, n_999999, n_1000000, iI_neg, iI_add, iI_sub, iI_mul, ile, ilt, ieq, Z_has, Z_0, Z_1, Z_2, Z_5, Z_15, Z_17, Z_18, Z_24, Z_25, Z_26, Z_3, Z_4, Z_6, Z_7, Z_8, Z_9, Z_10, Z_11, Z_12, Z_13, Z_14, Z_16, Z_19, Z_20, Z_21, Z_22, Z_23, Z_27, Y_3, Y_4, Y_6, Y_7, Y_8, Y_9, Y_10, Y_11, Y_12, Y_13, Y_14, Y_16, Y_19, Y_20, Y_21, Y_22, Y_23, Y_27, A_g, A_s, up_at, up_ne, up_off, Va_s]
      by_cases c2 : bestA N V (i / 7) (i % 7) = -1
      · rw [if_pos c2]
        exact nx 999999 (by rw [et, if_pos c2]; rfl)
      · rw [if_neg c2]
        obtain ⟨b1, b2, b3⟩ := bestA_in c2
        simp (disch := omega) only [n_69, n_50, n_13, Option.bind_some, bd2_some, bdX_ok, bdX_er, nm_eq, n_0, n_1, n_2, n_3, n_4, n_5, n_6, n_7, n_8, n_9, n_10, n_11, n_12, n_14, n_15, n_16, n_17, n_18, n_19, n_20, n_21, n_24, n_27, n_28, n_32, n_43, n_45, n_48, n_56, n_57, n_59, n_64, n_70, n_97, n_99, n_100, n_104, n_118, n_122, n_126, n_127, n_128, n_129, n_130, n_150, n_255, n_600, n_1000, n_1050, n_1200, n_999999, n_1000000, iI_neg, iI_add, iI_sub, iI_mul, ile, ilt, ieq, Z_has, Z_0, Z_1, Z_2, Z_5, Z_15, Z_17, Z_18, Z_24, Z_25, Z_26, Z_3, Z_4, Z_6, Z_7, Z_8, Z_9, Z_10, Z_11, Z_12, Z_13, Z_14, Z_16, Z_19, Z_20, Z_21, Z_22, Z_23, Z_27, Y_3, Y_4, Y_6, Y_7, Y_8, Y_9, Y_10, Y_11, Y_12, Y_13, Y_14, Y_16, Y_19, Y_20, Y_21, Y_22, Y_23, Y_27, A_g, A_s, up_at, up_ne, up_off, Va_s, gameOf_eq (w := w) (fu := fu) isV_292 hN hV ht hB ⟨b1, b2⟩ hl]
        exact nx _ (by rw [et, if_neg c2])
theorem play_all (hfu : 1000 ≤ fu) : ∀ (d n j : Nat) (m : Mm), rNet (m 284) N → j + d = 64 → d < n → vRow (m 291) N (GV N j) → ∃ m', f_X11_plays_41 fu n 283 (iI (j : Int)) (mem w m) = some ((), mem w m') ∧ (∀ q, q ≠ 291 → q ≠ 292 → m' q = m q) ∧ vRow (m' 291) N (GV N 64) := by
  intro d
  induction d with
  | zero =>
    intro n j m hN hj hn hv
    obtain ⟨n, rfl⟩ : ∃ k, n = k + 1 := ⟨n - 1, by omega⟩
    rw [f_X11_plays_41, f_X11_plays_41b]
    simp (disch := omega) only [n_69, n_50, n_13, Option.bind_some, bd2_some, bdX_ok, bdX_er, nm_eq, n_0, n_1, n_2, n_3, n_4, n_5, n_6, n_7, n_8, n_9, n_10, n_11, n_12, n_14, n_15, n_16, n_17, n_18, n_19, n_20, n_21, n_24, n_27, n_28, n_32, n_43, n_45, n_48, n_56, n_57, n_59, n_64, n_70, n_97, n_99, n_100, n_104, n_118, n_122, n_126, n_127, n_128, n_129, n_130, n_150, n_255, n_600, n_1000, n_1050, n_1200, n_999999, n_1000000, iI_neg, iI_add, iI_sub, iI_mul, ile, ilt, ieq]
    rw [if_pos (by omega)]
    have : j = 64 := by omega
    subst this
    exact ⟨m, rfl, fun _ _ _ => rfl, hv⟩
  | succ d ih =>
    intro n j m hN hj hn hv
    have hw := hN.1.1
    obtain ⟨n, rfl⟩ : ∃ k, n = k + 1 := ⟨n - 1, by omega⟩
    rw [f_X11_plays_41, f_X11_plays_41b]
    simp (disch := omega) only [n_69, n_50, n_13, Option.bind_some, bd2_some, bdX_ok, bdX_er, nm_eq, n_0, n_1, n_2, n_3, n_4, n_5, n_6, n_7, n_8, n_9, n_10, n_11, n_12, n_14, n_15, n_16, n_17, n_18, n_19, n_20, n_21, n_24, n_27, n_28, n_32, n_43, n_45, n_48, n_56, n_57, n_59, n_64, n_70, n_97, n_99, n_100, n_104, n_118, n_122, n_126, n_127, n_128, n_129, n_130, n_150, n_255, n_600, n_1000, n_1050, n_1200, n_999999, n_1000000, iI_neg, iI_add, iI_sub, iI_mul, ile, ilt, ieq]
    rw [if_neg (by omega)]
    obtain ⟨m1, p1, p2, p3⟩ := play_copy (w := w) (fu := fu) (a1 := iI (j : Int)) (k73 := fun x1 x2 M3 => f_X11_plays_73 fu x1 x2 M3 (fun a0 a1 M => f_X11_plays_41 fu n a0 a1 M)) 56 fu m 0 (by omega) (by omega) (by omega)
    rw [p1]
    have hVT : ∀ l, GV N j (nT N) l = 0 := fun l => by
      cases j with
      | zero => show (if nT N = nT N then (0 : Int) else -1) = 0; rw [if_pos rfl]
      | succ j => show TV N (GV N j) (nT N) l = 0; unfold TV; rw [if_pos rfl]
    obtain ⟨m2, q1, q2, q3⟩ := play_round (w := w) (fu := fu) (N := N) (V := GV N j) (t := 198 * (j : Int)) (a1 := iI (j : Int)) (k156 := fun x1 x2 M3 => f_X11_plays_156 fu x1 x2 M3 (fun a0 a1 M => f_X11_plays_41 fu n a0 a1 M)) (by omega) (GV_ok hN.1 j (by omega)) (by omega) hVT (7 * nN N).toNat fu m1 0 (by rw [p2 284 (by decide)]; exact hN) (fun k a b => by rw [p3 k, if_pos (by omega)]; exact hv k a b) (by omega) (by omega) (by omega) (fun k a b => by omega) (fun k a b => by rw [p2 291 (by decide)]; exact hv k a b)
    unfold f_X11_plays_73
    simp (disch := omega) only [n_69, n_50, n_13, Option.bind_some, bd2_some, bdX_ok, bdX_er, nm_eq, n_0, n_1, n_2, n_3, n_4, n_5, n_6, n_7, n_8, n_9, n_10, n_11, n_12, n_14, n_15, n_16, n_17, n_18, n_19, n_20, n_21, n_24, n_27, n_28, n_32, n_43, n_45, n_48, n_56, n_57, n_59, n_64, n_70, n_97, n_99, n_100, n_104, n_118, n_122, n_126, n_127, n_128, n_129, n_130, n_150, n_255, n_600, n_1000, n_1050, n_1200, n_999999, n_1000000, iI_neg, iI_add, iI_sub, iI_mul, ile, ilt, ieq]
    rw [q1]
    unfold f_X11_plays_156
    simp (disch := omega) only [n_69, n_50, n_13, Option.bind_some, bd2_some, bdX_ok, bdX_er, nm_eq, n_0, n_1, n_2, n_3, n_4, n_5, n_6, n_7, n_8, n_9, n_10, n_11, n_12, n_14, n_15, n_16, n_17, n_18, n_19, n_20, n_21, n_24, n_27, n_28, n_32, n_43, n_45, n_48, n_56, n_57, n_59, n_64, n_70, n_97, n_99, n_100, n_104, n_118, n_122, n_126, n_127, n_128, n_129, n_130, n_150, n_255, n_600, n_1000, n_1050, n_1200, n_999999, n_1000000, iI_neg, iI_add, iI_sub, iI_mul, ile, ilt, ieq]
    obtain ⟨m3, r1, r2, r3⟩ := ih n (j + 1) m2 (by rw [q2 284 (by decide), p2 284 (by decide)]; exact hN) (by omega) (by omega) q3
    rw [show ((j + 1 : Nat) : Int) = (j : Int) + 1 by omega] at r1
    exact ⟨m3, r1, fun q a b => by rw [r2 q a b, q2 q a, p2 q b], r3⟩
theorem plays_eq (hfu : 1000 ≤ fu) (hN : rNet (m 284) N) : ∃ m', f_X11_plays fu 283 (mem w m) = some ((), mem w m') ∧ qS m m' ∧ m' 283 = m 283 ∧ vRow (m' 291) N (GV N 64) := by
  have hw := hN.1.1
  obtain ⟨m1, p1, p2, p3⟩ := play_init (w := w) (fu := fu) (k39 := fun x1 M2 => f_X11_plays_39 fu x1 M2) 56 fu m 0 hN (by omega) (by omega) (by omega) (fun k a b => by omega)
  have hN1 : rNet (m1 284) N := by rw [p2 284 (by decide)]; exact hN
  obtain ⟨m2, q1, q2, q3⟩ := play_all (w := w) (fu := fu) hfu 64 fu 0 m1 hN1 (by omega) (by omega) (fun k a b => p3 k a (by omega))
  rw [show ((0 : Nat) : Int) = 0 from rfl] at q1
  unfold f_X11_plays
  simp (disch := omega) only [n_69, n_50, n_13, Option.bind_some, bd2_some, bdX_ok, bdX_er, nm_eq, n_0, n_1, n_2, n_3, n_4, n_5, n_6, n_7, n_8, n_9, n_10, n_11, n_12, n_14, n_15, n_16, n_17, n_18, n_19, n_20, n_21, n_24, n_27, n_28, n_32, n_43, n_45, n_48, n_56, n_57, n_59, n_64, n_70, n_97, n_99, n_100, n_104, n_118, n_122, n_126, n_127, n_128, n_129, n_130, n_150, n_255, n_600, n_1000, n_1050, n_1200, n_999999, n_1000000, iI_neg, iI_add, iI_sub, iI_mul, ile, ilt, ieq]
  rw [p1]
  unfold f_X11_plays_39
  simp (disch := omega) only [n_69, n_50, n_13, Option.bind_some, bd2_some, bdX_ok, bdX_er, nm_eq, n_0, n_1, n_2, n_3, n_4, n_5, n_6, n_7, n_8, n_9, n_10, n_11, n_12, n_14, n_15, n_16, n_17, n_18, n_19, n_20, n_21, n_24, n_27, n_28, n_32, n_43, n_45, n_48, n_56, n_57, n_59, n_64, n_70, n_97, n_99, n_100, n_104, n_118, n_122, n_126, n_127, n_128, n_129, n_130, n_150, n_255, n_600, n_1000, n_1050, n_1200, n_999999, n_1000000, iI_neg, iI_add, iI_sub, iI_mul, ile, ilt, ieq]
  have fr : ∀ q, q ≠ 291 → q ≠ 292 → m2 q = m q := fun q a b => by rw [q2 q a b, p2 q a]
  exact ⟨m2, q1, ⟨fun p hp => fr p (by omega) (by omega), fr _ (by decide) (by decide), fr _ (by decide) (by decide), fr _ (by decide) (by decide), fr _ (by decide) (by decide), by rw [fr 283 (by decide) (by decide)], by rw [fr 283 (by decide) (by decide)], by rw [fr 283 (by decide) (by decide)], by rw [fr 283 (by decide) (by decide)]⟩, fr _ (by decide) (by decide), q3⟩
theorem valueOf_eq {left : Int} (hr : vRow (m 291) N (GV N 64)) (hW : WFN N) (hv : 0 ≤ v ∧ v < nN N) (hl : 0 ≤ left ∧ left ≤ 6) : f_X11_valueOf fu 283 (iI v) (iI left) (mem w m) = some (iI (GV N 64 v left), mem w m) := by
  have hw := hW.1
  have hb := GV_ok hW 64 (by omega) v left hv.1 hv.2 hl.1 hl.2
  have g1 := hr.at hv.1 hv.2 hl.1 hl.2
  have f1 := fv_r hb.1 hb.2.1 (by omega)
  unfold f_X11_valueOf
  simp (disch := omega) only [n_69, n_50, n_13, Option.bind_some, bd2_some, bdX_ok, bdX_er, nm_eq, n_0, n_1, n_2, n_3, n_4, n_5, n_6, n_7, n_8, n_9, n_10, n_11, n_12, n_14, n_15, n_16, n_17, n_18, n_19, n_20, n_21, n_24, n_27, n_28, n_32, n_43, n_45, n_48, n_56, n_57, n_59, n_64, n_70, n_97, n_99, n_100, n_104, n_118, n_122, n_126, n_127, n_128, n_129, n_130, n_150, n_255, n_600, n_1000, n_1050, n_1200, n_999999, n_1000000, iI_neg, iI_add, iI_sub, iI_mul, ile, ilt, ieq, Z_has, Z_0, Z_1, Z_2, Z_5, Z_15, Z_17, Z_18, Z_24, Z_25, Z_26, Z_3, Z_4, Z_6, Z_7, Z_8, Z_9, Z_10, Z_11, Z_12, Z_13, Z_14, Z_16, Z_19, Z_20, Z_21, Z_22, Z_23, Z_27, Y_3, Y_4, Y_6, Y_7, Y_8, Y_9, Y_10, Y_11, Y_12, Y_13, Y_14, Y_16, Y_19, Y_20, Y_21, Y_22, Y_23, Y_27, A_g, A_s, up_at, up_ne, up_off, Va_g, g1, n_m1]
  by_cases c : GV N 64 v left = -1
  · rw [if_neg (by omega), c]
  · rw [if_pos (by omega), f1.2.2.2 c]
theorem valueR_eq (hfu : 1000 ≤ fu) (h : RI m x H) (hv : i32 v) (ha : i32 a) : RQ w m (f_X11_value fu 283 (iI v) (iI a) (mem w m)) (qValue x v a).1 (qValue x v a).2 x H := by
  have hN := h.1.1
  have hw := hN.1.1
  have v1 := hv
  have v2 := ha
  unfold i32 at v1 v2
  have key : ∀ k : Int, 0 < k → k < 4 → RQ w m (f_X11_value_28 fu 283 (iI v) (iI a) 283 (iI k) (mem w m)) k 0 x H := fun k k0 k1 => by
    unfold f_X11_value_28
    simp (disch := omega) only [n_69, n_50, n_13, Option.bind_some, bd2_some, bdX_ok, bdX_er, nm_eq, n_0, n_1, n_2, n_3, n_4, n_5, n_6, n_7, n_8, n_9, n_10, n_11, n_12, n_14, n_15, n_16, n_17, n_18, n_19, n_20, n_21, n_24, n_27, n_28, n_32, n_43, n_45, n_48, n_56, n_57, n_59, n_64, n_70, n_97, n_99, n_100, n_104, n_118, n_122, n_126, n_127, n_128, n_129, n_130, n_150, n_255, n_600, n_1000, n_1050, n_1200, n_999999, n_1000000, iI_neg, iI_add, iI_sub, iI_mul, ile, ilt, ieq, Z_has, Z_0, Z_1, Z_2, Z_5, Z_15, Z_17, Z_18, Z_24, Z_25, Z_26, Z_3, Z_4, Z_6, Z_7, Z_8, Z_9, Z_10, Z_11, Z_12, Z_13, Z_14, Z_16, Z_19, Z_20, Z_21, Z_22, Z_23, Z_27, Y_3, Y_4, Y_6, Y_7, Y_8, Y_9, Y_10, Y_11, Y_12, Y_13, Y_14, Y_16, Y_19, Y_20, Y_21, Y_22, Y_23, Y_27, A_g, A_s, up_at, up_ne, up_off]
    rw [if_neg (by omega)]
    exact RQ_nq h (by omega)
  unfold f_X11_value qValue
  simp (disch := omega) only [n_69, n_50, n_13, Option.bind_some, bd2_some, bdX_ok, bdX_er, nm_eq, n_0, n_1, n_2, n_3, n_4, n_5, n_6, n_7, n_8, n_9, n_10, n_11, n_12, n_14, n_15, n_16, n_17, n_18, n_19, n_20, n_21, n_24, n_27, n_28, n_32, n_43, n_45, n_48, n_56, n_57, n_59, n_64, n_70, n_97, n_99, n_100, n_104, n_118, n_122, n_126, n_127, n_128, n_129, n_130, n_150, n_255, n_600, n_1000, n_1050, n_1200, n_999999, n_1000000, iI_neg, iI_add, iI_sub, iI_mul, ile, ilt, ieq, Z_has, Z_0, Z_1, Z_2, Z_5, Z_15, Z_17, Z_18, Z_24, Z_25, Z_26, Z_3, Z_4, Z_6, Z_7, Z_8, Z_9, Z_10, Z_11, Z_12, Z_13, Z_14, Z_16, Z_19, Z_20, Z_21, Z_22, Z_23, Z_27, Y_3, Y_4, Y_6, Y_7, Y_8, Y_9, Y_10, Y_11, Y_12, Y_13, Y_14, Y_16, Y_19, Y_20, Y_21, Y_22, Y_23, Y_27, A_g, A_s, up_at, up_ne, up_off, isNodeR_eq hN hv, isInR_eq ha (show i32 0 by unfold i32; omega) (show i32 6 by unfold i32; omega)]
  by_cases c1 : 0 ≤ v ∧ v < nN (sN x)
  · rw [show inB v 0 (nN (sN x) - 1) = 1 from if_pos (by omega), if_neg (by first | exact not_false | omega | decide), if_neg (not_not_intro c1)]
    by_cases c2 : 0 ≤ a ∧ a ≤ 6
    · rw [show inB a 0 6 = 1 from if_pos c2, if_neg (by first | exact not_false | omega | decide), if_neg (not_not_intro c2)]
      obtain ⟨m1, p1, p2, p3, p4⟩ := plays_eq (w := w) hfu (h.thr (k := 0)).1.1
      unfold f_X11_value_28
      simp (disch := omega) only [n_69, n_50, n_13, Option.bind_some, bd2_some, bdX_ok, bdX_er, nm_eq, n_0, n_1, n_2, n_3, n_4, n_5, n_6, n_7, n_8, n_9, n_10, n_11, n_12, n_14, n_15, n_16, n_17, n_18, n_19, n_20, n_21, n_24, n_27, n_28, n_32, n_43, n_45, n_48, n_56, n_57, n_59, n_64, n_70, n_97, n_99, n_100, n_104, n_118, n_122, n_126, n_127, n_128, n_129, n_130, n_150, n_255, n_600, n_1000, n_1050, n_1200, n_999999, n_1000000, iI_neg, iI_add, iI_sub, iI_mul, ile, ilt, ieq, Z_has, Z_0, Z_1, Z_2, Z_5, Z_15, Z_17, Z_18, Z_24, Z_25, Z_26, Z_3, Z_4, Z_6, Z_7, Z_8, Z_9, Z_10, Z_11, Z_12, Z_13, Z_14, Z_16, Z_19, Z_20, Z_21, Z_22, Z_23, Z_27, Y_3, Y_4, Y_6, Y_7, Y_8, Y_9, Y_10, Y_11, Y_12, Y_13, Y_14, Y_16, Y_19, Y_20, Y_21, Y_22, Y_23, Y_27, A_g, A_s, up_at, up_ne, up_off, p1, valueOf_eq p4 hN.1 c1 c2]
      rw [if_pos (by first | exact trivial | omega | decide)]
      have hq := (qS_f (m := m) (v := 0) (k := 4) (by omega)).trans p2
      exact ⟨m1, _, rfl, by rw [p3, up_at], fun _ => rfl, hq.cS, h.q hq⟩
    · rw [show inB a 0 6 = 0 from if_neg c2, if_pos (by first | exact trivial | omega | decide), if_pos c2]
      exact key 2 (by omega) (by omega)
  · rw [show inB v 0 (nN (sN x) - 1) = 0 from if_neg (by omega), if_pos (by first | exact trivial | omega | decide), if_pos c1]
    exact key 1 (by omega) (by omega)
theorem bestA_T {left : Int} : bestA N V (nT N) left = -1 := by
  unfold bestA
  have : ∀ (as : List Int) (s : Int), bA N V (nT N) left as (-1) s = -1 := fun as s => by
    cases as with
    | nil => rfl
    | cons a as => rw [bA, if_pos rfl]
  exact this _ _
theorem bestNextR_eq (hfu : 1000 ≤ fu) (h : RI m x H) (hv : i32 v) (ha : i32 a) : RQ w m (f_X11_bestNext fu 283 (iI v) (iI a) (mem w m)) (qNext x v a).1 (qNext x v a).2 x H := by
  have hN := h.1.1
  have hw := hN.1.1
  have v1 := hv
  have v2 := ha
  unfold i32 at v1 v2
  have key : ∀ k : Int, 0 < k → k < 4 → RQ w m (f_X11_bestNext_28 fu 283 (iI v) (iI a) 283 (iI k) (mem w m)) k 0 x H := fun k k0 k1 => by
    unfold f_X11_bestNext_28
    simp (disch := omega) only [n_69, n_50, n_13, Option.bind_some, bd2_some, bdX_ok, bdX_er, nm_eq, n_0, n_1, n_2, n_3, n_4, n_5, n_6, n_7, n_8, n_9, n_10, n_11, n_12, n_14, n_15, n_16, n_17, n_18, n_19, n_20, n_21, n_24, n_27, n_28, n_32, n_43, n_45, n_48, n_56, n_57, n_59, n_64, n_70, n_97, n_99, n_100, n_104, n_118, n_122, n_126, n_127, n_128, n_129, n_130, n_150, n_255, n_600, n_1000, n_1050, n_1200, n_999999, n_1000000, iI_neg, iI_add, iI_sub, iI_mul, ile, ilt, ieq, Z_has, Z_0, Z_1, Z_2, Z_5, Z_15, Z_17, Z_18, Z_24, Z_25, Z_26, Z_3, Z_4, Z_6, Z_7, Z_8, Z_9, Z_10, Z_11, Z_12, Z_13, Z_14, Z_16, Z_19, Z_20, Z_21, Z_22, Z_23, Z_27, Y_3, Y_4, Y_6, Y_7, Y_8, Y_9, Y_10, Y_11, Y_12, Y_13, Y_14, Y_16, Y_19, Y_20, Y_21, Y_22, Y_23, Y_27, A_g, A_s, up_at, up_ne, up_off]
    rw [if_neg (by omega)]
    exact RQ_nq h (by omega)
  unfold f_X11_bestNext qNext
  simp (disch := omega) only [n_69, n_50, n_13, Option.bind_some, bd2_some, bdX_ok, bdX_er, nm_eq, n_0, n_1, n_2, n_3, n_4, n_5, n_6, n_7, n_8, n_9, n_10, n_11, n_12, n_14, n_15, n_16, n_17, n_18, n_19, n_20, n_21, n_24, n_27, n_28, n_32, n_43, n_45, n_48, n_56, n_57, n_59, n_64, n_70, n_97, n_99, n_100, n_104, n_118, n_122, n_126, n_127, n_128, n_129, n_130, n_150, n_255, n_600, n_1000, n_1050, n_1200, n_999999, n_1000000, iI_neg, iI_add, iI_sub, iI_mul, ile, ilt, ieq, Z_has, Z_0, Z_1, Z_2, Z_5, Z_15, Z_17, Z_18, Z_24, Z_25, Z_26, Z_3, Z_4, Z_6, Z_7, Z_8, Z_9, Z_10, Z_11, Z_12, Z_13, Z_14, Z_16, Z_19, Z_20, Z_21, Z_22, Z_23, Z_27, Y_3, Y_4, Y_6, Y_7, Y_8, Y_9, Y_10, Y_11, Y_12, Y_13, Y_14, Y_16, Y_19, Y_20, Y_21, Y_22, Y_23, Y_27, A_g, A_s, up_at, up_ne, up_off, isNodeR_eq hN hv, isInR_eq ha (show i32 0 by unfold i32; omega) (show i32 6 by unfold i32; omega)]
  by_cases c1 : 0 ≤ v ∧ v < nN (sN x)
  · rw [show inB v 0 (nN (sN x) - 1) = 1 from if_pos (by omega), if_neg (by first | exact not_false | omega | decide), if_neg (not_not_intro c1)]
    by_cases c2 : 0 ≤ a ∧ a ≤ 6
    · rw [show inB a 0 6 = 1 from if_pos c2, if_neg (by first | exact not_false | omega | decide), if_neg (not_not_intro c2)]
      obtain ⟨m1, p1, p2, p3, p4⟩ := plays_eq (w := w) hfu (h.thr (k := 0)).1.1
      have hN1 : rNet (m1 284) (sN x) := by rw [p2.2.1]; exact (h.thr (k := 0)).1.1
      have hq := (qS_f (m := m) (v := 0) (k := 4) (by omega)).trans p2
      unfold f_X11_bestNext_28
      simp (disch := omega) only [n_69, n_50, n_13, Option.bind_some, bd2_some, bdX_ok, bdX_er, nm_eq, n_0, n_1, n_2, n_3, n_4, n_5, n_6, n_7, n_8, n_9, n_10, n_11, n_12, n_14, n_15, n_16, n_17, n_18, n_19, n_20, n_21, n_24, n_27, n_28, n_32, n_43, n_45, n_48, n_56, n_57, n_59, n_64, n_70, n_97, n_99, n_100, n_104, n_118, n_122, n_126, n_127, n_128, n_129, n_130, n_150, n_255, n_600, n_1000, n_1050, n_1200, n_999999, n_1000000, iI_neg, iI_add, iI_sub, iI_mul, ile, ilt, ieq, Z_has, Z_0, Z_1, Z_2, Z_5, Z_15, Z_17, Z_18, Z_24, Z_25, Z_26, Z_3, Z_4, Z_6, Z_7, Z_8, Z_9, Z_10, Z_11, Z_12, Z_13, Z_14, Z_16, Z_19, Z_20, Z_21, Z_22, Z_23, Z_27, Y_3, Y_4, Y_6, Y_7, Y_8, Y_9, Y_10, Y_11, Y_12, Y_13, Y_14, Y_16, Y_19, Y_20, Y_21, Y_22, Y_23, Y_27, A_g, A_s, up_at, up_ne, up_off, p1, hN1.2.1.2.2.1, n_m1]
      rw [if_pos (by first | exact trivial | omega | decide)]
      by_cases c3 : v = nT (sN x)
      · rw [if_pos c3]
        exact ⟨m1, _, rfl, by rw [p3, up_at], fun _ => by rw [c3, bestA_T], hq.cS, h.q hq⟩
      · rw [if_neg c3, bestBy_eq (w := w) (by omega) isV_291 hN1 (GV_ok hN.1 64 (by omega)) (by omega) p4 c2 c1 c3, bd2_some]
        exact ⟨m1, _, rfl, by rw [p3, up_at], fun _ => rfl, hq.cS, h.q hq⟩
    · rw [show inB a 0 6 = 0 from if_neg c2, if_pos (by first | exact trivial | omega | decide), if_pos c2]
      exact key 2 (by omega) (by omega)
  · rw [show inB v 0 (nN (sN x) - 1) = 0 from if_neg (by omega), if_pos (by first | exact trivial | omega | decide), if_pos c1]
    exact key 1 (by omega) (by omega)
/-- each step left the node where the journey was -/
def JT (x : Sg) : Prop := ∀ (j : Nat) (c : Int), (sJ x)[j]? = some c → aTl (sN x) (c % 100) = (jst (sN x) ((sJ x).take j)).1
theorem promiseR_eq (hfu : 1000 ≤ fu) (h : RI m x H) (hG : WG x) (hL : JL x) : RQ w m (f_X11_promise fu 283 (mem w m)) (qPromise x).1 (qPromise x).2 x H := by
  have hN := h.1.1
  have hw := hN.1.1
  obtain ⟨j1, j2, j3, j4, j5, j6⟩ := h.1.2.2.2
  have hr := jst_r hN.1 _ (sJ x) rfl hG.2.2.2
  have hl := hL (sJ x).length (Nat.le_refl _)
  rw [List.take_length] at hl
  obtain ⟨m1, p1, p2, p3, p4⟩ := plays_eq (w := w) hfu hN
  have e126 : m1 284 126 = (jst (sN x) (sJ x)).1 := by rw [p2.2.1, j1]
  have e127 : m1 284 127 = (jst (sN x) (sJ x)).2.1 := by rw [p2.2.1, j2]
  have e128 : m1 284 128 = (jst (sN x) (sJ x)).2.2 := by rw [p2.2.1, j3]
  have hb := GV_ok hN.1 64 (by omega) (jst (sN x) (sJ x)).1 (jst (sN x) (sJ x)).2.2 hr.1 hr.2.1 hl (by omega)
  unfold f_X11_promise f_X11_promise_33 qPromise prmN prm
  rw [List.take_length]
  simp (disch := omega) only [n_69, n_50, n_13, Option.bind_some, bd2_some, bdX_ok, bdX_er, nm_eq, n_0, n_1, n_2, n_3, n_4, n_5, n_6, n_7, n_8, n_9, n_10, n_11, n_12, n_14, n_15, n_16, n_17, n_18, n_19, n_20, n_21, n_24, n_27, n_28, n_32, n_43, n_45, n_48, n_56, n_57, n_59, n_64, n_70, n_97, n_99, n_100, n_104, n_118, n_122, n_126, n_127, n_128, n_129, n_130, n_150, n_255, n_600, n_1000, n_1050, n_1200, n_999999, n_1000000, iI_neg, iI_add, iI_sub, iI_mul, ile, ilt, ieq, Z_has, Z_0, Z_1, Z_2, Z_5, Z_15, Z_17, Z_18, Z_24, Z_25, Z_26, Z_3, Z_4, Z_6, Z_7, Z_8, Z_9, Z_10, Z_11, Z_12, Z_13, Z_14, Z_16, Z_19, Z_20, Z_21, Z_22, Z_23, Z_27, Y_3, Y_4, Y_6, Y_7, Y_8, Y_9, Y_10, Y_11, Y_12, Y_13, Y_14, Y_16, Y_19, Y_20, Y_21, Y_22, Y_23, Y_27, A_g, A_s, up_at, up_ne, up_off, p1, e126, e127, e128, valueOf_eq p4 hN.1 ⟨hr.1, hr.2.1⟩ (show 0 ≤ (jst (sN x) (sJ x)).2.2 ∧ (jst (sN x) (sJ x)).2.2 ≤ 6 by omega), n_m1]
  by_cases c : GV (sN x) 64 (jst (sN x) (sJ x)).1 (jst (sN x) (sJ x)).2.2 = -1
  · have hb1 : decide (GV (sN x) 64 (jst (sN x) (sJ x)).1 (jst (sN x) (sJ x)).2.2 = -1) = true := by simp [c]
    rw [if_pos c, hb1, if_pos (show (true = true) from rfl)]
    rw [if_neg (by first | exact not_false | omega | decide)]
    obtain ⟨m', r, g1, g2, g3, g4, g5⟩ := RQ_nq (w := w) (v := 0) (h.q p2) (k := 1) (by omega)
    exact ⟨m', r, g1, g2, g3, p2.cS.trans g4, g5⟩
  · have hb0 : decide (GV (sN x) 64 (jst (sN x) (sJ x)).1 (jst (sN x) (sJ x)).2.2 = -1) = false := by simp [c]
    rw [if_neg c, hb0, if_neg (show ¬ (false = true) by decide)]
    have p4' : vRow (up m1 283 4 0 291) (sN x) (GV (sN x) 64) := by rw [up_ne (by decide)]; exact p4
    simp (disch := omega) only [n_69, n_50, n_13, Option.bind_some, bd2_some, bdX_ok, bdX_er, nm_eq, n_0, n_1, n_2, n_3, n_4, n_5, n_6, n_7, n_8, n_9, n_10, n_11, n_12, n_14, n_15, n_16, n_17, n_18, n_19, n_20, n_21, n_24, n_27, n_28, n_32, n_43, n_45, n_48, n_56, n_57, n_59, n_64, n_70, n_97, n_99, n_100, n_104, n_118, n_122, n_126, n_127, n_128, n_129, n_130, n_150, n_255, n_600, n_1000, n_1050, n_1200, n_999999, n_1000000, iI_neg, iI_add, iI_sub, iI_mul, ile, ilt, ieq, Z_has, Z_0, Z_1, Z_2, Z_5, Z_15, Z_17, Z_18, Z_24, Z_25, Z_26, Z_3, Z_4, Z_6, Z_7, Z_8, Z_9, Z_10, Z_11, Z_12, Z_13, Z_14, Z_16, Z_19, Z_20, Z_21, Z_22, Z_23, Z_27, Y_3, Y_4, Y_6, Y_7, Y_8, Y_9, Y_10, Y_11, Y_12, Y_13, Y_14, Y_16, Y_19, Y_20, Y_21, Y_22, Y_23, Y_27, A_g, A_s, up_at, up_ne, up_off, e126, e127, e128, valueOf_eq p4' hN.1 ⟨hr.1, hr.2.1⟩ (show 0 ≤ (jst (sN x) (sJ x)).2.2 ∧ (jst (sN x) (sJ x)).2.2 ≤ 6 by omega)]
    rw [if_pos (by first | exact trivial | omega | decide)]
    have hq := p2.trans (qS_f (m := m1) (v := 0) (k := 4) (by omega))
    exact ⟨_, _, rfl, up_at, fun _ => rfl, hq.cS, h.q hq⟩
theorem leftAhead_go (hJ : rJrn (m 284) N l) (hS : SOK N l) (hB : 0 ≤ nB N ∧ nB N ≤ 6) {e : Nat} (he : e ≤ l.length) : ∀ (d n j : Nat), j + d = e → d < n → f_X11_leftAhead_9 fu n 283 (iI (e : Int)) (iI (jst N (l.take j)).2.2) (iI (j : Int)) (mem w m) = some (iI (jst N (l.take e)).2.2, mem w m) := by
  obtain ⟨j1, j2, j3, j4, j5, j6⟩ := hJ
  intro d
  induction d with
  | zero =>
    intro n j hj hn
    obtain ⟨n, rfl⟩ : ∃ k, n = k + 1 := ⟨n - 1, by omega⟩
    rw [f_X11_leftAhead_9, f_X11_leftAhead_9b]
    simp (disch := omega) only [n_69, n_50, n_13, Option.bind_some, bd2_some, bdX_ok, bdX_er, nm_eq, n_0, n_1, n_2, n_3, n_4, n_5, n_6, n_7, n_8, n_9, n_10, n_11, n_12, n_14, n_15, n_16, n_17, n_18, n_19, n_20, n_21, n_24, n_27, n_28, n_32, n_43, n_45, n_48, n_56, n_57, n_59, n_64, n_70, n_97, n_99, n_100, n_104, n_118, n_122, n_126, n_127, n_128, n_129, n_130, n_150, n_255, n_600, n_1000, n_1050, n_1200, n_999999, n_1000000, iI_neg, iI_add, iI_sub, iI_mul, ile, ilt, ieq]
    rw [if_pos (by omega)]
    rw [show j = e by omega]
  | succ d ih =>
    intro n j hj hn
    obtain ⟨n, rfl⟩ : ∃ k, n = k + 1 := ⟨n - 1, by omega⟩
    have hjl : j < l.length := by omega
    have hg := List.getElem?_eq_getElem hjl
    have hc := j6 j _ hg
    have hs := hS _ (List.getElem_mem hjl)
    have et : l.take (j + 1) = l.take j ++ [l[j]] := by rw [List.take_add_one, hg]; rfl
    rw [f_X11_leftAhead_9, f_X11_leftAhead_9b]
    unfold f_X11_leftAhead_35
    simp (disch := omega) only [n_69, n_50, n_13, Option.bind_some, bd2_some, bdX_ok, bdX_er, nm_eq, n_0, n_1, n_2, n_3, n_4, n_5, n_6, n_7, n_8, n_9, n_10, n_11, n_12, n_14, n_15, n_16, n_17, n_18, n_19, n_20, n_21, n_24, n_27, n_28, n_32, n_43, n_45, n_48, n_56, n_57, n_59, n_64, n_70, n_97, n_99, n_100, n_104, n_118, n_122, n_126, n_127, n_128, n_129, n_130, n_150, n_255, n_600, n_1000, n_1050, n_1200, n_999999, n_1000000, iI_neg, iI_add, iI_sub, iI_mul, ile, ilt, ieq, Z_has, Z_0, Z_1, Z_2, Z_5, Z_15, Z_17, Z_18, Z_24, Z_25, Z_26, Z_3, Z_4, Z_6, Z_7, Z_8, Z_9, Z_10, Z_11, Z_12, Z_13, Z_14, Z_16, Z_19, Z_20, Z_21, Z_22, Z_23, Z_27, Y_3, Y_4, Y_6, Y_7, Y_8, Y_9, Y_10, Y_11, Y_12, Y_13, Y_14, Y_16, Y_19, Y_20, Y_21, Y_22, Y_23, Y_27, A_g, A_s, up_at, up_ne, up_off, hc]
    rw [if_neg (by omega)]
    have := ih n (j + 1) (by omega) (by omega)
    rw [et, jst_snoc] at this
    unfold jst1 at this
    simp only [] at this
    rw [show ((j + 1 : Nat) : Int) = (j : Int) + 1 by omega] at this
    by_cases q : l[j] < 100
    · rw [if_pos q]
      rw [if_neg (show ¬ 100 ≤ l[j] by omega)] at this
      exact this
    · rw [if_neg q]
      rw [if_pos (show 100 ≤ l[j] by omega)] at this
      exact this
theorem leftAhead_eq (hfu : 100 ≤ fu) (hN : rNet (m 284) N) (hJ : rJrn (m 284) N l) (hS : SOK N l) {e : Nat} (he : e ≤ l.length) : f_X11_leftAhead fu 283 (iI (e : Int)) (mem w m) = some (iI (jst N (l.take e)).2.2, mem w m) := by
  have hw := hN.1.1
  have h20 := hJ.2.2.2.2.1
  have := leftAhead_go (w := w) (fu := fu) hJ hS (by omega) he e fu 0 (by omega) (by omega)
  unfold f_X11_leftAhead
  simp (disch := omega) only [n_69, n_50, n_13, Option.bind_some, bd2_some, bdX_ok, bdX_er, nm_eq, n_0, n_1, n_2, n_3, n_4, n_5, n_6, n_7, n_8, n_9, n_10, n_11, n_12, n_14, n_15, n_16, n_17, n_18, n_19, n_20, n_21, n_24, n_27, n_28, n_32, n_43, n_45, n_48, n_56, n_57, n_59, n_64, n_70, n_97, n_99, n_100, n_104, n_118, n_122, n_126, n_127, n_128, n_129, n_130, n_150, n_255, n_600, n_1000, n_1050, n_1200, n_999999, n_1000000, iI_neg, iI_add, iI_sub, iI_mul, ile, ilt, ieq, Z_has, Z_0, Z_1, Z_2, Z_5, Z_15, Z_17, Z_18, Z_24, Z_25, Z_26, Z_3, Z_4, Z_6, Z_7, Z_8, Z_9, Z_10, Z_11, Z_12, Z_13, Z_14, Z_16, Z_19, Z_20, Z_21, Z_22, Z_23, Z_27, Y_3, Y_4, Y_6, Y_7, Y_8, Y_9, Y_10, Y_11, Y_12, Y_13, Y_14, Y_16, Y_19, Y_20, Y_21, Y_22, Y_23, Y_27, A_g, A_s, up_at, up_ne, up_off, hN.2.1.2.2.2.1]
  exact this
theorem griefR_eq (hfu : 1000 ≤ fu) (h : RI m x H) (hG : WG x) (hL : JL x) (hJT : JT x) (hv : i32 v) : RQ w m (f_X11_grief fu 283 (iI v) (mem w m)) (qGrief x v).1 (qGrief x v).2 x H := by
  have hN := h.1.1
  have hw := hN.1.1
  obtain ⟨j1, j2, j3, j4, j5, j6⟩ := h.1.2.2.2
  have v1 := hv
  unfold i32 at v1
  unfold f_X11_grief qGrief
  simp (disch := omega) only [n_69, n_50, n_13, Option.bind_some, bd2_some, bdX_ok, bdX_er, nm_eq, n_0, n_1, n_2, n_3, n_4, n_5, n_6, n_7, n_8, n_9, n_10, n_11, n_12, n_14, n_15, n_16, n_17, n_18, n_19, n_20, n_21, n_24, n_27, n_28, n_32, n_43, n_45, n_48, n_56, n_57, n_59, n_64, n_70, n_97, n_99, n_100, n_104, n_118, n_122, n_126, n_127, n_128, n_129, n_130, n_150, n_255, n_600, n_1000, n_1050, n_1200, n_999999, n_1000000, iI_neg, iI_add, iI_sub, iI_mul, ile, ilt, ieq, Z_has, Z_0, Z_1, Z_2, Z_5, Z_15, Z_17, Z_18, Z_24, Z_25, Z_26, Z_3, Z_4, Z_6, Z_7, Z_8, Z_9, Z_10, Z_11, Z_12, Z_13, Z_14, Z_16, Z_19, Z_20, Z_21, Z_22, Z_23, Z_27, Y_3, Y_4, Y_6, Y_7, Y_8, Y_9, Y_10, Y_11, Y_12, Y_13, Y_14, Y_16, Y_19, Y_20, Y_21, Y_22, Y_23, Y_27, A_g, A_s, up_at, up_ne, up_off, j4, isInR_eq hv (show i32 0 by unfold i32; omega) (show i32 (((sJ x).length : Int) - 1) by unfold i32; omega)]
  by_cases c1 : 0 ≤ v ∧ v < (sJ x).length
  · rw [show inB v 0 (((sJ x).length : Int) - 1) = 1 from if_pos (by omega), if_neg (by first | exact not_false | omega | decide), if_neg (not_not_intro c1)]
    obtain ⟨m1, p1, p2, p3, p4⟩ := plays_eq (w := w) hfu (h.thr (k := 0)).1.1
    have hx1 : rRep (m1 284) x := by rw [p2.2.1]; exact (h.thr (k := 0)).1
    have hN1 := hx1.1
    have hJ1 := hx1.2.2.2
    have hjl : v.toNat < (sJ x).length := by omega
    have hg := List.getElem?_eq_getElem hjl
    have hs := hG.2.2.2 _ (List.getElem_mem hjl)
    have ht := hJT v.toNat _ hg
    have e130 : m1 284 (130 + v) = (sJ x)[v.toNat] := by
      have := hJ1.2.2.2.2.2 v.toNat _ hg
      rw [show ((v.toNat : Nat) : Int) = v by omega] at this
      exact this
    have ha : 0 ≤ (sJ x)[v.toNat] % 100 ∧ (sJ x)[v.toNat] % 100 < nA (sN x) := by omega
    have hA := hN.1.arc ha.1 ha.2
    have et : (sJ x).take (v.toNat + 1) = (sJ x).take v.toNat ++ [(sJ x)[v.toNat]] := by rw [List.take_add_one, hg]; rfl
    have r1 := jst_r hN.1 _ ((sJ x).take v.toNat) rfl (SOK_take hG.2.2.2 _)
    have r2 := jst_r hN.1 _ ((sJ x).take (v.toNat + 1)) rfl (SOK_take hG.2.2.2 _)
    have l1 := hL v.toNat (by omega)
    have l2 := hL (v.toNat + 1) (by omega)
    have la1 := leftAhead_eq (w := w) (fu := fu) (show 100 ≤ fu by omega) hN1 hJ1 hG.2.2.2 (e := v.toNat) (by omega)
    have la2 := leftAhead_eq (w := w) (fu := fu) (show 100 ≤ fu by omega) hN1 hJ1 hG.2.2.2 (e := v.toNat + 1) (by omega)
    rw [show ((v.toNat : Nat) : Int) = v by omega] at la1
    rw [show ((v.toNat + 1 : Nat) : Int) = v + 1 by omega] at la2
    have hh : aHd (sN x) ((sJ x)[v.toNat] % 100) = (jst (sN x) ((sJ x).take (v.toNat + 1))).1 := by rw [et, jst_snoc]; rfl
    have vo1 := valueOf_eq (w := w) (m := m1) (fu := fu) p4 hN.1 (v := (jst (sN x) ((sJ x).take v.toNat)).1) (left := (jst (sN x) ((sJ x).take v.toNat)).2.2) ⟨r1.1, r1.2.1⟩ (by omega)
    have vo2 := valueOf_eq (w := w) (m := m1) (fu := fu) p4 hN.1 (v := (jst (sN x) ((sJ x).take (v.toNat + 1))).1) (left := (jst (sN x) ((sJ x).take (v.toNat + 1))).2.2) ⟨r2.1, r2.2.1⟩ (by omega)
    have b1 := GV_ok hN.1 64 (by omega) (jst (sN x) ((sJ x).take v.toNat)).1 (jst (sN x) ((sJ x).take v.toNat)).2.2 r1.1 r1.2.1 l1 (by omega)
    have b2' := GV_ok hN.1 64 (by omega) (jst (sN x) ((sJ x).take (v.toNat + 1))).1 (jst (sN x) ((sJ x).take (v.toNat + 1))).2.2 r2.1 r2.2.1 l2 (by omega)
    have em : (sJ x)[v.toNat] - (sJ x)[v.toNat] / 100 * 100 = (sJ x)[v.toNat] % 100 := by omega
    have hq := (qS_f (m := m) (v := 0) (k := 4) (by omega)).trans p2
    have no : RQ w m (some (iI 0, mem w (up m1 283 4 2))) 2 0 x H := by
      obtain ⟨m', r, g1, g2, g3, g4, g5⟩ := RQ_nq (w := w) (v := 0) (h.q hq) (k := 2) (by omega)
      exact ⟨m', r, g1, g2, g3, hq.cS.trans g4, g5⟩
    have key : ∀ del : Int, (del = 0 ∨ del = 1) → (del = 1 ↔ 100 ≤ (sJ x)[v.toNat]) → RQ w m (f_X11_grief_74 fu 283 (iI v) (iI ((sJ x)[v.toNat] % 100)) (iI del) (mem w m1)) (if (prmN x v.toNat || prmN x (v.toNat + 1)) = true then ((2, 0) : Int × Int) else (0, prm x (v.toNat + 1) - prm x v.toNat)).1 (if (prmN x v.toNat || prmN x (v.toNat + 1)) = true then ((2, 0) : Int × Int) else (0, prm x (v.toNat + 1) - prm x v.toNat)).2 x H := by
      intro del hd1 hd2
      have hN1t : rNet (up m1 283 4 0 284) (sN x) := by rw [up_ne (by decide)]; exact hN1
      unfold f_X11_grief_74 f_X11_grief_124 f_X11_grief_129 f_X11_grief_163
      simp (maxSteps := 3000000) (disch := omega) only [n_69, n_50, n_13, Option.bind_some, bd2_some, bdX_ok, bdX_er, nm_eq, n_0, n_1, n_2, n_3, n_4, n_5, n_6, n_7, n_8, n_9, n_10, n_11, n_12, n_14, n_15, n_16, n_17, n_18, n_19, n_20, n_21, n_24, n_27, n_28, n_32, n_43, n_45, n_48, n_56, n_57, n_59, n_64, n_70, n_97, n_99, n_100, n_104, n_118, n_122, n_126, n_127, n_128, n_129, n_130, n_150, n_255, n_600, n_1000, n_1050, n_1200, n_999999, n_1000000, iI_neg, iI_add, iI_sub, iI_mul, ile, ilt, ieq, Z_has, Z_0, Z_1, Z_2, Z_5, Z_15, Z_17, Z_18, Z_24, Z_25, Z_26, Z_3, Z_4, Z_6, Z_7, Z_8, Z_9, Z_10, Z_11, Z_12, Z_13, Z_14, Z_16, Z_19, Z_20, Z_21, Z_22, Z_23, Z_27, Y_3, Y_4, Y_6, Y_7, Y_8, Y_9, Y_10, Y_11, Y_12, Y_13, Y_14, Y_16, Y_19, Y_20, Y_21, Y_22, Y_23, Y_27, A_g, A_s, up_at, up_ne, up_off, of_0 hN1 ha.1 ha.2, of_1 hN1 ha.1 ha.2, ht, hh, la1, la2, vo1, vo2, n_m1]
      unfold prmN prm
      by_cases q1 : GV (sN x) 64 (jst (sN x) ((sJ x).take v.toNat)).1 (jst (sN x) ((sJ x).take v.toNat)).2.2 = -1
      · rw [if_pos q1, if_neg (by first | exact not_false | omega | decide)]
        simp only [q1, decide_true, Bool.true_or, if_true]
        exact no
      · rw [if_neg q1]
        by_cases q2 : GV (sN x) 64 (jst (sN x) ((sJ x).take (v.toNat + 1))).1 (jst (sN x) ((sJ x).take (v.toNat + 1))).2.2 = -1
        · rw [if_pos q2, if_neg (by first | exact not_false | omega | decide)]
          simp only [q2, decide_true, Bool.or_true, if_true]
          exact no
        · rw [if_neg q2, if_pos (by first | exact trivial | omega | decide)]
          rw [if_neg (by simp [q1, q2])]
          have hq2 := hq.trans (qS_f (m := m1) (v := 0) (k := 4) (by omega))
          have etime : (jst (sN x) ((sJ x).take (v.toNat + 1))).2.1 = (jst (sN x) ((sJ x).take v.toNat)).2.1 + aCo (sN x) ((sJ x)[v.toNat] % 100) + (if 100 ≤ (sJ x)[v.toNat] then aEx (sN x) ((sJ x)[v.toNat] % 100) else 0) := by rw [et, jst_snoc]; rfl
          simp (disch := omega) only [n_69, n_50, n_13, Option.bind_some, bd2_some, bdX_ok, bdX_er, nm_eq, n_0, n_1, n_2, n_3, n_4, n_5, n_6, n_7, n_8, n_9, n_10, n_11, n_12, n_14, n_15, n_16, n_17, n_18, n_19, n_20, n_21, n_24, n_27, n_28, n_32, n_43, n_45, n_48, n_56, n_57, n_59, n_64, n_70, n_97, n_99, n_100, n_104, n_118, n_122, n_126, n_127, n_128, n_129, n_130, n_150, n_255, n_600, n_1000, n_1050, n_1200, n_999999, n_1000000, iI_neg, iI_add, iI_sub, iI_mul, ile, ilt, ieq, Z_has, Z_0, Z_1, Z_2, Z_5, Z_15, Z_17, Z_18, Z_24, Z_25, Z_26, Z_3, Z_4, Z_6, Z_7, Z_8, Z_9, Z_10, Z_11, Z_12, Z_13, Z_14, Z_16, Z_19, Z_20, Z_21, Z_22, Z_23, Z_27, Y_3, Y_4, Y_6, Y_7, Y_8, Y_9, Y_10, Y_11, Y_12, Y_13, Y_14, Y_16, Y_19, Y_20, Y_21, Y_22, Y_23, Y_27, A_g, A_s, up_at, up_ne, up_off, of_2 hN1t ha.1 ha.2, of_3 hN1t ha.1 ha.2]
          by_cases q3 : del = 0
          · rw [if_pos q3]
            rw [if_neg (show ¬ 100 ≤ (sJ x)[v.toNat] from fun q => by have := hd2.mpr q; omega)] at etime
            exact ⟨_, _, rfl, up_at, fun _ => by omega, hq2.cS, h.q hq2⟩
          · rw [if_neg q3]
            rw [if_pos (hd2.mp (by omega))] at etime
            exact ⟨_, _, rfl, up_at, fun _ => by omega, hq2.cS, h.q hq2⟩
    unfold f_X11_grief_24
    simp (disch := omega) only [n_69, n_50, n_13, Option.bind_some, bd2_some, bdX_ok, bdX_er, nm_eq, n_0, n_1, n_2, n_3, n_4, n_5, n_6, n_7, n_8, n_9, n_10, n_11, n_12, n_14, n_15, n_16, n_17, n_18, n_19, n_20, n_21, n_24, n_27, n_28, n_32, n_43, n_45, n_48, n_56, n_57, n_59, n_64, n_70, n_97, n_99, n_100, n_104, n_118, n_122, n_126, n_127, n_128, n_129, n_130, n_150, n_255, n_600, n_1000, n_1050, n_1200, n_999999, n_1000000, iI_neg, iI_add, iI_sub, iI_mul, ile, ilt, ieq, Z_has, Z_0, Z_1, Z_2, Z_5, Z_15, Z_17, Z_18, Z_24, Z_25, Z_26, Z_3, Z_4, Z_6, Z_7, Z_8, Z_9, Z_10, Z_11, Z_12, Z_13, Z_14, Z_16, Z_19, Z_20, Z_21, Z_22, Z_23, Z_27, Y_3, Y_4, Y_6, Y_7, Y_8, Y_9, Y_10, Y_11, Y_12, Y_13, Y_14, Y_16, Y_19, Y_20, Y_21, Y_22, Y_23, Y_27, A_g, A_s, up_at, up_ne, up_off, p1, e130, iI_div100, em]
    rw [if_pos (by first | exact trivial | omega | decide)]
    by_cases q : (sJ x)[v.toNat] < 100
    · rw [if_pos q]; exact key 0 (Or.inl rfl) ⟨fun q => by omega, fun q => by omega⟩
    · rw [if_neg q]; exact key 1 (Or.inr rfl) ⟨fun q => by omega, fun q => rfl⟩
  · rw [show inB v 0 (((sJ x).length : Int) - 1) = 0 from if_neg (by omega), if_pos (by first | exact trivial | omega | decide), if_pos c1]
    unfold f_X11_grief_24
    simp (disch := omega) only [n_69, n_50, n_13, Option.bind_some, bd2_some, bdX_ok, bdX_er, nm_eq, n_0, n_1, n_2, n_3, n_4, n_5, n_6, n_7, n_8, n_9, n_10, n_11, n_12, n_14, n_15, n_16, n_17, n_18, n_19, n_20, n_21, n_24, n_27, n_28, n_32, n_43, n_45, n_48, n_56, n_57, n_59, n_64, n_70, n_97, n_99, n_100, n_104, n_118, n_122, n_126, n_127, n_128, n_129, n_130, n_150, n_255, n_600, n_1000, n_1050, n_1200, n_999999, n_1000000, iI_neg, iI_add, iI_sub, iI_mul, ile, ilt, ieq, Z_has, Z_0, Z_1, Z_2, Z_5, Z_15, Z_17, Z_18, Z_24, Z_25, Z_26, Z_3, Z_4, Z_6, Z_7, Z_8, Z_9, Z_10, Z_11, Z_12, Z_13, Z_14, Z_16, Z_19, Z_20, Z_21, Z_22, Z_23, Z_27, Y_3, Y_4, Y_6, Y_7, Y_8, Y_9, Y_10, Y_11, Y_12, Y_13, Y_14, Y_16, Y_19, Y_20, Y_21, Y_22, Y_23, Y_27, A_g, A_s, up_at, up_ne, up_off]
    rw [if_neg (by first | exact not_false | omega | decide)]
    exact RQ_nq h (by omega)
/-! what is written -/
def WRr (m : Mm) (L : List Int) : Prop := m 283 27 = L.length ∧ L.length ≤ 15 ∧ ∀ (j : Nat) (c : Int), L[j]? = some c → m 293 j = c
theorem WRr_snoc {L : List Int} {c d : Int} (h : WRr m L) (h15 : L.length + 2 ≤ 15) : WRr (up (up (up m 293 L.length c) 293 ((L.length : Int) + 1) d) 283 27 ((L.length : Int) + 2)) (L ++ [c, d]) := by
  obtain ⟨w1, w2, w3⟩ := h
  refine ⟨by rw [up_at]; simp, by simp <;> omega, fun j e hj => ?_⟩
  have hj' : j < L.length + 2 := by have := (List.getElem?_eq_some_iff.mp hj).1; simpa using this
  rw [up_ne (by decide)]
  by_cases q1 : j = L.length + 1
  · subst q1
    rw [show ((L.length + 1 : Nat) : Int) = (L.length : Int) + 1 by omega, up_at]
    rw [List.getElem?_append_right (by omega)] at hj
    rw [show L.length + 1 - L.length = 1 by omega] at hj
    simpa using hj
  · rw [up_off (by omega)]
    by_cases q2 : j = L.length
    · subst q2
      rw [up_at]
      rw [List.getElem?_append_right (by omega)] at hj
      rw [show L.length - L.length = 0 by omega] at hj
      simpa using hj
    · rw [up_off (by omega)]
      rw [List.getElem?_append_left (by omega)] at hj
      exact w3 j e hj
/-- all but what is written -/
def tS (m m' : Mm) : Prop := (∀ q, q ≠ 293 → q ≠ 283 → m' q = m q) ∧ ∀ k, k ≠ 27 → k ≠ 4 → m' 283 k = m 283 k
theorem tS.trans {m'' : Mm} (h : tS m m') (g : tS m' m'') : tS m m'' := ⟨fun q a b => (g.1 q a b).trans (h.1 q a b), fun k a b => (g.2 k a b).trans (h.2 k a b)⟩
theorem writeR_go {k152 : Nat → List Ob → Option (Int32 × List Ob)} {W : Int32} {r : Int} (hr : 0 ≤ r ∧ r < 6) (hl : AOK N l) : ∀ (suf pre : List Int) (n : Nat) (m : Mm) (L : List Int), rNet (m 284) N → rPth (m 284) (70 + 8 * r) l → l = pre ++ suf → suf.length < n → WRr m L → L.length + 2 * suf.length ≤ 15 → ∃ m', f_X11_writeRoute_58 fu k152 n 283 (iI r) W (iI ((pre.length : Int) + 1)) (mem w m) = k152 283 (mem w m') ∧ tS m m' ∧ m' 283 4 = m 283 4 ∧ WRr m' (L ++ wrtL N W suf) := by
  intro suf
  induction suf with
  | nil =>
    intro pre n m L hN hP hs hn hW h15
    have h7 := hP.2.1
    have hlen : l.length = pre.length := by rw [hs]; simp
    obtain ⟨n, rfl⟩ : ∃ k, n = k + 1 := ⟨n - 1, by omega⟩
    rw [f_X11_writeRoute_58, f_X11_writeRoute_58b]
    simp (disch := omega) only [n_69, n_50, n_13, Option.bind_some, bd2_some, bdX_ok, bdX_er, nm_eq, n_0, n_1, n_2, n_3, n_4, n_5, n_6, n_7, n_8, n_9, n_10, n_11, n_12, n_14, n_15, n_16, n_17, n_18, n_19, n_20, n_21, n_24, n_27, n_28, n_32, n_43, n_45, n_48, n_56, n_57, n_59, n_64, n_70, n_97, n_99, n_100, n_104, n_118, n_122, n_126, n_127, n_128, n_129, n_130, n_150, n_255, n_600, n_1000, n_1050, n_1200, n_999999, n_1000000, iI_neg, iI_add, iI_sub, iI_mul, ile, ilt, ieq, Z_has, Z_0, Z_1, Z_2, Z_5, Z_15, Z_17, Z_18, Z_24, Z_25, Z_26, Z_3, Z_4, Z_6, Z_7, Z_8, Z_9, Z_10, Z_11, Z_12, Z_13, Z_14, Z_16, Z_19, Z_20, Z_21, Z_22, Z_23, Z_27, Y_3, Y_4, Y_6, Y_7, Y_8, Y_9, Y_10, Y_11, Y_12, Y_13, Y_14, Y_16, Y_19, Y_20, Y_21, Y_22, Y_23, Y_27, A_g, A_s, up_at, up_ne, up_off, hP.1]
    rw [if_pos (by omega)]
    exact ⟨m, rfl, ⟨fun _ _ _ => rfl, fun _ _ _ => rfl⟩, rfl, by simpa [wrtL] using hW⟩
  | cons c suf ih =>
    intro pre n m L hN hP hs hn hW h15
    have h7 := hP.2.1
    have hw := hN.1.1
    have hlen : l.length = pre.length + (suf.length + 1) := by rw [hs]; simp
    have hc := hl c (by rw [hs]; simp)
    have hA := hN.1.arc hc.1 hc.2
    simp only [List.length_cons] at hn h15
    obtain ⟨n, rfl⟩ : ∃ k, n = k + 1 := ⟨n - 1, by omega⟩
    have hg : m 284 (70 + 8 * r + ((pre.length : Int) + 1)) = c := by
      have := hP.2.2 pre.length c (by rw [hs]; exact mid_at)
      rw [show (70 : Int) + 8 * r + 1 + (pre.length : Int) = 70 + 8 * r + ((pre.length : Int) + 1) by omega] at this
      exact this
    have step : ∀ y : Int, y = (if bt W c = 0 then 45 else 43) → ∃ m', f_X11_writeRoute_114 fu 283 (iI r) W (iI ((pre.length : Int) + 1)) (iI c) 293 (iI (L.length : Int)) (iI y) (mem w m) (fun a0 a1 a2 a3 M => f_X11_writeRoute_58 fu k152 n a0 a1 a2 a3 M) k152 = k152 283 (mem w m') ∧ tS m m' ∧ m' 283 4 = m 283 4 ∧ WRr m' (L ++ wrtL N W (c :: suf)) := by
      intro y hy
      have hW2 := WRr_snoc (c := y) (d := 48 + aHd N c) hW (by omega)
      have hN1 : rNet ((up m 293 L.length y) 284) N := by rw [up_ne (by decide)]; exact hN
      generalize hm2 : up (up (up m 293 L.length y) 293 ((L.length : Int) + 1) (48 + aHd N c)) 283 27 ((L.length : Int) + 2) = m2 at hW2
      have fr : tS m m2 := by
        rw [← hm2]
        exact ⟨fun q a b => by rw [up_ne b, up_ne a, up_ne a], fun k a b => by rw [up_off a, up_ne (by decide), up_ne (by decide)]⟩
      have e4 : m2 283 4 = m 283 4 := by rw [← hm2, up_off (by decide), up_ne (by decide), up_ne (by decide)]
      have e284 : m2 284 = m 284 := fr.1 _ (by decide) (by decide)
      obtain ⟨m3, q1, q2, q3, q4⟩ := ih (pre ++ [c]) n m2 (L ++ [y, 48 + aHd N c]) (by rw [e284]; exact hN) (by rw [e284]; exact hP) (by rw [hs]; simp) (by omega) hW2 (by simp <;> omega)
      rw [show ((pre ++ [c]).length : Int) = (pre.length : Int) + 1 by simp] at q1
      unfold f_X11_writeRoute_114
      simp (disch := omega) only [n_69, n_50, n_13, Option.bind_some, bd2_some, bdX_ok, bdX_er, nm_eq, n_0, n_1, n_2, n_3, n_4, n_5, n_6, n_7, n_8, n_9, n_10, n_11, n_12, n_14, n_15, n_16, n_17, n_18, n_19, n_20, n_21, n_24, n_27, n_28, n_32, n_43, n_45, n_48, n_56, n_57, n_59, n_64, n_70, n_97, n_99, n_100, n_104, n_118, n_122, n_126, n_127, n_128, n_129, n_130, n_150, n_255, n_600, n_1000, n_1050, n_1200, n_999999, n_1000000, iI_neg, iI_add, iI_sub, iI_mul, ile, ilt, ieq, Z_has, Z_0, Z_1, Z_2, Z_5, Z_15, Z_17, Z_18, Z_24, Z_25, Z_26, Z_3, Z_4, Z_6, Z_7, Z_8, Z_9, Z_10, Z_11, Z_12, Z_13, Z_14, Z_16, Z_19, Z_20, Z_21, Z_22, Z_23, Z_27, Y_3, Y_4, Y_6, Y_7, Y_8, Y_9, Y_10, Y_11, Y_12, Y_13, Y_14, Y_16, Y_19, Y_20, Y_21, Y_22, Y_23, Y_27, A_g, A_s, up_at, up_ne, up_off, Wt_s, hW.1, of_1 hN1 hc.1 hc.2]
      rw [hm2]
      refine ⟨m3, q1, fr.trans q2, by rw [q3, e4], ?_⟩
      rw [wrtL, ← hy]
      simpa using q4
    rw [f_X11_writeRoute_58, f_X11_writeRoute_58b]
    simp (disch := omega) only [n_69, n_50, n_13, Option.bind_some, bd2_some, bdX_ok, bdX_er, nm_eq, n_0, n_1, n_2, n_3, n_4, n_5, n_6, n_7, n_8, n_9, n_10, n_11, n_12, n_14, n_15, n_16, n_17, n_18, n_19, n_20, n_21, n_24, n_27, n_28, n_32, n_43, n_45, n_48, n_56, n_57, n_59, n_64, n_70, n_97, n_99, n_100, n_104, n_118, n_122, n_126, n_127, n_128, n_129, n_130, n_150, n_255, n_600, n_1000, n_1050, n_1200, n_999999, n_1000000, iI_neg, iI_add, iI_sub, iI_mul, ile, ilt, ieq, Z_has, Z_0, Z_1, Z_2, Z_5, Z_15, Z_17, Z_18, Z_24, Z_25, Z_26, Z_3, Z_4, Z_6, Z_7, Z_8, Z_9, Z_10, Z_11, Z_12, Z_13, Z_14, Z_16, Z_19, Z_20, Z_21, Z_22, Z_23, Z_27, Y_3, Y_4, Y_6, Y_7, Y_8, Y_9, Y_10, Y_11, Y_12, Y_13, Y_14, Y_16, Y_19, Y_20, Y_21, Y_22, Y_23, Y_27, A_g, A_s, up_at, up_ne, up_off, hP.1, hg, hW.1, hasR_eq (w := w) (m := m) (fu := fu) (D := W) hc.1 (show c < 32 by omega)]
    rw [if_neg (by omega)]
    by_cases q : bt W c = 0
    · rw [q, if_pos (by decide)]; exact step 45 (by rw [if_pos q])
    · have : bt W c = 1 := by rcases bt_01 W c with e | e; exact absurd e q; exact e
      rw [this, if_neg (by decide)]; exact step 43 (by rw [if_neg q])
theorem writeRouteR_eq (hfu : 100 ≤ fu) (h : RI m x H) (hG : WG x) {L : List Int} (hW : WRr m L) (ha : i32 a) : ∃ m' r, f_X11_writeRoute fu 283 (iI a) (mem w m) = some (iI r, mem w m') ∧ m' 283 4 = (qWrite x a).1 ∧ ((qWrite x a).1 = 0 → r = (qWrite x a).2) ∧ tS m m' ∧ WRr m' (wrNew x a L) := by
  have hN := h.1.1
  have hw := hN.1.1
  have hT := h.1.2.1
  have h6 := hT.2.1
  have v1 := ha
  unfold i32 at v1
  unfold f_X11_writeRoute f_X11_writeRoute_14 qWrite wrNew
  simp (disch := omega) only [n_69, n_50, n_13, Option.bind_some, bd2_some, bdX_ok, bdX_er, nm_eq, n_0, n_1, n_2, n_3, n_4, n_5, n_6, n_7, n_8, n_9, n_10, n_11, n_12, n_14, n_15, n_16, n_17, n_18, n_19, n_20, n_21, n_24, n_27, n_28, n_32, n_43, n_45, n_48, n_56, n_57, n_59, n_64, n_70, n_97, n_99, n_100, n_104, n_118, n_122, n_126, n_127, n_128, n_129, n_130, n_150, n_255, n_600, n_1000, n_1050, n_1200, n_999999, n_1000000, iI_neg, iI_add, iI_sub, iI_mul, ile, ilt, ieq, Z_has, Z_0, Z_1, Z_2, Z_5, Z_15, Z_17, Z_18, Z_24, Z_25, Z_26, Z_3, Z_4, Z_6, Z_7, Z_8, Z_9, Z_10, Z_11, Z_12, Z_13, Z_14, Z_16, Z_19, Z_20, Z_21, Z_22, Z_23, Z_27, Y_3, Y_4, Y_6, Y_7, Y_8, Y_9, Y_10, Y_11, Y_12, Y_13, Y_14, Y_16, Y_19, Y_20, Y_21, Y_22, Y_23, Y_27, A_g, A_s, up_at, up_ne, up_off, isToldR_eq hT ha]
  by_cases c1 : 0 ≤ a ∧ a < (sR x).length
  · rw [show inB a 0 (((sR x).length : Int) - 1) = 1 from if_pos (by omega)]
    rw [if_neg (by first | exact not_false | omega | decide), if_neg (not_not_intro c1), if_neg (not_not_intro c1)]
    have h1 : RI (up m 283 4 0) x H := h.thr
    have hN1 := h1.1.1
    have hr := hG.rt _ (lR_at c1.1 c1.2).2
    have hP := rowR hT c1.1 c1.2
    have h7 := hP.2.1
    have hW1 : WRr (up (up (up m 283 4 0) 293 0 (48 + nS (sN x))) 283 27 1) [48 + nS (sN x)] := ⟨by rw [up_at]; rfl, by simp, fun j c hj => by
      have : j = 0 := by have := (List.getElem?_eq_some_iff.mp hj).1; simpa using this
      subst this
      rw [up_ne (by decide)]
      rw [show ((0 : Nat) : Int) = 0 from rfl, up_at]
      simpa using hj⟩
    have e284 : (up (up (up m 283 4 0) 293 0 (48 + nS (sN x))) 283 27 1) 284 = m 284 := by simp (disch := omega) only [up_ne]
    obtain ⟨m', q1, q2, q3, q4⟩ := writeR_go (w := w) (fu := fu) (N := sN x) (k152 := fun x23 M24 => f_X11_writeRoute_152 fu x23 M24) (W := wit (sN x) (lR x a)) (r := a) (by omega) (pOK_AOK hr.1) (lR x a) [] fu _ _ (by rw [e284]; exact hN) (by rw [e284]; exact hP) rfl (by omega) hW1 (by simp <;> omega)
    rw [show (([] : List Int).length : Int) + 1 = 1 from rfl] at q1
    simp (disch := omega) only [n_69, n_50, n_13, Option.bind_some, bd2_some, bdX_ok, bdX_er, nm_eq, n_0, n_1, n_2, n_3, n_4, n_5, n_6, n_7, n_8, n_9, n_10, n_11, n_12, n_14, n_15, n_16, n_17, n_18, n_19, n_20, n_21, n_24, n_27, n_28, n_32, n_43, n_45, n_48, n_56, n_57, n_59, n_64, n_70, n_97, n_99, n_100, n_104, n_118, n_122, n_126, n_127, n_128, n_129, n_130, n_150, n_255, n_600, n_1000, n_1050, n_1200, n_999999, n_1000000, iI_neg, iI_add, iI_sub, iI_mul, ile, ilt, ieq, Z_has, Z_0, Z_1, Z_2, Z_5, Z_15, Z_17, Z_18, Z_24, Z_25, Z_26, Z_3, Z_4, Z_6, Z_7, Z_8, Z_9, Z_10, Z_11, Z_12, Z_13, Z_14, Z_16, Z_19, Z_20, Z_21, Z_22, Z_23, Z_27, Y_3, Y_4, Y_6, Y_7, Y_8, Y_9, Y_10, Y_11, Y_12, Y_13, Y_14, Y_16, Y_19, Y_20, Y_21, Y_22, Y_23, Y_27, A_g, A_s, up_at, up_ne, up_off, toldArcs_eq (w := w) (fu := fu) hfu (show 0 ≤ a ∧ a < 6 by omega) (rowR h1.1.2.1 c1.1 c1.2), witR_eq (w := w) hfu h1.1.1 (hr.pk hN.1), hN.2.1.2.1, Wt_s]
    rw [if_pos (by first | exact trivial | omega | decide), q1]
    unfold f_X11_writeRoute_152
    simp (disch := omega) only [n_69, n_50, n_13, Option.bind_some, bd2_some, bdX_ok, bdX_er, nm_eq, n_0, n_1, n_2, n_3, n_4, n_5, n_6, n_7, n_8, n_9, n_10, n_11, n_12, n_14, n_15, n_16, n_17, n_18, n_19, n_20, n_21, n_24, n_27, n_28, n_32, n_43, n_45, n_48, n_56, n_57, n_59, n_64, n_70, n_97, n_99, n_100, n_104, n_118, n_122, n_126, n_127, n_128, n_129, n_130, n_150, n_255, n_600, n_1000, n_1050, n_1200, n_999999, n_1000000, iI_neg, iI_add, iI_sub, iI_mul, ile, ilt, ieq, Z_has, Z_0, Z_1, Z_2, Z_5, Z_15, Z_17, Z_18, Z_24, Z_25, Z_26, Z_3, Z_4, Z_6, Z_7, Z_8, Z_9, Z_10, Z_11, Z_12, Z_13, Z_14, Z_16, Z_19, Z_20, Z_21, Z_22, Z_23, Z_27, Y_3, Y_4, Y_6, Y_7, Y_8, Y_9, Y_10, Y_11, Y_12, Y_13, Y_14, Y_16, Y_19, Y_20, Y_21, Y_22, Y_23, Y_27, A_g, A_s, up_at, up_ne, up_off, q4.1]
    refine ⟨m', _, rfl, by rw [q3]; simp (disch := omega) only [up_ne, up_off, up_at], fun _ => rfl, ⟨fun q x9 y9 => ?_, fun k x9 y9 => ?_⟩, q4⟩
    · rw [q2.1 q x9 y9]; simp (disch := omega) only [up_ne]
    · rw [q2.2 k x9 y9, up_off x9, up_ne (by decide), up_off y9]
  · rw [show inB a 0 (((sR x).length : Int) - 1) = 0 from if_neg (by omega)]
    rw [if_pos (by first | exact trivial | omega | decide), if_pos c1, if_pos c1, if_neg (by first | exact not_false | omega | decide)]
    exact ⟨_, 0, rfl, up_at, fun e => absurd e (by decide), ⟨fun q x9 y9 => up_ne y9, fun k x9 y9 => up_off y9⟩, by rw [up_off (by decide)]; exact hW.1, hW.2.1, fun j c hj => by rw [up_ne (by decide)]; exact hW.2.2 j c hj⟩
theorem writtenByteR_eq {L : List Int} (h : RI m x H) (hW : WRr m L) (hv : i32 v) : RQ w m (f_X11_writtenByte fu 283 (iI v) (mem w m)) (qByte L v).1 (qByte L v).2 x H := by
  have h15 := hW.2.1
  have v1 := hv
  unfold i32 at v1
  unfold f_X11_writtenByte f_X11_writtenByte_20 qByte
  simp (disch := omega) only [n_69, n_50, n_13, Option.bind_some, bd2_some, bdX_ok, bdX_er, nm_eq, n_0, n_1, n_2, n_3, n_4, n_5, n_6, n_7, n_8, n_9, n_10, n_11, n_12, n_14, n_15, n_16, n_17, n_18, n_19, n_20, n_21, n_24, n_27, n_28, n_32, n_43, n_45, n_48, n_56, n_57, n_59, n_64, n_70, n_97, n_99, n_100, n_104, n_118, n_122, n_126, n_127, n_128, n_129, n_130, n_150, n_255, n_600, n_1000, n_1050, n_1200, n_999999, n_1000000, iI_neg, iI_add, iI_sub, iI_mul, ile, ilt, ieq, Z_has, Z_0, Z_1, Z_2, Z_5, Z_15, Z_17, Z_18, Z_24, Z_25, Z_26, Z_3, Z_4, Z_6, Z_7, Z_8, Z_9, Z_10, Z_11, Z_12, Z_13, Z_14, Z_16, Z_19, Z_20, Z_21, Z_22, Z_23, Z_27, Y_3, Y_4, Y_6, Y_7, Y_8, Y_9, Y_10, Y_11, Y_12, Y_13, Y_14, Y_16, Y_19, Y_20, Y_21, Y_22, Y_23, Y_27, A_g, A_s, up_at, up_ne, up_off, hW.1, isInR_eq hv (show i32 0 by unfold i32; omega) (show i32 ((L.length : Int) - 1) by unfold i32; omega)]
  by_cases c1 : 0 ≤ v ∧ v < L.length
  · rw [show inB v 0 ((L.length : Int) - 1) = 1 from if_pos (by omega), if_neg (by first | exact not_false | omega | decide), if_pos c1]
    have hi : v.toNat < L.length := by omega
    have hg := hW.2.2 v.toNat _ (List.getElem?_eq_getElem hi)
    rw [show ((v.toNat : Nat) : Int) = v by omega] at hg
    simp (disch := omega) only [n_69, n_50, n_13, Option.bind_some, bd2_some, bdX_ok, bdX_er, nm_eq, n_0, n_1, n_2, n_3, n_4, n_5, n_6, n_7, n_8, n_9, n_10, n_11, n_12, n_14, n_15, n_16, n_17, n_18, n_19, n_20, n_21, n_24, n_27, n_28, n_32, n_43, n_45, n_48, n_56, n_57, n_59, n_64, n_70, n_97, n_99, n_100, n_104, n_118, n_122, n_126, n_127, n_128, n_129, n_130, n_150, n_255, n_600, n_1000, n_1050, n_1200, n_999999, n_1000000, iI_neg, iI_add, iI_sub, iI_mul, ile, ilt, ieq, Z_has, Z_0, Z_1, Z_2, Z_5, Z_15, Z_17, Z_18, Z_24, Z_25, Z_26, Z_3, Z_4, Z_6, Z_7, Z_8, Z_9, Z_10, Z_11, Z_12, Z_13, Z_14, Z_16, Z_19, Z_20, Z_21, Z_22, Z_23, Z_27, Y_3, Y_4, Y_6, Y_7, Y_8, Y_9, Y_10, Y_11, Y_12, Y_13, Y_14, Y_16, Y_19, Y_20, Y_21, Y_22, Y_23, Y_27, A_g, A_s, up_at, up_ne, up_off, Wt_g, hg]
    rw [if_pos (by first | exact trivial | omega | decide)]
    refine ⟨_, _, rfl, up_at, fun _ => ?_, cS_f (by omega), h.thr⟩
    simp [List.getD, hi]
  · rw [show inB v 0 ((L.length : Int) - 1) = 0 from if_neg (by omega), if_pos (by first | exact trivial | omega | decide), if_neg (by first | exact not_false | omega | decide), if_neg c1]
    exact RQ_nq h (by omega)
end RI8
