def fill1 (m : Mm) (p : Nat) (v : Int) (i n : Int) : Mm := fun p' k => if p' = p ∧ i ≤ k ∧ k < n then v else m p' k
section FI
variable {w : Wl} {fu : Nat}
theorem fill_go {p n : Nat} {v : Int} (hp : SK[p]? = some (13, List.replicate n none)) (hn : (n : Int) < 1000) : ∀ (d nn : Nat) (m : Mm) (i : Int), i + d = n → 0 ≤ i → d < nn → f_J7_fill_53178_5 fu nn p (iI v) (iI i) (iI (n : Int)) (mem w m) = some ((), mem w (fill1 m p v i n)) := by
  intro d
  induction d with
  | zero =>
    intro nn m i hi h0 hd
    obtain ⟨nn, rfl⟩ : ∃ k, nn = k + 1 := ⟨nn - 1, by omega⟩
    rw [f_J7_fill_53178_5, f_J7_fill_53178_5b]
    simp (disch := omega) only [Option.bind_some, bd2_some, bdX_ok, bdX_er, nm_eq, n_0, n_1, n_2, n_3, n_4, n_5, n_6, n_7, n_8, n_9, n_10, n_11, n_12, n_14, n_15, n_16, n_17, n_18, n_19, n_20, n_21, n_24, n_27, n_28, n_32, n_43, n_45, n_48, n_56, n_57, n_59, n_64, n_70, n_97, n_99, n_100, n_104, n_118, n_122, n_126, n_127, n_128, n_129, n_130, n_150, n_255, n_600, n_1000, n_1050, n_1200, n_999999, n_1000000, iI_neg, iI_add, iI_sub, iI_mul, ile, ilt, ieq]
    rw [if_pos (by omega)]
    have e : fill1 m p v i n = m := by funext p' k; unfold fill1; rw [if_neg (by omega)]
    rw [e]
  | succ d ih =>
    intro nn m i hi h0 hd
    obtain ⟨nn, rfl⟩ : ∃ k, nn = k + 1 := ⟨nn - 1, by omega⟩
    rw [f_J7_fill_53178_5, f_J7_fill_53178_5b]
    simp (disch := omega) only [Option.bind_some, bd2_some, bdX_ok, bdX_er, nm_eq, n_0, n_1, n_2, n_3, n_4, n_5, n_6, n_7, n_8, n_9, n_10, n_11, n_12, n_14, n_15, n_16, n_17, n_18, n_19, n_20, n_21, n_24, n_27, n_28, n_32, n_43, n_45, n_48, n_56, n_57, n_59, n_64, n_70, n_97, n_99, n_100, n_104, n_118, n_122, n_126, n_127, n_128, n_129, n_130, n_150, n_255, n_600, n_1000, n_1050, n_1200, n_999999, n_1000000, iI_neg, iI_add, iI_sub, iI_mul, ile, ilt, ieq]
    rw [if_neg (by omega), aSet_mem hp h0 (by omega) (by omega)]
    simp (disch := omega) only [Option.bind_some, bd2_some, bdX_ok, bdX_er, nm_eq, n_0, n_1, n_2, n_3, n_4, n_5, n_6, n_7, n_8, n_9, n_10, n_11, n_12, n_14, n_15, n_16, n_17, n_18, n_19, n_20, n_21, n_24, n_27, n_28, n_32, n_43, n_45, n_48, n_56, n_57, n_59, n_64, n_70, n_97, n_99, n_100, n_104, n_118, n_122, n_126, n_127, n_128, n_129, n_130, n_150, n_255, n_600, n_1000, n_1050, n_1200, n_999999, n_1000000, iI_neg, iI_add, iI_sub, iI_mul, ile, ilt, ieq]
    rw [ih nn (up m p i v) (i + 1) (by omega) (by omega) (by omega)]
    have e : fill1 (up m p i v) p v (i + 1) n = fill1 m p v i n := by
      funext p' k
      unfold fill1 up
      by_cases hp' : p' = p
      · subst hp'
        by_cases hk : k = i
        · subst hk
          rw [if_neg (by omega), if_pos ⟨rfl, rfl⟩, if_pos (by omega)]
        · by_cases hk2 : i + 1 ≤ k ∧ k < n
          · rw [if_pos ⟨rfl, hk2⟩, if_pos (by omega)]
          · rw [if_neg (fun q => hk2 q.2), if_neg (fun q => hk q.2), if_neg (by omega)]
      · rw [if_neg (fun q => hp' q.1), if_neg (fun q => hp' q.1), if_neg (fun q => hp' q.1)]
    rw [e]
theorem fill_eq {p n : Nat} {v : Int} {m : Mm} (hfu : 1000 ≤ fu) (hp : SK[p]? = some (13, List.replicate n none)) (hn : (n : Int) < 1000) : f_J7_fill_53178 fu p (iI v) (mem w m) = some ((), mem w (fill1 m p v 0 n)) := by
  unfold f_J7_fill_53178
  rw [aLen_mem (z := n) hp (by simp), Option.bind_some]
  exact fill_go hp hn n fu m 0 (by omega) (by omega) (by omega)
end FI
/-- the class's distances, with another far one -/
def inf (x : Int) : Int := if x = 999999 then 1000000 else x
def dst (m : Mm) (p : Nat) (N : Nt) (g : Int → Int) (t : Int) : Prop := ∀ v, 0 ≤ v → v < nN N → m p v = inf (g v) ∧ 0 ≤ g v ∧ (g v = 999999 ∨ g v ≤ t)
def sameP (q : Nat) (m m' : Mm) : Prop := ∀ p, p ≠ q → m' p = m p
theorem sameP.trans {q : Nat} {m m' m'' : Mm} (h : sameP q m m') (h' : sameP q m' m'') : sameP q m m'' := fun p hp => (h' p hp).trans (h p hp)
theorem sameP.rf {q : Nat} {m : Mm} : sameP q m m := fun _ _ => rfl
theorem sameP_up {q : Nat} {m : Mm} {k v : Int} : sameP q m (up m q k v) := fun p hp => up_ne hp
theorem sameP.net {q : Nat} {m m' : Mm} {N : Nt} (h : sameP q m m') (hq : 6 < q) (hN : isNet m 2 N) : isNet m' 2 N := hN.cong (h _ (by omega)) (h _ (by omega)) (h _ (by omega)) (h _ (by omega)) (h _ (by omega))
section SC
variable {w : Wl} {N : Nt} {fu : Nat} {D : Int32}
theorem sk258 : SK[258]? = some (3, [some 1, some 2, some 259, none, none]) := by decide +kernel
theorem sk259 : SK[259]? = some (13, List.replicate 8 none) := by decide +kernel
theorem G3_0 {m : Mm} : gP (mem w m) 258 3 0 = some 1 := gP_mem sk258 rfl
theorem G3_1 {m : Mm} : gP (mem w m) 258 3 1 = some 2 := gP_mem sk258 rfl
theorem G3_2 {m : Mm} : gP (mem w m) 258 3 2 = some 259 := gP_mem sk258 rfl
theorem G3_3 {m : Mm} : gI (mem w m) 258 3 3 = some (iI (m 258 3)) := gI_mem sk258 rfl
theorem G3_4 {m : Mm} : gI (mem w m) 258 3 4 = some (iI (m 258 4)) := gI_mem sk258 rfl
theorem U3_3 {m : Mm} {v : Int} : pF (mem w m) 258 3 3 (.int (iI v)) = some (mem w (up m 258 3 v)) := pF_mem sk258 rfl
theorem U3_4 {m : Mm} {v : Int} : pF (mem w m) 258 3 4 (.int (iI v)) = some (mem w (up m 258 4 v)) := pF_mem sk258 rfl
theorem H3 {m : Mm} : hasO (mem w m) 258 3 = some () := hasO_mem sk258
theorem D_get {m : Mm} {z : Int} (h0 : 0 ≤ z) (h1 : z < 8) : aI (mem w m) 259 13 (iI z) = some (iI (m 259 z)) := aI_mem sk259 h0 h1 (by decide)
theorem D_set {m : Mm} {z v : Int} (h0 : 0 ≤ z) (h1 : z < 8) : aSet (mem w m) 259 13 (iI z) (.int (iI v)) = some (mem w (up m 259 z v)) := aSet_mem sk259 h0 h1 (by decide)
theorem inf_r {x t : Int} (h0 : 0 ≤ x) (h : x = 999999 ∨ x ≤ t) (ht : t ≤ 900000) : 0 ≤ inf x ∧ inf x ≤ 1000000 := by unfold inf; split <;> omega
theorem sc_arcs {k : Nat → Int32 → Int32 → Int32 → List Ob → Option (Int32 × List Ob)} : ∀ (d n : Nat) (m : Mm) (g : Int → Int) (f c t : Int) (a3 : Int32), isNet m 2 N → nA N - f = d → 0 ≤ f → d < n → (c = 0 ∨ c = 1) → dst m 259 N g t → 0 ≤ t → t + 198 * d ≤ 900000 →
    ∃ m' c', f_X3_shortestCost_41 fu k n 258 D (iI c) a3 (iI f) (mem w m) = k 258 D (iI c') a3 (mem w m') ∧ sameP 259 m m' ∧ dst m' 259 N ((arF N f).foldl (rel1 N D) g) (t + 198 * d) ∧ (c' = 0 ∨ c' = 1) ∧ (c' = 0 → c = 0 ∧ (arF N f).foldl (rel1 N D) g = g) := by
  intro d
  induction d with
  | zero =>
    intro n m g f c t a3 hN hd h0 hn hc hg ht htb
    have hW := hN.2.2.1
    obtain ⟨n, rfl⟩ : ∃ k, n = k + 1 := ⟨n - 1, by omega⟩
    rw [f_X3_shortestCost_41, f_X3_shortestCost_41b]
    simp (disch := omega) only [Option.bind_some, bd2_some, bdX_ok, bdX_er, nm_eq, n_0, n_1, n_2, n_3, n_4, n_5, n_6, n_7, n_8, n_9, n_10, n_11, n_12, n_14, n_15, n_16, n_17, n_18, n_19, n_20, n_21, n_24, n_27, n_28, n_32, n_43, n_45, n_48, n_56, n_57, n_59, n_64, n_70, n_97, n_99, n_100, n_104, n_118, n_122, n_126, n_127, n_128, n_129, n_130, n_150, n_255, n_600, n_1000, n_1050, n_1200, n_999999, n_1000000, iI_neg, iI_add, iI_sub, iI_mul, ile, ilt, ieq, G3_1, K_has hN, K_0 hN, K_1 hN, K_2 hN, K_3 hN, K_4 hN, K_5 hN, K_6 hN, K_7 hN, K_8 hN, K_tl hN, K_hd hN, K_co hN, K_ex hN]
    rw [if_pos (by omega), arF_nil (by omega)]
    exact ⟨m, c, rfl, sameP.rf, by rw [List.foldl_nil, show t + 198 * ((0 : Nat) : Int) = t by omega]; exact hg, hc, fun h => ⟨h, rfl⟩⟩
  | succ d ih =>
    intro n m g f c t a3 hN hd h0 hn hc hg ht htb
    have hW := hN.2.2.1
    obtain ⟨n, rfl⟩ : ∃ k, n = k + 1 := ⟨n - 1, by omega⟩
    have hA := hN.2.2.arc h0 (by omega)
    have hck := ck_nn (D := D) hN.2.2 h0 (by omega)
    obtain ⟨t1, t2, t3⟩ := hg (aTl N f) hA.1 hA.2.1
    obtain ⟨u1, u2, u3⟩ := hg (aHd N f) hA.2.2.1 hA.2.2.2.1
    have it := inf_r t2 t3 (by omega)
    have iu := inf_r u2 u3 (by omega)
    rw [f_X3_shortestCost_41, f_X3_shortestCost_41b]
    simp (disch := omega) only [Option.bind_some, bd2_some, bdX_ok, bdX_er, nm_eq, n_0, n_1, n_2, n_3, n_4, n_5, n_6, n_7, n_8, n_9, n_10, n_11, n_12, n_14, n_15, n_16, n_17, n_18, n_19, n_20, n_21, n_24, n_27, n_28, n_32, n_43, n_45, n_48, n_56, n_57, n_59, n_64, n_70, n_97, n_99, n_100, n_104, n_118, n_122, n_126, n_127, n_128, n_129, n_130, n_150, n_255, n_600, n_1000, n_1050, n_1200, n_999999, n_1000000, iI_neg, iI_add, iI_sub, iI_mul, ile, ilt, ieq, G3_1, G3_2, K_has hN, K_0 hN, K_1 hN, K_2 hN, K_3 hN, K_4 hN, K_5 hN, K_6 hN, K_7 hN, K_8 hN, K_tl hN, K_hd hN, K_co hN, K_ex hN, arcCost_eq hN h0 (show f < nA N by omega), D_get, t1, u1]
    rw [if_neg (by omega)]
    unfold f_X3_shortestCost_116
    rw [arF_cons (by omega), List.foldl_cons]
    have eck : aCo N f + bt D f * aEx N f = ck N D f := rfl
    rw [eck]
    by_cases hlt : g (aTl N f) + ck N D f < g (aHd N f)
    · have e1 : g (aTl N f) ≠ 999999 := by omega
      have e2 : inf (g (aTl N f)) = g (aTl N f) := if_neg e1
      have e3 : ¬ inf (g (aHd N f)) ≤ inf (g (aTl N f)) + ck N D f := by
        rw [e2]; unfold inf; split <;> omega
      have hr : rel1 N D g f = upd1 g (aHd N f) (g (aTl N f) + ck N D f) := if_pos hlt
      have hm1 : dst (up m 259 (aHd N f) (inf (g (aTl N f)) + ck N D f)) 259 N (rel1 N D g f) (t + 198) := fun v hv1 hv2 => by
        rw [hr]
        unfold upd1
        by_cases hv : v = aHd N f
        · rw [if_pos hv, hv, up_at, e2]
          have : g (aTl N f) + ck N D f ≠ 999999 := by omega
          exact ⟨(if_neg this).symm, by omega, by omega⟩
        · rw [if_neg hv, up_off hv]
          obtain ⟨q1, q2, q3⟩ := hg v hv1 hv2
          exact ⟨q1, q2, by omega⟩
      obtain ⟨m', c', q1, q2, q3, q4, q5⟩ := ih n (up m 259 (aHd N f) (inf (g (aTl N f)) + ck N D f)) (rel1 N D g f) (f + 1) 1 (t + 198) a3 (sameP_up.net (by decide) hN) (by omega) (by omega) (by omega) (Or.inr rfl) hm1 (by omega) (by omega)
      simp (disch := omega) only [Option.bind_some, bd2_some, bdX_ok, bdX_er, nm_eq, n_0, n_1, n_2, n_3, n_4, n_5, n_6, n_7, n_8, n_9, n_10, n_11, n_12, n_14, n_15, n_16, n_17, n_18, n_19, n_20, n_21, n_24, n_27, n_28, n_32, n_43, n_45, n_48, n_56, n_57, n_59, n_64, n_70, n_97, n_99, n_100, n_104, n_118, n_122, n_126, n_127, n_128, n_129, n_130, n_150, n_255, n_600, n_1000, n_1050, n_1200, n_999999, n_1000000, iI_neg, iI_add, iI_sub, iI_mul, ile, ilt, ieq, G3_2, D_set]
      rw [if_neg e3]
      refine ⟨m', c', q1, sameP_up.trans q2, ?_, q4, fun h => ?_⟩
      · rw [show t + 198 * ((d + 1 : Nat) : Int) = t + 198 + 198 * (d : Int) by omega]; exact q3
      · have := (q5 h).1; omega
    · have hr : rel1 N D g f = g := if_neg hlt
      have e3 : inf (g (aHd N f)) ≤ inf (g (aTl N f)) + ck N D f := by
        unfold inf; split <;> split <;> omega
      obtain ⟨m', c', q1, q2, q3, q4, q5⟩ := ih n m g (f + 1) c t a3 hN (by omega) (by omega) (by omega) hc hg ht (by omega)
      simp (disch := omega) only [Option.bind_some, bd2_some, bdX_ok, bdX_er, nm_eq, n_0, n_1, n_2, n_3, n_4, n_5, n_6, n_7, n_8, n_9, n_10, n_11, n_12, n_14, n_15, n_16, n_17, n_18, n_19, n_20, n_21, n_24, n_27, n_28, n_32, n_43, n_45, n_48, n_56, n_57, n_59, n_64, n_70, n_97, n_99, n_100, n_104, n_118, n_122, n_126, n_127, n_128, n_129, n_130, n_150, n_255, n_600, n_1000, n_1050, n_1200, n_999999, n_1000000, iI_neg, iI_add, iI_sub, iI_mul, ile, ilt, ieq]
      rw [if_pos e3, hr]
      refine ⟨m', c', q1, q2, fun v h1 h2 => ?_, q4, q5⟩
      obtain ⟨r1, r2, r3⟩ := q3 v h1 h2
      exact ⟨r1, r2, by omega⟩
theorem sc_rounds (hfu : 100 ≤ fu) {k : Nat → List Ob → Option (Int32 × List Ob)} : ∀ (d n : Nat) (m : Mm) (i c : Int) (j : Nat), isNet m 2 N → i + d = 8 → 0 ≤ i → (j : Int) = i → d < n → (c = 0 ∨ c = 1) → dst m 259 N (rnds N D j) (4000 * i) → (c = 0 → rnds N D (j + 1) = rnds N D j) →
    ∃ m' J, f_X3_shortestCost_26 fu k n 258 D (iI c) (iI i) (mem w m) = k 258 (mem w m') ∧ sameP 259 m m' ∧ dst m' 259 N (rnds N D J) 40000 ∧ (8 ≤ J ∨ rnds N D (J + 1) = rnds N D J) := by
  have widen : ∀ {m : Mm} {g : Int → Int} {t t' : Int}, t ≤ t' → dst m 259 N g t → dst m 259 N g t' := fun h hg v h1 h2 => by
    obtain ⟨r1, r2, r3⟩ := hg v h1 h2
    exact ⟨r1, r2, by omega⟩
  intro d
  induction d with
  | zero =>
    intro n m i c j hN hi h0 hj hn hc hg hfix
    obtain ⟨n, rfl⟩ : ∃ k, n = k + 1 := ⟨n - 1, by omega⟩
    rw [f_X3_shortestCost_26, f_X3_shortestCost_26b]
    have hi8 : i = 8 := by omega
    simp (disch := omega) only [Option.bind_some, bd2_some, bdX_ok, bdX_er, nm_eq, n_0, n_1, n_2, n_3, n_4, n_5, n_6, n_7, n_8, n_9, n_10, n_11, n_12, n_14, n_15, n_16, n_17, n_18, n_19, n_20, n_21, n_24, n_27, n_28, n_32, n_43, n_45, n_48, n_56, n_57, n_59, n_64, n_70, n_97, n_99, n_100, n_104, n_118, n_122, n_126, n_127, n_128, n_129, n_130, n_150, n_255, n_600, n_1000, n_1050, n_1200, n_999999, n_1000000, iI_neg, iI_add, iI_sub, iI_mul, ile, ilt, ieq]
    rw [if_pos (show (8 : Int) ≤ i by omega)]
    exact ⟨m, j, rfl, sameP.rf, widen (by omega) hg, Or.inl (by omega)⟩
  | succ d ih =>
    intro n m i c j hN hi h0 hj hn hc hg hfix
    have hW := hN.2.2.1
    obtain ⟨n, rfl⟩ : ∃ k, n = k + 1 := ⟨n - 1, by omega⟩
    rw [f_X3_shortestCost_26, f_X3_shortestCost_26b]
    simp (disch := omega) only [Option.bind_some, bd2_some, bdX_ok, bdX_er, nm_eq, n_0, n_1, n_2, n_3, n_4, n_5, n_6, n_7, n_8, n_9, n_10, n_11, n_12, n_14, n_15, n_16, n_17, n_18, n_19, n_20, n_21, n_24, n_27, n_28, n_32, n_43, n_45, n_48, n_56, n_57, n_59, n_64, n_70, n_97, n_99, n_100, n_104, n_118, n_122, n_126, n_127, n_128, n_129, n_130, n_150, n_255, n_600, n_1000, n_1050, n_1200, n_999999, n_1000000, iI_neg, iI_add, iI_sub, iI_mul, ile, ilt, ieq]
    rw [if_neg (by omega)]
    rcases hc with rfl | rfl
    · rw [if_pos (by first | exact trivial | omega)]
      exact ⟨m, j, rfl, sameP.rf, widen (by omega) hg, Or.inr (hfix rfl)⟩
    · rw [if_neg (by first | exact not_false | omega)]
      obtain ⟨m', c', q1, q2, q3, q4, q5⟩ := sc_arcs (w := w) (D := D) (k := fun x1 x2 x3 x4 M5 => f_X3_shortestCost_122 fu x1 x2 x3 x4 M5 (fun a0 a1 a2 a3 M => f_X3_shortestCost_26 fu k n a0 a1 a2 a3 M) k) (nA N).toNat fu m (rnds N D j) 0 0 (4000 * i) (iI i) hN (by omega) (by omega) (by omega) (Or.inl rfl) hg (by omega) (by omega)
      rw [q1]
      unfold f_X3_shortestCost_122
      simp (disch := omega) only [Option.bind_some, bd2_some, bdX_ok, bdX_er, nm_eq, n_0, n_1, n_2, n_3, n_4, n_5, n_6, n_7, n_8, n_9, n_10, n_11, n_12, n_14, n_15, n_16, n_17, n_18, n_19, n_20, n_21, n_24, n_27, n_28, n_32, n_43, n_45, n_48, n_56, n_57, n_59, n_64, n_70, n_97, n_99, n_100, n_104, n_118, n_122, n_126, n_127, n_128, n_129, n_130, n_150, n_255, n_600, n_1000, n_1050, n_1200, n_999999, n_1000000, iI_neg, iI_add, iI_sub, iI_mul, ile, ilt, ieq]
      have hN' := q2.net (by decide) hN
      have e : (arF N 0).foldl (rel1 N D) (rnds N D j) = rnds N D (j + 1) := rfl
      rw [e] at q3 q5
      obtain ⟨m2, J, p1, p2, p3, p4⟩ := ih n m' (i + 1) c' (j + 1) hN' (by omega) (by omega) (by omega) (by omega) q4 (widen (by omega) q3) (fun h => by
        have h9 := (q5 h).2
        show (arF N 0).foldl (rel1 N D) (rnds N D (j + 1)) = _
        rw [h9]; exact h9)
      exact ⟨m2, J, p1, q2.trans p2, p3, p4⟩
/-- the class: -1 where there is no route -/
def spC (N : Nt) (D : Int32) : Int := if sp N D = 999999 then -1 else sp N D
theorem shortestCost_eq (hfu : 1000 ≤ fu) {m : Mm} (hN : isNet m 2 N) : ∃ m', f_X3_shortestCost fu 258 D (mem w m) = some (iI (spC N D), mem w m') ∧ sameP 259 m m' := by
  have hW := hN.2.2.1
  unfold f_X3_shortestCost
  simp (disch := omega) only [Option.bind_some, bd2_some, bdX_ok, bdX_er, nm_eq, n_0, n_1, n_2, n_3, n_4, n_5, n_6, n_7, n_8, n_9, n_10, n_11, n_12, n_14, n_15, n_16, n_17, n_18, n_19, n_20, n_21, n_24, n_27, n_28, n_32, n_43, n_45, n_48, n_56, n_57, n_59, n_64, n_70, n_97, n_99, n_100, n_104, n_118, n_122, n_126, n_127, n_128, n_129, n_130, n_150, n_255, n_600, n_1000, n_1050, n_1200, n_999999, n_1000000, iI_neg, iI_add, iI_sub, iI_mul, ile, ilt, ieq, G3_2, fill_eq (w := w) (fu := fu) (v := 1000000) (m := m) hfu sk259 (by decide)]
  have hs1 : sameP 259 m (fill1 m 259 1000000 0 8) := fun p hp => by funext k; unfold fill1; rw [if_neg (fun q => hp q.1)]
  have hN1 := hs1.net (by decide) hN
  have hN2 : isNet (up (fill1 m 259 1000000 0 8) 259 (nS N) 0) 2 N := sameP_up.net (by decide) hN1
  rw [show (((8 : Nat) : Int)) = 8 from rfl]
  simp (disch := omega) only [Option.bind_some, bd2_some, bdX_ok, bdX_er, nm_eq, n_0, n_1, n_2, n_3, n_4, n_5, n_6, n_7, n_8, n_9, n_10, n_11, n_12, n_14, n_15, n_16, n_17, n_18, n_19, n_20, n_21, n_24, n_27, n_28, n_32, n_43, n_45, n_48, n_56, n_57, n_59, n_64, n_70, n_97, n_99, n_100, n_104, n_118, n_122, n_126, n_127, n_128, n_129, n_130, n_150, n_255, n_600, n_1000, n_1050, n_1200, n_999999, n_1000000, iI_neg, iI_add, iI_sub, iI_mul, ile, ilt, ieq, G3_1, G3_2, K_has hN1, K_0 hN1, K_1 hN1, K_2 hN1, K_3 hN1, K_4 hN1, K_5 hN1, K_6 hN1, K_7 hN1, K_8 hN1, K_tl hN1, K_hd hN1, K_co hN1, K_ex hN1, D_set]
  obtain ⟨m', J, p1, p2, p3, p4⟩ := sc_rounds (w := w) (fu := fu) (D := D) (by omega) (k := fun x15 M16 => f_X3_shortestCost_128 fu x15 M16) 8 fu _ 0 1 0 hN2 (by omega) (by omega) rfl (by omega) (Or.inr rfl) (fun v h1 h2 => by
    show _ = inf (if v = nS N then 0 else 999999) ∧ 0 ≤ (if v = nS N then (0 : Int) else 999999) ∧ ((if v = nS N then (0 : Int) else 999999) = 999999 ∨ (if v = nS N then (0 : Int) else 999999) ≤ 4000 * 0)
    by_cases hv : v = nS N
    · rw [if_pos hv, hv, up_at]
      refine ⟨by decide, by omega, by omega⟩
    · rw [if_neg hv, up_off hv]
      refine ⟨?_, by omega, by omega⟩
      unfold fill1
      rw [if_pos (by omega)]
      rfl) (fun h => by omega)
  rw [p1]
  refine ⟨m', ?_, (hs1.trans sameP_up).trans p2⟩
  have hN3 := p2.net (by decide) hN2
  unfold f_X3_shortestCost_128
  obtain ⟨r1, r2, r3⟩ := p3 (nT N) (by omega) (by omega)
  rw [sp_of hN.2.2 p4] at r1 r2 r3
  have ir := inf_r r2 r3 (by omega)
  simp (disch := omega) only [Option.bind_some, bd2_some, bdX_ok, bdX_er, nm_eq, n_0, n_1, n_2, n_3, n_4, n_5, n_6, n_7, n_8, n_9, n_10, n_11, n_12, n_14, n_15, n_16, n_17, n_18, n_19, n_20, n_21, n_24, n_27, n_28, n_32, n_43, n_45, n_48, n_56, n_57, n_59, n_64, n_70, n_97, n_99, n_100, n_104, n_118, n_122, n_126, n_127, n_128, n_129, n_130, n_150, n_255, n_600, n_1000, n_1050, n_1200, n_999999, n_1000000, iI_neg, iI_add, iI_sub, iI_mul, ile, ilt, ieq, G3_1, G3_2, K_has hN3, K_0 hN3, K_1 hN3, K_2 hN3, K_3 hN3, K_4 hN3, K_5 hN3, K_6 hN3, K_7 hN3, K_8 hN3, K_tl hN3, K_hd hN3, K_co hN3, K_ex hN3, D_get, r1]
  unfold spC
  by_cases h : sp N D = 999999
  · rw [if_pos h, if_pos (by unfold inf; rw [if_pos h]; omega)]
  · rw [if_neg h]
    have e : inf (sp N D) = sp N D := if_neg h
    rw [e, if_neg (by omega)]
end SC
