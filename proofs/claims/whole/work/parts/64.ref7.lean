section RH
variable {w : Wl} {m m' : Mm} {z v k a : Int} {fu : Nat} {N : Nt} {D : Int32} {x x' : Sg} {H H' : List Sg} {l : List Int} {T : List (List Int)}
def isTr (m : Mm) (l : List Int) : Prop := l.length ≤ 7 ∧ ∀ (j : Nat) (a : Int), l[j]? = some a → m 289 j = a
/-- what a meeting leaves -/
def wS (m m' : Mm) : Prop := qS m m' ∧ m' 289 = m 289 ∧ m' 283 4 = m 283 4
theorem wS.rf : wS m m := ⟨qS.rf, rfl, rfl⟩
theorem wS.trans {m'' : Mm} (h : wS m m') (g : wS m' m'') : wS m m'' := ⟨h.1.trans g.1, g.2.1.trans h.2.1, g.2.2.trans h.2.2⟩
theorem wS_f (hk : k ≠ 3 ∧ k ≠ 4 ∧ k ≠ 6 ∧ k ≠ 14 ∧ k ≠ 27) : wS m (up m 283 k v) := ⟨qS_f (by omega), up_ne (by decide), up_off (by omega)⟩
theorem meets_mask {k32 : Nat → Int32 → Int32 → Int32 → Int32 → List Ob → Option (Unit × List Ob)} {a1 a2 : Int32} (hT : isTr m l) : ∀ (suf pre : List Int) (n : Nat) (D : Int32), l = pre ++ suf → suf.length < n → f_X11_meets_6 fu k32 n 283 a1 a2 (iI (l.length : Int)) D (iI (pre.length : Int)) (mem w m) = k32 283 a1 a2 (iI (l.length : Int)) (mkF suf D) (mem w m) := by
  obtain ⟨t1, t2⟩ := hT
  intro suf
  induction suf with
  | nil =>
    intro pre n D hs hn
    have hlen : l.length = pre.length := by rw [hs]; simp
    obtain ⟨n, rfl⟩ : ∃ k, n = k + 1 := ⟨n - 1, by omega⟩
    rw [f_X11_meets_6, f_X11_meets_6b]
    simp (disch := omega) only [n_69, n_50, n_13, Option.bind_some, bd2_some, bdX_ok, bdX_er, nm_eq, n_0, n_1, n_2, n_3, n_4, n_5, n_6, n_7, n_8, n_9, n_10, n_11, n_12, n_14, n_15, n_16, n_17, n_18, n_19, n_20, n_21, n_24, n_27, n_28, n_32, n_43, n_45, n_48, n_56, n_57, n_59, n_64, n_70, n_97, n_99, n_100, n_104, n_118, n_122, n_126, n_127, n_128, n_129, n_130, n_150, n_255, n_600, n_1000, n_1050, n_1200, n_999999, n_1000000, iI_neg, iI_add, iI_sub, iI_mul, ile, ilt, ieq]
    rw [if_pos (by omega)]
    rfl
  | cons c suf ih =>
    intro pre n D hs hn
    have hlen : l.length = pre.length + (suf.length + 1) := by rw [hs]; simp
    simp only [List.length_cons] at hn
    obtain ⟨n, rfl⟩ : ∃ k, n = k + 1 := ⟨n - 1, by omega⟩
    have hg : m 289 (pre.length : Int) = c := t2 pre.length c (by rw [hs]; exact mid_at)
    rw [f_X11_meets_6, f_X11_meets_6b]
    simp (disch := omega) only [n_69, n_50, n_13, Option.bind_some, bd2_some, bdX_ok, bdX_er, nm_eq, n_0, n_1, n_2, n_3, n_4, n_5, n_6, n_7, n_8, n_9, n_10, n_11, n_12, n_14, n_15, n_16, n_17, n_18, n_19, n_20, n_21, n_24, n_27, n_28, n_32, n_43, n_45, n_48, n_56, n_57, n_59, n_64, n_70, n_97, n_99, n_100, n_104, n_118, n_122, n_126, n_127, n_128, n_129, n_130, n_150, n_255, n_600, n_1000, n_1050, n_1200, n_999999, n_1000000, iI_neg, iI_add, iI_sub, iI_mul, ile, ilt, ieq, Z_has, Z_0, Z_1, Z_2, Z_5, Z_15, Z_17, Z_18, Z_24, Z_25, Z_26, Z_3, Z_4, Z_6, Z_7, Z_8, Z_9, Z_10, Z_11, Z_12, Z_13, Z_14, Z_16, Z_19, Z_20, Z_21, Z_22, Z_23, Z_27, Y_3, Y_4, Y_6, Y_7, Y_8, Y_9, Y_10, Y_11, Y_12, Y_13, Y_14, Y_16, Y_19, Y_20, Y_21, Y_22, Y_23, Y_27, A_g, A_s, up_at, up_ne, up_off, Tr_g, hg]
    rw [if_neg (by omega)]
    have := ih (pre ++ [c]) n (D ||| (1 <<< (iI c &&& 31))) (by rw [hs]; simp) (by omega)
    rw [show ((pre ++ [c]).length : Int) = (pre.length : Int) + 1 by simp] at this
    exact this
def stepC (N : Nt) (sort z : Int) (s : Int) (r : List Int) : Int := s + (if sort = 0 ∨ wst N r ≤ z then 1 else 0)
theorem meetsC (hfu : 100 ≤ fu) (h : RI m x H) (hl : RT (sN x) l) (hT : isTr m l) {sort s : Int} (hso : sort = 0 ∨ sort = 1) (hz : i32 z) (hs : m 283 19 = s) : ∃ m', f_X11_meets fu 283 (iI sort) (iI z) (iI (l.length : Int)) (mem w m) = some ((), mem w m') ∧ wS m m' ∧ m' 283 19 = stepC (sN x) sort z s l := by
  have hN := h.1.1
  have hpk := hl.pk hN.1
  have h7 := hT.1
  have hc : 0 ≤ wst (sN x) l ∧ wst (sN x) l ≤ 1386 := hl.cst hN.1
  have hz' := hz
  unfold i32 at hz'
  have hm := meets_mask (w := w) (fu := fu) (k32 := fun x1 x2 x3 x4 x5 M6 => f_X11_meets_32 fu x1 x2 x3 x4 x5 M6) (a1 := iI sort) (a2 := iI z) hT l [] fu 0 rfl (by omega)
  rw [show (([] : List Int).length : Int) = 0 from rfl] at hm
  unfold f_X11_meets
  rw [show (0 : Int32) = iI 0 from rfl] at hm ⊢
  rw [hm]
  unfold f_X11_meets_32 f_X11_meets_56 f_X11_meets_61
  have em : mkF l (iI 0) = mkA l := rfl
  rw [em]
  simp (disch := omega) only [n_69, n_50, n_13, Option.bind_some, bd2_some, bdX_ok, bdX_er, nm_eq, n_0, n_1, n_2, n_3, n_4, n_5, n_6, n_7, n_8, n_9, n_10, n_11, n_12, n_14, n_15, n_16, n_17, n_18, n_19, n_20, n_21, n_24, n_27, n_28, n_32, n_43, n_45, n_48, n_56, n_57, n_59, n_64, n_70, n_97, n_99, n_100, n_104, n_118, n_122, n_126, n_127, n_128, n_129, n_130, n_150, n_255, n_600, n_1000, n_1050, n_1200, n_999999, n_1000000, iI_neg, iI_add, iI_sub, iI_mul, ile, ilt, ieq, Z_has, Z_0, Z_1, Z_2, Z_5, Z_15, Z_17, Z_18, Z_24, Z_25, Z_26, Z_3, Z_4, Z_6, Z_7, Z_8, Z_9, Z_10, Z_11, Z_12, Z_13, Z_14, Z_16, Z_19, Z_20, Z_21, Z_22, Z_23, Z_27, Y_3, Y_4, Y_6, Y_7, Y_8, Y_9, Y_10, Y_11, Y_12, Y_13, Y_14, Y_16, Y_19, Y_20, Y_21, Y_22, Y_23, Y_27, A_g, A_s, up_at, up_ne, up_off, hs, wstR_eq (w := w) hfu hN hpk]
  rw [if_neg (by omega)]
  have ok : ∀ d, d = (if sort = 0 ∨ wst (sN x) l ≤ z then 1 else 0) → ∃ m', (some ((), mem w (up m 283 19 (s + d))) : Option (Unit × List Ob)) = some ((), mem w m') ∧ wS m m' ∧ m' 283 19 = stepC (sN x) sort z s l := fun d hd => ⟨_, rfl, wS_f (by omega), by rw [up_at, hd]; rfl⟩
  by_cases c0 : sort = 0
  · rw [if_pos c0]
    exact ok 1 (by rw [if_pos (Or.inl c0)])
  · rw [if_neg c0]
    by_cases c1 : z < wst (sN x) l
    · rw [if_pos c1]
      exact ok 0 (by rw [if_neg (by omega)])
    · rw [if_neg c1]
      exact ok 1 (by rw [if_pos (by omega)])
/-- the best route as the reference keeps it -/
def RB (m : Mm) (b : Bs) : Prop := (b.1 = [] ∧ m 283 19 = 0 ∧ m 283 20 = 0) ∨ (b.1 ≠ [] ∧ b.1.length ≤ 7 ∧ m 283 19 = 1 ∧ m 283 20 = b.1.length ∧ m 283 21 = b.2.1 ∧ m 283 22 = b.2.2.1 ∧ m 283 23 = b.2.2.2 ∧ BR b ∧ ∀ (j : Nat) (a : Int), b.1[j]? = some a → m 290 j = a)
theorem best_cp {r : List Int} (hr : r.length ≤ 7) : ∀ (d n : Nat) (m : Mm) (i : Int), i + d = r.length → 0 ≤ i → d < n → ∃ m', f_X11_meets_210 fu n 283 (iI (r.length : Int)) (iI i) (mem w m) = some ((), mem w m') ∧ (∀ q, q ≠ 290 → m' q = m q) ∧ ∀ k, m' 290 k = if i ≤ k ∧ k < r.length then m 289 k else m 290 k := by
  intro d
  induction d with
  | zero =>
    intro n m i hi hi0 hn
    obtain ⟨n, rfl⟩ : ∃ k, n = k + 1 := ⟨n - 1, by omega⟩
    rw [f_X11_meets_210, f_X11_meets_210b]
    simp (disch := omega) only [n_69, n_50, n_13, Option.bind_some, bd2_some, bdX_ok, bdX_er, nm_eq, n_0, n_1, n_2, n_3, n_4, n_5, n_6, n_7, n_8, n_9, n_10, n_11, n_12, n_14, n_15, n_16, n_17, n_18, n_19, n_20, n_21, n_24, n_27, n_28, n_32, n_43, n_45, n_48, n_56, n_57, n_59, n_64, n_70, n_97, n_99, n_100, n_104, n_118, n_122, n_126, n_127, n_128, n_129, n_130, n_150, n_255, n_600, n_1000, n_1050, n_1200, n_999999, n_1000000, iI_neg, iI_add, iI_sub, iI_mul, ile, ilt, ieq]
    rw [if_pos (by omega)]
    exact ⟨m, rfl, fun _ _ => rfl, fun k => by rw [if_neg (by omega)]⟩
  | succ d ih =>
    intro n m i hi hi0 hn
    obtain ⟨n, rfl⟩ : ∃ k, n = k + 1 := ⟨n - 1, by omega⟩
    rw [f_X11_meets_210, f_X11_meets_210b]
    simp (disch := omega) only [n_69, n_50, n_13, Option.bind_some, bd2_some, bdX_ok, bdX_er, nm_eq, n_0, n_1, n_2, n_3, n_4, n_5, n_6, n_7, n_8, n_9, n_10, n_11, n_12, n_14, n_15, n_16, n_17, n_18, n_19, n_20, n_21, n_24, n_27, n_28, n_32, n_43, n_45, n_48, n_56, n_57, n_59, n_64, n_70, n_97, n_99, n_100, n_104, n_118, n_122, n_126, n_127, n_128, n_129, n_130, n_150, n_255, n_600, n_1000, n_1050, n_1200, n_999999, n_1000000, iI_neg, iI_add, iI_sub, iI_mul, ile, ilt, ieq, Z_has, Z_0, Z_1, Z_2, Z_5, Z_15, Z_17, Z_18, Z_24, Z_25, Z_26, Z_3, Z_4, Z_6, Z_7, Z_8, Z_9, Z_10, Z_11, Z_12, Z_13, Z_14, Z_16, Z_19, Z_20, Z_21, Z_22, Z_23, Z_27, Y_3, Y_4, Y_6, Y_7, Y_8, Y_9, Y_10, Y_11, Y_12, Y_13, Y_14, Y_16, Y_19, Y_20, Y_21, Y_22, Y_23, Y_27, A_g, A_s, up_at, up_ne, up_off, Tr_g, Be_s]
    rw [if_neg (by omega)]
    obtain ⟨m', q1, q2, q3⟩ := ih n (up m 290 i (m 289 i)) (i + 1) (by omega) (by omega) (by omega)
    refine ⟨m', q1, fun q hq => by rw [q2 q hq, up_ne hq], fun k => ?_⟩
    rw [q3 k, up_ne (p := 290) (p' := 289) (by omega)]
    by_cases c : k = i
    · subst c; rw [if_neg (by omega), up_at, if_pos (by omega)]
    · rw [up_off c]
      by_cases c2 : i + 1 ≤ k ∧ k < r.length
      · rw [if_pos c2, if_pos (by omega)]
      · rw [if_neg c2, if_neg (by omega)]
theorem meets_take (hfu : 100 ≤ fu) (hT : isTr m l) (hne : l ≠ []) {reg wo pl : Int} (h1 : 0 ≤ reg ∧ reg ≤ 2000) (h2 : 0 ≤ wo ∧ wo ≤ 2000) (h3 : 0 ≤ pl ∧ pl ≤ 2000) : ∃ m', f_X11_meets_179 fu 283 (iI (l.length : Int)) (iI reg) (iI wo) (iI pl) (mem w m) = some ((), mem w m') ∧ wS m m' ∧ RB m' (l, reg, wo, pl) := by
  have h7 := hT.1
  obtain ⟨m', q1, q2, q3⟩ := best_cp (w := w) (fu := fu) h7 l.length fu (up (up (up (up (up m 283 19 1) 283 21 reg) 283 22 wo) 283 23 pl) 283 20 (l.length : Int)) 0 (by omega) (by omega) (by omega)
  unfold f_X11_meets_179
  simp (disch := omega) only [n_69, n_50, n_13, Option.bind_some, bd2_some, bdX_ok, bdX_er, nm_eq, n_0, n_1, n_2, n_3, n_4, n_5, n_6, n_7, n_8, n_9, n_10, n_11, n_12, n_14, n_15, n_16, n_17, n_18, n_19, n_20, n_21, n_24, n_27, n_28, n_32, n_43, n_45, n_48, n_56, n_57, n_59, n_64, n_70, n_97, n_99, n_100, n_104, n_118, n_122, n_126, n_127, n_128, n_129, n_130, n_150, n_255, n_600, n_1000, n_1050, n_1200, n_999999, n_1000000, iI_neg, iI_add, iI_sub, iI_mul, ile, ilt, ieq, Z_has, Z_0, Z_1, Z_2, Z_5, Z_15, Z_17, Z_18, Z_24, Z_25, Z_26, Z_3, Z_4, Z_6, Z_7, Z_8, Z_9, Z_10, Z_11, Z_12, Z_13, Z_14, Z_16, Z_19, Z_20, Z_21, Z_22, Z_23, Z_27, Y_3, Y_4, Y_6, Y_7, Y_8, Y_9, Y_10, Y_11, Y_12, Y_13, Y_14, Y_16, Y_19, Y_20, Y_21, Y_22, Y_23, Y_27, A_g, A_s, up_at, up_ne, up_off]
  refine ⟨m', q1, ⟨⟨fun p hp => ?_, ?_, ?_, ?_, ?_, ?_, ?_, ?_, ?_⟩, ?_, ?_⟩, Or.inr ⟨hne, h7, ?_, ?_, ?_, ?_, ?_, ?_, fun j a hj => ?_⟩⟩
  · rw [q2 p (by omega)]; simp (disch := omega) only [up_ne]
  · rw [q2 _ (by omega)]; simp (disch := omega) only [up_ne]
  · rw [q2 _ (by omega)]; simp (disch := omega) only [up_ne]
  · rw [q2 _ (by omega)]; simp (disch := omega) only [up_ne]
  · rw [q2 _ (by omega)]; simp (disch := omega) only [up_ne]
  · rw [q2 _ (by omega)]; simp (disch := omega) only [up_off]
  · rw [q2 _ (by omega)]; simp (disch := omega) only [up_off]
  · rw [q2 _ (by omega)]; simp (disch := omega) only [up_off]
  · rw [q2 _ (by omega)]; simp (disch := omega) only [up_off]
  · rw [q2 _ (by omega)]; simp (disch := omega) only [up_ne]
  · rw [q2 _ (by omega)]; simp (disch := omega) only [up_off]
  · rw [q2 _ (by omega)]; simp (disch := omega) only [up_off, up_at]
  · rw [q2 _ (by omega), up_at]
  · rw [q2 _ (by omega)]; simp (disch := omega) only [up_off, up_at]
  · rw [q2 _ (by omega)]; simp (disch := omega) only [up_off, up_at]
  · rw [q2 _ (by omega)]; simp (disch := omega) only [up_off, up_at]
  · unfold BR; simp only []; omega
  · have hj' := (List.getElem?_eq_some_iff.mp hj).1
    have hj'' : j < l.length := hj'
    rw [q3, if_pos (by omega)]
    simp (disch := omega) only [up_ne]
    exact hT.2 j a hj
theorem meetsB (hfu : 70000 ≤ fu) (h : RI m x H) (hG : WG x) (hl : RT (sN x) l) (hne : l ≠ []) (hT : isTr m l) {by_ : Int} (hby : by_ = 0 ∨ by_ = 1) {b : Bs} {zz : Int32} (hB : RB m b) : ∃ m', f_X11_meets fu 283 (iI (2 + by_)) zz (iI (l.length : Int)) (mem w m) = some ((), mem w m') ∧ wS m m' ∧ RB m' (stepB (sN x) (sR x) by_ b l) := by
  have hN := h.1.1
  have hpk := hl.pk hN.1
  have h7 := hT.1
  have hc : 0 ≤ wst (sN x) l ∧ wst (sN x) l ≤ 1386 := hl.cst hN.1
  have hc0 : 0 ≤ cst (sN x) l 0 ∧ cst (sN x) l 0 ≤ 1386 := hl.cst hN.1
  have hrg := rgF_r hN.1 hG.rt (told := 0) hl (Or.inl rfl)
  have hm := meets_mask (w := w) (fu := fu) (k32 := fun x1 x2 x3 x4 x5 M6 => f_X11_meets_32 fu x1 x2 x3 x4 x5 M6) (a1 := iI (2 + by_)) (a2 := zz) hT l [] fu 0 rfl (by omega)
  rw [show (([] : List Int).length : Int) = 0 from rfl] at hm
  -- what is done with the three numbers
  have rest : ∀ (m1 : Mm) (reg : Int), wS m m1 → RB m1 b → reg = rgK (sN x) (sR x) by_ l → ∃ m', f_X11_meets_82 fu 283 (iI (l.length : Int)) (mkA l) (iI reg) (mem w m1) = some ((), mem w m') ∧ wS m m' ∧ RB m' (stepB (sN x) (sR x) by_ b l) := by
    intro m1 reg hw1 hB1 hreg
    have h1 := h.q hw1.1
    have hN1 := h1.1.1
    have hT1 : isTr m1 l := ⟨h7, fun j a hj => by rw [hw1.2.1]; exact hT.2 j a hj⟩
    have hreg2 : 0 ≤ reg ∧ reg ≤ 1386 := by
      rw [hreg]; unfold rgK; split
      · omega
      · omega
    obtain ⟨pl, hpl⟩ : ∃ pl, pl = cst (sN x) l 0 := ⟨_, rfl⟩
    obtain ⟨m2, t1, t2, t3⟩ := meets_take (w := w) (fu := fu) (show 100 ≤ fu by omega) hT1 hne (reg := reg) (wo := wst (sN x) l) (pl := pl) (by omega) (by omega) (by omega)
    have cs0 : f_X11_costOf fu 283 (mkA l) (iI 0) (mem w m1) = some (iI pl, mem w m1) := by
      rw [hpl]
      exact costOf_eq (w := w) (D := 0) (show 100 ≤ fu by omega) hN1 hpk
    unfold f_X11_meets_82 f_X11_meets_127 f_X11_meets_146 f_X11_meets_164
    simp (maxSteps := 3000000) (disch := omega) only [n_69, n_50, n_13, Option.bind_some, bd2_some, bdX_ok, bdX_er, nm_eq, n_0, n_1, n_2, n_3, n_4, n_5, n_6, n_7, n_8, n_9, n_10, n_11, n_12, n_14, n_15, n_16, n_17, n_18, n_19, n_20, n_21, n_24, n_27, n_28, n_32, n_43, n_45, n_48, n_56, n_57, n_59, n_64, n_70, n_97, n_99, n_100, n_104, n_118, n_122, n_126, n_127, n_128, n_129, n_130, n_150, n_255, n_600, n_1000, n_1050, n_1200, n_999999, n_1000000, iI_neg, iI_add, iI_sub, iI_mul, ile, ilt, ieq, Z_has, Z_0, Z_1, Z_2, Z_5, Z_15, Z_17, Z_18, Z_24, Z_25, Z_26, Z_3, Z_4, Z_6, Z_7, Z_8, Z_9, Z_10, Z_11, Z_12, Z_13, Z_14, Z_16, Z_19, Z_20, Z_21, Z_22, Z_23, Z_27, Y_3, Y_4, Y_6, Y_7, Y_8, Y_9, Y_10, Y_11, Y_12, Y_13, Y_14, Y_16, Y_19, Y_20, Y_21, Y_22, Y_23, Y_27, A_g, A_s, up_at, up_ne, up_off, wstR_eq (w := w) (show 100 ≤ fu by omega) hN1 hpk, cs0]
    rcases hB1 with ⟨b1, b2, b3⟩ | ⟨b1, b2, b3, b4, b5, b6, b7, b8, b9⟩
    · -- nothing is kept yet
      rw [b2]
      simp (disch := omega) only [n_69, n_50, n_13, Option.bind_some, bd2_some, bdX_ok, bdX_er, nm_eq, n_0, n_1, n_2, n_3, n_4, n_5, n_6, n_7, n_8, n_9, n_10, n_11, n_12, n_14, n_15, n_16, n_17, n_18, n_19, n_20, n_21, n_24, n_27, n_28, n_32, n_43, n_45, n_48, n_56, n_57, n_59, n_64, n_70, n_97, n_99, n_100, n_104, n_118, n_122, n_126, n_127, n_128, n_129, n_130, n_150, n_255, n_600, n_1000, n_1050, n_1200, n_999999, n_1000000, iI_neg, iI_add, iI_sub, iI_mul, ile, ilt, ieq]
      have e : stepB (sN x) (sR x) by_ b l = (l, reg, wst (sN x) l, pl) := by unfold stepB; rw [if_pos (Or.inl b1), hreg, hpl]
      have all : ∀ (p1 p2 p3 : Prop) [Decidable p1] [Decidable p2] [Decidable p3] (A B C D1 : Option (Unit × List Ob)), A = some ((), mem w m2) → B = some ((), mem w m2) → C = some ((), mem w m2) → D1 = some ((), mem w m2) → (if p1 then (if p2 then (if p3 then A else B) else C) else D1) = some ((), mem w m2) := by
        intro p1 p2 p3 _ _ _ A B C D1 hA hB hC hD
        split
        · split
          · split <;> assumption
          · assumption
        · assumption
      rw [e]
      refine ⟨m2, ?_, hw1.trans t2, t3⟩
      simp only [if_pos (show (0 : Int) ≤ 0 from Int.le_refl _), t1, ite_self]
    · obtain ⟨B1, B2, B3, B4, B5, B6⟩ := b8
      rw [b3, b4, b5, b6, b7]
      simp (disch := omega) only [n_69, n_50, n_13, Option.bind_some, bd2_some, bdX_ok, bdX_er, nm_eq, n_0, n_1, n_2, n_3, n_4, n_5, n_6, n_7, n_8, n_9, n_10, n_11, n_12, n_14, n_15, n_16, n_17, n_18, n_19, n_20, n_21, n_24, n_27, n_28, n_32, n_43, n_45, n_48, n_56, n_57, n_59, n_64, n_70, n_97, n_99, n_100, n_104, n_118, n_122, n_126, n_127, n_128, n_129, n_130, n_150, n_255, n_600, n_1000, n_1050, n_1200, n_999999, n_1000000, iI_neg, iI_add, iI_sub, iI_mul, ile, ilt, ieq]
      have keep : ∀ (hn : ¬ (b.1 = [] ∨ (if rgK (sN x) (sR x) by_ l = b.2.1 then (if wst (sN x) l = b.2.2.1 then (if pl = b.2.2.2 then l.length < b.1.length else pl < b.2.2.2) else wst (sN x) l < b.2.2.1) else rgK (sN x) (sR x) by_ l < b.2.1))), ∃ m', (some ((), mem w m1) : Option (Unit × List Ob)) = some ((), mem w m') ∧ wS m m' ∧ RB m' (stepB (sN x) (sR x) by_ b l) := fun hn => by
        refine ⟨m1, rfl, hw1, ?_⟩
        unfold stepB
        rw [← hpl, if_neg hn]
        exact Or.inr ⟨b1, b2, b3, b4, b5, b6, b7, ⟨B1, B2, B3, B4, B5, B6⟩, b9⟩
      have take : ∀ (hy : (b.1 = [] ∨ (if rgK (sN x) (sR x) by_ l = b.2.1 then (if wst (sN x) l = b.2.2.1 then (if pl = b.2.2.2 then l.length < b.1.length else pl < b.2.2.2) else wst (sN x) l < b.2.2.1) else rgK (sN x) (sR x) by_ l < b.2.1))), ∃ m', f_X11_meets_179 fu 283 (iI (l.length : Int)) (iI reg) (iI (wst (sN x) l)) (iI (pl)) (mem w m1) = some ((), mem w m') ∧ wS m m' ∧ RB m' (stepB (sN x) (sR x) by_ b l) := fun hy => by
        refine ⟨m2, t1, hw1.trans t2, ?_⟩
        unfold stepB
        rw [← hpl, if_pos hy, ← hreg]
        exact t3
      rw [← hreg] at keep take
      simp only [show ¬ (1 : Int) ≤ 0 by omega, ↓reduceIte]
      by_cases c1 : reg = b.2.1
      · rw [if_pos (show reg - b.2.1 = 0 by omega)]
        rw [if_pos c1] at keep take
        by_cases c2 : wst (sN x) l = b.2.2.1
        · rw [if_pos (show wst (sN x) l - b.2.2.1 = 0 by omega)]
          rw [if_pos c2] at keep take
          by_cases c3 : pl = b.2.2.2
          · rw [if_pos (show pl - b.2.2.2 = 0 by omega)]
            rw [if_pos c3] at keep take
            by_cases c4 : l.length < b.1.length
            · rw [if_pos (by omega)]; exact take (Or.inr c4)
            · rw [if_neg (by omega)]; exact keep (fun q => by rcases q with q | q; exact b1 q; exact c4 q)
          · rw [if_neg (show ¬ pl - b.2.2.2 = 0 by omega)]
            rw [if_neg c3] at keep take
            by_cases c4 : pl < b.2.2.2
            · rw [if_pos (by omega)]; exact take (Or.inr c4)
            · rw [if_neg (by omega)]; exact keep (fun q => by rcases q with q | q; exact b1 q; exact c4 q)
        · rw [if_neg c2] at keep take
          simp only [show ¬ wst (sN x) l - b.2.2.1 = 0 by omega, ↓reduceIte]
          by_cases c4 : wst (sN x) l < b.2.2.1
          · rw [if_pos (by omega)]; exact take (Or.inr c4)
          · rw [if_neg (by omega)]; exact keep (fun q => by rcases q with q | q; exact b1 q; exact c4 q)
      · simp only [show ¬ reg - b.2.1 = 0 by omega, ↓reduceIte]
        rw [if_neg c1] at keep take
        by_cases c4 : reg < b.2.1
        · rw [if_pos (by omega)]; exact take (Or.inr c4)
        · rw [if_neg (by omega)]; exact keep (fun q => by rcases q with q | q; exact b1 q; exact c4 q)
  unfold f_X11_meets
  rw [show (0 : Int32) = iI 0 from rfl] at hm ⊢
  rw [hm]
  unfold f_X11_meets_32
  have em : mkF l (iI 0) = mkA l := rfl
  rw [em]
  simp (disch := omega) only [n_69, n_50, n_13, Option.bind_some, bd2_some, bdX_ok, bdX_er, nm_eq, n_0, n_1, n_2, n_3, n_4, n_5, n_6, n_7, n_8, n_9, n_10, n_11, n_12, n_14, n_15, n_16, n_17, n_18, n_19, n_20, n_21, n_24, n_27, n_28, n_32, n_43, n_45, n_48, n_56, n_57, n_59, n_64, n_70, n_97, n_99, n_100, n_104, n_118, n_122, n_126, n_127, n_128, n_129, n_130, n_150, n_255, n_600, n_1000, n_1050, n_1200, n_999999, n_1000000, iI_neg, iI_add, iI_sub, iI_mul, ile, ilt, ieq]
  rw [if_pos (by omega)]
  rcases hby with rfl | rfl
  · rw [if_neg (by omega)]
    exact rest m 0 wS.rf hB rfl
  · rw [if_pos (by omega)]
    obtain ⟨m1, p1, p2, p3, p4⟩ := regR_eq (w := w) (told := 0) hfu hN h.1.2.1 hl hG.rt (Or.inl rfl)
    simp (disch := omega) only [n_69, n_50, n_13, Option.bind_some, bd2_some, bdX_ok, bdX_er, nm_eq, n_0, n_1, n_2, n_3, n_4, n_5, n_6, n_7, n_8, n_9, n_10, n_11, n_12, n_14, n_15, n_16, n_17, n_18, n_19, n_20, n_21, n_24, n_27, n_28, n_32, n_43, n_45, n_48, n_56, n_57, n_59, n_64, n_70, n_97, n_99, n_100, n_104, n_118, n_122, n_126, n_127, n_128, n_129, n_130, n_150, n_255, n_600, n_1000, n_1050, n_1200, n_999999, n_1000000, iI_neg, iI_add, iI_sub, iI_mul, ile, ilt, ieq, Z_has, Z_0, Z_1, Z_2, Z_5, Z_15, Z_17, Z_18, Z_24, Z_25, Z_26, Z_3, Z_4, Z_6, Z_7, Z_8, Z_9, Z_10, Z_11, Z_12, Z_13, Z_14, Z_16, Z_19, Z_20, Z_21, Z_22, Z_23, Z_27, Y_3, Y_4, Y_6, Y_7, Y_8, Y_9, Y_10, Y_11, Y_12, Y_13, Y_14, Y_16, Y_19, Y_20, Y_21, Y_22, Y_23, Y_27, A_g, A_s, up_at, up_ne, up_off, p1]
    refine rest m1 _ ⟨qS_reg p2 p3, p2 _ (by decide) (by decide), p3 _ (by decide)⟩ ?_ rfl
    rcases hB with ⟨b1, b2, b3⟩ | ⟨b1, b2, b3, b4, b5, b6, b7, b8, b9⟩
    · exact Or.inl ⟨b1, by rw [p3 _ (by decide)]; exact b2, by rw [p3 _ (by decide)]; exact b3⟩
    · exact Or.inr ⟨b1, b2, by rw [p3 _ (by decide)]; exact b3, by rw [p3 _ (by decide)]; exact b4, by rw [p3 _ (by decide)]; exact b5, by rw [p3 _ (by decide)]; exact b6, by rw [p3 _ (by decide)]; exact b7, b8, fun j a hj => by rw [p2 290 (by decide) (by decide)]; exact b9 j a hj⟩
/-- the walk: whatever is done with each route -/
def kS (n : Int) (m m' : Mm) : Prop := qS m m' ∧ m' 283 4 = m 283 4 ∧ ∀ k, k < n → m' 289 k = m 289 k
theorem kS.trans {n n' : Int} {m'' : Mm} (h : kS n m m') (g : kS n' m' m'') (hn : n ≤ n') : kS n m m'' := ⟨h.1.trans g.1, g.2.1.trans h.2.1, fun k hk => (g.2.2 k (by omega)).trans (h.2.2 k hk)⟩
theorem walks_go {σ : Type} {P : Mm → σ → Prop} {step : σ → List Int → σ} {so zz : Int32} (hP : ∀ m s k v, P m s → P (up m 289 k v) s) (hfu : 100 ≤ fu) (hmeet : ∀ (m : Mm) (s : σ) (r : List Int), RI m x H → RT (sN x) r → r ≠ [] → isTr m r → P m s → ∃ m', f_X11_meets fu 283 so zz (iI (r.length : Int)) (mem w m) = some ((), mem w m') ∧ wS m m' ∧ P m' (step s r)) : ∀ (d : Nat) (l : List Int) (seen : Int32), l.length + d = 8 → pOK (sN x) l → endOf (sN x) l ≠ nT (sN x) → (∀ v, 0 ≤ v → v < 8 → bt seen v = b2 (hasNd (sN x) l v)) → ∀ (e n : Nat) (f : Int) (m : Mm) (s : σ), nA (sN x) - f = e → 0 ≤ f → e < n → RI m x H → isTr m l → P m s → ∃ m', f_X11_walks_22 fu (fun a0 a1 a2 a3 a4 a5 M => f_X11_walks fu d a0 a1 a2 a3 a4 a5 M) n 283 so zz (iI (endOf (sN x) l)) seen (iI (l.length : Int)) (iI f) (mem w m) = some ((), mem w m') ∧ kS l.length m m' ∧ P m' ((ext (sN x) d l (arF (sN x) f)).foldl step s) := by
  intro d
  induction d with
  | zero =>
    intro l seen hd hp _ _ e n f m s _ _ _ hI _ _
    have := pOK_len hI.1.1.1 hp
    omega
  | succ d ihd =>
    intro l seen hd hp hne hseen e
    induction e with
    | zero =>
      intro n f m s he h0 hn hI hT hPm
      have hw := hI.1.1.1.1
      obtain ⟨n, rfl⟩ : ∃ k, n = k + 1 := ⟨n - 1, by omega⟩
      rw [f_X11_walks_22, f_X11_walks_22b, arF_nil (by omega)]
      simp (disch := omega) only [n_69, n_50, n_13, Option.bind_some, bd2_some, bdX_ok, bdX_er, nm_eq, n_0, n_1, n_2, n_3, n_4, n_5, n_6, n_7, n_8, n_9, n_10, n_11, n_12, n_14, n_15, n_16, n_17, n_18, n_19, n_20, n_21, n_24, n_27, n_28, n_32, n_43, n_45, n_48, n_56, n_57, n_59, n_64, n_70, n_97, n_99, n_100, n_104, n_118, n_122, n_126, n_127, n_128, n_129, n_130, n_150, n_255, n_600, n_1000, n_1050, n_1200, n_999999, n_1000000, iI_neg, iI_add, iI_sub, iI_mul, ile, ilt, ieq, Z_has, Z_0, Z_1, Z_2, Z_5, Z_15, Z_17, Z_18, Z_24, Z_25, Z_26, Z_3, Z_4, Z_6, Z_7, Z_8, Z_9, Z_10, Z_11, Z_12, Z_13, Z_14, Z_16, Z_19, Z_20, Z_21, Z_22, Z_23, Z_27, Y_3, Y_4, Y_6, Y_7, Y_8, Y_9, Y_10, Y_11, Y_12, Y_13, Y_14, Y_16, Y_19, Y_20, Y_21, Y_22, Y_23, Y_27, A_g, A_s, up_at, up_ne, up_off, hI.1.1.2.1.2.2.2.2]
      rw [if_pos (by omega)]
      exact ⟨m, rfl, ⟨qS.rf, rfl, fun _ _ => rfl⟩, by simpa [ext] using hPm⟩
    | succ e ihe =>
      intro n f m s he h0 hn hI hT hPm
      have hN := hI.1.1
      have hw := hN.1.1
      obtain ⟨n, rfl⟩ : ∃ k, n = k + 1 := ⟨n - 1, by omega⟩
      have hf : f < nA (sN x) := by omega
      have hA := hN.1.arc h0 hf
      have hE := endOf_nn hN.1 (pOK_AOK hp)
      have h7 := pOK_len hN.1 hp
      rw [f_X11_walks_22, f_X11_walks_22b, arF_cons hf]
      unfold f_X11_walks_100
      have hh := hseen (aHd (sN x) f) (by omega) (by omega)
      simp (disch := omega) only [n_69, n_50, n_13, Option.bind_some, bd2_some, bdX_ok, bdX_er, nm_eq, n_0, n_1, n_2, n_3, n_4, n_5, n_6, n_7, n_8, n_9, n_10, n_11, n_12, n_14, n_15, n_16, n_17, n_18, n_19, n_20, n_21, n_24, n_27, n_28, n_32, n_43, n_45, n_48, n_56, n_57, n_59, n_64, n_70, n_97, n_99, n_100, n_104, n_118, n_122, n_126, n_127, n_128, n_129, n_130, n_150, n_255, n_600, n_1000, n_1050, n_1200, n_999999, n_1000000, iI_neg, iI_add, iI_sub, iI_mul, ile, ilt, ieq, Z_has, Z_0, Z_1, Z_2, Z_5, Z_15, Z_17, Z_18, Z_24, Z_25, Z_26, Z_3, Z_4, Z_6, Z_7, Z_8, Z_9, Z_10, Z_11, Z_12, Z_13, Z_14, Z_16, Z_19, Z_20, Z_21, Z_22, Z_23, Z_27, Y_3, Y_4, Y_6, Y_7, Y_8, Y_9, Y_10, Y_11, Y_12, Y_13, Y_14, Y_16, Y_19, Y_20, Y_21, Y_22, Y_23, Y_27, A_g, A_s, up_at, up_ne, up_off, hN.2.1.2.2.2.2, of_0 hN h0 hf, of_1 hN h0 hf, hasR_eq (w := w) (m := m) (fu := fu) (D := seen) (show 0 ≤ aHd (sN x) f by omega) (show aHd (sN x) f < 32 by omega), hh]
      rw [if_neg (by omega)]
      have skip : canFol (sN x) l f = false → ∃ m', f_X11_walks_22 fu (fun a0 a1 a2 a3 a4 a5 M => f_X11_walks fu (d + 1) a0 a1 a2 a3 a4 a5 M) n 283 so zz (iI (endOf (sN x) l)) seen (iI (l.length : Int)) (iI (f + 1)) (mem w m) = some ((), mem w m') ∧ kS l.length m m' ∧ P m' ((ext (sN x) (d + 1) l (f :: arF (sN x) (f + 1))).foldl step s) := fun hc => by
        rw [(ext_skip hc).1]
        exact ihe n (f + 1) m s (by omega) (by omega) (by omega) hI hT hPm
      by_cases c1 : aTl (sN x) f = endOf (sN x) l
      · rw [if_pos c1]
        cases c2 : hasNd (sN x) l (aHd (sN x) f) with
        | true =>
          rw [show b2 true = 1 from rfl, if_neg (by decide)]
          exact skip (by unfold canFol; rw [if_pos c1.symm, if_neg hne, c2]; rfl)
        | false =>
          rw [show b2 false = 0 from rfl, if_pos (by decide)]
          have hc : canFol (sN x) l f = true := by unfold canFol; rw [if_pos c1.symm, if_neg hne, c2]; rfl
          have hp2 := pOK_snoc hp h0 hf hc
          have h6 := pOK_len6 hN.1 hp h0 hf hc
          have hlen : (l ++ [f]).length = l.length + 1 := by simp
          -- the trail with this arc
          have hI1 : RI (up m 289 (l.length : Int) f) x H := hI.q (qS_r (by omega))
          have hT1 : isTr (up m 289 (l.length : Int) f) (l ++ [f]) := ⟨by omega, fun j a hj => by
            have hj' : j < l.length + 1 := by have := (List.getElem?_eq_some_iff.mp hj).1; omega
            by_cases q : j = l.length
            · subst q; rw [up_at]; simpa using hj
            · rw [up_off (by omega)]
              rw [List.getElem?_append_left (by omega)] at hj
              exact hT.2 j a hj⟩
          have hk1 : kS l.length m (up m 289 (l.length : Int) f) := ⟨qS_r (by omega), by rw [up_ne (by decide)], fun k hk => up_off (by omega)⟩
          have hN1 := hI1.1.1
          simp (disch := omega) only [n_69, n_50, n_13, Option.bind_some, bd2_some, bdX_ok, bdX_er, nm_eq, n_0, n_1, n_2, n_3, n_4, n_5, n_6, n_7, n_8, n_9, n_10, n_11, n_12, n_14, n_15, n_16, n_17, n_18, n_19, n_20, n_21, n_24, n_27, n_28, n_32, n_43, n_45, n_48, n_56, n_57, n_59, n_64, n_70, n_97, n_99, n_100, n_104, n_118, n_122, n_126, n_127, n_128, n_129, n_130, n_150, n_255, n_600, n_1000, n_1050, n_1200, n_999999, n_1000000, iI_neg, iI_add, iI_sub, iI_mul, ile, ilt, ieq, Z_has, Z_0, Z_1, Z_2, Z_5, Z_15, Z_17, Z_18, Z_24, Z_25, Z_26, Z_3, Z_4, Z_6, Z_7, Z_8, Z_9, Z_10, Z_11, Z_12, Z_13, Z_14, Z_16, Z_19, Z_20, Z_21, Z_22, Z_23, Z_27, Y_3, Y_4, Y_6, Y_7, Y_8, Y_9, Y_10, Y_11, Y_12, Y_13, Y_14, Y_16, Y_19, Y_20, Y_21, Y_22, Y_23, Y_27, A_g, A_s, up_at, up_ne, up_off, Tr_s, of_1 hN1 h0 hf]
          -- one level deeper
          have deep : ∃ m2, f_X11_walks fu (d + 1) 283 so zz (iI (aHd (sN x) f)) (seen ||| (1 <<< (iI (aHd (sN x) f) &&& 31))) (iI ((l.length : Int) + 1)) (mem w (up m 289 (l.length : Int) f)) = some ((), mem w m2) ∧ kS (l.length + 1) (up m 289 (l.length : Int) f) m2 ∧ P m2 ((if aHd (sN x) f = nT (sN x) then [l ++ [f]] else ext (sN x) d (l ++ [f]) (arF (sN x) 0)).foldl step s) := by
            rw [f_X11_walks, f_X11_walks_0]
            simp (disch := omega) only [n_69, n_50, n_13, Option.bind_some, bd2_some, bdX_ok, bdX_er, nm_eq, n_0, n_1, n_2, n_3, n_4, n_5, n_6, n_7, n_8, n_9, n_10, n_11, n_12, n_14, n_15, n_16, n_17, n_18, n_19, n_20, n_21, n_24, n_27, n_28, n_32, n_43, n_45, n_48, n_56, n_57, n_59, n_64, n_70, n_97, n_99, n_100, n_104, n_118, n_122, n_126, n_127, n_128, n_129, n_130, n_150, n_255, n_600, n_1000, n_1050, n_1200, n_999999, n_1000000, iI_neg, iI_add, iI_sub, iI_mul, ile, ilt, ieq, Z_has, Z_0, Z_1, Z_2, Z_5, Z_15, Z_17, Z_18, Z_24, Z_25, Z_26, Z_3, Z_4, Z_6, Z_7, Z_8, Z_9, Z_10, Z_11, Z_12, Z_13, Z_14, Z_16, Z_19, Z_20, Z_21, Z_22, Z_23, Z_27, Y_3, Y_4, Y_6, Y_7, Y_8, Y_9, Y_10, Y_11, Y_12, Y_13, Y_14, Y_16, Y_19, Y_20, Y_21, Y_22, Y_23, Y_27, A_g, A_s, up_at, up_ne, up_off, hN.2.1.2.2.1, hN1.2.1.2.2.1]
            by_cases c3 : aHd (sN x) f = nT (sN x)
            · rw [if_pos c3, if_pos c3]
              obtain ⟨m2, q1, q2, q3⟩ := hmeet _ s (l ++ [f]) hI1 ⟨hp2, by rw [endOf_snoc]; exact c3⟩ (by simp) hT1 (hP m s _ _ hPm)
              rw [show ((l ++ [f]).length : Int) = (l.length : Int) + 1 by simp] at q1
              rw [q1, bd2_some]
              exact ⟨m2, rfl, ⟨q2.1, q2.2.2, fun k _ => by rw [q2.2.1]⟩, q3⟩
            · rw [if_neg c3, if_neg c3]
              have hsn : ∀ v, 0 ≤ v → v < 8 → bt (seen ||| (1 <<< (iI (aHd (sN x) f) &&& 31))) v = b2 (hasNd (sN x) (l ++ [f]) v) := fun v v0 v1 => by
                rw [bt_or (by omega) (by omega) v0 (by omega), hasNd_snoc, hseen v v0 v1]
                by_cases q : v = aHd (sN x) f
                · rw [if_pos q]; simp [q, b2]
                · rw [if_neg q]
                  have : ¬ aHd (sN x) f = v := fun e => q e.symm
                  simp [this]
              obtain ⟨m2, q1, q2, q3⟩ := ihd (l ++ [f]) _ (by omega) hp2 (by rw [endOf_snoc]; exact c3) hsn (nA (sN x)).toNat fu 0 _ s (by omega) (by omega) (by omega) hI1 hT1 (hP m s _ _ hPm)
              rw [show ((l ++ [f]).length : Int) = (l.length : Int) + 1 by simp, endOf_snoc] at q1
              rw [show ((l ++ [f]).length : Int) = (l.length : Int) + 1 by simp] at q2
              exact ⟨m2, q1, q2, q3⟩
          obtain ⟨m2, r1, r2, r3⟩ := deep
          rw [show (1 : Int32) = iI 1 from rfl] at r1
          rw [r1, bd2_some]
          have hk2 : kS l.length m m2 := hk1.trans r2 (by omega)
          obtain ⟨m3, t1, t2, t3⟩ := ihe n (f + 1) m2 _ (by omega) (by omega) (by omega) (hI.q hk2.1) ⟨hT.1, fun j a hj => by
            have := (List.getElem?_eq_some_iff.mp hj).1
            rw [hk2.2.2 j (by omega)]; exact hT.2 j a hj⟩ r3
          rw [(ext_step hc).1, List.foldl_append]
          exact ⟨m3, t1, hk2.trans t2 (Int.le_refl _), t3⟩
      · rw [if_neg c1]
        exact skip (by unfold canFol; rw [if_neg (fun q => c1 q.symm)])
theorem walksAll_eq {σ : Type} {P : Mm → σ → Prop} {step : σ → List Int → σ} {so zz : Int32} {s : σ} (hP : ∀ m s k v, P m s → P (up m 289 k v) s) (hfu : 100 ≤ fu) (hmeet : ∀ (m : Mm) (s : σ) (r : List Int), RI m x H → RT (sN x) r → r ≠ [] → isTr m r → P m s → ∃ m', f_X11_meets fu 283 so zz (iI (r.length : Int)) (mem w m) = some ((), mem w m') ∧ wS m m' ∧ P m' (step s r)) (h : RI m x H) (h0 : P (up (up m 283 19 0) 283 20 0) s) : ∃ m', f_X11_walksAll fu 283 so zz (mem w m) = some (iI (m' 283 19), mem w m') ∧ qS m m' ∧ m' 283 4 = m 283 4 ∧ P m' ((routesOf (sN x)).foldl step s) := by
  have hN := h.1.1
  have hw := hN.1.1
  have hq : qS m (up (up m 283 19 0) 283 20 0) := (qS_f (by omega)).trans (qS_f (by omega))
  have h1 := h.q hq
  have hsn : ∀ v, 0 ≤ v → v < 8 → bt (1 <<< (iI (nS (sN x)) &&& 31)) v = b2 (hasNd (sN x) [] v) := fun v v0 v1 => by
    have := bt_or (D := 0) (a := nS (sN x)) (b := v) (by omega) (by omega) v0 (by omega)
    rw [Int32.zero_or] at this
    rw [this, bt_zero]
    unfold hasNd b2
    by_cases q : v = nS (sN x)
    · rw [if_pos q]; simp [q]
    · rw [if_neg q]; simp [q]
  obtain ⟨m', q1, q2, q3⟩ := walks_go (w := w) (fu := fu) (x := x) (H := H) (so := so) (zz := zz) hP hfu hmeet 8 [] (1 <<< (iI (nS (sN x)) &&& 31)) rfl pOK_nil (by rw [endOf_nil]; omega) hsn (nA (sN x)).toNat fu 0 _ s (by omega) (by omega) (by omega) h1 ⟨by simp, fun j a hj => by simp at hj⟩ h0
  rw [show (([] : List Int).length : Int) = 0 from rfl, endOf_nil] at q1
  unfold f_X11_walksAll
  simp (disch := omega) only [n_69, n_50, n_13, Option.bind_some, bd2_some, bdX_ok, bdX_er, nm_eq, n_0, n_1, n_2, n_3, n_4, n_5, n_6, n_7, n_8, n_9, n_10, n_11, n_12, n_14, n_15, n_16, n_17, n_18, n_19, n_20, n_21, n_24, n_27, n_28, n_32, n_43, n_45, n_48, n_56, n_57, n_59, n_64, n_70, n_97, n_99, n_100, n_104, n_118, n_122, n_126, n_127, n_128, n_129, n_130, n_150, n_255, n_600, n_1000, n_1050, n_1200, n_999999, n_1000000, iI_neg, iI_add, iI_sub, iI_mul, ile, ilt, ieq, Z_has, Z_0, Z_1, Z_2, Z_5, Z_15, Z_17, Z_18, Z_24, Z_25, Z_26, Z_3, Z_4, Z_6, Z_7, Z_8, Z_9, Z_10, Z_11, Z_12, Z_13, Z_14, Z_16, Z_19, Z_20, Z_21, Z_22, Z_23, Z_27, Y_3, Y_4, Y_6, Y_7, Y_8, Y_9, Y_10, Y_11, Y_12, Y_13, Y_14, Y_16, Y_19, Y_20, Y_21, Y_22, Y_23, Y_27, A_g, A_s, up_at, up_ne, up_off, hN.2.1.2.1]
  rw [f_X11_walks, f_X11_walks_0]
  simp (disch := omega) only [n_69, n_50, n_13, Option.bind_some, bd2_some, bdX_ok, bdX_er, nm_eq, n_0, n_1, n_2, n_3, n_4, n_5, n_6, n_7, n_8, n_9, n_10, n_11, n_12, n_14, n_15, n_16, n_17, n_18, n_19, n_20, n_21, n_24, n_27, n_28, n_32, n_43, n_45, n_48, n_56, n_57, n_59, n_64, n_70, n_97, n_99, n_100, n_104, n_118, n_122, n_126, n_127, n_128, n_129, n_130, n_150, n_255, n_600, n_1000, n_1050, n_1200, n_999999, n_1000000, iI_neg, iI_add, iI_sub, iI_mul, ile, ilt, ieq, Z_has, Z_0, Z_1, Z_2, Z_5, Z_15, Z_17, Z_18, Z_24, Z_25, Z_26, Z_3, Z_4, Z_6, Z_7, Z_8, Z_9, Z_10, Z_11, Z_12, Z_13, Z_14, Z_16, Z_19, Z_20, Z_21, Z_22, Z_23, Z_27, Y_3, Y_4, Y_6, Y_7, Y_8, Y_9, Y_10, Y_11, Y_12, Y_13, Y_14, Y_16, Y_19, Y_20, Y_21, Y_22, Y_23, Y_27, A_g, A_s, up_at, up_ne, up_off, hN.2.1.2.2.1]
  rw [if_neg (by omega)]
  rw [show (1 : Int32) = iI 1 from rfl] at q1
  first
  | rw [q1]
  | (rw [show iI 1 = (1 : Int32) from rfl] at q1 ⊢; rw [q1])
  simp (disch := omega) only [n_69, n_50, n_13, Option.bind_some, bd2_some, bdX_ok, bdX_er, nm_eq, n_0, n_1, n_2, n_3, n_4, n_5, n_6, n_7, n_8, n_9, n_10, n_11, n_12, n_14, n_15, n_16, n_17, n_18, n_19, n_20, n_21, n_24, n_27, n_28, n_32, n_43, n_45, n_48, n_56, n_57, n_59, n_64, n_70, n_97, n_99, n_100, n_104, n_118, n_122, n_126, n_127, n_128, n_129, n_130, n_150, n_255, n_600, n_1000, n_1050, n_1200, n_999999, n_1000000, iI_neg, iI_add, iI_sub, iI_mul, ile, ilt, ieq, Z_has, Z_0, Z_1, Z_2, Z_5, Z_15, Z_17, Z_18, Z_24, Z_25, Z_26, Z_3, Z_4, Z_6, Z_7, Z_8, Z_9, Z_10, Z_11, Z_12, Z_13, Z_14, Z_16, Z_19, Z_20, Z_21, Z_22, Z_23, Z_27, Y_3, Y_4, Y_6, Y_7, Y_8, Y_9, Y_10, Y_11, Y_12, Y_13, Y_14, Y_16, Y_19, Y_20, Y_21, Y_22, Y_23, Y_27, A_g, A_s, up_at, up_ne, up_off]
  exact ⟨m', rfl, hq.trans q2.1, by rw [q2.2.1, up_off (by omega), up_off (by omega)], q3⟩
theorem foldC {N : Nt} {sort z : Int} : ∀ (L : List (List Int)) (s : Int), L.foldl (stepC N sort z) s = s + (L.countP (fun r => decide (sort = 0 ∨ wst N r ≤ z)) : Nat) := by
  intro L
  induction L with
  | nil => intro s; simp
  | cons r L ih =>
    intro s
    rw [List.foldl_cons, ih, List.countP_cons]
    unfold stepC
    by_cases c : sort = 0 ∨ wst N r ≤ z
    · rw [if_pos c]; simp [c]; omega
    · rw [if_neg c]; simp [c]
theorem walksC (hfu : 100 ≤ fu) (h : RI m x H) {sort : Int} (hso : sort = 0 ∨ sort = 1) (hz : i32 z) : ∃ m', f_X11_walksAll fu 283 (iI sort) (iI z) (mem w m) = some (iI ((routesOf (sN x)).countP (fun r => decide (sort = 0 ∨ wst (sN x) r ≤ z)) : Nat), mem w m') ∧ qS m m' ∧ m' 283 4 = m 283 4 := by
  obtain ⟨m', q1, q2, q3, q4⟩ := walksAll_eq (w := w) (fu := fu) (so := iI sort) (zz := iI z) (P := fun m s => m 283 19 = s) (step := stepC (sN x) sort z) (s := 0) (fun m s k v hp => by rw [up_ne (by decide)]; exact hp) hfu (fun m s r hI hr _ hT hs => meetsC hfu hI hr hT hso hz hs) h (by rw [up_off (by omega), up_at])
  rw [foldC, Int.zero_add] at q4
  exact ⟨m', by rw [q1, q4], q2, q3⟩
theorem walksB (hfu : 70000 ≤ fu) (h : RI m x H) (hG : WG x) {by_ : Int} (hby : by_ = 0 ∨ by_ = 1) : ∃ m', f_X11_walksAll fu 283 (iI (2 + by_)) (iI 0) (mem w m) = some (iI (m' 283 19), mem w m') ∧ qS m m' ∧ m' 283 4 = m 283 4 ∧ RB m' (bestR (sN x) (sR x) by_) := by
  refine walksAll_eq (w := w) (fu := fu) (so := iI (2 + by_)) (zz := iI 0) (P := RB) (step := stepB (sN x) (sR x) by_) (s := ([], 1000000, 1000000, 1000000)) (fun m s k v hp => ?_) (by omega) (fun m s r hI hr hne hT hs => meetsB hfu hI hG hr hne hT hby hs) h (Or.inl ⟨rfl, by rw [up_off (by omega), up_at], up_at⟩)
  rcases hp with ⟨b1, b2, b3⟩ | ⟨b1, b2, b3, b4, b5, b6, b7, b8, b9⟩
  · exact Or.inl ⟨b1, by rw [up_ne (by decide)]; exact b2, by rw [up_ne (by decide)]; exact b3⟩
  · exact Or.inr ⟨b1, b2, by rw [up_ne (by decide)]; exact b3, by rw [up_ne (by decide)]; exact b4, by rw [up_ne (by decide)]; exact b5, by rw [up_ne (by decide)]; exact b6, by rw [up_ne (by decide)]; exact b7, b8, fun j a hj => by rw [up_ne (by decide)]; exact b9 j a hj⟩
theorem withinR_eq (hfu : 100 ≤ fu) (h : RI m x H) (hz : i32 z) : ∃ m', f_X11_within fu 283 (iI z) (mem w m) = some (iI (qWithin x z), mem w m') ∧ cS m m' ∧ RI m' x H := by
  obtain ⟨m', q1, q2, q3⟩ := walksC (w := w) (fu := fu) hfu (h.thr (k := 0)) (Or.inr rfl : (1 : Int) = 0 ∨ (1 : Int) = 1) hz
  unfold f_X11_within
  simp (disch := omega) only [n_69, n_50, n_13, Option.bind_some, bd2_some, bdX_ok, bdX_er, nm_eq, n_0, n_1, n_2, n_3, n_4, n_5, n_6, n_7, n_8, n_9, n_10, n_11, n_12, n_14, n_15, n_16, n_17, n_18, n_19, n_20, n_21, n_24, n_27, n_28, n_32, n_43, n_45, n_48, n_56, n_57, n_59, n_64, n_70, n_97, n_99, n_100, n_104, n_118, n_122, n_126, n_127, n_128, n_129, n_130, n_150, n_255, n_600, n_1000, n_1050, n_1200, n_999999, n_1000000, iI_neg, iI_add, iI_sub, iI_mul, ile, ilt, ieq, Z_has, Z_0, Z_1, Z_2, Z_5, Z_15, Z_17, Z_18, Z_24, Z_25, Z_26, Z_3, Z_4, Z_6, Z_7, Z_8, Z_9, Z_10, Z_11, Z_12, Z_13, Z_14, Z_16, Z_19, Z_20, Z_21, Z_22, Z_23, Z_27, Y_3, Y_4, Y_6, Y_7, Y_8, Y_9, Y_10, Y_11, Y_12, Y_13, Y_14, Y_16, Y_19, Y_20, Y_21, Y_22, Y_23, Y_27, A_g, A_s, up_at, up_ne, up_off, q1]
  have hq := (qS_f (m := m) (v := 0) (k := 4) (by omega)).trans q2
  refine ⟨m', ?_, hq.cS, h.q hq⟩
  unfold qWithin
  have e : (fun r => decide ((1 : Int) = 0 ∨ wst (sN x) r ≤ z)) = (fun r => decide (wst (sN x) r ≤ z)) := by funext r; simp
  rw [e]
theorem countR_eq (hfu : 100 ≤ fu) (h : RI m x H) (hv : i32 v) : RQ w m (f_X11_count fu 283 (iI v) (mem w m)) (qCount x v).1 (qCount x v).2 x H := by
  obtain ⟨⟨hN, hT, hD, hJ⟩, hh⟩ := h
  have h : RI m x H := ⟨⟨hN, hT, hD, hJ⟩, hh⟩
  have v2 := hv
  unfold i32 at v2
  unfold f_X11_count qCount
  simp (disch := omega) only [n_69, n_50, n_13, Option.bind_some, bd2_some, bdX_ok, bdX_er, nm_eq, n_0, n_1, n_2, n_3, n_4, n_5, n_6, n_7, n_8, n_9, n_10, n_11, n_12, n_14, n_15, n_16, n_17, n_18, n_19, n_20, n_21, n_24, n_27, n_28, n_32, n_43, n_45, n_48, n_56, n_57, n_59, n_64, n_70, n_97, n_99, n_100, n_104, n_118, n_122, n_126, n_127, n_128, n_129, n_130, n_150, n_255, n_600, n_1000, n_1050, n_1200, n_999999, n_1000000, iI_neg, iI_add, iI_sub, iI_mul, ile, ilt, ieq, isInR_eq hv (show i32 0 by unfold i32; omega) (show i32 11 by unfold i32; omega)]
  by_cases c : 0 ≤ v ∧ v ≤ 11
  · rw [show inB v 0 11 = 1 from if_pos c, if_neg (by first | exact not_false | omega | decide), if_pos c]
    unfold f_X11_count_16
    have fin : ∀ r, r = cntF x v → RQ w m (some (iI r, mem w (up m 283 4 0))) 0 (cntF x v) x H := fun r hr => ⟨_, r, rfl, up_at, fun _ => hr, cS_f (by omega), h.thr⟩
    obtain ⟨m7, q1, q2, q3⟩ := walksC (w := w) (fu := fu) hfu (h.thr (k := 0)) (Or.inl rfl : (0 : Int) = 0 ∨ (0 : Int) = 1) (show i32 0 by unfold i32; omega)
    simp (maxSteps := 3000000) (disch := omega) only [n_69, n_50, n_13, Option.bind_some, bd2_some, bdX_ok, bdX_er, nm_eq, n_0, n_1, n_2, n_3, n_4, n_5, n_6, n_7, n_8, n_9, n_10, n_11, n_12, n_14, n_15, n_16, n_17, n_18, n_19, n_20, n_21, n_24, n_27, n_28, n_32, n_43, n_45, n_48, n_56, n_57, n_59, n_64, n_70, n_97, n_99, n_100, n_104, n_118, n_122, n_126, n_127, n_128, n_129, n_130, n_150, n_255, n_600, n_1000, n_1050, n_1200, n_999999, n_1000000, iI_neg, iI_add, iI_sub, iI_mul, ile, ilt, ieq, Z_has, Z_0, Z_1, Z_2, Z_5, Z_15, Z_17, Z_18, Z_24, Z_25, Z_26, Z_3, Z_4, Z_6, Z_7, Z_8, Z_9, Z_10, Z_11, Z_12, Z_13, Z_14, Z_16, Z_19, Z_20, Z_21, Z_22, Z_23, Z_27, Y_3, Y_4, Y_6, Y_7, Y_8, Y_9, Y_10, Y_11, Y_12, Y_13, Y_14, Y_16, Y_19, Y_20, Y_21, Y_22, Y_23, Y_27, A_g, A_s, up_at, up_ne, up_off, hN.2.1.1, hN.2.1.2.1, hN.2.1.2.2.1, hN.2.1.2.2.2.1, hN.2.1.2.2.2.2, hT.1, hD.1, hJ.1, hJ.2.1, hJ.2.2.1, hJ.2.2.2.1, q1]
    rw [if_pos (by first | exact trivial | omega | decide)]
    by_cases d0 : v = 0
    · rw [if_pos d0]; exact fin _ (by rw [d0]; rfl)
    rw [if_neg d0]
    by_cases d1 : v = 1
    · rw [if_pos d1]; exact fin _ (by rw [d1]; rfl)
    rw [if_neg d1]
    by_cases d2 : v = 2
    · rw [if_pos d2]; exact fin _ (by rw [d2]; rfl)
    rw [if_neg d2]
    by_cases d3 : v = 3
    · rw [if_pos d3]; exact fin _ (by rw [d3]; rfl)
    rw [if_neg d3]
    by_cases d4 : v = 4
    · rw [if_pos d4]; exact fin _ (by rw [d4]; rfl)
    rw [if_neg d4]
    by_cases d5 : v = 5
    · rw [if_pos d5]; exact fin _ (by rw [d5]; rfl)
    rw [if_neg d5]
    by_cases d6 : v = 6
    · rw [if_pos d6]; exact fin _ (by rw [d6]; rfl)
    rw [if_neg d6]
    by_cases d7 : v = 7
    · rw [if_pos d7]
      have hq := (qS_f (m := m) (v := 0) (k := 4) (by omega)).trans q2
      refine ⟨m7, _, rfl, by rw [q3, up_at], fun _ => ?_, hq.cS, h.q hq⟩
      rw [d7]
      show _ = ((routesOf (sN x)).length : Int)
      simp
    rw [if_neg d7]
    by_cases d8 : v = 8
    · rw [if_pos d8]; exact fin _ (by rw [d8]; rfl)
    rw [if_neg d8]
    by_cases d9 : v = 9
    · rw [if_pos d9]; exact fin _ (by rw [d9]; rfl)
    rw [if_neg d9]
    by_cases d10 : v = 10
    · rw [if_pos d10]; exact fin _ (by rw [d10]; rfl)
    rw [if_neg d10]
    exact fin _ (by rw [show v = 11 by omega]; rfl)
  · rw [show inB v 0 11 = 0 from if_neg c, if_pos (by first | exact trivial | omega | decide), if_neg c]
    unfold f_X11_count_16
    rw [Y_4, Option.bind_some, Z_4, Option.bind_some, up_at, if_neg (show ¬ iI 1 ≤ 0 by decide)]
    exact RQ_nq h (by omega)
theorem bestR_RT {by_ : Int} (hW : WFN N) (hne : (bestR N T by_).1 ≠ []) : RT N (bestR N T by_).1 := by
  rcases bestR_mem (N := N) (T := T) (by_ := by_) with q | q
  · exact absurd q hne
  · have := ext_pOK (N := N) 8 [] (arF N 0) pOK_nil (fun a ha => arF_mem.mp ha) _ q
    exact ⟨this.1, this.2.1⟩
theorem bestMask_go {k72 : Nat → Int32 → Int32 → List Ob → Option (Int32 × List Ob)} {a2 : Int32} (h20 : m 283 20 = l.length) (h7 : l.length ≤ 7) (hb : ∀ (j : Nat) (a : Int), l[j]? = some a → m 290 j = a) : ∀ (suf pre : List Int) (n : Nat) (D : Int32), l = pre ++ suf → suf.length < n → f_X11_bestOf_45 fu k72 n 283 a2 D (iI (pre.length : Int)) (mem w m) = k72 283 a2 (mkF suf D) (mem w m) := by
  intro suf
  induction suf with
  | nil =>
    intro pre n D hs hn
    have hlen : l.length = pre.length := by rw [hs]; simp
    obtain ⟨n, rfl⟩ : ∃ k, n = k + 1 := ⟨n - 1, by omega⟩
    rw [f_X11_bestOf_45, f_X11_bestOf_45b]
    simp (disch := omega) only [n_69, n_50, n_13, Option.bind_some, bd2_some, bdX_ok, bdX_er, nm_eq, n_0, n_1, n_2, n_3, n_4, n_5, n_6, n_7, n_8, n_9, n_10, n_11, n_12, n_14, n_15, n_16, n_17, n_18, n_19, n_20, n_21, n_24, n_27, n_28, n_32, n_43, n_45, n_48, n_56, n_57, n_59, n_64, n_70, n_97, n_99, n_100, n_104, n_118, n_122, n_126, n_127, n_128, n_129, n_130, n_150, n_255, n_600, n_1000, n_1050, n_1200, n_999999, n_1000000, iI_neg, iI_add, iI_sub, iI_mul, ile, ilt, ieq, Z_has, Z_0, Z_1, Z_2, Z_5, Z_15, Z_17, Z_18, Z_24, Z_25, Z_26, Z_3, Z_4, Z_6, Z_7, Z_8, Z_9, Z_10, Z_11, Z_12, Z_13, Z_14, Z_16, Z_19, Z_20, Z_21, Z_22, Z_23, Z_27, Y_3, Y_4, Y_6, Y_7, Y_8, Y_9, Y_10, Y_11, Y_12, Y_13, Y_14, Y_16, Y_19, Y_20, Y_21, Y_22, Y_23, Y_27, A_g, A_s, up_at, up_ne, up_off, h20]
    rw [if_pos (by omega)]
    rfl
  | cons c suf ih =>
    intro pre n D hs hn
    have hlen : l.length = pre.length + (suf.length + 1) := by rw [hs]; simp
    simp only [List.length_cons] at hn
    obtain ⟨n, rfl⟩ : ∃ k, n = k + 1 := ⟨n - 1, by omega⟩
    have hg : m 290 (pre.length : Int) = c := hb pre.length c (by rw [hs]; exact mid_at)
    rw [f_X11_bestOf_45, f_X11_bestOf_45b]
    simp (disch := omega) only [n_69, n_50, n_13, Option.bind_some, bd2_some, bdX_ok, bdX_er, nm_eq, n_0, n_1, n_2, n_3, n_4, n_5, n_6, n_7, n_8, n_9, n_10, n_11, n_12, n_14, n_15, n_16, n_17, n_18, n_19, n_20, n_21, n_24, n_27, n_28, n_32, n_43, n_45, n_48, n_56, n_57, n_59, n_64, n_70, n_97, n_99, n_100, n_104, n_118, n_122, n_126, n_127, n_128, n_129, n_130, n_150, n_255, n_600, n_1000, n_1050, n_1200, n_999999, n_1000000, iI_neg, iI_add, iI_sub, iI_mul, ile, ilt, ieq, Z_has, Z_0, Z_1, Z_2, Z_5, Z_15, Z_17, Z_18, Z_24, Z_25, Z_26, Z_3, Z_4, Z_6, Z_7, Z_8, Z_9, Z_10, Z_11, Z_12, Z_13, Z_14, Z_16, Z_19, Z_20, Z_21, Z_22, Z_23, Z_27, Y_3, Y_4, Y_6, Y_7, Y_8, Y_9, Y_10, Y_11, Y_12, Y_13, Y_14, Y_16, Y_19, Y_20, Y_21, Y_22, Y_23, Y_27, A_g, A_s, up_at, up_ne, up_off, h20, Be_g, hg]
    rw [if_neg (by omega)]
    have := ih (pre ++ [c]) n (D ||| (1 <<< (iI c &&& 31))) (by rw [hs]; simp) (by omega)
    rw [show ((pre ++ [c]).length : Int) = (pre.length : Int) + 1 by simp] at this
    exact this
theorem bestOf_eq (hfu : 70000 ≤ fu) (h : RI m x H) (hG : WG x) {by_ : Int} (hby : by_ = 0 ∨ by_ = 1) (hv : i32 v) : RQ w m (f_X11_bestOf fu 283 (iI (2 + by_)) (iI v) (mem w m)) (qBest x by_ v).1 (qBest x by_ v).2 x H := by
  unfold f_X11_bestOf qBest
  simp (disch := omega) only [n_69, n_50, n_13, Option.bind_some, bd2_some, bdX_ok, bdX_er, nm_eq, n_0, n_1, n_2, n_3, n_4, n_5, n_6, n_7, n_8, n_9, n_10, n_11, n_12, n_14, n_15, n_16, n_17, n_18, n_19, n_20, n_21, n_24, n_27, n_28, n_32, n_43, n_45, n_48, n_56, n_57, n_59, n_64, n_70, n_97, n_99, n_100, n_104, n_118, n_122, n_126, n_127, n_128, n_129, n_130, n_150, n_255, n_600, n_1000, n_1050, n_1200, n_999999, n_1000000, iI_neg, iI_add, iI_sub, iI_mul, ile, ilt, ieq, Z_has, Z_0, Z_1, Z_2, Z_5, Z_15, Z_17, Z_18, Z_24, Z_25, Z_26, Z_3, Z_4, Z_6, Z_7, Z_8, Z_9, Z_10, Z_11, Z_12, Z_13, Z_14, Z_16, Z_19, Z_20, Z_21, Z_22, Z_23, Z_27, Y_3, Y_4, Y_6, Y_7, Y_8, Y_9, Y_10, Y_11, Y_12, Y_13, Y_14, Y_16, Y_19, Y_20, Y_21, Y_22, Y_23, Y_27, A_g, A_s, up_at, up_ne, up_off, isInR_eq hv (show i32 0 by unfold i32; omega) (show i32 5 by unfold i32; omega)]
  by_cases c : 0 ≤ v ∧ v ≤ 5
  · rw [show inB v 0 5 = 1 from if_pos c, if_neg (by first | exact not_false | omega | decide), if_neg (not_not_intro c)]
    obtain ⟨m1, p1, p2, p3, p4⟩ := walksB (w := w) hfu h hG hby
    rw [p1, bd2_some]
    rcases p4 with ⟨b1, b2, b3⟩ | ⟨b1, b2, b3, b4, b5, b6, b7, b8, b9⟩
    · rw [b2, if_pos b1, if_pos (by decide)]
      unfold f_X11_bestOf_28
      simp (disch := omega) only [n_69, n_50, n_13, Option.bind_some, bd2_some, bdX_ok, bdX_er, nm_eq, n_0, n_1, n_2, n_3, n_4, n_5, n_6, n_7, n_8, n_9, n_10, n_11, n_12, n_14, n_15, n_16, n_17, n_18, n_19, n_20, n_21, n_24, n_27, n_28, n_32, n_43, n_45, n_48, n_56, n_57, n_59, n_64, n_70, n_97, n_99, n_100, n_104, n_118, n_122, n_126, n_127, n_128, n_129, n_130, n_150, n_255, n_600, n_1000, n_1050, n_1200, n_999999, n_1000000, iI_neg, iI_add, iI_sub, iI_mul, ile, ilt, ieq, Z_has, Z_0, Z_1, Z_2, Z_5, Z_15, Z_17, Z_18, Z_24, Z_25, Z_26, Z_3, Z_4, Z_6, Z_7, Z_8, Z_9, Z_10, Z_11, Z_12, Z_13, Z_14, Z_16, Z_19, Z_20, Z_21, Z_22, Z_23, Z_27, Y_3, Y_4, Y_6, Y_7, Y_8, Y_9, Y_10, Y_11, Y_12, Y_13, Y_14, Y_16, Y_19, Y_20, Y_21, Y_22, Y_23, Y_27, A_g, A_s, up_at, up_ne, up_off]
      rw [if_neg (by first | exact not_false | omega | decide)]
      obtain ⟨m', r, g1, g2, g3, g4, g5⟩ := RQ_nq (w := w) (v := 0) (h.q p2) (k := 2) (by omega)
      exact ⟨m', r, g1, g2, g3, p2.cS.trans g4, g5⟩
    · rw [b3, if_neg b1, if_neg (by decide)]
      have h1 := (h.q p2).thr (k := 0)
      have hr := bestR_RT (T := sR x) (by_ := by_) h.1.1.1 b1
      have hm := bestMask_go (w := w) (m := up m1 283 4 0) (fu := fu) (l := (bestR (sN x) (sR x) by_).1) (k72 := fun x5 x6 x7 M8 => f_X11_bestOf_72 fu x5 x6 x7 M8) (a2 := iI v) (by rw [up_off (by omega)]; exact b4) b2 (fun j a hj => by rw [up_ne (by decide)]; exact b9 j a hj) (bestR (sN x) (sR x) by_).1 [] fu 0 rfl (by omega)
      rw [show (([] : List Int).length : Int) = 0 from rfl, show (0 : Int32) = iI 0 from rfl] at hm
      obtain ⟨m2, q1, q2, q3⟩ := numR_eq (w := w) (v := v) hfu h1 hG hr c
      unfold f_X11_bestOf_28
      simp (disch := omega) only [n_69, n_50, n_13, Option.bind_some, bd2_some, bdX_ok, bdX_er, nm_eq, n_0, n_1, n_2, n_3, n_4, n_5, n_6, n_7, n_8, n_9, n_10, n_11, n_12, n_14, n_15, n_16, n_17, n_18, n_19, n_20, n_21, n_24, n_27, n_28, n_32, n_43, n_45, n_48, n_56, n_57, n_59, n_64, n_70, n_97, n_99, n_100, n_104, n_118, n_122, n_126, n_127, n_128, n_129, n_130, n_150, n_255, n_600, n_1000, n_1050, n_1200, n_999999, n_1000000, iI_neg, iI_add, iI_sub, iI_mul, ile, ilt, ieq, Z_has, Z_0, Z_1, Z_2, Z_5, Z_15, Z_17, Z_18, Z_24, Z_25, Z_26, Z_3, Z_4, Z_6, Z_7, Z_8, Z_9, Z_10, Z_11, Z_12, Z_13, Z_14, Z_16, Z_19, Z_20, Z_21, Z_22, Z_23, Z_27, Y_3, Y_4, Y_6, Y_7, Y_8, Y_9, Y_10, Y_11, Y_12, Y_13, Y_14, Y_16, Y_19, Y_20, Y_21, Y_22, Y_23, Y_27, A_g, A_s, up_at, up_ne, up_off]
      rw [if_pos (by first | exact trivial | omega | decide), hm]
      unfold f_X11_bestOf_72
      have em : mkF (bestR (sN x) (sR x) by_).1 (iI 0) = mkA (bestR (sN x) (sR x) by_).1 := rfl
      simp (disch := omega) only [n_69, n_50, n_13, Option.bind_some, bd2_some, bdX_ok, bdX_er, nm_eq, n_0, n_1, n_2, n_3, n_4, n_5, n_6, n_7, n_8, n_9, n_10, n_11, n_12, n_14, n_15, n_16, n_17, n_18, n_19, n_20, n_21, n_24, n_27, n_28, n_32, n_43, n_45, n_48, n_56, n_57, n_59, n_64, n_70, n_97, n_99, n_100, n_104, n_118, n_122, n_126, n_127, n_128, n_129, n_130, n_150, n_255, n_600, n_1000, n_1050, n_1200, n_999999, n_1000000, iI_neg, iI_add, iI_sub, iI_mul, ile, ilt, ieq, Z_has, Z_0, Z_1, Z_2, Z_5, Z_15, Z_17, Z_18, Z_24, Z_25, Z_26, Z_3, Z_4, Z_6, Z_7, Z_8, Z_9, Z_10, Z_11, Z_12, Z_13, Z_14, Z_16, Z_19, Z_20, Z_21, Z_22, Z_23, Z_27, Y_3, Y_4, Y_6, Y_7, Y_8, Y_9, Y_10, Y_11, Y_12, Y_13, Y_14, Y_16, Y_19, Y_20, Y_21, Y_22, Y_23, Y_27, A_g, A_s, up_at, up_ne, up_off, em, q1]
      have hq := (p2.trans (qS_f (m := m1) (v := 0) (k := 4) (by omega))).trans q2
      exact ⟨m2, _, rfl, by rw [q3, up_at], fun _ => rfl, hq.cS, h.q hq⟩
  · rw [show inB v 0 5 = 0 from if_neg c, if_pos (by first | exact trivial | omega | decide), if_pos c]
    unfold f_X11_bestOf_28
    simp (disch := omega) only [n_69, n_50, n_13, Option.bind_some, bd2_some, bdX_ok, bdX_er, nm_eq, n_0, n_1, n_2, n_3, n_4, n_5, n_6, n_7, n_8, n_9, n_10, n_11, n_12, n_14, n_15, n_16, n_17, n_18, n_19, n_20, n_21, n_24, n_27, n_28, n_32, n_43, n_45, n_48, n_56, n_57, n_59, n_64, n_70, n_97, n_99, n_100, n_104, n_118, n_122, n_126, n_127, n_128, n_129, n_130, n_150, n_255, n_600, n_1000, n_1050, n_1200, n_999999, n_1000000, iI_neg, iI_add, iI_sub, iI_mul, ile, ilt, ieq, Z_has, Z_0, Z_1, Z_2, Z_5, Z_15, Z_17, Z_18, Z_24, Z_25, Z_26, Z_3, Z_4, Z_6, Z_7, Z_8, Z_9, Z_10, Z_11, Z_12, Z_13, Z_14, Z_16, Z_19, Z_20, Z_21, Z_22, Z_23, Z_27, Y_3, Y_4, Y_6, Y_7, Y_8, Y_9, Y_10, Y_11, Y_12, Y_13, Y_14, Y_16, Y_19, Y_20, Y_21, Y_22, Y_23, Y_27, A_g, A_s, up_at, up_ne, up_off]
    rw [if_neg (by first | exact not_false | omega | decide)]
    exact RQ_nq h (by omega)
theorem robustR_eq (hfu : 70000 ≤ fu) (h : RI m x H) (hG : WG x) (hv : i32 v) : RQ w m (f_X11_robust fu 283 (iI v) (mem w m)) (qBest x 0 v).1 (qBest x 0 v).2 x H := by
  obtain ⟨m', r, g1, g⟩ := bestOf_eq (w := w) hfu h hG (Or.inl rfl : (0 : Int) = 0 ∨ (0 : Int) = 1) hv
  unfold f_X11_robust
  rw [show (2 : Int) + 0 = 2 from rfl] at g1
  simp (disch := omega) only [n_69, n_50, n_13, Option.bind_some, bd2_some, bdX_ok, bdX_er, nm_eq, n_0, n_1, n_2, n_3, n_4, n_5, n_6, n_7, n_8, n_9, n_10, n_11, n_12, n_14, n_15, n_16, n_17, n_18, n_19, n_20, n_21, n_24, n_27, n_28, n_32, n_43, n_45, n_48, n_56, n_57, n_59, n_64, n_70, n_97, n_99, n_100, n_104, n_118, n_122, n_126, n_127, n_128, n_129, n_130, n_150, n_255, n_600, n_1000, n_1050, n_1200, n_999999, n_1000000, iI_neg, iI_add, iI_sub, iI_mul, ile, ilt, ieq, Z_has, Z_0, Z_1, Z_2, Z_5, Z_15, Z_17, Z_18, Z_24, Z_25, Z_26, Z_3, Z_4, Z_6, Z_7, Z_8, Z_9, Z_10, Z_11, Z_12, Z_13, Z_14, Z_16, Z_19, Z_20, Z_21, Z_22, Z_23, Z_27, Y_3, Y_4, Y_6, Y_7, Y_8, Y_9, Y_10, Y_11, Y_12, Y_13, Y_14, Y_16, Y_19, Y_20, Y_21, Y_22, Y_23, Y_27, A_g, A_s, up_at, up_ne, up_off, g1]
  exact ⟨m', r, rfl, g⟩
theorem calmR_eq (hfu : 70000 ≤ fu) (h : RI m x H) (hG : WG x) (hv : i32 v) : RQ w m (f_X11_calm fu 283 (iI v) (mem w m)) (qBest x 1 v).1 (qBest x 1 v).2 x H := by
  obtain ⟨m', r, g1, g⟩ := bestOf_eq (w := w) hfu h hG (Or.inr rfl : (1 : Int) = 0 ∨ (1 : Int) = 1) hv
  unfold f_X11_calm
  rw [show (2 : Int) + 1 = 3 from rfl] at g1
  simp (disch := omega) only [n_69, n_50, n_13, Option.bind_some, bd2_some, bdX_ok, bdX_er, nm_eq, n_0, n_1, n_2, n_3, n_4, n_5, n_6, n_7, n_8, n_9, n_10, n_11, n_12, n_14, n_15, n_16, n_17, n_18, n_19, n_20, n_21, n_24, n_27, n_28, n_32, n_43, n_45, n_48, n_56, n_57, n_59, n_64, n_70, n_97, n_99, n_100, n_104, n_118, n_122, n_126, n_127, n_128, n_129, n_130, n_150, n_255, n_600, n_1000, n_1050, n_1200, n_999999, n_1000000, iI_neg, iI_add, iI_sub, iI_mul, ile, ilt, ieq, Z_has, Z_0, Z_1, Z_2, Z_5, Z_15, Z_17, Z_18, Z_24, Z_25, Z_26, Z_3, Z_4, Z_6, Z_7, Z_8, Z_9, Z_10, Z_11, Z_12, Z_13, Z_14, Z_16, Z_19, Z_20, Z_21, Z_22, Z_23, Z_27, Y_3, Y_4, Y_6, Y_7, Y_8, Y_9, Y_10, Y_11, Y_12, Y_13, Y_14, Y_16, Y_19, Y_20, Y_21, Y_22, Y_23, Y_27, A_g, A_s, up_at, up_ne, up_off, g1]
  exact ⟨m', r, rfl, g⟩
theorem bestArcR_eq (hfu : 70000 ≤ fu) (h : RI m x H) (hG : WG x) (hv : i32 v) {c : Int} (hc : c = 0 ∨ c = 1) : RQ w m (f_X11_bestArc fu 283 (iI c) (iI v) (mem w m)) (qBestArc x c v).1 (qBestArc x c v).2 x H := by
  have v2 := hv
  unfold i32 at v2
  obtain ⟨m1, p1, p2, p3, p4⟩ := walksB (w := w) hfu h hG hc
  have h25 : RQ w m (f_X11_bestArc_10 fu 283 (iI v) 283 (iI (2 + c)) (mem w m)) (qBestArc x c v).1 (qBestArc x c v).2 x H := by
    unfold f_X11_bestArc_10 f_X11_bestArc_25 f_X11_bestArc_43 qBestArc
    simp (disch := omega) only [n_69, n_50, n_13, Option.bind_some, bd2_some, bdX_ok, bdX_er, nm_eq, n_0, n_1, n_2, n_3, n_4, n_5, n_6, n_7, n_8, n_9, n_10, n_11, n_12, n_14, n_15, n_16, n_17, n_18, n_19, n_20, n_21, n_24, n_27, n_28, n_32, n_43, n_45, n_48, n_56, n_57, n_59, n_64, n_70, n_97, n_99, n_100, n_104, n_118, n_122, n_126, n_127, n_128, n_129, n_130, n_150, n_255, n_600, n_1000, n_1050, n_1200, n_999999, n_1000000, iI_neg, iI_add, iI_sub, iI_mul, ile, ilt, ieq, Z_has, Z_0, Z_1, Z_2, Z_5, Z_15, Z_17, Z_18, Z_24, Z_25, Z_26, Z_3, Z_4, Z_6, Z_7, Z_8, Z_9, Z_10, Z_11, Z_12, Z_13, Z_14, Z_16, Z_19, Z_20, Z_21, Z_22, Z_23, Z_27, Y_3, Y_4, Y_6, Y_7, Y_8, Y_9, Y_10, Y_11, Y_12, Y_13, Y_14, Y_16, Y_19, Y_20, Y_21, Y_22, Y_23, Y_27, A_g, A_s, up_at, up_ne, up_off, p1]
    have no : RQ w m (some (iI 0, mem w (up m1 283 4 1))) 1 0 x H := by
      obtain ⟨m', r, g1, g2, g3, g4, g5⟩ := RQ_nq (w := w) (v := 0) (h.q p2) (k := 1) (by omega)
      exact ⟨m', r, g1, g2, g3, p2.cS.trans g4, g5⟩
    rcases p4 with ⟨b1, b2, b3⟩ | ⟨b1, b2, b3, b4, b5, b6, b7, b8, b9⟩
    · rw [b2, b1]
      simp (disch := omega) only [n_69, n_50, n_13, Option.bind_some, bd2_some, bdX_ok, bdX_er, nm_eq, n_0, n_1, n_2, n_3, n_4, n_5, n_6, n_7, n_8, n_9, n_10, n_11, n_12, n_14, n_15, n_16, n_17, n_18, n_19, n_20, n_21, n_24, n_27, n_28, n_32, n_43, n_45, n_48, n_56, n_57, n_59, n_64, n_70, n_97, n_99, n_100, n_104, n_118, n_122, n_126, n_127, n_128, n_129, n_130, n_150, n_255, n_600, n_1000, n_1050, n_1200, n_999999, n_1000000, iI_neg, iI_add, iI_sub, iI_mul, ile, ilt, ieq, Z_has, Z_0, Z_1, Z_2, Z_5, Z_15, Z_17, Z_18, Z_24, Z_25, Z_26, Z_3, Z_4, Z_6, Z_7, Z_8, Z_9, Z_10, Z_11, Z_12, Z_13, Z_14, Z_16, Z_19, Z_20, Z_21, Z_22, Z_23, Z_27, Y_3, Y_4, Y_6, Y_7, Y_8, Y_9, Y_10, Y_11, Y_12, Y_13, Y_14, Y_16, Y_19, Y_20, Y_21, Y_22, Y_23, Y_27, A_g, A_s, up_at, up_ne, up_off, isInR_eq hv (show i32 0 by unfold i32; omega) (show i32 (0 - 1) by unfold i32; omega)]
      rw [if_pos (by first | exact trivial | omega | decide), show inB v 0 (0 - 1) = 0 from if_neg (by omega), if_pos (by first | exact trivial | omega | decide), if_neg (by first | exact not_false | omega | decide), if_neg (by simp <;> omega)]
      exact no
    · rw [b3, b4]
      simp (disch := omega) only [n_69, n_50, n_13, Option.bind_some, bd2_some, bdX_ok, bdX_er, nm_eq, n_0, n_1, n_2, n_3, n_4, n_5, n_6, n_7, n_8, n_9, n_10, n_11, n_12, n_14, n_15, n_16, n_17, n_18, n_19, n_20, n_21, n_24, n_27, n_28, n_32, n_43, n_45, n_48, n_56, n_57, n_59, n_64, n_70, n_97, n_99, n_100, n_104, n_118, n_122, n_126, n_127, n_128, n_129, n_130, n_150, n_255, n_600, n_1000, n_1050, n_1200, n_999999, n_1000000, iI_neg, iI_add, iI_sub, iI_mul, ile, ilt, ieq, Z_has, Z_0, Z_1, Z_2, Z_5, Z_15, Z_17, Z_18, Z_24, Z_25, Z_26, Z_3, Z_4, Z_6, Z_7, Z_8, Z_9, Z_10, Z_11, Z_12, Z_13, Z_14, Z_16, Z_19, Z_20, Z_21, Z_22, Z_23, Z_27, Y_3, Y_4, Y_6, Y_7, Y_8, Y_9, Y_10, Y_11, Y_12, Y_13, Y_14, Y_16, Y_19, Y_20, Y_21, Y_22, Y_23, Y_27, A_g, A_s, up_at, up_ne, up_off, isInR_eq hv (show i32 0 by unfold i32; omega) (show i32 (((bestR (sN x) (sR x) c).1.length : Int) - 1) by unfold i32; omega)]
      rw [if_neg (by first | exact not_false | omega | decide)]
      by_cases q : 0 ≤ v ∧ v < (bestR (sN x) (sR x) c).1.length
      · rw [show inB v 0 (((bestR (sN x) (sR x) c).1.length : Int) - 1) = 1 from if_pos (by omega), if_neg (by first | exact not_false | omega | decide), if_pos (by first | exact trivial | omega | decide), if_pos q]
        have hi : v.toNat < (bestR (sN x) (sR x) c).1.length := by omega
        have hg := b9 v.toNat _ (List.getElem?_eq_getElem hi)
        rw [show ((v.toNat : Nat) : Int) = v by omega] at hg
        simp (disch := omega) only [n_69, n_50, n_13, Option.bind_some, bd2_some, bdX_ok, bdX_er, nm_eq, n_0, n_1, n_2, n_3, n_4, n_5, n_6, n_7, n_8, n_9, n_10, n_11, n_12, n_14, n_15, n_16, n_17, n_18, n_19, n_20, n_21, n_24, n_27, n_28, n_32, n_43, n_45, n_48, n_56, n_57, n_59, n_64, n_70, n_97, n_99, n_100, n_104, n_118, n_122, n_126, n_127, n_128, n_129, n_130, n_150, n_255, n_600, n_1000, n_1050, n_1200, n_999999, n_1000000, iI_neg, iI_add, iI_sub, iI_mul, ile, ilt, ieq, Z_has, Z_0, Z_1, Z_2, Z_5, Z_15, Z_17, Z_18, Z_24, Z_25, Z_26, Z_3, Z_4, Z_6, Z_7, Z_8, Z_9, Z_10, Z_11, Z_12, Z_13, Z_14, Z_16, Z_19, Z_20, Z_21, Z_22, Z_23, Z_27, Y_3, Y_4, Y_6, Y_7, Y_8, Y_9, Y_10, Y_11, Y_12, Y_13, Y_14, Y_16, Y_19, Y_20, Y_21, Y_22, Y_23, Y_27, A_g, A_s, up_at, up_ne, up_off, Be_g, hg]
        have hq := p2.trans (qS_f (m := m1) (v := 0) (k := 4) (by omega))
        refine ⟨_, _, rfl, up_at, fun _ => ?_, hq.cS, h.q hq⟩
        simp [List.getD, hi]
      · rw [show inB v 0 (((bestR (sN x) (sR x) c).1.length : Int) - 1) = 0 from if_neg (by omega), if_pos (by first | exact trivial | omega | decide), if_neg (by first | exact not_false | omega | decide), if_neg q]
        exact no
  unfold f_X11_bestArc
  simp (disch := omega) only [n_69, n_50, n_13, Option.bind_some, bd2_some, bdX_ok, bdX_er, nm_eq, n_0, n_1, n_2, n_3, n_4, n_5, n_6, n_7, n_8, n_9, n_10, n_11, n_12, n_14, n_15, n_16, n_17, n_18, n_19, n_20, n_21, n_24, n_27, n_28, n_32, n_43, n_45, n_48, n_56, n_57, n_59, n_64, n_70, n_97, n_99, n_100, n_104, n_118, n_122, n_126, n_127, n_128, n_129, n_130, n_150, n_255, n_600, n_1000, n_1050, n_1200, n_999999, n_1000000, iI_neg, iI_add, iI_sub, iI_mul, ile, ilt, ieq]
  rcases hc with rfl | rfl
  · rw [if_pos (by first | exact trivial | omega | decide)]; exact h25
  · rw [if_neg (by first | exact not_false | omega | decide)]; exact h25
end RH
