section SU
variable {w : Wl} {m : Mm} {fu b c : Nat} {N : Nt} {x : Sg} {v z : Int} {T : List (List Int)} {l : List Int}
theorem S_J (h : isS b) : isJ (b + 21) := h.2.2.2.2.2
theorem S_N (h : isS b) : isN (b + 1) := h.2.1
theorem S_D (h : isS b) : isP (b + 6) := h.2.2.1
/-- a state is copied: its routes -/
theorem scopy_go (h : isS b) (h' : isS c) (hd : b + 25 ≤ c ∨ c + 25 ≤ b) {k51 : Nat → Nat → List Ob → Option (Unit × List Ob)} : ∀ (d n : Nat) (m : Mm) (i : Nat), i + d = 6 → d < n → ∃ m', f_X8_copyFrom_24 fu k51 n b c (iI (i : Int)) (mem w m) = k51 b c (mem w m') ∧ (∀ p, (p < b + 9 + 2 * i ∨ b + 21 ≤ p) → m' p = m p) ∧ (∀ (j : Nat) (l : List Int), i ≤ j → j < 6 → isPth m (c + 9 + 2 * j) l → isPth m' (b + 9 + 2 * j) l) := by
  intro d
  induction d with
  | zero =>
    intro n m i hi hn
    obtain ⟨n, rfl⟩ : ∃ k, n = k + 1 := ⟨n - 1, by omega⟩
    rw [f_X8_copyFrom_24, f_X8_copyFrom_24b]
    simp (disch := omega) only [Option.bind_some, bd2_some, bdX_ok, bdX_er, nm_eq, n_0, n_1, n_2, n_3, n_4, n_5, n_6, n_7, n_8, n_9, n_10, n_11, n_12, n_14, n_15, n_16, n_17, n_18, n_19, n_20, n_21, n_24, n_27, n_28, n_32, n_43, n_45, n_48, n_56, n_57, n_59, n_64, n_70, n_97, n_99, n_100, n_104, n_118, n_122, n_126, n_127, n_128, n_129, n_130, n_150, n_255, n_600, n_1000, n_1050, n_1200, n_999999, n_1000000, iI_neg, iI_add, iI_sub, iI_mul, ile, ilt, ieq]
    rw [if_pos (by omega)]
    exact ⟨m, rfl, fun _ _ => rfl, fun j l a b => by omega⟩
  | succ d ih =>
    intro n m i hi hn
    obtain ⟨n, rfl⟩ : ∃ k, n = k + 1 := ⟨n - 1, by omega⟩
    have hp := S_P h (i := i) (by omega)
    have hp' := S_P h' (i := i) (by omega)
    rw [f_X8_copyFrom_24, f_X8_copyFrom_24b]
    simp (disch := omega) only [Option.bind_some, bd2_some, bdX_ok, bdX_er, nm_eq, n_0, n_1, n_2, n_3, n_4, n_5, n_6, n_7, n_8, n_9, n_10, n_11, n_12, n_14, n_15, n_16, n_17, n_18, n_19, n_20, n_21, n_24, n_27, n_28, n_32, n_43, n_45, n_48, n_56, n_57, n_59, n_64, n_70, n_97, n_99, n_100, n_104, n_118, n_122, n_126, n_127, n_128, n_129, n_130, n_150, n_255, n_600, n_1000, n_1050, n_1200, n_999999, n_1000000, iI_neg, iI_add, iI_sub, iI_mul, ile, ilt, ieq, S_2 h, S_2 h', S_told h (show i < 6 by omega), S_told h' (show i < 6 by omega), P_has hp, pcopy_eq hp hp']
    rw [if_neg (by omega)]
    obtain ⟨m', q1, q2, q3⟩ := ih n (pcp m (b + 9 + 2 * i) (c + 9 + 2 * i)) (i + 1) (by omega) (by omega)
    rw [show ((i + 1 : Nat) : Int) = (i : Int) + 1 by omega] at q1
    refine ⟨m', q1, fun p hp9 => by rw [q2 p (by omega), pcp_ne (by omega) (by omega)], fun j l a b9 hl => ?_⟩
    by_cases e : j = i
    · subst e
      have := pcopy_is hp hl
      exact this.cong (q2 _ (by omega)) (q2 _ (by omega))
    · exact q3 j l (by omega) b9 (hl.cong (pcp_ne (by omega) (by omega)) (pcp_ne (by omega) (by omega)))
theorem scopy_eq (h : isS b) (h' : isS c) (hd : b + 25 ≤ c ∨ c + 25 ≤ b) (hfu : 100 ≤ fu) : ∃ m', f_X8_copyFrom fu b c (mem w m) = some ((), mem w m') ∧ (∀ p, (p < b ∨ b + 25 ≤ p) → m' p = m p) ∧ ∀ x, cRep m c x → cRep m' b x := by
  obtain ⟨m1, p1, p2, p3⟩ := ncopy_eq (w := w) (fu := fu) (m := m) (S_N h) (S_N h') (by omega)
  have hq := S_D h
  have hq' := S_D h'
  obtain ⟨m2, q1, q2, q3⟩ := scopy_go (w := w) (fu := fu) h h' hd (k51 := fun x17 x18 M19 => f_X8_copyFrom_51 fu x17 x18 M19) 6 fu (pcp m1 (b + 6) (c + 6)) 0 (by omega) (by omega)
  obtain ⟨m3, r1, r2, r3⟩ := jcopy_eq (w := w) (fu := fu) (m := up m2 b 3 (m2 c 3)) (S_J h) (S_J h') (by omega)
  rw [show ((0 : Nat) : Int) = 0 from rfl] at q1
  unfold f_X8_copyFrom
  simp (disch := omega) only [Option.bind_some, bd2_some, bdX_ok, bdX_er, nm_eq, n_0, n_1, n_2, n_3, n_4, n_5, n_6, n_7, n_8, n_9, n_10, n_11, n_12, n_14, n_15, n_16, n_17, n_18, n_19, n_20, n_21, n_24, n_27, n_28, n_32, n_43, n_45, n_48, n_56, n_57, n_59, n_64, n_70, n_97, n_99, n_100, n_104, n_118, n_122, n_126, n_127, n_128, n_129, n_130, n_150, n_255, n_600, n_1000, n_1050, n_1200, n_999999, n_1000000, iI_neg, iI_add, iI_sub, iI_mul, ile, ilt, ieq, S_0 h, S_0 h', S_1 h, S_1 h', N_has (S_N h), p1, P_has hq, pcopy_eq hq hq', q1]
  unfold f_X8_copyFrom_51
  simp (disch := omega) only [Option.bind_some, bd2_some, bdX_ok, bdX_er, nm_eq, n_0, n_1, n_2, n_3, n_4, n_5, n_6, n_7, n_8, n_9, n_10, n_11, n_12, n_14, n_15, n_16, n_17, n_18, n_19, n_20, n_21, n_24, n_27, n_28, n_32, n_43, n_45, n_48, n_56, n_57, n_59, n_64, n_70, n_97, n_99, n_100, n_104, n_118, n_122, n_126, n_127, n_128, n_129, n_130, n_150, n_255, n_600, n_1000, n_1050, n_1200, n_999999, n_1000000, iI_neg, iI_add, iI_sub, iI_mul, ile, ilt, ieq, S_3 h', S_p3 h, S_4 h, S_4 h', J_has (S_J h), r1]
  have e1 : ∀ p, (p < b ∨ b + 25 ≤ p) → m1 p = m p := fun p hp => p2 p (by omega)
  have e2 : ∀ p, (p < b ∨ b + 25 ≤ p) → m2 p = m p := fun p hp => by rw [q2 p (by omega), pcp_ne (by omega) (by omega), e1 p hp]
  have e3 : ∀ p, (p < b ∨ b + 25 ≤ p) → m3 p = m p := fun p hp => by rw [r2 p (by omega), up_ne (by omega), e2 p hp]
  refine ⟨m3, rfl, e3, fun x hx => ?_⟩
  obtain ⟨x1, x2, x3, x4, x5⟩ := hx
  have f3 : ∀ p, p ≠ b → p < b + 21 → m3 p = m2 p := fun p ha hb => by rw [r2 p (by omega), up_ne ha]
  have f2 : ∀ p, p < b + 9 → m2 p = pcp m1 (b + 6) (c + 6) p := fun p ha => q2 p (by omega)
  refine ⟨h, ?_, ?_, ?_, ?_⟩
  · have := p3 _ x2
    have e : ∀ p, b + 1 ≤ p → p < b + 6 → m3 p = m1 p := fun p ha hb => by rw [f3 p (by omega) (by omega), f2 p (by omega), pcp_ne (by omega) (by omega)]
    exact this.cong (e _ (by omega) (by omega)) (e _ (by omega) (by omega)) (e _ (by omega) (by omega)) (e _ (by omega) (by omega)) (e _ (by omega) (by omega))
  · obtain ⟨t1, t2, t3, t4⟩ := x3
    refine ⟨h, ?_, t3, fun i l hi => ?_⟩
    · rw [r2 b (by omega), up_at, e2 c (by omega), t2]
    · have hi6 := (List.getElem?_eq_some_iff.mp hi).1
      have := q3 i l (by omega) (by omega) ((t4 i l hi).cong (by rw [pcp_ne (by omega) (by omega), e1 _ (by omega)]) (by rw [pcp_ne (by omega) (by omega), e1 _ (by omega)]))
      exact this.cong (f3 _ (by omega) (by omega)) (f3 _ (by omega) (by omega))
  · have := pcopy_is (m := m1) hq (x4.cong (e1 _ (by omega)) (e1 _ (by omega)))
    exact this.cong (by rw [f3 _ (by omega) (by omega), f2 _ (by omega)]) (by rw [f3 _ (by omega) (by omega), f2 _ (by omega)])
  · exact r3 _ _ (x5.cong (by rw [up_ne (by omega), e2 _ (by omega)]) (by rw [up_ne (by omega), e2 _ (by omega)]) (by rw [up_ne (by omega), e2 _ (by omega)]) (by rw [up_ne (by omega), e2 _ (by omega)]))
/-- the journey begins anew -/
theorem jbegin_eq (hj : isJ b) (hN : isNet m c N) (hd : c + 5 ≤ b ∨ b + 4 ≤ c) : ∃ m', f_X2_begin fu b c (mem w m) = some ((), mem w m') ∧ (∀ p, (p < b ∨ b + 4 ≤ p) → m' p = m p) ∧ jRep m' b N [] := by
  have hN1 : isNet (up m b 0 0) c N := hN.cong (up_ne (by omega)) (up_ne (by omega)) (up_ne (by omega)) (up_ne (by omega)) (up_ne (by omega))
  have hN2 : isNet (up (up (up m b 0 0) (b + 1) 0 (nS N)) (b + 2) 0 0) c N := hN1.cong (by rw [up_ne (by omega), up_ne (by omega)]) (by rw [up_ne (by omega), up_ne (by omega)]) (by rw [up_ne (by omega), up_ne (by omega)]) (by rw [up_ne (by omega), up_ne (by omega)]) (by rw [up_ne (by omega), up_ne (by omega)])
  unfold f_X2_begin
  simp (disch := omega) only [Option.bind_some, bd2_some, bdX_ok, bdX_er, nm_eq, n_0, n_1, n_2, n_3, n_4, n_5, n_6, n_7, n_8, n_9, n_10, n_11, n_12, n_14, n_15, n_16, n_17, n_18, n_19, n_20, n_21, n_24, n_27, n_28, n_32, n_43, n_45, n_48, n_56, n_57, n_59, n_64, n_70, n_97, n_99, n_100, n_104, n_118, n_122, n_126, n_127, n_128, n_129, n_130, n_150, n_255, n_600, n_1000, n_1050, n_1200, n_999999, n_1000000, iI_neg, iI_add, iI_sub, iI_mul, ile, ilt, ieq, J_has hj, J_0 hj, J_p0 hj, J_1 hj, J_2 hj, J_3 hj, J_g1 hj, J_g2 hj, J_g3 hj, J_s1 hj, J_s2 hj, J_s3 hj, K_1 hN1, K_3 hN2]
  refine ⟨_, rfl, fun p hp => ?_, hj, ?_, by simp, fun j hj9 => ?_⟩
  · simp (disch := omega) only [up_ne]
  · simp (disch := omega) only [up_ne, up_at]
    rfl
  · have : j = 0 := by simpa using hj9
    subst this
    simp (disch := omega) only [up_ne, up_at, show ((0 : Nat) : Int) = 0 from rfl]
    exact ⟨rfl, rfl, rfl⟩
/-- was a path told? -/
theorem wasTold_go (hfu : 100 ≤ fu) {q : Nat} (hT : isTolds m b T) (hTK : TOK N T) (hW : WFN N) (hq : isPth m q l) (hl : AOK N l) : ∀ (suf pre : List (List Int)) (n : Nat), T = pre ++ suf → suf.length < n → f_X8_wasTold_2 fu n b q (iI (pre.length : Int)) (mem w m) = some (iI (b2 (suf.any (fun y => decide (y = l)))), mem w m) := by
  have h6 := hT.2.2.1
  have hS := hT.1
  intro suf
  induction suf with
  | nil =>
    intro pre n hs hn
    have hlen : T.length = pre.length := by rw [hs]; simp
    obtain ⟨n, rfl⟩ : ∃ k, n = k + 1 := ⟨n - 1, by omega⟩
    rw [f_X8_wasTold_2, f_X8_wasTold_2b]
    simp (disch := omega) only [Option.bind_some, bd2_some, bdX_ok, bdX_er, nm_eq, n_0, n_1, n_2, n_3, n_4, n_5, n_6, n_7, n_8, n_9, n_10, n_11, n_12, n_14, n_15, n_16, n_17, n_18, n_19, n_20, n_21, n_24, n_27, n_28, n_32, n_43, n_45, n_48, n_56, n_57, n_59, n_64, n_70, n_97, n_99, n_100, n_104, n_118, n_122, n_126, n_127, n_128, n_129, n_130, n_150, n_255, n_600, n_1000, n_1050, n_1200, n_999999, n_1000000, iI_neg, iI_add, iI_sub, iI_mul, ile, ilt, ieq, S_3 hS, hT.2.1]
    rw [if_pos (by first | exact trivial | omega)]
    rfl
  | cons y suf ih =>
    intro pre n hs hn
    have hlen : T.length = pre.length + (suf.length + 1) := by rw [hs]; simp
    have hqy := hT.2.2.2 pre.length y (by rw [hs]; exact mid_at)
    have hy := hTK y (by rw [hs]; simp)
    simp only [List.length_cons] at hn
    obtain ⟨n, rfl⟩ : ∃ k, n = k + 1 := ⟨n - 1, by omega⟩
    rw [f_X8_wasTold_2, f_X8_wasTold_2b]
    simp (disch := omega) only [Option.bind_some, bd2_some, bdX_ok, bdX_er, nm_eq, n_0, n_1, n_2, n_3, n_4, n_5, n_6, n_7, n_8, n_9, n_10, n_11, n_12, n_14, n_15, n_16, n_17, n_18, n_19, n_20, n_21, n_24, n_27, n_28, n_32, n_43, n_45, n_48, n_56, n_57, n_59, n_64, n_70, n_97, n_99, n_100, n_104, n_118, n_122, n_126, n_127, n_128, n_129, n_130, n_150, n_255, n_600, n_1000, n_1050, n_1200, n_999999, n_1000000, iI_neg, iI_add, iI_sub, iI_mul, ile, ilt, ieq, S_3 hS, S_2 hS, hT.2.1, S_told hS (show pre.length < 6 by omega), Q_len hqy, Q_arr hqy, Q_has hqy, isSame_eq hfu hqy hq hy hl hW]
    rw [if_neg (by first | exact not_false | omega)]
    have := ih (pre ++ [y]) n (by rw [hs]; simp) (by omega)
    rw [show ((pre ++ [y]).length : Int) = (pre.length : Int) + 1 by simp] at this
    rw [List.any_cons]
    cases hc : decide (y = l) with
    | true => rw [show b2 true = 1 from rfl]; simp (disch := omega) only [Option.bind_some, bd2_some, bdX_ok, bdX_er, nm_eq, n_0, n_1, n_2, n_3, n_4, n_5, n_6, n_7, n_8, n_9, n_10, n_11, n_12, n_14, n_15, n_16, n_17, n_18, n_19, n_20, n_21, n_24, n_27, n_28, n_32, n_43, n_45, n_48, n_56, n_57, n_59, n_64, n_70, n_97, n_99, n_100, n_104, n_118, n_122, n_126, n_127, n_128, n_129, n_130, n_150, n_255, n_600, n_1000, n_1050, n_1200, n_999999, n_1000000, iI_neg, iI_add, iI_sub, iI_mul, ile, ilt, ieq]; rw [if_neg (by first | exact not_false | omega)]; simp [b2]
    | false => rw [show b2 false = 0 from rfl]; simp (disch := omega) only [Option.bind_some, bd2_some, bdX_ok, bdX_er, nm_eq, n_0, n_1, n_2, n_3, n_4, n_5, n_6, n_7, n_8, n_9, n_10, n_11, n_12, n_14, n_15, n_16, n_17, n_18, n_19, n_20, n_21, n_24, n_27, n_28, n_32, n_43, n_45, n_48, n_56, n_57, n_59, n_64, n_70, n_97, n_99, n_100, n_104, n_118, n_122, n_126, n_127, n_128, n_129, n_130, n_150, n_255, n_600, n_1000, n_1050, n_1200, n_999999, n_1000000, iI_neg, iI_add, iI_sub, iI_mul, ile, ilt, ieq]; rw [if_pos (by first | exact trivial | omega), this]; simp
theorem wasTold_eq (hfu : 100 ≤ fu) {q : Nat} (hT : isTolds m b T) (hTK : TOK N T) (hW : WFN N) (hq : isPth m q l) (hl : AOK N l) : f_X8_wasTold fu b q (mem w m) = some (iI (b2 (T.any (fun y => decide (y = l)))), mem w m) := by
  have h6 := hT.2.2.1
  rw [f_X8_wasTold]
  exact wasTold_go (w := w) hfu hT hTK hW hq hl T [] fu rfl (by omega)
/-- does a route have an arc? -/
theorem usesArc_go (hfu : 100 ≤ fu) {k31 : Nat → Int32 → List Ob → Option (Int32 × List Ob)} (hT : isTolds m b T) (hTK : TOK N T) (hW : WFN N) (hv : -1 ≤ v ∧ v < 2147483648) : ∀ (suf pre : List (List Int)) (n : Nat), T = pre ++ suf → suf.length < n → f_X8_usesArc_2 fu k31 n b (iI v) (iI (pre.length : Int)) (mem w m) = if suf.any (fun y => y.any (fun a => decide (a = v))) then some (iI 1, mem w m) else k31 b (iI v) (mem w m) := by
  have h6 := hT.2.2.1
  have hS := hT.1
  intro suf
  induction suf with
  | nil =>
    intro pre n hs hn
    have hlen : T.length = pre.length := by rw [hs]; simp
    obtain ⟨n, rfl⟩ : ∃ k, n = k + 1 := ⟨n - 1, by omega⟩
    rw [f_X8_usesArc_2, f_X8_usesArc_2b]
    simp (disch := omega) only [Option.bind_some, bd2_some, bdX_ok, bdX_er, nm_eq, n_0, n_1, n_2, n_3, n_4, n_5, n_6, n_7, n_8, n_9, n_10, n_11, n_12, n_14, n_15, n_16, n_17, n_18, n_19, n_20, n_21, n_24, n_27, n_28, n_32, n_43, n_45, n_48, n_56, n_57, n_59, n_64, n_70, n_97, n_99, n_100, n_104, n_118, n_122, n_126, n_127, n_128, n_129, n_130, n_150, n_255, n_600, n_1000, n_1050, n_1200, n_999999, n_1000000, iI_neg, iI_add, iI_sub, iI_mul, ile, ilt, ieq, S_3 hS, hT.2.1]
    rw [if_pos (by first | exact trivial | omega)]
    rfl
  | cons y suf ih =>
    intro pre n hs hn
    have hlen : T.length = pre.length + (suf.length + 1) := by rw [hs]; simp
    have hqy := hT.2.2.2 pre.length y (by rw [hs]; exact mid_at)
    have hy := hTK y (by rw [hs]; simp)
    simp only [List.length_cons] at hn
    obtain ⟨n, rfl⟩ : ∃ k, n = k + 1 := ⟨n - 1, by omega⟩
    rw [f_X8_usesArc_2, f_X8_usesArc_2b]
    simp (disch := omega) only [Option.bind_some, bd2_some, bdX_ok, bdX_er, nm_eq, n_0, n_1, n_2, n_3, n_4, n_5, n_6, n_7, n_8, n_9, n_10, n_11, n_12, n_14, n_15, n_16, n_17, n_18, n_19, n_20, n_21, n_24, n_27, n_28, n_32, n_43, n_45, n_48, n_56, n_57, n_59, n_64, n_70, n_97, n_99, n_100, n_104, n_118, n_122, n_126, n_127, n_128, n_129, n_130, n_150, n_255, n_600, n_1000, n_1050, n_1200, n_999999, n_1000000, iI_neg, iI_add, iI_sub, iI_mul, ile, ilt, ieq, S_3 hS, S_2 hS, hT.2.1, S_told hS (show pre.length < 6 by omega), Q_len hqy, Q_arr hqy, Q_has hqy, hasArc_eq hfu hqy hy hW hv]
    rw [if_neg (by first | exact not_false | omega)]
    have := ih (pre ++ [y]) n (by rw [hs]; simp) (by omega)
    rw [show ((pre ++ [y]).length : Int) = (pre.length : Int) + 1 by simp] at this
    rw [List.any_cons]
    cases hc : y.any (fun a => decide (a = v)) with
    | true => rw [show b2 true = 1 from rfl]; simp (disch := omega) only [Option.bind_some, bd2_some, bdX_ok, bdX_er, nm_eq, n_0, n_1, n_2, n_3, n_4, n_5, n_6, n_7, n_8, n_9, n_10, n_11, n_12, n_14, n_15, n_16, n_17, n_18, n_19, n_20, n_21, n_24, n_27, n_28, n_32, n_43, n_45, n_48, n_56, n_57, n_59, n_64, n_70, n_97, n_99, n_100, n_104, n_118, n_122, n_126, n_127, n_128, n_129, n_130, n_150, n_255, n_600, n_1000, n_1050, n_1200, n_999999, n_1000000, iI_neg, iI_add, iI_sub, iI_mul, ile, ilt, ieq]; rw [if_neg (by first | exact not_false | omega)]; simp
    | false => rw [show b2 false = 0 from rfl]; simp (disch := omega) only [Option.bind_some, bd2_some, bdX_ok, bdX_er, nm_eq, n_0, n_1, n_2, n_3, n_4, n_5, n_6, n_7, n_8, n_9, n_10, n_11, n_12, n_14, n_15, n_16, n_17, n_18, n_19, n_20, n_21, n_24, n_27, n_28, n_32, n_43, n_45, n_48, n_56, n_57, n_59, n_64, n_70, n_97, n_99, n_100, n_104, n_118, n_122, n_126, n_127, n_128, n_129, n_130, n_150, n_255, n_600, n_1000, n_1050, n_1200, n_999999, n_1000000, iI_neg, iI_add, iI_sub, iI_mul, ile, ilt, ieq]; rw [if_pos (by first | exact trivial | omega), this]; simp
def usesA (x : Sg) (a : Int) : Bool := (sR x).any (fun y => y.any (fun k => decide (k = a))) || (sD x).any (fun k => decide (k = a))
theorem usesArc_eq (hfu : 100 ≤ fu) (h : cRep m b x) (hTK : TOK (sN x) (sR x)) (hD : AOK (sN x) (sD x)) (hv : -1 ≤ v ∧ v < 2147483648) : f_X8_usesArc fu b (iI v) (mem w m) = some (iI (b2 (usesA x v)), mem w m) := by
  obtain ⟨x1, x2, x3, x4, x5⟩ := h
  have h6 := x3.2.2.1
  rw [f_X8_usesArc]
  have := usesArc_go (w := w) (fu := fu) hfu (k31 := fun x1 x2 M3 => f_X8_usesArc_31 fu x1 x2 M3) x3 hTK x2.2.2 hv (sR x) [] fu rfl (by omega)
  simp (disch := omega) only [Option.bind_some, bd2_some, bdX_ok, bdX_er, nm_eq, n_0, n_1, n_2, n_3, n_4, n_5, n_6, n_7, n_8, n_9, n_10, n_11, n_12, n_14, n_15, n_16, n_17, n_18, n_19, n_20, n_21, n_24, n_27, n_28, n_32, n_43, n_45, n_48, n_56, n_57, n_59, n_64, n_70, n_97, n_99, n_100, n_104, n_118, n_122, n_126, n_127, n_128, n_129, n_130, n_150, n_255, n_600, n_1000, n_1050, n_1200, n_999999, n_1000000, iI_neg, iI_add, iI_sub, iI_mul, ile, ilt, ieq]
  rw [show (([] : List (List Int)).length : Int) = 0 from rfl] at this
  rw [this]
  unfold usesA f_X8_usesArc_31
  cases h1 : (sR x).any (fun y => y.any (fun k => decide (k = v))) with
  | true => rfl
  | false =>
    simp (disch := omega) only [Option.bind_some, bd2_some, bdX_ok, bdX_er, nm_eq, n_0, n_1, n_2, n_3, n_4, n_5, n_6, n_7, n_8, n_9, n_10, n_11, n_12, n_14, n_15, n_16, n_17, n_18, n_19, n_20, n_21, n_24, n_27, n_28, n_32, n_43, n_45, n_48, n_56, n_57, n_59, n_64, n_70, n_97, n_99, n_100, n_104, n_118, n_122, n_126, n_127, n_128, n_129, n_130, n_150, n_255, n_600, n_1000, n_1050, n_1200, n_999999, n_1000000, iI_neg, iI_add, iI_sub, iI_mul, ile, ilt, ieq, S_1 x1, Q_len x4, Q_arr x4, Q_has x4, hasArc_eq hfu x4 hD x2.2.2 hv]
    rw [Bool.false_or]
    cases (sD x).any (fun k => decide (k = v)) <;> rfl
theorem addTold_eq {q : Nat} (hT : isTolds m b T) (hq : isPth m q l) (h6 : T.length < 6) (hqb : q ≠ b ∧ q + 1 ≠ b ∧ (q < b + 9 ∨ b + 21 ≤ q) ∧ (q + 1 < b + 9 ∨ b + 21 ≤ q + 1)) : ∃ m', f_X8_addTold fu b q (mem w m) = some ((), mem w m') ∧ (∀ p, p ≠ b → (p < b + 9 ∨ b + 21 ≤ p) → m' p = m p) ∧ isTolds m' b (T ++ [l]) := by
  have hS := hT.1
  have hp := S_P hS h6
  unfold f_X8_addTold
  simp (disch := omega) only [Option.bind_some, bd2_some, bdX_ok, bdX_er, nm_eq, n_0, n_1, n_2, n_3, n_4, n_5, n_6, n_7, n_8, n_9, n_10, n_11, n_12, n_14, n_15, n_16, n_17, n_18, n_19, n_20, n_21, n_24, n_27, n_28, n_32, n_43, n_45, n_48, n_56, n_57, n_59, n_64, n_70, n_97, n_99, n_100, n_104, n_118, n_122, n_126, n_127, n_128, n_129, n_130, n_150, n_255, n_600, n_1000, n_1050, n_1200, n_999999, n_1000000, iI_neg, iI_add, iI_sub, iI_mul, ile, ilt, ieq, S_3 hS, S_p3 hS, S_2 hS, hT.2.1, S_told hS h6, P_has hp, pcopy_eq hp hq.1]
  rw [if_neg (by omega)]
  have eb : pcp m (b + 9 + 2 * T.length) q b = m b := pcp_ne (by omega) (by omega)
  rw [eb, hT.2.1]
  refine ⟨_, rfl, fun p ha hb => ?_, hS, by rw [up_at]; simp, by simp; omega, fun i y hi => ?_⟩
  · rw [up_ne ha, pcp_ne (by omega) (by omega)]
  · have hi' : i < T.length + 1 := by have := (List.getElem?_eq_some_iff.mp hi).1; simpa using this
    by_cases e : i = T.length
    · subst e
      have : y = l := by simpa using hi.symm
      subst this
      exact (pcopy_is hp hq).cong (up_ne (by omega)) (up_ne (by omega))
    · rw [List.getElem?_append_left (by omega)] at hi
      exact (hT.2.2.2 i y hi).cong (by rw [up_ne (by omega), pcp_ne (by omega) (by omega)]) (by rw [up_ne (by omega), pcp_ne (by omega) (by omega)])
/-- a told route is taken out -/
theorem takeTold_go (hS : isS b) {k35 : Nat → List Ob → Option (Unit × List Ob)} : ∀ (d n : Nat) (m : Mm) (i : Nat) (T : List (List Int)), isTolds m b T → (i : Int) + d + 1 = T.length → d < n → ∃ m', f_X8_takeToldOut_2 fu k35 n b (iI (i : Int)) (mem w m) = k35 b (mem w m') ∧ (∀ p, (p < b + 9 + 2 * i ∨ b + 21 ≤ p) → m' p = m p) ∧ (∀ (j : Nat) (y : List Int), i ≤ j → (j : Int) + 1 < T.length → T[j + 1]? = some y → isPth m' (b + 9 + 2 * j) y) := by
  intro d
  induction d with
  | zero =>
    intro n m i T hT hi hn
    have h6 := hT.2.2.1
    obtain ⟨n, rfl⟩ : ∃ k, n = k + 1 := ⟨n - 1, by omega⟩
    rw [f_X8_takeToldOut_2, f_X8_takeToldOut_2b]
    simp (disch := omega) only [Option.bind_some, bd2_some, bdX_ok, bdX_er, nm_eq, n_0, n_1, n_2, n_3, n_4, n_5, n_6, n_7, n_8, n_9, n_10, n_11, n_12, n_14, n_15, n_16, n_17, n_18, n_19, n_20, n_21, n_24, n_27, n_28, n_32, n_43, n_45, n_48, n_56, n_57, n_59, n_64, n_70, n_97, n_99, n_100, n_104, n_118, n_122, n_126, n_127, n_128, n_129, n_130, n_150, n_255, n_600, n_1000, n_1050, n_1200, n_999999, n_1000000, iI_neg, iI_add, iI_sub, iI_mul, ile, ilt, ieq, S_3 hS, hT.2.1]
    rw [if_pos (by omega)]
    exact ⟨m, rfl, fun _ _ => rfl, fun j l a b => by omega⟩
  | succ d ih =>
    intro n m i T hT hi hn
    have h6 := hT.2.2.1
    obtain ⟨n, rfl⟩ : ∃ k, n = k + 1 := ⟨n - 1, by omega⟩
    have hp := S_P hS (i := i) (by omega)
    have hp' := S_P hS (i := i + 1) (by omega)
    have ht1 : aP (mem w m) (b + 8) 14 (iI ((i : Int) + 1)) = some (b + 9 + 2 * (i + 1)) := by
      have := S_told (w := w) (m := m) hS (i := i + 1) (by omega)
      rw [show ((i + 1 : Nat) : Int) = (i : Int) + 1 by omega] at this
      exact this
    rw [f_X8_takeToldOut_2, f_X8_takeToldOut_2b]
    simp (disch := omega) only [Option.bind_some, bd2_some, bdX_ok, bdX_er, nm_eq, n_0, n_1, n_2, n_3, n_4, n_5, n_6, n_7, n_8, n_9, n_10, n_11, n_12, n_14, n_15, n_16, n_17, n_18, n_19, n_20, n_21, n_24, n_27, n_28, n_32, n_43, n_45, n_48, n_56, n_57, n_59, n_64, n_70, n_97, n_99, n_100, n_104, n_118, n_122, n_126, n_127, n_128, n_129, n_130, n_150, n_255, n_600, n_1000, n_1050, n_1200, n_999999, n_1000000, iI_neg, iI_add, iI_sub, iI_mul, ile, ilt, ieq, S_3 hS, hT.2.1, S_2 hS, S_told hS (show i < 6 by omega), ht1, P_has hp, pcopy_eq hp hp']
    rw [if_neg (by omega)]
    -- the list with the next one at this place
    have hi1 : i + 1 < T.length := by omega
    obtain ⟨y1, hy1⟩ : ∃ y1, T[i + 1]? = some y1 := ⟨T[i + 1], List.getElem?_eq_getElem hi1⟩
    have hT1 : isTolds (pcp m (b + 9 + 2 * i) (b + 9 + 2 * (i + 1))) b (T.set i y1) := by
      refine ⟨hS, by rw [pcp_ne (by omega) (by omega), hT.2.1, List.length_set], by rw [List.length_set]; exact h6, fun j y hj => ?_⟩
      by_cases e : j = i
      · subst e
        rw [List.getElem?_set_self (by omega)] at hj
        cases hj
        exact pcopy_is hp (hT.2.2.2 (j + 1) y1 hy1)
      · rw [List.getElem?_set_ne (fun q => e q.symm)] at hj
        exact (hT.2.2.2 j y hj).cong (pcp_ne (by omega) (by omega)) (pcp_ne (by omega) (by omega))
    obtain ⟨m', q1, q2, q3⟩ := ih n (pcp m (b + 9 + 2 * i) (b + 9 + 2 * (i + 1))) (i + 1) (T.set i y1) hT1 (by rw [List.length_set]; omega) (by omega)
    rw [show ((i + 1 : Nat) : Int) = (i : Int) + 1 by omega] at q1
    refine ⟨m', q1, fun p hp9 => by rw [q2 p (by omega), pcp_ne (by omega) (by omega)], fun j y a b9 hy => ?_⟩
    by_cases e : j = i
    · subst e
      rw [hy1] at hy; cases hy
      exact (pcopy_is hp (hT.2.2.2 (j + 1) y1 hy1)).cong (q2 _ (by omega)) (q2 _ (by omega))
    · exact q3 j y (by omega) (by rw [List.length_set]; exact b9) (by rw [List.getElem?_set_ne (by omega)]; exact hy)
theorem takeTold_eq (hfu : 100 ≤ fu) (hT : isTolds m b T) {i : Nat} (hi : i < T.length) : ∃ m', f_X8_takeToldOut fu b (iI (i : Int)) (mem w m) = some ((), mem w m') ∧ (∀ p, p ≠ b → (p < b + 9 ∨ b + 21 ≤ p) → m' p = m p) ∧ isTolds m' b (T.eraseIdx i) := by
  have hS := hT.1
  have h6 := hT.2.2.1
  obtain ⟨m1, p1, p2, p3⟩ := takeTold_go (w := w) (fu := fu) hS (k35 := fun x1 M2 => f_X8_takeToldOut_35 fu x1 M2) (T.length - 1 - i) fu m i T hT (by omega) (by omega)
  rw [f_X8_takeToldOut, p1]
  unfold f_X8_takeToldOut_35
  simp (disch := omega) only [Option.bind_some, bd2_some, bdX_ok, bdX_er, nm_eq, n_0, n_1, n_2, n_3, n_4, n_5, n_6, n_7, n_8, n_9, n_10, n_11, n_12, n_14, n_15, n_16, n_17, n_18, n_19, n_20, n_21, n_24, n_27, n_28, n_32, n_43, n_45, n_48, n_56, n_57, n_59, n_64, n_70, n_97, n_99, n_100, n_104, n_118, n_122, n_126, n_127, n_128, n_129, n_130, n_150, n_255, n_600, n_1000, n_1050, n_1200, n_999999, n_1000000, iI_neg, iI_add, iI_sub, iI_mul, ile, ilt, ieq, S_3 hS, S_p3 hS]
  rw [p2 b (by omega), hT.2.1]
  have hel : (T.eraseIdx i).length = T.length - 1 := by rw [List.length_eraseIdx, if_pos hi]
  refine ⟨_, rfl, fun p ha hb => ?_, hS, by rw [up_at, hel]; omega, by omega, fun j y hj => ?_⟩
  · rw [up_ne ha, p2 p (by omega)]
  · have hj' : j < T.length - 1 := by have := (List.getElem?_eq_some_iff.mp hj).1; omega
    rw [List.getElem?_eraseIdx] at hj
    by_cases e : j < i
    · rw [if_pos e] at hj
      exact (hT.2.2.2 j y hj).cong (by rw [up_ne (by omega), p2 _ (by omega)]) (by rw [up_ne (by omega), p2 _ (by omega)])
    · rw [if_neg e] at hj
      exact (p3 j y (by omega) (by omega) hj).cong (up_ne (by omega)) (up_ne (by omega))
end SU
