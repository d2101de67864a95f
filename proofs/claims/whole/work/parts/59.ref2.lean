section RC
variable {w : Wl} {m m' : Mm} {p : Nat} {z v k a : Int} {fu : Nat} {N : Nt} {x x' : Sg} {H H' : List Sg}
def HRk (m : Mm) (H : List Sg) : Prop := m 283 3 = H.length ∧ H.length ≤ 8 ∧ ∀ (i : Nat) (y : Sg), H[i]? = some y → rRep (fun k => m 286 (150 * ((H.length : Int) - 1 - i) + k)) y
def RQ (w : Wl) (m : Mm) (o : Option (Int32 × List Ob)) (k v : Int) (x : Sg) (H : List Sg) : Prop := ∃ m' r, o = some (iI r, mem w m') ∧ m' 283 4 = k ∧ (k = 0 → r = v) ∧ cS m m' ∧ RI m' x H
theorem RQ_no (h : RI m x H) (hk : k ≠ 0) : RQ w m (some (iI 0, mem w (up m 283 4 k))) k v x (hist k x H) := ⟨_, 0, rfl, up_at, fun e => absurd e hk, cS_f (by omega), by unfold hist; rw [if_neg hk]; exact h.q (qS_f (by omega))⟩
theorem RQ_nq (h : RI m x H) (hk : k ≠ 0) : RQ w m (some (iI 0, mem w (up m 283 4 k))) k v x H := ⟨_, 0, rfl, up_at, fun e => absurd e hk, cS_f (by omega), h.q (qS_f (by omega))⟩
theorem keeps_sh {k40 : Nat → List Ob → Option (Unit × List Ob)} : ∀ (d n : Nat) (m : Mm) (i : Int), i + d = 1050 → 0 ≤ i → d < n → ∃ m', f_X11_keeps_11 fu k40 n 283 (iI i) (mem w m) = k40 283 (mem w m') ∧ (∀ q, q ≠ 286 → m' q = m q) ∧ ∀ k, m' 286 k = if i ≤ k ∧ k < 1050 then m 286 (k + 150) else m 286 k := by
  intro d
  induction d with
  | zero =>
    intro n m i hi hi0 hn
    obtain ⟨n, rfl⟩ : ∃ k, n = k + 1 := ⟨n - 1, by omega⟩
    rw [f_X11_keeps_11, f_X11_keeps_11b]
    simp (disch := omega) only [n_69, n_50, n_13, Option.bind_some, bd2_some, bdX_ok, bdX_er, nm_eq, n_0, n_1, n_2, n_3, n_4, n_5, n_6, n_7, n_8, n_9, n_10, n_11, n_12, n_14, n_15, n_16, n_17, n_18, n_19, n_20, n_21, n_24, n_27, n_28, n_32, n_43, n_45, n_48, n_56, n_57, n_59, n_64, n_70, n_97, n_99, n_100, n_104, n_118, n_122, n_126, n_127, n_128, n_129, n_130, n_150, n_255, n_600, n_1000, n_1050, n_1200, n_999999, n_1000000, iI_neg, iI_add, iI_sub, iI_mul, ile, ilt, ieq]
    rw [if_pos (by omega)]
    exact ⟨m, rfl, fun _ _ => rfl, fun k => by rw [if_neg (by omega)]⟩
  | succ d ih =>
    intro n m i hi hi0 hn
    obtain ⟨n, rfl⟩ : ∃ k, n = k + 1 := ⟨n - 1, by omega⟩
    rw [f_X11_keeps_11, f_X11_keeps_11b]
    simp (disch := omega) only [n_69, n_50, n_13, Option.bind_some, bd2_some, bdX_ok, bdX_er, nm_eq, n_0, n_1, n_2, n_3, n_4, n_5, n_6, n_7, n_8, n_9, n_10, n_11, n_12, n_14, n_15, n_16, n_17, n_18, n_19, n_20, n_21, n_24, n_27, n_28, n_32, n_43, n_45, n_48, n_56, n_57, n_59, n_64, n_70, n_97, n_99, n_100, n_104, n_118, n_122, n_126, n_127, n_128, n_129, n_130, n_150, n_255, n_600, n_1000, n_1050, n_1200, n_999999, n_1000000, iI_neg, iI_add, iI_sub, iI_mul, ile, ilt, ieq, Z_has, Z_0, Z_1, Z_2, Z_5, Z_15, Z_17, Z_18, Z_24, Z_25, Z_26, Z_3, Z_4, Z_6, Z_7, Z_8, Z_9, Z_10, Z_11, Z_12, Z_13, Z_14, Z_16, Z_19, Z_20, Z_21, Z_22, Z_23, Z_27, Y_3, Y_4, Y_6, Y_7, Y_8, Y_9, Y_10, Y_11, Y_12, Y_13, Y_14, Y_16, Y_19, Y_20, Y_21, Y_22, Y_23, Y_27, A_g, A_s, up_at, up_ne, up_off, Kp_g, Kp_s]
    rw [if_neg (by omega)]
    obtain ⟨m', q1, q2, q3⟩ := ih n (up m 286 i (m 286 (i + 150))) (i + 1) (by omega) (by omega) (by omega)
    refine ⟨m', q1, fun q hq => by rw [q2 q hq, up_ne hq], fun k => ?_⟩
    rw [q3 k]
    by_cases c : k = i
    · subst c; rw [if_neg (by omega), up_at, if_pos (by omega)]
    · rw [up_off c]
      by_cases c2 : i + 1 ≤ k ∧ k < 1050
      · rw [if_pos c2, up_off (by omega), if_pos (by omega)]
      · rw [if_neg c2, if_neg (by omega)]
theorem keeps_cp {k86 : Nat → List Ob → Option (Unit × List Ob)} {s : Int} (hs : 0 ≤ s ∧ s ≤ 7) : ∀ (d n : Nat) (m : Mm) (i : Int), m 283 3 = s → i + d = 150 → 0 ≤ i → d < n → ∃ m', f_X11_keeps_52 fu k86 n 283 (iI i) (mem w m) = k86 283 (mem w m') ∧ (∀ q, q ≠ 286 → m' q = m q) ∧ ∀ k, m' 286 k = if 150 * s + i ≤ k ∧ k < 150 * s + 150 then m 284 (k - 150 * s) else m 286 k := by
  intro d
  induction d with
  | zero =>
    intro n m i h3 hi hi0 hn
    obtain ⟨n, rfl⟩ : ∃ k, n = k + 1 := ⟨n - 1, by omega⟩
    rw [f_X11_keeps_52, f_X11_keeps_52b]
    simp (disch := omega) only [n_69, n_50, n_13, Option.bind_some, bd2_some, bdX_ok, bdX_er, nm_eq, n_0, n_1, n_2, n_3, n_4, n_5, n_6, n_7, n_8, n_9, n_10, n_11, n_12, n_14, n_15, n_16, n_17, n_18, n_19, n_20, n_21, n_24, n_27, n_28, n_32, n_43, n_45, n_48, n_56, n_57, n_59, n_64, n_70, n_97, n_99, n_100, n_104, n_118, n_122, n_126, n_127, n_128, n_129, n_130, n_150, n_255, n_600, n_1000, n_1050, n_1200, n_999999, n_1000000, iI_neg, iI_add, iI_sub, iI_mul, ile, ilt, ieq]
    rw [if_pos (by omega)]
    exact ⟨m, rfl, fun _ _ => rfl, fun k => by rw [if_neg (by omega)]⟩
  | succ d ih =>
    intro n m i h3 hi hi0 hn
    obtain ⟨n, rfl⟩ : ∃ k, n = k + 1 := ⟨n - 1, by omega⟩
    rw [f_X11_keeps_52, f_X11_keeps_52b]
    simp (disch := omega) only [n_69, n_50, n_13, Option.bind_some, bd2_some, bdX_ok, bdX_er, nm_eq, n_0, n_1, n_2, n_3, n_4, n_5, n_6, n_7, n_8, n_9, n_10, n_11, n_12, n_14, n_15, n_16, n_17, n_18, n_19, n_20, n_21, n_24, n_27, n_28, n_32, n_43, n_45, n_48, n_56, n_57, n_59, n_64, n_70, n_97, n_99, n_100, n_104, n_118, n_122, n_126, n_127, n_128, n_129, n_130, n_150, n_255, n_600, n_1000, n_1050, n_1200, n_999999, n_1000000, iI_neg, iI_add, iI_sub, iI_mul, ile, ilt, ieq, Z_has, Z_0, Z_1, Z_2, Z_5, Z_15, Z_17, Z_18, Z_24, Z_25, Z_26, Z_3, Z_4, Z_6, Z_7, Z_8, Z_9, Z_10, Z_11, Z_12, Z_13, Z_14, Z_16, Z_19, Z_20, Z_21, Z_22, Z_23, Z_27, Y_3, Y_4, Y_6, Y_7, Y_8, Y_9, Y_10, Y_11, Y_12, Y_13, Y_14, Y_16, Y_19, Y_20, Y_21, Y_22, Y_23, Y_27, A_g, A_s, up_at, up_ne, up_off, h3, Kp_s]
    rw [if_neg (by omega)]
    obtain ⟨m', q1, q2, q3⟩ := ih n (up m 286 (150 * s + i) (m 284 i)) (i + 1) (by rw [up_ne (by omega)]; exact h3) (by omega) (by omega) (by omega)
    refine ⟨m', q1, fun q hq => by rw [q2 q hq, up_ne hq], fun k => ?_⟩
    rw [q3 k, up_ne (p := 286) (p' := 284) (by omega)]
    by_cases c : k = 150 * s + i
    · subst c; rw [if_neg (by omega), up_at, if_pos (by omega), show 150 * s + i - 150 * s = i by omega]
    · rw [up_off c]
      by_cases c2 : 150 * s + (i + 1) ≤ k ∧ k < 150 * s + 150
      · rw [if_pos c2, if_pos (by omega)]
      · rw [if_neg c2, if_neg (by omega)]
theorem keepsR_eq (hfu : 2000 ≤ fu) (h : RI m x H) : ∃ m', f_X11_keeps fu 283 (mem w m) = some ((), mem w m') ∧ cS m m' ∧ m' 284 = m 284 ∧ (∀ k, k ≠ 3 → m' 283 k = m 283 k) ∧ HRk m' ((x :: H).take 8) := by
  obtain ⟨h1, h2, h3, h4⟩ := h
  have hlen : ((x :: H).take 8).length = min 8 (H.length + 1) := by rw [List.length_take, List.length_cons]
  -- the copy, the count
  have cp : ∀ (m1 : Mm) (s : Nat), s ≤ 7 → m1 283 3 = s → ∃ m', f_X11_keeps_50 fu 283 (mem w m1) = some ((), mem w m') ∧ (∀ q, q ≠ 286 → q ≠ 283 → m' q = m1 q) ∧ (∀ k, k ≠ 3 → m' 283 k = m1 283 k) ∧ m' 283 3 = (s : Int) + 1 ∧ ∀ k, m' 286 k = if 150 * (s : Int) ≤ k ∧ k < 150 * (s : Int) + 150 then m1 284 (k - 150 * s) else m1 286 k := by
    intro m1 s hs7 hs
    obtain ⟨m2, q1, q2, q3⟩ := keeps_cp (w := w) (fu := fu) (k86 := fun x1 M2 => f_X11_keeps_86 fu x1 M2) (s := s) (by omega) 150 fu m1 0 hs (by omega) (by omega) (by omega)
    unfold f_X11_keeps_50
    simp (disch := omega) only [n_69, n_50, n_13, Option.bind_some, bd2_some, bdX_ok, bdX_er, nm_eq, n_0, n_1, n_2, n_3, n_4, n_5, n_6, n_7, n_8, n_9, n_10, n_11, n_12, n_14, n_15, n_16, n_17, n_18, n_19, n_20, n_21, n_24, n_27, n_28, n_32, n_43, n_45, n_48, n_56, n_57, n_59, n_64, n_70, n_97, n_99, n_100, n_104, n_118, n_122, n_126, n_127, n_128, n_129, n_130, n_150, n_255, n_600, n_1000, n_1050, n_1200, n_999999, n_1000000, iI_neg, iI_add, iI_sub, iI_mul, ile, ilt, ieq]
    rw [q1]
    have e3 : m2 283 3 = s := by rw [q2 283 (by decide)]; exact hs
    unfold f_X11_keeps_86
    simp (disch := omega) only [n_69, n_50, n_13, Option.bind_some, bd2_some, bdX_ok, bdX_er, nm_eq, n_0, n_1, n_2, n_3, n_4, n_5, n_6, n_7, n_8, n_9, n_10, n_11, n_12, n_14, n_15, n_16, n_17, n_18, n_19, n_20, n_21, n_24, n_27, n_28, n_32, n_43, n_45, n_48, n_56, n_57, n_59, n_64, n_70, n_97, n_99, n_100, n_104, n_118, n_122, n_126, n_127, n_128, n_129, n_130, n_150, n_255, n_600, n_1000, n_1050, n_1200, n_999999, n_1000000, iI_neg, iI_add, iI_sub, iI_mul, ile, ilt, ieq, Z_has, Z_0, Z_1, Z_2, Z_5, Z_15, Z_17, Z_18, Z_24, Z_25, Z_26, Z_3, Z_4, Z_6, Z_7, Z_8, Z_9, Z_10, Z_11, Z_12, Z_13, Z_14, Z_16, Z_19, Z_20, Z_21, Z_22, Z_23, Z_27, Y_3, Y_4, Y_6, Y_7, Y_8, Y_9, Y_10, Y_11, Y_12, Y_13, Y_14, Y_16, Y_19, Y_20, Y_21, Y_22, Y_23, Y_27, A_g, A_s, up_at, up_ne, up_off, e3]
    refine ⟨_, rfl, fun q a b => by rw [up_ne b, q2 q a], fun k hk => by rw [up_off hk, q2 283 (by decide)], up_at, fun k => ?_⟩
    rw [up_ne (by omega), q3 k, Int.add_zero]
  unfold f_X11_keeps
  simp (disch := omega) only [n_69, n_50, n_13, Option.bind_some, bd2_some, bdX_ok, bdX_er, nm_eq, n_0, n_1, n_2, n_3, n_4, n_5, n_6, n_7, n_8, n_9, n_10, n_11, n_12, n_14, n_15, n_16, n_17, n_18, n_19, n_20, n_21, n_24, n_27, n_28, n_32, n_43, n_45, n_48, n_56, n_57, n_59, n_64, n_70, n_97, n_99, n_100, n_104, n_118, n_122, n_126, n_127, n_128, n_129, n_130, n_150, n_255, n_600, n_1000, n_1050, n_1200, n_999999, n_1000000, iI_neg, iI_add, iI_sub, iI_mul, ile, ilt, ieq, Z_has, Z_0, Z_1, Z_2, Z_5, Z_15, Z_17, Z_18, Z_24, Z_25, Z_26, Z_3, Z_4, Z_6, Z_7, Z_8, Z_9, Z_10, Z_11, Z_12, Z_13, Z_14, Z_16, Z_19, Z_20, Z_21, Z_22, Z_23, Z_27, Y_3, Y_4, Y_6, Y_7, Y_8, Y_9, Y_10, Y_11, Y_12, Y_13, Y_14, Y_16, Y_19, Y_20, Y_21, Y_22, Y_23, Y_27, A_g, A_s, up_at, up_ne, up_off, h2]
  by_cases c : (H.length : Int) = 8
  · rw [if_pos c]
    obtain ⟨m1, p1, p2, p3⟩ := keeps_sh (w := w) (fu := fu) (k40 := fun x3 M4 => f_X11_keeps_40 fu x3 M4) 1050 fu m 0 (by omega) (by omega) (by omega)
    rw [p1]
    have e3 : m1 283 3 = 8 := by rw [p2 283 (by decide), h2, c]
    unfold f_X11_keeps_40
    simp (disch := omega) only [n_69, n_50, n_13, Option.bind_some, bd2_some, bdX_ok, bdX_er, nm_eq, n_0, n_1, n_2, n_3, n_4, n_5, n_6, n_7, n_8, n_9, n_10, n_11, n_12, n_14, n_15, n_16, n_17, n_18, n_19, n_20, n_21, n_24, n_27, n_28, n_32, n_43, n_45, n_48, n_56, n_57, n_59, n_64, n_70, n_97, n_99, n_100, n_104, n_118, n_122, n_126, n_127, n_128, n_129, n_130, n_150, n_255, n_600, n_1000, n_1050, n_1200, n_999999, n_1000000, iI_neg, iI_add, iI_sub, iI_mul, ile, ilt, ieq, Z_has, Z_0, Z_1, Z_2, Z_5, Z_15, Z_17, Z_18, Z_24, Z_25, Z_26, Z_3, Z_4, Z_6, Z_7, Z_8, Z_9, Z_10, Z_11, Z_12, Z_13, Z_14, Z_16, Z_19, Z_20, Z_21, Z_22, Z_23, Z_27, Y_3, Y_4, Y_6, Y_7, Y_8, Y_9, Y_10, Y_11, Y_12, Y_13, Y_14, Y_16, Y_19, Y_20, Y_21, Y_22, Y_23, Y_27, A_g, A_s, up_at, up_ne, up_off, e3]
    obtain ⟨m', q1, q2, q3, q4, q5⟩ := cp (up m1 283 3 (8 - 1)) 7 (by omega) up_at
    refine ⟨m', q1, ⟨fun p hp => ?_, ?_, ?_, ?_, ?_, ?_⟩, ?_, fun k hk => ?_, ?_, by rw [hlen]; omega, fun i y hi => ?_⟩
    · rw [q2 p (by omega) (by omega), up_ne (by omega), p2 p (by omega)]
    · rw [q2 _ (by omega) (by omega), up_ne (by omega), p2 _ (by omega)]
    · rw [q2 _ (by omega) (by omega), up_ne (by omega), p2 _ (by omega)]
    · rw [q3 _ (by omega), up_off (by omega), p2 _ (by omega)]
    · rw [q3 _ (by omega), up_off (by omega), p2 _ (by omega)]
    · rw [q3 _ (by omega), up_off (by omega), p2 _ (by omega)]
    · rw [q2 _ (by omega) (by omega), up_ne (by omega), p2 _ (by omega)]
    · rw [q3 _ hk, up_off hk, p2 _ (by omega)]
    · rw [q4, hlen]; omega
    · have hi8 : i < 8 := by
        have := (List.getElem?_eq_some_iff.mp hi).1
        rw [hlen] at this; omega
      have el : (((x :: H).take 8).length : Int) = 8 := by rw [hlen]; omega
      rw [el]
      cases i with
      | zero =>
        rw [List.getElem?_take, if_pos (by omega)] at hi
        have : x = y := by simpa using hi
        subst this
        refine h1.cong (fun k k0 k1 => ?_)
        show m' 286 (150 * (8 - 1 - ((0 : Nat) : Int)) + k) = _
        rw [q5, if_pos (by omega), up_ne (by omega), p2 284 (by omega)]
        congr 1; omega
      | succ i =>
        rw [List.getElem?_take, if_pos hi8, List.getElem?_cons_succ] at hi
        refine (h4 i y hi).cong (fun k k0 k1 => ?_)
        show m' 286 (150 * (8 - 1 - ((i + 1 : Nat) : Int)) + k) = m 286 (150 * ((H.length : Int) - 1 - i) + k)
        rw [q5, if_neg (by omega), up_ne (by omega), p3, if_pos (by omega), c]
        congr 1; omega
  · rw [if_neg c]
    obtain ⟨m', q1, q2, q3, q4, q5⟩ := cp m H.length (by omega) h2
    refine ⟨m', q1, ⟨fun p hp => q2 p (by omega) (by omega), q2 _ (by omega) (by omega), q2 _ (by omega) (by omega), q3 _ (by omega), q3 _ (by omega), q3 _ (by omega)⟩, q2 _ (by omega) (by omega), q3, ?_, by rw [hlen]; omega, fun i y hi => ?_⟩
    · rw [q4, hlen]; omega
    · have hi8 : i < H.length + 1 := by
        have := (List.getElem?_eq_some_iff.mp hi).1
        rw [hlen] at this; omega
      have el : (((x :: H).take 8).length : Int) = H.length + 1 := by rw [hlen]; omega
      rw [el]
      cases i with
      | zero =>
        rw [List.getElem?_take, if_pos (by omega)] at hi
        have : x = y := by simpa using hi
        subst this
        refine h1.cong (fun k k0 k1 => ?_)
        show m' 286 (150 * ((H.length : Int) + 1 - 1 - ((0 : Nat) : Int)) + k) = _
        rw [q5, if_pos (by omega)]
        congr 1; omega
      | succ i =>
        rw [List.getElem?_take, if_pos (by omega), List.getElem?_cons_succ] at hi
        refine (h4 i y hi).cong (fun k k0 k1 => ?_)
        show m' 286 (150 * ((H.length : Int) + 1 - 1 - ((i + 1 : Nat) : Int)) + k) = m 286 (150 * ((H.length : Int) - 1 - i) + k)
        rw [q5, if_neg (by omega)]
        congr 1; omega
theorem RI_new {m1 : Mm} (hH : HRk m1 H') (hs : ∀ q, q ≠ 284 → m' q = m1 q) (hx : rRep (m' 284) x') : RI m' x' H' := ⟨hx, by rw [hs 283 (by decide)]; exact hH.1, hH.2.1, fun i y hi => by rw [hs 286 (by decide)]; exact hH.2.2 i y hi⟩
theorem cS_a {m1 : Mm} (hs : ∀ q, q ≠ 284 → m' q = m1 q) : cS m1 m' := ⟨fun p hp => hs p (by omega), hs _ (by omega), hs _ (by omega), by rw [hs 283 (by omega)], by rw [hs 283 (by omega)], by rw [hs 283 (by omega)]⟩
/-- what a change does behind 'thrown = 0' -/
theorem chg (hfu : 2000 ≤ fu) (h : RI m x H) : ∃ m1, f_X11_keeps fu 283 (mem w (up m 283 4 0)) = some ((), mem w m1) ∧ cS m m1 ∧ m1 284 = m 284 ∧ m1 283 4 = 0 ∧ HRk m1 ((x :: H).take 8) := by
  obtain ⟨m1, p1, p2, p3, p4, p5⟩ := keepsR_eq (w := w) (fu := fu) hfu (h.q (qS_f (v := 0) (k := 4) (by omega)))
  exact ⟨m1, p1, (cS_f (by omega)).trans p2, by rw [p3, up_ne (by omega)], by rw [p4 4 (by omega), up_at], p5⟩
theorem RQ_yes {m1 : Mm} {r : Int} (hc : cS m m1) (h4 : m1 283 4 = 0) (hH : HRk m1 ((x :: H).take 8)) (hs : ∀ q, q ≠ 284 → m' q = m1 q) (hx : rRep (m' 284) x') (hr : r = v) : RQ w m (some (iI r, mem w m')) 0 v x' (hist 0 x H) := ⟨m', r, rfl, by rw [hs 283 (by decide)]; exact h4, fun _ => hr, hc.trans (cS_a hs), RI_new hH hs hx⟩
theorem addsArc_eq (hp : isRw p) (hN : rNet (m p) N) (hA : nA N < 16) {t h c e : Int} (ht : 0 ≤ t ∧ t < nN N) (hh : 0 ≤ h ∧ h < nN N) (hne : t ≠ h) (hc : 0 ≤ c ∧ c ≤ 99) (he : 0 ≤ e ∧ e ≤ 99) : ∃ m', f_X11_addsArc fu p (iI t) (iI h) (iI c) (iI e) (mem w m) = some ((), mem w m') ∧ (∀ q, q ≠ p → m' q = m q) ∧ (∀ k, 69 ≤ k → m' p k = m p k) ∧ m' p 1 = m p 1 ∧ m' p 3 = m p 3 ∧ rNet (m' p) (addN N t h c e) := by
  have hw := hN.1.1
  obtain ⟨g0, ⟨g1, g2, g3, g4, g5⟩, g6⟩ := hN
  unfold f_X11_addsArc
  simp (disch := omega) only [n_69, n_50, n_13, Option.bind_some, bd2_some, bdX_ok, bdX_er, nm_eq, n_0, n_1, n_2, n_3, n_4, n_5, n_6, n_7, n_8, n_9, n_10, n_11, n_12, n_14, n_15, n_16, n_17, n_18, n_19, n_20, n_21, n_24, n_27, n_28, n_32, n_43, n_45, n_48, n_56, n_57, n_59, n_64, n_70, n_97, n_99, n_100, n_104, n_118, n_122, n_126, n_127, n_128, n_129, n_130, n_150, n_255, n_600, n_1000, n_1050, n_1200, n_999999, n_1000000, iI_neg, iI_add, iI_sub, iI_mul, ile, ilt, ieq, Rw_g hp, Rw_s hp, up_off, g5]
  refine ⟨_, rfl, fun q hq => ?_, fun k hk => ?_, ?_, ?_, addN_wf g0 hA ht hh hne hc he, ⟨?_, ?_, ?_, ?_, ?_⟩, fun k k0 k1 => ?_⟩
  · simp (disch := omega) only [up_ne]
  · simp (disch := omega) only [up_off]
  · simp (disch := omega) only [up_off]
  · simp (disch := omega) only [up_off]
  · simp (disch := omega) only [up_off]; exact g1
  · simp (disch := omega) only [up_off]; exact g2
  · simp (disch := omega) only [up_off]; exact g3
  · simp (disch := omega) only [up_off]; exact g4
  · simp (disch := omega) only [up_off, up_at]; rfl
  · have k1 : k < nA N + 1 := k1
    show _ = upd1 (aTl N) (nA N) t k ∧ _ = upd1 (aHd N) (nA N) h k ∧ _ = upd1 (aCo N) (nA N) c k ∧ _ = upd1 (aEx N) (nA N) e k
    unfold upd1
    by_cases q : k = nA N
    · subst q
      rw [if_pos rfl, if_pos rfl, if_pos rfl, if_pos rfl]
      simp (disch := omega) only [up_off, up_at]
      simp
    · rw [if_neg q, if_neg q, if_neg q, if_neg q]
      simp (disch := omega) only [up_off]
      exact g6 k k0 (by omega)
theorem addArcR_eq (hfu : 2000 ≤ fu) (h : RI m x H) {t hd c e : Int} (ht : i32 t) (hh : i32 hd) (hc : i32 c) (he : i32 e) : RQ w m (f_X11_addArc fu 283 (iI t) (iI hd) (iI c) (iI e) (mem w m)) (qAdd x t hd c e).1 (qAdd x t hd c e).2.1 (qAdd x t hd c e).2.2 (hist (qAdd x t hd c e).1 x H) := by
  have hN := h.1.1
  have hw := hN.1.1
  have key : ∀ k : Int, 0 < k → k < 4 → RQ w m (f_X11_addArc_79 fu 283 (iI t) (iI hd) (iI c) (iI e) 283 (iI k) (mem w m)) k 0 x (hist k x H) := fun k k0 k1 => by
    unfold f_X11_addArc_79
    simp (disch := omega) only [n_69, n_50, n_13, Option.bind_some, bd2_some, bdX_ok, bdX_er, nm_eq, n_0, n_1, n_2, n_3, n_4, n_5, n_6, n_7, n_8, n_9, n_10, n_11, n_12, n_14, n_15, n_16, n_17, n_18, n_19, n_20, n_21, n_24, n_27, n_28, n_32, n_43, n_45, n_48, n_56, n_57, n_59, n_64, n_70, n_97, n_99, n_100, n_104, n_118, n_122, n_126, n_127, n_128, n_129, n_130, n_150, n_255, n_600, n_1000, n_1050, n_1200, n_999999, n_1000000, iI_neg, iI_add, iI_sub, iI_mul, ile, ilt, ieq, Z_has, Z_0, Z_1, Z_2, Z_5, Z_15, Z_17, Z_18, Z_24, Z_25, Z_26, Z_3, Z_4, Z_6, Z_7, Z_8, Z_9, Z_10, Z_11, Z_12, Z_13, Z_14, Z_16, Z_19, Z_20, Z_21, Z_22, Z_23, Z_27, Y_3, Y_4, Y_6, Y_7, Y_8, Y_9, Y_10, Y_11, Y_12, Y_13, Y_14, Y_16, Y_19, Y_20, Y_21, Y_22, Y_23, Y_27, A_g, A_s, up_at, up_ne, up_off]
    rw [if_neg (by omega)]
    exact RQ_no h (by omega)
  have v1 := ht; have v2 := hh; have v3 := hc; have v4 := he
  unfold i32 at v1 v2 v3 v4
  have k31 : ∀ b0 : Int, (b0 = 1 ↔ (t ≠ hd ∧ (0 ≤ c ∧ c ≤ 99) ∧ 0 ≤ e ∧ e ≤ 99)) → (b0 = 0 ∨ b0 = 1) → RQ w m (f_X11_addArc_31 fu 283 (iI t) (iI hd) (iI c) (iI e) (iI b0) (mem w m)) (qAdd x t hd c e).1 (qAdd x t hd c e).2.1 (qAdd x t hd c e).2.2 (hist (qAdd x t hd c e).1 x H) := by
    intro b0 hb hb01
    unfold f_X11_addArc_31 f_X11_addArc_50 qAdd
    simp (disch := omega) only [n_69, n_50, n_13, Option.bind_some, bd2_some, bdX_ok, bdX_er, nm_eq, n_0, n_1, n_2, n_3, n_4, n_5, n_6, n_7, n_8, n_9, n_10, n_11, n_12, n_14, n_15, n_16, n_17, n_18, n_19, n_20, n_21, n_24, n_27, n_28, n_32, n_43, n_45, n_48, n_56, n_57, n_59, n_64, n_70, n_97, n_99, n_100, n_104, n_118, n_122, n_126, n_127, n_128, n_129, n_130, n_150, n_255, n_600, n_1000, n_1050, n_1200, n_999999, n_1000000, iI_neg, iI_add, iI_sub, iI_mul, ile, ilt, ieq, Z_has, Z_0, Z_1, Z_2, Z_5, Z_15, Z_17, Z_18, Z_24, Z_25, Z_26, Z_3, Z_4, Z_6, Z_7, Z_8, Z_9, Z_10, Z_11, Z_12, Z_13, Z_14, Z_16, Z_19, Z_20, Z_21, Z_22, Z_23, Z_27, Y_3, Y_4, Y_6, Y_7, Y_8, Y_9, Y_10, Y_11, Y_12, Y_13, Y_14, Y_16, Y_19, Y_20, Y_21, Y_22, Y_23, Y_27, A_g, A_s, up_at, up_ne, up_off, isNodeR_eq hN ht, isNodeR_eq hN hh, hN.2.1.2.2.2.2]
    by_cases c1 : 0 ≤ t ∧ t < nN (sN x)
    · rw [show inB t 0 (nN (sN x) - 1) = 1 from if_pos (by omega)]
      rw [if_neg (by first | exact not_false | omega | decide), if_neg (not_not_intro c1)]
      by_cases c2 : 0 ≤ hd ∧ hd < nN (sN x)
      · rw [show inB hd 0 (nN (sN x) - 1) = 1 from if_pos (by omega)]
        rw [if_neg (by first | exact not_false | omega | decide), if_neg (not_not_intro c2)]
        rcases hb01 with rfl | rfl
        · rw [if_pos (by first | exact trivial | omega | decide)]
          have hb' : ¬ (t ≠ hd ∧ (0 ≤ c ∧ c ≤ 99) ∧ 0 ≤ e ∧ e ≤ 99) := fun q => by have := hb.mpr q; omega
          by_cases c3 : t = hd
          · rw [if_pos c3]; exact key 2 (by omega) (by omega)
          · rw [if_neg c3, if_pos (fun q => hb' ⟨c3, q⟩)]; exact key 2 (by omega) (by omega)
        · obtain ⟨c3, c4⟩ := hb.mp rfl
          rw [if_neg (by first | exact not_false | omega | decide), if_neg c3, if_neg (not_not_intro c4)]
          by_cases c5 : nA (sN x) < 16
          · rw [if_neg (by omega), if_pos c5]
            obtain ⟨m1, p1, p2, p3, p4, p5⟩ := chg (w := w) hfu h
            have hN1 : rNet (m1 284) (sN x) := by rw [p3]; exact hN
            obtain ⟨m2, q1, q2, q3, q4, q5, q6⟩ := addsArc_eq (w := w) (fu := fu) rw284 hN1 c5 c1 c2 c3 c4.1 c4.2
            obtain ⟨m3, r1, r2, r3, r4, r5, r6, r7⟩ := setsOut_eq (w := w) (m := m2) (fu := fu) rw284
            have h4 : m3 284 4 = nA (sN x) + 1 := by rw [r3 4 (by omega)]; exact q6.2.1.2.2.2.2
            unfold f_X11_addArc_79
            simp (disch := omega) only [n_69, n_50, n_13, Option.bind_some, bd2_some, bdX_ok, bdX_er, nm_eq, n_0, n_1, n_2, n_3, n_4, n_5, n_6, n_7, n_8, n_9, n_10, n_11, n_12, n_14, n_15, n_16, n_17, n_18, n_19, n_20, n_21, n_24, n_27, n_28, n_32, n_43, n_45, n_48, n_56, n_57, n_59, n_64, n_70, n_97, n_99, n_100, n_104, n_118, n_122, n_126, n_127, n_128, n_129, n_130, n_150, n_255, n_600, n_1000, n_1050, n_1200, n_999999, n_1000000, iI_neg, iI_add, iI_sub, iI_mul, ile, ilt, ieq, Z_has, Z_0, Z_1, Z_2, Z_5, Z_15, Z_17, Z_18, Z_24, Z_25, Z_26, Z_3, Z_4, Z_6, Z_7, Z_8, Z_9, Z_10, Z_11, Z_12, Z_13, Z_14, Z_16, Z_19, Z_20, Z_21, Z_22, Z_23, Z_27, Y_3, Y_4, Y_6, Y_7, Y_8, Y_9, Y_10, Y_11, Y_12, Y_13, Y_14, Y_16, Y_19, Y_20, Y_21, Y_22, Y_23, Y_27, A_g, A_s, up_at, up_ne, up_off, p1, q1, r1, h4]
            rw [if_pos (by first | exact trivial | omega | decide)]
            refine RQ_yes p2 p4 p5 (m' := m3) (fun q hq => by rw [r2 q hq, q2 q hq]) ⟨q6.cong (fun k _ b => r3 k (by omega)), h.1.2.1.cong (fun k a b => by rw [r3 k (by omega), q3 k (by omega), p3]), h.1.2.2.1.cong (fun k a b => by rw [r3 k (by omega), q3 k (by omega), p3]), rJrn_nil q6 r4 r5 r6 r7⟩ (by omega)
          · rw [if_pos (by omega), if_neg c5]; exact key 3 (by omega) (by omega)
      · rw [show inB hd 0 (nN (sN x) - 1) = 0 from if_neg (by omega)]
        rw [if_pos (by first | exact trivial | omega | decide), if_pos c2]
        exact key 1 (by omega) (by omega)
    · rw [show inB t 0 (nN (sN x) - 1) = 0 from if_neg (by omega)]
      rw [if_pos (by first | exact trivial | omega | decide), if_pos c1]
      exact key 1 (by omega) (by omega)
  unfold f_X11_addArc f_X11_addArc_30
  simp (disch := omega) only [n_69, n_50, n_13, Option.bind_some, bd2_some, bdX_ok, bdX_er, nm_eq, n_0, n_1, n_2, n_3, n_4, n_5, n_6, n_7, n_8, n_9, n_10, n_11, n_12, n_14, n_15, n_16, n_17, n_18, n_19, n_20, n_21, n_24, n_27, n_28, n_32, n_43, n_45, n_48, n_56, n_57, n_59, n_64, n_70, n_97, n_99, n_100, n_104, n_118, n_122, n_126, n_127, n_128, n_129, n_130, n_150, n_255, n_600, n_1000, n_1050, n_1200, n_999999, n_1000000, iI_neg, iI_add, iI_sub, iI_mul, ile, ilt, ieq, isInR_eq hc (show i32 0 by unfold i32; omega) (show i32 99 by unfold i32; omega), isInR_eq he (show i32 0 by unfold i32; omega) (show i32 99 by unfold i32; omega)]
  by_cases d1 : t = hd
  · rw [if_pos d1]; exact k31 0 ⟨fun q => by omega, fun q => absurd d1 q.1⟩ (Or.inl rfl)
  · rw [if_neg d1]
    by_cases d2 : 0 ≤ c ∧ c ≤ 99
    · rw [show inB c 0 99 = 1 from if_pos d2, if_neg (by first | exact not_false | omega | decide)]
      by_cases d3 : 0 ≤ e ∧ e ≤ 99
      · rw [show inB e 0 99 = 1 from if_pos d3, if_neg (by first | exact not_false | omega | decide)]
        exact k31 1 ⟨fun _ => ⟨d1, d2, d3⟩, fun _ => rfl⟩ (Or.inr rfl)
      · rw [show inB e 0 99 = 0 from if_neg d3, if_pos (by first | exact trivial | omega | decide)]
        exact k31 0 ⟨fun q => by omega, fun q => absurd q.2.2 d3⟩ (Or.inl rfl)
    · rw [show inB c 0 99 = 0 from if_neg d2, if_pos (by first | exact trivial | omega | decide)]
      exact k31 0 ⟨fun q => by omega, fun q => absurd q.2.1 d2⟩ (Or.inl rfl)
theorem setArcR_eq (hfu : 2000 ≤ fu) (h : RI m x H) {c e : Int} (ha : i32 a) (hc : i32 c) (he : i32 e) : RQ w m (f_X11_setArc fu 283 (iI a) (iI c) (iI e) (mem w m)) (qSet x a c e).1 (qSet x a c e).2.1 (qSet x a c e).2.2 (hist (qSet x a c e).1 x H) := by
  have hN := h.1.1
  have hw := hN.1.1
  have v1 := ha; have v3 := hc; have v4 := he
  unfold i32 at v1 v3 v4
  have key : ∀ k : Int, 0 < k → k < 4 → RQ w m (f_X11_setArc_38 fu 283 (iI a) (iI c) (iI e) 283 (iI k) (mem w m)) k 0 x (hist k x H) := fun k k0 k1 => by
    unfold f_X11_setArc_38
    simp (disch := omega) only [n_69, n_50, n_13, Option.bind_some, bd2_some, bdX_ok, bdX_er, nm_eq, n_0, n_1, n_2, n_3, n_4, n_5, n_6, n_7, n_8, n_9, n_10, n_11, n_12, n_14, n_15, n_16, n_17, n_18, n_19, n_20, n_21, n_24, n_27, n_28, n_32, n_43, n_45, n_48, n_56, n_57, n_59, n_64, n_70, n_97, n_99, n_100, n_104, n_118, n_122, n_126, n_127, n_128, n_129, n_130, n_150, n_255, n_600, n_1000, n_1050, n_1200, n_999999, n_1000000, iI_neg, iI_add, iI_sub, iI_mul, ile, ilt, ieq, Z_has, Z_0, Z_1, Z_2, Z_5, Z_15, Z_17, Z_18, Z_24, Z_25, Z_26, Z_3, Z_4, Z_6, Z_7, Z_8, Z_9, Z_10, Z_11, Z_12, Z_13, Z_14, Z_16, Z_19, Z_20, Z_21, Z_22, Z_23, Z_27, Y_3, Y_4, Y_6, Y_7, Y_8, Y_9, Y_10, Y_11, Y_12, Y_13, Y_14, Y_16, Y_19, Y_20, Y_21, Y_22, Y_23, Y_27, A_g, A_s, up_at, up_ne, up_off]
    rw [if_neg (by omega)]
    exact RQ_no h (by omega)
  unfold f_X11_setArc f_X11_setArc_37 qSet
  simp (disch := omega) only [n_69, n_50, n_13, Option.bind_some, bd2_some, bdX_ok, bdX_er, nm_eq, n_0, n_1, n_2, n_3, n_4, n_5, n_6, n_7, n_8, n_9, n_10, n_11, n_12, n_14, n_15, n_16, n_17, n_18, n_19, n_20, n_21, n_24, n_27, n_28, n_32, n_43, n_45, n_48, n_56, n_57, n_59, n_64, n_70, n_97, n_99, n_100, n_104, n_118, n_122, n_126, n_127, n_128, n_129, n_130, n_150, n_255, n_600, n_1000, n_1050, n_1200, n_999999, n_1000000, iI_neg, iI_add, iI_sub, iI_mul, ile, ilt, ieq, Z_has, Z_0, Z_1, Z_2, Z_5, Z_15, Z_17, Z_18, Z_24, Z_25, Z_26, Z_3, Z_4, Z_6, Z_7, Z_8, Z_9, Z_10, Z_11, Z_12, Z_13, Z_14, Z_16, Z_19, Z_20, Z_21, Z_22, Z_23, Z_27, Y_3, Y_4, Y_6, Y_7, Y_8, Y_9, Y_10, Y_11, Y_12, Y_13, Y_14, Y_16, Y_19, Y_20, Y_21, Y_22, Y_23, Y_27, A_g, A_s, up_at, up_ne, up_off, isArcR_eq hN ha, isInR_eq hc (show i32 0 by unfold i32; omega) (show i32 99 by unfold i32; omega), isInR_eq he (show i32 0 by unfold i32; omega) (show i32 99 by unfold i32; omega)]
  by_cases c1 : 0 ≤ a ∧ a < nA (sN x)
  · rw [show inB a 0 (nA (sN x) - 1) = 1 from if_pos (by omega)]
    rw [if_neg (by first | exact not_false | omega | decide), if_neg (not_not_intro c1)]
    by_cases d2 : 0 ≤ c ∧ c ≤ 99
    · rw [show inB c 0 99 = 1 from if_pos d2, if_neg (by first | exact not_false | omega | decide)]
      by_cases d3 : 0 ≤ e ∧ e ≤ 99
      · rw [show inB e 0 99 = 1 from if_pos d3, if_neg (by first | exact not_false | omega | decide), if_neg (not_not_intro (And.intro d2 d3))]
        obtain ⟨m1, p1, p2, p3, p4, p5⟩ := chg (w := w) hfu h
        have hN1 : rNet (m1 284) (sN x) := by rw [p3]; exact hN
        obtain ⟨m3, r1, r2, r3, r4, r5, r6, r7⟩ := setsOut_eq (w := w) (m := up (up m1 284 (5 + 4 * a + 2) c) 284 (5 + 4 * a + 3) e) (fu := fu) rw284
        have hN2 : rNet ((up (up m1 284 (5 + 4 * a + 2) c) 284 (5 + 4 * a + 3) e) 284) (setN (sN x) a c e) := by
          obtain ⟨g0, ⟨g1, g2, g3, g4, g5⟩, g6⟩ := hN1
          refine ⟨setN_wf g0 d2 d3, ⟨?_, ?_, ?_, ?_, ?_⟩, fun k k0 k1 => ?_⟩
          · simp (disch := omega) only [up_off]; exact g1
          · simp (disch := omega) only [up_off]; exact g2
          · simp (disch := omega) only [up_off]; exact g3
          · simp (disch := omega) only [up_off]; exact g4
          · simp (disch := omega) only [up_off]; exact g5
          · have k1 : k < nA (sN x) := k1
            obtain ⟨b1, b2, b3, b4⟩ := g6 k k0 k1
            show _ = aTl (sN x) k ∧ _ = aHd (sN x) k ∧ _ = upd1 (aCo (sN x)) a c k ∧ _ = upd1 (aEx (sN x)) a e k
            unfold upd1
            by_cases q : k = a
            · subst q
              rw [if_pos rfl, if_pos rfl]
              simp (disch := omega) only [up_off, up_at]
              exact ⟨b1, b2, trivial, trivial⟩
            · rw [if_neg q, if_neg q]
              simp (disch := omega) only [up_off]
              exact ⟨b1, b2, b3, b4⟩
        unfold f_X11_setArc_38
        simp (disch := omega) only [n_69, n_50, n_13, Option.bind_some, bd2_some, bdX_ok, bdX_er, nm_eq, n_0, n_1, n_2, n_3, n_4, n_5, n_6, n_7, n_8, n_9, n_10, n_11, n_12, n_14, n_15, n_16, n_17, n_18, n_19, n_20, n_21, n_24, n_27, n_28, n_32, n_43, n_45, n_48, n_56, n_57, n_59, n_64, n_70, n_97, n_99, n_100, n_104, n_118, n_122, n_126, n_127, n_128, n_129, n_130, n_150, n_255, n_600, n_1000, n_1050, n_1200, n_999999, n_1000000, iI_neg, iI_add, iI_sub, iI_mul, ile, ilt, ieq, Z_has, Z_0, Z_1, Z_2, Z_5, Z_15, Z_17, Z_18, Z_24, Z_25, Z_26, Z_3, Z_4, Z_6, Z_7, Z_8, Z_9, Z_10, Z_11, Z_12, Z_13, Z_14, Z_16, Z_19, Z_20, Z_21, Z_22, Z_23, Z_27, Y_3, Y_4, Y_6, Y_7, Y_8, Y_9, Y_10, Y_11, Y_12, Y_13, Y_14, Y_16, Y_19, Y_20, Y_21, Y_22, Y_23, Y_27, A_g, A_s, up_at, up_ne, up_off, p1, of_2 hN1 c1.1 c1.2, of_3 hN1 c1.1 c1.2, r1]
        rw [if_pos (by first | exact trivial | omega | decide)]
        refine RQ_yes p2 p4 p5 (m' := m3) (fun q hq => by rw [r2 q hq, up_ne hq, up_ne hq]) ⟨hN2.cong (fun k _ b => r3 k (by omega)), h.1.2.1.cong (fun k a b => by rw [r3 k (by omega), up_off (by omega), up_off (by omega), p3]), h.1.2.2.1.cong (fun k a b => by rw [r3 k (by omega), up_off (by omega), up_off (by omega), p3]), rJrn_nil hN2 r4 r5 r6 r7⟩ rfl
      · rw [show inB e 0 99 = 0 from if_neg d3, if_pos (by first | exact trivial | omega | decide), if_pos (fun q => d3 q.2)]
        exact key 2 (by omega) (by omega)
    · rw [show inB c 0 99 = 0 from if_neg d2, if_pos (by first | exact trivial | omega | decide), if_pos (fun q => d2 q.1)]
      exact key 2 (by omega) (by omega)
  · rw [show inB a 0 (nA (sN x) - 1) = 0 from if_neg (by omega)]
    rw [if_pos (by first | exact trivial | omega | decide), if_pos c1]
    exact key 1 (by omega) (by omega)
theorem setBudgetR_eq (hfu : 2000 ≤ fu) (h : RI m x H) (hv : i32 v) : RQ w m (f_X11_setBudget fu 283 (iI v) (mem w m)) (qBud x v).1 (qBud x v).2.1 (qBud x v).2.2 (hist (qBud x v).1 x H) := by
  have hN := h.1.1
  have hw := hN.1.1
  unfold f_X11_setBudget f_X11_setBudget_16 qBud
  simp (disch := omega) only [n_69, n_50, n_13, Option.bind_some, bd2_some, bdX_ok, bdX_er, nm_eq, n_0, n_1, n_2, n_3, n_4, n_5, n_6, n_7, n_8, n_9, n_10, n_11, n_12, n_14, n_15, n_16, n_17, n_18, n_19, n_20, n_21, n_24, n_27, n_28, n_32, n_43, n_45, n_48, n_56, n_57, n_59, n_64, n_70, n_97, n_99, n_100, n_104, n_118, n_122, n_126, n_127, n_128, n_129, n_130, n_150, n_255, n_600, n_1000, n_1050, n_1200, n_999999, n_1000000, iI_neg, iI_add, iI_sub, iI_mul, ile, ilt, ieq, Z_has, Z_0, Z_1, Z_2, Z_5, Z_15, Z_17, Z_18, Z_24, Z_25, Z_26, Z_3, Z_4, Z_6, Z_7, Z_8, Z_9, Z_10, Z_11, Z_12, Z_13, Z_14, Z_16, Z_19, Z_20, Z_21, Z_22, Z_23, Z_27, Y_3, Y_4, Y_6, Y_7, Y_8, Y_9, Y_10, Y_11, Y_12, Y_13, Y_14, Y_16, Y_19, Y_20, Y_21, Y_22, Y_23, Y_27, A_g, A_s, up_at, up_ne, up_off, isInR_eq hv (show i32 0 by unfold i32; omega) (show i32 6 by unfold i32; omega)]
  by_cases c1 : 0 ≤ v ∧ v ≤ 6
  · rw [show inB v 0 6 = 1 from if_pos c1]
    rw [if_neg (by first | exact not_false | omega | decide), if_neg (not_not_intro c1)]
    obtain ⟨m1, p1, p2, p3, p4, p5⟩ := chg (w := w) hfu h
    have hN1 : rNet (m1 284) (sN x) := by rw [p3]; exact hN
    obtain ⟨m3, r1, r2, r3, r4, r5, r6, r7⟩ := setsOut_eq (w := w) (m := up m1 284 3 v) (fu := fu) rw284
    have hN2 : rNet ((up m1 284 3 v) 284) (budN (sN x) v) := by
      obtain ⟨g0, ⟨g1, g2, g3, g4, g5⟩, g6⟩ := hN1
      refine ⟨budN_wf g0 c1, ⟨?_, ?_, ?_, ?_, ?_⟩, fun k k0 k1 => ?_⟩
      · rw [up_off (by omega)]; exact g1
      · rw [up_off (by omega)]; exact g2
      · rw [up_off (by omega)]; exact g3
      · rw [up_at]; rfl
      · rw [up_off (by omega)]; exact g5
      · simp (disch := omega) only [up_off]; exact g6 k k0 k1
    simp (disch := omega) only [n_69, n_50, n_13, Option.bind_some, bd2_some, bdX_ok, bdX_er, nm_eq, n_0, n_1, n_2, n_3, n_4, n_5, n_6, n_7, n_8, n_9, n_10, n_11, n_12, n_14, n_15, n_16, n_17, n_18, n_19, n_20, n_21, n_24, n_27, n_28, n_32, n_43, n_45, n_48, n_56, n_57, n_59, n_64, n_70, n_97, n_99, n_100, n_104, n_118, n_122, n_126, n_127, n_128, n_129, n_130, n_150, n_255, n_600, n_1000, n_1050, n_1200, n_999999, n_1000000, iI_neg, iI_add, iI_sub, iI_mul, ile, ilt, ieq, Z_has, Z_0, Z_1, Z_2, Z_5, Z_15, Z_17, Z_18, Z_24, Z_25, Z_26, Z_3, Z_4, Z_6, Z_7, Z_8, Z_9, Z_10, Z_11, Z_12, Z_13, Z_14, Z_16, Z_19, Z_20, Z_21, Z_22, Z_23, Z_27, Y_3, Y_4, Y_6, Y_7, Y_8, Y_9, Y_10, Y_11, Y_12, Y_13, Y_14, Y_16, Y_19, Y_20, Y_21, Y_22, Y_23, Y_27, A_g, A_s, up_at, up_ne, up_off, p1, r1, hN1.2.1.2.2.2.1]
    rw [if_pos (by first | exact trivial | omega | decide)]
    exact RQ_yes p2 p4 p5 (m' := m3) (fun q hq => by rw [r2 q hq, up_ne hq]) ⟨hN2.cong (fun k _ b => r3 k (by omega)), h.1.2.1.cong (fun k a b => by rw [r3 k (by omega), up_off (by omega), p3]), h.1.2.2.1.cong (fun k a b => by rw [r3 k (by omega), up_off (by omega), p3]), rJrn_nil hN2 r4 r5 r6 r7⟩ rfl
  · rw [show inB v 0 6 = 0 from if_neg c1]
    rw [if_pos (by first | exact trivial | omega | decide), if_pos c1]
    rw [if_neg (by omega)]
    exact RQ_no h (by omega)
theorem restartR_eq (hfu : 2000 ≤ fu) (h : RI m x H) : RQ w m (f_X11_restart fu 283 (mem w m)) 0 ((sJ x).length : Int) (sN x, sR x, sD x, []) (hist 0 x H) := by
  have hN := h.1.1
  have hJ := h.1.2.2.2
  unfold f_X11_restart
  obtain ⟨m1, p1, p2, p3, p4, p5⟩ := chg (w := w) hfu h
  have hN1 : rNet (m1 284) (sN x) := by rw [p3]; exact hN
  have h9 : m1 284 129 = (sJ x).length := by rw [p3]; exact hJ.2.2.2.1
  obtain ⟨m3, r1, r2, r3, r4, r5, r6, r7⟩ := setsOut_eq (w := w) (m := m1) (fu := fu) rw284
  simp (disch := omega) only [n_69, n_50, n_13, Option.bind_some, bd2_some, bdX_ok, bdX_er, nm_eq, n_0, n_1, n_2, n_3, n_4, n_5, n_6, n_7, n_8, n_9, n_10, n_11, n_12, n_14, n_15, n_16, n_17, n_18, n_19, n_20, n_21, n_24, n_27, n_28, n_32, n_43, n_45, n_48, n_56, n_57, n_59, n_64, n_70, n_97, n_99, n_100, n_104, n_118, n_122, n_126, n_127, n_128, n_129, n_130, n_150, n_255, n_600, n_1000, n_1050, n_1200, n_999999, n_1000000, iI_neg, iI_add, iI_sub, iI_mul, ile, ilt, ieq, Z_has, Z_0, Z_1, Z_2, Z_5, Z_15, Z_17, Z_18, Z_24, Z_25, Z_26, Z_3, Z_4, Z_6, Z_7, Z_8, Z_9, Z_10, Z_11, Z_12, Z_13, Z_14, Z_16, Z_19, Z_20, Z_21, Z_22, Z_23, Z_27, Y_3, Y_4, Y_6, Y_7, Y_8, Y_9, Y_10, Y_11, Y_12, Y_13, Y_14, Y_16, Y_19, Y_20, Y_21, Y_22, Y_23, Y_27, A_g, A_s, up_at, up_ne, up_off, p1, r1, h9]
  exact RQ_yes p2 p4 p5 (m' := m3) r2 ⟨hN1.cong (fun k _ b => r3 k (by omega)), h.1.2.1.cong (fun k a b => by rw [r3 k (by omega), p3]), h.1.2.2.1.cong (fun k a b => by rw [r3 k (by omega), p3]), rJrn_nil hN1 r4 r5 r6 r7⟩ rfl
theorem undoR_eq (hfu : 2000 ≤ fu) (h : RI m x H) : (H = [] → RQ w m (f_X11_undo fu 283 (mem w m)) 1 0 x H) ∧ (∀ y H', H = y :: H' → RQ w m (f_X11_undo fu 283 (mem w m)) 0 H'.length y H') := by
  obtain ⟨h1, h2, h3, h4⟩ := h
  refine ⟨fun e => ?_, fun y H' e => ?_⟩
  · unfold f_X11_undo f_X11_undo_13
    simp (disch := omega) only [n_69, n_50, n_13, Option.bind_some, bd2_some, bdX_ok, bdX_er, nm_eq, n_0, n_1, n_2, n_3, n_4, n_5, n_6, n_7, n_8, n_9, n_10, n_11, n_12, n_14, n_15, n_16, n_17, n_18, n_19, n_20, n_21, n_24, n_27, n_28, n_32, n_43, n_45, n_48, n_56, n_57, n_59, n_64, n_70, n_97, n_99, n_100, n_104, n_118, n_122, n_126, n_127, n_128, n_129, n_130, n_150, n_255, n_600, n_1000, n_1050, n_1200, n_999999, n_1000000, iI_neg, iI_add, iI_sub, iI_mul, ile, ilt, ieq, Z_has, Z_0, Z_1, Z_2, Z_5, Z_15, Z_17, Z_18, Z_24, Z_25, Z_26, Z_3, Z_4, Z_6, Z_7, Z_8, Z_9, Z_10, Z_11, Z_12, Z_13, Z_14, Z_16, Z_19, Z_20, Z_21, Z_22, Z_23, Z_27, Y_3, Y_4, Y_6, Y_7, Y_8, Y_9, Y_10, Y_11, Y_12, Y_13, Y_14, Y_16, Y_19, Y_20, Y_21, Y_22, Y_23, Y_27, A_g, A_s, up_at, up_ne, up_off, h2]
    rw [if_pos (by rw [e]; rfl), if_neg (by first | exact not_false | omega | decide)]
    exact RQ_nq ⟨h1, h2, h3, h4⟩ (by omega)
  · subst e
    have hl : ((y :: H').length : Int) = H'.length + 1 := by simp
    rw [hl] at h2
    have h38 : H'.length ≤ 7 := by simp at h3; exact h3
    obtain ⟨m', q1, q2, q3⟩ := becomes_eq (w := w) (fu := fu) (p := 286) (m := up (up m 283 4 0) 283 3 (H'.length : Int)) (by omega) (Or.inr rfl) (f := 150 * (H'.length : Int)) (by omega) (by rw [if_neg (by decide)]; omega)
    unfold f_X11_undo f_X11_undo_13
    simp (disch := omega) only [n_69, n_50, n_13, Option.bind_some, bd2_some, bdX_ok, bdX_er, nm_eq, n_0, n_1, n_2, n_3, n_4, n_5, n_6, n_7, n_8, n_9, n_10, n_11, n_12, n_14, n_15, n_16, n_17, n_18, n_19, n_20, n_21, n_24, n_27, n_28, n_32, n_43, n_45, n_48, n_56, n_57, n_59, n_64, n_70, n_97, n_99, n_100, n_104, n_118, n_122, n_126, n_127, n_128, n_129, n_130, n_150, n_255, n_600, n_1000, n_1050, n_1200, n_999999, n_1000000, iI_neg, iI_add, iI_sub, iI_mul, ile, ilt, ieq, Z_has, Z_0, Z_1, Z_2, Z_5, Z_15, Z_17, Z_18, Z_24, Z_25, Z_26, Z_3, Z_4, Z_6, Z_7, Z_8, Z_9, Z_10, Z_11, Z_12, Z_13, Z_14, Z_16, Z_19, Z_20, Z_21, Z_22, Z_23, Z_27, Y_3, Y_4, Y_6, Y_7, Y_8, Y_9, Y_10, Y_11, Y_12, Y_13, Y_14, Y_16, Y_19, Y_20, Y_21, Y_22, Y_23, Y_27, A_g, A_s, up_at, up_ne, up_off, h2, up_off]
    rw [if_neg (by omega), if_pos (by first | exact trivial | omega | decide)]
    rw [show (H'.length : Int) + 1 - 1 = H'.length by omega]
    simp (disch := omega) only [n_69, n_50, n_13, Option.bind_some, bd2_some, bdX_ok, bdX_er, nm_eq, n_0, n_1, n_2, n_3, n_4, n_5, n_6, n_7, n_8, n_9, n_10, n_11, n_12, n_14, n_15, n_16, n_17, n_18, n_19, n_20, n_21, n_24, n_27, n_28, n_32, n_43, n_45, n_48, n_56, n_57, n_59, n_64, n_70, n_97, n_99, n_100, n_104, n_118, n_122, n_126, n_127, n_128, n_129, n_130, n_150, n_255, n_600, n_1000, n_1050, n_1200, n_999999, n_1000000, iI_neg, iI_add, iI_sub, iI_mul, ile, ilt, ieq, Z_has, Z_0, Z_1, Z_2, Z_5, Z_15, Z_17, Z_18, Z_24, Z_25, Z_26, Z_3, Z_4, Z_6, Z_7, Z_8, Z_9, Z_10, Z_11, Z_12, Z_13, Z_14, Z_16, Z_19, Z_20, Z_21, Z_22, Z_23, Z_27, Y_3, Y_4, Y_6, Y_7, Y_8, Y_9, Y_10, Y_11, Y_12, Y_13, Y_14, Y_16, Y_19, Y_20, Y_21, Y_22, Y_23, Y_27, A_g, A_s, up_at, up_ne, up_off, h2, up_off, q1, q2]
    refine ⟨m', _, rfl, ?_, fun _ => ?_, ⟨fun p hp => ?_, ?_, ?_, ?_, ?_, ?_⟩, ?_, ?_, by omega, fun i z hi => ?_⟩
    · rw [q2 283 (by omega), up_off (by omega), up_at]
    · first | rfl | simp
    · rw [q2 p (by omega), up_ne (by omega), up_ne (by omega)]
    · rw [q2 _ (by omega), up_ne (by omega), up_ne (by omega)]
    · rw [q2 _ (by omega), up_ne (by omega), up_ne (by omega)]
    · rw [q2 _ (by omega), up_off (by omega), up_off (by omega)]
    · rw [q2 _ (by omega), up_off (by omega), up_off (by omega)]
    · rw [q2 _ (by omega), up_off (by omega), up_off (by omega)]
    · refine (h4 0 y rfl).cong (fun k k0 k1 => ?_)
      rw [q3 k k0 k1, up_ne (by omega), up_ne (by omega), hl]
      show m 286 _ = m 286 _
      congr 1; omega
    · rw [q2 283 (by omega), up_at]
    · have := h4 (i + 1) z (by rw [List.getElem?_cons_succ]; exact hi)
      refine this.cong (fun k k0 k1 => ?_)
      show m' 286 _ = m 286 _
      rw [q2 286 (by omega), up_ne (by omega), up_ne (by omega), hl]
      congr 1; omega
theorem canStepR {del : Int} (h : RI m x H) (hG : WG x) (ha : 0 ≤ a ∧ a < nA (sN x)) (hd : del = 0 ∨ del = 1) : (canJ (sN x) (sJ x) a del → f_X11_canStep fu 283 (iI a) (iI del) (mem w m) = some (iI 1, mem w m)) ∧ (¬ canJ (sN x) (sJ x) a del → f_X11_canStep fu 283 (iI a) (iI del) (mem w m) = some (iI 0, mem w m)) := by
  have hN := h.1.1
  have hw := hN.1.1
  have hA := hN.1.arc ha.1 ha.2
  obtain ⟨j1, j2, j3, j4, j5, j6⟩ := h.1.2.2.2
  have hj := jst_r hN.1 _ (sJ x) rfl hG.2.2.2
  unfold f_X11_canStep f_X11_canStep_60 canJ
  simp (disch := omega) only [n_69, n_50, n_13, Option.bind_some, bd2_some, bdX_ok, bdX_er, nm_eq, n_0, n_1, n_2, n_3, n_4, n_5, n_6, n_7, n_8, n_9, n_10, n_11, n_12, n_14, n_15, n_16, n_17, n_18, n_19, n_20, n_21, n_24, n_27, n_28, n_32, n_43, n_45, n_48, n_56, n_57, n_59, n_64, n_70, n_97, n_99, n_100, n_104, n_118, n_122, n_126, n_127, n_128, n_129, n_130, n_150, n_255, n_600, n_1000, n_1050, n_1200, n_999999, n_1000000, iI_neg, iI_add, iI_sub, iI_mul, ile, ilt, ieq, Z_has, Z_0, Z_1, Z_2, Z_5, Z_15, Z_17, Z_18, Z_24, Z_25, Z_26, Z_3, Z_4, Z_6, Z_7, Z_8, Z_9, Z_10, Z_11, Z_12, Z_13, Z_14, Z_16, Z_19, Z_20, Z_21, Z_22, Z_23, Z_27, Y_3, Y_4, Y_6, Y_7, Y_8, Y_9, Y_10, Y_11, Y_12, Y_13, Y_14, Y_16, Y_19, Y_20, Y_21, Y_22, Y_23, Y_27, A_g, A_s, up_at, up_ne, up_off, j1, j3, j4, hN.2.1.2.2.1, of_0 hN ha.1 ha.2]
  by_cases c2 : (jst (sN x) (sJ x)).1 = nT (sN x)
  · rw [if_pos c2]
    exact ⟨fun q => absurd c2 q.2.1, fun _ => rfl⟩
  · rw [if_neg c2]
    by_cases c1 : (20 : Int) ≤ (sJ x).length
    · rw [if_pos c1]
      exact ⟨fun q => by omega, fun _ => rfl⟩
    · rw [if_neg c1]
      by_cases c3 : aTl (sN x) a = (jst (sN x) (sJ x)).1
      · rw [if_pos c3]
        by_cases c4 : del = 0
        · rw [if_pos c4]
          exact ⟨fun _ => rfl, fun q => absurd ⟨by omega, c2, c3, Or.inl c4⟩ q⟩
        · rw [if_neg c4]
          by_cases c5 : (jst (sN x) (sJ x)).2.2 ≤ 0
          · rw [if_pos c5]
            exact ⟨fun q => by omega, fun _ => rfl⟩
          · rw [if_neg c5]
            exact ⟨fun _ => rfl, fun q => absurd ⟨by omega, c2, c3, Or.inr (by omega)⟩ q⟩
      · rw [if_neg c3]
        exact ⟨fun q => absurd q.2.2.1 c3, fun _ => rfl⟩
theorem stepR_eq (hfu : 2000 ≤ fu) (h : RI m x H) (hG : WG x) (ha : i32 a) {del : Int} (hd : del = 0 ∨ del = 1) : RQ w m (f_X11_step fu 283 (iI a) (iI del) (mem w m)) (qStep x a del).1 (qStep x a del).2.1 (qStep x a del).2.2 (hist (qStep x a del).1 x H) := by
  have hN := h.1.1
  have hw := hN.1.1
  obtain ⟨j1, j2, j3, j4, j5, j6⟩ := h.1.2.2.2
  have v1 := ha
  unfold i32 at v1
  have key : ∀ k : Int, 0 < k → k < 4 → RQ w m (f_X11_step_27 fu 283 (iI a) (iI del) 283 (iI k) (mem w m)) k 0 x (hist k x H) := fun k k0 k1 => by
    unfold f_X11_step_27
    simp (disch := omega) only [n_69, n_50, n_13, Option.bind_some, bd2_some, bdX_ok, bdX_er, nm_eq, n_0, n_1, n_2, n_3, n_4, n_5, n_6, n_7, n_8, n_9, n_10, n_11, n_12, n_14, n_15, n_16, n_17, n_18, n_19, n_20, n_21, n_24, n_27, n_28, n_32, n_43, n_45, n_48, n_56, n_57, n_59, n_64, n_70, n_97, n_99, n_100, n_104, n_118, n_122, n_126, n_127, n_128, n_129, n_130, n_150, n_255, n_600, n_1000, n_1050, n_1200, n_999999, n_1000000, iI_neg, iI_add, iI_sub, iI_mul, ile, ilt, ieq, Z_has, Z_0, Z_1, Z_2, Z_5, Z_15, Z_17, Z_18, Z_24, Z_25, Z_26, Z_3, Z_4, Z_6, Z_7, Z_8, Z_9, Z_10, Z_11, Z_12, Z_13, Z_14, Z_16, Z_19, Z_20, Z_21, Z_22, Z_23, Z_27, Y_3, Y_4, Y_6, Y_7, Y_8, Y_9, Y_10, Y_11, Y_12, Y_13, Y_14, Y_16, Y_19, Y_20, Y_21, Y_22, Y_23, Y_27, A_g, A_s, up_at, up_ne, up_off]
    rw [if_neg (by omega)]
    exact RQ_no h (by omega)
  unfold f_X11_step qStep
  simp (disch := omega) only [n_69, n_50, n_13, Option.bind_some, bd2_some, bdX_ok, bdX_er, nm_eq, n_0, n_1, n_2, n_3, n_4, n_5, n_6, n_7, n_8, n_9, n_10, n_11, n_12, n_14, n_15, n_16, n_17, n_18, n_19, n_20, n_21, n_24, n_27, n_28, n_32, n_43, n_45, n_48, n_56, n_57, n_59, n_64, n_70, n_97, n_99, n_100, n_104, n_118, n_122, n_126, n_127, n_128, n_129, n_130, n_150, n_255, n_600, n_1000, n_1050, n_1200, n_999999, n_1000000, iI_neg, iI_add, iI_sub, iI_mul, ile, ilt, ieq, Z_has, Z_0, Z_1, Z_2, Z_5, Z_15, Z_17, Z_18, Z_24, Z_25, Z_26, Z_3, Z_4, Z_6, Z_7, Z_8, Z_9, Z_10, Z_11, Z_12, Z_13, Z_14, Z_16, Z_19, Z_20, Z_21, Z_22, Z_23, Z_27, Y_3, Y_4, Y_6, Y_7, Y_8, Y_9, Y_10, Y_11, Y_12, Y_13, Y_14, Y_16, Y_19, Y_20, Y_21, Y_22, Y_23, Y_27, A_g, A_s, up_at, up_ne, up_off, isArcR_eq hN ha]
  by_cases c1 : 0 ≤ a ∧ a < nA (sN x)
  · rw [show inB a 0 (nA (sN x) - 1) = 1 from if_pos (by omega)]
    rw [if_neg (by first | exact not_false | omega | decide), if_neg (not_not_intro c1)]
    obtain ⟨g1, g2⟩ := canStepR (w := w) (fu := fu) h hG c1 hd
    by_cases c2 : canJ (sN x) (sJ x) a del
    · rw [g1 c2, bd2_some, if_neg (by decide), if_pos c2]
      have c20 := c2.1
      obtain ⟨m1, p1, p2, p3, p4, p5⟩ := chg (w := w) hfu h
      have hmod : (a + 100 * del) % 100 = a := by rcases hd with rfl | rfl <;> omega
      have h100 : (100 ≤ a + 100 * del) ↔ del = 1 := by rcases hd with rfl | rfl <;> omega
      have e126 : m1 284 126 = (jst (sN x) (sJ x)).1 := by rw [p3, j1]
      have e127 : m1 284 127 = (jst (sN x) (sJ x)).2.1 := by rw [p3, j2]
      have e128 : m1 284 128 = (jst (sN x) (sJ x)).2.2 := by rw [p3, j3]
      have e129 : m1 284 129 = (sJ x).length := by rw [p3, j4]
      have hN1 : rNet (m1 284) (sN x) := by rw [p3]; exact hN
      -- the row behind it
      have fin : ∀ (ex lf : Int), ex = (if 100 ≤ a + 100 * del then aEx (sN x) a else 0) → lf = (if 100 ≤ a + 100 * del then 1 else 0) → RQ w m (some (iI ((jst (sN x) (sJ x)).2.1 + (aCo (sN x) a + ex)), mem w (up (up (up (up (up m1 284 (130 + (sJ x).length) (a + 100 * del)) 284 129 ((sJ x).length + 1)) 284 126 (aHd (sN x) a)) 284 127 ((jst (sN x) (sJ x)).2.1 + (aCo (sN x) a + ex))) 284 128 ((jst (sN x) (sJ x)).2.2 - lf)))) 0 (jst (sN x) (sJ x ++ [a + 100 * del])).2.1 (sN x, sR x, sD x, sJ x ++ [a + 100 * del]) (hist 0 x H) := by
        intro ex lf he hl
        refine RQ_yes p2 p4 p5 (fun q hq => by simp (disch := omega) only [up_ne]) ⟨?_, ?_, ?_, ?_, ?_, ?_, ?_, ?_, fun j c hj => ?_⟩ ?_
        · exact hN1.cong (fun k _ b => by simp (disch := omega) only [up_off])
        · exact h.1.2.1.cong (fun k a b => by rw [up_off (by omega), up_off (by omega), up_off (by omega), up_off (by omega), up_off (by omega), p3])
        · exact h.1.2.2.1.cong (fun k a b => by rw [up_off (by omega), up_off (by omega), up_off (by omega), up_off (by omega), up_off (by omega), p3])
        · show _ = (jst (sN x) (sJ x ++ [a + 100 * del])).1
          rw [jst_snoc]
          simp (disch := omega) only [up_off, up_at]
          unfold jst1
          rw [hmod]
        · show _ = (jst (sN x) (sJ x ++ [a + 100 * del])).2.1
          rw [jst_snoc]
          simp (disch := omega) only [up_off, up_at]
          unfold jst1
          rw [hmod, he]
          simp only []
          omega
        · show _ = (jst (sN x) (sJ x ++ [a + 100 * del])).2.2
          rw [jst_snoc]
          simp (disch := omega) only [up_off, up_at]
          unfold jst1
          rw [hl]
        · show _ = (((sJ x ++ [a + 100 * del]).length : Nat) : Int)
          simp (disch := omega) only [up_off, up_at]
          simp
        · show (sJ x ++ [a + 100 * del]).length ≤ 20
          simp; omega
        · have hj : (sJ x ++ [a + 100 * del])[j]? = some c := hj
          have hj' : j < (sJ x).length + 1 := by have := (List.getElem?_eq_some_iff.mp hj).1; simpa using this
          simp (disch := omega) only [up_off]
          by_cases q : j = (sJ x).length
          · subst q
            rw [up_at]
            simpa using hj
          · rw [up_off (by omega), p3]
            rw [List.getElem?_append_left (by omega)] at hj
            exact j6 j c hj
        · rw [jst_snoc]
          unfold jst1
          rw [hmod, he]
          simp only []
          omega
      have e9 : ∀ d9 : Int, d9 = 100 * del → f_X11_step_70 fu 283 (iI a) (iI del) 284 (iI (130 + (sJ x).length)) (iI a) (iI d9) (mem w m1) = some (iI ((jst (sN x) (sJ x)).2.1 + (aCo (sN x) a + (if 100 ≤ a + 100 * del then aEx (sN x) a else 0))), mem w (up (up (up (up (up m1 284 (130 + (sJ x).length) (a + 100 * del)) 284 129 ((sJ x).length + 1)) 284 126 (aHd (sN x) a)) 284 127 ((jst (sN x) (sJ x)).2.1 + (aCo (sN x) a + (if 100 ≤ a + 100 * del then aEx (sN x) a else 0)))) 284 128 ((jst (sN x) (sJ x)).2.2 - (if 100 ≤ a + 100 * del then 1 else 0)))) := by
        intro d9 hd9
        subst hd9
        have hNa : rNet ((up (up m1 284 (130 + (sJ x).length) (a + 100 * del)) 284 129 ((sJ x).length + 1)) 284) (sN x) := hN1.cong (fun k _ b => by simp (disch := omega) only [up_off])
        have hNb : rNet ((up (up (up m1 284 (130 + (sJ x).length) (a + 100 * del)) 284 129 ((sJ x).length + 1)) 284 126 (aHd (sN x) a)) 284) (sN x) := hN1.cong (fun k _ b => by simp (disch := omega) only [up_off])
        unfold f_X11_step_70 f_X11_step_125 f_X11_step_146
        simp (disch := omega) only [n_69, n_50, n_13, Option.bind_some, bd2_some, bdX_ok, bdX_er, nm_eq, n_0, n_1, n_2, n_3, n_4, n_5, n_6, n_7, n_8, n_9, n_10, n_11, n_12, n_14, n_15, n_16, n_17, n_18, n_19, n_20, n_21, n_24, n_27, n_28, n_32, n_43, n_45, n_48, n_56, n_57, n_59, n_64, n_70, n_97, n_99, n_100, n_104, n_118, n_122, n_126, n_127, n_128, n_129, n_130, n_150, n_255, n_600, n_1000, n_1050, n_1200, n_999999, n_1000000, iI_neg, iI_add, iI_sub, iI_mul, ile, ilt, ieq, Z_has, Z_0, Z_1, Z_2, Z_5, Z_15, Z_17, Z_18, Z_24, Z_25, Z_26, Z_3, Z_4, Z_6, Z_7, Z_8, Z_9, Z_10, Z_11, Z_12, Z_13, Z_14, Z_16, Z_19, Z_20, Z_21, Z_22, Z_23, Z_27, Y_3, Y_4, Y_6, Y_7, Y_8, Y_9, Y_10, Y_11, Y_12, Y_13, Y_14, Y_16, Y_19, Y_20, Y_21, Y_22, Y_23, Y_27, A_g, A_s, up_at, up_ne, up_off, up_off, e126, e127, e128, e129, of_1 hNa c1.1 c1.2, of_2 hNb c1.1 c1.2, of_3 hNb c1.1 c1.2]
        rcases hd with rfl | rfl
        · rw [if_pos (by first | exact trivial | omega | decide), if_pos (by first | exact trivial | omega | decide), if_neg (show ¬ (100 ≤ a + 100 * 0) by omega), if_neg (show ¬ (100 ≤ a + 100 * 0) by omega)]
        · rw [if_neg (by first | exact not_false | omega | decide), if_neg (by first | exact not_false | omega | decide), if_pos (show 100 ≤ a + 100 * 1 by omega), if_pos (show 100 ≤ a + 100 * 1 by omega)]
      unfold f_X11_step_27
      simp (disch := omega) only [n_69, n_50, n_13, Option.bind_some, bd2_some, bdX_ok, bdX_er, nm_eq, n_0, n_1, n_2, n_3, n_4, n_5, n_6, n_7, n_8, n_9, n_10, n_11, n_12, n_14, n_15, n_16, n_17, n_18, n_19, n_20, n_21, n_24, n_27, n_28, n_32, n_43, n_45, n_48, n_56, n_57, n_59, n_64, n_70, n_97, n_99, n_100, n_104, n_118, n_122, n_126, n_127, n_128, n_129, n_130, n_150, n_255, n_600, n_1000, n_1050, n_1200, n_999999, n_1000000, iI_neg, iI_add, iI_sub, iI_mul, ile, ilt, ieq, Z_has, Z_0, Z_1, Z_2, Z_5, Z_15, Z_17, Z_18, Z_24, Z_25, Z_26, Z_3, Z_4, Z_6, Z_7, Z_8, Z_9, Z_10, Z_11, Z_12, Z_13, Z_14, Z_16, Z_19, Z_20, Z_21, Z_22, Z_23, Z_27, Y_3, Y_4, Y_6, Y_7, Y_8, Y_9, Y_10, Y_11, Y_12, Y_13, Y_14, Y_16, Y_19, Y_20, Y_21, Y_22, Y_23, Y_27, A_g, A_s, up_at, up_ne, up_off, p1, e129]
      rw [if_pos (by first | exact trivial | omega | decide)]
      have := fin _ _ rfl rfl
      rcases hd with rfl | rfl
      · rw [if_pos rfl]
        have e := e9 0 (by omega)
        rw [e]; exact this
      · rw [if_neg (by first | exact not_false | omega | decide)]
        have e := e9 100 (by omega)
        rw [e]; exact this
    · rw [g2 c2, bd2_some, if_pos (by decide), if_neg c2]
      exact key 2 (by omega) (by omega)
  · rw [show inB a 0 (nA (sN x) - 1) = 0 from if_neg (by omega)]
    rw [if_pos (by first | exact trivial | omega | decide), if_pos c1]
    exact key 1 (by omega) (by omega)
end RC
