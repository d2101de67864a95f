section RZ
variable {w : Wl} {m m' m1 : Mm} {z v : Int} {fu p s : Nat} {t : List Int} {x : Sg} {H : List Sg} {B : List Int}
def lTail (fu : Nat) (n a b : Int32) (M : List Ob) : Option (Int32 × List Ob) := bd2 (f_X11_begins fu 283 n a b M) fun _ M38 => (hasO M38 283 11).bind fun _ => bd2 (f_X11_isSemicolon fu 283 M38) fun v41 M42 => (hasO M42 283 11).bind fun _ => bd2 (f_X11_must fu 283 v41 M42) fun _ M46 => f_X11_load_106 fu (fun x49 M50 => f_X11_load_128 fu x49 M50) fu 283 M46
theorem lTail_er {c n a b : Int} (hfu : 1000 ≤ fu) (h : Wr m c s) : ∃ m', lTail fu (iI n) (iI a) (iI b) (mem w m) = f_X11_load_128 fu 283 (mem w m') ∧ Wr m' c s ∧ gS m m' := by
  obtain ⟨m1, p1, p2, -⟩ := begins_eq (w := w) (m := m) (fu := fu) (n := n) (a := a) (b := b) hfu
  have h1 : Wr m1 c s := h.r p2
  have hc := h1.2.2.1
  have hc' := h1.2.1
  have e : ∀ k : Nat, 0 < k → f_X11_load_106 fu (fun x49 M50 => f_X11_load_128 fu x49 M50) k 283 (mem w m1) = f_X11_load_128 fu 283 (mem w m1) := fun n9 hk => by
    obtain ⟨n9, rfl⟩ : ∃ k, n9 = k + 1 := ⟨n9 - 1, by omega⟩
    rw [f_X11_load_106, f_X11_load_106b]
    simp (disch := omega) only [n_69, n_50, n_13, Option.bind_some, bd2_some, bdX_ok, bdX_er, nm_eq, n_0, n_1, n_2, n_3, n_4, n_5, n_6, n_7, n_8, n_9, n_10, n_11, n_12, n_14, n_15, n_16, n_17, n_18, n_19, n_20, n_21, n_24, n_27, n_28, n_32, n_43, n_45, n_48, n_56, n_57, n_59, n_64, n_70, n_97, n_99, n_100, n_104, n_118, n_122, n_126, n_127, n_128, n_129, n_130, n_150, n_255, n_600, n_1000, n_1050, n_1200, n_999999, n_1000000, iI_neg, iI_add, iI_sub, iI_mul, ile, ilt, ieq, Z_12, h1.1]
    rw [if_neg (by omega)]
  unfold lTail
  simp (disch := omega) only [n_69, n_50, n_13, Option.bind_some, bd2_some, bdX_ok, bdX_er, nm_eq, n_0, n_1, n_2, n_3, n_4, n_5, n_6, n_7, n_8, n_9, n_10, n_11, n_12, n_14, n_15, n_16, n_17, n_18, n_19, n_20, n_21, n_24, n_27, n_28, n_32, n_43, n_45, n_48, n_56, n_57, n_59, n_64, n_70, n_97, n_99, n_100, n_104, n_118, n_122, n_126, n_127, n_128, n_129, n_130, n_150, n_255, n_600, n_1000, n_1050, n_1200, n_999999, n_1000000, iI_neg, iI_add, iI_sub, iI_mul, ile, ilt, ieq, Z_has, p1, semi_no h1, must_no h1 (b := 0) (Or.inl rfl)]
  rw [e fu (by omega)]
  exact ⟨m1, rfl, h1, gS_r p2⟩
theorem lTail_ok {n a b : Int} (hfu : 1000 ≤ fu) (h : TP m t p) (hw : WFN (begN n a b)) : (∀ y, (eb (rsemi t p) fun q => pAll t 601 (begN n a b, []) (run spB t q)) = .ok y → ∃ m2, lTail fu (iI n) (iI a) (iI b) (mem w m) = f_X11_load_128 fu 283 (mem w m2) ∧ m2 283 12 = 0 ∧ PR m2 y [] ∧ gS m m2) ∧ (∀ c s, (eb (rsemi t p) fun q => pAll t 601 (begN n a b, []) (run spB t q)) = .error (c, s) → ∃ m2, lTail fu (iI n) (iI a) (iI b) (mem w m) = f_X11_load_128 fu 283 (mem w m2) ∧ Wr m2 c s ∧ gS m m2) := by
  obtain ⟨m1, p1, p2, p3⟩ := begins_eq (w := w) (m := m) (fu := fu) (n := n) (a := a) (b := b) hfu
  have h1 : TP m1 t p := h.r p2
  have hR := p3 hw
  have hP : PR m1 (begN n a b, []) [] := ⟨hR.1, hR.2.1, hR.2.2.1⟩
  obtain ⟨s1, s2⟩ := semiMust (w := w) hfu h1
  unfold lTail
  cases hr : rsemi t p with
  | error e =>
    obtain ⟨c, s⟩ := e
    obtain ⟨m2, k1, k2, k3, k4⟩ := s2 c s hr
    have hc := k3.2.2.1
    have hc' := k3.2.1
    have e : ∀ k : Nat, 0 < k → f_X11_load_106 fu (fun x49 M50 => f_X11_load_128 fu x49 M50) k 283 (mem w m2) = f_X11_load_128 fu 283 (mem w m2) := fun n9 hk => by
      obtain ⟨n9, rfl⟩ : ∃ k, n9 = k + 1 := ⟨n9 - 1, by omega⟩
      rw [f_X11_load_106, f_X11_load_106b]
      simp (disch := omega) only [n_69, n_50, n_13, Option.bind_some, bd2_some, bdX_ok, bdX_er, nm_eq, n_0, n_1, n_2, n_3, n_4, n_5, n_6, n_7, n_8, n_9, n_10, n_11, n_12, n_14, n_15, n_16, n_17, n_18, n_19, n_20, n_21, n_24, n_27, n_28, n_32, n_43, n_45, n_48, n_56, n_57, n_59, n_64, n_70, n_97, n_99, n_100, n_104, n_118, n_122, n_126, n_127, n_128, n_129, n_130, n_150, n_255, n_600, n_1000, n_1050, n_1200, n_999999, n_1000000, iI_neg, iI_add, iI_sub, iI_mul, ile, ilt, ieq, Z_12, k3.1]
      rw [if_neg (by omega)]
    simp (disch := omega) only [n_69, n_50, n_13, Option.bind_some, bd2_some, bdX_ok, bdX_er, nm_eq, n_0, n_1, n_2, n_3, n_4, n_5, n_6, n_7, n_8, n_9, n_10, n_11, n_12, n_14, n_15, n_16, n_17, n_18, n_19, n_20, n_21, n_24, n_27, n_28, n_32, n_43, n_45, n_48, n_56, n_57, n_59, n_64, n_70, n_97, n_99, n_100, n_104, n_118, n_122, n_126, n_127, n_128, n_129, n_130, n_150, n_255, n_600, n_1000, n_1050, n_1200, n_999999, n_1000000, iI_neg, iI_add, iI_sub, iI_mul, ile, ilt, ieq, Z_has, p1, k1, k2]
    rw [e fu (by omega), eb_er]
    refine ⟨fun y e => (by cases e), fun c' s' e => ?_⟩
    have e : (c, s) = (c', s') := by injection e
    injection e with a b
    subst a; subst b
    exact ⟨m2, rfl, k3, (gS_r p2).trans k4.g⟩
  | ok q =>
    obtain ⟨m2, k1, k2, k3, k4⟩ := s1 q hr
    have h6 := k3.2.1.2.1
    simp (disch := omega) only [n_69, n_50, n_13, Option.bind_some, bd2_some, bdX_ok, bdX_er, nm_eq, n_0, n_1, n_2, n_3, n_4, n_5, n_6, n_7, n_8, n_9, n_10, n_11, n_12, n_14, n_15, n_16, n_17, n_18, n_19, n_20, n_21, n_24, n_27, n_28, n_32, n_43, n_45, n_48, n_56, n_57, n_59, n_64, n_70, n_97, n_99, n_100, n_104, n_118, n_122, n_126, n_127, n_128, n_129, n_130, n_150, n_255, n_600, n_1000, n_1050, n_1200, n_999999, n_1000000, iI_neg, iI_add, iI_sub, iI_mul, ile, ilt, ieq, Z_has, p1, k1, k2]
    rw [eb_ok]
    exact rsAll_go (w := w) hfu 601 fu (run spB t q) _ m2 ⟨k3.1, by rw [run_run]; exact k3.2⟩ run_run (hP.f k4) ⟨hw, by simp, fun l hl => by cases hl⟩ (by omega) (by omega) ((gS_r p2).trans k4.g)
theorem L128_er {c : Int} (h : Wr m c s) : f_X11_load_128 fu 283 (mem w m) = some (iI c, mem w (up m 283 14 (s : Nat))) := by
  obtain ⟨h1, h2, h3, h4⟩ := h
  have e : (up m 283 14 (s : Nat)) 283 12 = c := by rw [up_off (by decide)]; exact h1
  unfold f_X11_load_128
  simp (disch := omega) only [n_69, n_50, n_13, Option.bind_some, bd2_some, bdX_ok, bdX_er, nm_eq, n_0, n_1, n_2, n_3, n_4, n_5, n_6, n_7, n_8, n_9, n_10, n_11, n_12, n_14, n_15, n_16, n_17, n_18, n_19, n_20, n_21, n_24, n_27, n_28, n_32, n_43, n_45, n_48, n_56, n_57, n_59, n_64, n_70, n_97, n_99, n_100, n_104, n_118, n_122, n_126, n_127, n_128, n_129, n_130, n_150, n_255, n_600, n_1000, n_1050, n_1200, n_999999, n_1000000, iI_neg, iI_add, iI_sub, iI_mul, ile, ilt, ieq, Z_12, Z_13, h1, h4]
  rw [if_neg (by omega)]
  unfold f_X11_load_144
  simp (disch := omega) only [n_69, n_50, n_13, Option.bind_some, bd2_some, bdX_ok, bdX_er, nm_eq, n_0, n_1, n_2, n_3, n_4, n_5, n_6, n_7, n_8, n_9, n_10, n_11, n_12, n_14, n_15, n_16, n_17, n_18, n_19, n_20, n_21, n_24, n_27, n_28, n_32, n_43, n_45, n_48, n_56, n_57, n_59, n_64, n_70, n_97, n_99, n_100, n_104, n_118, n_122, n_126, n_127, n_128, n_129, n_130, n_150, n_255, n_600, n_1000, n_1050, n_1200, n_999999, n_1000000, iI_neg, iI_add, iI_sub, iI_mul, ile, ilt, ieq, Y_14, Z_12, e]
  rw [if_neg (by omega)]
theorem keepsR_eq2 (hfu : 2000 ≤ fu) (h : RI m x H) : ∃ m', f_X11_keeps fu 283 (mem w m) = some ((), mem w m') ∧ cS m m' ∧ m' 284 = m 284 ∧ m' 285 = m 285 ∧ (∀ k, k ≠ 3 → m' 283 k = m 283 k) ∧ HRk m' ((x :: H).take 8) := by
  obtain ⟨h1, h2, h3, h4⟩ := h
  have hlen : ((x :: H).take 8).length = min 8 (H.length + 1) := by rw [List.length_take, List.length_cons]
  -- the copy, the count
  have cp : ∀ (m1 : Mm) (s : Nat), s ≤ 7 → m1 283 3 = s → ∃ m', f_X11_keeps_50 fu 283 (mem w m1) = some ((), mem w m') ∧ (∀ q, q ≠ 286 → q ≠ 283 → m' q = m1 q) ∧ (∀ k, k ≠ 3 → m' 283 k = m1 283 k) ∧ m' 283 3 = (s : Int) + 1 ∧ ∀ k, m' 286 k = if 150 * (s : Int) ≤ k ∧ k < 150 * (s : Int) + 150 then m1 284 (k - 150 * s) else m1 286 k := by
    intro m1 s hs7 hs
    obtain ⟨m2, q1, q2, q3⟩ := keeps_cp (w := w) (fu := fu) (k86 := fun x1 M2 => f_X11_keeps_86 fu x1 M2) (s := s) (by omega) 150 fu m1 0 hs (by omega) (by omega) (by omega)
    unfold f_X11_keeps_50
    simp (disch := omega) only [n_69, n_50, n_13, Option.bind_some, bd2_some, bdX_ok, bdX_er, nm_eq, n_0, n_1, n_2, n_3, n_4, n_5, n_6, n_7, n_8, n_9, n_10, n_11, n_12, n_14, n_15, n_16, n_17, n_18, n_19, n_20, n_21, n_24, n_27, n_28, n_32, n_43, n_45, n_48, n_56, n_57, n_59, n_64, n_70, n_97, n_99, n_100, n_104, n_118, n_122, n_126, n_127, n_128, n_129, n_130, n_150, n_255, n_600, n_1000, n_1050, n_1200, n_999999, n_1000000, iI_neg, iI_add, iI_sub, iI_mul, ile, ilt, ieq]
    rw [q1]
    have e3 : m2 283 3 = s := by rw [q2 283 (by decide)]; exact hs
    unfold f_X11_keeps_86
    simp (disch := omega) only [n_69, n_50, n_13, Option.bind_some, bd2_some, bdX_ok, bdX_er, nm_eq, n_0, n_1, n_2, n_3, n_4, n_5, n_6, n_7, n_8, n_9, n_10, n_11, n_12, n_14, n_15, n_16, n_17, n_18, n_19, n_20, n_21, n_24, n_27, n_28, n_32, n_43, n_45, n_48, n_56, n_57, n_59, n_64, n_70, n_97, n_99, n_100, n_104, n_118, n_122, n_126, n_127, n_128, n_129, n_130, n_150, n_255, n_600, n_1000, n_1050, n_1200, n_999999, n_1000000, iI_neg, iI_add, iI_sub, iI_mul, ile, ilt, ieq, Z_has, Z_0, Z_1, Z_2, Z_5, Z_15, Z_17, Z_18, Z_24, Z_25, Z_26, Z_3, Z_4, Z_6, Z_7, Z_8, Z_9, Z_10, Z_11, Z_12, Z_13, Z_14, Z_16, Z_19, Z_20, Z_21, Z_22, Z_23, Z_27, Y_3, Y_4, Y_6, Y_7, Y_8, Y_9, Y_10, Y_11, Y_12, Y_13, Y_14, Y_16, Y_19, Y_20, Y_21, Y_22, Y_23, Y_27, A_g, A_s, up_at, up_ne, up_off, e3]
    refine ⟨_, rfl, fun q a b => by rw [up_ne b, q2 q a], fun k hk => by rw [up_off hk, q2 283 (by decide)], up_at, fun k => ?_⟩
    rw [up_ne (by omega), q3 k, Int.add_zero]
  unfold f_X11_keeps
  simp (disch := omega) only [n_69, n_50, n_13, Option.bind_some, bd2_some, bdX_ok, bdX_er, nm_eq, n_0, n_1, n_2, n_3, n_4, n_5, n_6, n_7, n_8, n_9, n_10, n_11, n_12, n_14, n_15, n_16, n_17, n_18, n_19, n_20, n_21, n_24, n_27, n_28, n_32, n_43, n_45, n_48, n_56, n_57, n_59, n_64, n_70, n_97, n_99, n_100, n_104, n_118, n_122, n_126, n_127, n_128, n_129, n_130, n_150, n_255, n_600, n_1000, n_1050, n_1200, n_999999, n_1000000, iI_neg, iI_add, iI_sub, iI_mul, ile, ilt, ieq, Z_has, Z_0, Z_1, Z_2, Z_5, Z_15, Z_17, Z_18, Z_24, Z_25, Z_26, Z_3, Z_4, Z_6, Z_7, Z_8, Z_9, Z_10, Z_11, Z_12, Z_13, Z_14, Z_16, Z_19, Z_20, Z_21, Z_22, Z_23, Z_27, Y_3, Y_4, Y_6, Y_7, Y_8, Y_9, Y_10, Y_11, Y_12, Y_13, Y_14, Y_16, Y_19, Y_20, Y_21, Y_22, Y_23, Y_27, A_g, A_s, up_at, up_ne, up_off, h2]
  by_cases c : (H.length : Int) = 8
  · rw [if_pos c]
    obtain ⟨m1, p1, p2, p3⟩ := keeps_sh (w := w) (fu := fu) (k40 := fun x3 M4 => f_X11_keeps_40 fu x3 M4) 1050 fu m 0 (by omega) (by omega) (by omega)
    rw [p1]
    have e3 : m1 283 3 = 8 := by rw [p2 283 (by decide), h2, c]
    unfold f_X11_keeps_40
    simp (disch := omega) only [n_69, n_50, n_13, Option.bind_some, bd2_some, bdX_ok, bdX_er, nm_eq, n_0, n_1, n_2, n_3, n_4, n_5, n_6, n_7, n_8, n_9, n_10, n_11, n_12, n_14, n_15, n_16, n_17, n_18, n_19, n_20, n_21, n_24, n_27, n_28, n_32, n_43, n_45, n_48, n_56, n_57, n_59, n_64, n_70, n_97, n_99, n_100, n_104, n_118, n_122, n_126, n_127, n_128, n_129, n_130, n_150, n_255, n_600, n_1000, n_1050, n_1200, n_999999, n_1000000, iI_neg, iI_add, iI_sub, iI_mul, ile, ilt, ieq, Z_has, Z_0, Z_1, Z_2, Z_5, Z_15, Z_17, Z_18, Z_24, Z_25, Z_26, Z_3, Z_4, Z_6, Z_7, Z_8, Z_9, Z_10, Z_11, Z_12, Z_13, Z_14, Z_16, Z_19, Z_20, Z_21, Z_22, Z_23, Z_27, Y_3, Y_4, Y_6, Y_7, Y_8, Y_9, Y_10, Y_11, Y_12, Y_13, Y_14, Y_16, Y_19, Y_20, Y_21, Y_22, Y_23, Y_27, A_g, A_s, up_at, up_ne, up_off, e3]
    obtain ⟨m', q1, q2, q3, q4, q5⟩ := cp (up m1 283 3 (8 - 1)) 7 (by omega) up_at
    refine ⟨m', q1, ⟨fun p hp => ?_, ?_, ?_, ?_, ?_, ?_⟩, ?_, by rw [q2 _ (by omega) (by omega), up_ne (by omega), p2 _ (by omega)], fun k hk => ?_, ?_, by rw [hlen]; omega, fun i y hi => ?_⟩
    · rw [q2 p (by omega) (by omega), up_ne (by omega), p2 p (by omega)]
    · rw [q2 _ (by omega) (by omega), up_ne (by omega), p2 _ (by omega)]
    · rw [q2 _ (by omega) (by omega), up_ne (by omega), p2 _ (by omega)]
    · rw [q3 _ (by omega), up_off (by omega), p2 _ (by omega)]
    · rw [q3 _ (by omega), up_off (by omega), p2 _ (by omega)]
    · rw [q3 _ (by omega), up_off (by omega), p2 _ (by omega)]
    · rw [q2 _ (by omega) (by omega), up_ne (by omega), p2 _ (by omega)]
    · rw [q3 _ hk, up_off hk, p2 _ (by omega)]
    · rw [q4, hlen]; omega
    · have hi8 : i < 8 := by
        have := (List.getElem?_eq_some_iff.mp hi).1
        rw [hlen] at this; omega
      have el : (((x :: H).take 8).length : Int) = 8 := by rw [hlen]; omega
      rw [el]
      cases i with
      | zero =>
        rw [List.getElem?_take, if_pos (by omega)] at hi
        have : x = y := by simpa using hi
        subst this
        refine h1.cong (fun k k0 k1 => ?_)
        show m' 286 (150 * (8 - 1 - ((0 : Nat) : Int)) + k) = _
        rw [q5, if_pos (by omega), up_ne (by omega), p2 284 (by omega)]
        congr 1; omega
      | succ i =>
        rw [List.getElem?_take, if_pos hi8, List.getElem?_cons_succ] at hi
        refine (h4 i y hi).cong (fun k k0 k1 => ?_)
        show m' 286 (150 * (8 - 1 - ((i + 1 : Nat) : Int)) + k) = m 286 (150 * ((H.length : Int) - 1 - i) + k)
        rw [q5, if_neg (by omega), up_ne (by omega), p3, if_pos (by omega), c]
        congr 1; omega
  · rw [if_neg c]
    obtain ⟨m', q1, q2, q3, q4, q5⟩ := cp m H.length (by omega) h2
    refine ⟨m', q1, ⟨fun p hp => q2 p (by omega) (by omega), q2 _ (by omega) (by omega), q2 _ (by omega) (by omega), q3 _ (by omega), q3 _ (by omega), q3 _ (by omega)⟩, q2 _ (by omega) (by omega), q2 _ (by omega) (by omega), q3, ?_, by rw [hlen]; omega, fun i y hi => ?_⟩
    · rw [q4, hlen]; omega
    · have hi8 : i < H.length + 1 := by
        have := (List.getElem?_eq_some_iff.mp hi).1
        rw [hlen] at this; omega
      have el : (((x :: H).take 8).length : Int) = H.length + 1 := by rw [hlen]; omega
      rw [el]
      cases i with
      | zero =>
        rw [List.getElem?_take, if_pos (by omega)] at hi
        have : x = y := by simpa using hi
        subst this
        refine h1.cong (fun k k0 k1 => ?_)
        show m' 286 (150 * ((H.length : Int) + 1 - 1 - ((0 : Nat) : Int)) + k) = _
        rw [q5, if_pos (by omega)]
        congr 1; omega
      | succ i =>
        rw [List.getElem?_take, if_pos (by omega), List.getElem?_cons_succ] at hi
        refine (h4 i y hi).cong (fun k k0 k1 => ?_)
        show m' 286 (150 * ((H.length : Int) + 1 - 1 - ((i + 1 : Nat) : Int)) + k) = m 286 (150 * ((H.length : Int) - 1 - i) + k)
        rw [q5, if_neg (by omega)]
        congr 1; omega
theorem L128_ok {y : Ps} (hfu : 2000 ≤ fu) (h0 : m 283 12 = 0) (hP : PR m y []) (hI : RI m x H) : ∃ m', f_X11_load_128 fu 283 (mem w m) = some (iI (nA y.1), mem w m') ∧ RI m' (y.1, y.2, [], []) ((x :: H).take 8) ∧ (∀ q, q < 283 → m' q = m q) ∧ m' 287 = m 287 ∧ m' 293 = m 293 ∧ (∀ k, k ≠ 3 → k ≠ 14 → m' 283 k = m 283 k) ∧ m' 283 14 = -1 := by
  have e12 : (up m 283 14 (-1)) 283 12 = 0 := by rw [up_off (by decide)]; exact h0
  obtain ⟨m1, r1, r2, r3, r4, r5, r6, r7⟩ := setsOut_eq (w := w) (m := up (up m 283 14 (-1)) 285 118 0) (fu := fu) rw285
  have hf1 : ∀ q, q ≠ 283 → q ≠ 285 → m1 q = m q := fun q a b => by rw [r2 q b, up_ne b, up_ne a]
  have hk1 : ∀ k, k ≠ 14 → m1 283 k = m 283 k := fun k a => by rw [r2 283 (by decide), up_ne (by decide), up_off a]
  have hI1 : RI m1 x H := ⟨by rw [hf1 284 (by decide) (by decide)]; exact hI.1, by rw [hk1 3 (by decide)]; exact hI.2.1, hI.2.2.1, fun i y hi => by rw [hf1 286 (by decide) (by decide)]; exact hI.2.2.2 i y hi⟩
  obtain ⟨m2, p1, p2, p3, p8, p4, p5⟩ := keepsR_eq2 (w := w) (fu := fu) hfu hI1
  obtain ⟨m3, q1, q2, q3⟩ := becomes_eq (w := w) (fu := fu) (m := m2) (p := 285) (f := 0) (by omega) (Or.inl rfl) (by omega) (by rw [if_pos rfl]; omega)
  have hr285 : ∀ k, 0 ≤ k → k < 126 → k ≠ 118 → m1 285 k = m 285 k := fun k a b c => by rw [r3 k (by omega), up_off c, up_ne (by decide)]
  have h118 : m1 285 118 = 0 := by rw [r3 118 (by omega), up_at]
  have e1 : ∀ k, 0 ≤ k → k < 150 → m3 284 k = m1 285 k := fun k a b => by
    rw [q3 k a b, Int.zero_add, p8]
  have hN3 : rNet (m3 284) y.1 := hP.1.cong (fun k a b => by rw [e1 k a (by omega), hr285 k a (by omega) (by omega)])
  have e4 : m3 284 4 = nA y.1 := hN3.2.1.2.2.2.2
  unfold f_X11_load_128
  simp (disch := omega) only [n_69, n_50, n_13, Option.bind_some, bd2_some, bdX_ok, bdX_er, nm_eq, n_0, n_1, n_2, n_3, n_4, n_5, n_6, n_7, n_8, n_9, n_10, n_11, n_12, n_14, n_15, n_16, n_17, n_18, n_19, n_20, n_21, n_24, n_27, n_28, n_32, n_43, n_45, n_48, n_56, n_57, n_59, n_64, n_70, n_97, n_99, n_100, n_104, n_118, n_122, n_126, n_127, n_128, n_129, n_130, n_150, n_255, n_600, n_1000, n_1050, n_1200, n_999999, n_1000000, iI_neg, iI_add, iI_sub, iI_mul, ile, ilt, ieq, Z_12, h0]
  rw [if_pos (by first | exact trivial | omega | decide)]
  unfold f_X11_load_144
  simp (disch := omega) only [n_69, n_50, n_13, Option.bind_some, bd2_some, bdX_ok, bdX_er, nm_eq, n_0, n_1, n_2, n_3, n_4, n_5, n_6, n_7, n_8, n_9, n_10, n_11, n_12, n_14, n_15, n_16, n_17, n_18, n_19, n_20, n_21, n_24, n_27, n_28, n_32, n_43, n_45, n_48, n_56, n_57, n_59, n_64, n_70, n_97, n_99, n_100, n_104, n_118, n_122, n_126, n_127, n_128, n_129, n_130, n_150, n_255, n_600, n_1000, n_1050, n_1200, n_999999, n_1000000, iI_neg, iI_add, iI_sub, iI_mul, ile, ilt, ieq, Z_has, Z_0, Z_1, Z_2, Z_5, Z_15, Z_17, Z_18, Z_24, Z_25, Z_26, Z_3, Z_4, Z_6, Z_7, Z_8, Z_9, Z_10, Z_11, Z_12, Z_13, Z_14, Z_16, Z_19, Z_20, Z_21, Z_22, Z_23, Z_27, Y_3, Y_4, Y_6, Y_7, Y_8, Y_9, Y_10, Y_11, Y_12, Y_13, Y_14, Y_16, Y_19, Y_20, Y_21, Y_22, Y_23, Y_27, A_g, A_s, up_at, up_ne, up_off, e12, Rw_s rw285, r1, p1, q1, e4]
  rw [if_pos (by first | exact trivial | omega | decide)]
  refine ⟨m3, rfl, RI_new p5 q2 ⟨hN3, hP.2.1.cong (fun k a b => by rw [e1 k (by omega) (by omega), hr285 k (by omega) (by omega) (by omega)]), ⟨by rw [e1 118 (by omega) (by omega), h118]; rfl, by simp [sD], fun j a hj => by simp [sD] at hj⟩, ?_⟩, fun q hq => ?_, ?_, ?_, fun k a b => ?_, ?_⟩
  · refine rJrn_nil hN3 ?_ ?_ ?_ ?_
    · rw [e1 126 (by omega) (by omega), r4, e1 1 (by omega) (by omega), hr285 1 (by omega) (by omega) (by omega), up_off (by decide), up_ne (by decide)]
    · rw [e1 127 (by omega) (by omega), r5]
    · rw [e1 128 (by omega) (by omega), r6, e1 3 (by omega) (by omega), hr285 3 (by omega) (by omega) (by omega), up_off (by decide), up_ne (by decide)]
    · rw [e1 129 (by omega) (by omega), r7]
  · rw [q2 q (by omega), p2.1 q hq, hf1 q (by omega) (by omega)]
  · rw [q2 _ (by decide), p2.2.1, hf1 _ (by decide) (by decide)]
  · rw [q2 _ (by decide), p2.2.2.1, hf1 _ (by decide) (by decide)]
  · rw [q2 _ (by decide), p4 k a, hk1 k b]
  · rw [q2 _ (by decide), p4 14 (by decide), r2 283 (by decide), up_ne (by decide), up_at]
/-- the reference's buffer -/
def BF (m : Mm) (B : List Int) : Prop := m 283 6 = B.length ∧ B.length ≤ 600 ∧ ∀ (j : Nat) (b : Int), B[j]? = some b → 0 ≤ b ∧ b < 256 ∧ m 287 j = b
theorem readR_eq (hfu : 1000 ≤ fu) (h : RT0 m t) (h9 : m 283 9 = 0) (h12 : m 283 12 = 0) (K : Int32 → List Ob → Option (Int32 × List Ob)) : (∀ y, pText t = .ok y → ∃ m2, (bd2 (f_X11_next fu 283 (mem w m)) fun _ M14 => (hasO M14 283 11).bind fun _ => bd2 (f_X11_isWord fu 283 1000000 M14) fun v17 M18 => (hasO M18 283 11).bind fun _ => bd2 (f_X11_must fu 283 v17 M18) fun _ M22 => (hasO M22 283 11).bind fun _ => bd2 (f_X11_takes fu 283 (iI 2) (iI 8) (iI (-1)) M22) fun v25 M26 => (hasO M26 283 11).bind fun _ => bd2 (f_X11_takes fu 283 (iI 0) (v25 - iI 1) (iI (-1)) M26) fun v29 M30 => (hasO M30 283 11).bind fun _ => bd2 (f_X11_takes fu 283 (iI 0) (v25 - iI 1) v29 M30) fun v33 M34 => (hasO M34 283 11).bind fun _ => lTail fu v25 v29 v33 M34) = f_X11_load_128 fu 283 (mem w m2) ∧ m2 283 12 = 0 ∧ PR m2 y [] ∧ gS m m2) ∧ (∀ c s, pText t = .error (c, s) → ∃ m2, (bd2 (f_X11_next fu 283 (mem w m)) fun _ M14 => (hasO M14 283 11).bind fun _ => bd2 (f_X11_isWord fu 283 1000000 M14) fun v17 M18 => (hasO M18 283 11).bind fun _ => bd2 (f_X11_must fu 283 v17 M18) fun _ M22 => (hasO M22 283 11).bind fun _ => bd2 (f_X11_takes fu 283 (iI 2) (iI 8) (iI (-1)) M22) fun v25 M26 => (hasO M26 283 11).bind fun _ => bd2 (f_X11_takes fu 283 (iI 0) (v25 - iI 1) (iI (-1)) M26) fun v29 M30 => (hasO M30 283 11).bind fun _ => bd2 (f_X11_takes fu 283 (iI 0) (v25 - iI 1) v29 M30) fun v33 M34 => (hasO M34 283 11).bind fun _ => lTail fu v25 v29 v33 M34) = f_X11_load_128 fu 283 (mem w m2) ∧ Wr m2 c s ∧ gS m m2) := by
  obtain ⟨m1, q1, q2, q3, q4⟩ := next_eq (w := w) (fu := fu) (p := 0) hfu h (by rw [h9]; rfl) (Nat.zero_le _)
  have hT1 : TP m1 t 0 := ⟨by rw [q4 12 (by omega)]; exact h12, q2⟩
  have hg1 : gS m m1 := ⟨fun q a _ => q3 q a, fun k hk => q4 k (by omega)⟩
  obtain ⟨w0, b0⟩ := wordR_eq (w := w) (k := 0) hfu (by omega) hT1
  rw [show 1000000 + 0 = 1000000 from rfl] at w0
  -- an error anywhere
  have er : ∀ (c : Int) (s : Nat) (m2 : Mm) (n a b : Int), Wr m2 c s → gS m m2 → (∀ y, (Except.error (c, s) : Except Er Ps) = .ok y → ∃ m3, lTail fu (iI n) (iI a) (iI b) (mem w m2) = f_X11_load_128 fu 283 (mem w m3) ∧ m3 283 12 = 0 ∧ PR m3 y [] ∧ gS m m3) ∧ (∀ c' s', (Except.error (c, s) : Except Er Ps) = .error (c', s') → ∃ m3, lTail fu (iI n) (iI a) (iI b) (mem w m2) = f_X11_load_128 fu 283 (mem w m3) ∧ Wr m3 c' s' ∧ gS m m3) := by
    intro c s m2 n a b hw hg
    obtain ⟨m3, e1, e2, e3⟩ := lTail_er (w := w) (fu := fu) (n := n) (a := a) (b := b) hfu hw
    refine ⟨fun y e => (by cases e), fun c' s' e => ?_⟩
    have e : (c, s) = (c', s') := by injection e
    injection e with a b
    subst a; subst b
    exact ⟨m3, e1, e2, hg.trans e3⟩
  unfold pText pHead
  simp (disch := omega) only [n_69, n_50, n_13, Option.bind_some, bd2_some, bdX_ok, bdX_er, nm_eq, n_0, n_1, n_2, n_3, n_4, n_5, n_6, n_7, n_8, n_9, n_10, n_11, n_12, n_14, n_15, n_16, n_17, n_18, n_19, n_20, n_21, n_24, n_27, n_28, n_32, n_43, n_45, n_48, n_56, n_57, n_59, n_64, n_70, n_97, n_99, n_100, n_104, n_118, n_122, n_126, n_127, n_128, n_129, n_130, n_150, n_255, n_600, n_1000, n_1050, n_1200, n_999999, n_1000000, iI_neg, iI_add, iI_sub, iI_mul, ile, ilt, ieq, Z_has, q1, w0]
  by_cases c0 : tw ltB t (run spB t 0) = wordT 0
  · rw [show decide (tw ltB t (run spB t 0) = wordT 0) = true from by simp [c0], show b2 true = 1 from rfl, if_pos c0]
    obtain ⟨m2, k1, k2, k3⟩ := must_yes (w := w) hfu hT1
    rw [b0 c0] at k2
    have hg2 := hg1.trans k3.g
    obtain ⟨a1, a2⟩ := takes_eq (w := w) (lo := 2) (hi := 8) (un := -1) hfu k2 (by omega) (by omega) (by omega)
    simp (disch := omega) only [n_69, n_50, n_13, Option.bind_some, bd2_some, bdX_ok, bdX_er, nm_eq, n_0, n_1, n_2, n_3, n_4, n_5, n_6, n_7, n_8, n_9, n_10, n_11, n_12, n_14, n_15, n_16, n_17, n_18, n_19, n_20, n_21, n_24, n_27, n_28, n_32, n_43, n_45, n_48, n_56, n_57, n_59, n_64, n_70, n_97, n_99, n_100, n_104, n_118, n_122, n_126, n_127, n_128, n_129, n_130, n_150, n_255, n_600, n_1000, n_1050, n_1200, n_999999, n_1000000, iI_neg, iI_add, iI_sub, iI_mul, ile, ilt, ieq, Z_has, k1]
    cases hr1 : rnum t (run ltB t (run spB t 0)) 2 8 (-1) with
    | error e =>
      obtain ⟨c, s⟩ := e
      obtain ⟨m3, j1, j2, j3⟩ := a2 c s hr1
      simp (disch := omega) only [n_69, n_50, n_13, Option.bind_some, bd2_some, bdX_ok, bdX_er, nm_eq, n_0, n_1, n_2, n_3, n_4, n_5, n_6, n_7, n_8, n_9, n_10, n_11, n_12, n_14, n_15, n_16, n_17, n_18, n_19, n_20, n_21, n_24, n_27, n_28, n_32, n_43, n_45, n_48, n_56, n_57, n_59, n_64, n_70, n_97, n_99, n_100, n_104, n_118, n_122, n_126, n_127, n_128, n_129, n_130, n_150, n_255, n_600, n_1000, n_1050, n_1200, n_999999, n_1000000, iI_neg, iI_add, iI_sub, iI_mul, ile, ilt, ieq, Z_has, j1, takes_no j2]
      simp only [eb_er]
      exact er c s m3 0 0 0 j2 (hg2.trans j3.g)
    | ok y =>
      obtain ⟨v1, p1⟩ := y
      have hv1 := rnum_ok hr1
      obtain ⟨m3, j1, j2, j3⟩ := a1 v1 p1 hr1
      have hg3 := hg2.trans j3.g
      obtain ⟨c1, c2⟩ := takes_eq (w := w) (lo := 0) (hi := v1 - 1) (un := -1) hfu j2 (by omega) (by omega) (by omega)
      simp (disch := omega) only [n_69, n_50, n_13, Option.bind_some, bd2_some, bdX_ok, bdX_er, nm_eq, n_0, n_1, n_2, n_3, n_4, n_5, n_6, n_7, n_8, n_9, n_10, n_11, n_12, n_14, n_15, n_16, n_17, n_18, n_19, n_20, n_21, n_24, n_27, n_28, n_32, n_43, n_45, n_48, n_56, n_57, n_59, n_64, n_70, n_97, n_99, n_100, n_104, n_118, n_122, n_126, n_127, n_128, n_129, n_130, n_150, n_255, n_600, n_1000, n_1050, n_1200, n_999999, n_1000000, iI_neg, iI_add, iI_sub, iI_mul, ile, ilt, ieq, Z_has, j1]
      simp only [eb_ok]
      cases hr2 : rnum t p1 0 (v1 - 1) (-1) with
      | error e =>
        obtain ⟨c, s⟩ := e
        obtain ⟨m4, i1, i2, i3⟩ := c2 c s hr2
        simp (disch := omega) only [n_69, n_50, n_13, Option.bind_some, bd2_some, bdX_ok, bdX_er, nm_eq, n_0, n_1, n_2, n_3, n_4, n_5, n_6, n_7, n_8, n_9, n_10, n_11, n_12, n_14, n_15, n_16, n_17, n_18, n_19, n_20, n_21, n_24, n_27, n_28, n_32, n_43, n_45, n_48, n_56, n_57, n_59, n_64, n_70, n_97, n_99, n_100, n_104, n_118, n_122, n_126, n_127, n_128, n_129, n_130, n_150, n_255, n_600, n_1000, n_1050, n_1200, n_999999, n_1000000, iI_neg, iI_add, iI_sub, iI_mul, ile, ilt, ieq, Z_has, i1, takes_no i2]
        simp only [eb_er]
        exact er c s m4 v1 0 0 i2 (hg3.trans i3.g)
      | ok y =>
        obtain ⟨v2, p2⟩ := y
        have hv2 := rnum_ok hr2
        obtain ⟨m4, i1, i2, i3⟩ := c1 v2 p2 hr2
        have hg4 := hg3.trans i3.g
        obtain ⟨d1, d2⟩ := takes_eq (w := w) (lo := 0) (hi := v1 - 1) (un := v2) hfu i2 (by omega) (by omega) (by omega)
        simp (disch := omega) only [n_69, n_50, n_13, Option.bind_some, bd2_some, bdX_ok, bdX_er, nm_eq, n_0, n_1, n_2, n_3, n_4, n_5, n_6, n_7, n_8, n_9, n_10, n_11, n_12, n_14, n_15, n_16, n_17, n_18, n_19, n_20, n_21, n_24, n_27, n_28, n_32, n_43, n_45, n_48, n_56, n_57, n_59, n_64, n_70, n_97, n_99, n_100, n_104, n_118, n_122, n_126, n_127, n_128, n_129, n_130, n_150, n_255, n_600, n_1000, n_1050, n_1200, n_999999, n_1000000, iI_neg, iI_add, iI_sub, iI_mul, ile, ilt, ieq, Z_has, i1]
        simp only [eb_ok]
        cases hr3 : rnum t p2 0 (v1 - 1) v2 with
        | error e =>
          obtain ⟨c, s⟩ := e
          obtain ⟨m5, g1, g2, g3⟩ := d2 c s hr3
          simp (disch := omega) only [n_69, n_50, n_13, Option.bind_some, bd2_some, bdX_ok, bdX_er, nm_eq, n_0, n_1, n_2, n_3, n_4, n_5, n_6, n_7, n_8, n_9, n_10, n_11, n_12, n_14, n_15, n_16, n_17, n_18, n_19, n_20, n_21, n_24, n_27, n_28, n_32, n_43, n_45, n_48, n_56, n_57, n_59, n_64, n_70, n_97, n_99, n_100, n_104, n_118, n_122, n_126, n_127, n_128, n_129, n_130, n_150, n_255, n_600, n_1000, n_1050, n_1200, n_999999, n_1000000, iI_neg, iI_add, iI_sub, iI_mul, ile, ilt, ieq, Z_has, g1]
          simp only [eb_er]
          exact er c s m5 v1 v2 0 g2 (hg4.trans g3.g)
        | ok y =>
          obtain ⟨v3, p3⟩ := y
          have hv3 := rnum_ok hr3
          obtain ⟨m5, g1, g2, g3⟩ := d1 v3 p3 hr3
          have hg5 := hg4.trans g3.g
          have hwf : WFN (begN v1 v2 v3) := begN_wf ⟨hv1.1, hv1.2.1, by omega, by omega, by omega, by omega, fun e => hv3.2.2.1 e.symm⟩
          obtain ⟨o1, o2⟩ := lTail_ok (w := w) (fu := fu) hfu g2 hwf
          simp (disch := omega) only [n_69, n_50, n_13, Option.bind_some, bd2_some, bdX_ok, bdX_er, nm_eq, n_0, n_1, n_2, n_3, n_4, n_5, n_6, n_7, n_8, n_9, n_10, n_11, n_12, n_14, n_15, n_16, n_17, n_18, n_19, n_20, n_21, n_24, n_27, n_28, n_32, n_43, n_45, n_48, n_56, n_57, n_59, n_64, n_70, n_97, n_99, n_100, n_104, n_118, n_122, n_126, n_127, n_128, n_129, n_130, n_150, n_255, n_600, n_1000, n_1050, n_1200, n_999999, n_1000000, iI_neg, iI_add, iI_sub, iI_mul, ile, ilt, ieq, Z_has, g1]
          simp only [eb_ok]
          have e9 : (eb (eb (rsemi t p3) fun q => (.ok ((begN v1 v2 v3, ([] : List (List Int))), q) : Except Er (Ps × Nat))) fun y => pAll t 601 y.1 (run spB t y.2)) = eb (rsemi t p3) fun q => pAll t 601 (begN v1 v2 v3, []) (run spB t q) := by
            cases rsemi t p3 with
            | error e => rfl
            | ok q => rfl
          rw [e9]
          refine ⟨fun y e => ?_, fun c s e => ?_⟩
          · obtain ⟨m6, n1, n2, n3, n4⟩ := o1 y e
            exact ⟨m6, n1, n2, n3, hg5.trans n4⟩
          · obtain ⟨m6, n1, n2, n3⟩ := o2 c s e
            exact ⟨m6, n1, n2, hg5.trans n3⟩
  · rw [show decide (tw ltB t (run spB t 0) = wordT 0) = false from by simp [c0], show b2 false = 0 from rfl, if_neg c0]
    obtain ⟨m2, k1, k2, k3⟩ := must_fail (w := w) (fu := fu) hT1
    simp (disch := omega) only [n_69, n_50, n_13, Option.bind_some, bd2_some, bdX_ok, bdX_er, nm_eq, n_0, n_1, n_2, n_3, n_4, n_5, n_6, n_7, n_8, n_9, n_10, n_11, n_12, n_14, n_15, n_16, n_17, n_18, n_19, n_20, n_21, n_24, n_27, n_28, n_32, n_43, n_45, n_48, n_56, n_57, n_59, n_64, n_70, n_97, n_99, n_100, n_104, n_118, n_122, n_126, n_127, n_128, n_129, n_130, n_150, n_255, n_600, n_1000, n_1050, n_1200, n_999999, n_1000000, iI_neg, iI_add, iI_sub, iI_mul, ile, ilt, ieq, Z_has, k1, takes_no k2]
    simp only [eb_er]
    exact er (-2) (run spB t 0) m2 0 0 0 k2 (hg1.trans k3.g)
theorem loadR_eq (hfu : 2000 ≤ fu) (h : RI m x H) (hB : BF m B) (hv : i32 v) : (¬ (0 ≤ v ∧ v ≤ B.length) → RQ w m (f_X11_load fu 283 (iI v) (mem w m)) 1 0 x H) ∧ (0 ≤ v ∧ v ≤ B.length → (∀ c s, pText (B.take v.toNat) = .error (c, s) → ∃ m', f_X11_load fu 283 (iI v) (mem w m) = some (iI c, mem w m') ∧ m' 283 4 = 0 ∧ RI m' x H ∧ (∀ q, q < 283 → m' q = m q) ∧ m' 293 = m 293 ∧ m' 283 27 = m 283 27 ∧ m' 283 6 = 0 ∧ m' 283 14 = (s : Nat)) ∧ (∀ y, pText (B.take v.toNat) = .ok y → ∃ m', f_X11_load fu 283 (iI v) (mem w m) = some (iI (nA y.1), mem w m') ∧ m' 283 4 = 0 ∧ RI m' (y.1, y.2, [], []) ((x :: H).take 8) ∧ (∀ q, q < 283 → m' q = m q) ∧ m' 293 = m 293 ∧ m' 283 27 = m 283 27 ∧ m' 283 6 = 0 ∧ m' 283 14 = -1)) := by
  obtain ⟨b1, b2', b3⟩ := hB
  have hv2 := hv
  unfold i32 at hv2
  have hin := isInR_eq (w := w) (m := m) (fu := fu) (v := v) (lo := 0) (hi := B.length) hv (by unfold i32; omega) (by unfold i32; omega)
  refine ⟨fun hn => ?_, fun hy => ?_⟩
  · unfold f_X11_load
    simp (disch := omega) only [n_69, n_50, n_13, Option.bind_some, bd2_some, bdX_ok, bdX_er, nm_eq, n_0, n_1, n_2, n_3, n_4, n_5, n_6, n_7, n_8, n_9, n_10, n_11, n_12, n_14, n_15, n_16, n_17, n_18, n_19, n_20, n_21, n_24, n_27, n_28, n_32, n_43, n_45, n_48, n_56, n_57, n_59, n_64, n_70, n_97, n_99, n_100, n_104, n_118, n_122, n_126, n_127, n_128, n_129, n_130, n_150, n_255, n_600, n_1000, n_1050, n_1200, n_999999, n_1000000, iI_neg, iI_add, iI_sub, iI_mul, ile, ilt, ieq, Z_6, b1, hin]
    rw [show inB v 0 B.length = 0 from if_neg hn, if_pos (show iI 0 = iI 0 from rfl)]
    unfold f_X11_load_18
    rw [Y_4, Option.bind_some, Z_4, Option.bind_some, up_at, if_neg (show ¬ iI 1 ≤ 0 by decide)]
    exact RQ_nq h (by omega)
  · have hlen : ((B.take v.toNat).length : Int) = v := by rw [List.length_take]; omega
    have hlen' : (B.take v.toNat).length ≤ 600 := by rw [List.length_take]; omega
    obtain ⟨m0, hm0⟩ : ∃ m0, m0 = up (up (up (up (up m 283 4 0) 283 7 v) 283 6 0) 283 9 0) 283 12 0 := ⟨_, rfl⟩
    have fr : ∀ q, q ≠ 283 → m0 q = m q := fun q hq => by rw [hm0, up_ne hq, up_ne hq, up_ne hq, up_ne hq, up_ne hq]
    have frk : ∀ k, (k < 4 ∨ 12 < k) → m0 283 k = m 283 k := fun k hk => by rw [hm0, up_off (by omega), up_off (by omega), up_off (by omega), up_off (by omega), up_off (by omega)]
    have f7 : m0 283 7 = v := by rw [hm0, up_off (by decide), up_off (by decide), up_off (by decide), up_at]
    have f4 : m0 283 4 = 0 := by rw [hm0, up_off (by decide), up_off (by decide), up_off (by decide), up_off (by decide), up_at]
    have f6 : m0 283 6 = 0 := by rw [hm0, up_off (by decide), up_off (by decide), up_at]
    have f9 : m0 283 9 = 0 := by rw [hm0, up_off (by decide), up_at]
    have f12 : m0 283 12 = 0 := by rw [hm0, up_at]
    have hR : RT0 m0 (B.take v.toNat) := ⟨by rw [f7, hlen], hlen', fun j b hj => by
      have hj' := (List.getElem?_eq_some_iff.mp hj).1
      rw [List.length_take] at hj'
      rw [List.getElem?_take, if_pos (by omega)] at hj
      rw [fr 287 (by decide)]
      exact b3 j b hj⟩
    have hI : RI m0 x H := ⟨by rw [fr 284 (by decide)]; exact h.1, by rw [frk 3 (by omega)]; exact h.2.1, h.2.2.1, fun i y hi => by rw [fr 286 (by decide)]; exact h.2.2.2 i y hi⟩
    obtain ⟨r1, r2⟩ := readR_eq (w := w) (fu := fu) (by omega) hR f9 f12 (fun _ _ => none)
    have hgI : ∀ m2, gS m0 m2 → RI m2 x H := fun m2 g => ⟨by rw [g.1 284 (by decide) (by decide)]; exact hI.1, by rw [g.2 3 (by omega)]; exact hI.2.1, hI.2.2.1, fun i y hi => by rw [g.1 286 (by decide) (by decide)]; exact hI.2.2.2 i y hi⟩
    have e0 : f_X11_load fu 283 (iI v) (mem w m) = (bd2 (f_X11_next fu 283 (mem w m0)) fun _ M14 => (hasO M14 283 11).bind fun _ => bd2 (f_X11_isWord fu 283 1000000 M14) fun v17 M18 => (hasO M18 283 11).bind fun _ => bd2 (f_X11_must fu 283 v17 M18) fun _ M22 => (hasO M22 283 11).bind fun _ => bd2 (f_X11_takes fu 283 (iI 2) (iI 8) (iI (-1)) M22) fun v25 M26 => (hasO M26 283 11).bind fun _ => bd2 (f_X11_takes fu 283 (iI 0) (v25 - iI 1) (iI (-1)) M26) fun v29 M30 => (hasO M30 283 11).bind fun _ => bd2 (f_X11_takes fu 283 (iI 0) (v25 - iI 1) v29 M30) fun v33 M34 => (hasO M34 283 11).bind fun _ => lTail fu v25 v29 v33 M34) := by
      unfold f_X11_load
      simp (disch := omega) only [n_69, n_50, n_13, Option.bind_some, bd2_some, bdX_ok, bdX_er, nm_eq, n_0, n_1, n_2, n_3, n_4, n_5, n_6, n_7, n_8, n_9, n_10, n_11, n_12, n_14, n_15, n_16, n_17, n_18, n_19, n_20, n_21, n_24, n_27, n_28, n_32, n_43, n_45, n_48, n_56, n_57, n_59, n_64, n_70, n_97, n_99, n_100, n_104, n_118, n_122, n_126, n_127, n_128, n_129, n_130, n_150, n_255, n_600, n_1000, n_1050, n_1200, n_999999, n_1000000, iI_neg, iI_add, iI_sub, iI_mul, ile, ilt, ieq, Z_6, b1, hin]
      rw [show inB v 0 B.length = 1 from if_pos hy, if_neg (show ¬ iI 1 = iI 0 by decide)]
      unfold f_X11_load_18 lTail
      simp (disch := omega) only [n_69, n_50, n_13, Option.bind_some, bd2_some, bdX_ok, bdX_er, nm_eq, n_0, n_1, n_2, n_3, n_4, n_5, n_6, n_7, n_8, n_9, n_10, n_11, n_12, n_14, n_15, n_16, n_17, n_18, n_19, n_20, n_21, n_24, n_27, n_28, n_32, n_43, n_45, n_48, n_56, n_57, n_59, n_64, n_70, n_97, n_99, n_100, n_104, n_118, n_122, n_126, n_127, n_128, n_129, n_130, n_150, n_255, n_600, n_1000, n_1050, n_1200, n_999999, n_1000000, iI_neg, iI_add, iI_sub, iI_mul, ile, ilt, ieq, Z_has, Y_4, Z_4, up_at, Y_7, Y_6, Y_9, Y_12]
      rw [if_pos (by first | exact trivial | omega | decide), ← hm0]
    rw [e0]
    refine ⟨fun c s e => ?_, fun y e => ?_⟩
    · obtain ⟨m2, k1, k2, k3⟩ := r2 c s e
      rw [k1, L128_er k2]
      have hI2 := hgI m2 k3
      refine ⟨_, rfl, ?_, ⟨by rw [up_ne (by decide)]; exact hI2.1, by rw [up_off (by decide)]; exact hI2.2.1, hI2.2.2.1, fun i y hi => by rw [up_ne (by decide)]; exact hI2.2.2.2 i y hi⟩, fun q hq => ?_, ?_, ?_, ?_, up_at⟩
      · rw [up_off (by decide), k3.2 4 (by omega), f4]
      · rw [up_ne (by omega), k3.1 q (by omega) (by omega), fr q (by omega)]
      · rw [up_ne (by decide), k3.1 _ (by decide) (by decide), fr _ (by decide)]
      · rw [up_off (by decide), k3.2 27 (by omega), frk 27 (by omega)]
      · rw [up_off (by decide), k3.2 6 (by omega), f6]
    · obtain ⟨m2, k1, k2, k3, k4⟩ := r1 y e
      obtain ⟨m3, g1, g2, g3, g4, g5, g6, g7⟩ := L128_ok (w := w) hfu k2 k3 (hgI m2 k4)
      rw [k1, g1]
      refine ⟨m3, rfl, ?_, g2, fun q hq => ?_, ?_, ?_, ?_, g7⟩
      · rw [g6 4 (by decide) (by decide), k4.2 4 (by omega), f4]
      · rw [g3 q hq, k4.1 q (by omega) (by omega), fr q (by omega)]
      · rw [g5, k4.1 _ (by decide) (by decide), fr _ (by decide)]
      · rw [g6 27 (by decide) (by decide), k4.2 27 (by omega), frk 27 (by omega)]
      · rw [g6 6 (by decide) (by decide), k4.2 6 (by omega), f6]
end RZ
