/-! the reference's tokens -/
def kd (t : List Int) (s : Nat) : Int := if t.length ≤ s then 3 else if atB ltB t s = true then 0 else if atB dgB t s = true then 1 else 2
def bh (t : List Int) (s : Nat) : Nat := if t.length ≤ s then s else if atB ltB t s = true then run ltB t s else if atB dgB t s = true then run dgB t s else s + 1
def sv (t : List Int) (s : Nat) : Int := match t[s]? with
  | some b => b
  | none => -1
section TK
variable {w : Wl} {m m' m1 : Mm} {z v : Int} {fu p s : Nat} {t : List Int}
def RT0 (m : Mm) (t : List Int) : Prop := m 283 7 = t.length ∧ t.length ≤ 600 ∧ ∀ (j : Nat) (b : Int), t[j]? = some b → 0 ≤ b ∧ b < 256 ∧ m 287 j = b
theorem RT0.fr (h : RT0 m t) (h7 : m' 283 7 = m 283 7) (hb : m' 287 = m 287) : RT0 m' t := ⟨by rw [h7]; exact h.1, h.2.1, fun j b hj => by rw [hb]; exact h.2.2 j b hj⟩
/-- what tokens may change -/
def fS (m m' : Mm) : Prop := (∀ q, q ≠ 283 → m' q = m q) ∧ ∀ k, (k < 8 ∨ 13 < k) → m' 283 k = m 283 k
theorem fS.rf : fS m m := ⟨fun _ _ => rfl, fun _ _ => rfl⟩
theorem fS.trans {m'' : Mm} (h : fS m m') (g : fS m' m'') : fS m m'' := ⟨fun q a => (g.1 q a).trans (h.1 q a), fun k a => (g.2 k a).trans (h.2 k a)⟩
theorem fS_f {k : Int} (hk : 8 ≤ k ∧ k ≤ 13) : fS m (up m 283 k v) := ⟨fun q a => up_ne a, fun k' a => up_off (by omega)⟩
theorem RT0.f (h : RT0 m t) (g : fS m m') : RT0 m' t := h.fr (g.2 7 (by omega)) (g.1 287 (by decide))
theorem sv_is (h : RT0 m t) : -1 ≤ sv t s ∧ sv t s < 256 ∧ (sv t s = 32 ↔ atB spB t s = true) ∧ ((97 ≤ sv t s ∧ sv t s ≤ 122) ↔ atB ltB t s = true) ∧ ((48 ≤ sv t s ∧ sv t s ≤ 57) ↔ atB dgB t s = true) ∧ (sv t s = 59 ↔ atB smB t s = true) := by
  unfold sv atB
  cases ht : t[s]? with
  | none => simp
  | some b =>
    obtain ⟨b1, b2, b3⟩ := h.2.2 s b ht
    unfold spB dgB ltB smB
    simp only [decide_eq_true_eq]
    exact ⟨by omega, by omega, by first | trivial | exact Iff.rfl, by first | trivial | exact Iff.rfl, by first | trivial | exact Iff.rfl, by first | trivial | exact Iff.rfl⟩
theorem see_eq (h : RT0 m t) : f_X11_see fu 283 (iI (s : Int)) (mem w m) = some (iI (sv t s), mem w m) ∨ 2000 < s := by
  by_cases hs : s ≤ 2000
  · left
    have h6 := h.2.1
    unfold f_X11_see sv
    simp (disch := omega) only [n_69, n_50, n_13, Option.bind_some, bd2_some, bdX_ok, bdX_er, nm_eq, n_0, n_1, n_2, n_3, n_4, n_5, n_6, n_7, n_8, n_9, n_10, n_11, n_12, n_14, n_15, n_16, n_17, n_18, n_19, n_20, n_21, n_24, n_27, n_28, n_32, n_43, n_45, n_48, n_56, n_57, n_59, n_64, n_70, n_97, n_99, n_100, n_104, n_118, n_122, n_126, n_127, n_128, n_129, n_130, n_150, n_255, n_600, n_1000, n_1050, n_1200, n_999999, n_1000000, iI_neg, iI_add, iI_sub, iI_mul, ile, ilt, ieq, Z_has, Z_0, Z_1, Z_2, Z_5, Z_15, Z_17, Z_18, Z_24, Z_25, Z_26, Z_3, Z_4, Z_6, Z_7, Z_8, Z_9, Z_10, Z_11, Z_12, Z_13, Z_14, Z_16, Z_19, Z_20, Z_21, Z_22, Z_23, Z_27, Y_3, Y_4, Y_6, Y_7, Y_8, Y_9, Y_10, Y_11, Y_12, Y_13, Y_14, Y_16, Y_19, Y_20, Y_21, Y_22, Y_23, Y_27, A_g, A_s, up_at, up_ne, up_off, h.1]
    cases ht : t[s]? with
    | none =>
      have := List.getElem?_eq_none_iff.mp ht
      rw [if_pos (by omega)]
    | some b =>
      have hl := (List.getElem?_eq_some_iff.mp ht).1
      obtain ⟨b1, b2, b3⟩ := h.2.2 s b ht
      rw [if_neg (by omega)]
      simp (disch := omega) only [n_69, n_50, n_13, Option.bind_some, bd2_some, bdX_ok, bdX_er, nm_eq, n_0, n_1, n_2, n_3, n_4, n_5, n_6, n_7, n_8, n_9, n_10, n_11, n_12, n_14, n_15, n_16, n_17, n_18, n_19, n_20, n_21, n_24, n_27, n_28, n_32, n_43, n_45, n_48, n_56, n_57, n_59, n_64, n_70, n_97, n_99, n_100, n_104, n_118, n_122, n_126, n_127, n_128, n_129, n_130, n_150, n_255, n_600, n_1000, n_1050, n_1200, n_999999, n_1000000, iI_neg, iI_add, iI_sub, iI_mul, ile, ilt, ieq, Bu_g, b3]
  · right; omega
theorem seeR (h : RT0 m t) (hs : s ≤ 2000) : f_X11_see fu 283 (iI (s : Int)) (mem w m) = some (iI (sv t s), mem w m) := by
  rcases see_eq (w := w) (fu := fu) (s := s) h with q | q
  · exact q
  · omega
theorem isLetterR (h : RT0 m t) : f_X11_isLetter fu (iI (sv t s)) (mem w m) = some (iI (b2 (atB ltB t s)), mem w m) := by
  have hk := sv_is (s := s) h
  unfold f_X11_isLetter
  simp (disch := omega) only [n_69, n_50, n_13, Option.bind_some, bd2_some, bdX_ok, bdX_er, nm_eq, n_0, n_1, n_2, n_3, n_4, n_5, n_6, n_7, n_8, n_9, n_10, n_11, n_12, n_14, n_15, n_16, n_17, n_18, n_19, n_20, n_21, n_24, n_27, n_28, n_32, n_43, n_45, n_48, n_56, n_57, n_59, n_64, n_70, n_97, n_99, n_100, n_104, n_118, n_122, n_126, n_127, n_128, n_129, n_130, n_150, n_255, n_600, n_1000, n_1050, n_1200, n_999999, n_1000000, iI_neg, iI_add, iI_sub, iI_mul, ile, ilt, ieq, isInR_eq (w := w) (m := m) (fu := fu) (v := sv t s) (lo := 97) (hi := 122) (by unfold i32; omega) (by unfold i32; omega) (by unfold i32; omega)]
  rw [and1 inB_01]
  unfold inB
  cases ha : atB ltB t s with
  | true => rw [if_pos (hk.2.2.2.1.mpr ha)]; rfl
  | false => rw [if_neg (fun q => by rw [hk.2.2.2.1.mp q] at ha; cases ha)]; rfl
theorem isDigitR (h : RT0 m t) : f_X11_isDigit fu (iI (sv t s)) (mem w m) = some (iI (b2 (atB dgB t s)), mem w m) := by
  have hk := sv_is (s := s) h
  unfold f_X11_isDigit
  simp (disch := omega) only [n_69, n_50, n_13, Option.bind_some, bd2_some, bdX_ok, bdX_er, nm_eq, n_0, n_1, n_2, n_3, n_4, n_5, n_6, n_7, n_8, n_9, n_10, n_11, n_12, n_14, n_15, n_16, n_17, n_18, n_19, n_20, n_21, n_24, n_27, n_28, n_32, n_43, n_45, n_48, n_56, n_57, n_59, n_64, n_70, n_97, n_99, n_100, n_104, n_118, n_122, n_126, n_127, n_128, n_129, n_130, n_150, n_255, n_600, n_1000, n_1050, n_1200, n_999999, n_1000000, iI_neg, iI_add, iI_sub, iI_mul, ile, ilt, ieq, isInR_eq (w := w) (m := m) (fu := fu) (v := sv t s) (lo := 48) (hi := 57) (by unfold i32; omega) (by unfold i32; omega) (by unfold i32; omega)]
  rw [and1 inB_01]
  unfold inB
  cases ha : atB dgB t s with
  | true => rw [if_pos (hk.2.2.2.2.1.mpr ha)]; rfl
  | false => rw [if_neg (fun q => by rw [hk.2.2.2.2.1.mp q] at ha; cases ha)]; rfl
theorem nx_sp {k34 : Nat → List Ob → Option (Unit × List Ob)} : ∀ (d n p : Nat) (m : Mm), RT0 m t → m 283 8 = p → p ≤ t.length → t.length - p ≤ d → d < n → f_X11_next_8 fu k34 n 283 (mem w m) = k34 283 (mem w (up m 283 8 (run spB t p : Nat))) := by
  intro d
  induction d with
  | zero =>
    intro n p m h h8 hp hd hn
    have h6 := h.2.1
    have ha : atB spB t p = false := by unfold atB; rw [List.getElem?_eq_none (by omega)]
    have hk := sv_is (s := p) h
    obtain ⟨n, rfl⟩ : ∃ k, n = k + 1 := ⟨n - 1, by omega⟩
    rw [f_X11_next_8, f_X11_next_8b, run_stop ha, up_id h8]
    simp (disch := omega) only [n_69, n_50, n_13, Option.bind_some, bd2_some, bdX_ok, bdX_er, nm_eq, n_0, n_1, n_2, n_3, n_4, n_5, n_6, n_7, n_8, n_9, n_10, n_11, n_12, n_14, n_15, n_16, n_17, n_18, n_19, n_20, n_21, n_24, n_27, n_28, n_32, n_43, n_45, n_48, n_56, n_57, n_59, n_64, n_70, n_97, n_99, n_100, n_104, n_118, n_122, n_126, n_127, n_128, n_129, n_130, n_150, n_255, n_600, n_1000, n_1050, n_1200, n_999999, n_1000000, iI_neg, iI_add, iI_sub, iI_mul, ile, ilt, ieq, Z_has, Z_8, h8, seeR h (show p ≤ 2000 by omega)]
    rw [if_neg (fun q => by rw [hk.2.2.1.mp q] at ha; cases ha)]
  | succ d ih =>
    intro n p m h h8 hp hd hn
    have h6 := h.2.1
    have hk := sv_is (s := p) h
    obtain ⟨n, rfl⟩ : ∃ k, n = k + 1 := ⟨n - 1, by omega⟩
    rw [f_X11_next_8, f_X11_next_8b]
    simp (disch := omega) only [n_69, n_50, n_13, Option.bind_some, bd2_some, bdX_ok, bdX_er, nm_eq, n_0, n_1, n_2, n_3, n_4, n_5, n_6, n_7, n_8, n_9, n_10, n_11, n_12, n_14, n_15, n_16, n_17, n_18, n_19, n_20, n_21, n_24, n_27, n_28, n_32, n_43, n_45, n_48, n_56, n_57, n_59, n_64, n_70, n_97, n_99, n_100, n_104, n_118, n_122, n_126, n_127, n_128, n_129, n_130, n_150, n_255, n_600, n_1000, n_1050, n_1200, n_999999, n_1000000, iI_neg, iI_add, iI_sub, iI_mul, ile, ilt, ieq, Z_has, Z_8, Y_8, h8, seeR h (show p ≤ 2000 by omega)]
    cases ha : atB spB t p with
    | false =>
      rw [if_neg (fun q => by rw [hk.2.2.1.mp q] at ha; cases ha), run_stop ha, up_id h8]
    | true =>
      obtain ⟨c, -, -, hl⟩ := at_some ha
      rw [if_pos (hk.2.2.1.mpr ha), run_go ha]
      have := ih n (p + 1) (up m 283 8 ((p + 1 : Nat) : Int)) (h.f (fS_f (by decide))) up_at (by omega) (by omega) (by omega)
      rw [up_up, show ((p + 1 : Nat) : Int) = (p : Int) + 1 by omega] at this
      exact this
theorem nx_lt {k102 : Nat → List Ob → Option (Unit × List Ob)} : ∀ (d n p : Nat) (m : Mm), RT0 m t → m 283 9 = p → p ≤ t.length → t.length - p ≤ d → d < n → f_X11_next_75 fu k102 n 283 (mem w m) = k102 283 (mem w (up m 283 9 (run ltB t p : Nat))) := by
  intro d
  induction d with
  | zero =>
    intro n p m h h9 hp hd hn
    have h6 := h.2.1
    have ha : atB ltB t p = false := by unfold atB; rw [List.getElem?_eq_none (by omega)]
    obtain ⟨n, rfl⟩ : ∃ k, n = k + 1 := ⟨n - 1, by omega⟩
    rw [f_X11_next_75, f_X11_next_75b, run_stop ha, up_id h9]
    simp (disch := omega) only [n_69, n_50, n_13, Option.bind_some, bd2_some, bdX_ok, bdX_er, nm_eq, n_0, n_1, n_2, n_3, n_4, n_5, n_6, n_7, n_8, n_9, n_10, n_11, n_12, n_14, n_15, n_16, n_17, n_18, n_19, n_20, n_21, n_24, n_27, n_28, n_32, n_43, n_45, n_48, n_56, n_57, n_59, n_64, n_70, n_97, n_99, n_100, n_104, n_118, n_122, n_126, n_127, n_128, n_129, n_130, n_150, n_255, n_600, n_1000, n_1050, n_1200, n_999999, n_1000000, iI_neg, iI_add, iI_sub, iI_mul, ile, ilt, ieq, Z_has, Z_9, h9, seeR h (show p ≤ 2000 by omega), isLetterR h]
    rw [ha, show b2 false = 0 from rfl, if_pos (show iI 0 = iI 0 from rfl)]
  | succ d ih =>
    intro n p m h h9 hp hd hn
    have h6 := h.2.1
    obtain ⟨n, rfl⟩ : ∃ k, n = k + 1 := ⟨n - 1, by omega⟩
    rw [f_X11_next_75, f_X11_next_75b]
    simp (disch := omega) only [n_69, n_50, n_13, Option.bind_some, bd2_some, bdX_ok, bdX_er, nm_eq, n_0, n_1, n_2, n_3, n_4, n_5, n_6, n_7, n_8, n_9, n_10, n_11, n_12, n_14, n_15, n_16, n_17, n_18, n_19, n_20, n_21, n_24, n_27, n_28, n_32, n_43, n_45, n_48, n_56, n_57, n_59, n_64, n_70, n_97, n_99, n_100, n_104, n_118, n_122, n_126, n_127, n_128, n_129, n_130, n_150, n_255, n_600, n_1000, n_1050, n_1200, n_999999, n_1000000, iI_neg, iI_add, iI_sub, iI_mul, ile, ilt, ieq, Z_has, Z_9, Y_9, h9, seeR h (show p ≤ 2000 by omega), isLetterR h]
    cases ha : atB ltB t p with
    | false =>
      rw [show b2 false = 0 from rfl, if_pos (show iI 0 = iI 0 from rfl), run_stop ha, up_id h9]
    | true =>
      obtain ⟨c, -, -, hl⟩ := at_some ha
      rw [show b2 true = 1 from rfl, if_neg (show ¬ iI 1 = iI 0 by decide), run_go ha]
      have := ih n (p + 1) (up m 283 9 ((p + 1 : Nat) : Int)) (h.f (fS_f (by decide))) up_at (by omega) (by omega) (by omega)
      rw [up_up, show ((p + 1 : Nat) : Int) = (p : Int) + 1 by omega] at this
      exact this
theorem nx_dg {k189 : Nat → List Ob → Option (Unit × List Ob)} : ∀ (d n p : Nat) (m : Mm) (a : Int), RT0 m t → m 283 9 = p → m 283 11 = a → 0 ≤ a → a ≤ 9999 → p ≤ t.length → t.length - p ≤ d → d < n → ∃ m', f_X11_next_129 fu k189 n 283 (mem w m) = k189 283 (mem w m') ∧ (∀ q, q ≠ 283 → m' q = m q) ∧ (∀ k, k ≠ 9 → k ≠ 11 → m' 283 k = m 283 k) ∧ m' 283 9 = (run dgB t p : Nat) ∧ m' 283 11 = nR (tw dgB t p) a := by
  intro d
  induction d with
  | zero =>
    intro n p m a h h9 h11 a0 a1 hp hd hn
    have h6 := h.2.1
    have ha : atB dgB t p = false := by unfold atB; rw [List.getElem?_eq_none (by omega)]
    obtain ⟨n, rfl⟩ : ∃ k, n = k + 1 := ⟨n - 1, by omega⟩
    rw [f_X11_next_129, f_X11_next_129b, run_stop ha, tw_stop ha]
    simp (disch := omega) only [n_69, n_50, n_13, Option.bind_some, bd2_some, bdX_ok, bdX_er, nm_eq, n_0, n_1, n_2, n_3, n_4, n_5, n_6, n_7, n_8, n_9, n_10, n_11, n_12, n_14, n_15, n_16, n_17, n_18, n_19, n_20, n_21, n_24, n_27, n_28, n_32, n_43, n_45, n_48, n_56, n_57, n_59, n_64, n_70, n_97, n_99, n_100, n_104, n_118, n_122, n_126, n_127, n_128, n_129, n_130, n_150, n_255, n_600, n_1000, n_1050, n_1200, n_999999, n_1000000, iI_neg, iI_add, iI_sub, iI_mul, ile, ilt, ieq, Z_has, Z_9, h9, seeR h (show p ≤ 2000 by omega), isDigitR h]
    rw [ha, show b2 false = 0 from rfl, if_pos (show iI 0 = iI 0 from rfl)]
    exact ⟨m, rfl, fun _ _ => rfl, fun _ _ _ => rfl, h9, h11⟩
  | succ d ih =>
    intro n p m a h h9 h11 a0 a1 hp hd hn
    have h6 := h.2.1
    have hk := sv_is (s := p) h
    obtain ⟨n, rfl⟩ : ∃ k, n = k + 1 := ⟨n - 1, by omega⟩
    rw [f_X11_next_129, f_X11_next_129b]
    unfold f_X11_next_176
    simp (disch := omega) only [n_69, n_50, n_13, Option.bind_some, bd2_some, bdX_ok, bdX_er, nm_eq, n_0, n_1, n_2, n_3, n_4, n_5, n_6, n_7, n_8, n_9, n_10, n_11, n_12, n_14, n_15, n_16, n_17, n_18, n_19, n_20, n_21, n_24, n_27, n_28, n_32, n_43, n_45, n_48, n_56, n_57, n_59, n_64, n_70, n_97, n_99, n_100, n_104, n_118, n_122, n_126, n_127, n_128, n_129, n_130, n_150, n_255, n_600, n_1000, n_1050, n_1200, n_999999, n_1000000, iI_neg, iI_add, iI_sub, iI_mul, ile, ilt, ieq, Z_has, Z_9, Y_9, Z_11, Y_11, h9, h11, seeR h (show p ≤ 2000 by omega), isDigitR h, up_off]
    cases ha : atB dgB t p with
    | false =>
      rw [show b2 false = 0 from rfl, if_pos (show iI 0 = iI 0 from rfl), run_stop ha, tw_stop ha]
      exact ⟨m, rfl, fun _ _ => rfl, fun _ _ _ => rfl, h9, h11⟩
    | true =>
      obtain ⟨c, hc1, hc2, hl⟩ := at_some ha
      have hsv : sv t p = c := by unfold sv; rw [hc1]
      have hcb : 48 ≤ c ∧ c ≤ 57 := by unfold dgB at hc2; simpa using hc2
      rw [show b2 true = 1 from rfl, if_neg (show ¬ iI 1 = iI 0 by decide), run_go ha, tw_go hc1 hc2, nR, hsv]
      by_cases q : 1000 ≤ a
      · rw [if_pos q, if_neg (show ¬ a < 1000 by omega)]
        obtain ⟨m', q1, q2, q3, q4, q5⟩ := ih n (p + 1) (up m 283 9 ((p : Int) + 1)) a (h.f (fS_f (by decide))) (by rw [up_at]; omega) (by rw [up_off (by decide)]; exact h11) a0 a1 (by omega) (by omega) (by omega)
        exact ⟨m', q1, fun q hq => by rw [q2 q hq, up_ne hq], fun k a b => by rw [q3 k a b, up_off a], q4, q5⟩
      · rw [if_neg q, if_pos (show a < 1000 by omega)]
        obtain ⟨m', q1, q2, q3, q4, q5⟩ := ih n (p + 1) (up (up m 283 11 (10 * a + c - 48)) 283 9 ((p : Int) + 1)) (10 * a + c - 48) (h.f ((fS_f (by decide)).trans (fS_f (by decide)))) (by rw [up_at]; omega) (by rw [up_off (by decide), up_at]) (by omega) (by omega) (by omega) (by omega) (by omega)
        exact ⟨m', q1, fun q hq => by rw [q2 q hq, up_ne hq, up_ne hq], fun k a b => by rw [q3 k a b, up_off a, up_off b], q4, q5⟩
/-- at a token -/
def TK (m : Mm) (t : List Int) (s : Nat) : Prop := RT0 m t ∧ m 283 8 = s ∧ m 283 9 = (bh t s : Nat) ∧ m 283 10 = kd t s ∧ (kd t s = 1 → m 283 11 = nvR t s) ∧ s ≤ t.length
def oS (m m' : Mm) : Prop := (∀ q, q ≠ 283 → m' q = m q) ∧ ∀ k, (k < 9 ∨ 11 < k) → m' 283 k = m 283 k
theorem TK_of (h : RT0 m t) (h8 : m 283 8 = (s : Nat)) (hs : s ≤ t.length) (f : oS m m') (f3 : m' 283 9 = (bh t s : Nat)) (f4 : m' 283 10 = kd t s) (f5 : kd t s = 1 → m' 283 11 = nvR t s) : TK m' t s := ⟨h.fr (f.2 7 (by omega)) (f.1 287 (by decide)), by rw [f.2 8 (by omega)]; exact h8, f3, f4, f5, hs⟩
theorem nx_b (hfu : 1000 ≤ fu) (h : RT0 m t) (h8 : m 283 8 = (s : Nat)) (h9 : m 283 9 = (s : Nat)) (hs : s ≤ t.length) (hl : s < t.length) : (atB ltB t s = true → ∃ m', f_X11_next_75 fu (fun x39 M40 => f_X11_next_102 fu x39 M40) fu 283 (mem w m) = some ((), mem w m') ∧ TK m' t s ∧ oS m m') ∧ (¬ atB ltB t s = true → atB dgB t s = true → ∃ m', f_X11_next_129 fu (fun x37 M38 => f_X11_next_189 fu x37 M38) fu 283 (mem w (up m 283 11 0)) = some ((), mem w m') ∧ TK m' t s ∧ oS m m') ∧ (¬ atB ltB t s = true → ¬ atB dgB t s = true → TK (up (up m 283 9 ((s : Int) + 1)) 283 10 2) t s) := by
  have h6 := h.2.1
  have ek : kd t s = if t.length ≤ s then 3 else if atB ltB t s = true then 0 else if atB dgB t s = true then 1 else 2 := rfl
  have eb9 : bh t s = if t.length ≤ s then s else if atB ltB t s = true then run ltB t s else if atB dgB t s = true then run dgB t s else s + 1 := rfl
  have c1 : ¬ t.length ≤ s := by omega
  refine ⟨fun hL => ?_, fun hL hD => ?_, fun hL hD => ?_⟩
  · rw [if_neg c1, if_pos hL] at ek eb9
    rw [nx_lt (w := w) (fu := fu) (k102 := fun x39 M40 => f_X11_next_102 fu x39 M40) 600 fu s m h h9 hs (by omega) (by omega)]
    unfold f_X11_next_102
    rw [n_0, Y_10, Option.bind_some]
    have f : oS m (up (up m 283 9 ((run ltB t s : Nat) : Int)) 283 10 0) := ⟨fun q hq => by rw [up_ne hq, up_ne hq], fun k hk => by rw [up_off (by omega), up_off (by omega)]⟩
    exact ⟨_, rfl, TK_of h h8 hs f (by rw [up_off (by decide), up_at, eb9]) (by rw [up_at, ek]) (fun q => by rw [ek] at q; omega), f⟩
  · rw [if_neg c1, if_neg hL, if_pos hD] at ek eb9
    obtain ⟨m3, q1, q2, q3, q4, q5⟩ := nx_dg (w := w) (fu := fu) (k189 := fun x37 M38 => f_X11_next_189 fu x37 M38) 600 fu s (up m 283 11 0) 0 (h.f (fS_f (by decide))) (by rw [up_off (by decide)]; exact h9) up_at (by omega) (by omega) hs (by omega) (by omega)
    rw [q1]
    unfold f_X11_next_189
    rw [n_1, Y_10, Option.bind_some]
    have f : oS m (up m3 283 10 1) := ⟨fun q hq => by rw [up_ne hq, q2 q hq, up_ne hq], fun k hk => by rw [up_off (by omega), q3 k (by omega) (by omega), up_off (by omega)]⟩
    exact ⟨_, rfl, TK_of h h8 hs f (by rw [up_off (by decide), q4, eb9]) (by rw [up_at, ek]) (fun _ => by rw [up_off (by decide)]; exact q5), f⟩
  · rw [if_neg c1, if_neg hL, if_neg hD] at ek eb9
    have f : oS m (up (up m 283 9 ((s : Int) + 1)) 283 10 2) := ⟨fun q hq => by rw [up_ne hq, up_ne hq], fun k hk => by rw [up_off (by omega), up_off (by omega)]⟩
    exact TK_of h h8 hs f (by rw [up_off (by decide), up_at, eb9]; omega) (by rw [up_at, ek]) (fun q => by rw [ek] at q; omega)
theorem nx_34 (hfu : 1000 ≤ fu) (h : RT0 m t) (h8 : m 283 8 = (s : Nat)) (hs : s ≤ t.length) : ∃ m', f_X11_next_34 fu 283 (mem w m) = some ((), mem w m') ∧ TK m' t s ∧ oS m m' := by
  have h6 := h.2.1
  obtain ⟨m2, hm2⟩ : ∃ m2, m2 = up m 283 9 (s : Int) := ⟨_, rfl⟩
  have f2 : oS m m2 := by
    rw [hm2]
    exact ⟨fun q hq => up_ne hq, fun k hk => up_off (by omega)⟩
  have hR : RT0 m2 t := h.fr (f2.2 7 (by omega)) (f2.1 287 (by decide))
  have e8 : m2 283 8 = s := by rw [f2.2 8 (by omega)]; exact h8
  have e9 : m2 283 9 = s := by rw [hm2, up_at]
  have tr : ∀ m3, oS m2 m3 → oS m m3 := fun m3 g => ⟨fun q hq => by rw [g.1 q hq, f2.1 q hq], fun k hk => by rw [g.2 k hk, f2.2 k hk]⟩
  unfold f_X11_next_34
  rw [Z_8, Option.bind_some, h8, Y_9, Option.bind_some, ← hm2, Z_8, Option.bind_some, e8, Z_7, Option.bind_some, hR.1, ilt (by omega) (by omega) (by omega) (by omega)]
  by_cases c1 : t.length ≤ s
  · rw [if_neg (show ¬ (s : Int) < (t.length : Int) by omega), n_3, Y_10, Option.bind_some]
    have f : oS m2 (up m2 283 10 3) := ⟨fun q hq => up_ne hq, fun k hk => up_off (by omega)⟩
    have ek : kd t s = 3 := if_pos c1
    have eb9 : bh t s = s := if_pos c1
    exact ⟨_, rfl, TK_of hR e8 hs f (by rw [up_off (by decide), e9, eb9]) (by rw [up_at, ek]) (fun q => by rw [ek] at q; omega), tr _ f⟩
  · obtain ⟨b1, b2', b3⟩ := nx_b (w := w) (fu := fu) hfu hR e8 e9 hs (by omega)
    rw [if_pos (show (s : Int) < (t.length : Int) by omega), Option.bind_some, Z_has, Option.bind_some, seeR hR (show s ≤ 2000 by omega), bd2_some, isLetterR hR, bd2_some]
    cases hL : atB ltB t s with
    | true =>
      rw [show b2 true = 1 from rfl, if_neg (show ¬ (iI 1 = 0) by decide)]
      obtain ⟨m', q1, q2, q3⟩ := b1 hL
      exact ⟨m', q1, q2, tr _ q3⟩
    | false =>
      have hL' : ¬ atB ltB t s = true := by rw [hL]; decide
      rw [show b2 false = 0 from rfl, if_pos (show iI 0 = 0 from rfl), Z_8, Option.bind_some, e8, Z_has, Option.bind_some, seeR hR (show s ≤ 2000 by omega), bd2_some, isDigitR hR, bd2_some]
      cases hD : atB dgB t s with
      | true =>
        rw [show b2 true = 1 from rfl, if_neg (show ¬ (iI 1 = 0) by decide), n_0, Y_11, Option.bind_some]
        obtain ⟨m', q1, q2, q3⟩ := b2' hL' hD
        exact ⟨m', q1, q2, tr _ q3⟩
      | false =>
        have hD' : ¬ atB dgB t s = true := by rw [hD]; decide
        rw [show b2 false = 0 from rfl, if_pos (show iI 0 = 0 from rfl), Z_9, Option.bind_some, e9, n_1, iI_add, Y_9, Option.bind_some, n_2, Y_10, Option.bind_some]
        exact ⟨_, rfl, b3 hL' hD', tr _ ⟨fun q hq => by rw [up_ne hq, up_ne hq], fun k hk => by rw [up_off (by omega), up_off (by omega)]⟩⟩
theorem next_eq (hfu : 1000 ≤ fu) (h : RT0 m t) (h9 : m 283 9 = p) (hp : p ≤ t.length) : ∃ m', f_X11_next fu 283 (mem w m) = some ((), mem w m') ∧ TK m' t (run spB t p) ∧ (∀ q, q ≠ 283 → m' q = m q) ∧ ∀ k, (k < 8 ∨ 11 < k) → m' 283 k = m 283 k := by
  have h6 := h.2.1
  have hs := run_le (P := spB) hp
  have hf8 : fS m (up m 283 8 (p : Int)) := fS_f (by decide)
  have h1 := nx_sp (w := w) (fu := fu) (k34 := fun x5 M6 => f_X11_next_34 fu x5 M6) 600 fu p (up m 283 8 (p : Int)) (h.f hf8) up_at hp (by omega) (by omega)
  rw [up_up] at h1
  obtain ⟨m', q1, q2, q3⟩ := nx_34 (w := w) (fu := fu) (m := up m 283 8 ((run spB t p : Nat) : Int)) hfu (h.f (fS_f (by decide))) up_at hs
  unfold f_X11_next
  rw [Z_9, Option.bind_some, h9, Y_8, Option.bind_some, h1, q1]
  exact ⟨m', rfl, q2, fun q hq => by rw [q3.1 q hq, up_ne hq], fun k hk => by rw [q3.2 k (by omega), up_off (by omega)]⟩
/-! no error yet, at the token that comes behind a place; an error -/
def TP (m : Mm) (t : List Int) (p : Nat) : Prop := m 283 12 = 0 ∧ TK m t (run spB t p)
def Wr (m : Mm) (c : Int) (s : Nat) : Prop := m 283 12 = c ∧ -4 ≤ c ∧ c < 0 ∧ m 283 13 = (s : Nat)
theorem fails_no {c' c : Int} (h : Wr m c s) : f_X11_fails fu 283 (iI c') (mem w m) = some ((), mem w m) := by
  obtain ⟨h1, h2, h3, h4⟩ := h
  unfold f_X11_fails
  simp (disch := omega) only [n_69, n_50, n_13, Option.bind_some, bd2_some, bdX_ok, bdX_er, nm_eq, n_0, n_1, n_2, n_3, n_4, n_5, n_6, n_7, n_8, n_9, n_10, n_11, n_12, n_14, n_15, n_16, n_17, n_18, n_19, n_20, n_21, n_24, n_27, n_28, n_32, n_43, n_45, n_48, n_56, n_57, n_59, n_64, n_70, n_97, n_99, n_100, n_104, n_118, n_122, n_126, n_127, n_128, n_129, n_130, n_150, n_255, n_600, n_1000, n_1050, n_1200, n_999999, n_1000000, iI_neg, iI_add, iI_sub, iI_mul, ile, ilt, ieq, Z_12, h1]
  rw [if_neg (by omega)]
theorem fails_yes {c : Int} (h0 : m 283 12 = 0) (h8 : m 283 8 = (s : Nat)) (hc : -4 ≤ c ∧ c < 0) : ∃ m', f_X11_fails fu 283 (iI c) (mem w m) = some ((), mem w m') ∧ Wr m' c s ∧ fS m m' := by
  unfold f_X11_fails
  simp (disch := omega) only [n_69, n_50, n_13, Option.bind_some, bd2_some, bdX_ok, bdX_er, nm_eq, n_0, n_1, n_2, n_3, n_4, n_5, n_6, n_7, n_8, n_9, n_10, n_11, n_12, n_14, n_15, n_16, n_17, n_18, n_19, n_20, n_21, n_24, n_27, n_28, n_32, n_43, n_45, n_48, n_56, n_57, n_59, n_64, n_70, n_97, n_99, n_100, n_104, n_118, n_122, n_126, n_127, n_128, n_129, n_130, n_150, n_255, n_600, n_1000, n_1050, n_1200, n_999999, n_1000000, iI_neg, iI_add, iI_sub, iI_mul, ile, ilt, ieq, Z_12, Y_12, Z_8, Y_13, h0, h8, up_off]
  rw [if_pos (by first | exact trivial | omega | decide)]
  exact ⟨_, rfl, ⟨by rw [up_off (by decide), up_at], hc.1, hc.2, up_at⟩, (fS_f (by decide)).trans (fS_f (by decide))⟩
theorem bh_le (h : s ≤ t.length) : bh t s ≤ t.length := by
  unfold bh
  split
  · exact h
  · split
    · exact run_le h
    · split
      · exact run_le h
      · omega
theorem TP_next (hfu : 1000 ≤ fu) (h0 : m 283 12 = 0) (h : TK m t s) : ∃ m', f_X11_next fu 283 (mem w m) = some ((), mem w m') ∧ TP m' t (bh t s) ∧ fS m m' := by
  obtain ⟨m', q1, q2, q3, q4⟩ := next_eq (w := w) (fu := fu) hfu h.1 h.2.2.1 (bh_le h.2.2.2.2.2)
  exact ⟨m', q1, ⟨by rw [q4 12 (by omega)]; exact h0, q2⟩, q3, fun k hk => q4 k (by omega)⟩
theorem must_no {c b : Int} (h : Wr m c s) (hb : b = 0 ∨ b = 1) : f_X11_must fu 283 (iI b) (mem w m) = some ((), mem w m) := by
  obtain ⟨h1, h2, h3, h4⟩ := id h
  unfold f_X11_must f_X11_must_10
  simp (disch := omega) only [n_69, n_50, n_13, Option.bind_some, bd2_some, bdX_ok, bdX_er, nm_eq, n_0, n_1, n_2, n_3, n_4, n_5, n_6, n_7, n_8, n_9, n_10, n_11, n_12, n_14, n_15, n_16, n_17, n_18, n_19, n_20, n_21, n_24, n_27, n_28, n_32, n_43, n_45, n_48, n_56, n_57, n_59, n_64, n_70, n_97, n_99, n_100, n_104, n_118, n_122, n_126, n_127, n_128, n_129, n_130, n_150, n_255, n_600, n_1000, n_1050, n_1200, n_999999, n_1000000, iI_neg, iI_add, iI_sub, iI_mul, ile, ilt, ieq, Z_has, Z_12, h1, fails_no h]
  rw [if_neg (show ¬ c = 0 by omega)]
  split <;> rfl
theorem must_yes (hfu : 1000 ≤ fu) (h : TP m t p) : ∃ m', f_X11_must fu 283 (iI 1) (mem w m) = some ((), mem w m') ∧ TP m' t (bh t (run spB t p)) ∧ fS m m' := by
  obtain ⟨m', q1, q2, q3⟩ := TP_next (w := w) (fu := fu) hfu h.1 h.2
  unfold f_X11_must f_X11_must_10
  simp (disch := omega) only [n_69, n_50, n_13, Option.bind_some, bd2_some, bdX_ok, bdX_er, nm_eq, n_0, n_1, n_2, n_3, n_4, n_5, n_6, n_7, n_8, n_9, n_10, n_11, n_12, n_14, n_15, n_16, n_17, n_18, n_19, n_20, n_21, n_24, n_27, n_28, n_32, n_43, n_45, n_48, n_56, n_57, n_59, n_64, n_70, n_97, n_99, n_100, n_104, n_118, n_122, n_126, n_127, n_128, n_129, n_130, n_150, n_255, n_600, n_1000, n_1050, n_1200, n_999999, n_1000000, iI_neg, iI_add, iI_sub, iI_mul, ile, ilt, ieq, Z_has, Z_12, h.1, q1]
  rw [if_neg (by first | exact not_false | omega | decide), if_pos (by first | exact trivial | omega | decide)]
  exact ⟨m', rfl, q2, q3⟩
theorem must_fail (h : TP m t p) : ∃ m', f_X11_must fu 283 (iI 0) (mem w m) = some ((), mem w m') ∧ Wr m' (-2) (run spB t p) ∧ fS m m' := by
  obtain ⟨m', q1, q2, q3⟩ := fails_yes (w := w) (fu := fu) (c := -2) h.1 h.2.2.1 (by omega)
  unfold f_X11_must f_X11_must_10
  simp (disch := omega) only [n_69, n_50, n_13, Option.bind_some, bd2_some, bdX_ok, bdX_er, nm_eq, n_0, n_1, n_2, n_3, n_4, n_5, n_6, n_7, n_8, n_9, n_10, n_11, n_12, n_14, n_15, n_16, n_17, n_18, n_19, n_20, n_21, n_24, n_27, n_28, n_32, n_43, n_45, n_48, n_56, n_57, n_59, n_64, n_70, n_97, n_99, n_100, n_104, n_118, n_122, n_126, n_127, n_128, n_129, n_130, n_150, n_255, n_600, n_1000, n_1050, n_1200, n_999999, n_1000000, iI_neg, iI_add, iI_sub, iI_mul, ile, ilt, ieq, Z_has, Z_12, q1, q2.1]
  rw [if_pos (by first | exact trivial | omega | decide), if_neg (by first | exact not_false | omega | decide)]
  exact ⟨m', rfl, q2, q3⟩
theorem takes_no {c lo hi un : Int} (h : Wr m c s) : f_X11_takes fu 283 (iI lo) (iI hi) (iI un) (mem w m) = some (iI 0, mem w m) := by
  obtain ⟨h1, h2, h3, h4⟩ := h
  have hne : ¬ (iI c = 0) := by
    rw [n_0, iI_eq (by omega) (by omega) (by omega) (by omega)]
    omega
  unfold f_X11_takes
  rw [Z_12, Option.bind_some, h1, if_neg hne]
  unfold f_X11_takes_24
  rw [Z_12, Option.bind_some, h1, if_neg hne]
  unfold f_X11_takes_57
  rw [Z_12, Option.bind_some, h1, if_neg hne]
  unfold f_X11_takes_72
  rw [Z_12, Option.bind_some, h1, if_neg hne]
  first | done | rfl
theorem takes_eq {lo hi un : Int} (hfu : 1000 ≤ fu) (h : TP m t p) (hlo : 0 ≤ lo ∧ lo ≤ 99) (hhi : -1 ≤ hi ∧ hi ≤ 99) (hun : -1 ≤ un ∧ un ≤ 99) : (∀ v q, rnum t p lo hi un = .ok (v, q) → ∃ m', f_X11_takes fu 283 (iI lo) (iI hi) (iI un) (mem w m) = some (iI v, mem w m') ∧ TP m' t q ∧ fS m m') ∧ (∀ c s, rnum t p lo hi un = .error (c, s) → ∃ m', f_X11_takes fu 283 (iI lo) (iI hi) (iI un) (mem w m) = some (iI 0, mem w m') ∧ Wr m' c s ∧ fS m m') := by
  obtain ⟨h0, hT⟩ := h
  obtain ⟨t1, t2, t3, t4, t5, t6⟩ := hT
  have h6 := t1.2.1
  have hrel := nv_rel (t := t) (p := run spB t p)
  have hkd : (kd t (run spB t p) = 1 ↔ atB dgB t (run spB t p) = true) ∧ 0 ≤ kd t (run spB t p) ∧ kd t (run spB t p) ≤ 3 := by
    unfold kd
    by_cases c1 : t.length ≤ run spB t p
    · rw [if_pos c1]
      refine ⟨⟨fun q => by omega, fun q => ?_⟩, by omega, by omega⟩
      obtain ⟨c, -, -, hl⟩ := at_some q
      omega
    · rw [if_neg c1]
      by_cases c2 : atB ltB t (run spB t p) = true
      · rw [if_pos c2]
        refine ⟨⟨fun q => by omega, fun q => ?_⟩, by omega, by omega⟩
        obtain ⟨c, e1, e2, hl⟩ := at_some q
        obtain ⟨c', e3, e4, -⟩ := at_some c2
        rw [e1] at e3
        cases e3
        unfold dgB at e2
        unfold ltB at e4
        simp at e2 e4
        omega
      · rw [if_neg c2]
        by_cases c3 : atB dgB t (run spB t p) = true
        · rw [if_pos c3]; exact ⟨⟨fun _ => c3, fun _ => rfl⟩, by omega, by omega⟩
        · rw [if_neg c3]; exact ⟨⟨fun q => by omega, fun q => absurd q c3⟩, by omega, by omega⟩
  -- an error behind takes
  have err : ∀ c : Int, -4 ≤ c ∧ c < 0 → ∃ m', (bd2 (f_X11_fails fu 283 (iI c) (mem w m)) fun _ M => f_X11_takes_57 fu 283 M) = some (iI 0, mem w m') ∧ Wr m' c (run spB t p) ∧ fS m m' := fun c hc => by
    obtain ⟨m', q1, q2, q3⟩ := fails_yes (w := w) (fu := fu) h0 t2 hc
    unfold f_X11_takes_57 f_X11_takes_72
    simp (disch := omega) only [n_69, n_50, n_13, Option.bind_some, bd2_some, bdX_ok, bdX_er, nm_eq, n_0, n_1, n_2, n_3, n_4, n_5, n_6, n_7, n_8, n_9, n_10, n_11, n_12, n_14, n_15, n_16, n_17, n_18, n_19, n_20, n_21, n_24, n_27, n_28, n_32, n_43, n_45, n_48, n_56, n_57, n_59, n_64, n_70, n_97, n_99, n_100, n_104, n_118, n_122, n_126, n_127, n_128, n_129, n_130, n_150, n_255, n_600, n_1000, n_1050, n_1200, n_999999, n_1000000, iI_neg, iI_add, iI_sub, iI_mul, ile, ilt, ieq, q1, Z_12, q2.1]
    rw [if_neg (by omega), if_neg (by omega)]
    exact ⟨m', rfl, q2, q3⟩
  unfold f_X11_takes rnum
  simp (disch := omega) only [n_69, n_50, n_13, Option.bind_some, bd2_some, bdX_ok, bdX_er, nm_eq, n_0, n_1, n_2, n_3, n_4, n_5, n_6, n_7, n_8, n_9, n_10, n_11, n_12, n_14, n_15, n_16, n_17, n_18, n_19, n_20, n_21, n_24, n_27, n_28, n_32, n_43, n_45, n_48, n_56, n_57, n_59, n_64, n_70, n_97, n_99, n_100, n_104, n_118, n_122, n_126, n_127, n_128, n_129, n_130, n_150, n_255, n_600, n_1000, n_1050, n_1200, n_999999, n_1000000, iI_neg, iI_add, iI_sub, iI_mul, ile, ilt, ieq, Z_has, Z_12, Z_10, h0, t4]
  rw [if_pos (show True from trivial)]
  by_cases c1 : atB dgB t (run spB t p) = true
  · have hk1 := hkd.1.mpr c1
    rw [if_pos hk1, if_pos c1]
    have e11 := t5 hk1
    have ebh : bh t (run spB t p) = run dgB t (run spB t p) := by
      have hk2 := hk1
      unfold kd at hk2
      unfold bh
      split at hk2
      · omega
      · rename_i q1
        rw [if_neg q1]
        split at hk2
        · omega
        · rename_i q2
          rw [if_neg q2, if_pos c1]
    have hnv : 0 ≤ nvR t (run spB t p) ∧ nvR t (run spB t p) ≤ 9999 := by omega
    unfold f_X11_takes_24 f_X11_takes_51
    simp (disch := omega) only [n_69, n_50, n_13, Option.bind_some, bd2_some, bdX_ok, bdX_er, nm_eq, n_0, n_1, n_2, n_3, n_4, n_5, n_6, n_7, n_8, n_9, n_10, n_11, n_12, n_14, n_15, n_16, n_17, n_18, n_19, n_20, n_21, n_24, n_27, n_28, n_32, n_43, n_45, n_48, n_56, n_57, n_59, n_64, n_70, n_97, n_99, n_100, n_104, n_118, n_122, n_126, n_127, n_128, n_129, n_130, n_150, n_255, n_600, n_1000, n_1050, n_1200, n_999999, n_1000000, iI_neg, iI_add, iI_sub, iI_mul, ile, ilt, ieq, Z_has, Z_12, Z_11, h0, e11, isInR_eq (w := w) (m := m) (fu := fu) (v := nvR t (run spB t p)) (lo := lo) (hi := hi) (by unfold i32; omega) (by unfold i32; omega) (by unfold i32; omega)]
    rw [if_pos (show True from trivial)]
    by_cases c2 : nvR t (run spB t p) < lo ∨ hi < nvR t (run spB t p) ∨ nvR t (run spB t p) = un
    · obtain ⟨m', q1, q2, q3⟩ := err (-3) (by omega)
      rw [if_pos c2]
      refine ⟨fun v q e => (by cases e), fun c s e => ?_⟩
      have e : ((-3 : Int), run spB t p) = (c, s) := by injection e
      injection e with a b
      subst a; subst b
      refine ⟨m', ?_, q2, q3⟩
      by_cases c3 : lo ≤ nvR t (run spB t p) ∧ nvR t (run spB t p) ≤ hi
      · rw [show inB (nvR t (run spB t p)) lo hi = 1 from if_pos c3, if_neg (show ¬ iI 1 = iI 0 by decide), if_pos (show nvR t (run spB t p) = un by omega)]
        exact q1
      · rw [show inB (nvR t (run spB t p)) lo hi = 0 from if_neg c3, if_pos (show iI 0 = iI 0 from rfl)]
        exact q1
    · rw [if_neg c2]
      rw [show inB (nvR t (run spB t p)) lo hi = 1 from if_pos (by omega), if_neg (show ¬ iI 1 = iI 0 by decide), if_neg (show ¬ nvR t (run spB t p) = un by omega)]
      obtain ⟨m', q1, q2, q3⟩ := TP_next (w := w) (fu := fu) hfu h0 ⟨t1, t2, t3, t4, t5, t6⟩
      unfold f_X11_takes_57 f_X11_takes_72
      simp (disch := omega) only [n_69, n_50, n_13, Option.bind_some, bd2_some, bdX_ok, bdX_er, nm_eq, n_0, n_1, n_2, n_3, n_4, n_5, n_6, n_7, n_8, n_9, n_10, n_11, n_12, n_14, n_15, n_16, n_17, n_18, n_19, n_20, n_21, n_24, n_27, n_28, n_32, n_43, n_45, n_48, n_56, n_57, n_59, n_64, n_70, n_97, n_99, n_100, n_104, n_118, n_122, n_126, n_127, n_128, n_129, n_130, n_150, n_255, n_600, n_1000, n_1050, n_1200, n_999999, n_1000000, iI_neg, iI_add, iI_sub, iI_mul, ile, ilt, ieq, Z_has, Z_12, Z_11, h0, e11, q1]
      rw [if_pos (show True from trivial), if_pos (show True from trivial)]
      refine ⟨fun v q e => ?_, fun c s e => (by cases e)⟩
      have e : (nvR t (run spB t p), run dgB t (run spB t p)) = (v, q) := by injection e
      injection e with a b
      subst a; subst b
      rw [ebh] at q2
      exact ⟨m', rfl, q2, q3⟩
  · have hk1 : ¬ kd t (run spB t p) = 1 := fun q => c1 (hkd.1.mp q)
    rw [if_neg hk1, if_neg c1]
    obtain ⟨m', q1, q2, q3⟩ := err (-2) (by omega)
    refine ⟨fun v q e => (by cases e), fun c s e => ?_⟩
    have e : ((-2 : Int), run spB t p) = (c, s) := by injection e
    injection e with a b
    subst a; subst b
    exact ⟨m', q1, q2, q3⟩
theorem semi_no {c : Int} (h : Wr m c s) : f_X11_isSemicolon fu 283 (mem w m) = some (iI 0, mem w m) := by
  obtain ⟨h1, h2, h3, h4⟩ := h
  unfold f_X11_isSemicolon
  simp (disch := omega) only [n_69, n_50, n_13, Option.bind_some, bd2_some, bdX_ok, bdX_er, nm_eq, n_0, n_1, n_2, n_3, n_4, n_5, n_6, n_7, n_8, n_9, n_10, n_11, n_12, n_14, n_15, n_16, n_17, n_18, n_19, n_20, n_21, n_24, n_27, n_28, n_32, n_43, n_45, n_48, n_56, n_57, n_59, n_64, n_70, n_97, n_99, n_100, n_104, n_118, n_122, n_126, n_127, n_128, n_129, n_130, n_150, n_255, n_600, n_1000, n_1050, n_1200, n_999999, n_1000000, iI_neg, iI_add, iI_sub, iI_mul, ile, ilt, ieq, Z_12, h1]
  rw [if_neg (by omega)]
theorem semi_eq (h : TP m t p) : f_X11_isSemicolon fu 283 (mem w m) = some (iI (b2 (atB smB t (run spB t p))), mem w m) ∧ (atB smB t (run spB t p) = true → bh t (run spB t p) = run spB t p + 1) := by
  obtain ⟨h0, t1, t2, t3, t4, t5, t6⟩ := h
  have h6 := t1.2.1
  have hk := sv_is (s := run spB t p) t1
  generalize run spB t p = s at *
  have key : atB smB t s = true → kd t s = 2 ∧ bh t s = s + 1 := fun q => by
    obtain ⟨c, e1, e2, hl⟩ := at_some q
    have e2 : c = 59 := by unfold smB at e2; simpa using e2
    subst e2
    have n1 : ¬ atB ltB t s = true := by unfold atB; rw [e1]; decide
    have n2 : ¬ atB dgB t s = true := by unfold atB; rw [e1]; decide
    unfold kd bh
    rw [if_neg (by omega), if_neg n1, if_neg n2, if_neg (by omega), if_neg n1, if_neg n2]
    exact ⟨rfl, rfl⟩
  refine ⟨?_, fun q => (key q).2⟩
  have kr : 0 ≤ kd t s ∧ kd t s ≤ 3 := by unfold kd; split; omega; split; omega; split <;> omega
  unfold f_X11_isSemicolon
  simp (disch := omega) only [n_69, n_50, n_13, Option.bind_some, bd2_some, bdX_ok, bdX_er, nm_eq, n_0, n_1, n_2, n_3, n_4, n_5, n_6, n_7, n_8, n_9, n_10, n_11, n_12, n_14, n_15, n_16, n_17, n_18, n_19, n_20, n_21, n_24, n_27, n_28, n_32, n_43, n_45, n_48, n_56, n_57, n_59, n_64, n_70, n_97, n_99, n_100, n_104, n_118, n_122, n_126, n_127, n_128, n_129, n_130, n_150, n_255, n_600, n_1000, n_1050, n_1200, n_999999, n_1000000, iI_neg, iI_add, iI_sub, iI_mul, ile, ilt, ieq, Z_has, Z_12, Z_10, Z_8, h0, t4, t2, seeR t1 (show s ≤ 2000 by omega)]
  rw [if_pos (show True from trivial)]
  cases hm : atB smB t s with
  | true =>
    rw [if_pos (key hm).1, if_pos (hk.2.2.2.2.2.mpr hm)]
    rfl
  | false =>
    have : ¬ sv t s = 59 := fun q => by rw [hk.2.2.2.2.2.mp q] at hm; cases hm
    by_cases c : kd t s = 2
    · rw [if_pos c, if_neg this]; rfl
    · rw [if_neg c]; rfl
theorem word_no {c : Int} {k : Nat} (h : Wr m c s) : f_X11_isWord fu 283 k (mem w m) = some (iI 0, mem w m) := by
  obtain ⟨h1, h2, h3, h4⟩ := h
  unfold f_X11_isWord
  simp (disch := omega) only [n_69, n_50, n_13, Option.bind_some, bd2_some, bdX_ok, bdX_er, nm_eq, n_0, n_1, n_2, n_3, n_4, n_5, n_6, n_7, n_8, n_9, n_10, n_11, n_12, n_14, n_15, n_16, n_17, n_18, n_19, n_20, n_21, n_24, n_27, n_28, n_32, n_43, n_45, n_48, n_56, n_57, n_59, n_64, n_70, n_97, n_99, n_100, n_104, n_118, n_122, n_126, n_127, n_128, n_129, n_130, n_150, n_255, n_600, n_1000, n_1050, n_1200, n_999999, n_1000000, iI_neg, iI_add, iI_sub, iI_mul, ile, ilt, ieq, Z_12, h1]
  rw [if_neg (by omega)]
theorem wordR_go {k q : Nat} (hk : k < 4) (h : RT0 m t) (h8 : m 283 8 = (s : Nat)) (hs : s + (tw ltB t s).length ≤ t.length) (heq : (tw ltB t s).length = (wordT k).length) : ∀ (suf pre suf' pre' : List Int) (n : Nat), tw ltB t s = pre ++ suf → wordT k = pre' ++ suf' → pre.length = pre'.length → suf.length < n → f_X11_isWord_34 fu n 283 (1000000 + k) (iI (pre.length : Int)) (mem w m) = some (iI (b2 (decide (suf = suf'))), mem w m) := by
  obtain ⟨o1, o2, o3⟩ := word_ok k hk
  have h2 := h.2.1
  intro suf
  induction suf with
  | nil =>
    intro pre suf' pre' n e e' hp hn
    have hl : (tw ltB t s).length = pre.length := by rw [e]; simp
    have hl' : (wordT k).length = pre'.length + suf'.length := by rw [e']; simp
    have : suf' = [] := List.eq_nil_of_length_eq_zero (by omega)
    subst this
    obtain ⟨n, rfl⟩ : ∃ k, n = k + 1 := ⟨n - 1, by omega⟩
    rw [f_X11_isWord_34, f_X11_isWord_34b, len_eq hk]
    simp (disch := omega) only [n_69, n_50, n_13, Option.bind_some, bd2_some, bdX_ok, bdX_er, nm_eq, n_0, n_1, n_2, n_3, n_4, n_5, n_6, n_7, n_8, n_9, n_10, n_11, n_12, n_14, n_15, n_16, n_17, n_18, n_19, n_20, n_21, n_24, n_27, n_28, n_32, n_43, n_45, n_48, n_56, n_57, n_59, n_64, n_70, n_97, n_99, n_100, n_104, n_118, n_122, n_126, n_127, n_128, n_129, n_130, n_150, n_255, n_600, n_1000, n_1050, n_1200, n_999999, n_1000000, iI_neg, iI_add, iI_sub, iI_mul, ile, ilt, ieq]
    rw [if_pos (by omega)]
    rfl
  | cons c suf ih =>
    intro pre suf' pre' n e e' hp hn
    have hl : (tw ltB t s).length = pre.length + (suf.length + 1) := by rw [e]; simp
    have hl' : (wordT k).length = pre'.length + suf'.length := by rw [e']; simp
    cases suf' with
    | nil => simp at hl'; omega
    | cons c' suf' =>
    simp only [List.length_cons] at hn hl'
    obtain ⟨n, rfl⟩ : ∃ k, n = k + 1 := ⟨n - 1, by omega⟩
    have hc := tw_at (i := pre.length) (c := c) (by rw [e]; exact mid_at)
    have hc' : (wordT k).getD pre.length 0 = c' := by rw [List.getD_eq_getElem?_getD, e', hp, mid_at]; rfl
    have hr := o3 pre.length (by omega)
    rw [hc'] at hr
    have hb := (h.2.2 _ _ hc.1).2.2
    have hl1 : 97 ≤ c ∧ c ≤ 122 := by have := hc.2; unfold ltB at this; simpa using this
    rw [show ((s + pre.length : Nat) : Int) = (s : Int) + (pre.length : Int) by omega] at hb
    rw [f_X11_isWord_34, f_X11_isWord_34b, len_eq hk]
    simp (disch := omega) only [n_69, n_50, n_13, Option.bind_some, bd2_some, bdX_ok, bdX_er, nm_eq, n_0, n_1, n_2, n_3, n_4, n_5, n_6, n_7, n_8, n_9, n_10, n_11, n_12, n_14, n_15, n_16, n_17, n_18, n_19, n_20, n_21, n_24, n_27, n_28, n_32, n_43, n_45, n_48, n_56, n_57, n_59, n_64, n_70, n_97, n_99, n_100, n_104, n_118, n_122, n_126, n_127, n_128, n_129, n_130, n_150, n_255, n_600, n_1000, n_1050, n_1200, n_999999, n_1000000, iI_neg, iI_add, iI_sub, iI_mul, ile, ilt, ieq, Z_5, Z_8, h8, Bu_g, hb]
    rw [if_neg (by omega), chr_eq hk (by omega), hc', bd2_some]
    simp (disch := omega) only [n_69, n_50, n_13, Option.bind_some, bd2_some, bdX_ok, bdX_er, nm_eq, n_0, n_1, n_2, n_3, n_4, n_5, n_6, n_7, n_8, n_9, n_10, n_11, n_12, n_14, n_15, n_16, n_17, n_18, n_19, n_20, n_21, n_24, n_27, n_28, n_32, n_43, n_45, n_48, n_56, n_57, n_59, n_64, n_70, n_97, n_99, n_100, n_104, n_118, n_122, n_126, n_127, n_128, n_129, n_130, n_150, n_255, n_600, n_1000, n_1050, n_1200, n_999999, n_1000000, iI_neg, iI_add, iI_sub, iI_mul, ile, ilt, ieq]
    by_cases q : c = c'
    · rw [if_pos q]
      have := ih (pre ++ [c]) suf' (pre' ++ [c']) n (by rw [e]; simp) (by rw [e']; simp) (by simp [hp]) (by omega)
      rw [show ((pre ++ [c]).length : Int) = (pre.length : Int) + 1 by simp] at this
      rw [this]
      simp [q]
    · rw [if_neg q]; simp [q, b2]
theorem wordR_eq {k : Nat} (hfu : 1000 ≤ fu) (hk : k < 4) (h : TP m t p) : f_X11_isWord fu 283 (1000000 + k) (mem w m) = some (iI (b2 (decide (tw ltB t (run spB t p) = wordT k))), mem w m) ∧ (tw ltB t (run spB t p) = wordT k → bh t (run spB t p) = run ltB t (run spB t p)) := by
  obtain ⟨h0, t1, t2, t3, t4, t5, t6⟩ := h
  have h6 := t1.2.1
  obtain ⟨o1, o2, o3⟩ := word_ok k hk
  have hne : (wordT k).length ≠ 0 := by
    have : ∀ k, k < 4 → (wordT k).length ≠ 0 := by decide
    exact this k hk
  generalize run spB t p = s at *
  have kr : 0 ≤ kd t s ∧ kd t s ≤ 3 := by unfold kd; split; omega; split; omega; split <;> omega
  have hrl := run_le (P := ltB) t6
  have e : run ltB t s = s + (tw ltB t s).length := rfl
  -- is there a word at all?
  cases hL : atB ltB t s with
  | true =>
    obtain ⟨c, e1, e2, hl⟩ := at_some hL
    have hk0 : kd t s = 0 := by unfold kd; rw [if_neg (by omega), if_pos hL]
    have hb0 : bh t s = run ltB t s := by unfold bh; rw [if_neg (by omega), if_pos hL]
    refine ⟨?_, fun _ => hb0⟩
    unfold f_X11_isWord
    rw [Z_12, Option.bind_some, h0, if_pos (show iI 0 = 0 from rfl), Z_10, Option.bind_some, t4, hk0, if_pos (show iI 0 = 0 from rfl), Z_9, Option.bind_some, Z_8, Option.bind_some, t3, t2, len_eq hk, bd2_some, hb0, iI_sub, ieq (by omega) (by omega) (by omega) (by omega)]
    by_cases q : (tw ltB t s).length = (wordT k).length
    · rw [if_pos (by omega)]
      exact wordR_go (w := w) (q := 0) hk t1 t2 (by omega) q (tw ltB t s) [] (wordT k) [] fu rfl rfl rfl (by omega)
    · rw [if_neg (by omega)]
      have : ¬ tw ltB t s = wordT k := fun z => q (by rw [z])
      simp [this, b2]
      exact n_0
  | false =>
    have hw : ¬ tw ltB t s = wordT k := fun z => by
      rw [tw_stop hL] at z
      rw [← z] at hne
      simp at hne
    refine ⟨?_, fun q => absurd q hw⟩
    have hk0 : kd t s ≠ 0 := by unfold kd; split; omega; rw [hL, if_neg (by decide)]; split <;> omega
    unfold f_X11_isWord
    simp (disch := omega) only [n_69, n_50, n_13, Option.bind_some, bd2_some, bdX_ok, bdX_er, nm_eq, n_0, n_1, n_2, n_3, n_4, n_5, n_6, n_7, n_8, n_9, n_10, n_11, n_12, n_14, n_15, n_16, n_17, n_18, n_19, n_20, n_21, n_24, n_27, n_28, n_32, n_43, n_45, n_48, n_56, n_57, n_59, n_64, n_70, n_97, n_99, n_100, n_104, n_118, n_122, n_126, n_127, n_128, n_129, n_130, n_150, n_255, n_600, n_1000, n_1050, n_1200, n_999999, n_1000000, iI_neg, iI_add, iI_sub, iI_mul, ile, ilt, ieq, Z_12, Z_10, h0, t4]
    rw [if_pos (show True from trivial), if_neg hk0]
    simp [hw, b2]
end TK
