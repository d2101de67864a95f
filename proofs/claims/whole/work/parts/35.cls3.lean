theorem up_ne {m : Mm} {p p' : Nat} {k v : Int} (h : p' ≠ p) : up m p k v p' = m p' := by
  funext k'; unfold up; rw [if_neg (fun q => h q.1)]
theorem up_at {m : Mm} {p : Nat} {k v : Int} : up m p k v p k = v := by unfold up; rw [if_pos ⟨rfl, rfl⟩]
theorem up_off {m : Mm} {p : Nat} {k k' v : Int} (h : k' ≠ k) : up m p k v p k' = m p k' := by unfold up; rw [if_neg (fun q => h q.2)]
theorem cpm_ne {m : Mm} {r r' p : Nat} {sp dp n : Int} (h : p ≠ r') : cpm m r sp r' dp n p = m p := by
  funext k; unfold cpm; rw [if_neg (fun q => h q.1)]
theorem cpm_in {m : Mm} {r r' : Nat} {sp dp n k : Int} (h0 : dp ≤ k) (h1 : k < dp + n) : cpm m r sp r' dp n r' k = m r (sp + (k - dp)) := by unfold cpm; rw [if_pos ⟨rfl, h0, h1⟩]
theorem cpm_out {m : Mm} {r r' : Nat} {sp dp n k : Int} (h : k < dp ∨ dp + n ≤ k) : cpm m r sp r' dp n r' k = m r' k := by unfold cpm; rw [if_neg (fun q => by omega)]
theorem isNet.cong {m m' : Mm} {p : Nat} {N : Nt} (h : isNet m p N) (h0 : m' p = m p) (h1 : m' (p + 1) = m (p + 1)) (h2 : m' (p + 2) = m (p + 2)) (h3 : m' (p + 3) = m (p + 3)) (h4 : m' (p + 4) = m (p + 4)) : isNet m' p N :=
  ⟨h.1, by rw [← h.2.1]; unfold netC; rw [h0, h1, h2, h3, h4], h.2.2⟩
theorem isPth.cong {m m' : Mm} {q : Nat} {l : List Int} (h : isPth m q l) (h0 : m' q = m q) (h1 : m' (q + 1) = m (q + 1)) : isPth m' q l :=
  ⟨h.1, by rw [h0]; exact h.2.1, by rw [h1]; exact h.2.2.1, h.2.2.2⟩
/-- what a path's kind says of its place -/
theorem isP.ne {q q' : Nat} (h : isP q) (h' : isP q') : q ≠ q' + 1 := fun e => by
  have h1 := h.1
  rw [e, h'.2] at h1
  cases h1
section PO
variable {w : Wl} {m : Mm} {p q q' : Nat} {z v a : Int} {N : Nt} {l l' : List Int} {fu : Nat} {D : Int32}
theorem clear_eq (h : isP q) : f_X5_clear fu q (mem w m) = some ((), mem w (up m q 1 0)) := by
  unfold f_X5_clear
  simp (disch := omega) only [Option.bind_some, bd2_some, bdX_ok, bdX_er, nm_eq, n_0, n_1, n_2, n_3, n_4, n_5, n_6, n_7, n_8, n_9, n_10, n_11, n_12, n_14, n_15, n_16, n_17, n_18, n_19, n_20, n_21, n_24, n_27, n_28, n_32, n_43, n_45, n_48, n_56, n_57, n_59, n_64, n_70, n_97, n_99, n_100, n_104, n_118, n_122, n_126, n_127, n_128, n_129, n_130, n_150, n_255, n_600, n_1000, n_1050, n_1200, n_999999, n_1000000, iI_neg, iI_add, iI_sub, iI_mul, ile, ilt, ieq, P_has h, P_len h, P_arr h, P_put h, P_get h, P_set h, P_al h]
theorem clear_is (h : isP q) : isPth (up m q 1 0) q [] := ⟨h, up_at, fun j a hj => by simp at hj, by simp⟩
theorem push_eq (h : isPth m q l) (h7 : l.length < 7) : f_X5_push fu q (iI a) (mem w m) = some ((), mem w (up (up m (q + 1) l.length a) q 1 (l.length + 1))) := by
  unfold f_X5_push
  have hP := h.1
  have e : (up m (q + 1) l.length a) q = m q := up_ne (by omega)
  simp (disch := omega) only [Option.bind_some, bd2_some, bdX_ok, bdX_er, nm_eq, n_0, n_1, n_2, n_3, n_4, n_5, n_6, n_7, n_8, n_9, n_10, n_11, n_12, n_14, n_15, n_16, n_17, n_18, n_19, n_20, n_21, n_24, n_27, n_28, n_32, n_43, n_45, n_48, n_56, n_57, n_59, n_64, n_70, n_97, n_99, n_100, n_104, n_118, n_122, n_126, n_127, n_128, n_129, n_130, n_150, n_255, n_600, n_1000, n_1050, n_1200, n_999999, n_1000000, iI_neg, iI_add, iI_sub, iI_mul, ile, ilt, ieq, Q_len h, Q_arr h, Q_has h, P_has hP, P_len hP, P_arr hP, P_put hP, P_get hP, P_set hP, P_al hP]
  rw [if_neg (by omega), e, h.2.1]
theorem push_is (h : isPth m q l) (h7 : l.length < 7) : isPth (up (up m (q + 1) l.length a) q 1 (l.length + 1)) q (l ++ [a]) := by
  refine ⟨h.1, by rw [up_at]; simp, fun j b hj => ?_, by simp; omega⟩
  rw [up_ne (by omega)]
  have hj' : j < l.length + 1 := by have := (List.getElem?_eq_some_iff.mp hj).1; simpa using this
  by_cases hc : j = l.length
  · subst hc
    rw [up_at]
    simpa using hj
  · rw [up_off (by omega)]
    rw [List.getElem?_append_left (by omega)] at hj
    exact h.2.2.1 j b hj
theorem pop_nil (h : isPth m q []) : f_X5_pop fu q (mem w m) = some (iI (-1), mem w m) := by
  unfold f_X5_pop
  simp (disch := omega) only [Option.bind_some, bd2_some, bdX_ok, bdX_er, nm_eq, n_0, n_1, n_2, n_3, n_4, n_5, n_6, n_7, n_8, n_9, n_10, n_11, n_12, n_14, n_15, n_16, n_17, n_18, n_19, n_20, n_21, n_24, n_27, n_28, n_32, n_43, n_45, n_48, n_56, n_57, n_59, n_64, n_70, n_97, n_99, n_100, n_104, n_118, n_122, n_126, n_127, n_128, n_129, n_130, n_150, n_255, n_600, n_1000, n_1050, n_1200, n_999999, n_1000000, iI_neg, iI_add, iI_sub, iI_mul, ile, ilt, ieq, Q_len h, Q_arr h, Q_has h]
  rfl
theorem pop_eq (h : isPth m q (l ++ [a])) : f_X5_pop fu q (mem w m) = some (iI a, mem w (up m q 1 l.length)) := by
  have h7 := h.2.2.2
  have hP := h.1
  have hlen : (l ++ [a]).length = l.length + 1 := by simp
  unfold f_X5_pop
  simp (disch := omega) only [Option.bind_some, bd2_some, bdX_ok, bdX_er, nm_eq, n_0, n_1, n_2, n_3, n_4, n_5, n_6, n_7, n_8, n_9, n_10, n_11, n_12, n_14, n_15, n_16, n_17, n_18, n_19, n_20, n_21, n_24, n_27, n_28, n_32, n_43, n_45, n_48, n_56, n_57, n_59, n_64, n_70, n_97, n_99, n_100, n_104, n_118, n_122, n_126, n_127, n_128, n_129, n_130, n_150, n_255, n_600, n_1000, n_1050, n_1200, n_999999, n_1000000, iI_neg, iI_add, iI_sub, iI_mul, ile, ilt, ieq, Q_len h, Q_arr h, Q_has h, P_has hP, P_len hP, P_arr hP, P_put hP, P_get hP, P_set hP, P_al hP]
  rw [if_neg (by omega)]
  have e : ((l ++ [a]).length : Int) - 1 = l.length := by omega
  rw [e, up_at]
  rw [P_get (m := up m q 1 l.length) hP (by omega) (by omega), up_ne (by omega), h.2.2.1 l.length a (by simp)]
  rfl
theorem pop_is (h : isPth m q (l ++ [a])) : isPth (up m q 1 l.length) q l := by
  have h7 := h.2.2.2
  have hlen : (l ++ [a]).length = l.length + 1 := by simp
  refine ⟨h.1, up_at, fun j b hj => ?_, by omega⟩
  rw [up_ne (by omega)]
  have hj' := (List.getElem?_eq_some_iff.mp hj).1
  exact h.2.2.1 j b (by rw [List.getElem?_append_left hj']; exact hj)
/-- a path is copied -/
def pcp (m : Mm) (q s : Nat) : Mm := up (cpm m (s + 1) 0 (q + 1) 0 7) q 1 (m s 1)
theorem pcopy_eq (h : isP q) (h' : isP q') : f_X5_copyFrom fu q q' (mem w m) = some ((), mem w (pcp m q q')) := by
  unfold f_X5_copyFrom
  simp (disch := omega) only [Option.bind_some, bd2_some, bdX_ok, bdX_er, nm_eq, n_0, n_1, n_2, n_3, n_4, n_5, n_6, n_7, n_8, n_9, n_10, n_11, n_12, n_14, n_15, n_16, n_17, n_18, n_19, n_20, n_21, n_24, n_27, n_28, n_32, n_43, n_45, n_48, n_56, n_57, n_59, n_64, n_70, n_97, n_99, n_100, n_104, n_118, n_122, n_126, n_127, n_128, n_129, n_130, n_150, n_255, n_600, n_1000, n_1050, n_1200, n_999999, n_1000000, iI_neg, iI_add, iI_sub, iI_mul, ile, ilt, ieq, P_arr h, P_arr h']
  rw [aCopy_mem h'.2 h.2 (by omega) (by omega) (by omega) (by decide) (by decide) (by decide) (by decide)]
  simp (disch := omega) only [Option.bind_some, bd2_some, bdX_ok, bdX_er, nm_eq, n_0, n_1, n_2, n_3, n_4, n_5, n_6, n_7, n_8, n_9, n_10, n_11, n_12, n_14, n_15, n_16, n_17, n_18, n_19, n_20, n_21, n_24, n_27, n_28, n_32, n_43, n_45, n_48, n_56, n_57, n_59, n_64, n_70, n_97, n_99, n_100, n_104, n_118, n_122, n_126, n_127, n_128, n_129, n_130, n_150, n_255, n_600, n_1000, n_1050, n_1200, n_999999, n_1000000, iI_neg, iI_add, iI_sub, iI_mul, ile, ilt, ieq, P_len h', P_put h]
  rw [cpm_ne (h'.ne h)]
  rfl
theorem pcopy_is (h : isP q) (h' : isPth m q' l) : isPth (pcp m q q') q l := by
  refine ⟨h, ?_, fun j b hj => ?_, h'.2.2.2⟩
  · show up _ q 1 _ q 1 = _
    rw [up_at, h'.2.1]
  · have hj' := (List.getElem?_eq_some_iff.mp hj).1
    have := h'.2.2.2
    show up _ q 1 _ (q + 1) j = _
    rw [up_ne (by omega), cpm_in (by omega) (by omega), show (0 : Int) + ((j : Int) - 0) = j by omega]
    exact h'.2.2.1 j b hj
theorem pcp_ne {r : Nat} (h0 : r ≠ q) (h1 : r ≠ q + 1) : pcp m q q' r = m r := by
  show up _ q 1 _ r = _
  rw [up_ne h0, cpm_ne h1]
theorem hasArc_go (hq : isPth m q l) (hl : AOK N l) (hW : WFN N) (hv : -1 ≤ v ∧ v < 2147483648) : ∀ (suf pre : List Int) (n : Nat), l = pre ++ suf → suf.length < n → f_X5_hasArc_2 fu n q (iI v) (iI (pre.length : Int)) (mem w m) = some (iI (b2 (suf.any (fun a => decide (a = v)))), mem w m) := by
  have h7 := hq.2.2.2
  have hA := hW.1
  intro suf
  induction suf with
  | nil =>
    intro pre n hs hn
    have hlen : l.length = pre.length := by rw [hs]; simp
    obtain ⟨n, rfl⟩ : ∃ k, n = k + 1 := ⟨n - 1, by omega⟩
    rw [f_X5_hasArc_2, f_X5_hasArc_2b]
    simp (disch := omega) only [Option.bind_some, bd2_some, bdX_ok, bdX_er, nm_eq, n_0, n_1, n_2, n_3, n_4, n_5, n_6, n_7, n_8, n_9, n_10, n_11, n_12, n_14, n_15, n_16, n_17, n_18, n_19, n_20, n_21, n_24, n_27, n_28, n_32, n_43, n_45, n_48, n_56, n_57, n_59, n_64, n_70, n_97, n_99, n_100, n_104, n_118, n_122, n_126, n_127, n_128, n_129, n_130, n_150, n_255, n_600, n_1000, n_1050, n_1200, n_999999, n_1000000, iI_neg, iI_add, iI_sub, iI_mul, ile, ilt, ieq, Q_len hq, Q_arr hq, Q_has hq]
    rw [if_pos (by omega)]
    rfl
  | cons a suf ih =>
    intro pre n hs hn
    have hlen : l.length = pre.length + (suf.length + 1) := by rw [hs]; simp
    have hg := Q_get (w := w) (j := pre.length) (a := a) hq (by rw [hs]; exact mid_at)
    obtain ⟨ha, ha'⟩ := hl a (by rw [hs]; simp)
    simp only [List.length_cons] at hn
    obtain ⟨n, rfl⟩ : ∃ k, n = k + 1 := ⟨n - 1, by omega⟩
    rw [f_X5_hasArc_2, f_X5_hasArc_2b]
    simp (disch := omega) only [Option.bind_some, bd2_some, bdX_ok, bdX_er, nm_eq, n_0, n_1, n_2, n_3, n_4, n_5, n_6, n_7, n_8, n_9, n_10, n_11, n_12, n_14, n_15, n_16, n_17, n_18, n_19, n_20, n_21, n_24, n_27, n_28, n_32, n_43, n_45, n_48, n_56, n_57, n_59, n_64, n_70, n_97, n_99, n_100, n_104, n_118, n_122, n_126, n_127, n_128, n_129, n_130, n_150, n_255, n_600, n_1000, n_1050, n_1200, n_999999, n_1000000, iI_neg, iI_add, iI_sub, iI_mul, ile, ilt, ieq, Q_len hq, Q_arr hq, Q_has hq, hg]
    rw [if_neg (by omega)]
    by_cases hc : a = v
    · rw [if_pos hc]; simp [hc, b2]
    · rw [if_neg hc]
      have := ih (pre ++ [a]) n (by rw [hs]; simp) (by omega)
      rw [List.length_append, List.length_singleton, Int.natCast_add, show ((1 : Nat) : Int) = 1 from rfl] at this
      rw [this]
      simp [hc]
theorem hasArc_eq (hfu : 100 ≤ fu) (hq : isPth m q l) (hl : AOK N l) (hW : WFN N) (hv : -1 ≤ v ∧ v < 2147483648) : f_X5_hasArc fu q (iI v) (mem w m) = some (iI (b2 (l.any (fun a => decide (a = v)))), mem w m) := by
  have h7 := hq.2.2.2
  rw [f_X5_hasArc]
  exact hasArc_go (w := w) hq hl hW hv l [] fu rfl (by omega)
theorem isSame_go (hq : isPth m q l) (hq' : isPth m q' l') (hl : AOK N l) (hl' : AOK N l') (hW : WFN N) : ∀ (suf pre suf' pre' : List Int) (n : Nat), l = pre ++ suf → l' = pre' ++ suf' → pre.length = pre'.length → suf.length = suf'.length → suf.length < n → f_X5_isSame_15 fu n q q' (iI (pre.length : Int)) (mem w m) = some (iI (b2 (decide (suf = suf'))), mem w m) := by
  have h7 := hq.2.2.2
  have hA := hW.1
  intro suf
  induction suf with
  | nil =>
    intro pre suf' pre' n hs hs' hp hsf hn
    have hlen : l.length = pre.length := by rw [hs]; simp
    obtain ⟨n, rfl⟩ : ∃ k, n = k + 1 := ⟨n - 1, by omega⟩
    rw [f_X5_isSame_15, f_X5_isSame_15b]
    simp (disch := omega) only [Option.bind_some, bd2_some, bdX_ok, bdX_er, nm_eq, n_0, n_1, n_2, n_3, n_4, n_5, n_6, n_7, n_8, n_9, n_10, n_11, n_12, n_14, n_15, n_16, n_17, n_18, n_19, n_20, n_21, n_24, n_27, n_28, n_32, n_43, n_45, n_48, n_56, n_57, n_59, n_64, n_70, n_97, n_99, n_100, n_104, n_118, n_122, n_126, n_127, n_128, n_129, n_130, n_150, n_255, n_600, n_1000, n_1050, n_1200, n_999999, n_1000000, iI_neg, iI_add, iI_sub, iI_mul, ile, ilt, ieq, Q_len hq, Q_arr hq, Q_has hq]
    rw [if_pos (by omega)]
    have : suf' = [] := List.eq_nil_of_length_eq_zero (by simpa using hsf.symm)
    rw [this]
    rfl
  | cons a suf ih =>
    intro pre suf' pre' n hs hs' hp hsf hn
    have hlen : l.length = pre.length + (suf.length + 1) := by rw [hs]; simp
    cases suf' with
    | nil => simp at hsf
    | cons a' suf' =>
    have hg := Q_get (w := w) (j := pre.length) (a := a) hq (by rw [hs]; exact mid_at)
    have hg' := Q_get (w := w) (j := pre.length) (a := a') hq' (by rw [hs', hp]; exact mid_at)
    obtain ⟨ha, ha'⟩ := hl a (by rw [hs]; simp)
    obtain ⟨hb, hb'⟩ := hl' a' (by rw [hs']; simp)
    simp only [List.length_cons] at hn hsf
    obtain ⟨n, rfl⟩ : ∃ k, n = k + 1 := ⟨n - 1, by omega⟩
    rw [f_X5_isSame_15, f_X5_isSame_15b]
    simp (disch := omega) only [Option.bind_some, bd2_some, bdX_ok, bdX_er, nm_eq, n_0, n_1, n_2, n_3, n_4, n_5, n_6, n_7, n_8, n_9, n_10, n_11, n_12, n_14, n_15, n_16, n_17, n_18, n_19, n_20, n_21, n_24, n_27, n_28, n_32, n_43, n_45, n_48, n_56, n_57, n_59, n_64, n_70, n_97, n_99, n_100, n_104, n_118, n_122, n_126, n_127, n_128, n_129, n_130, n_150, n_255, n_600, n_1000, n_1050, n_1200, n_999999, n_1000000, iI_neg, iI_add, iI_sub, iI_mul, ile, ilt, ieq, Q_len hq, Q_arr hq, Q_has hq, Q_len hq', Q_arr hq', Q_has hq', hg, hg']
    rw [if_neg (by omega)]
    by_cases hc : a = a'
    · rw [if_pos hc]
      have := ih (pre ++ [a]) suf' (pre' ++ [a']) n (by rw [hs]; simp) (by rw [hs']; simp) (by simp [hp]) (by omega) (by omega)
      rw [List.length_append, List.length_singleton, Int.natCast_add, show ((1 : Nat) : Int) = 1 from rfl] at this
      rw [this]
      simp [hc]
    · rw [if_neg hc]; simp [hc, b2]
theorem isSame_eq (hfu : 100 ≤ fu) (hq : isPth m q l) (hq' : isPth m q' l') (hl : AOK N l) (hl' : AOK N l') (hW : WFN N) : f_X5_isSame fu q q' (mem w m) = some (iI (b2 (decide (l = l'))), mem w m) := by
  have h7 := hq.2.2.2
  have h7' := hq'.2.2.2
  rw [f_X5_isSame]
  simp (disch := omega) only [Option.bind_some, bd2_some, bdX_ok, bdX_er, nm_eq, n_0, n_1, n_2, n_3, n_4, n_5, n_6, n_7, n_8, n_9, n_10, n_11, n_12, n_14, n_15, n_16, n_17, n_18, n_19, n_20, n_21, n_24, n_27, n_28, n_32, n_43, n_45, n_48, n_56, n_57, n_59, n_64, n_70, n_97, n_99, n_100, n_104, n_118, n_122, n_126, n_127, n_128, n_129, n_130, n_150, n_255, n_600, n_1000, n_1050, n_1200, n_999999, n_1000000, iI_neg, iI_add, iI_sub, iI_mul, ile, ilt, ieq, Q_len hq, Q_arr hq, Q_has hq, Q_len hq', Q_arr hq', Q_has hq']
  by_cases hc : (l.length : Int) = l'.length
  · rw [if_pos hc]
    exact isSame_go (w := w) hq hq' hl hl' hW l [] l' [] fu rfl rfl rfl (by omega) (by omega)
  · rw [if_neg hc]
    have : ¬ l = l' := fun e => hc (by rw [e])
    simp [this, b2]
/-- the delay of the arcs at picked places -/
def dlyF (P : Int32) : List Int → Int → Int32 → Int32
  | [], _, D => D
  | a :: l, i, D => dlyF P l (i + 1) (if bt P i = 0 then D else D ||| (1 <<< (iI a &&& 31)))
theorem delayAt_go (hq : isPth m q l) {P : Int32} : ∀ (suf pre : List Int) (n : Nat) (D : Int32), l = pre ++ suf → suf.length < n → f_X5_delayAt_4 fu n q P D (iI (pre.length : Int)) (mem w m) = some (dlyF P suf pre.length D, mem w m) := by
  have h7 := hq.2.2.2
  intro suf
  induction suf with
  | nil =>
    intro pre n D hs hn
    have hlen : l.length = pre.length := by rw [hs]; simp
    obtain ⟨n, rfl⟩ : ∃ k, n = k + 1 := ⟨n - 1, by omega⟩
    rw [f_X5_delayAt_4, f_X5_delayAt_4b]
    simp (disch := omega) only [Option.bind_some, bd2_some, bdX_ok, bdX_er, nm_eq, n_0, n_1, n_2, n_3, n_4, n_5, n_6, n_7, n_8, n_9, n_10, n_11, n_12, n_14, n_15, n_16, n_17, n_18, n_19, n_20, n_21, n_24, n_27, n_28, n_32, n_43, n_45, n_48, n_56, n_57, n_59, n_64, n_70, n_97, n_99, n_100, n_104, n_118, n_122, n_126, n_127, n_128, n_129, n_130, n_150, n_255, n_600, n_1000, n_1050, n_1200, n_999999, n_1000000, iI_neg, iI_add, iI_sub, iI_mul, ile, ilt, ieq, Q_len hq, Q_arr hq, Q_has hq]
    rw [if_pos (by omega)]
    rfl
  | cons a suf ih =>
    intro pre n D hs hn
    have hlen : l.length = pre.length + (suf.length + 1) := by rw [hs]; simp
    have hg := Q_get (w := w) (j := pre.length) (a := a) hq (by rw [hs]; exact mid_at)
    simp only [List.length_cons] at hn
    have ih' : ∀ (n : Nat) D, suf.length < n → f_X5_delayAt_4 fu n q P D (iI ((pre.length : Int) + 1)) (mem w m) = some (dlyF P suf ((pre.length : Int) + 1) D, mem w m) := fun n D h => by
      have := ih (pre ++ [a]) n D (by rw [hs]; simp) h
      rw [List.length_append, List.length_singleton, Int.natCast_add, show ((1 : Nat) : Int) = 1 from rfl] at this
      exact this
    obtain ⟨n, rfl⟩ : ∃ k, n = k + 1 := ⟨n - 1, by omega⟩
    rw [f_X5_delayAt_4, f_X5_delayAt_4b]
    simp (disch := omega) only [Option.bind_some, bd2_some, bdX_ok, bdX_er, nm_eq, n_0, n_1, n_2, n_3, n_4, n_5, n_6, n_7, n_8, n_9, n_10, n_11, n_12, n_14, n_15, n_16, n_17, n_18, n_19, n_20, n_21, n_24, n_27, n_28, n_32, n_43, n_45, n_48, n_56, n_57, n_59, n_64, n_70, n_97, n_99, n_100, n_104, n_118, n_122, n_126, n_127, n_128, n_129, n_130, n_150, n_255, n_600, n_1000, n_1050, n_1200, n_999999, n_1000000, iI_neg, iI_add, iI_sub, iI_mul, ile, ilt, ieq, Q_len hq, Q_arr hq, Q_has hq, hg]
    rw [if_neg (by omega), isIn_eq (by omega) (by omega)]
    unfold f_X5_delayAt_31
    have hb := bt_01 P pre.length
    simp (disch := omega) only [Option.bind_some, bd2_some, bdX_ok, bdX_er, nm_eq, n_0, n_1, n_2, n_3, n_4, n_5, n_6, n_7, n_8, n_9, n_10, n_11, n_12, n_14, n_15, n_16, n_17, n_18, n_19, n_20, n_21, n_24, n_27, n_28, n_32, n_43, n_45, n_48, n_56, n_57, n_59, n_64, n_70, n_97, n_99, n_100, n_104, n_118, n_122, n_126, n_127, n_128, n_129, n_130, n_150, n_255, n_600, n_1000, n_1050, n_1200, n_999999, n_1000000, iI_neg, iI_add, iI_sub, iI_mul, ile, ilt, ieq, Q_len hq, Q_arr hq, Q_has hq, hg]
    rw [dlyF]
    by_cases hc : bt P pre.length = 0
    · rw [if_pos hc, if_pos hc]
      exact ih' n D (by omega)
    · rw [if_neg hc, if_neg hc]
      exact ih' n _ (by omega)
theorem delayAt_eq (hfu : 100 ≤ fu) (hq : isPth m q l) {P : Int32} : f_X5_delayAt fu q P (mem w m) = some (dlyF P l 0 0, mem w m) := by
  have h7 := hq.2.2.2
  rw [f_X5_delayAt]
  exact delayAt_go (w := w) hq l [] fu 0 rfl (by omega)
end PO
