theorem n_2 : (2 : Int32) = iI 2 := id rfl
theorem n_3 : (3 : Int32) = iI 3 := id rfl
theorem n_4 : (4 : Int32) = iI 4 := id rfl
theorem n_5 : (5 : Int32) = iI 5 := id rfl
theorem n_6 : (6 : Int32) = iI 6 := id rfl
theorem n_7 : (7 : Int32) = iI 7 := id rfl
theorem n_8 : (8 : Int32) = iI 8 := id rfl
theorem n_9 : (9 : Int32) = iI 9 := id rfl
theorem n_10 : (10 : Int32) = iI 10 := id rfl
theorem n_11 : (11 : Int32) = iI 11 := id rfl
theorem n_12 : (12 : Int32) = iI 12 := id rfl
theorem n_14 : (14 : Int32) = iI 14 := id rfl
theorem n_15 : (15 : Int32) = iI 15 := id rfl
theorem n_16 : (16 : Int32) = iI 16 := id rfl
theorem n_17 : (17 : Int32) = iI 17 := id rfl
theorem n_18 : (18 : Int32) = iI 18 := id rfl
theorem n_19 : (19 : Int32) = iI 19 := id rfl
theorem n_20 : (20 : Int32) = iI 20 := id rfl
theorem n_21 : (21 : Int32) = iI 21 := id rfl
theorem n_24 : (24 : Int32) = iI 24 := id rfl
theorem n_27 : (27 : Int32) = iI 27 := id rfl
theorem n_28 : (28 : Int32) = iI 28 := id rfl
theorem n_32 : (32 : Int32) = iI 32 := id rfl
theorem n_43 : (43 : Int32) = iI 43 := id rfl
theorem n_45 : (45 : Int32) = iI 45 := id rfl
theorem n_48 : (48 : Int32) = iI 48 := id rfl
theorem n_56 : (56 : Int32) = iI 56 := id rfl
theorem n_57 : (57 : Int32) = iI 57 := id rfl
theorem n_59 : (59 : Int32) = iI 59 := id rfl
theorem n_64 : (64 : Int32) = iI 64 := id rfl
theorem n_70 : (70 : Int32) = iI 70 := id rfl
theorem n_97 : (97 : Int32) = iI 97 := id rfl
theorem n_99 : (99 : Int32) = iI 99 := id rfl
theorem n_100 : (100 : Int32) = iI 100 := id rfl
theorem n_104 : (104 : Int32) = iI 104 := id rfl
theorem n_118 : (118 : Int32) = iI 118 := id rfl
theorem n_122 : (122 : Int32) = iI 122 := id rfl
theorem n_126 : (126 : Int32) = iI 126 := id rfl
theorem n_127 : (127 : Int32) = iI 127 := id rfl
theorem n_128 : (128 : Int32) = iI 128 := id rfl
theorem n_129 : (129 : Int32) = iI 129 := id rfl
theorem n_130 : (130 : Int32) = iI 130 := id rfl
theorem n_150 : (150 : Int32) = iI 150 := id rfl
theorem n_255 : (255 : Int32) = iI 255 := id rfl
theorem n_600 : (600 : Int32) = iI 600 := id rfl
theorem n_1000 : (1000 : Int32) = iI 1000 := id rfl
theorem n_1050 : (1050 : Int32) = iI 1050 := id rfl
theorem n_1200 : (1200 : Int32) = iI 1200 := id rfl
theorem n_999999 : (999999 : Int32) = iI 999999 := id rfl
theorem n_1000000 : (1000000 : Int32) = iI 1000000 := id rfl
theorem iI_neg (a : Int) : -iI a = iI (-a) := (Int32.ofInt_neg a).symm
section IT
variable {α : Type} {a b : Int} {x y : α}
theorem ile (h1 : -2147483648 ≤ a) (h2 : a < 2147483648) (h3 : -2147483648 ≤ b) (h4 : b < 2147483648) : (if iI a ≤ iI b then x else y) = if a ≤ b then x else y := by
  by_cases h : a ≤ b
  · rw [if_pos h, if_pos ((iI_le h1 h2 h3 h4).mpr h)]
  · rw [if_neg h, if_neg (fun q => h ((iI_le h1 h2 h3 h4).mp q))]
theorem ilt (h1 : -2147483648 ≤ a) (h2 : a < 2147483648) (h3 : -2147483648 ≤ b) (h4 : b < 2147483648) : (if iI a < iI b then x else y) = if a < b then x else y := by
  by_cases h : a < b
  · rw [if_pos h, if_pos ((iI_lt h1 h2 h3 h4).mpr h)]
  · rw [if_neg h, if_neg (fun q => h ((iI_lt h1 h2 h3 h4).mp q))]
theorem ieq (h1 : -2147483648 ≤ a) (h2 : a < 2147483648) (h3 : -2147483648 ≤ b) (h4 : b < 2147483648) : (if iI a = iI b then x else y) = if a = b then x else y := by
  by_cases h : a = b
  · rw [if_pos h, if_pos ((iI_eq h1 h2 h3 h4).mpr h)]
  · rw [if_neg h, if_neg (fun q => h ((iI_eq h1 h2 h3 h4).mp q))]
end IT
/-- facts of a well-formed network that omega wants -/
theorem WFN.arc {N : Nt} (h : WFN N) {k : Int} (h0 : 0 ≤ k) (h1 : k < nA N) : 0 ≤ aTl N k ∧ aTl N k < nN N ∧ 0 ≤ aHd N k ∧ aHd N k < nN N ∧ aTl N k ≠ aHd N k ∧ 0 ≤ aCo N k ∧ aCo N k ≤ 99 ∧ 0 ≤ aEx N k ∧ aEx N k ≤ 99 := h.2 k h0 h1
def endOf (N : Nt) (l : List Int) : Int := match l.getLast? with
  | none => nS N
  | some a => aHd N a
def hasNd (N : Nt) (l : List Int) (v : Int) : Bool := decide (v = nS N) || l.any (fun a => decide (aHd N a = v))
def canFol (N : Nt) (l : List Int) (a : Int) : Bool := if endOf N l = aTl N a then (if endOf N l = nT N then false else !hasNd N l (aHd N a)) else false
def b2 (b : Bool) : Int := if b then 1 else 0
section NQ
variable {w : Wl} {m : Mm} {p q q' : Nat} {z v : Int} {N : Nt} {l l' : List Int} {fu : Nat} {D : Int32}
theorem isIn_eq (h0 : 0 ≤ z) (h1 : z < 32) : f_X10_isIn fu D (iI z) (mem w m) = some (iI (bt D z), mem w m) := by
  unfold f_X10_isIn
  rw [bt_of h0 h1]
  simp (disch := omega) only [Option.bind_some, bd2_some, bdX_ok, bdX_er, nm_eq, n_0, n_1, n_2, n_3, n_4, n_5, n_6, n_7, n_8, n_9, n_10, n_11, n_12, n_14, n_15, n_16, n_17, n_18, n_19, n_20, n_21, n_24, n_27, n_28, n_32, n_43, n_45, n_48, n_56, n_57, n_59, n_64, n_70, n_97, n_99, n_100, n_104, n_118, n_122, n_126, n_127, n_128, n_129, n_130, n_150, n_255, n_600, n_1000, n_1050, n_1200, n_999999, n_1000000, iI_neg, iI_add, iI_sub, iI_mul, ile, ilt, ieq]
  rcases bt_01 D z with h | h <;> rw [h] <;> rfl
theorem endOf_nn (hW : WFN N) (hl : AOK N l) : 0 ≤ endOf N l ∧ endOf N l < nN N := by
  unfold endOf
  have := hW.1
  cases h : l.getLast? with
  | none => simp only []; omega
  | some a =>
    have ha := hl a (List.mem_of_getLast? h)
    have := hW.arc ha.1 ha.2
    simp only []; omega
theorem endOf_eq (hN : isNet m p N) (hq : isPth m q l) (hl : AOK N l) : f_X4_endOf fu p q (mem w m) = some (iI (endOf N l), mem w m) := by
  have h7 := hq.2.2.2
  unfold f_X4_endOf
  simp (disch := omega) only [Option.bind_some, bd2_some, bdX_ok, bdX_er, nm_eq, n_0, n_1, n_2, n_3, n_4, n_5, n_6, n_7, n_8, n_9, n_10, n_11, n_12, n_14, n_15, n_16, n_17, n_18, n_19, n_20, n_21, n_24, n_27, n_28, n_32, n_43, n_45, n_48, n_56, n_57, n_59, n_64, n_70, n_97, n_99, n_100, n_104, n_118, n_122, n_126, n_127, n_128, n_129, n_130, n_150, n_255, n_600, n_1000, n_1050, n_1200, n_999999, n_1000000, iI_neg, iI_add, iI_sub, iI_mul, ile, ilt, ieq, K_has hN, K_0 hN, K_1 hN, K_2 hN, K_3 hN, K_4 hN, K_5 hN, K_6 hN, K_7 hN, K_8 hN, K_tl hN, K_hd hN, K_co hN, K_ex hN, Q_len hq, Q_arr hq, Q_has hq]
  rcases List.eq_nil_or_concat l with rfl | ⟨l0, a, rfl⟩
  · rfl
  · have ha := hl a (by simp)
    have hg : aI (mem w m) (q + 1) 13 (iI (((l0.concat a).length : Int) - 1)) = some (iI a) := by
      have := Q_get (w := w) (j := l0.length) (a := a) hq (by simp)
      rw [show ((l0.concat a).length : Int) - 1 = (l0.length : Int) by simp]
      exact this
    rw [if_neg (by simp; omega), hg]
    simp (disch := omega) only [Option.bind_some, bd2_some, bdX_ok, bdX_er, nm_eq, n_0, n_1, n_2, n_3, n_4, n_5, n_6, n_7, n_8, n_9, n_10, n_11, n_12, n_14, n_15, n_16, n_17, n_18, n_19, n_20, n_21, n_24, n_27, n_28, n_32, n_43, n_45, n_48, n_56, n_57, n_59, n_64, n_70, n_97, n_99, n_100, n_104, n_118, n_122, n_126, n_127, n_128, n_129, n_130, n_150, n_255, n_600, n_1000, n_1050, n_1200, n_999999, n_1000000, iI_neg, iI_add, iI_sub, iI_mul, ile, ilt, ieq, K_has hN, K_0 hN, K_1 hN, K_2 hN, K_3 hN, K_4 hN, K_5 hN, K_6 hN, K_7 hN, K_8 hN, K_tl hN, K_hd hN, K_co hN, K_ex hN]
    have e : endOf N (l0.concat a) = aHd N a := by unfold endOf; simp
    rw [e]
theorem hasNode_go {k : Nat → Int32 → List Ob → Option (Int32 × List Ob)} (hN : isNet m p N) (hq : isPth m q l) (hl : AOK N l) (hv : 0 ≤ v ∧ v < 8) : ∀ (suf pre : List Int) (n : Nat), l = pre ++ suf → suf.length < n → f_X4_hasNode_2 fu k n p q (iI v) (iI (pre.length : Int)) (mem w m) = if suf.any (fun a => decide (aHd N a = v)) then some (iI 1, mem w m) else k p (iI v) (mem w m) := by
  have h7 := hq.2.2.2
  have hW := hN.2.2.1
  intro suf
  induction suf with
  | nil =>
    intro pre n hs hn
    have hlen : l.length = pre.length := by rw [hs]; simp
    obtain ⟨n, rfl⟩ : ∃ k, n = k + 1 := ⟨n - 1, by omega⟩
    rw [f_X4_hasNode_2, f_X4_hasNode_2b]
    simp (disch := omega) only [Option.bind_some, bd2_some, bdX_ok, bdX_er, nm_eq, n_0, n_1, n_2, n_3, n_4, n_5, n_6, n_7, n_8, n_9, n_10, n_11, n_12, n_14, n_15, n_16, n_17, n_18, n_19, n_20, n_21, n_24, n_27, n_28, n_32, n_43, n_45, n_48, n_56, n_57, n_59, n_64, n_70, n_97, n_99, n_100, n_104, n_118, n_122, n_126, n_127, n_128, n_129, n_130, n_150, n_255, n_600, n_1000, n_1050, n_1200, n_999999, n_1000000, iI_neg, iI_add, iI_sub, iI_mul, ile, ilt, ieq, Q_len hq, Q_arr hq, Q_has hq]
    rw [if_pos (by omega)]
    rfl
  | cons a suf ih =>
    intro pre n hs hn
    have hlen : l.length = pre.length + (suf.length + 1) := by rw [hs]; simp
    have hg := Q_get (w := w) (j := pre.length) (a := a) hq (by rw [hs]; exact mid_at)
    obtain ⟨ha, ha'⟩ := hl a (by rw [hs]; simp)
    have hA := hN.2.2.arc ha ha'
    simp only [List.length_cons] at hn
    obtain ⟨n, rfl⟩ : ∃ k, n = k + 1 := ⟨n - 1, by omega⟩
    rw [f_X4_hasNode_2, f_X4_hasNode_2b]
    simp (disch := omega) only [Option.bind_some, bd2_some, bdX_ok, bdX_er, nm_eq, n_0, n_1, n_2, n_3, n_4, n_5, n_6, n_7, n_8, n_9, n_10, n_11, n_12, n_14, n_15, n_16, n_17, n_18, n_19, n_20, n_21, n_24, n_27, n_28, n_32, n_43, n_45, n_48, n_56, n_57, n_59, n_64, n_70, n_97, n_99, n_100, n_104, n_118, n_122, n_126, n_127, n_128, n_129, n_130, n_150, n_255, n_600, n_1000, n_1050, n_1200, n_999999, n_1000000, iI_neg, iI_add, iI_sub, iI_mul, ile, ilt, ieq, Q_len hq, Q_arr hq, Q_has hq, K_has hN, K_0 hN, K_1 hN, K_2 hN, K_3 hN, K_4 hN, K_5 hN, K_6 hN, K_7 hN, K_8 hN, K_tl hN, K_hd hN, K_co hN, K_ex hN, hg]
    rw [if_neg (by omega)]
    by_cases hc : aHd N a = v
    · rw [if_pos hc, if_pos (by simp [hc])]
    · rw [if_neg hc]
      have := ih (pre ++ [a]) n (by rw [hs]; simp) (by omega)
      rw [List.length_append, List.length_singleton, Int.natCast_add, show ((1 : Nat) : Int) = 1 from rfl] at this
      rw [this]
      simp [hc]
theorem hasNode_eq (hfu : 100 ≤ fu) (hN : isNet m p N) (hq : isPth m q l) (hl : AOK N l) (hv : 0 ≤ v ∧ v < 8) : f_X4_hasNode fu p q (iI v) (mem w m) = some (iI (b2 (hasNd N l v)), mem w m) := by
  have h7 := hq.2.2.2
  have hW := hN.2.2.1
  rw [f_X4_hasNode]
  have := hasNode_go (w := w) (fu := fu) (k := fun x1 x2 M3 => f_X4_hasNode_33 fu x1 x2 M3) hN hq hl hv l [] fu rfl (by omega)
  simp (disch := omega) only [Option.bind_some, bd2_some, bdX_ok, bdX_er, nm_eq, n_0, n_1, n_2, n_3, n_4, n_5, n_6, n_7, n_8, n_9, n_10, n_11, n_12, n_14, n_15, n_16, n_17, n_18, n_19, n_20, n_21, n_24, n_27, n_28, n_32, n_43, n_45, n_48, n_56, n_57, n_59, n_64, n_70, n_97, n_99, n_100, n_104, n_118, n_122, n_126, n_127, n_128, n_129, n_130, n_150, n_255, n_600, n_1000, n_1050, n_1200, n_999999, n_1000000, iI_neg, iI_add, iI_sub, iI_mul, ile, ilt, ieq]
  rw [List.length_nil, show ((0 : Nat) : Int) = 0 from rfl] at this
  rw [this]
  unfold f_X4_hasNode_33
  simp (disch := omega) only [Option.bind_some, bd2_some, bdX_ok, bdX_er, nm_eq, n_0, n_1, n_2, n_3, n_4, n_5, n_6, n_7, n_8, n_9, n_10, n_11, n_12, n_14, n_15, n_16, n_17, n_18, n_19, n_20, n_21, n_24, n_27, n_28, n_32, n_43, n_45, n_48, n_56, n_57, n_59, n_64, n_70, n_97, n_99, n_100, n_104, n_118, n_122, n_126, n_127, n_128, n_129, n_130, n_150, n_255, n_600, n_1000, n_1050, n_1200, n_999999, n_1000000, iI_neg, iI_add, iI_sub, iI_mul, ile, ilt, ieq, K_has hN, K_0 hN, K_1 hN, K_2 hN, K_3 hN, K_4 hN, K_5 hN, K_6 hN, K_7 hN, K_8 hN, K_tl hN, K_hd hN, K_co hN, K_ex hN]
  unfold hasNd b2
  by_cases h1 : v = nS N <;> cases h2 : l.any (fun a => decide (aHd N a = v)) <;> simp [h1, h2]
  all_goals (first | rfl | (rw [h1] at h2; simp [h2]) | skip)
theorem canFollow_eq (hfu : 100 ≤ fu) (hN : isNet m p N) (hq : isPth m q l) (hl : AOK N l) (h0 : 0 ≤ z) (h1 : z < nA N) : f_X4_canFollow fu p q (iI z) (mem w m) = some (iI (b2 (canFol N l z)), mem w m) := by
  have hW := hN.2.2.1
  have hA := hN.2.2.arc h0 h1
  have hE := endOf_nn hN.2.2 hl
  rw [f_X4_canFollow]
  simp (disch := omega) only [Option.bind_some, bd2_some, bdX_ok, bdX_er, nm_eq, n_0, n_1, n_2, n_3, n_4, n_5, n_6, n_7, n_8, n_9, n_10, n_11, n_12, n_14, n_15, n_16, n_17, n_18, n_19, n_20, n_21, n_24, n_27, n_28, n_32, n_43, n_45, n_48, n_56, n_57, n_59, n_64, n_70, n_97, n_99, n_100, n_104, n_118, n_122, n_126, n_127, n_128, n_129, n_130, n_150, n_255, n_600, n_1000, n_1050, n_1200, n_999999, n_1000000, iI_neg, iI_add, iI_sub, iI_mul, ile, ilt, ieq, K_has hN, K_0 hN, K_1 hN, K_2 hN, K_3 hN, K_4 hN, K_5 hN, K_6 hN, K_7 hN, K_8 hN, K_tl hN, K_hd hN, K_co hN, K_ex hN, endOf_eq hN hq hl]
  rw [hasNode_eq hfu hN hq hl (by omega)]
  simp (disch := omega) only [Option.bind_some, bd2_some, bdX_ok, bdX_er, nm_eq, n_0, n_1, n_2, n_3, n_4, n_5, n_6, n_7, n_8, n_9, n_10, n_11, n_12, n_14, n_15, n_16, n_17, n_18, n_19, n_20, n_21, n_24, n_27, n_28, n_32, n_43, n_45, n_48, n_56, n_57, n_59, n_64, n_70, n_97, n_99, n_100, n_104, n_118, n_122, n_126, n_127, n_128, n_129, n_130, n_150, n_255, n_600, n_1000, n_1050, n_1200, n_999999, n_1000000, iI_neg, iI_add, iI_sub, iI_mul, ile, ilt, ieq]
  unfold canFol
  by_cases c1 : endOf N l = aTl N z
  · rw [if_pos c1, if_pos c1]
    by_cases c2 : endOf N l = nT N
    · rw [if_pos c2, if_pos c2]; rfl
    · rw [if_neg c2, if_neg c2]
      cases hasNd N l (aHd N z) <;> rfl
  · rw [if_neg c1, if_neg c1]; rfl
end NQ
