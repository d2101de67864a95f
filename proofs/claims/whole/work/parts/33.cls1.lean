theorem n_2 : (2 : Int32) = iI 2 := rfl
theorem n_3 : (3 : Int32) = iI 3 := rfl
theorem n_4 : (4 : Int32) = iI 4 := rfl
theorem n_5 : (5 : Int32) = iI 5 := rfl
theorem n_6 : (6 : Int32) = iI 6 := rfl
theorem n_7 : (7 : Int32) = iI 7 := rfl
theorem iI_neg (a : Int) : -iI a = iI (-a) := (Int32.ofInt_neg a).symm
section IT
variable {α : Type} {a b : Int} {x y : α}
theorem ile (h1 : -2147483648 ≤ a) (h2 : a < 2147483648) (h3 : -2147483648 ≤ b) (h4 : b < 2147483648) : (if iI a ≤ iI b then x else y) = if a ≤ b then x else y := by
  by_cases h : a ≤ b
  · rw [if_pos h, if_pos ((iI_le h1 h2 h3 h4).mpr h)]
  · rw [if_neg h, if_neg (fun q => h ((iI_le h1 h2 h3 h4).mp q))]
theorem ilt (h1 : -2147483648 ≤ a) (h2 : a < 2147483648) (h3 : -2147483648 ≤ b) (h4 : b < 2147483648) : (if iI a < iI b then x else y) = if a < b then x else y := by
  by_cases h : a < b
  · rw [if_pos h, if_pos ((iI_lt h1 h2 h3 h4).mpr h)]
  · rw [if_neg h, if_neg (fun q => h ((iI_lt h1 h2 h3 h4).mp q))]
theorem ieq (h1 : -2147483648 ≤ a) (h2 : a < 2147483648) (h3 : -2147483648 ≤ b) (h4 : b < 2147483648) : (if iI a = iI b then x else y) = if a = b then x else y := by
  by_cases h : a = b
  · rw [if_pos h, if_pos ((iI_eq h1 h2 h3 h4).mpr h)]
  · rw [if_neg h, if_neg (fun q => h ((iI_eq h1 h2 h3 h4).mp q))]
end IT
/-- facts of a well-formed network that omega wants -/
theorem WFN.arc {N : Nt} (h : WFN N) {k : Int} (h0 : 0 ≤ k) (h1 : k < nA N) : 0 ≤ aTl N k ∧ aTl N k < nN N ∧ 0 ≤ aHd N k ∧ aHd N k < nN N ∧ aTl N k ≠ aHd N k ∧ 0 ≤ aCo N k ∧ aCo N k ≤ 99 ∧ 0 ≤ aEx N k ∧ aEx N k ≤ 99 := h.2 k h0 h1
def endOf (N : Nt) (l : List Int) : Int := match l.getLast? with
  | none => nS N
  | some a => aHd N a
def hasNd (N : Nt) (l : List Int) (v : Int) : Bool := decide (v = nS N) || l.any (fun a => decide (aHd N a = v))
def canFol (N : Nt) (l : List Int) (a : Int) : Bool := if endOf N l = aTl N a then (if endOf N l = nT N then false else !hasNd N l (aHd N a)) else false
def b2 (b : Bool) : Int := if b then 1 else 0
section NQ
variable {w : Wl} {m : Mm} {p q q' : Nat} {z v : Int} {N : Nt} {l l' : List Int} {fu : Nat} {D : Int32}
theorem isIn_eq (h0 : 0 ≤ z) (h1 : z < 32) : f_X10_isIn fu D (iI z) (mem w m) = some (iI (bt D z), mem w m) := by
  unfold f_X10_isIn
  rw [bt_of h0 h1]
  simp (disch := omega) only [Option.bind_some, bd2_some, bdX_ok, bdX_er, nm_eq, n_0, n_1, n_2, n_3, n_4, n_5, n_6, n_7, iI_neg, iI_add, iI_sub, iI_mul, ile, ilt, ieq]
  rcases bt_01 D z with h | h <;> rw [h] <;> rfl
theorem endOf_nn (hW : WFN N) (hl : AOK N l) : 0 ≤ endOf N l ∧ endOf N l < nN N := by
  unfold endOf
  have := hW.1
  cases h : l.getLast? with
  | none => simp only []; omega
  | some a =>
    have ha := hl a (List.mem_of_getLast? h)
    have := hW.arc ha.1 ha.2
    simp only []; omega
theorem endOf_eq (hN : isNet m p N) (hq : isPth m q l) (hl : AOK N l) : f_X4_endOf fu p q (mem w m) = some (iI (endOf N l), mem w m) := by
  have h7 := hq.2.2.2
  unfold f_X4_endOf
  simp (disch := omega) only [Option.bind_some, bd2_some, bdX_ok, bdX_er, nm_eq, n_0, n_1, n_2, n_3, n_4, n_5, n_6, n_7, iI_neg, iI_add, iI_sub, iI_mul, ile, ilt, ieq, K_has hN, K_0 hN, K_1 hN, K_2 hN, K_3 hN, K_4 hN, K_5 hN, K_6 hN, K_7 hN, K_8 hN, K_tl hN, K_hd hN, K_co hN, K_ex hN, Q_len hq, Q_arr hq, Q_has hq]
  rcases List.eq_nil_or_concat l with rfl | ⟨l0, a, rfl⟩
  · rfl
  · have ha := hl a (by simp)
    have hg : aI (mem w m) (q + 1) 13 (iI (((l0.concat a).length : Int) - 1)) = some (iI a) := by
      have := Q_get (w := w) (j := l0.length) (a := a) hq (by simp)
      rw [show ((l0.concat a).length : Int) - 1 = (l0.length : Int) by simp]
      exact this
    rw [if_neg (by simp; omega), hg]
    simp (disch := omega) only [Option.bind_some, bd2_some, bdX_ok, bdX_er, nm_eq, n_0, n_1, n_2, n_3, n_4, n_5, n_6, n_7, iI_neg, iI_add, iI_sub, iI_mul, ile, ilt, ieq, K_has hN, K_0 hN, K_1 hN, K_2 hN, K_3 hN, K_4 hN, K_5 hN, K_6 hN, K_7 hN, K_8 hN, K_tl hN, K_hd hN, K_co hN, K_ex hN]
    have e : endOf N (l0.concat a) = aHd N a := by unfold endOf; simp
    rw [e]
theorem hasNode_go {k : Nat → Int32 → List Ob → Option (Int32 × List Ob)} (hN : isNet m p N) (hq : isPth m q l) (hl : AOK N l) (hv : 0 ≤ v ∧ v < 8) : ∀ (suf pre : List Int) (n : Nat), l = pre ++ suf → suf.length < n → f_X4_hasNode_2 fu k n p q (iI v) (iI (pre.length : Int)) (mem w m) = if suf.any (fun a => decide (aHd N a = v)) then some (iI 1, mem w m) else k p (iI v) (mem w m) := by
  have h7 := hq.2.2.2
  have hW := hN.2.2.1
  intro suf
  induction suf with
  | nil =>
    intro pre n hs hn
    have hlen : l.length = pre.length := by rw [hs]; simp
    obtain ⟨n, rfl⟩ : ∃ k, n = k + 1 := ⟨n - 1, by omega⟩
    rw [f_X4_hasNode_2, f_X4_hasNode_2b]
    simp (disch := omega) only [Option.bind_some, bd2_some, bdX_ok, bdX_er, nm_eq, n_0, n_1, n_2, n_3, n_4, n_5, n_6, n_7, iI_neg, iI_add, iI_sub, iI_mul, ile, ilt, ieq, Q_len hq, Q_arr hq, Q_has hq]
    rw [if_pos (by omega)]
    rfl
  | cons a suf ih =>
    intro pre n hs hn
    have hlen : l.length = pre.length + (suf.length + 1) := by rw [hs]; simp
    have hg := Q_get (w := w) (j := pre.length) (a := a) hq (by rw [hs]; exact mid_at)
    obtain ⟨ha, ha'⟩ := hl a (by rw [hs]; simp)
    have hA := hN.2.2.arc ha ha'
    simp only [List.length_cons] at hn
    obtain ⟨n, rfl⟩ : ∃ k, n = k + 1 := ⟨n - 1, by omega⟩
    rw [f_X4_hasNode_2, f_X4_hasNode_2b]
    simp (disch := omega) only [Option.bind_some, bd2_some, bdX_ok, bdX_er, nm_eq, n_0, n_1, n_2, n_3, n_4, n_5, n_6, n_7, iI_neg, iI_add, iI_sub, iI_mul, ile, ilt, ieq, Q_len hq, Q_arr hq, Q_has hq, K_has hN, K_0 hN, K_1 hN, K_2 hN, K_3 hN, K_4 hN, K_5 hN, K_6 hN, K_7 hN, K_8 hN, K_tl hN, K_hd hN, K_co hN, K_ex hN, hg]
    rw [if_neg (by omega)]
    by_cases hc : aHd N a = v
    · rw [if_pos hc, if_pos (by simp [hc])]
    · rw [if_neg hc]
      have := ih (pre ++ [a]) n (by rw [hs]; simp) (by omega)
      rw [List.length_append, List.length_singleton, Int.natCast_add, show ((1 : Nat) : Int) = 1 from rfl] at this
      rw [this]
      simp [hc]
theorem hasNode_eq (hfu : 100 ≤ fu) (hN : isNet m p N) (hq : isPth m q l) (hl : AOK N l) (hv : 0 ≤ v ∧ v < 8) : f_X4_hasNode fu p q (iI v) (mem w m) = some (iI (b2 (hasNd N l v)), mem w m) := by
  have h7 := hq.2.2.2
  have hW := hN.2.2.1
  rw [f_X4_hasNode]
  have := hasNode_go (w := w) (fu := fu) (k := fun x1 x2 M3 => f_X4_hasNode_33 fu x1 x2 M3) hN hq hl hv l [] fu rfl (by omega)
  simp (disch := omega) only [Option.bind_some, bd2_some, bdX_ok, bdX_er, nm_eq, n_0, n_1, n_2, n_3, n_4, n_5, n_6, n_7, iI_neg, iI_add, iI_sub, iI_mul, ile, ilt, ieq]
  rw [List.length_nil, show ((0 : Nat) : Int) = 0 from rfl] at this
  rw [this]
  unfold f_X4_hasNode_33
  simp (disch := omega) only [Option.bind_some, bd2_some, bdX_ok, bdX_er, nm_eq, n_0, n_1, n_2, n_3, n_4, n_5, n_6, n_7, iI_neg, iI_add, iI_sub, iI_mul, ile, ilt, ieq, K_has hN, K_0 hN, K_1 hN, K_2 hN, K_3 hN, K_4 hN, K_5 hN, K_6 hN, K_7 hN, K_8 hN, K_tl hN, K_hd hN, K_co hN, K_ex hN]
  unfold hasNd b2
  by_cases h1 : v = nS N <;> cases h2 : l.any (fun a => decide (aHd N a = v)) <;> simp [h1, h2]
  all_goals (first | rfl | (rw [h1] at h2; simp [h2]) | skip)
theorem canFollow_eq (hfu : 100 ≤ fu) (hN : isNet m p N) (hq : isPth m q l) (hl : AOK N l) (h0 : 0 ≤ z) (h1 : z < nA N) : f_X4_canFollow fu p q (iI z) (mem w m) = some (iI (b2 (canFol N l z)), mem w m) := by
  have hW := hN.2.2.1
  have hA := hN.2.2.arc h0 h1
  have hE := endOf_nn hN.2.2 hl
  rw [f_X4_canFollow]
  simp (disch := omega) only [Option.bind_some, bd2_some, bdX_ok, bdX_er, nm_eq, n_0, n_1, n_2, n_3, n_4, n_5, n_6, n_7, iI_neg, iI_add, iI_sub, iI_mul, ile, ilt, ieq, K_has hN, K_0 hN, K_1 hN, K_2 hN, K_3 hN, K_4 hN, K_5 hN, K_6 hN, K_7 hN, K_8 hN, K_tl hN, K_hd hN, K_co hN, K_ex hN, endOf_eq hN hq hl]
  rw [hasNode_eq hfu hN hq hl (by omega)]
  simp (disch := omega) only [Option.bind_some, bd2_some, bdX_ok, bdX_er, nm_eq, n_0, n_1, n_2, n_3, n_4, n_5, n_6, n_7, iI_neg, iI_add, iI_sub, iI_mul, ile, ilt, ieq]
  unfold canFol
  by_cases c1 : endOf N l = aTl N z
  · rw [if_pos c1, if_pos c1]
    by_cases c2 : endOf N l = nT N
    · rw [if_pos c2, if_pos c2]; rfl
    · rw [if_neg c2, if_neg c2]
      cases hasNd N l (aHd N z) <;> rfl
  · rw [if_neg c1, if_neg c1]; rfl
end NQ
