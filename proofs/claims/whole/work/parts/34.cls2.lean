/-- the arc of a path with the greatest extra above 0 that is not in a delay: the lowest of those -/
def wE (N : Nt) (D : Int32) (k : Int) : Int := if bt D k = 0 then aEx N k else 0
def wF (N : Nt) (D : Int32) : List Int → Int → Int → Int
  | [], a, _ => a
  | k :: l, a, g => if g < wE N D k then wF N D l k (wE N D k) else if wE N D k = g then (if a ≤ k then wF N D l a g else wF N D l k (wE N D k)) else wF N D l a g
def wArc (N : Nt) (l : List Int) (D : Int32) : Int := wF N D l (-1) 0
/-- the witness of a path: so many arcs -/
def witF (N : Nt) (l : List Int) : Nat → Int32 → Int32
  | 0, D => D
  | n + 1, D => if wArc N l D = -1 then D else witF N l n (D ||| (1 <<< (iI (wArc N l D) &&& 31)))
def wit (N : Nt) (l : List Int) : Int32 := witF N l (nB N).toNat 0
def wst (N : Nt) (l : List Int) : Int := cst N l (wit N l)
theorem wF_in {N : Nt} {D : Int32} : ∀ (l : List Int) (a g : Int), wF N D l a g = a ∨ wF N D l a g ∈ l := by
  intro l
  induction l with
  | nil => intro a g; exact Or.inl rfl
  | cons k l ih =>
    intro a g
    have tk : ∀ e, wF N D l k e = a ∨ wF N D l k e ∈ k :: l := fun e => by
      rcases ih k e with h | h
      · exact Or.inr (by rw [h]; exact List.mem_cons_self)
      · exact Or.inr (List.mem_cons_of_mem _ h)
    have ta : wF N D l a g = a ∨ wF N D l a g ∈ k :: l := by
      rcases ih a g with h | h
      · exact Or.inl h
      · exact Or.inr (List.mem_cons_of_mem _ h)
    simp only [wF]
    split
    · exact tk _
    · split
      · split
        · exact ta
        · exact tk _
      · exact ta
theorem wArc_in {N : Nt} {D : Int32} {l : List Int} (hl : AOK N l) : wArc N l D = -1 ∨ (0 ≤ wArc N l D ∧ wArc N l D < nA N) := by
  rcases wF_in (N := N) (D := D) l (-1) 0 with h | h
  · exact Or.inl h
  · exact Or.inr (hl _ h)
theorem cst_nn {N : Nt} (hW : WFN N) {D : Int32} : ∀ {l : List Int}, AOK N l → 0 ≤ cst N l D ∧ cst N l D ≤ 198 * l.length := by
  intro l
  induction l with
  | nil => intro _; simp [cst]
  | cons a l ih =>
    intro hl
    have h := ih (fun b hb => hl b (List.mem_cons_of_mem _ hb))
    obtain ⟨h0, h1⟩ := hl a List.mem_cons_self
    have hA := hW.arc h0 h1
    simp only [cst, List.length_cons]
    rcases bt_01 D a with e | e <;> rw [e] <;> omega
section NW
variable {w : Wl} {m : Mm} {p q q' : Nat} {z v : Int} {N : Nt} {l l' : List Int} {fu : Nat} {D : Int32}
theorem worstArc_go (hN : isNet m p N) (hq : isPth m q l) (hl : AOK N l) : ∀ (suf pre : List Int) (n : Nat) (a g : Int), l = pre ++ suf → suf.length < n → -1 ≤ a → a < 16 → 0 ≤ g → g ≤ 99 → f_X4_worstArc_8 fu n p q D (iI a) (iI g) (iI (pre.length : Int)) (mem w m) = some (iI (wF N D suf a g), mem w m) := by
  have h7 := hq.2.2.2
  have hW := hN.2.2.1
  intro suf
  induction suf with
  | nil =>
    intro pre n a g hs hn _ _ _ _
    have hlen : l.length = pre.length := by rw [hs]; simp
    obtain ⟨n, rfl⟩ : ∃ k, n = k + 1 := ⟨n - 1, by omega⟩
    rw [f_X4_worstArc_8, f_X4_worstArc_8b]
    simp (disch := omega) only [Option.bind_some, bd2_some, bdX_ok, bdX_er, nm_eq, n_0, n_1, n_2, n_3, n_4, n_5, n_6, n_7, n_8, n_9, n_10, n_11, n_12, n_14, n_15, n_16, n_17, n_18, n_19, n_20, n_21, n_24, n_27, n_28, n_32, n_43, n_45, n_48, n_56, n_57, n_59, n_64, n_70, n_97, n_99, n_100, n_104, n_118, n_122, n_126, n_127, n_128, n_129, n_130, n_150, n_255, n_600, n_1000, n_1050, n_1200, n_999999, n_1000000, iI_neg, iI_add, iI_sub, iI_mul, ile, ilt, ieq, Q_len hq, Q_arr hq, Q_has hq]
    rw [if_pos (by omega)]
    rfl
  | cons k suf ih =>
    intro pre n a g hs hn ha1 ha2 hg1 hg2
    have hlen : l.length = pre.length + (suf.length + 1) := by rw [hs]; simp
    have hg := Q_get (w := w) (j := pre.length) (a := k) hq (by rw [hs]; exact mid_at)
    obtain ⟨ha, ha'⟩ := hl k (by rw [hs]; simp)
    have hA := hN.2.2.arc ha ha'
    simp only [List.length_cons] at hn
    obtain ⟨n, rfl⟩ : ∃ k, n = k + 1 := ⟨n - 1, by omega⟩
    have ihk : ∀ a g : Int, -1 ≤ a → a < 16 → 0 ≤ g → g ≤ 99 → f_X4_worstArc_8 fu n p q D (iI a) (iI g) (iI ((pre.length : Int) + 1)) (mem w m) = some (iI (wF N D suf a g), mem w m) := fun a g h1 h2 h3 h4 => by
      have := ih (pre ++ [k]) n a g (by rw [hs]; simp) (by omega) h1 h2 h3 h4
      rw [List.length_append, List.length_singleton, Int.natCast_add, show ((1 : Nat) : Int) = 1 from rfl] at this
      exact this
    have key : ∀ e : Int, 0 ≤ e → e ≤ 99 → f_X4_worstArc_46 fu p q D (iI a) (iI g) (iI (pre.length : Int)) (iI k) (iI e) (mem w m) (fun a0 a1 a2 a3 a4 a5 M => f_X4_worstArc_8 fu n a0 a1 a2 a3 a4 a5 M) = some (iI (if g < e then wF N D suf k e else if e = g then (if a ≤ k then wF N D suf a g else wF N D suf k e) else wF N D suf a g), mem w m) := fun e h1 h2 => by
      unfold f_X4_worstArc_46 f_X4_worstArc_68 f_X4_worstArc_75
      simp (disch := omega) only [Option.bind_some, bd2_some, bdX_ok, bdX_er, nm_eq, n_0, n_1, n_2, n_3, n_4, n_5, n_6, n_7, n_8, n_9, n_10, n_11, n_12, n_14, n_15, n_16, n_17, n_18, n_19, n_20, n_21, n_24, n_27, n_28, n_32, n_43, n_45, n_48, n_56, n_57, n_59, n_64, n_70, n_97, n_99, n_100, n_104, n_118, n_122, n_126, n_127, n_128, n_129, n_130, n_150, n_255, n_600, n_1000, n_1050, n_1200, n_999999, n_1000000, iI_neg, iI_add, iI_sub, iI_mul, ile, ilt, ieq]
      rw [ihk k e (by omega) (by omega) h1 h2, ihk a g ha1 ha2 hg1 hg2]
      by_cases c1 : g < e
      · rw [if_pos c1, if_pos c1]
      · rw [if_neg c1, if_neg c1]
        by_cases c2 : e = g
        · rw [if_pos c2, if_pos c2]
          by_cases c3 : a ≤ k
          · rw [if_pos c3, if_pos c3]
          · rw [if_neg c3, if_neg c3]
        · rw [if_neg c2, if_neg c2]
    rw [f_X4_worstArc_8, f_X4_worstArc_8b]
    simp (disch := omega) only [Option.bind_some, bd2_some, bdX_ok, bdX_er, nm_eq, n_0, n_1, n_2, n_3, n_4, n_5, n_6, n_7, n_8, n_9, n_10, n_11, n_12, n_14, n_15, n_16, n_17, n_18, n_19, n_20, n_21, n_24, n_27, n_28, n_32, n_43, n_45, n_48, n_56, n_57, n_59, n_64, n_70, n_97, n_99, n_100, n_104, n_118, n_122, n_126, n_127, n_128, n_129, n_130, n_150, n_255, n_600, n_1000, n_1050, n_1200, n_999999, n_1000000, iI_neg, iI_add, iI_sub, iI_mul, ile, ilt, ieq, Q_len hq, Q_arr hq, Q_has hq, K_has hN, K_0 hN, K_1 hN, K_2 hN, K_3 hN, K_4 hN, K_5 hN, K_6 hN, K_7 hN, K_8 hN, K_tl hN, K_hd hN, K_co hN, K_ex hN, hg]
    rw [if_neg (by omega), isIn_eq ha (by omega)]
    have hb := bt_01 D k
    simp (disch := omega) only [Option.bind_some, bd2_some, bdX_ok, bdX_er, nm_eq, n_0, n_1, n_2, n_3, n_4, n_5, n_6, n_7, n_8, n_9, n_10, n_11, n_12, n_14, n_15, n_16, n_17, n_18, n_19, n_20, n_21, n_24, n_27, n_28, n_32, n_43, n_45, n_48, n_56, n_57, n_59, n_64, n_70, n_97, n_99, n_100, n_104, n_118, n_122, n_126, n_127, n_128, n_129, n_130, n_150, n_255, n_600, n_1000, n_1050, n_1200, n_999999, n_1000000, iI_neg, iI_add, iI_sub, iI_mul, ile, ilt, ieq, Q_len hq, Q_arr hq, Q_has hq, K_has hN, K_0 hN, K_1 hN, K_2 hN, K_3 hN, K_4 hN, K_5 hN, K_6 hN, K_7 hN, K_8 hN, K_tl hN, K_hd hN, K_co hN, K_ex hN, hg]
    rw [wF]
    rcases hb with hb | hb
    · rw [hb, if_pos rfl, show wE N D k = aEx N k from if_pos hb]
      exact key _ (by omega) (by omega)
    · rw [hb, if_neg (by decide), show wE N D k = 0 from if_neg (by omega)]
      exact key 0 (by omega) (by omega)
theorem worstArc_eq (hfu : 100 ≤ fu) (hN : isNet m p N) (hq : isPth m q l) (hl : AOK N l) : f_X4_worstArc fu p q D (mem w m) = some (iI (wArc N l D), mem w m) := by
  have h7 := hq.2.2.2
  rw [f_X4_worstArc]
  exact worstArc_go (w := w) hN hq hl l [] fu (-1) 0 rfl (by omega) (by omega) (by omega) (by omega) (by omega)
theorem witnessOf_go (hfu : 100 ≤ fu) (hN : isNet m p N) (hq : isPth m q l) (hl : AOK N l) : ∀ (d n : Nat) (D : Int32) (i : Int), i + d = nB N → 0 ≤ i → d < n → f_X4_witnessOf_4 fu n p q D (iI i) (mem w m) = some (witF N l d D, mem w m) := by
  have hW := hN.2.2.1
  intro d
  induction d with
  | zero =>
    intro n D i hi h0 hn
    obtain ⟨n, rfl⟩ : ∃ k, n = k + 1 := ⟨n - 1, by omega⟩
    rw [f_X4_witnessOf_4, f_X4_witnessOf_4b]
    simp (disch := omega) only [Option.bind_some, bd2_some, bdX_ok, bdX_er, nm_eq, n_0, n_1, n_2, n_3, n_4, n_5, n_6, n_7, n_8, n_9, n_10, n_11, n_12, n_14, n_15, n_16, n_17, n_18, n_19, n_20, n_21, n_24, n_27, n_28, n_32, n_43, n_45, n_48, n_56, n_57, n_59, n_64, n_70, n_97, n_99, n_100, n_104, n_118, n_122, n_126, n_127, n_128, n_129, n_130, n_150, n_255, n_600, n_1000, n_1050, n_1200, n_999999, n_1000000, iI_neg, iI_add, iI_sub, iI_mul, ile, ilt, ieq, K_has hN, K_0 hN, K_1 hN, K_2 hN, K_3 hN, K_4 hN, K_5 hN, K_6 hN, K_7 hN, K_8 hN, K_tl hN, K_hd hN, K_co hN, K_ex hN]
    rw [if_pos (by omega)]
    rfl
  | succ d ih =>
    intro n D i hi h0 hn
    obtain ⟨n, rfl⟩ : ∃ k, n = k + 1 := ⟨n - 1, by omega⟩
    rw [f_X4_witnessOf_4, f_X4_witnessOf_4b]
    have hw := wArc_in (D := D) hl
    simp (disch := omega) only [Option.bind_some, bd2_some, bdX_ok, bdX_er, nm_eq, n_0, n_1, n_2, n_3, n_4, n_5, n_6, n_7, n_8, n_9, n_10, n_11, n_12, n_14, n_15, n_16, n_17, n_18, n_19, n_20, n_21, n_24, n_27, n_28, n_32, n_43, n_45, n_48, n_56, n_57, n_59, n_64, n_70, n_97, n_99, n_100, n_104, n_118, n_122, n_126, n_127, n_128, n_129, n_130, n_150, n_255, n_600, n_1000, n_1050, n_1200, n_999999, n_1000000, iI_neg, iI_add, iI_sub, iI_mul, ile, ilt, ieq, K_has hN, K_0 hN, K_1 hN, K_2 hN, K_3 hN, K_4 hN, K_5 hN, K_6 hN, K_7 hN, K_8 hN, K_tl hN, K_hd hN, K_co hN, K_ex hN, worstArc_eq hfu hN hq hl]
    rw [if_neg (by omega)]
    simp only [witF]
    by_cases hc : wArc N l D = -1
    · rw [if_pos hc, if_pos hc]
    · rw [if_neg hc, if_neg hc]
      have := ih n (D ||| (1 <<< (iI (wArc N l D) &&& 31))) (i + 1) (by omega) (by omega) (by omega)
      exact this
theorem witnessOf_eq (hfu : 100 ≤ fu) (hN : isNet m p N) (hq : isPth m q l) (hl : AOK N l) : f_X4_witnessOf fu p q (mem w m) = some (wit N l, mem w m) := by
  have hW := hN.2.2.1
  rw [f_X4_witnessOf]
  exact witnessOf_go hfu hN hq hl (nB N).toNat fu 0 0 (by omega) (by omega) (by omega)
theorem worstOf_eq (hfu : 100 ≤ fu) (hN : isNet m p N) (hq : isPth m q l) (hl : AOK N l) : f_X4_worstOf fu p q (mem w m) = some (iI (wst N l), mem w m) := by
  rw [f_X4_worstOf]
  simp (disch := omega) only [Option.bind_some, bd2_some, bdX_ok, bdX_er, nm_eq, n_0, n_1, n_2, n_3, n_4, n_5, n_6, n_7, n_8, n_9, n_10, n_11, n_12, n_14, n_15, n_16, n_17, n_18, n_19, n_20, n_21, n_24, n_27, n_28, n_32, n_43, n_45, n_48, n_56, n_57, n_59, n_64, n_70, n_97, n_99, n_100, n_104, n_118, n_122, n_126, n_127, n_128, n_129, n_130, n_150, n_255, n_600, n_1000, n_1050, n_1200, n_999999, n_1000000, iI_neg, iI_add, iI_sub, iI_mul, ile, ilt, ieq, K_has hN, K_0 hN, K_1 hN, K_2 hN, K_3 hN, K_4 hN, K_5 hN, K_6 hN, K_7 hN, K_8 hN, K_tl hN, K_hd hN, K_co hN, K_ex hN, witnessOf_eq hfu hN hq hl, costAgainst_eq hfu hN hq hl]
  rfl
end NW
