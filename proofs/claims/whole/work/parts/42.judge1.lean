/-! the class's search for the greatest difference -/
def firstOf (d W : Nat) : Prop := pcN 16 d < pcN 16 W ∨ (pcN 16 d = pcN 16 W ∧ d < W)
def isBest (S : Nat → Prop) (dl : Nat → Int) (g : Int) (W : Nat) : Prop := -1 ≤ g ∧ ((g = -1 ∧ W = 0) ∨ (S W ∧ dl W = g ∧ -1 < g)) ∧ ∀ d, S d → dl d < g ∨ (dl d = g ∧ ¬ firstOf d W)
theorem isBest_one {S : Nat → Prop} {dl : Nat → Int} {g g' : Int} {W W' : Nat} (h : isBest S dl g W) (h' : isBest S dl g' W') : g = g' ∧ W = W' := by
  obtain ⟨a1, a2, a3⟩ := h
  obtain ⟨b1, b2, b3⟩ := h'
  have e : g = g' := by
    rcases a2 with ⟨q, -⟩ | ⟨q1, q2, q3⟩ <;> rcases b2 with ⟨r, -⟩ | ⟨r1, r2, r3⟩
    · omega
    · rcases a3 W' r1 with z | ⟨z, -⟩ <;> omega
    · rcases b3 W q1 with z | ⟨z, -⟩ <;> omega
    · rcases a3 W' r1 with z | ⟨z, -⟩ <;> rcases b3 W q1 with y | ⟨y, -⟩ <;> omega
  refine ⟨e, ?_⟩
  rcases a2 with ⟨q, q'⟩ | ⟨q1, q2, q3⟩ <;> rcases b2 with ⟨r, r'⟩ | ⟨r1, r2, r3⟩
  · omega
  · omega
  · omega
  · have z1 : ¬ firstOf W' W := by rcases a3 W' r1 with z | ⟨-, z⟩; omega; exact z
    have z2 : ¬ firstOf W W' := by rcases b3 W q1 with z | ⟨-, z⟩; omega; exact z
    unfold firstOf at z1 z2
    omega
theorem isBest_zero {dl : Nat → Int} : isBest (fun _ => False) dl (-1) 0 := ⟨by omega, Or.inl ⟨rfl, rfl⟩, fun d h => h.elim⟩
/-- one more delay -/
theorem isBest_up {S : Nat → Prop} {dl : Nat → Int} {g : Int} {W d : Nat} (h : isBest S dl g W) : (g < dl d → isBest (fun x => S x ∨ x = d) dl (dl d) d) ∧ (dl d = g → firstOf d W → isBest (fun x => S x ∨ x = d) dl g d) ∧ (¬ g < dl d → (dl d = g → ¬ firstOf d W) → isBest (fun x => S x ∨ x = d) dl g W) := by
  obtain ⟨a1, a2, a3⟩ := h
  have nf : ¬ firstOf d d := by unfold firstOf; omega
  refine ⟨fun hlt => ⟨by omega, Or.inr ⟨Or.inr rfl, rfl, by omega⟩, fun x hx => ?_⟩, fun he hf => ⟨a1, Or.inr ⟨Or.inr rfl, he, ?_⟩, fun x hx => ?_⟩, fun h1 h2 => ⟨a1, ?_, fun x hx => ?_⟩⟩
  · rcases hx with hx | rfl
    · rcases a3 x hx with z | ⟨z, -⟩ <;> (left; omega)
    · exact Or.inr ⟨rfl, nf⟩
  · rcases a2 with ⟨q, q'⟩ | ⟨-, -, q⟩
    · subst q'
      have z : pcN 16 0 = 0 := by decide
      unfold firstOf at hf
      omega
    · exact q
  · rcases hx with hx | rfl
    · rcases a3 x hx with z | ⟨z, z'⟩
      · exact Or.inl z
      · refine Or.inr ⟨z, ?_⟩
        unfold firstOf at hf z' ⊢
        omega
    · exact Or.inr ⟨he, nf⟩
  · rcases a2 with q | ⟨q1, q2, q3⟩
    · exact Or.inl q
    · exact Or.inr ⟨Or.inl q1, q2, q3⟩
  · rcases hx with hx | rfl
    · exact a3 x hx
    · by_cases e : dl x = g
      · exact Or.inr ⟨e, h2 e⟩
      · left; omega
theorem isBest_cong {S S' : Nat → Prop} {dl : Nat → Int} {g : Int} {W : Nat} (h : isBest S dl g W) (e : ∀ x, S x ↔ S' x) : isBest S' dl g W := by
  obtain ⟨a1, a2, a3⟩ := h
  refine ⟨a1, ?_, fun d hd => a3 d ((e d).mpr hd)⟩
  rcases a2 with q | ⟨q1, q2, q3⟩
  · exact Or.inl q
  · exact Or.inr ⟨(e W).mp q1, q2, q3⟩
/-- only the judge's own numbers have changed -/
def sameJ (m m' : Mm) : Prop := ∀ p, p ≠ 258 → p ≠ 259 → m' p = m p
theorem sameJ.trans {m m' m'' : Mm} (h : sameJ m m') (h' : sameJ m' m'') : sameJ m m'' := fun p h0 h1 => (h' p h0 h1).trans (h p h0 h1)
theorem sameJ.rf {m : Mm} : sameJ m m := fun _ _ _ => rfl
theorem sameJ.net {m m' : Mm} {N : Nt} (h : sameJ m m') (hN : isNet m 2 N) : isNet m' 2 N := hN.cong (h _ (by decide) (by decide)) (h _ (by decide) (by decide)) (h _ (by decide) (by decide)) (h _ (by decide) (by decide)) (h _ (by decide) (by decide))
theorem sameJ_up {m : Mm} {k v : Int} {p : Nat} (hp : p = 258 ∨ p = 259) : sameJ m (up m p k v) := fun p' h0 h1 => up_ne (by omega)
theorem sameJ_P {m m' : Mm} (h : sameP 259 m m') : sameJ m m' := fun p _ h1 => h p h1
theorem sameJ.pth {m m' : Mm} {q : Nat} {l : List Int} (h : sameJ m m') (h0 : q ≠ 258) (h1 : q ≠ 259) (h2 : q ≠ 257) (hq : isPth m q l) : isPth m' q l := hq.cong (h _ h0 h1) (h _ (by omega) (by omega))
/-- told routes of a state -/
def isTolds (m : Mm) (b : Nat) (T : List (List Int)) : Prop := isS b ∧ m b 3 = T.length ∧ T.length ≤ 6 ∧ ∀ (i : Nat) (l : List Int), T[i]? = some l → isPth m (b + 9 + 2 * i) l
def TOK (N : Nt) (T : List (List Int)) : Prop := ∀ l ∈ T, AOK N l
def lstT (N : Nt) (D : Int32) : List (List Int) → Int → Int
  | [], s => s
  | l :: T, s => lstT N D T (if cst N l D < s then cst N l D else s)
theorem lstT_r {N : Nt} (hW : WFN N) {D : Int32} : ∀ (T : List (List Int)) (s : Int), (∀ l ∈ T, AOK N l) → 0 ≤ s → 0 ≤ lstT N D T s ∧ lstT N D T s ≤ s := by
  intro T
  induction T with
  | nil => intro s _ h; exact ⟨h, Int.le_refl _⟩
  | cons l T ih =>
    intro s hT hs
    have hc := cst_nn (D := D) hW (hT l List.mem_cons_self)
    rw [lstT]
    obtain ⟨h1, h2⟩ := ih (if cst N l D < s then cst N l D else s) (fun x hx => hT x (List.mem_cons_of_mem _ hx)) (by split <;> omega)
    have h3 : (if cst N l D < s then cst N l D else s) ≤ s := by split <;> omega
    exact ⟨h1, Int.le_trans h2 h3⟩
theorem AOK_len {N : Nt} (hW : WFN N) {m : Mm} {q : Nat} {l : List Int} (h : isPth m q l) (hl : AOK N l) {D : Int32} : 0 ≤ cst N l D ∧ cst N l D ≤ 1386 := by
  have h1 := cst_nn (D := D) hW hl
  have h2 := h.2.2.2
  omega
section JG
variable {w : Wl} {N : Nt} {fu : Nat} {D : Int32} {T : List (List Int)}
theorem leastTold_go (hfu : 100 ≤ fu) {m : Mm} (hN : isNet m 2 N) (hT : isTolds m 1 T) (hK : TOK N T) : ∀ (suf pre : List (List Int)) (n : Nat) (s : Int), T = pre ++ suf → suf.length < n → 0 ≤ s → s ≤ 1000000 → f_X3_leastToldCost_5 fu n 258 D (iI s) (iI (pre.length : Int)) (mem w m) = some (iI (lstT N D suf s), mem w m) := by
  have h6 := hT.2.2.1
  have hS := hT.1
  intro suf
  induction suf with
  | nil =>
    intro pre n s hs hn h0 h1
    have hlen : T.length = pre.length := by rw [hs]; simp
    obtain ⟨n, rfl⟩ : ∃ k, n = k + 1 := ⟨n - 1, by omega⟩
    rw [f_X3_leastToldCost_5, f_X3_leastToldCost_5b]
    simp (disch := omega) only [Option.bind_some, bd2_some, bdX_ok, bdX_er, nm_eq, n_0, n_1, n_2, n_3, n_4, n_5, n_6, n_7, n_8, n_9, n_10, n_11, n_12, n_14, n_15, n_16, n_17, n_18, n_19, n_20, n_21, n_24, n_27, n_28, n_32, n_43, n_45, n_48, n_56, n_57, n_59, n_64, n_70, n_97, n_99, n_100, n_104, n_118, n_122, n_126, n_127, n_128, n_129, n_130, n_150, n_255, n_600, n_1000, n_1050, n_1200, n_999999, n_1000000, iI_neg, iI_add, iI_sub, iI_mul, ile, ilt, ieq, G3_0, G3_1, S_3 hS, hT.2.1]
    rw [if_pos (by first | exact trivial | omega)]
    rfl
  | cons l suf ih =>
    intro pre n s hs hn h0 h1
    have hlen : T.length = pre.length + (suf.length + 1) := by rw [hs]; simp
    have hq := hT.2.2.2 pre.length l (by rw [hs]; exact mid_at)
    have hl := hK l (by rw [hs]; simp)
    have hc := AOK_len hN.2.2 (D := D) hq hl
    have hp : aP (mem w m) (1 + 8) 14 (iI (pre.length : Int)) = some (1 + 9 + 2 * pre.length) := S_told hS (by omega)
    simp only [List.length_cons] at hn
    obtain ⟨n, rfl⟩ : ∃ k, n = k + 1 := ⟨n - 1, by omega⟩
    rw [f_X3_leastToldCost_5, f_X3_leastToldCost_5b]
    simp (disch := omega) only [Option.bind_some, bd2_some, bdX_ok, bdX_er, nm_eq, n_0, n_1, n_2, n_3, n_4, n_5, n_6, n_7, n_8, n_9, n_10, n_11, n_12, n_14, n_15, n_16, n_17, n_18, n_19, n_20, n_21, n_24, n_27, n_28, n_32, n_43, n_45, n_48, n_56, n_57, n_59, n_64, n_70, n_97, n_99, n_100, n_104, n_118, n_122, n_126, n_127, n_128, n_129, n_130, n_150, n_255, n_600, n_1000, n_1050, n_1200, n_999999, n_1000000, iI_neg, iI_add, iI_sub, iI_mul, ile, ilt, ieq, G3_0, G3_1, S_3 hS, S_2 hS, hT.2.1, hp, K_has hN, K_0 hN, K_1 hN, K_2 hN, K_3 hN, K_4 hN, K_5 hN, K_6 hN, K_7 hN, K_8 hN, K_tl hN, K_hd hN, K_co hN, K_ex hN, costAgainst_eq hfu hN hq hl]
    rw [if_neg (by first | exact not_false | omega)]
    have e : (if cst N l D < s then iI (cst N l D) else iI s) = iI (if cst N l D < s then cst N l D else s) := by split <;> rfl
    rw [e]
    have := ih (pre ++ [l]) n (if cst N l D < s then cst N l D else s) (by rw [hs]; simp) (by omega) (by split <;> omega) (by split <;> omega)
    rw [List.length_append, List.length_singleton, Int.natCast_add, show ((1 : Nat) : Int) = 1 from rfl] at this
    rw [this]
    rfl
theorem leastTold_eq (hfu : 100 ≤ fu) {m : Mm} (hN : isNet m 2 N) (hT : isTolds m 1 T) (hK : TOK N T) : f_X3_leastToldCost fu 258 D (mem w m) = some (iI (lstT N D T 1000000), mem w m) := by
  have h6 := hT.2.2.1
  rw [f_X3_leastToldCost]
  simp (disch := omega) only [Option.bind_some, bd2_some, bdX_ok, bdX_er, nm_eq, n_0, n_1, n_2, n_3, n_4, n_5, n_6, n_7, n_8, n_9, n_10, n_11, n_12, n_14, n_15, n_16, n_17, n_18, n_19, n_20, n_21, n_24, n_27, n_28, n_32, n_43, n_45, n_48, n_56, n_57, n_59, n_64, n_70, n_97, n_99, n_100, n_104, n_118, n_122, n_126, n_127, n_128, n_129, n_130, n_150, n_255, n_600, n_1000, n_1050, n_1200, n_999999, n_1000000, iI_neg, iI_add, iI_sub, iI_mul, ile, ilt, ieq]
  exact leastTold_go (w := w) hfu hN hT hK T [] fu 1000000 rfl (by omega) (by omega) (by omega)
theorem isFirstOf_eq {m : Mm} {d W : Nat} (hd : d < 65536) (hW : W < 65536) : (firstOf d W → f_X3_isFirstOf fu (iI (d : Int)) (iI (W : Int)) (mem w m) = some (iI 1, mem w m)) ∧ (¬ firstOf d W → f_X3_isFirstOf fu (iI (d : Int)) (iI (W : Int)) (mem w m) = some (iI 0, mem w m)) := by
  have hp : ∀ k n : Nat, pcN k n ≤ k := fun k => by
    induction k with
    | zero => intro n; exact Nat.le_refl _
    | succ k ih => intro n; rw [pcN_succ]; have := ih (n / 2); omega
  have p1 := hp 16 d
  have p2 := hp 16 W
  unfold f_X3_isFirstOf f_X3_isFirstOf_25 firstOf
  rw [bitCount_eq hd, bd2_some, bitCount_eq hW, bd2_some]
  simp (disch := omega) only [Option.bind_some, bd2_some, bdX_ok, bdX_er, nm_eq, n_0, n_1, n_2, n_3, n_4, n_5, n_6, n_7, n_8, n_9, n_10, n_11, n_12, n_14, n_15, n_16, n_17, n_18, n_19, n_20, n_21, n_24, n_27, n_28, n_32, n_43, n_45, n_48, n_56, n_57, n_59, n_64, n_70, n_97, n_99, n_100, n_104, n_118, n_122, n_126, n_127, n_128, n_129, n_130, n_150, n_255, n_600, n_1000, n_1050, n_1200, n_999999, n_1000000, iI_neg, iI_add, iI_sub, iI_mul, ile, ilt, ieq]
  refine ⟨fun h => ?_, fun h => ?_⟩
  · by_cases c : (pcN 16 d : Int) < pcN 16 W
    · rw [if_pos c]
    · rw [if_neg c, if_pos (by omega), if_neg (by omega)]
  · rw [if_neg (by omega)]
    by_cases c : (pcN 16 d : Int) = pcN 16 W
    · rw [if_pos c, if_pos (by omega)]
    · rw [if_neg c]
end JG
