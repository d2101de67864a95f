section RD
variable {w : Wl} {m m' : Mm} {p : Nat} {z v k a : Int} {fu : Nat} {N : Nt} {x x' : Sg} {H H' : List Sg} {l : List Int} {T : List (List Int)}
theorem draftEnd_eq (hp : isRw p) (hN : rNet (m p) N) (hD : rPth (m p) 118 l) (hl : AOK N l) : f_X11_draftEnd fu p (mem w m) = some (iI (endOf N l), mem w m) := by
  obtain ⟨d1, d2, d3⟩ := hD
  unfold f_X11_draftEnd
  simp (disch := omega) only [n_69, n_50, n_13, Option.bind_some, bd2_some, bdX_ok, bdX_er, nm_eq, n_0, n_1, n_2, n_3, n_4, n_5, n_6, n_7, n_8, n_9, n_10, n_11, n_12, n_14, n_15, n_16, n_17, n_18, n_19, n_20, n_21, n_24, n_27, n_28, n_32, n_43, n_45, n_48, n_56, n_57, n_59, n_64, n_70, n_97, n_99, n_100, n_104, n_118, n_122, n_126, n_127, n_128, n_129, n_130, n_150, n_255, n_600, n_1000, n_1050, n_1200, n_999999, n_1000000, iI_neg, iI_add, iI_sub, iI_mul, ile, ilt, ieq, Rw_g hp, d1]
  rcases List.eq_nil_or_concat l with rfl | ⟨l0, b, rfl⟩
  · rw [if_pos (by simp), hN.2.1.2.1]
    rfl
  · have ha := hl b (by simp)
    have e : endOf N (l0.concat b) = aHd N b := by unfold endOf; simp
    have hg : m p (118 + ((l0.concat b).length : Int)) = b := by
      have := d3 l0.length b (by simp)
      rw [show (118 : Int) + 1 + (l0.length : Int) = 118 + ((l0.concat b).length : Int) by simp <;> omega] at this
      exact this
    rw [if_neg (by simp <;> omega), hg]
    simp (disch := omega) only [n_69, n_50, n_13, Option.bind_some, bd2_some, bdX_ok, bdX_er, nm_eq, n_0, n_1, n_2, n_3, n_4, n_5, n_6, n_7, n_8, n_9, n_10, n_11, n_12, n_14, n_15, n_16, n_17, n_18, n_19, n_20, n_21, n_24, n_27, n_28, n_32, n_43, n_45, n_48, n_56, n_57, n_59, n_64, n_70, n_97, n_99, n_100, n_104, n_118, n_122, n_126, n_127, n_128, n_129, n_130, n_150, n_255, n_600, n_1000, n_1050, n_1200, n_999999, n_1000000, iI_neg, iI_add, iI_sub, iI_mul, ile, ilt, ieq, arcOf_1 hp hN ha.1 ha.2]
    rw [e]
theorem isOnDraft_go (hp : isRw p) (hN : rNet (m p) N) (hD : rPth (m p) 118 l) (hl : AOK N l) (hv : 0 ≤ v ∧ v < 8) : ∀ (suf pre : List Int) (n : Nat) (b : Bool), l = pre ++ suf → suf.length < n → f_X11_isOnDraft_15 fu n p (iI v) (iI (b2 b)) (iI ((pre.length : Int) + 1)) (mem w m) = some (iI (b2 (b || suf.any (fun a => decide (aHd N a = v)))), mem w m) := by
  obtain ⟨d1, d2, d3⟩ := hD
  have hw := hN.1.1
  intro suf
  induction suf with
  | nil =>
    intro pre n b hs hn
    have hlen : l.length = pre.length := by rw [hs]; simp
    obtain ⟨n, rfl⟩ : ∃ k, n = k + 1 := ⟨n - 1, by omega⟩
    rw [f_X11_isOnDraft_15, f_X11_isOnDraft_15b]
    simp (disch := omega) only [n_69, n_50, n_13, Option.bind_some, bd2_some, bdX_ok, bdX_er, nm_eq, n_0, n_1, n_2, n_3, n_4, n_5, n_6, n_7, n_8, n_9, n_10, n_11, n_12, n_14, n_15, n_16, n_17, n_18, n_19, n_20, n_21, n_24, n_27, n_28, n_32, n_43, n_45, n_48, n_56, n_57, n_59, n_64, n_70, n_97, n_99, n_100, n_104, n_118, n_122, n_126, n_127, n_128, n_129, n_130, n_150, n_255, n_600, n_1000, n_1050, n_1200, n_999999, n_1000000, iI_neg, iI_add, iI_sub, iI_mul, ile, ilt, ieq, Rw_g hp, d1]
    rw [if_pos (by omega), and1 (by cases b <;> simp [b2])]
    simp
  | cons c suf ih =>
    intro pre n b hs hn
    have hlen : l.length = pre.length + (suf.length + 1) := by rw [hs]; simp
    have hc := hl c (by rw [hs]; simp)
    have hA := hN.1.arc hc.1 hc.2
    simp only [List.length_cons] at hn
    obtain ⟨n, rfl⟩ : ∃ k, n = k + 1 := ⟨n - 1, by omega⟩
    have hg : m p (118 + ((pre.length : Int) + 1)) = c := by
      have := d3 pre.length c (by rw [hs]; exact mid_at)
      rw [show (118 : Int) + 1 + (pre.length : Int) = 118 + ((pre.length : Int) + 1) by omega] at this
      exact this
    have ih' : ∀ b, f_X11_isOnDraft_15 fu n p (iI v) (iI (b2 b)) (iI ((pre.length : Int) + 1 + 1)) (mem w m) = some (iI (b2 (b || suf.any (fun a => decide (aHd N a = v)))), mem w m) := fun b => by
      have := ih (pre ++ [c]) n b (by rw [hs]; simp) (by omega)
      rw [show ((pre ++ [c]).length : Int) = (pre.length : Int) + 1 by simp] at this
      exact this
    have i1 := ih' true
    have i0 := ih' false
    rw [show b2 true = 1 from rfl] at i1
    rw [show b2 false = 0 from rfl] at i0
    rw [f_X11_isOnDraft_15, f_X11_isOnDraft_15b]
    unfold f_X11_isOnDraft_42 f_X11_isOnDraft_47
    cases b with
    | true =>
      rw [show b2 true = 1 from rfl]
      simp (disch := omega) only [n_69, n_50, n_13, Option.bind_some, bd2_some, bdX_ok, bdX_er, nm_eq, n_0, n_1, n_2, n_3, n_4, n_5, n_6, n_7, n_8, n_9, n_10, n_11, n_12, n_14, n_15, n_16, n_17, n_18, n_19, n_20, n_21, n_24, n_27, n_28, n_32, n_43, n_45, n_48, n_56, n_57, n_59, n_64, n_70, n_97, n_99, n_100, n_104, n_118, n_122, n_126, n_127, n_128, n_129, n_130, n_150, n_255, n_600, n_1000, n_1050, n_1200, n_999999, n_1000000, iI_neg, iI_add, iI_sub, iI_mul, ile, ilt, ieq, Rw_g hp, d1, hg, arcOf_1 hp hN hc.1 hc.2, i1]
      rw [if_neg (by omega), if_neg (by first | exact not_false | omega | decide)]
      simp
    | false =>
      rw [show b2 false = 0 from rfl]
      simp (disch := omega) only [n_69, n_50, n_13, Option.bind_some, bd2_some, bdX_ok, bdX_er, nm_eq, n_0, n_1, n_2, n_3, n_4, n_5, n_6, n_7, n_8, n_9, n_10, n_11, n_12, n_14, n_15, n_16, n_17, n_18, n_19, n_20, n_21, n_24, n_27, n_28, n_32, n_43, n_45, n_48, n_56, n_57, n_59, n_64, n_70, n_97, n_99, n_100, n_104, n_118, n_122, n_126, n_127, n_128, n_129, n_130, n_150, n_255, n_600, n_1000, n_1050, n_1200, n_999999, n_1000000, iI_neg, iI_add, iI_sub, iI_mul, ile, ilt, ieq, Rw_g hp, d1, hg, arcOf_1 hp hN hc.1 hc.2, i1, i0]
      rw [if_neg (by omega), if_pos (by first | exact trivial | omega | decide)]
      by_cases q : aHd N c = v
      · rw [if_pos q]; simp [q]
      · rw [if_neg q]; simp [q]
theorem isOnDraft_eq (hfu : 100 ≤ fu) (hp : isRw p) (hN : rNet (m p) N) (hD : rPth (m p) 118 l) (hl : AOK N l) (hv : 0 ≤ v ∧ v < 8) : f_X11_isOnDraft fu p (iI v) (mem w m) = some (iI (b2 (hasNd N l v)), mem w m) := by
  have h7 := hD.2.1
  have hw := hN.1.1
  have g := fun b => isOnDraft_go (w := w) (fu := fu) hp hN hD hl hv l [] fu b rfl (by omega)
  have g1 := g true
  have g0 := g false
  rw [show (([] : List Int).length : Int) + 1 = 1 from rfl] at g1 g0
  rw [show b2 true = 1 from rfl] at g1
  rw [show b2 false = 0 from rfl] at g0
  unfold f_X11_isOnDraft f_X11_isOnDraft_12
  simp (disch := omega) only [n_69, n_50, n_13, Option.bind_some, bd2_some, bdX_ok, bdX_er, nm_eq, n_0, n_1, n_2, n_3, n_4, n_5, n_6, n_7, n_8, n_9, n_10, n_11, n_12, n_14, n_15, n_16, n_17, n_18, n_19, n_20, n_21, n_24, n_27, n_28, n_32, n_43, n_45, n_48, n_56, n_57, n_59, n_64, n_70, n_97, n_99, n_100, n_104, n_118, n_122, n_126, n_127, n_128, n_129, n_130, n_150, n_255, n_600, n_1000, n_1050, n_1200, n_999999, n_1000000, iI_neg, iI_add, iI_sub, iI_mul, ile, ilt, ieq, Rw_g hp, hN.2.1.2.1, g1, g0]
  unfold hasNd
  by_cases q : v = nS N
  · rw [if_pos q]; simp [q]
  · rw [if_neg q]; simp [q]
def canG (N : Nt) (l : List Int) (a : Int) : Bool := if 0 ≤ a ∧ a < nA N then canFol N l a else false
theorem canGoR_eq (hfu : 100 ≤ fu) (hp : isRw p) (hN : rNet (m p) N) (hD : rPth (m p) 118 l) (hl : AOK N l) (ha : i32 a) : f_X11_canGo fu p (iI a) (mem w m) = some (iI (b2 (canG N l a)), mem w m) := by
  have hw := hN.1.1
  have hE := endOf_nn hN.1 hl
  have hv := ha
  unfold i32 at hv
  unfold f_X11_canGo
  simp (disch := omega) only [n_69, n_50, n_13, Option.bind_some, bd2_some, bdX_ok, bdX_er, nm_eq, n_0, n_1, n_2, n_3, n_4, n_5, n_6, n_7, n_8, n_9, n_10, n_11, n_12, n_14, n_15, n_16, n_17, n_18, n_19, n_20, n_21, n_24, n_27, n_28, n_32, n_43, n_45, n_48, n_56, n_57, n_59, n_64, n_70, n_97, n_99, n_100, n_104, n_118, n_122, n_126, n_127, n_128, n_129, n_130, n_150, n_255, n_600, n_1000, n_1050, n_1200, n_999999, n_1000000, iI_neg, iI_add, iI_sub, iI_mul, ile, ilt, ieq, Rw_g hp, draftEnd_eq hp hN hD hl, hN.2.1.2.2.2.2, hN.2.1.2.2.1, isInR_eq ha (show i32 0 by unfold i32; omega) (show i32 (nA N - 1) by unfold i32; omega)]
  unfold canG
  by_cases c1 : 0 ≤ a ∧ a < nA N
  · rw [show inB a 0 (nA N - 1) = 1 from if_pos (by omega)]
    rw [if_neg (by first | exact not_false | omega | decide), if_pos c1]
    have hA := hN.1.arc c1.1 c1.2
    simp (disch := omega) only [n_69, n_50, n_13, Option.bind_some, bd2_some, bdX_ok, bdX_er, nm_eq, n_0, n_1, n_2, n_3, n_4, n_5, n_6, n_7, n_8, n_9, n_10, n_11, n_12, n_14, n_15, n_16, n_17, n_18, n_19, n_20, n_21, n_24, n_27, n_28, n_32, n_43, n_45, n_48, n_56, n_57, n_59, n_64, n_70, n_97, n_99, n_100, n_104, n_118, n_122, n_126, n_127, n_128, n_129, n_130, n_150, n_255, n_600, n_1000, n_1050, n_1200, n_999999, n_1000000, iI_neg, iI_add, iI_sub, iI_mul, ile, ilt, ieq, arcOf_0 hp hN c1.1 c1.2, arcOf_1 hp hN c1.1 c1.2, isOnDraft_eq hfu hp hN hD hl (v := aHd N a) (by omega)]
    unfold canFol
    by_cases c2 : endOf N l = nT N
    · rw [if_pos c2, if_pos c2]; split <;> rfl
    · rw [if_neg c2, if_neg c2]
      by_cases c3 : aTl N a = endOf N l
      · rw [if_pos c3, if_pos c3.symm]
        cases hasNd N l (aHd N a) <;> rfl
      · rw [if_neg c3, if_neg (fun q => c3 q.symm)]; rfl
  · rw [show inB a 0 (nA N - 1) = 0 from if_neg (by omega)]
    rw [if_pos (by first | exact trivial | omega | decide), if_neg c1]; rfl
theorem appendsTo_eq (hp : isRw p) (hD : rPth (m p) 118 l) (h7 : l.length < 7) : ∃ m', f_X11_appendsTo fu p (iI a) (mem w m) = some ((), mem w m') ∧ (∀ q, q ≠ p → m' q = m q) ∧ (∀ k, (k < 118 ∨ 126 ≤ k) → m' p k = m p k) ∧ rPth (m' p) 118 (l ++ [a]) := by
  obtain ⟨d1, d2, d3⟩ := hD
  unfold f_X11_appendsTo
  simp (disch := omega) only [n_69, n_50, n_13, Option.bind_some, bd2_some, bdX_ok, bdX_er, nm_eq, n_0, n_1, n_2, n_3, n_4, n_5, n_6, n_7, n_8, n_9, n_10, n_11, n_12, n_14, n_15, n_16, n_17, n_18, n_19, n_20, n_21, n_24, n_27, n_28, n_32, n_43, n_45, n_48, n_56, n_57, n_59, n_64, n_70, n_97, n_99, n_100, n_104, n_118, n_122, n_126, n_127, n_128, n_129, n_130, n_150, n_255, n_600, n_1000, n_1050, n_1200, n_999999, n_1000000, iI_neg, iI_add, iI_sub, iI_mul, ile, ilt, ieq, Rw_g hp, Rw_s hp, d1, up_at]
  refine ⟨_, rfl, fun q hq => by rw [up_ne hq, up_ne hq], fun k hk => by rw [up_off (by omega), up_off (by omega)], ?_, by simp <;> omega, fun j c hj => ?_⟩
  · rw [up_off (by omega), up_at]; simp
  · have hj' : j < l.length + 1 := by have := (List.getElem?_eq_some_iff.mp hj).1; simpa using this
    by_cases q : j = l.length
    · subst q
      rw [show (118 : Int) + 1 + (l.length : Int) = 118 + ((l.length : Int) + 1) by omega, up_at]
      simpa using hj
    · rw [up_off (by omega), up_off (by omega)]
      rw [List.getElem?_append_left (by omega)] at hj
      exact d3 j c hj
theorem toldAs_row {k58 : Nat → Int32 → Int32 → List Ob → Option (Int32 × List Ob)} {l' : List Int} {r : Nat} (hp : isRw p) (hr : r < 6) (hD : rPth (m p) 118 l) (hl : AOK N l) (hl' : AOK N l') (hW : WFN N) (hR : rPth (m p) (70 + 8 * (r : Int)) l') (heq : l'.length = l.length) : ∀ (suf pre suf' pre' : List Int) (n : Nat), l = pre ++ suf → l' = pre' ++ suf' → pre.length = pre'.length → suf.length + 1 < n → f_X11_toldAs_14 fu k58 n p (iI (r : Int)) (iI 1) (iI ((pre.length : Int) + 1)) (mem w m) = k58 p (iI (r : Int)) (iI (b2 (decide (suf' = suf)))) (mem w m) := by
  obtain ⟨d1, d2, d3⟩ := hD
  obtain ⟨e1, e2, e3⟩ := hR
  have hw := hW.1
  intro suf
  induction suf with
  | nil =>
    intro pre suf' pre' n hs hs' hpp hn
    have hlen : l.length = pre.length := by rw [hs]; simp
    have hlen' : l'.length = pre'.length + suf'.length := by rw [hs']; simp
    have : suf' = [] := List.eq_nil_of_length_eq_zero (by omega)
    subst this
    obtain ⟨n, rfl⟩ : ∃ k, n = k + 1 := ⟨n - 1, by omega⟩
    rw [f_X11_toldAs_14, f_X11_toldAs_14b]
    simp (disch := omega) only [n_69, n_50, n_13, Option.bind_some, bd2_some, bdX_ok, bdX_er, nm_eq, n_0, n_1, n_2, n_3, n_4, n_5, n_6, n_7, n_8, n_9, n_10, n_11, n_12, n_14, n_15, n_16, n_17, n_18, n_19, n_20, n_21, n_24, n_27, n_28, n_32, n_43, n_45, n_48, n_56, n_57, n_59, n_64, n_70, n_97, n_99, n_100, n_104, n_118, n_122, n_126, n_127, n_128, n_129, n_130, n_150, n_255, n_600, n_1000, n_1050, n_1200, n_999999, n_1000000, iI_neg, iI_add, iI_sub, iI_mul, ile, ilt, ieq, Rw_g hp, d1]
    rw [if_pos (by omega)]
    rfl
  | cons c suf ih =>
    intro pre suf' pre' n hs hs' hpp hn
    have hlen : l.length = pre.length + (suf.length + 1) := by rw [hs]; simp
    have hlen' : l'.length = pre'.length + suf'.length := by rw [hs']; simp
    cases suf' with
    | nil => simp at hlen'; omega
    | cons c' suf' =>
    have hc := hl c (by rw [hs]; simp)
    have hc' := hl' c' (by rw [hs']; simp)
    simp only [List.length_cons] at hn
    obtain ⟨n, rfl⟩ : ∃ k, n = k + 1 := ⟨n - 1, by omega⟩
    have hg : m p (118 + ((pre.length : Int) + 1)) = c := by
      have := d3 pre.length c (by rw [hs]; exact mid_at)
      rw [show (118 : Int) + 1 + (pre.length : Int) = 118 + ((pre.length : Int) + 1) by omega] at this
      exact this
    have hg' : m p (70 + 8 * (r : Int) + ((pre.length : Int) + 1)) = c' := by
      have := e3 pre'.length c' (by rw [hs']; exact mid_at)
      rw [show (70 : Int) + 8 * (r : Int) + 1 + (pre'.length : Int) = 70 + 8 * (r : Int) + ((pre.length : Int) + 1) by omega] at this
      exact this
    rw [f_X11_toldAs_14, f_X11_toldAs_14b]
    unfold f_X11_toldAs_51
    simp (disch := omega) only [n_69, n_50, n_13, Option.bind_some, bd2_some, bdX_ok, bdX_er, nm_eq, n_0, n_1, n_2, n_3, n_4, n_5, n_6, n_7, n_8, n_9, n_10, n_11, n_12, n_14, n_15, n_16, n_17, n_18, n_19, n_20, n_21, n_24, n_27, n_28, n_32, n_43, n_45, n_48, n_56, n_57, n_59, n_64, n_70, n_97, n_99, n_100, n_104, n_118, n_122, n_126, n_127, n_128, n_129, n_130, n_150, n_255, n_600, n_1000, n_1050, n_1200, n_999999, n_1000000, iI_neg, iI_add, iI_sub, iI_mul, ile, ilt, ieq, Rw_g hp, d1, hg, hg']
    rw [if_neg (by omega), if_neg (by first | exact not_false | omega | decide)]
    by_cases q : c' = c
    · rw [if_pos q]
      have := ih (pre ++ [c]) suf' (pre' ++ [c']) n (by rw [hs]; simp) (by rw [hs']; simp) (by simp [hpp]) (by omega)
      rw [show ((pre ++ [c]).length : Int) = (pre.length : Int) + 1 by simp] at this
      rw [this]
      simp [q]
    · rw [if_neg q]
      obtain ⟨n, rfl⟩ : ∃ k, n = k + 1 := ⟨n - 1, by omega⟩
      rw [f_X11_toldAs_14, f_X11_toldAs_14b]
      simp (disch := omega) only [n_69, n_50, n_13, Option.bind_some, bd2_some, bdX_ok, bdX_er, nm_eq, n_0, n_1, n_2, n_3, n_4, n_5, n_6, n_7, n_8, n_9, n_10, n_11, n_12, n_14, n_15, n_16, n_17, n_18, n_19, n_20, n_21, n_24, n_27, n_28, n_32, n_43, n_45, n_48, n_56, n_57, n_59, n_64, n_70, n_97, n_99, n_100, n_104, n_118, n_122, n_126, n_127, n_128, n_129, n_130, n_150, n_255, n_600, n_1000, n_1050, n_1200, n_999999, n_1000000, iI_neg, iI_add, iI_sub, iI_mul, ile, ilt, ieq, Rw_g hp, d1]
      have e : b2 (decide (c' :: suf' = c :: suf)) = 0 := by simp [q, b2]
      rw [e]
      by_cases z : (l.length : Int) < (pre.length : Int) + 1 + 1
      · rw [if_pos z]
      · rw [if_neg z, if_pos (by first | exact trivial | omega | decide)]
theorem toldAs_one {k58 : Nat → Int32 → Int32 → List Ob → Option (Int32 × List Ob)} {l' : List Int} {r : Nat} (hfu : 100 ≤ fu) (hp : isRw p) (hr : r < 6) (hD : rPth (m p) 118 l) (hl : AOK N l) (hl' : AOK N l') (hW : WFN N) (hR : rPth (m p) (70 + 8 * (r : Int)) l') : f_X11_toldAs_14 fu k58 fu p (iI (r : Int)) (iI 1) (iI 0) (mem w m) = k58 p (iI (r : Int)) (iI (b2 (decide (l' = l)))) (mem w m) := by
  have d1 := hD.1
  have d2 := hD.2.1
  have e1 := hR.1
  have e2 := hR.2.1
  obtain ⟨fu, rfl⟩ : ∃ k, fu = k + 1 := ⟨fu - 1, by omega⟩
  rw [f_X11_toldAs_14, f_X11_toldAs_14b]
  unfold f_X11_toldAs_51
  rw [show (118 : Int32) + iI 0 = iI 118 from rfl]
  simp (disch := omega) only [n_69, n_50, n_13, Option.bind_some, bd2_some, bdX_ok, bdX_er, nm_eq, n_0, n_1, n_2, n_3, n_4, n_5, n_6, n_7, n_8, n_9, n_10, n_11, n_12, n_14, n_15, n_16, n_17, n_18, n_19, n_20, n_21, n_24, n_27, n_28, n_32, n_43, n_45, n_48, n_56, n_57, n_59, n_64, n_70, n_97, n_99, n_100, n_104, n_118, n_122, n_126, n_127, n_128, n_129, n_130, n_150, n_255, n_600, n_1000, n_1050, n_1200, n_999999, n_1000000, iI_neg, iI_add, iI_sub, iI_mul, ile, ilt, ieq, Rw_g hp, d1]
  rw [show (70 : Int) + 8 * (r : Int) + 0 = 70 + 8 * (r : Int) by omega]
  simp (disch := omega) only [n_69, n_50, n_13, Option.bind_some, bd2_some, bdX_ok, bdX_er, nm_eq, n_0, n_1, n_2, n_3, n_4, n_5, n_6, n_7, n_8, n_9, n_10, n_11, n_12, n_14, n_15, n_16, n_17, n_18, n_19, n_20, n_21, n_24, n_27, n_28, n_32, n_43, n_45, n_48, n_56, n_57, n_59, n_64, n_70, n_97, n_99, n_100, n_104, n_118, n_122, n_126, n_127, n_128, n_129, n_130, n_150, n_255, n_600, n_1000, n_1050, n_1200, n_999999, n_1000000, iI_neg, iI_add, iI_sub, iI_mul, ile, ilt, ieq, Rw_g hp, d1, e1]
  rw [if_neg (by omega), if_neg (by first | exact not_false | omega | decide)]
  by_cases q : (l'.length : Int) = l.length
  · rw [if_pos q]
    have := toldAs_row (w := w) (fu := fu + 1) (k58 := k58) hp hr hD hl hl' hW hR (by omega) l [] l' [] fu rfl rfl rfl (by omega)
    rw [show (([] : List Int).length : Int) + 1 = 1 from rfl] at this
    rw [show (0 : Int) + 1 = 1 from rfl]
    exact this
  · rw [if_neg q]
    have e : b2 (decide (l' = l)) = 0 := by
      have : ¬ l' = l := fun h => q (by rw [h])
      simp [this, b2]
    rw [e]
    obtain ⟨fu, rfl⟩ : ∃ k, fu = k + 1 := ⟨fu - 1, by omega⟩
    rw [f_X11_toldAs_14, f_X11_toldAs_14b]
    simp (disch := omega) only [n_69, n_50, n_13, Option.bind_some, bd2_some, bdX_ok, bdX_er, nm_eq, n_0, n_1, n_2, n_3, n_4, n_5, n_6, n_7, n_8, n_9, n_10, n_11, n_12, n_14, n_15, n_16, n_17, n_18, n_19, n_20, n_21, n_24, n_27, n_28, n_32, n_43, n_45, n_48, n_56, n_57, n_59, n_64, n_70, n_97, n_99, n_100, n_104, n_118, n_122, n_126, n_127, n_128, n_129, n_130, n_150, n_255, n_600, n_1000, n_1050, n_1200, n_999999, n_1000000, iI_neg, iI_add, iI_sub, iI_mul, ile, ilt, ieq, Rw_g hp, d1]
    by_cases z : (l.length : Int) < 0 + 1
    · rw [if_pos z]
    · rw [if_neg z, if_pos (by first | exact trivial | omega | decide)]
theorem toldAs_go (hfu : 100 ≤ fu) (hp : isRw p) (hT : rTolds (m p) T) (hTK : TOK N T) (hD : rPth (m p) 118 l) (hl : AOK N l) (hW : WFN N) : ∀ (suf pre : List (List Int)) (n : Nat), T = pre ++ suf → suf.length < n → ∃ r : Int, f_X11_toldAs_2 fu n p (iI (pre.length : Int)) (mem w m) = some (iI r, mem w m) ∧ -1 ≤ r ∧ r < 6 ∧ (r = -1 ↔ suf.any (fun y => decide (y = l)) = false) := by
  have h6 := hT.2.1
  intro suf
  induction suf with
  | nil =>
    intro pre n hs hn
    have hlen : T.length = pre.length := by rw [hs]; simp
    obtain ⟨n, rfl⟩ : ∃ k, n = k + 1 := ⟨n - 1, by omega⟩
    rw [f_X11_toldAs_2, f_X11_toldAs_2b]
    simp (disch := omega) only [n_69, n_50, n_13, Option.bind_some, bd2_some, bdX_ok, bdX_er, nm_eq, n_0, n_1, n_2, n_3, n_4, n_5, n_6, n_7, n_8, n_9, n_10, n_11, n_12, n_14, n_15, n_16, n_17, n_18, n_19, n_20, n_21, n_24, n_27, n_28, n_32, n_43, n_45, n_48, n_56, n_57, n_59, n_64, n_70, n_97, n_99, n_100, n_104, n_118, n_122, n_126, n_127, n_128, n_129, n_130, n_150, n_255, n_600, n_1000, n_1050, n_1200, n_999999, n_1000000, iI_neg, iI_add, iI_sub, iI_mul, ile, ilt, ieq, Rw_g hp, hT.1]
    rw [if_pos (by omega)]
    exact ⟨-1, rfl, by omega, by omega, by simp⟩
  | cons y suf ih =>
    intro pre n hs hn
    have hlen : T.length = pre.length + (suf.length + 1) := by rw [hs]; simp
    have hy := hTK y (by rw [hs]; simp)
    have hq := hT.2.2 pre.length y (by rw [hs]; exact mid_at)
    simp only [List.length_cons] at hn
    obtain ⟨n, rfl⟩ : ∃ k, n = k + 1 := ⟨n - 1, by omega⟩
    rw [f_X11_toldAs_2, f_X11_toldAs_2b]
    simp (disch := omega) only [n_69, n_50, n_13, Option.bind_some, bd2_some, bdX_ok, bdX_er, nm_eq, n_0, n_1, n_2, n_3, n_4, n_5, n_6, n_7, n_8, n_9, n_10, n_11, n_12, n_14, n_15, n_16, n_17, n_18, n_19, n_20, n_21, n_24, n_27, n_28, n_32, n_43, n_45, n_48, n_56, n_57, n_59, n_64, n_70, n_97, n_99, n_100, n_104, n_118, n_122, n_126, n_127, n_128, n_129, n_130, n_150, n_255, n_600, n_1000, n_1050, n_1200, n_999999, n_1000000, iI_neg, iI_add, iI_sub, iI_mul, ile, ilt, ieq, Rw_g hp, hT.1]
    rw [if_neg (by omega), toldAs_one (N := N) hfu hp (by omega) hD hl hy hW hq]
    unfold f_X11_toldAs_58
    rw [List.any_cons]
    by_cases q : y = l
    · rw [show decide (y = l) = true from by simp [q], show b2 true = 1 from rfl]
      simp (disch := omega) only [n_69, n_50, n_13, Option.bind_some, bd2_some, bdX_ok, bdX_er, nm_eq, n_0, n_1, n_2, n_3, n_4, n_5, n_6, n_7, n_8, n_9, n_10, n_11, n_12, n_14, n_15, n_16, n_17, n_18, n_19, n_20, n_21, n_24, n_27, n_28, n_32, n_43, n_45, n_48, n_56, n_57, n_59, n_64, n_70, n_97, n_99, n_100, n_104, n_118, n_122, n_126, n_127, n_128, n_129, n_130, n_150, n_255, n_600, n_1000, n_1050, n_1200, n_999999, n_1000000, iI_neg, iI_add, iI_sub, iI_mul, ile, ilt, ieq]
      rw [if_neg (by first | exact not_false | omega | decide)]
      exact ⟨pre.length, rfl, by omega, by omega, by simp⟩
    · rw [show decide (y = l) = false from by simp [q], show b2 false = 0 from rfl]
      simp (disch := omega) only [n_69, n_50, n_13, Option.bind_some, bd2_some, bdX_ok, bdX_er, nm_eq, n_0, n_1, n_2, n_3, n_4, n_5, n_6, n_7, n_8, n_9, n_10, n_11, n_12, n_14, n_15, n_16, n_17, n_18, n_19, n_20, n_21, n_24, n_27, n_28, n_32, n_43, n_45, n_48, n_56, n_57, n_59, n_64, n_70, n_97, n_99, n_100, n_104, n_118, n_122, n_126, n_127, n_128, n_129, n_130, n_150, n_255, n_600, n_1000, n_1050, n_1200, n_999999, n_1000000, iI_neg, iI_add, iI_sub, iI_mul, ile, ilt, ieq]
      rw [if_pos (by first | exact trivial | omega | decide), Bool.false_or]
      have := ih (pre ++ [y]) n (by rw [hs]; simp) (by omega)
      rw [show ((pre ++ [y]).length : Int) = (pre.length : Int) + 1 by simp] at this
      exact this
theorem toldAs_eq (hfu : 100 ≤ fu) (hp : isRw p) (hT : rTolds (m p) T) (hTK : TOK N T) (hD : rPth (m p) 118 l) (hl : AOK N l) (hW : WFN N) : ∃ r : Int, f_X11_toldAs fu p (mem w m) = some (iI r, mem w m) ∧ -1 ≤ r ∧ r < 6 ∧ (r = -1 ↔ T.any (fun y => decide (y = l)) = false) := by
  have h6 := hT.2.1
  unfold f_X11_toldAs
  simp (disch := omega) only [n_69, n_50, n_13, Option.bind_some, bd2_some, bdX_ok, bdX_er, nm_eq, n_0, n_1, n_2, n_3, n_4, n_5, n_6, n_7, n_8, n_9, n_10, n_11, n_12, n_14, n_15, n_16, n_17, n_18, n_19, n_20, n_21, n_24, n_27, n_28, n_32, n_43, n_45, n_48, n_56, n_57, n_59, n_64, n_70, n_97, n_99, n_100, n_104, n_118, n_122, n_126, n_127, n_128, n_129, n_130, n_150, n_255, n_600, n_1000, n_1050, n_1200, n_999999, n_1000000, iI_neg, iI_add, iI_sub, iI_mul, ile, ilt, ieq]
  exact toldAs_go (w := w) hfu hp hT hTK hD hl hW T [] fu rfl (by omega)
theorem tells_go {k34 : Nat → List Ob → Option (Unit × List Ob)} (hp : isRw p) {s : Int} (hs : 0 ≤ s ∧ s < 6) : ∀ (d n : Nat) (m : Mm) (i : Int), m p 69 = s → i + d = 8 → 0 ≤ i → d < n → ∃ m', f_X11_tells_2 fu k34 n p (iI i) (mem w m) = k34 p (mem w m') ∧ (∀ q, q ≠ p → m' q = m q) ∧ ∀ k, m' p k = if 70 + 8 * s + i ≤ k ∧ k < 78 + 8 * s then m p (118 + (k - 70 - 8 * s)) else m p k := by
  intro d
  induction d with
  | zero =>
    intro n m i h69 hi hi0 hn
    obtain ⟨n, rfl⟩ : ∃ k, n = k + 1 := ⟨n - 1, by omega⟩
    rw [f_X11_tells_2, f_X11_tells_2b]
    simp (disch := omega) only [n_69, n_50, n_13, Option.bind_some, bd2_some, bdX_ok, bdX_er, nm_eq, n_0, n_1, n_2, n_3, n_4, n_5, n_6, n_7, n_8, n_9, n_10, n_11, n_12, n_14, n_15, n_16, n_17, n_18, n_19, n_20, n_21, n_24, n_27, n_28, n_32, n_43, n_45, n_48, n_56, n_57, n_59, n_64, n_70, n_97, n_99, n_100, n_104, n_118, n_122, n_126, n_127, n_128, n_129, n_130, n_150, n_255, n_600, n_1000, n_1050, n_1200, n_999999, n_1000000, iI_neg, iI_add, iI_sub, iI_mul, ile, ilt, ieq]
    rw [if_pos (by omega)]
    exact ⟨m, rfl, fun _ _ => rfl, fun k => by rw [if_neg (by omega)]⟩
  | succ d ih =>
    intro n m i h69 hi hi0 hn
    obtain ⟨n, rfl⟩ : ∃ k, n = k + 1 := ⟨n - 1, by omega⟩
    rw [f_X11_tells_2, f_X11_tells_2b]
    simp (disch := omega) only [n_69, n_50, n_13, Option.bind_some, bd2_some, bdX_ok, bdX_er, nm_eq, n_0, n_1, n_2, n_3, n_4, n_5, n_6, n_7, n_8, n_9, n_10, n_11, n_12, n_14, n_15, n_16, n_17, n_18, n_19, n_20, n_21, n_24, n_27, n_28, n_32, n_43, n_45, n_48, n_56, n_57, n_59, n_64, n_70, n_97, n_99, n_100, n_104, n_118, n_122, n_126, n_127, n_128, n_129, n_130, n_150, n_255, n_600, n_1000, n_1050, n_1200, n_999999, n_1000000, iI_neg, iI_add, iI_sub, iI_mul, ile, ilt, ieq, Rw_g hp, Rw_s hp, h69]
    rw [if_neg (by omega)]
    obtain ⟨m', q1, q2, q3⟩ := ih n (up m p (70 + 8 * s + i) (m p (118 + i))) (i + 1) (by rw [up_off (by omega)]; exact h69) (by omega) (by omega) (by omega)
    refine ⟨m', q1, fun q hq => by rw [q2 q hq, up_ne hq], fun k => ?_⟩
    rw [q3 k]
    by_cases c : k = 70 + 8 * s + i
    · subst c
      rw [if_neg (by omega), up_at, if_pos (by omega)]
      congr 1; omega
    · rw [up_off c]
      by_cases c2 : 70 + 8 * s + (i + 1) ≤ k ∧ k < 78 + 8 * s
      · rw [if_pos c2, up_off (by omega), if_pos (by omega)]
      · rw [if_neg c2, if_neg (by omega)]
theorem tells_eq (hfu : 100 ≤ fu) (hp : isRw p) (hT : rTolds (m p) T) (hD : rPth (m p) 118 l) (h6 : T.length < 6) : ∃ m', f_X11_tells fu p (mem w m) = some ((), mem w m') ∧ (∀ q, q ≠ p → m' q = m q) ∧ (∀ k, (k < 69 ∨ 126 ≤ k) → m' p k = m p k) ∧ rTolds (m' p) (T ++ [l]) ∧ rPth (m' p) 118 [] := by
  obtain ⟨t1, t2, t3⟩ := hT
  obtain ⟨d1, d2, d3⟩ := hD
  obtain ⟨m1, q1, q2, q3⟩ := tells_go (w := w) (fu := fu) (k34 := fun x1 M2 => f_X11_tells_34 fu x1 M2) hp (s := T.length) (by omega) 8 fu m 0 t1 (by omega) (by omega) (by omega)
  unfold f_X11_tells
  simp (disch := omega) only [n_69, n_50, n_13, Option.bind_some, bd2_some, bdX_ok, bdX_er, nm_eq, n_0, n_1, n_2, n_3, n_4, n_5, n_6, n_7, n_8, n_9, n_10, n_11, n_12, n_14, n_15, n_16, n_17, n_18, n_19, n_20, n_21, n_24, n_27, n_28, n_32, n_43, n_45, n_48, n_56, n_57, n_59, n_64, n_70, n_97, n_99, n_100, n_104, n_118, n_122, n_126, n_127, n_128, n_129, n_130, n_150, n_255, n_600, n_1000, n_1050, n_1200, n_999999, n_1000000, iI_neg, iI_add, iI_sub, iI_mul, ile, ilt, ieq]
  rw [q1]
  have e69 : m1 p 69 = T.length := by rw [q3, if_neg (by omega)]; exact t1
  unfold f_X11_tells_34
  simp (disch := omega) only [n_69, n_50, n_13, Option.bind_some, bd2_some, bdX_ok, bdX_er, nm_eq, n_0, n_1, n_2, n_3, n_4, n_5, n_6, n_7, n_8, n_9, n_10, n_11, n_12, n_14, n_15, n_16, n_17, n_18, n_19, n_20, n_21, n_24, n_27, n_28, n_32, n_43, n_45, n_48, n_56, n_57, n_59, n_64, n_70, n_97, n_99, n_100, n_104, n_118, n_122, n_126, n_127, n_128, n_129, n_130, n_150, n_255, n_600, n_1000, n_1050, n_1200, n_999999, n_1000000, iI_neg, iI_add, iI_sub, iI_mul, ile, ilt, ieq, Rw_g hp, Rw_s hp, e69]
  have frame : ∀ k, k ≠ 69 → k ≠ 118 → (up (up m1 p 69 ((T.length : Int) + 1)) p 118 0) p k = if 70 + 8 * (T.length : Int) + 0 ≤ k ∧ k < 78 + 8 * (T.length : Int) then m p (118 + (k - 70 - 8 * (T.length : Int))) else m p k := fun k a b => by rw [up_off b, up_off a, q3]
  refine ⟨_, rfl, fun q hq => by rw [up_ne hq, up_ne hq, q2 q hq], fun k hk => by rw [frame k (by omega) (by omega), if_neg (by omega)], ⟨?_, by simp <;> omega, fun i y hi => ?_⟩, up_at, by simp, fun j c hj => by simp at hj⟩
  · rw [up_off (by omega), up_at]; simp
  · have hi' : i < T.length + 1 := by have := (List.getElem?_eq_some_iff.mp hi).1; simpa using this
    by_cases e : i = T.length
    · subst e
      have : l = y := by simpa using hi
      subst this
      refine ⟨?_, d2, fun j c hj => ?_⟩
      · rw [frame _ (by omega) (by omega), if_pos (by omega), ← d1]
        congr 1; omega
      · have := (List.getElem?_eq_some_iff.mp hj).1
        rw [frame _ (by omega) (by omega), if_pos (by omega), ← d3 j c hj]
        congr 1; omega
    · rw [List.getElem?_append_left (by omega)] at hi
      exact (t3 i y hi).cong (fun k a b => by rw [frame k (by omega) (by omega), if_neg (by omega)])
theorem draftR_eq (hfu : 2000 ≤ fu) (h : RI m x H) (hG : WG x) (ha : i32 a) : RQ w m (f_X11_draft fu 283 (iI a) (mem w m)) (qDraft x a).1 (qDraft x a).2.1 (qDraft x a).2.2 (hist (qDraft x a).1 x H) := by
  have hN := h.1.1
  have hw := hN.1.1
  have hl := pOK_AOK hG.2.2.1
  have v1 := ha
  unfold i32 at v1
  have key : ∀ k : Int, 0 < k → k < 4 → RQ w m (f_X11_draft_29 fu 283 (iI a) 283 (iI k) (mem w m)) k 0 x (hist k x H) := fun k k0 k1 => by
    unfold f_X11_draft_29
    simp (disch := omega) only [n_69, n_50, n_13, Option.bind_some, bd2_some, bdX_ok, bdX_er, nm_eq, n_0, n_1, n_2, n_3, n_4, n_5, n_6, n_7, n_8, n_9, n_10, n_11, n_12, n_14, n_15, n_16, n_17, n_18, n_19, n_20, n_21, n_24, n_27, n_28, n_32, n_43, n_45, n_48, n_56, n_57, n_59, n_64, n_70, n_97, n_99, n_100, n_104, n_118, n_122, n_126, n_127, n_128, n_129, n_130, n_150, n_255, n_600, n_1000, n_1050, n_1200, n_999999, n_1000000, iI_neg, iI_add, iI_sub, iI_mul, ile, ilt, ieq, Z_has, Z_0, Z_1, Z_2, Z_5, Z_15, Z_17, Z_18, Z_24, Z_25, Z_26, Z_3, Z_4, Z_6, Z_7, Z_8, Z_9, Z_10, Z_11, Z_12, Z_13, Z_14, Z_16, Z_19, Z_20, Z_21, Z_22, Z_23, Z_27, Y_3, Y_4, Y_6, Y_7, Y_8, Y_9, Y_10, Y_11, Y_12, Y_13, Y_14, Y_16, Y_19, Y_20, Y_21, Y_22, Y_23, Y_27, A_g, A_s, up_at, up_ne, up_off]
    rw [if_neg (by omega)]
    exact RQ_no h (by omega)
  unfold f_X11_draft qDraft
  simp (disch := omega) only [n_69, n_50, n_13, Option.bind_some, bd2_some, bdX_ok, bdX_er, nm_eq, n_0, n_1, n_2, n_3, n_4, n_5, n_6, n_7, n_8, n_9, n_10, n_11, n_12, n_14, n_15, n_16, n_17, n_18, n_19, n_20, n_21, n_24, n_27, n_28, n_32, n_43, n_45, n_48, n_56, n_57, n_59, n_64, n_70, n_97, n_99, n_100, n_104, n_118, n_122, n_126, n_127, n_128, n_129, n_130, n_150, n_255, n_600, n_1000, n_1050, n_1200, n_999999, n_1000000, iI_neg, iI_add, iI_sub, iI_mul, ile, ilt, ieq, Z_has, Z_0, Z_1, Z_2, Z_5, Z_15, Z_17, Z_18, Z_24, Z_25, Z_26, Z_3, Z_4, Z_6, Z_7, Z_8, Z_9, Z_10, Z_11, Z_12, Z_13, Z_14, Z_16, Z_19, Z_20, Z_21, Z_22, Z_23, Z_27, Y_3, Y_4, Y_6, Y_7, Y_8, Y_9, Y_10, Y_11, Y_12, Y_13, Y_14, Y_16, Y_19, Y_20, Y_21, Y_22, Y_23, Y_27, A_g, A_s, up_at, up_ne, up_off, isArcR_eq hN ha, canGoR_eq (w := w) (show 100 ≤ fu by omega) rw284 hN h.1.2.2.1 hl ha]
  by_cases c1 : 0 ≤ a ∧ a < nA (sN x)
  · rw [show inB a 0 (nA (sN x) - 1) = 1 from if_pos (by omega)]
    rw [if_neg (by first | exact not_false | omega | decide), if_neg (not_not_intro c1), show canG (sN x) (sD x) a = canFol (sN x) (sD x) a from if_pos c1]
    cases hc : canFol (sN x) (sD x) a with
    | false =>
      rw [show b2 false = 0 from rfl, if_pos (by first | exact trivial | omega | decide), if_neg (by first | exact not_false | omega | decide)]
      exact key 2 (by omega) (by omega)
    | true =>
      rw [show b2 true = 1 from rfl, if_neg (by first | exact not_false | omega | decide), if_pos (by first | exact trivial | omega | decide)]
      obtain ⟨m1, p1, p2, p3, p4, p5⟩ := chg (w := w) hfu h
      have h6 := pOK_len6 hG.1 hG.2.2.1 c1.1 c1.2 hc
      obtain ⟨m2, q1, q2, q3, q4⟩ := appendsTo_eq (w := w) (fu := fu) (a := a) rw284 (show rPth (m1 284) 118 (sD x) by rw [p3]; exact h.1.2.2.1) (by omega)
      have hN2 : rNet (m2 284) (sN x) := hN.cong (fun k _ b => by rw [q3 k (by omega), p3])
      have hl2 : AOK (sN x) (sD x ++ [a]) := pOK_AOK (pOK_snoc hG.2.2.1 c1.1 c1.2 hc)
      unfold f_X11_draft_29
      simp (disch := omega) only [n_69, n_50, n_13, Option.bind_some, bd2_some, bdX_ok, bdX_er, nm_eq, n_0, n_1, n_2, n_3, n_4, n_5, n_6, n_7, n_8, n_9, n_10, n_11, n_12, n_14, n_15, n_16, n_17, n_18, n_19, n_20, n_21, n_24, n_27, n_28, n_32, n_43, n_45, n_48, n_56, n_57, n_59, n_64, n_70, n_97, n_99, n_100, n_104, n_118, n_122, n_126, n_127, n_128, n_129, n_130, n_150, n_255, n_600, n_1000, n_1050, n_1200, n_999999, n_1000000, iI_neg, iI_add, iI_sub, iI_mul, ile, ilt, ieq, Z_has, Z_0, Z_1, Z_2, Z_5, Z_15, Z_17, Z_18, Z_24, Z_25, Z_26, Z_3, Z_4, Z_6, Z_7, Z_8, Z_9, Z_10, Z_11, Z_12, Z_13, Z_14, Z_16, Z_19, Z_20, Z_21, Z_22, Z_23, Z_27, Y_3, Y_4, Y_6, Y_7, Y_8, Y_9, Y_10, Y_11, Y_12, Y_13, Y_14, Y_16, Y_19, Y_20, Y_21, Y_22, Y_23, Y_27, A_g, A_s, up_at, up_ne, up_off, p1, q1, draftEnd_eq rw284 hN2 q4 hl2, endOf_snoc]
      rw [if_pos (by first | exact trivial | omega | decide)]
      exact RQ_yes p2 p4 p5 q2 ⟨hN2, h.1.2.1.cong (fun k a b => by rw [q3 k (by omega), p3]), q4, h.1.2.2.2.cong (fun k a b => by rw [q3 k (by omega), p3])⟩ rfl
  · rw [show inB a 0 (nA (sN x) - 1) = 0 from if_neg (by omega)]
    rw [if_pos (by first | exact trivial | omega | decide), if_pos c1]
    exact key 1 (by omega) (by omega)
theorem dropR_eq (hfu : 2000 ≤ fu) (h : RI m x H) : RQ w m (f_X11_drop fu 283 (mem w m)) (qDrop x).1 (qDrop x).2.1 (qDrop x).2.2 (hist (qDrop x).1 x H) := by
  obtain ⟨d1, d2, d3⟩ := h.1.2.2.1
  unfold f_X11_drop f_X11_drop_16 qDrop
  simp (disch := omega) only [n_69, n_50, n_13, Option.bind_some, bd2_some, bdX_ok, bdX_er, nm_eq, n_0, n_1, n_2, n_3, n_4, n_5, n_6, n_7, n_8, n_9, n_10, n_11, n_12, n_14, n_15, n_16, n_17, n_18, n_19, n_20, n_21, n_24, n_27, n_28, n_32, n_43, n_45, n_48, n_56, n_57, n_59, n_64, n_70, n_97, n_99, n_100, n_104, n_118, n_122, n_126, n_127, n_128, n_129, n_130, n_150, n_255, n_600, n_1000, n_1050, n_1200, n_999999, n_1000000, iI_neg, iI_add, iI_sub, iI_mul, ile, ilt, ieq, Z_has, Z_0, Z_1, Z_2, Z_5, Z_15, Z_17, Z_18, Z_24, Z_25, Z_26, Z_3, Z_4, Z_6, Z_7, Z_8, Z_9, Z_10, Z_11, Z_12, Z_13, Z_14, Z_16, Z_19, Z_20, Z_21, Z_22, Z_23, Z_27, Y_3, Y_4, Y_6, Y_7, Y_8, Y_9, Y_10, Y_11, Y_12, Y_13, Y_14, Y_16, Y_19, Y_20, Y_21, Y_22, Y_23, Y_27, A_g, A_s, up_at, up_ne, up_off, d1]
  by_cases c1 : sD x = []
  · rw [if_pos (by rw [c1]; rfl), if_pos c1, if_neg (by first | exact not_false | omega | decide)]
    exact RQ_no h (by omega)
  · have hl : 0 < (sD x).length := List.length_pos_iff.mpr c1
    rw [if_neg (by omega), if_neg c1]
    obtain ⟨m1, p1, p2, p3, p4, p5⟩ := chg (w := w) hfu h
    have e : m1 284 118 = (sD x).length := by rw [p3]; exact d1
    simp (disch := omega) only [n_69, n_50, n_13, Option.bind_some, bd2_some, bdX_ok, bdX_er, nm_eq, n_0, n_1, n_2, n_3, n_4, n_5, n_6, n_7, n_8, n_9, n_10, n_11, n_12, n_14, n_15, n_16, n_17, n_18, n_19, n_20, n_21, n_24, n_27, n_28, n_32, n_43, n_45, n_48, n_56, n_57, n_59, n_64, n_70, n_97, n_99, n_100, n_104, n_118, n_122, n_126, n_127, n_128, n_129, n_130, n_150, n_255, n_600, n_1000, n_1050, n_1200, n_999999, n_1000000, iI_neg, iI_add, iI_sub, iI_mul, ile, ilt, ieq, Z_has, Z_0, Z_1, Z_2, Z_5, Z_15, Z_17, Z_18, Z_24, Z_25, Z_26, Z_3, Z_4, Z_6, Z_7, Z_8, Z_9, Z_10, Z_11, Z_12, Z_13, Z_14, Z_16, Z_19, Z_20, Z_21, Z_22, Z_23, Z_27, Y_3, Y_4, Y_6, Y_7, Y_8, Y_9, Y_10, Y_11, Y_12, Y_13, Y_14, Y_16, Y_19, Y_20, Y_21, Y_22, Y_23, Y_27, A_g, A_s, up_at, up_ne, up_off, p1, e]
    rw [if_pos (by first | exact trivial | omega | decide)]
    have hlen : ((sD x).dropLast.length : Int) = ((sD x).length : Int) - 1 := by rw [List.length_dropLast]; omega
    refine RQ_yes p2 p4 p5 (fun q hq => up_ne hq) ⟨h.1.1.cong (fun k _ b => by rw [up_off (by omega), p3]), h.1.2.1.cong (fun k a b => by rw [up_off (by omega), p3]), ⟨?_, ?_, fun j c hj => ?_⟩, h.1.2.2.2.cong (fun k a b => by rw [up_off (by omega), p3])⟩ rfl
    · show up m1 284 118 _ 284 118 = ((sD x).dropLast.length : Int)
      rw [up_at, hlen]
    · show (sD x).dropLast.length ≤ 7
      omega
    · have hj : (sD x).dropLast[j]? = some c := hj
      have hj' := (List.getElem?_eq_some_iff.mp hj).1
      show up m1 284 118 _ 284 _ = c
      rw [up_off (by omega), p3]
      refine d3 j c ?_
      rw [List.dropLast_eq_take, List.getElem?_take, if_pos (by rw [List.length_dropLast] at hj'; omega)] at hj
      exact hj
theorem reasonNow_eq (hfu : 100 ≤ fu) (h : RI m x H) (hG : WG x) : f_X11_reasonNow fu 283 (mem w m) = some (iI (reasonF x), mem w m) := by
  have hN := h.1.1
  have hw := hN.1.1
  have hl := pOK_AOK hG.2.2.1
  have hT := h.1.2.1
  have h6 := hT.2.1
  have he := endOf_nn hG.1 hl
  obtain ⟨r, r1, r2, r3, r4⟩ := toldAs_eq (w := w) (fu := fu) hfu rw284 hT hG.tok h.1.2.2.1 hl hG.1
  unfold f_X11_reasonNow reasonF
  simp (disch := omega) only [n_69, n_50, n_13, Option.bind_some, bd2_some, bdX_ok, bdX_er, nm_eq, n_0, n_1, n_2, n_3, n_4, n_5, n_6, n_7, n_8, n_9, n_10, n_11, n_12, n_14, n_15, n_16, n_17, n_18, n_19, n_20, n_21, n_24, n_27, n_28, n_32, n_43, n_45, n_48, n_56, n_57, n_59, n_64, n_70, n_97, n_99, n_100, n_104, n_118, n_122, n_126, n_127, n_128, n_129, n_130, n_150, n_255, n_600, n_1000, n_1050, n_1200, n_999999, n_1000000, iI_neg, iI_add, iI_sub, iI_mul, ile, ilt, ieq, Z_has, Z_0, Z_1, Z_2, Z_5, Z_15, Z_17, Z_18, Z_24, Z_25, Z_26, Z_3, Z_4, Z_6, Z_7, Z_8, Z_9, Z_10, Z_11, Z_12, Z_13, Z_14, Z_16, Z_19, Z_20, Z_21, Z_22, Z_23, Z_27, Y_3, Y_4, Y_6, Y_7, Y_8, Y_9, Y_10, Y_11, Y_12, Y_13, Y_14, Y_16, Y_19, Y_20, Y_21, Y_22, Y_23, Y_27, A_g, A_s, up_at, up_ne, up_off, draftEnd_eq rw284 hN h.1.2.2.1 hl, hN.2.1.2.2.1, r1, hT.1, n_m1]
  by_cases c1 : endOf (sN x) (sD x) = nT (sN x)
  · rw [if_pos c1, if_pos c1]
    by_cases c2 : r = -1
    · rw [if_pos c2, r4.mp c2, if_neg (show ¬ (false = true) by decide)]
      by_cases c3 : (sR x).length < 6
      · rw [if_neg (by omega), if_pos c3]
      · rw [if_pos (by omega), if_neg c3]
    · rw [if_neg c2]
      have : (sR x).any (fun y => decide (y = sD x)) = true := by
        cases q : (sR x).any (fun y => decide (y = sD x)) with
        | true => rfl
        | false => exact absurd (r4.mpr q) c2
      rw [if_pos this]
  · rw [if_neg c1, if_neg c1]
theorem reasonR_eq (hfu : 100 ≤ fu) (h : RI m x H) (hG : WG x) : ∃ m', f_X11_reason fu 283 (mem w m) = some (iI (reasonF x), mem w m') ∧ cS m m' ∧ RI m' x H := by
  unfold f_X11_reason
  have h1 := h.q (qS_f (v := 0) (k := 4) (by omega))
  simp (disch := omega) only [n_69, n_50, n_13, Option.bind_some, bd2_some, bdX_ok, bdX_er, nm_eq, n_0, n_1, n_2, n_3, n_4, n_5, n_6, n_7, n_8, n_9, n_10, n_11, n_12, n_14, n_15, n_16, n_17, n_18, n_19, n_20, n_21, n_24, n_27, n_28, n_32, n_43, n_45, n_48, n_56, n_57, n_59, n_64, n_70, n_97, n_99, n_100, n_104, n_118, n_122, n_126, n_127, n_128, n_129, n_130, n_150, n_255, n_600, n_1000, n_1050, n_1200, n_999999, n_1000000, iI_neg, iI_add, iI_sub, iI_mul, ile, ilt, ieq, Z_has, Z_0, Z_1, Z_2, Z_5, Z_15, Z_17, Z_18, Z_24, Z_25, Z_26, Z_3, Z_4, Z_6, Z_7, Z_8, Z_9, Z_10, Z_11, Z_12, Z_13, Z_14, Z_16, Z_19, Z_20, Z_21, Z_22, Z_23, Z_27, Y_3, Y_4, Y_6, Y_7, Y_8, Y_9, Y_10, Y_11, Y_12, Y_13, Y_14, Y_16, Y_19, Y_20, Y_21, Y_22, Y_23, Y_27, A_g, A_s, up_at, up_ne, up_off, reasonNow_eq hfu h1 hG]
  exact ⟨_, rfl, cS_f (by omega), h1⟩
theorem tellR_eq (hfu : 2000 ≤ fu) (h : RI m x H) (hG : WG x) : RQ w m (f_X11_tell fu 283 (mem w m)) (qTell x).1 (qTell x).2.1 (qTell x).2.2 (hist (qTell x).1 x H) := by
  have hT := h.1.2.1
  have hr : 0 ≤ reasonF x ∧ reasonF x ≤ 3 := by unfold reasonF; split; split; omega; split <;> omega; omega
  unfold f_X11_tell f_X11_tell_13 qTell
  simp (disch := omega) only [n_69, n_50, n_13, Option.bind_some, bd2_some, bdX_ok, bdX_er, nm_eq, n_0, n_1, n_2, n_3, n_4, n_5, n_6, n_7, n_8, n_9, n_10, n_11, n_12, n_14, n_15, n_16, n_17, n_18, n_19, n_20, n_21, n_24, n_27, n_28, n_32, n_43, n_45, n_48, n_56, n_57, n_59, n_64, n_70, n_97, n_99, n_100, n_104, n_118, n_122, n_126, n_127, n_128, n_129, n_130, n_150, n_255, n_600, n_1000, n_1050, n_1200, n_999999, n_1000000, iI_neg, iI_add, iI_sub, iI_mul, ile, ilt, ieq, Z_has, Z_0, Z_1, Z_2, Z_5, Z_15, Z_17, Z_18, Z_24, Z_25, Z_26, Z_3, Z_4, Z_6, Z_7, Z_8, Z_9, Z_10, Z_11, Z_12, Z_13, Z_14, Z_16, Z_19, Z_20, Z_21, Z_22, Z_23, Z_27, Y_3, Y_4, Y_6, Y_7, Y_8, Y_9, Y_10, Y_11, Y_12, Y_13, Y_14, Y_16, Y_19, Y_20, Y_21, Y_22, Y_23, Y_27, A_g, A_s, up_at, up_ne, up_off, reasonNow_eq (show 100 ≤ fu by omega) h hG]
  by_cases c1 : reasonF x = 0
  · rw [if_pos (by omega), if_pos c1]
    have h6 : (sR x).length < 6 := by
      unfold reasonF at c1
      split at c1
      · split at c1
        · omega
        · split at c1
          · assumption
          · omega
      · omega
    obtain ⟨m1, p1, p2, p3, p4, p5⟩ := chg (w := w) hfu h
    obtain ⟨m2, q1, q2, q3, q4, q5⟩ := tells_eq (w := w) (fu := fu) (show 100 ≤ fu by omega) rw284 (show rTolds (m1 284) (sR x) by rw [p3]; exact hT) (show rPth (m1 284) 118 (sD x) by rw [p3]; exact h.1.2.2.1) h6
    have e69 := q4.1
    simp (disch := omega) only [n_69, n_50, n_13, Option.bind_some, bd2_some, bdX_ok, bdX_er, nm_eq, n_0, n_1, n_2, n_3, n_4, n_5, n_6, n_7, n_8, n_9, n_10, n_11, n_12, n_14, n_15, n_16, n_17, n_18, n_19, n_20, n_21, n_24, n_27, n_28, n_32, n_43, n_45, n_48, n_56, n_57, n_59, n_64, n_70, n_97, n_99, n_100, n_104, n_118, n_122, n_126, n_127, n_128, n_129, n_130, n_150, n_255, n_600, n_1000, n_1050, n_1200, n_999999, n_1000000, iI_neg, iI_add, iI_sub, iI_mul, ile, ilt, ieq, Z_has, Z_0, Z_1, Z_2, Z_5, Z_15, Z_17, Z_18, Z_24, Z_25, Z_26, Z_3, Z_4, Z_6, Z_7, Z_8, Z_9, Z_10, Z_11, Z_12, Z_13, Z_14, Z_16, Z_19, Z_20, Z_21, Z_22, Z_23, Z_27, Y_3, Y_4, Y_6, Y_7, Y_8, Y_9, Y_10, Y_11, Y_12, Y_13, Y_14, Y_16, Y_19, Y_20, Y_21, Y_22, Y_23, Y_27, A_g, A_s, up_at, up_ne, up_off, p1, q1, e69]
    rw [if_pos (by first | exact trivial | omega | decide)]
    exact RQ_yes p2 p4 p5 q2 ⟨h.1.1.cong (fun k _ b => by rw [q3 k (by omega), p3]), q4, q5, h.1.2.2.2.cong (fun k a b => by rw [q3 k (by omega), p3])⟩ (by simp <;> omega)
  · rw [if_neg (by omega), if_neg c1, if_neg (by first | exact not_false | omega | decide)]
    exact RQ_no h (by omega)
theorem forget_go {k87 : Nat → List Ob → Option (Int32 × List Ob)} {s : Int} (hs : 0 ≤ s ∧ s ≤ 5) : ∀ (d n : Nat) (m : Mm) (i : Int), m 284 69 = s → i + d = 70 + 8 * s → 70 ≤ i → d < n → ∃ m', f_X11_forget_49 fu k87 n 283 (iI i) (mem w m) = k87 283 (mem w m') ∧ (∀ q, q ≠ 284 → m' q = m q) ∧ ∀ k, m' 284 k = if i ≤ k ∧ k < 70 + 8 * s then m 284 (k + 8) else m 284 k := by
  intro d
  induction d with
  | zero =>
    intro n m i h69 hi hi0 hn
    obtain ⟨n, rfl⟩ : ∃ k, n = k + 1 := ⟨n - 1, by omega⟩
    rw [f_X11_forget_49, f_X11_forget_49b]
    simp (disch := omega) only [n_69, n_50, n_13, Option.bind_some, bd2_some, bdX_ok, bdX_er, nm_eq, n_0, n_1, n_2, n_3, n_4, n_5, n_6, n_7, n_8, n_9, n_10, n_11, n_12, n_14, n_15, n_16, n_17, n_18, n_19, n_20, n_21, n_24, n_27, n_28, n_32, n_43, n_45, n_48, n_56, n_57, n_59, n_64, n_70, n_97, n_99, n_100, n_104, n_118, n_122, n_126, n_127, n_128, n_129, n_130, n_150, n_255, n_600, n_1000, n_1050, n_1200, n_999999, n_1000000, iI_neg, iI_add, iI_sub, iI_mul, ile, ilt, ieq, Z_has, Z_0, Z_1, Z_2, Z_5, Z_15, Z_17, Z_18, Z_24, Z_25, Z_26, Z_3, Z_4, Z_6, Z_7, Z_8, Z_9, Z_10, Z_11, Z_12, Z_13, Z_14, Z_16, Z_19, Z_20, Z_21, Z_22, Z_23, Z_27, Y_3, Y_4, Y_6, Y_7, Y_8, Y_9, Y_10, Y_11, Y_12, Y_13, Y_14, Y_16, Y_19, Y_20, Y_21, Y_22, Y_23, Y_27, A_g, A_s, up_at, up_ne, up_off, h69]
    rw [if_pos (by omega)]
    exact ⟨m, rfl, fun _ _ => rfl, fun k => by rw [if_neg (by omega)]⟩
  | succ d ih =>
    intro n m i h69 hi hi0 hn
    obtain ⟨n, rfl⟩ : ∃ k, n = k + 1 := ⟨n - 1, by omega⟩
    rw [f_X11_forget_49, f_X11_forget_49b]
    simp (disch := omega) only [n_69, n_50, n_13, Option.bind_some, bd2_some, bdX_ok, bdX_er, nm_eq, n_0, n_1, n_2, n_3, n_4, n_5, n_6, n_7, n_8, n_9, n_10, n_11, n_12, n_14, n_15, n_16, n_17, n_18, n_19, n_20, n_21, n_24, n_27, n_28, n_32, n_43, n_45, n_48, n_56, n_57, n_59, n_64, n_70, n_97, n_99, n_100, n_104, n_118, n_122, n_126, n_127, n_128, n_129, n_130, n_150, n_255, n_600, n_1000, n_1050, n_1200, n_999999, n_1000000, iI_neg, iI_add, iI_sub, iI_mul, ile, ilt, ieq, Z_has, Z_0, Z_1, Z_2, Z_5, Z_15, Z_17, Z_18, Z_24, Z_25, Z_26, Z_3, Z_4, Z_6, Z_7, Z_8, Z_9, Z_10, Z_11, Z_12, Z_13, Z_14, Z_16, Z_19, Z_20, Z_21, Z_22, Z_23, Z_27, Y_3, Y_4, Y_6, Y_7, Y_8, Y_9, Y_10, Y_11, Y_12, Y_13, Y_14, Y_16, Y_19, Y_20, Y_21, Y_22, Y_23, Y_27, A_g, A_s, up_at, up_ne, up_off, h69]
    rw [if_neg (by omega)]
    obtain ⟨m', q1, q2, q3⟩ := ih n (up m 284 i (m 284 (i + 8))) (i + 1) (by rw [up_off (by omega)]; exact h69) (by omega) (by omega) (by omega)
    refine ⟨m', q1, fun q hq => by rw [q2 q hq, up_ne hq], fun k => ?_⟩
    rw [q3 k]
    by_cases c : k = i
    · subst c; rw [if_neg (by omega), up_at, if_pos (by omega)]
    · rw [up_off c]
      by_cases c2 : i + 1 ≤ k ∧ k < 70 + 8 * s
      · rw [if_pos c2, up_off (by omega), if_pos (by omega)]
      · rw [if_neg c2, if_neg (by omega)]
theorem forgetR_eq' (hfu : 2000 ≤ fu) (h : RI m x H) (hv : i32 v) : RQ w m (f_X11_forget fu 283 (iI v) (mem w m)) (qForget x v).1 (qForget x v).2.1 (qForget x v).2.2 (hist (qForget x v).1 x H) := by
  obtain ⟨t1, t2, t3⟩ := h.1.2.1
  have hv' := hv
  unfold i32 at hv'
  unfold f_X11_forget f_X11_forget_14 qForget
  simp (disch := omega) only [n_69, n_50, n_13, Option.bind_some, bd2_some, bdX_ok, bdX_er, nm_eq, n_0, n_1, n_2, n_3, n_4, n_5, n_6, n_7, n_8, n_9, n_10, n_11, n_12, n_14, n_15, n_16, n_17, n_18, n_19, n_20, n_21, n_24, n_27, n_28, n_32, n_43, n_45, n_48, n_56, n_57, n_59, n_64, n_70, n_97, n_99, n_100, n_104, n_118, n_122, n_126, n_127, n_128, n_129, n_130, n_150, n_255, n_600, n_1000, n_1050, n_1200, n_999999, n_1000000, iI_neg, iI_add, iI_sub, iI_mul, ile, ilt, ieq, Z_has, Z_0, Z_1, Z_2, Z_5, Z_15, Z_17, Z_18, Z_24, Z_25, Z_26, Z_3, Z_4, Z_6, Z_7, Z_8, Z_9, Z_10, Z_11, Z_12, Z_13, Z_14, Z_16, Z_19, Z_20, Z_21, Z_22, Z_23, Z_27, Y_3, Y_4, Y_6, Y_7, Y_8, Y_9, Y_10, Y_11, Y_12, Y_13, Y_14, Y_16, Y_19, Y_20, Y_21, Y_22, Y_23, Y_27, A_g, A_s, up_at, up_ne, up_off, isToldR_eq ⟨t1, t2, t3⟩ hv]
  by_cases c1 : 0 ≤ v ∧ v < (sR x).length
  · rw [show inB v 0 (((sR x).length : Int) - 1) = 1 from if_pos (by omega)]
    rw [if_neg (by first | exact not_false | omega | decide), if_neg (not_not_intro c1)]
    obtain ⟨m1, p1, p2, p3, p4, p5⟩ := chg (w := w) hfu h
    have e : m1 284 69 = (sR x).length := by rw [p3]; exact t1
    obtain ⟨m2, q1, q2, q3⟩ := forget_go (w := w) (fu := fu) (k87 := fun x15 M16 => f_X11_forget_87 fu x15 M16) (s := ((sR x).length : Int) - 1) (by omega) (8 * ((sR x).length - 1 - v.toNat)) fu (up m1 284 69 (((sR x).length : Int) - 1)) (70 + 8 * v) up_at (by omega) (by omega) (by omega)
    have e69 : m2 284 69 = ((sR x).length : Int) - 1 := by rw [q3, if_neg (by omega), up_at]
    simp (disch := omega) only [n_69, n_50, n_13, Option.bind_some, bd2_some, bdX_ok, bdX_er, nm_eq, n_0, n_1, n_2, n_3, n_4, n_5, n_6, n_7, n_8, n_9, n_10, n_11, n_12, n_14, n_15, n_16, n_17, n_18, n_19, n_20, n_21, n_24, n_27, n_28, n_32, n_43, n_45, n_48, n_56, n_57, n_59, n_64, n_70, n_97, n_99, n_100, n_104, n_118, n_122, n_126, n_127, n_128, n_129, n_130, n_150, n_255, n_600, n_1000, n_1050, n_1200, n_999999, n_1000000, iI_neg, iI_add, iI_sub, iI_mul, ile, ilt, ieq, Z_has, Z_0, Z_1, Z_2, Z_5, Z_15, Z_17, Z_18, Z_24, Z_25, Z_26, Z_3, Z_4, Z_6, Z_7, Z_8, Z_9, Z_10, Z_11, Z_12, Z_13, Z_14, Z_16, Z_19, Z_20, Z_21, Z_22, Z_23, Z_27, Y_3, Y_4, Y_6, Y_7, Y_8, Y_9, Y_10, Y_11, Y_12, Y_13, Y_14, Y_16, Y_19, Y_20, Y_21, Y_22, Y_23, Y_27, A_g, A_s, up_at, up_ne, up_off, p1, e]
    rw [if_pos (by first | exact trivial | omega | decide), q1]
    unfold f_X11_forget_87
    simp (disch := omega) only [n_69, n_50, n_13, Option.bind_some, bd2_some, bdX_ok, bdX_er, nm_eq, n_0, n_1, n_2, n_3, n_4, n_5, n_6, n_7, n_8, n_9, n_10, n_11, n_12, n_14, n_15, n_16, n_17, n_18, n_19, n_20, n_21, n_24, n_27, n_28, n_32, n_43, n_45, n_48, n_56, n_57, n_59, n_64, n_70, n_97, n_99, n_100, n_104, n_118, n_122, n_126, n_127, n_128, n_129, n_130, n_150, n_255, n_600, n_1000, n_1050, n_1200, n_999999, n_1000000, iI_neg, iI_add, iI_sub, iI_mul, ile, ilt, ieq, Z_has, Z_0, Z_1, Z_2, Z_5, Z_15, Z_17, Z_18, Z_24, Z_25, Z_26, Z_3, Z_4, Z_6, Z_7, Z_8, Z_9, Z_10, Z_11, Z_12, Z_13, Z_14, Z_16, Z_19, Z_20, Z_21, Z_22, Z_23, Z_27, Y_3, Y_4, Y_6, Y_7, Y_8, Y_9, Y_10, Y_11, Y_12, Y_13, Y_14, Y_16, Y_19, Y_20, Y_21, Y_22, Y_23, Y_27, A_g, A_s, up_at, up_ne, up_off, e69]
    have fr : ∀ k, k ≠ 69 → (k < 70 ∨ 118 ≤ k) → m2 284 k = m 284 k := fun k a b => by rw [q3, if_neg (by omega), up_off a, p3]
    have hel : ((sR x).eraseIdx v.toNat).length = (sR x).length - 1 := by rw [List.length_eraseIdx, if_pos (by omega)]
    refine RQ_yes p2 p4 p5 (fun q hq => by rw [q2 q hq, up_ne hq]) ⟨h.1.1.cong (fun k _ b => fr k (by omega) (by omega)), ⟨?_, ?_, fun i y hi => ?_⟩, h.1.2.2.1.cong (fun k a b => fr k (by omega) (by omega)), h.1.2.2.2.cong (fun k a b => fr k (by omega) (by omega))⟩ rfl
    · show m2 284 69 = (((sR x).eraseIdx v.toNat).length : Int)
      rw [e69, hel]; omega
    · show ((sR x).eraseIdx v.toNat).length ≤ 6
      omega
    · have hi : ((sR x).eraseIdx v.toNat)[i]? = some y := hi
      have hi' : i < (sR x).length - 1 := by have := (List.getElem?_eq_some_iff.mp hi).1; omega
      rw [List.getElem?_eraseIdx] at hi
      by_cases q : i < v.toNat
      · rw [if_pos q] at hi
        exact (t3 i y hi).cong (fun k a b => by rw [q3, if_neg (by omega), up_off (by omega), p3])
      · rw [if_neg q] at hi
        obtain ⟨r1, r2, r3⟩ := t3 (i + 1) y hi
        refine ⟨?_, r2, fun j c hj => ?_⟩
        · refine Eq.trans ?_ r1
          rw [q3, if_pos (by omega), up_off (by omega), p3]
          first | done | exact congrArg (m 284) (by omega)
        · have := (List.getElem?_eq_some_iff.mp hj).1
          refine Eq.trans ?_ (r3 j c hj)
          rw [q3, if_pos (by omega), up_off (by omega), p3]
          first | done | exact congrArg (m 284) (by omega)
  · rw [show inB v 0 (((sR x).length : Int) - 1) = 0 from if_neg (by omega)]
    rw [if_pos (by first | exact trivial | omega | decide), if_pos c1, if_neg (by first | exact not_false | omega | decide)]
    exact RQ_no h (by omega)
end RD
