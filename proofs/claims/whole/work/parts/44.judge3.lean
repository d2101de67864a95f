/-! the greatest difference as a function -/
def stepD (dl : Nat → Int) (s : Int × Nat) (d : Nat) : Int × Nat := if s.1 < dl d then (dl d, d) else if dl d = s.1 ∧ (pcN 16 d < pcN 16 s.2 ∨ (pcN 16 d = pcN 16 s.2 ∧ d < s.2)) then (s.1, d) else s
def bestOver (dl : Nat → Int) (L : List Nat) : Int × Nat := L.foldl (stepD dl) (-1, 0)
theorem bestOver_go {dl : Nat → Int} : ∀ (L : List Nat) (S : Nat → Prop) (s : Int × Nat), isBest S dl s.1 s.2 → isBest (fun x => S x ∨ x ∈ L) dl (L.foldl (stepD dl) s).1 (L.foldl (stepD dl) s).2 := by
  intro L
  induction L with
  | nil => intro S s h; exact isBest_cong h (fun x => by simp)
  | cons d L ih =>
    intro S s h
    obtain ⟨u1, u2, u3⟩ := isBest_up (d := d) h
    have h2 : isBest (fun x => S x ∨ x = d) dl (stepD dl s d).1 (stepD dl s d).2 := by
      unfold stepD
      by_cases c1 : s.1 < dl d
      · rw [if_pos c1]; exact u1 c1
      · rw [if_neg c1]
        by_cases c2 : dl d = s.1 ∧ (pcN 16 d < pcN 16 s.2 ∨ (pcN 16 d = pcN 16 s.2 ∧ d < s.2))
        · rw [if_pos c2]; exact u2 c2.1 c2.2
        · rw [if_neg c2]; exact u3 c1 (fun e f => c2 ⟨e, f⟩)
    rw [List.foldl_cons]
    exact isBest_cong (ih _ _ h2) (fun x => by simp [or_assoc])
def candsOf (N : Nt) (l : List Int) : List Nat := ((List.range (2 ^ l.length)).filter (fun P => decide ((pcN 16 P : Int) ≤ nB N))).map (fun P => dl P l)
def rgF (N : Nt) (T : List (List Int)) (told : Int) (l : List Int) : Int × Nat := bestOver (dlt N l T told) (candsOf N l)
theorem rgF_best {N : Nt} {T : List (List Int)} {told : Int} {l : List Int} (hl : okL l) (hd : l.Nodup) (h7 : l.length ≤ 7) : isBest (CD N l) (dlt N l T told) (rgF N T told l).1 (rgF N T told l).2 := by
  refine isBest_cong (bestOver_go (candsOf N l) _ (-1, 0) isBest_zero) (fun x => ?_)
  rw [← Sj_CD hl hd h7 x]
  unfold candsOf Sj
  simp only [false_or, List.mem_map, List.mem_filter, List.mem_range, decide_eq_true_eq]
  constructor
  · rintro ⟨P, ⟨p1, p2⟩, p3⟩
    exact ⟨P, Nat.zero_le _, p1, p2, p3⟩
  · rintro ⟨P, -, p1, p2, p3⟩
    exact ⟨P, ⟨p1, p2⟩, p3⟩
/-- told routes and routes at all are such paths -/
def PK (N : Nt) (l : List Int) : Prop := AOK N l ∧ l.Nodup
theorem pOK_nodup {N : Nt} (hW : WFN N) {l : List Int} (h : pOK N l) : l.Nodup := by
  have h1 := (List.nodup_cons.mp (ns_nodup _ l rfl h)).2
  exact List.Pairwise.of_map (aHd N) (fun a b h e => h (by rw [e])) h1
theorem pOK_PK {N : Nt} (hW : WFN N) {l : List Int} (h : pOK N l) : PK N l := ⟨pOK_AOK h, pOK_nodup hW h⟩
theorem PK_ok {N : Nt} (hW : WFN N) {l : List Int} (h : PK N l) : okL l := fun a ha => by
  have := h.1 a ha
  have := hW.1
  omega
section JH
variable {w : Wl} {N : Nt} {fu : Nat} {T : List (List Int)} {q : Nat} {l : List Int} {told : Int}
/-- the search without a limit -/
theorem greatest_eq (hfu : 1000 ≤ fu) {m : Mm} (hN : isNet m 2 N) (hq : isPth m q l) (hq8 : q ≠ 258 ∧ q ≠ 259 ∧ q ≠ 257) (hl : PK N l) (hto : told = 0 ∨ (told = 1 ∧ isTolds m 1 T)) (hTK : TOK N T) {lim : Int} (hlim : -1 ≤ lim ∧ lim ≤ 1000000) :
    ∃ m' g W, f_X3_findGreatest fu 258 q (iI told) (iI lim) (mem w m) = some ((), mem w m') ∧ sameJ m m' ∧ JS m' g W ∧ -1 ≤ g ∧ g ≤ 2000 ∧ W < 65536 ∧ ((g = (rgF N T told l).1 ∧ W = (rgF N T told l).2) ∨ (lim < g ∧ g ≤ (rgF N T told l).1)) := by
  have hb := rgF_best (T := T) (told := told) (N := N) (PK_ok hN.2.2 hl) hl.2 hq.2.2.2
  obtain ⟨m', g, W, h1, h2, h3, h4, h5, h6⟩ := findGreatest_eq (w := w) hfu hN hq hq8 hl.1 hl.2 hto hTK hlim
  rcases h6 with h6 | ⟨h6, d, h7, h8⟩
  · exact ⟨m', g, W, h1, h2, h3, h6.1, h4, h5, Or.inl (isBest_one h6 hb)⟩
  · refine ⟨m', g, W, h1, h2, h3, by omega, h4, h5, Or.inr ⟨h6, ?_⟩⟩
    rcases hb.2.2 d h7 with z | ⟨z, -⟩ <;> omega
theorem regretOf_eq (hfu : 1000 ≤ fu) {m : Mm} (hN : isNet m 2 N) (hq : isPth m q l) (hq8 : q ≠ 258 ∧ q ≠ 259 ∧ q ≠ 257) (hl : PK N l) (hTK : TOK N T) : ∃ m', f_X3_regretOf fu 258 q (mem w m) = some (iI (rgF N T 0 l).1, mem w m') ∧ sameJ m m' := by
  unfold f_X3_regretOf
  obtain ⟨m', g, W, h1, h2, h3, h4, h5, h6, h7⟩ := greatest_eq (w := w) (T := T) hfu hN hq hq8 hl (Or.inl rfl) hTK (lim := 1000000) (by omega)
  simp (disch := omega) only [Option.bind_some, bd2_some, bdX_ok, bdX_er, nm_eq, n_0, n_1, n_2, n_3, n_4, n_5, n_6, n_7, n_8, n_9, n_10, n_11, n_12, n_14, n_15, n_16, n_17, n_18, n_19, n_20, n_21, n_24, n_27, n_28, n_32, n_43, n_45, n_48, n_56, n_57, n_59, n_64, n_70, n_97, n_99, n_100, n_104, n_118, n_122, n_126, n_127, n_128, n_129, n_130, n_150, n_255, n_600, n_1000, n_1050, n_1200, n_999999, n_1000000, iI_neg, iI_add, iI_sub, iI_mul, ile, ilt, ieq, H3, h1, G3_3, h3.1]
  rcases h7 with ⟨e, -⟩ | ⟨e, -⟩
  · exact ⟨m', by rw [e], h2⟩
  · omega
theorem regretWitnessOf_eq (hfu : 1000 ≤ fu) {m : Mm} (hN : isNet m 2 N) (hq : isPth m q l) (hq8 : q ≠ 258 ∧ q ≠ 259 ∧ q ≠ 257) (hl : PK N l) (hTK : TOK N T) : ∃ m', f_X3_regretWitnessOf fu 258 q (mem w m) = some (iI ((rgF N T 0 l).2 : Nat), mem w m') ∧ sameJ m m' := by
  unfold f_X3_regretWitnessOf
  obtain ⟨m', g, W, h1, h2, h3, h4, h5, h6, h7⟩ := greatest_eq (w := w) (T := T) hfu hN hq hq8 hl (Or.inl rfl) hTK (lim := 1000000) (by omega)
  simp (disch := omega) only [Option.bind_some, bd2_some, bdX_ok, bdX_er, nm_eq, n_0, n_1, n_2, n_3, n_4, n_5, n_6, n_7, n_8, n_9, n_10, n_11, n_12, n_14, n_15, n_16, n_17, n_18, n_19, n_20, n_21, n_24, n_27, n_28, n_32, n_43, n_45, n_48, n_56, n_57, n_59, n_64, n_70, n_97, n_99, n_100, n_104, n_118, n_122, n_126, n_127, n_128, n_129, n_130, n_150, n_255, n_600, n_1000, n_1050, n_1200, n_999999, n_1000000, iI_neg, iI_add, iI_sub, iI_mul, ile, ilt, ieq, H3, h1, G3_4, h3.2]
  rcases h7 with ⟨-, e⟩ | ⟨e, -⟩
  · exact ⟨m', by rw [e], h2⟩
  · omega
theorem toldRegretOf_eq (hfu : 1000 ≤ fu) {m : Mm} (hN : isNet m 2 N) (hq : isPth m q l) (hq8 : q ≠ 258 ∧ q ≠ 259 ∧ q ≠ 257) (hl : PK N l) (hT : isTolds m 1 T) (hTK : TOK N T) : ∃ m', f_X3_toldRegretOf fu 258 q (mem w m) = some (iI (rgF N T 1 l).1, mem w m') ∧ sameJ m m' := by
  unfold f_X3_toldRegretOf
  obtain ⟨m', g, W, h1, h2, h3, h4, h5, h6, h7⟩ := greatest_eq (w := w) (T := T) (told := 1) hfu hN hq hq8 hl (Or.inr ⟨rfl, hT⟩) hTK (lim := 1000000) (by omega)
  simp (disch := omega) only [Option.bind_some, bd2_some, bdX_ok, bdX_er, nm_eq, n_0, n_1, n_2, n_3, n_4, n_5, n_6, n_7, n_8, n_9, n_10, n_11, n_12, n_14, n_15, n_16, n_17, n_18, n_19, n_20, n_21, n_24, n_27, n_28, n_32, n_43, n_45, n_48, n_56, n_57, n_59, n_64, n_70, n_97, n_99, n_100, n_104, n_118, n_122, n_126, n_127, n_128, n_129, n_130, n_150, n_255, n_600, n_1000, n_1050, n_1200, n_999999, n_1000000, iI_neg, iI_add, iI_sub, iI_mul, ile, ilt, ieq, H3, h1, G3_3, h3.1]
  rcases h7 with ⟨e, -⟩ | ⟨e, -⟩
  · exact ⟨m', by rw [e], h2⟩
  · omega
/-- the told route with the least regret among the told ones -/
def chF (N : Nt) (T : List (List Int)) : List (List Int) → Int → Int → Int → Int
  | [], _, f, _ => f
  | l :: L, i, f, s => if (rgF N T 1 l).1 < s then chF N T L (i + 1) i (rgF N T 1 l).1 else chF N T L (i + 1) f s
theorem chooseTold_go (hfu : 1000 ≤ fu) (hTK : ∀ l ∈ T, PK N l) : ∀ (suf pre : List (List Int)) (n : Nat) (m : Mm) (f s : Int), isNet m 2 N → isTolds m 1 T → T = pre ++ suf → suf.length < n → -1 ≤ s → s ≤ 1000000 → ∃ m', f_X3_chooseTold_7 fu n 258 (iI f) (iI s) (iI (pre.length : Int)) (mem w m) = some (iI (chF N T suf pre.length f s), mem w m') ∧ sameJ m m' := by
  intro suf
  induction suf with
  | nil =>
    intro pre n m f s hN hT hs hn h0 h1
    have h6 := hT.2.2.1
    have hS := hT.1
    have hlen : T.length = pre.length := by rw [hs]; simp
    obtain ⟨n, rfl⟩ : ∃ k, n = k + 1 := ⟨n - 1, by omega⟩
    rw [f_X3_chooseTold_7, f_X3_chooseTold_7b]
    simp (disch := omega) only [Option.bind_some, bd2_some, bdX_ok, bdX_er, nm_eq, n_0, n_1, n_2, n_3, n_4, n_5, n_6, n_7, n_8, n_9, n_10, n_11, n_12, n_14, n_15, n_16, n_17, n_18, n_19, n_20, n_21, n_24, n_27, n_28, n_32, n_43, n_45, n_48, n_56, n_57, n_59, n_64, n_70, n_97, n_99, n_100, n_104, n_118, n_122, n_126, n_127, n_128, n_129, n_130, n_150, n_255, n_600, n_1000, n_1050, n_1200, n_999999, n_1000000, iI_neg, iI_add, iI_sub, iI_mul, ile, ilt, ieq, G3_0, S_3 hS, hT.2.1]
    rw [if_pos (by first | exact trivial | omega)]
    exact ⟨m, rfl, sameJ.rf⟩
  | cons l suf ih =>
    intro pre n m f s hN hT hs hn h0 h1
    have h6 := hT.2.2.1
    have hS := hT.1
    have hlen : T.length = pre.length + (suf.length + 1) := by rw [hs]; simp
    have hq := hT.2.2.2 pre.length l (by rw [hs]; exact mid_at)
    have hl := hTK l (by rw [hs]; simp)
    have hp : aP (mem w m) (1 + 8) 14 (iI (pre.length : Int)) = some (1 + 9 + 2 * pre.length) := S_told hS (by omega)
    simp only [List.length_cons] at hn
    obtain ⟨n, rfl⟩ : ∃ k, n = k + 1 := ⟨n - 1, by omega⟩
    rw [f_X3_chooseTold_7, f_X3_chooseTold_7b]
    obtain ⟨m', g, W, p1, p2, p3, p4, p5, p6, p7⟩ := greatest_eq (w := w) (T := T) (told := 1) hfu hN hq (by omega) hl (Or.inr ⟨rfl, hT⟩) (fun l hl => (hTK l hl).1) (lim := s) (by omega)
    unfold f_X3_chooseTold_48
    simp (disch := omega) only [Option.bind_some, bd2_some, bdX_ok, bdX_er, nm_eq, n_0, n_1, n_2, n_3, n_4, n_5, n_6, n_7, n_8, n_9, n_10, n_11, n_12, n_14, n_15, n_16, n_17, n_18, n_19, n_20, n_21, n_24, n_27, n_28, n_32, n_43, n_45, n_48, n_56, n_57, n_59, n_64, n_70, n_97, n_99, n_100, n_104, n_118, n_122, n_126, n_127, n_128, n_129, n_130, n_150, n_255, n_600, n_1000, n_1050, n_1200, n_999999, n_1000000, iI_neg, iI_add, iI_sub, iI_mul, ile, ilt, ieq, G3_0, G3_3, H3, S_3 hS, S_2 hS, hT.2.1, hp, p1, p3.1]
    rw [if_neg (by first | exact not_false | omega)]
    have hN' := p2.net hN
    have hT' := hT.cong p2
    have e : ((pre ++ [l]).length : Int) = (pre.length : Int) + 1 := by simp
    rw [chF]
    by_cases c : s ≤ g
    · rw [if_pos c, if_neg (by rcases p7 with ⟨p7, -⟩ | ⟨p7, p8⟩ <;> omega)]
      obtain ⟨m2, q1, q2⟩ := ih (pre ++ [l]) n m' f s hN' hT' (by rw [hs]; simp) (by omega) h0 h1
      rw [e] at q1
      exact ⟨m2, q1, p2.trans q2⟩
    · have eg : g = (rgF N T 1 l).1 := by rcases p7 with ⟨p7, -⟩ | ⟨p7, p8⟩ <;> omega
      rw [if_neg c, if_pos (by omega), ← eg]
      obtain ⟨m2, q1, q2⟩ := ih (pre ++ [l]) n m' pre.length g hN' hT' (by rw [hs]; simp) (by omega) p4 (by omega)
      rw [e] at q1
      exact ⟨m2, q1, p2.trans q2⟩
theorem chooseTold_eq (hfu : 1000 ≤ fu) {m : Mm} (hN : isNet m 2 N) (hT : isTolds m 1 T) (hTK : ∀ l ∈ T, PK N l) : ∃ m', f_X3_chooseTold fu 258 (mem w m) = some (iI (chF N T T 0 (-1) 1000000), mem w m') ∧ sameJ m m' := by
  have h6 := hT.2.2.1
  rw [f_X3_chooseTold]
  simp (disch := omega) only [Option.bind_some, bd2_some, bdX_ok, bdX_er, nm_eq, n_0, n_1, n_2, n_3, n_4, n_5, n_6, n_7, n_8, n_9, n_10, n_11, n_12, n_14, n_15, n_16, n_17, n_18, n_19, n_20, n_21, n_24, n_27, n_28, n_32, n_43, n_45, n_48, n_56, n_57, n_59, n_64, n_70, n_97, n_99, n_100, n_104, n_118, n_122, n_126, n_127, n_128, n_129, n_130, n_150, n_255, n_600, n_1000, n_1050, n_1200, n_999999, n_1000000, iI_neg, iI_add, iI_sub, iI_mul, ile, ilt, ieq, n_m1]
  exact chooseTold_go (w := w) hfu hTK T [] fu m (-1) 1000000 hN hT rfl (by omega) (by omega) (by omega)
theorem isBeating_eq {q' : Nat} {l' : List Int} (hfu : 100 ≤ fu) {m : Mm} (hN : isNet m 2 N) (hq : isPth m q l) (hq' : isPth m q' l') (hl : AOK N l) (hl' : AOK N l') : f_X3_isBeating fu 258 q q' (mem w m) = some (iI (b2 (decide (cst N l (wit N l') < wst N l'))), mem w m) := by
  have c1 := AOK_len hN.2.2 (D := wit N l') hq hl
  have c2 := AOK_len hN.2.2 (D := wit N l') hq' hl'
  unfold f_X3_isBeating
  simp (disch := omega) only [Option.bind_some, bd2_some, bdX_ok, bdX_er, nm_eq, n_0, n_1, n_2, n_3, n_4, n_5, n_6, n_7, n_8, n_9, n_10, n_11, n_12, n_14, n_15, n_16, n_17, n_18, n_19, n_20, n_21, n_24, n_27, n_28, n_32, n_43, n_45, n_48, n_56, n_57, n_59, n_64, n_70, n_97, n_99, n_100, n_104, n_118, n_122, n_126, n_127, n_128, n_129, n_130, n_150, n_255, n_600, n_1000, n_1050, n_1200, n_999999, n_1000000, iI_neg, iI_add, iI_sub, iI_mul, ile, ilt, ieq, G3_1, K_has hN, K_0 hN, K_1 hN, K_2 hN, K_3 hN, K_4 hN, K_5 hN, K_6 hN, K_7 hN, K_8 hN, K_tl hN, K_hd hN, K_co hN, K_ex hN, witnessOf_eq hfu hN hq' hl', costAgainst_eq hfu hN hq hl, costAgainst_eq hfu hN hq' hl']
  have e : wst N l' = cst N l' (wit N l') := rfl
  by_cases c : cst N l (wit N l') < wst N l'
  · rw [if_neg (by omega)]; simp [c, b2]
  · rw [if_pos (by omega)]; simp [c, b2]
theorem countBeating_go (hfu : 100 ≤ fu) {m : Mm} (hN : isNet m 2 N) (hT : isTolds m 1 T) (hTK : TOK N T) (hq : isPth m q l) (hl : AOK N l) : ∀ (suf pre : List (List Int)) (n : Nat) (s : Int), T = pre ++ suf → suf.length < n → f_X3_countBeating_4 fu n 258 q (iI s) (iI (pre.length : Int)) (mem w m) = some (iI (s + (suf.countP (fun x => decide (cst N x (wit N l) < wst N l)) : Nat)), mem w m) := by
  have h6 := hT.2.2.1
  have hS := hT.1
  intro suf
  induction suf with
  | nil =>
    intro pre n s hs hn
    have hlen : T.length = pre.length := by rw [hs]; simp
    obtain ⟨n, rfl⟩ : ∃ k, n = k + 1 := ⟨n - 1, by omega⟩
    rw [f_X3_countBeating_4, f_X3_countBeating_4b]
    simp (disch := omega) only [Option.bind_some, bd2_some, bdX_ok, bdX_er, nm_eq, n_0, n_1, n_2, n_3, n_4, n_5, n_6, n_7, n_8, n_9, n_10, n_11, n_12, n_14, n_15, n_16, n_17, n_18, n_19, n_20, n_21, n_24, n_27, n_28, n_32, n_43, n_45, n_48, n_56, n_57, n_59, n_64, n_70, n_97, n_99, n_100, n_104, n_118, n_122, n_126, n_127, n_128, n_129, n_130, n_150, n_255, n_600, n_1000, n_1050, n_1200, n_999999, n_1000000, iI_neg, iI_add, iI_sub, iI_mul, ile, ilt, ieq, G3_0, S_3 hS, hT.2.1]
    rw [if_pos (by first | exact trivial | omega)]
    simp
  | cons x suf ih =>
    intro pre n s hs hn
    have hlen : T.length = pre.length + (suf.length + 1) := by rw [hs]; simp
    have hqx := hT.2.2.2 pre.length x (by rw [hs]; exact mid_at)
    have hx := hTK x (by rw [hs]; simp)
    have hp : aP (mem w m) (1 + 8) 14 (iI (pre.length : Int)) = some (1 + 9 + 2 * pre.length) := S_told hS (by omega)
    simp only [List.length_cons] at hn
    obtain ⟨n, rfl⟩ : ∃ k, n = k + 1 := ⟨n - 1, by omega⟩
    rw [f_X3_countBeating_4, f_X3_countBeating_4b]
    unfold f_X3_countBeating_35
    simp (disch := omega) only [Option.bind_some, bd2_some, bdX_ok, bdX_er, nm_eq, n_0, n_1, n_2, n_3, n_4, n_5, n_6, n_7, n_8, n_9, n_10, n_11, n_12, n_14, n_15, n_16, n_17, n_18, n_19, n_20, n_21, n_24, n_27, n_28, n_32, n_43, n_45, n_48, n_56, n_57, n_59, n_64, n_70, n_97, n_99, n_100, n_104, n_118, n_122, n_126, n_127, n_128, n_129, n_130, n_150, n_255, n_600, n_1000, n_1050, n_1200, n_999999, n_1000000, iI_neg, iI_add, iI_sub, iI_mul, ile, ilt, ieq, G3_0, H3, S_3 hS, S_2 hS, hT.2.1, hp, isBeating_eq hfu hN hqx hq hx hl]
    rw [if_neg (by first | exact not_false | omega)]
    have e : ((pre ++ [x]).length : Int) = (pre.length : Int) + 1 := by simp
    have := fun s => ih (pre ++ [x]) n s (by rw [hs]; simp) (by omega)
    rw [e] at this
    rw [List.countP_cons]
    cases hc : decide (cst N x (wit N l) < wst N l) with
    | true =>
      rw [show b2 true = 1 from rfl]
      simp (disch := omega) only [Option.bind_some, bd2_some, bdX_ok, bdX_er, nm_eq, n_0, n_1, n_2, n_3, n_4, n_5, n_6, n_7, n_8, n_9, n_10, n_11, n_12, n_14, n_15, n_16, n_17, n_18, n_19, n_20, n_21, n_24, n_27, n_28, n_32, n_43, n_45, n_48, n_56, n_57, n_59, n_64, n_70, n_97, n_99, n_100, n_104, n_118, n_122, n_126, n_127, n_128, n_129, n_130, n_150, n_255, n_600, n_1000, n_1050, n_1200, n_999999, n_1000000, iI_neg, iI_add, iI_sub, iI_mul, ile, ilt, ieq]
      rw [if_neg (by first | exact not_false | omega), this]
      congr 3
      simp; omega
    | false =>
      rw [show b2 false = 0 from rfl]
      simp (disch := omega) only [Option.bind_some, bd2_some, bdX_ok, bdX_er, nm_eq, n_0, n_1, n_2, n_3, n_4, n_5, n_6, n_7, n_8, n_9, n_10, n_11, n_12, n_14, n_15, n_16, n_17, n_18, n_19, n_20, n_21, n_24, n_27, n_28, n_32, n_43, n_45, n_48, n_56, n_57, n_59, n_64, n_70, n_97, n_99, n_100, n_104, n_118, n_122, n_126, n_127, n_128, n_129, n_130, n_150, n_255, n_600, n_1000, n_1050, n_1200, n_999999, n_1000000, iI_neg, iI_add, iI_sub, iI_mul, ile, ilt, ieq]
      rw [if_pos (by first | exact trivial | omega), this]
      simp
theorem countBeating_eq (hfu : 100 ≤ fu) {m : Mm} (hN : isNet m 2 N) (hT : isTolds m 1 T) (hTK : TOK N T) (hq : isPth m q l) (hl : AOK N l) : f_X3_countBeating fu 258 q (mem w m) = some (iI ((T.countP (fun x => decide (cst N x (wit N l) < wst N l)) : Nat) : Int), mem w m) := by
  have h6 := hT.2.2.1
  rw [f_X3_countBeating]
  simp (disch := omega) only [Option.bind_some, bd2_some, bdX_ok, bdX_er, nm_eq, n_0, n_1, n_2, n_3, n_4, n_5, n_6, n_7, n_8, n_9, n_10, n_11, n_12, n_14, n_15, n_16, n_17, n_18, n_19, n_20, n_21, n_24, n_27, n_28, n_32, n_43, n_45, n_48, n_56, n_57, n_59, n_64, n_70, n_97, n_99, n_100, n_104, n_118, n_122, n_126, n_127, n_128, n_129, n_130, n_150, n_255, n_600, n_1000, n_1050, n_1200, n_999999, n_1000000, iI_neg, iI_add, iI_sub, iI_mul, ile, ilt, ieq]
  have := countBeating_go (w := w) hfu hN hT hTK hq hl T [] fu 0 rfl (by omega)
  rw [Int.zero_add] at this
  exact this
/-- the walk's counts -/
theorem countRoutes_go (hfu : 200000 ≤ fu) : ∀ (k n : Nat) (m : Mm) (L : List (List Int)) (s : Int), isNet m 2 N → WS m N L k → k ≤ 131072 → 0 ≤ s → s + L.length < 1000000 → L.length < n → ∃ m', f_X7_countRoutes_6 fu n 255 (iI s) (mem w m) = some (iI (s + L.length), mem w m') ∧ sameW m m' := by
  intro k
  induction k using Nat.strongRecOn with
  | ind k ih =>
    intro n m L s hN hWS hk h0 h1 hn
    obtain ⟨n, rfl⟩ : ∃ k, n = k + 1 := ⟨n - 1, by omega⟩
    rw [f_X7_countRoutes_6, f_X7_countRoutes_6b]
    rcases advance_eq (w := w) hfu hN hk hWS with ⟨e, m', p1, p2, p3⟩ | ⟨r, L', m', k', e, p0, p1, p2, p3, p4, p5, p6, p7⟩
    · simp (disch := omega) only [Option.bind_some, bd2_some, bdX_ok, bdX_er, nm_eq, n_0, n_1, n_2, n_3, n_4, n_5, n_6, n_7, n_8, n_9, n_10, n_11, n_12, n_14, n_15, n_16, n_17, n_18, n_19, n_20, n_21, n_24, n_27, n_28, n_32, n_43, n_45, n_48, n_56, n_57, n_59, n_64, n_70, n_97, n_99, n_100, n_104, n_118, n_122, n_126, n_127, n_128, n_129, n_130, n_150, n_255, n_600, n_1000, n_1050, n_1200, n_999999, n_1000000, iI_neg, iI_add, iI_sub, iI_mul, ile, ilt, ieq, H7, p1]
      rw [if_neg (by omega), if_pos (by first | exact trivial | omega), e]
      exact ⟨m', by simp, p2⟩
    · subst e
      simp only [List.length_cons] at h1 hn ⊢
      simp (disch := omega) only [Option.bind_some, bd2_some, bdX_ok, bdX_er, nm_eq, n_0, n_1, n_2, n_3, n_4, n_5, n_6, n_7, n_8, n_9, n_10, n_11, n_12, n_14, n_15, n_16, n_17, n_18, n_19, n_20, n_21, n_24, n_27, n_28, n_32, n_43, n_45, n_48, n_56, n_57, n_59, n_64, n_70, n_97, n_99, n_100, n_104, n_118, n_122, n_126, n_127, n_128, n_129, n_130, n_150, n_255, n_600, n_1000, n_1050, n_1200, n_999999, n_1000000, iI_neg, iI_add, iI_sub, iI_mul, ile, ilt, ieq, H7, p1]
      rw [if_neg (by omega), if_neg (by first | exact not_false | omega)]
      obtain ⟨m2, q1, q2⟩ := ih k' p0 n m' L' (s + 1) (p2.net hN) p7 (by omega) (by omega) (by omega) (by omega)
      exact ⟨m2, by rw [q1]; congr 3; omega, p2.trans q2⟩
theorem countRoutes_eq (hfu : 200000 ≤ fu) {m : Mm} (hN : isNet m 2 N) : ∃ m', f_X7_countRoutes fu 255 (mem w m) = some (iI ((routesOf N).length : Int), mem w m') ∧ sameW m m' := by
  unfold f_X7_countRoutes
  obtain ⟨m1, p1, p2, p3⟩ := wbegin_eq (w := w) (fu := fu) (m := m) hN.2.2
  have := p3.len
  simp (disch := omega) only [Option.bind_some, bd2_some, bdX_ok, bdX_er, nm_eq, n_0, n_1, n_2, n_3, n_4, n_5, n_6, n_7, n_8, n_9, n_10, n_11, n_12, n_14, n_15, n_16, n_17, n_18, n_19, n_20, n_21, n_24, n_27, n_28, n_32, n_43, n_45, n_48, n_56, n_57, n_59, n_64, n_70, n_97, n_99, n_100, n_104, n_118, n_122, n_126, n_127, n_128, n_129, n_130, n_150, n_255, n_600, n_1000, n_1050, n_1200, n_999999, n_1000000, iI_neg, iI_add, iI_sub, iI_mul, ile, ilt, ieq, H7, p1]
  obtain ⟨m2, q1, q2⟩ := countRoutes_go (w := w) hfu 131072 fu m1 (routesOf N) 0 (p2.net hN) p3 (by omega) (by omega) (by omega) (by omega)
  rw [Int.zero_add] at q1
  exact ⟨m2, q1, p2.trans q2⟩
theorem countWithin_go (hfu : 200000 ≤ fu) {z : Int} (hz : -2147483648 ≤ z ∧ z < 2147483648) : ∀ (k n : Nat) (m : Mm) (L : List (List Int)) (s i : Int), isNet m 2 N → WS m N L k → k ≤ 131072 → 0 ≤ i → i + L.length < 1000000 → L.length < n → ∃ m', f_X7_countWithin_8 fu n 255 (iI z) (iI s) (iI i) (mem w m) = some (iI (s + (L.countP (fun r => decide (wst N r ≤ z)) : Nat)), mem w m') ∧ sameW m m' := by
  intro k
  induction k using Nat.strongRecOn with
  | ind k ih =>
    intro n m L s i hN hWS hk h0 h1 hn
    obtain ⟨n, rfl⟩ : ∃ k, n = k + 1 := ⟨n - 1, by omega⟩
    rw [f_X7_countWithin_8, f_X7_countWithin_8b]
    unfold f_X7_countWithin_39
    rcases advance_eq (w := w) hfu hN hk hWS with ⟨e, m', p1, p2, p3⟩ | ⟨r, L', m', k', e, p0, p1, p2, p3, p4, p5, p6, p7⟩
    · simp (disch := omega) only [Option.bind_some, bd2_some, bdX_ok, bdX_er, nm_eq, n_0, n_1, n_2, n_3, n_4, n_5, n_6, n_7, n_8, n_9, n_10, n_11, n_12, n_14, n_15, n_16, n_17, n_18, n_19, n_20, n_21, n_24, n_27, n_28, n_32, n_43, n_45, n_48, n_56, n_57, n_59, n_64, n_70, n_97, n_99, n_100, n_104, n_118, n_122, n_126, n_127, n_128, n_129, n_130, n_150, n_255, n_600, n_1000, n_1050, n_1200, n_999999, n_1000000, iI_neg, iI_add, iI_sub, iI_mul, ile, ilt, ieq, H7, p1]
      rw [if_neg (by omega), if_pos (by first | exact trivial | omega), e]
      exact ⟨m', by simp, p2⟩
    · subst e
      simp only [List.length_cons] at h1 hn ⊢
      have hN' := p2.net hN
      have hc : 0 ≤ wst N r ∧ wst N r ≤ 1386 := AOK_len hN.2.2 p3 (pOK_AOK p4)
      simp (disch := omega) only [Option.bind_some, bd2_some, bdX_ok, bdX_er, nm_eq, n_0, n_1, n_2, n_3, n_4, n_5, n_6, n_7, n_8, n_9, n_10, n_11, n_12, n_14, n_15, n_16, n_17, n_18, n_19, n_20, n_21, n_24, n_27, n_28, n_32, n_43, n_45, n_48, n_56, n_57, n_59, n_64, n_70, n_97, n_99, n_100, n_104, n_118, n_122, n_126, n_127, n_128, n_129, n_130, n_150, n_255, n_600, n_1000, n_1050, n_1200, n_999999, n_1000000, iI_neg, iI_add, iI_sub, iI_mul, ile, ilt, ieq, H7, p1, G7_0, G7_1, K_has hN', K_0 hN', K_1 hN', K_2 hN', K_3 hN', K_4 hN', K_5 hN', K_6 hN', K_7 hN', K_8 hN', K_tl hN', K_hd hN', K_co hN', K_ex hN', worstOf_eq (w := w) (show 100 ≤ fu by omega) hN' p3 (pOK_AOK p4)]
      rw [if_neg (by omega), if_neg (by first | exact not_false | omega), List.countP_cons]
      by_cases c : z < wst N r
      · obtain ⟨m2, q1, q2⟩ := ih k' p0 n m' L' s (i + 1) hN' p7 (by omega) (by omega) (by omega) (by omega)
        rw [if_pos c, q1]
        have : ¬ wst N r ≤ z := by omega
        exact ⟨m2, by congr 3; simp [this], p2.trans q2⟩
      · obtain ⟨m2, q1, q2⟩ := ih k' p0 n m' L' (s + 1) (i + 1) hN' p7 (by omega) (by omega) (by omega) (by omega)
        rw [if_neg c, q1]
        have : wst N r ≤ z := by omega
        exact ⟨m2, by congr 3; simp [this]; omega, p2.trans q2⟩
theorem countWithin_eq (hfu : 200000 ≤ fu) {z : Int} (hz : -2147483648 ≤ z ∧ z < 2147483648) {m : Mm} (hN : isNet m 2 N) : ∃ m', f_X7_countWithin fu 255 (iI z) (mem w m) = some (iI (((routesOf N).countP (fun r => decide (wst N r ≤ z)) : Nat) : Int), mem w m') ∧ sameW m m' := by
  unfold f_X7_countWithin
  obtain ⟨m1, p1, p2, p3⟩ := wbegin_eq (w := w) (fu := fu) (m := m) hN.2.2
  have := p3.len
  simp (disch := omega) only [Option.bind_some, bd2_some, bdX_ok, bdX_er, nm_eq, n_0, n_1, n_2, n_3, n_4, n_5, n_6, n_7, n_8, n_9, n_10, n_11, n_12, n_14, n_15, n_16, n_17, n_18, n_19, n_20, n_21, n_24, n_27, n_28, n_32, n_43, n_45, n_48, n_56, n_57, n_59, n_64, n_70, n_97, n_99, n_100, n_104, n_118, n_122, n_126, n_127, n_128, n_129, n_130, n_150, n_255, n_600, n_1000, n_1050, n_1200, n_999999, n_1000000, iI_neg, iI_add, iI_sub, iI_mul, ile, ilt, ieq, H7, p1]
  obtain ⟨m2, q1, q2⟩ := countWithin_go (w := w) hfu hz 131072 fu m1 (routesOf N) 0 0 (p2.net hN) p3 (by omega) (by omega) (by omega) (by omega)
  rw [Int.zero_add] at q1
  exact ⟨m2, q1, p2.trans q2⟩
end JH
