section RE
variable {w : Wl} {m m' : Mm} {p : Nat} {z v k a : Int} {fu : Nat} {N : Nt} {x x' : Sg} {H H' : List Sg} {l : List Int} {T : List (List Int)}
def rl (lw a k : Int) : Int := if lw = 0 then k else rho a k
/-- the inner loop of uses: a row of arcs -/
theorem uses_row {k142 : Nat → Int32 → Int32 → Int32 → Int32 → List Ob → Option (Int32 × List Ob)} {o r lw : Int} (ho : 70 ≤ o ∧ o ≤ 118) (ha : i32 a) (hlw : lw = 0 ∨ lw = 1) : ∀ (suf pre : List Int) (n : Nat) (m : Mm) (b : Bool), rPth (m 284) o (pre ++ suf) → (∀ k ∈ suf, 0 ≤ k ∧ k < 100) → suf.length < n → ∃ m', f_X11_uses_69 fu k142 n 283 (iI a) (iI lw) (iI (b2 b)) (iI r) (iI o) (iI ((pre ++ suf).length : Int)) (iI ((pre.length : Int) + 1)) (mem w m) = k142 283 (iI a) (iI lw) (iI (b2 (b || suf.any (fun k => decide (k = a))))) (iI r) (mem w m') ∧ (∀ q, q ≠ 284 → m' q = m q) ∧ (∀ k, (k < o ∨ o + 8 ≤ k) → m' 284 k = m 284 k) ∧ rPth (m' 284) o (pre ++ suf.map (rl lw a)) := by
  have hv := ha
  unfold i32 at hv
  intro suf
  induction suf with
  | nil =>
    intro pre n m b hP _ hn
    have h7 := hP.2.1
    obtain ⟨n, rfl⟩ : ∃ k, n = k + 1 := ⟨n - 1, by omega⟩
    have hl0 : (pre ++ ([] : List Int)).length = pre.length := by simp
    rw [f_X11_uses_69, f_X11_uses_69b]
    simp (disch := omega) only [n_69, n_50, n_13, Option.bind_some, bd2_some, bdX_ok, bdX_er, nm_eq, n_0, n_1, n_2, n_3, n_4, n_5, n_6, n_7, n_8, n_9, n_10, n_11, n_12, n_14, n_15, n_16, n_17, n_18, n_19, n_20, n_21, n_24, n_27, n_28, n_32, n_43, n_45, n_48, n_56, n_57, n_59, n_64, n_70, n_97, n_99, n_100, n_104, n_118, n_122, n_126, n_127, n_128, n_129, n_130, n_150, n_255, n_600, n_1000, n_1050, n_1200, n_999999, n_1000000, iI_neg, iI_add, iI_sub, iI_mul, ile, ilt, ieq]
    rw [if_pos (by omega)]
    exact ⟨m, by simp, fun _ _ => rfl, fun _ _ => rfl, by simpa using hP⟩
  | cons c suf ih =>
    intro pre n m b hP hr hn
    have h7 := hP.2.1
    have hlen : (pre ++ c :: suf).length = pre.length + (suf.length + 1) := by simp
    have hc := hr c List.mem_cons_self
    simp only [List.length_cons] at hn
    obtain ⟨n, rfl⟩ : ∃ k, n = k + 1 := ⟨n - 1, by omega⟩
    have hg : m 284 (o + ((pre.length : Int) + 1)) = c := by
      have := hP.2.2 pre.length c mid_at
      rw [show o + 1 + (pre.length : Int) = o + ((pre.length : Int) + 1) by omega] at this
      exact this
    -- the row with another arc here
    have hP2 : ∀ c', rPth ((up m 284 (o + ((pre.length : Int) + 1)) c') 284) o ((pre ++ [c']) ++ suf) := fun c' => by
      obtain ⟨d1, d2, d3⟩ := hP
      refine ⟨by rw [up_off (by omega), d1]; simp, by simp <;> omega, fun j y hj => ?_⟩
      have hj8 : j < pre.length + (suf.length + 1) := by have := (List.getElem?_eq_some_iff.mp hj).1; simp at this; omega
      by_cases e : j = pre.length
      · subst e
        rw [show o + 1 + (pre.length : Int) = o + ((pre.length : Int) + 1) by omega, up_at]
        simpa using hj
      · rw [up_off (by omega)]
        refine d3 j y ?_
        by_cases q : j < pre.length
        · rw [List.append_assoc, List.getElem?_append_left q] at hj
          rw [List.getElem?_append_left q]; exact hj
        · rw [List.append_assoc, List.getElem?_append_right (by omega), show j - pre.length = (j - pre.length - 1) + 1 by omega] at hj
          rw [List.getElem?_append_right (by omega), show j - pre.length = (j - pre.length - 1) + 1 by omega]
          simpa using hj
    have k134 : ∀ (b' : Bool) (d : Int), c - d = rl lw a c → -1 ≤ d → d ≤ 1 → ∃ m', f_X11_uses_134 fu 283 (iI a) (iI lw) (iI (b2 b')) (iI r) (iI o) (iI ((pre ++ c :: suf).length : Int)) (iI ((pre.length : Int) + 1)) 284 (iI (o + ((pre.length : Int) + 1))) (iI c) (iI d) (mem w m) (fun a0 a1 a2 a3 a4 a5 a6 a7 M => f_X11_uses_69 fu k142 n a0 a1 a2 a3 a4 a5 a6 a7 M) k142 = k142 283 (iI a) (iI lw) (iI (b2 (b' || suf.any (fun k => decide (k = a))))) (iI r) (mem w m') ∧ (∀ q, q ≠ 284 → m' q = m q) ∧ (∀ k, (k < o ∨ o + 8 ≤ k) → m' 284 k = m 284 k) ∧ rPth (m' 284) o (pre ++ (c :: suf).map (rl lw a)) := by
      intro b' d hd h1 h2
      unfold f_X11_uses_134
      simp (disch := omega) only [n_69, n_50, n_13, Option.bind_some, bd2_some, bdX_ok, bdX_er, nm_eq, n_0, n_1, n_2, n_3, n_4, n_5, n_6, n_7, n_8, n_9, n_10, n_11, n_12, n_14, n_15, n_16, n_17, n_18, n_19, n_20, n_21, n_24, n_27, n_28, n_32, n_43, n_45, n_48, n_56, n_57, n_59, n_64, n_70, n_97, n_99, n_100, n_104, n_118, n_122, n_126, n_127, n_128, n_129, n_130, n_150, n_255, n_600, n_1000, n_1050, n_1200, n_999999, n_1000000, iI_neg, iI_add, iI_sub, iI_mul, ile, ilt, ieq, Z_has, Z_0, Z_1, Z_2, Z_5, Z_15, Z_17, Z_18, Z_24, Z_25, Z_26, Z_3, Z_4, Z_6, Z_7, Z_8, Z_9, Z_10, Z_11, Z_12, Z_13, Z_14, Z_16, Z_19, Z_20, Z_21, Z_22, Z_23, Z_27, Y_3, Y_4, Y_6, Y_7, Y_8, Y_9, Y_10, Y_11, Y_12, Y_13, Y_14, Y_16, Y_19, Y_20, Y_21, Y_22, Y_23, Y_27, A_g, A_s, up_at, up_ne, up_off]
      rw [hd]
      obtain ⟨m', q1, q2, q3, q4⟩ := ih (pre ++ [rl lw a c]) n _ b' (hP2 (rl lw a c)) (fun k hk => hr k (List.mem_cons_of_mem _ hk)) (by omega)
      rw [show ((pre ++ [rl lw a c]).length : Int) = (pre.length : Int) + 1 by simp] at q1
      rw [show ((pre ++ [rl lw a c] ++ suf).length : Int) = ((pre ++ c :: suf).length : Int) by simp] at q1
      exact ⟨m', q1, fun q hq => by rw [q2 q hq, up_ne hq], fun k hk => by rw [q3 k hk, up_off (by omega)], by simpa using q4⟩
    have k99 : ∀ (b' : Bool), ∃ m', f_X11_uses_99 fu 283 (iI a) (iI lw) (iI r) (iI o) (iI ((pre ++ c :: suf).length : Int)) (iI ((pre.length : Int) + 1)) (iI (b2 b')) (mem w m) (fun a0 a1 a2 a3 a4 a5 a6 a7 M => f_X11_uses_69 fu k142 n a0 a1 a2 a3 a4 a5 a6 a7 M) k142 = k142 283 (iI a) (iI lw) (iI (b2 (b' || suf.any (fun k => decide (k = a))))) (iI r) (mem w m') ∧ (∀ q, q ≠ 284 → m' q = m q) ∧ (∀ k, (k < o ∨ o + 8 ≤ k) → m' 284 k = m 284 k) ∧ rPth (m' 284) o (pre ++ (c :: suf).map (rl lw a)) := by
      intro b'
      unfold f_X11_uses_99 f_X11_uses_133
      simp (disch := omega) only [n_69, n_50, n_13, Option.bind_some, bd2_some, bdX_ok, bdX_er, nm_eq, n_0, n_1, n_2, n_3, n_4, n_5, n_6, n_7, n_8, n_9, n_10, n_11, n_12, n_14, n_15, n_16, n_17, n_18, n_19, n_20, n_21, n_24, n_27, n_28, n_32, n_43, n_45, n_48, n_56, n_57, n_59, n_64, n_70, n_97, n_99, n_100, n_104, n_118, n_122, n_126, n_127, n_128, n_129, n_130, n_150, n_255, n_600, n_1000, n_1050, n_1200, n_999999, n_1000000, iI_neg, iI_add, iI_sub, iI_mul, ile, ilt, ieq, Z_has, Z_0, Z_1, Z_2, Z_5, Z_15, Z_17, Z_18, Z_24, Z_25, Z_26, Z_3, Z_4, Z_6, Z_7, Z_8, Z_9, Z_10, Z_11, Z_12, Z_13, Z_14, Z_16, Z_19, Z_20, Z_21, Z_22, Z_23, Z_27, Y_3, Y_4, Y_6, Y_7, Y_8, Y_9, Y_10, Y_11, Y_12, Y_13, Y_14, Y_16, Y_19, Y_20, Y_21, Y_22, Y_23, Y_27, A_g, A_s, up_at, up_ne, up_off, hg]
      rcases hlw with rfl | rfl
      · rw [if_pos (by first | exact trivial | omega | decide)]
        exact k134 b' 0 (by unfold rl; rw [if_pos rfl]; omega) (by omega) (by omega)
      · rw [if_neg (by first | exact not_false | omega | decide)]
        by_cases q : c ≤ a
        · rw [if_pos q]
          exact k134 b' 0 (by unfold rl rho; rw [if_neg (by omega), if_neg (by omega)]; omega) (by omega) (by omega)
        · rw [if_neg q]
          exact k134 b' 1 (by unfold rl rho; rw [if_neg (by omega), if_pos (by omega)]) (by omega) (by omega)
    have t1 := k99 true
    have t0 := k99 false
    rw [show b2 true = 1 from rfl] at t1
    rw [show b2 false = 0 from rfl] at t0
    rw [f_X11_uses_69, f_X11_uses_69b]
    unfold f_X11_uses_94
    rw [List.any_cons]
    cases b with
    | true =>
      rw [show b2 true = 1 from rfl]
      simp (disch := omega) only [n_69, n_50, n_13, Option.bind_some, bd2_some, bdX_ok, bdX_er, nm_eq, n_0, n_1, n_2, n_3, n_4, n_5, n_6, n_7, n_8, n_9, n_10, n_11, n_12, n_14, n_15, n_16, n_17, n_18, n_19, n_20, n_21, n_24, n_27, n_28, n_32, n_43, n_45, n_48, n_56, n_57, n_59, n_64, n_70, n_97, n_99, n_100, n_104, n_118, n_122, n_126, n_127, n_128, n_129, n_130, n_150, n_255, n_600, n_1000, n_1050, n_1200, n_999999, n_1000000, iI_neg, iI_add, iI_sub, iI_mul, ile, ilt, ieq]
      rw [if_neg (by omega), if_neg (by first | exact not_false | omega | decide), Bool.true_or]
      rw [Bool.true_or] at t1
      exact t1
    | false =>
      rw [show b2 false = 0 from rfl]
      simp (disch := omega) only [n_69, n_50, n_13, Option.bind_some, bd2_some, bdX_ok, bdX_er, nm_eq, n_0, n_1, n_2, n_3, n_4, n_5, n_6, n_7, n_8, n_9, n_10, n_11, n_12, n_14, n_15, n_16, n_17, n_18, n_19, n_20, n_21, n_24, n_27, n_28, n_32, n_43, n_45, n_48, n_56, n_57, n_59, n_64, n_70, n_97, n_99, n_100, n_104, n_118, n_122, n_126, n_127, n_128, n_129, n_130, n_150, n_255, n_600, n_1000, n_1050, n_1200, n_999999, n_1000000, iI_neg, iI_add, iI_sub, iI_mul, ile, ilt, ieq, Z_has, Z_0, Z_1, Z_2, Z_5, Z_15, Z_17, Z_18, Z_24, Z_25, Z_26, Z_3, Z_4, Z_6, Z_7, Z_8, Z_9, Z_10, Z_11, Z_12, Z_13, Z_14, Z_16, Z_19, Z_20, Z_21, Z_22, Z_23, Z_27, Y_3, Y_4, Y_6, Y_7, Y_8, Y_9, Y_10, Y_11, Y_12, Y_13, Y_14, Y_16, Y_19, Y_20, Y_21, Y_22, Y_23, Y_27, A_g, A_s, up_at, up_ne, up_off, hg]
      rw [if_neg (by omega), if_pos (by first | exact trivial | omega | decide), Bool.false_or]
      by_cases q : c = a
      · rw [if_pos q, show decide (c = a) = true by simp [q]]
        exact t1
      · rw [if_neg q, show decide (c = a) = false by simp [q]]
        exact t0
/-- all rows from one on -/
theorem uses_all {lw : Int} (ha : i32 a) (hlw : lw = 0 ∨ lw = 1) {n6 : Nat} (hn6 : n6 ≤ 6) (hfu : 100 ≤ fu) : ∀ (d n r : Nat) (m : Mm) (L : Nat → List Int) (D : List Int) (b : Bool), m 284 69 = n6 → (∀ i, i < n6 → rPth (m 284) (70 + 8 * (i : Int)) (L i)) → rPth (m 284) 118 D → (∀ i, r ≤ i → i < n6 → ∀ k ∈ L i, 0 ≤ k ∧ k < 100) → (r ≤ 6 → ∀ k ∈ D, 0 ≤ k ∧ k < 100) → r + d = 7 → d < n → ∃ m' b', f_X11_uses_5 fu n 283 (iI a) (iI lw) (iI (b2 b)) (iI (r : Int)) (mem w m) = some (iI (b2 b'), mem w m') ∧ (∀ q, q ≠ 284 → m' q = m q) ∧ (∀ k, (k < 70 ∨ 126 ≤ k) → m' 284 k = m 284 k) ∧ (∀ i, i < n6 → rPth (m' 284) (70 + 8 * (i : Int)) (if r ≤ i then (L i).map (rl lw a) else L i)) ∧ rPth (m' 284) 118 (if r ≤ 6 then D.map (rl lw a) else D) ∧ (b' = true ↔ b = true ∨ (∃ i, r ≤ i ∧ i < n6 ∧ a ∈ L i) ∨ (r ≤ 6 ∧ a ∈ D)) := by
  intro d
  induction d with
  | zero =>
    intro n r m L D b h69 hL hD _ _ hr hn
    obtain ⟨n, rfl⟩ : ∃ k, n = k + 1 := ⟨n - 1, by omega⟩
    rw [f_X11_uses_5, f_X11_uses_5b]
    simp (disch := omega) only [n_69, n_50, n_13, Option.bind_some, bd2_some, bdX_ok, bdX_er, nm_eq, n_0, n_1, n_2, n_3, n_4, n_5, n_6, n_7, n_8, n_9, n_10, n_11, n_12, n_14, n_15, n_16, n_17, n_18, n_19, n_20, n_21, n_24, n_27, n_28, n_32, n_43, n_45, n_48, n_56, n_57, n_59, n_64, n_70, n_97, n_99, n_100, n_104, n_118, n_122, n_126, n_127, n_128, n_129, n_130, n_150, n_255, n_600, n_1000, n_1050, n_1200, n_999999, n_1000000, iI_neg, iI_add, iI_sub, iI_mul, ile, ilt, ieq]
    rw [if_pos (by omega), and1 (by cases b <;> simp [b2])]
    refine ⟨m, b, rfl, fun _ _ => rfl, fun _ _ => rfl, fun i hi => by rw [if_neg (by omega)]; exact hL i hi, by rw [if_neg (by omega)]; exact hD, ⟨fun q => Or.inl q, fun q => ?_⟩⟩
    rcases q with q | ⟨i, q1, q2, -⟩ | ⟨q, -⟩
    · exact q
    · omega
    · omega
  | succ d ih =>
    intro n r m L D b h69 hL hD hLr hDr hr hn
    have hv := ha
    unfold i32 at hv
    obtain ⟨n, rfl⟩ : ∃ k, n = k + 1 := ⟨n - 1, by omega⟩
    -- a row of this number
    have row : ∀ (o : Int) (l : List Int), 70 ≤ o → o ≤ 118 → rPth (m 284) o l → (∀ k ∈ l, 0 ≤ k ∧ k < 100) → ∃ m1, f_X11_uses_64 fu 283 (iI a) (iI lw) (iI (b2 b)) (iI (r : Int)) (iI o) (iI (l.length : Int)) (mem w m) (fun a0 a1 a2 a3 a4 M => f_X11_uses_5 fu n a0 a1 a2 a3 a4 M) = f_X11_uses_5 fu n 283 (iI a) (iI lw) (iI (b2 (b || l.any (fun k => decide (k = a))))) (iI ((r + 1 : Nat) : Int)) (mem w m1) ∧ (∀ q, q ≠ 284 → m1 q = m q) ∧ (∀ k, (k < o ∨ o + 8 ≤ k) → m1 284 k = m 284 k) ∧ rPth (m1 284) o (l.map (rl lw a)) := by
      intro o l o1 o2 hP hk
      have h7 := hP.2.1
      obtain ⟨m1, q1, q2, q3, q4⟩ := uses_row (w := w) (fu := fu) (k142 := fun x1 x2 x3 x4 x5 M6 => f_X11_uses_142 fu x1 x2 x3 x4 x5 M6 (fun a0 a1 a2 a3 a4 M => f_X11_uses_5 fu n a0 a1 a2 a3 a4 M)) (r := r) ⟨o1, o2⟩ ha hlw l [] fu m b hP hk (by omega)
      rw [show (([] : List Int).length : Int) + 1 = 1 from rfl, List.nil_append] at q1
      refine ⟨m1, ?_, q2, q3, q4⟩
      unfold f_X11_uses_64
      simp (disch := omega) only [n_69, n_50, n_13, Option.bind_some, bd2_some, bdX_ok, bdX_er, nm_eq, n_0, n_1, n_2, n_3, n_4, n_5, n_6, n_7, n_8, n_9, n_10, n_11, n_12, n_14, n_15, n_16, n_17, n_18, n_19, n_20, n_21, n_24, n_27, n_28, n_32, n_43, n_45, n_48, n_56, n_57, n_59, n_64, n_70, n_97, n_99, n_100, n_104, n_118, n_122, n_126, n_127, n_128, n_129, n_130, n_150, n_255, n_600, n_1000, n_1050, n_1200, n_999999, n_1000000, iI_neg, iI_add, iI_sub, iI_mul, ile, ilt, ieq]
      rw [q1]
      unfold f_X11_uses_142
      simp (disch := omega) only [n_69, n_50, n_13, Option.bind_some, bd2_some, bdX_ok, bdX_er, nm_eq, n_0, n_1, n_2, n_3, n_4, n_5, n_6, n_7, n_8, n_9, n_10, n_11, n_12, n_14, n_15, n_16, n_17, n_18, n_19, n_20, n_21, n_24, n_27, n_28, n_32, n_43, n_45, n_48, n_56, n_57, n_59, n_64, n_70, n_97, n_99, n_100, n_104, n_118, n_122, n_126, n_127, n_128, n_129, n_130, n_150, n_255, n_600, n_1000, n_1050, n_1200, n_999999, n_1000000, iI_neg, iI_add, iI_sub, iI_mul, ile, ilt, ieq]
      rw [show ((r + 1 : Nat) : Int) = (r : Int) + 1 by omega]
    rw [f_X11_uses_5, f_X11_uses_5b]
    unfold f_X11_uses_32 f_X11_uses_53
    simp (disch := omega) only [n_69, n_50, n_13, Option.bind_some, bd2_some, bdX_ok, bdX_er, nm_eq, n_0, n_1, n_2, n_3, n_4, n_5, n_6, n_7, n_8, n_9, n_10, n_11, n_12, n_14, n_15, n_16, n_17, n_18, n_19, n_20, n_21, n_24, n_27, n_28, n_32, n_43, n_45, n_48, n_56, n_57, n_59, n_64, n_70, n_97, n_99, n_100, n_104, n_118, n_122, n_126, n_127, n_128, n_129, n_130, n_150, n_255, n_600, n_1000, n_1050, n_1200, n_999999, n_1000000, iI_neg, iI_add, iI_sub, iI_mul, ile, ilt, ieq, Z_has, Z_0, Z_1, Z_2, Z_5, Z_15, Z_17, Z_18, Z_24, Z_25, Z_26, Z_3, Z_4, Z_6, Z_7, Z_8, Z_9, Z_10, Z_11, Z_12, Z_13, Z_14, Z_16, Z_19, Z_20, Z_21, Z_22, Z_23, Z_27, Y_3, Y_4, Y_6, Y_7, Y_8, Y_9, Y_10, Y_11, Y_12, Y_13, Y_14, Y_16, Y_19, Y_20, Y_21, Y_22, Y_23, Y_27, A_g, A_s, up_at, up_ne, up_off, h69]
    rw [if_neg (by omega)]
    by_cases c6 : (r : Int) = 6
    · rw [if_pos c6, if_neg (by omega), if_pos c6, hD.1]
      obtain ⟨m1, p1, p2, p3, p4⟩ := row 118 D (by omega) (by omega) hD (hDr (by omega))
      rw [p1]
      obtain ⟨m', b', q1, q2, q3, q4, q5, q6⟩ := ih n (r + 1) m1 L (D.map (rl lw a)) (b || D.any (fun k => decide (k = a))) (by rw [p3 69 (by omega)]; exact h69) (fun i hi => (hL i hi).cong (fun k k0 k1 => p3 k (by omega))) p4 (fun i h1 h2 => by omega) (fun h => by omega) (by omega) (by omega)
      refine ⟨m', b', q1, fun q hq => by rw [q2 q hq, p2 q hq], fun k hk => by rw [q3 k hk, p3 k (by omega)], fun i hi => ?_, ?_, ?_⟩
      · have := q4 i hi
        rw [if_neg (by omega)] at this
        rw [if_neg (by omega)]; exact this
      · rw [if_neg (by omega)] at q5
        rw [if_pos (by omega)]; exact q5
      · rw [q6]
        constructor
        · rintro (q | ⟨i, q, q', -⟩ | ⟨q, -⟩)
          · rw [Bool.or_eq_true, List.any_eq_true] at q
            rcases q with q | ⟨k, hk, e⟩
            · exact Or.inl q
            · exact Or.inr (Or.inr ⟨by omega, by simp at e; exact e ▸ hk⟩)
          · omega
          · omega
        · rintro (q | ⟨i, q, q', -⟩ | ⟨q, q'⟩)
          · left; simp [q]
          · omega
          · left; simp; exact Or.inr q'
    · rw [if_neg c6]
      by_cases c : (r : Int) < n6
      · rw [if_pos c]
        have hP := hL r (by omega)
        rw [hP.1]
        obtain ⟨m1, p1, p2, p3, p4⟩ := row (70 + 8 * (r : Int)) (L r) (by omega) (by omega) hP (hLr r (Nat.le_refl _) (by omega))
        rw [p1]
        obtain ⟨m', b', q1, q2, q3, q4, q5, q6⟩ := ih n (r + 1) m1 (fun i => if i = r then (L r).map (rl lw a) else L i) D (b || (L r).any (fun k => decide (k = a))) (by rw [p3 69 (by omega)]; exact h69) (fun i hi => by
          by_cases e : i = r
          · subst e; simp only [if_pos]; exact p4
          · simp only [if_neg e]; exact (hL i hi).cong (fun k k0 k1 => p3 k (by omega))) (hD.cong (fun k k0 k1 => p3 k (by omega))) (fun i h1 h2 => by rw [if_neg (by omega)]; exact hLr i (by omega) h2) (fun _ => hDr (by omega)) (by omega) (by omega)
        refine ⟨m', b', q1, fun q hq => by rw [q2 q hq, p2 q hq], fun k hk => by rw [q3 k hk, p3 k (by omega)], fun i hi => ?_, ?_, ?_⟩
        · have := q4 i hi
          by_cases e : i = r
          · subst e
            rw [if_neg (by omega), if_pos rfl] at this
            rw [if_pos (Nat.le_refl _)]; exact this
          · rw [if_neg e] at this
            by_cases e2 : r ≤ i
            · rw [if_pos (by omega)] at this
              rw [if_pos e2]; exact this
            · rw [if_neg (by omega)] at this
              rw [if_neg e2]; exact this
        · rw [if_pos (by omega)] at q5
          rw [if_pos (by omega)]; exact q5
        · rw [q6]
          constructor
          · rintro (q | ⟨i, q, q', q9⟩ | ⟨q, q'⟩)
            · rw [Bool.or_eq_true, List.any_eq_true] at q
              rcases q with q | ⟨k, hk, e⟩
              · exact Or.inl q
              · exact Or.inr (Or.inl ⟨r, Nat.le_refl _, by omega, by simp at e; exact e ▸ hk⟩)
            · rw [if_neg (by omega)] at q9
              exact Or.inr (Or.inl ⟨i, by omega, q', q9⟩)
            · exact Or.inr (Or.inr ⟨by omega, q'⟩)
          · rintro (q | ⟨i, q, q', q9⟩ | ⟨q, q'⟩)
            · left; simp [q]
            · by_cases e : i = r
              · subst e; left; simp; exact Or.inr q9
              · right; left; exact ⟨i, by omega, q', by rw [if_neg e]; exact q9⟩
            · right; right; exact ⟨by omega, q'⟩
      · rw [if_neg c, if_neg c6]
        -- no such route
        have h0 : f_X11_uses_64 fu 283 (iI a) (iI lw) (iI (b2 b)) (iI (r : Int)) (iI (70 + 8 * (r : Int))) (iI 0) (mem w m) (fun a0 a1 a2 a3 a4 M => f_X11_uses_5 fu n a0 a1 a2 a3 a4 M) = f_X11_uses_5 fu n 283 (iI a) (iI lw) (iI (b2 b)) (iI ((r + 1 : Nat) : Int)) (mem w m) := by
          unfold f_X11_uses_64
          obtain ⟨fu, rfl⟩ : ∃ k, fu = k + 1 := ⟨fu - 1, by omega⟩
          rw [f_X11_uses_69, f_X11_uses_69b]
          simp (disch := omega) only [n_69, n_50, n_13, Option.bind_some, bd2_some, bdX_ok, bdX_er, nm_eq, n_0, n_1, n_2, n_3, n_4, n_5, n_6, n_7, n_8, n_9, n_10, n_11, n_12, n_14, n_15, n_16, n_17, n_18, n_19, n_20, n_21, n_24, n_27, n_28, n_32, n_43, n_45, n_48, n_56, n_57, n_59, n_64, n_70, n_97, n_99, n_100, n_104, n_118, n_122, n_126, n_127, n_128, n_129, n_130, n_150, n_255, n_600, n_1000, n_1050, n_1200, n_999999, n_1000000, iI_neg, iI_add, iI_sub, iI_mul, ile, ilt, ieq]
          rw [if_pos (by first | exact trivial | omega | decide)]
          unfold f_X11_uses_142
          simp (disch := omega) only [n_69, n_50, n_13, Option.bind_some, bd2_some, bdX_ok, bdX_er, nm_eq, n_0, n_1, n_2, n_3, n_4, n_5, n_6, n_7, n_8, n_9, n_10, n_11, n_12, n_14, n_15, n_16, n_17, n_18, n_19, n_20, n_21, n_24, n_27, n_28, n_32, n_43, n_45, n_48, n_56, n_57, n_59, n_64, n_70, n_97, n_99, n_100, n_104, n_118, n_122, n_126, n_127, n_128, n_129, n_130, n_150, n_255, n_600, n_1000, n_1050, n_1200, n_999999, n_1000000, iI_neg, iI_add, iI_sub, iI_mul, ile, ilt, ieq]
          rw [show ((r + 1 : Nat) : Int) = (r : Int) + 1 by omega]
        rw [h0]
        obtain ⟨m', b', q1, q2, q3, q4, q5, q6⟩ := ih n (r + 1) m L D b h69 hL hD (fun i h1 h2 => hLr i (by omega) h2) (fun _ => hDr (by omega)) (by omega) (by omega)
        refine ⟨m', b', q1, q2, q3, fun i hi => ?_, ?_, ?_⟩
        · have := q4 i hi
          rw [if_neg (by omega)] at this
          rw [if_neg (by omega)]; exact this
        · rw [if_pos (by omega)] at q5
          rw [if_pos (by omega)]; exact q5
        · rw [q6]
          constructor
          · rintro (q | ⟨i, q, q', q9⟩ | ⟨q, q'⟩)
            · exact Or.inl q
            · omega
            · exact Or.inr (Or.inr ⟨by omega, q'⟩)
          · rintro (q | ⟨i, q, q', q9⟩ | ⟨q, q'⟩)
            · exact Or.inl q
            · omega
            · exact Or.inr (Or.inr ⟨by omega, q'⟩)
theorem usesR_eq {lw : Int} (hfu : 100 ≤ fu) (ha : i32 a) (hlw : lw = 0 ∨ lw = 1) (hT : rTolds (m 284) T) (hD : rPth (m 284) 118 l) (hTK : ∀ y ∈ T, ∀ k ∈ y, 0 ≤ k ∧ k < 100) (hDK : ∀ k ∈ l, 0 ≤ k ∧ k < 100) : ∃ m' b', f_X11_uses fu 283 (iI a) (iI lw) (mem w m) = some (iI (b2 b'), mem w m') ∧ (∀ q, q ≠ 284 → m' q = m q) ∧ (∀ k, (k < 70 ∨ 126 ≤ k) → m' 284 k = m 284 k) ∧ rTolds (m' 284) (T.map (List.map (rl lw a))) ∧ rPth (m' 284) 118 (l.map (rl lw a)) ∧ (b' = true ↔ (∃ y ∈ T, a ∈ y) ∨ a ∈ l) := by
  obtain ⟨t1, t2, t3⟩ := hT
  have hg : ∀ i, i < T.length → T[i]? = some (T.getD i []) := fun i hi => by
    rw [List.getD_eq_getElem?_getD, List.getElem?_eq_getElem hi]; rfl
  obtain ⟨m', b', q1, q2, q3, q4, q5, q6⟩ := uses_all (w := w) (fu := fu) ha hlw t2 hfu 7 fu 0 m (fun i => T.getD i []) l false t1 (fun i hi => t3 i _ (hg i hi)) hD (fun i _ hi => hTK _ (List.mem_of_getElem? (hg i hi))) (fun _ => hDK) (by omega) (by omega)
  rw [show ((0 : Nat) : Int) = 0 from rfl, show b2 false = 0 from rfl] at q1
  unfold f_X11_uses
  simp (disch := omega) only [n_69, n_50, n_13, Option.bind_some, bd2_some, bdX_ok, bdX_er, nm_eq, n_0, n_1, n_2, n_3, n_4, n_5, n_6, n_7, n_8, n_9, n_10, n_11, n_12, n_14, n_15, n_16, n_17, n_18, n_19, n_20, n_21, n_24, n_27, n_28, n_32, n_43, n_45, n_48, n_56, n_57, n_59, n_64, n_70, n_97, n_99, n_100, n_104, n_118, n_122, n_126, n_127, n_128, n_129, n_130, n_150, n_255, n_600, n_1000, n_1050, n_1200, n_999999, n_1000000, iI_neg, iI_add, iI_sub, iI_mul, ile, ilt, ieq]
  refine ⟨m', b', q1, q2, q3, ⟨?_, ?_, fun i y hi => ?_⟩, ?_, ?_⟩
  · rw [q3 69 (by omega), t1, List.length_map]
  · rw [List.length_map]; exact t2
  · rw [List.getElem?_map] at hi
    cases hT : T[i]? with
    | none => rw [hT] at hi; cases hi
    | some y0 =>
      rw [hT] at hi
      have hi : y0.map (rl lw a) = y := by simpa using hi
      have hil := (List.getElem?_eq_some_iff.mp hT).1
      have := q4 i hil
      rw [if_pos (Nat.zero_le _)] at this
      have e : T.getD i [] = y0 := by rw [List.getD_eq_getElem?_getD, hT]; rfl
      rw [e, hi] at this
      exact this
  · rw [if_pos (by omega)] at q5; exact q5
  · rw [q6]
    constructor
    · rintro (q | ⟨i, -, q, q'⟩ | ⟨-, q⟩)
      · cases q
      · exact Or.inl ⟨_, List.mem_of_getElem? (hg i q), q'⟩
      · exact Or.inr q
    · rintro (⟨y, hy, q⟩ | q)
      · obtain ⟨i, hi⟩ := List.mem_iff_getElem?.mp hy
        have hil := (List.getElem?_eq_some_iff.mp hi).1
        have e : T.getD i [] = y := by rw [List.getD_eq_getElem?_getD, hi]; rfl
        exact Or.inr (Or.inl ⟨i, Nat.zero_le _, hil, by rw [e]; exact q⟩)
      · exact Or.inr (Or.inr ⟨by omega, q⟩)
theorem usesA_iff : usesA x a = true ↔ (∃ y ∈ sR x, a ∈ y) ∨ a ∈ sD x := by
  unfold usesA
  rw [Bool.or_eq_true, List.any_eq_true, List.any_eq_true]
  constructor
  · rintro (⟨y, hy, q⟩ | ⟨k, hk, q⟩)
    · rw [List.any_eq_true] at q
      obtain ⟨k, hk, q⟩ := q
      have q : k = a := by simpa using q
      subst q
      exact Or.inl ⟨y, hy, hk⟩
    · have q : k = a := by simpa using q
      subst q
      exact Or.inr hk
  · rintro (⟨y, hy, q⟩ | q)
    · exact Or.inl ⟨y, hy, by rw [List.any_eq_true]; exact ⟨a, q, by simp⟩⟩
    · exact Or.inr ⟨a, q, by simp⟩
theorem rl_0 (T : List (List Int)) : T.map (List.map (rl 0 a)) = T := by
  have e : rl 0 a = id := by funext k; unfold rl; rw [if_pos rfl]; rfl
  rw [e]; simp
theorem rl_0' (l : List Int) : l.map (rl 0 a) = l := by
  have e : rl 0 a = id := by funext k; unfold rl; rw [if_pos rfl]; rfl
  rw [e]; simp
theorem rl_1 : rl 1 a = rho a := by funext k; unfold rl; rw [if_neg (by decide)]
theorem del_go {k93 : Nat → Int32 → List Ob → Option (Int32 × List Ob)} {s : Int} {a1 : Int32} (hs : 0 ≤ s ∧ s ≤ 15) : ∀ (d n : Nat) (m : Mm) (i : Int), m 284 4 = s → i + d = 5 + 4 * s → 5 ≤ i → d < n → ∃ m', f_X11_removeArc_59 fu k93 n 283 a1 (iI i) (mem w m) = k93 283 a1 (mem w m') ∧ (∀ q, q ≠ 284 → m' q = m q) ∧ ∀ k, m' 284 k = if i ≤ k ∧ k < 5 + 4 * s then m 284 (k + 4) else m 284 k := by
  intro d
  induction d with
  | zero =>
    intro n m i h4 hi hi0 hn
    obtain ⟨n, rfl⟩ : ∃ k, n = k + 1 := ⟨n - 1, by omega⟩
    rw [f_X11_removeArc_59, f_X11_removeArc_59b]
    simp (disch := omega) only [n_69, n_50, n_13, Option.bind_some, bd2_some, bdX_ok, bdX_er, nm_eq, n_0, n_1, n_2, n_3, n_4, n_5, n_6, n_7, n_8, n_9, n_10, n_11, n_12, n_14, n_15, n_16, n_17, n_18, n_19, n_20, n_21, n_24, n_27, n_28, n_32, n_43, n_45, n_48, n_56, n_57, n_59, n_64, n_70, n_97, n_99, n_100, n_104, n_118, n_122, n_126, n_127, n_128, n_129, n_130, n_150, n_255, n_600, n_1000, n_1050, n_1200, n_999999, n_1000000, iI_neg, iI_add, iI_sub, iI_mul, ile, ilt, ieq, Z_has, Z_0, Z_1, Z_2, Z_5, Z_15, Z_17, Z_18, Z_24, Z_25, Z_26, Z_3, Z_4, Z_6, Z_7, Z_8, Z_9, Z_10, Z_11, Z_12, Z_13, Z_14, Z_16, Z_19, Z_20, Z_21, Z_22, Z_23, Z_27, Y_3, Y_4, Y_6, Y_7, Y_8, Y_9, Y_10, Y_11, Y_12, Y_13, Y_14, Y_16, Y_19, Y_20, Y_21, Y_22, Y_23, Y_27, A_g, A_s, up_at, up_ne, up_off, h4]
    rw [if_pos (by omega)]
    exact ⟨m, rfl, fun _ _ => rfl, fun k => by rw [if_neg (by omega)]⟩
  | succ d ih =>
    intro n m i h4 hi hi0 hn
    obtain ⟨n, rfl⟩ : ∃ k, n = k + 1 := ⟨n - 1, by omega⟩
    rw [f_X11_removeArc_59, f_X11_removeArc_59b]
    simp (disch := omega) only [n_69, n_50, n_13, Option.bind_some, bd2_some, bdX_ok, bdX_er, nm_eq, n_0, n_1, n_2, n_3, n_4, n_5, n_6, n_7, n_8, n_9, n_10, n_11, n_12, n_14, n_15, n_16, n_17, n_18, n_19, n_20, n_21, n_24, n_27, n_28, n_32, n_43, n_45, n_48, n_56, n_57, n_59, n_64, n_70, n_97, n_99, n_100, n_104, n_118, n_122, n_126, n_127, n_128, n_129, n_130, n_150, n_255, n_600, n_1000, n_1050, n_1200, n_999999, n_1000000, iI_neg, iI_add, iI_sub, iI_mul, ile, ilt, ieq, Z_has, Z_0, Z_1, Z_2, Z_5, Z_15, Z_17, Z_18, Z_24, Z_25, Z_26, Z_3, Z_4, Z_6, Z_7, Z_8, Z_9, Z_10, Z_11, Z_12, Z_13, Z_14, Z_16, Z_19, Z_20, Z_21, Z_22, Z_23, Z_27, Y_3, Y_4, Y_6, Y_7, Y_8, Y_9, Y_10, Y_11, Y_12, Y_13, Y_14, Y_16, Y_19, Y_20, Y_21, Y_22, Y_23, Y_27, A_g, A_s, up_at, up_ne, up_off, h4]
    rw [if_neg (by omega)]
    obtain ⟨m', q1, q2, q3⟩ := ih n (up m 284 i (m 284 (i + 4))) (i + 1) (by rw [up_off (by omega)]; exact h4) (by omega) (by omega) (by omega)
    refine ⟨m', q1, fun q hq => by rw [q2 q hq, up_ne hq], fun k => ?_⟩
    rw [q3 k]
    by_cases c : k = i
    · subst c; rw [if_neg (by omega), up_at, if_pos (by omega)]
    · rw [up_off c]
      by_cases c2 : i + 1 ≤ k ∧ k < 5 + 4 * s
      · rw [if_pos c2, up_off (by omega), if_pos (by omega)]
      · rw [if_neg c2, if_neg (by omega)]
theorem removeArcR_eq (hfu : 2000 ≤ fu) (h : RI m x H) (hG : WG x) (ha : i32 a) : RQ w m (f_X11_removeArc fu 283 (iI a) (mem w m)) (qDel x a).1 (qDel x a).2.1 (qDel x a).2.2 (hist (qDel x a).1 x H) := by
  have hN := h.1.1
  have hw := hN.1.1
  have v1 := ha
  unfold i32 at v1
  have hTK : ∀ y ∈ sR x, ∀ k ∈ y, 0 ≤ k ∧ k < 100 := fun y hy k hk => by have := hG.tok y hy k hk; omega
  have hDK : ∀ k ∈ sD x, 0 ≤ k ∧ k < 100 := fun k hk => by have := pOK_AOK hG.2.2.1 k hk; omega
  have key : ∀ k : Int, 0 < k → k < 4 → ∀ m1, cS m m1 → RI m1 x H → RQ w m (f_X11_removeArc_27 fu 283 (iI a) 283 (iI k) (mem w m1)) k 0 x (hist k x H) := fun k k0 k1 m1 hc hI => by
    unfold f_X11_removeArc_27
    simp (disch := omega) only [n_69, n_50, n_13, Option.bind_some, bd2_some, bdX_ok, bdX_er, nm_eq, n_0, n_1, n_2, n_3, n_4, n_5, n_6, n_7, n_8, n_9, n_10, n_11, n_12, n_14, n_15, n_16, n_17, n_18, n_19, n_20, n_21, n_24, n_27, n_28, n_32, n_43, n_45, n_48, n_56, n_57, n_59, n_64, n_70, n_97, n_99, n_100, n_104, n_118, n_122, n_126, n_127, n_128, n_129, n_130, n_150, n_255, n_600, n_1000, n_1050, n_1200, n_999999, n_1000000, iI_neg, iI_add, iI_sub, iI_mul, ile, ilt, ieq, Z_has, Z_0, Z_1, Z_2, Z_5, Z_15, Z_17, Z_18, Z_24, Z_25, Z_26, Z_3, Z_4, Z_6, Z_7, Z_8, Z_9, Z_10, Z_11, Z_12, Z_13, Z_14, Z_16, Z_19, Z_20, Z_21, Z_22, Z_23, Z_27, Y_3, Y_4, Y_6, Y_7, Y_8, Y_9, Y_10, Y_11, Y_12, Y_13, Y_14, Y_16, Y_19, Y_20, Y_21, Y_22, Y_23, Y_27, A_g, A_s, up_at, up_ne, up_off]
    rw [if_neg (by omega)]
    obtain ⟨m', r, g1, g2, g3, g4, g5⟩ := RQ_no (w := w) (v := 0) hI (k := k) (by omega)
    exact ⟨m', r, g1, g2, g3, hc.trans g4, g5⟩
  unfold f_X11_removeArc qDel
  simp (disch := omega) only [n_69, n_50, n_13, Option.bind_some, bd2_some, bdX_ok, bdX_er, nm_eq, n_0, n_1, n_2, n_3, n_4, n_5, n_6, n_7, n_8, n_9, n_10, n_11, n_12, n_14, n_15, n_16, n_17, n_18, n_19, n_20, n_21, n_24, n_27, n_28, n_32, n_43, n_45, n_48, n_56, n_57, n_59, n_64, n_70, n_97, n_99, n_100, n_104, n_118, n_122, n_126, n_127, n_128, n_129, n_130, n_150, n_255, n_600, n_1000, n_1050, n_1200, n_999999, n_1000000, iI_neg, iI_add, iI_sub, iI_mul, ile, ilt, ieq, Z_has, Z_0, Z_1, Z_2, Z_5, Z_15, Z_17, Z_18, Z_24, Z_25, Z_26, Z_3, Z_4, Z_6, Z_7, Z_8, Z_9, Z_10, Z_11, Z_12, Z_13, Z_14, Z_16, Z_19, Z_20, Z_21, Z_22, Z_23, Z_27, Y_3, Y_4, Y_6, Y_7, Y_8, Y_9, Y_10, Y_11, Y_12, Y_13, Y_14, Y_16, Y_19, Y_20, Y_21, Y_22, Y_23, Y_27, A_g, A_s, up_at, up_ne, up_off, isArcR_eq hN ha]
  by_cases c1 : 0 ≤ a ∧ a < nA (sN x)
  · rw [show inB a 0 (nA (sN x) - 1) = 1 from if_pos (by omega)]
    rw [if_neg (by first | exact not_false | omega | decide), if_neg (not_not_intro c1)]
    obtain ⟨m0, b', u1, u2, u3, u4, u5, u6⟩ := usesR_eq (w := w) (fu := fu) (lw := 0) (show 100 ≤ fu by omega) ha (Or.inl rfl) h.1.2.1 h.1.2.2.1 hTK hDK
    rw [rl_0] at u4
    rw [rl_0'] at u5
    have hx0 : rRep (m0 284) x := ⟨hN.cong (fun k _ b => u3 k (by omega)), u4, u5, h.1.2.2.2.cong (fun k a b => u3 k (by omega))⟩
    have h0 : RI m0 x H := ⟨hx0, by rw [u2 283 (by decide)]; exact h.2.1, h.2.2.1, fun i y hi => by rw [u2 286 (by decide)]; exact h.2.2.2 i y hi⟩
    have hc0 : cS m m0 := cS_a u2
    rw [u1, bd2_some]
    by_cases c2 : usesA x a = true
    · have : b' = true := u6.mpr (usesA_iff.mp c2)
      rw [this, show b2 true = 1 from rfl, if_neg (by first | exact not_false | omega | decide), if_pos c2]
      exact key 2 (by omega) (by omega) m0 hc0 h0
    · have : b' = false := by
        cases b' with
        | false => rfl
        | true => exact absurd (usesA_iff.mpr (u6.mp rfl)) c2
      rw [this, show b2 false = 0 from rfl, if_pos (by first | exact trivial | omega | decide), if_neg c2]
      obtain ⟨m1, p1, p2, p3, p4, p5⟩ := chg (w := w) hfu h0
      have hN1 : rNet (m1 284) (sN x) := by rw [p3]; exact hx0.1
      obtain ⟨m2, q1, q2, q3⟩ := del_go (w := w) (fu := fu) (a1 := iI a) (k93 := fun x15 x16 M17 => f_X11_removeArc_93 fu x15 x16 M17) (s := nA (sN x) - 1) (by omega) (4 * (nA (sN x) - 1 - a).toNat) fu (up m1 284 4 (nA (sN x) - 1)) (5 + 4 * a) up_at (by omega) (by omega) (by omega)
      have fr2 : ∀ k, 69 ≤ k → m2 284 k = m0 284 k := fun k hk => by rw [q3, if_neg (by omega), up_off (by omega), p3]
      have hN2 : rNet (m2 284) (delN (sN x) a) := by
        obtain ⟨g0, ⟨g1, g2, g3, g4, g5⟩, g6⟩ := hN1
        refine ⟨delN_wf g0 c1, ⟨?_, ?_, ?_, ?_, ?_⟩, fun k k0 k1 => ?_⟩
        · rw [q3, if_neg (by omega), up_off (by omega)]; exact g1
        · rw [q3, if_neg (by omega), up_off (by omega)]; exact g2
        · rw [q3, if_neg (by omega), up_off (by omega)]; exact g3
        · rw [q3, if_neg (by omega), up_off (by omega)]; exact g4
        · rw [q3, if_neg (by omega), up_at]; rfl
        · have k1 : k < nA (sN x) - 1 := k1
          show _ = shf (nA (sN x)) a (aTl (sN x)) k ∧ _ = shf (nA (sN x)) a (aHd (sN x)) k ∧ _ = shf (nA (sN x)) a (aCo (sN x)) k ∧ _ = shf (nA (sN x)) a (aEx (sN x)) k
          unfold shf
          have hk : 0 ≤ k ∧ k < nA (sN x) - 1 := ⟨k0, k1⟩
          rw [if_pos hk, if_pos hk, if_pos hk, if_pos hk]
          by_cases q : k < a
          · rw [if_pos q, if_pos q, if_pos q, if_pos q]
            obtain ⟨b1, b2, b3, b4⟩ := g6 k k0 (by omega)
            refine ⟨?_, ?_, ?_, ?_⟩ <;> rw [q3, if_neg (by omega), up_off (by omega)] <;> assumption
          · rw [if_neg q, if_neg q, if_neg q, if_neg q]
            obtain ⟨b1, b2, b3, b4⟩ := g6 (k + 1) (by omega) (by omega)
            rw [show 5 + 4 * (k + 1) + 0 = 5 + 4 * k + 0 + 4 by omega] at b1
            rw [show 5 + 4 * (k + 1) + 1 = 5 + 4 * k + 1 + 4 by omega] at b2
            rw [show 5 + 4 * (k + 1) + 2 = 5 + 4 * k + 2 + 4 by omega] at b3
            rw [show 5 + 4 * (k + 1) + 3 = 5 + 4 * k + 3 + 4 by omega] at b4
            refine ⟨?_, ?_, ?_, ?_⟩ <;> rw [q3, if_pos (by omega), up_off (by omega)] <;> assumption
      obtain ⟨m3, b3, t1, t2, t3, t4, t5, -⟩ := usesR_eq (w := w) (fu := fu) (lw := 1) (show 100 ≤ fu by omega) ha (Or.inr rfl) (hx0.2.1.cong (fun k a b => fr2 k (by omega)) : rTolds (m2 284) (sR x)) (hx0.2.2.1.cong (fun k a b => fr2 k (by omega))) hTK hDK
      rw [rl_1] at t4 t5
      have hN3 : rNet (m3 284) (delN (sN x) a) := hN2.cong (fun k _ b => t3 k (by omega))
      obtain ⟨m4, r1, r2, r3, r4, r5, r6, r7⟩ := setsOut_eq (w := w) (m := m3) (fu := fu) rw284
      have hN4 : rNet (m4 284) (delN (sN x) a) := hN3.cong (fun k _ b => r3 k (by omega))
      have e4 : m1 284 4 = nA (sN x) := hN1.2.1.2.2.2.2
      have e4' : m4 284 4 = nA (sN x) - 1 := hN4.2.1.2.2.2.2
      unfold f_X11_removeArc_27
      simp (disch := omega) only [n_69, n_50, n_13, Option.bind_some, bd2_some, bdX_ok, bdX_er, nm_eq, n_0, n_1, n_2, n_3, n_4, n_5, n_6, n_7, n_8, n_9, n_10, n_11, n_12, n_14, n_15, n_16, n_17, n_18, n_19, n_20, n_21, n_24, n_27, n_28, n_32, n_43, n_45, n_48, n_56, n_57, n_59, n_64, n_70, n_97, n_99, n_100, n_104, n_118, n_122, n_126, n_127, n_128, n_129, n_130, n_150, n_255, n_600, n_1000, n_1050, n_1200, n_999999, n_1000000, iI_neg, iI_add, iI_sub, iI_mul, ile, ilt, ieq, Z_has, Z_0, Z_1, Z_2, Z_5, Z_15, Z_17, Z_18, Z_24, Z_25, Z_26, Z_3, Z_4, Z_6, Z_7, Z_8, Z_9, Z_10, Z_11, Z_12, Z_13, Z_14, Z_16, Z_19, Z_20, Z_21, Z_22, Z_23, Z_27, Y_3, Y_4, Y_6, Y_7, Y_8, Y_9, Y_10, Y_11, Y_12, Y_13, Y_14, Y_16, Y_19, Y_20, Y_21, Y_22, Y_23, Y_27, A_g, A_s, up_at, up_ne, up_off, p1, e4]
      rw [if_pos (by first | exact trivial | omega | decide), q1]
      unfold f_X11_removeArc_93
      simp (disch := omega) only [n_69, n_50, n_13, Option.bind_some, bd2_some, bdX_ok, bdX_er, nm_eq, n_0, n_1, n_2, n_3, n_4, n_5, n_6, n_7, n_8, n_9, n_10, n_11, n_12, n_14, n_15, n_16, n_17, n_18, n_19, n_20, n_21, n_24, n_27, n_28, n_32, n_43, n_45, n_48, n_56, n_57, n_59, n_64, n_70, n_97, n_99, n_100, n_104, n_118, n_122, n_126, n_127, n_128, n_129, n_130, n_150, n_255, n_600, n_1000, n_1050, n_1200, n_999999, n_1000000, iI_neg, iI_add, iI_sub, iI_mul, ile, ilt, ieq, Z_has, Z_0, Z_1, Z_2, Z_5, Z_15, Z_17, Z_18, Z_24, Z_25, Z_26, Z_3, Z_4, Z_6, Z_7, Z_8, Z_9, Z_10, Z_11, Z_12, Z_13, Z_14, Z_16, Z_19, Z_20, Z_21, Z_22, Z_23, Z_27, Y_3, Y_4, Y_6, Y_7, Y_8, Y_9, Y_10, Y_11, Y_12, Y_13, Y_14, Y_16, Y_19, Y_20, Y_21, Y_22, Y_23, Y_27, A_g, A_s, up_at, up_ne, up_off, t1, r1, e4']
      have := RQ_yes (w := w) (v := nA (sN x) - 1) p2 p4 p5 (m' := m4) (x' := (delN (sN x) a, rhoR a (sR x), (sD x).map (rho a), [])) (r := nA (sN x) - 1) (fun q hq => by rw [r2 q hq, t2 q hq, q2 q hq, up_ne hq]) ⟨hN4, t4.cong (fun k a b => r3 k (by omega)), t5.cong (fun k a b => r3 k (by omega)), rJrn_nil hN3 r4 r5 r6 r7⟩ rfl
      obtain ⟨m', r, g1, g2, g3, g4, g5⟩ := this
      exact ⟨m', r, g1, g2, g3, hc0.trans g4, g5⟩
  · rw [show inB a 0 (nA (sN x) - 1) = 0 from if_neg (by omega)]
    rw [if_pos (by first | exact trivial | omega | decide), if_pos c1]
    exact key 1 (by omega) (by omega) m cS.rf h
theorem arcR_eq (h : RI m x H) (ha : i32 a) (hv : i32 v) : RQ w m (f_X11_arc fu 283 (iI a) (iI v) (mem w m)) (qArc x a v).1 (qArc x a v).2 x H := by
  have hN := h.1.1
  have hw := hN.1.1
  have v1 := ha
  have v2 := hv
  unfold i32 at v1 v2
  have key : ∀ k : Int, 0 < k → k < 4 → RQ w m (f_X11_arc_27 fu 283 (iI a) (iI v) 283 (iI k) (mem w m)) k 0 x H := fun k k0 k1 => by
    unfold f_X11_arc_27
    simp (disch := omega) only [n_69, n_50, n_13, Option.bind_some, bd2_some, bdX_ok, bdX_er, nm_eq, n_0, n_1, n_2, n_3, n_4, n_5, n_6, n_7, n_8, n_9, n_10, n_11, n_12, n_14, n_15, n_16, n_17, n_18, n_19, n_20, n_21, n_24, n_27, n_28, n_32, n_43, n_45, n_48, n_56, n_57, n_59, n_64, n_70, n_97, n_99, n_100, n_104, n_118, n_122, n_126, n_127, n_128, n_129, n_130, n_150, n_255, n_600, n_1000, n_1050, n_1200, n_999999, n_1000000, iI_neg, iI_add, iI_sub, iI_mul, ile, ilt, ieq, Z_has, Z_0, Z_1, Z_2, Z_5, Z_15, Z_17, Z_18, Z_24, Z_25, Z_26, Z_3, Z_4, Z_6, Z_7, Z_8, Z_9, Z_10, Z_11, Z_12, Z_13, Z_14, Z_16, Z_19, Z_20, Z_21, Z_22, Z_23, Z_27, Y_3, Y_4, Y_6, Y_7, Y_8, Y_9, Y_10, Y_11, Y_12, Y_13, Y_14, Y_16, Y_19, Y_20, Y_21, Y_22, Y_23, Y_27, A_g, A_s, up_at, up_ne, up_off]
    rw [if_neg (by omega)]
    exact RQ_nq h (by omega)
  unfold f_X11_arc qArc
  simp (disch := omega) only [n_69, n_50, n_13, Option.bind_some, bd2_some, bdX_ok, bdX_er, nm_eq, n_0, n_1, n_2, n_3, n_4, n_5, n_6, n_7, n_8, n_9, n_10, n_11, n_12, n_14, n_15, n_16, n_17, n_18, n_19, n_20, n_21, n_24, n_27, n_28, n_32, n_43, n_45, n_48, n_56, n_57, n_59, n_64, n_70, n_97, n_99, n_100, n_104, n_118, n_122, n_126, n_127, n_128, n_129, n_130, n_150, n_255, n_600, n_1000, n_1050, n_1200, n_999999, n_1000000, iI_neg, iI_add, iI_sub, iI_mul, ile, ilt, ieq, Z_has, Z_0, Z_1, Z_2, Z_5, Z_15, Z_17, Z_18, Z_24, Z_25, Z_26, Z_3, Z_4, Z_6, Z_7, Z_8, Z_9, Z_10, Z_11, Z_12, Z_13, Z_14, Z_16, Z_19, Z_20, Z_21, Z_22, Z_23, Z_27, Y_3, Y_4, Y_6, Y_7, Y_8, Y_9, Y_10, Y_11, Y_12, Y_13, Y_14, Y_16, Y_19, Y_20, Y_21, Y_22, Y_23, Y_27, A_g, A_s, up_at, up_ne, up_off, isArcR_eq hN ha, isInR_eq hv (show i32 0 by unfold i32; omega) (show i32 3 by unfold i32; omega)]
  by_cases c1 : 0 ≤ a ∧ a < nA (sN x)
  · rw [show inB a 0 (nA (sN x) - 1) = 1 from if_pos (by omega)]
    rw [if_neg (by first | exact not_false | omega | decide), if_neg (not_not_intro c1)]
    have h1 := h.q (qS_f (v := 0) (k := 4) (by omega))
    have fin : ∀ r, RQ w m (some (iI r, mem w (up m 283 4 0))) 0 r x H := fun r => ⟨_, r, rfl, up_at, fun _ => rfl, cS_f (by omega), h1⟩
    by_cases c2 : 0 ≤ v ∧ v ≤ 3
    · rw [show inB v 0 3 = 1 from if_pos c2, if_neg (by first | exact not_false | omega | decide)]
      unfold f_X11_arc_27
      rcases (show v = 0 ∨ v = 1 ∨ v = 2 ∨ v = 3 by omega) with rfl | rfl | rfl | rfl
      · simp (disch := omega) only [n_69, n_50, n_13, Option.bind_some, bd2_some, bdX_ok, bdX_er, nm_eq, n_0, n_1, n_2, n_3, n_4, n_5, n_6, n_7, n_8, n_9, n_10, n_11, n_12, n_14, n_15, n_16, n_17, n_18, n_19, n_20, n_21, n_24, n_27, n_28, n_32, n_43, n_45, n_48, n_56, n_57, n_59, n_64, n_70, n_97, n_99, n_100, n_104, n_118, n_122, n_126, n_127, n_128, n_129, n_130, n_150, n_255, n_600, n_1000, n_1050, n_1200, n_999999, n_1000000, iI_neg, iI_add, iI_sub, iI_mul, ile, ilt, ieq, Z_has, Z_0, Z_1, Z_2, Z_5, Z_15, Z_17, Z_18, Z_24, Z_25, Z_26, Z_3, Z_4, Z_6, Z_7, Z_8, Z_9, Z_10, Z_11, Z_12, Z_13, Z_14, Z_16, Z_19, Z_20, Z_21, Z_22, Z_23, Z_27, Y_3, Y_4, Y_6, Y_7, Y_8, Y_9, Y_10, Y_11, Y_12, Y_13, Y_14, Y_16, Y_19, Y_20, Y_21, Y_22, Y_23, Y_27, A_g, A_s, up_at, up_ne, up_off, of_0 h1.1.1 c1.1 c1.2]
        rw [if_pos (by first | exact trivial | omega | decide), if_pos (by first | exact trivial | omega | decide)]; exact fin _
      · simp (disch := omega) only [n_69, n_50, n_13, Option.bind_some, bd2_some, bdX_ok, bdX_er, nm_eq, n_0, n_1, n_2, n_3, n_4, n_5, n_6, n_7, n_8, n_9, n_10, n_11, n_12, n_14, n_15, n_16, n_17, n_18, n_19, n_20, n_21, n_24, n_27, n_28, n_32, n_43, n_45, n_48, n_56, n_57, n_59, n_64, n_70, n_97, n_99, n_100, n_104, n_118, n_122, n_126, n_127, n_128, n_129, n_130, n_150, n_255, n_600, n_1000, n_1050, n_1200, n_999999, n_1000000, iI_neg, iI_add, iI_sub, iI_mul, ile, ilt, ieq, Z_has, Z_0, Z_1, Z_2, Z_5, Z_15, Z_17, Z_18, Z_24, Z_25, Z_26, Z_3, Z_4, Z_6, Z_7, Z_8, Z_9, Z_10, Z_11, Z_12, Z_13, Z_14, Z_16, Z_19, Z_20, Z_21, Z_22, Z_23, Z_27, Y_3, Y_4, Y_6, Y_7, Y_8, Y_9, Y_10, Y_11, Y_12, Y_13, Y_14, Y_16, Y_19, Y_20, Y_21, Y_22, Y_23, Y_27, A_g, A_s, up_at, up_ne, up_off, of_1 h1.1.1 c1.1 c1.2]
        rw [if_pos (by first | exact trivial | omega | decide), if_neg (by first | exact not_false | omega | decide), if_pos (by first | exact trivial | omega | decide)]; exact fin _
      · simp (disch := omega) only [n_69, n_50, n_13, Option.bind_some, bd2_some, bdX_ok, bdX_er, nm_eq, n_0, n_1, n_2, n_3, n_4, n_5, n_6, n_7, n_8, n_9, n_10, n_11, n_12, n_14, n_15, n_16, n_17, n_18, n_19, n_20, n_21, n_24, n_27, n_28, n_32, n_43, n_45, n_48, n_56, n_57, n_59, n_64, n_70, n_97, n_99, n_100, n_104, n_118, n_122, n_126, n_127, n_128, n_129, n_130, n_150, n_255, n_600, n_1000, n_1050, n_1200, n_999999, n_1000000, iI_neg, iI_add, iI_sub, iI_mul, ile, ilt, ieq, Z_has, Z_0, Z_1, Z_2, Z_5, Z_15, Z_17, Z_18, Z_24, Z_25, Z_26, Z_3, Z_4, Z_6, Z_7, Z_8, Z_9, Z_10, Z_11, Z_12, Z_13, Z_14, Z_16, Z_19, Z_20, Z_21, Z_22, Z_23, Z_27, Y_3, Y_4, Y_6, Y_7, Y_8, Y_9, Y_10, Y_11, Y_12, Y_13, Y_14, Y_16, Y_19, Y_20, Y_21, Y_22, Y_23, Y_27, A_g, A_s, up_at, up_ne, up_off, of_2 h1.1.1 c1.1 c1.2]
        rw [if_pos (by first | exact trivial | omega | decide), if_neg (by first | exact not_false | omega | decide), if_neg (by first | exact not_false | omega | decide), if_pos (by first | exact trivial | omega | decide)]; exact fin _
      · simp (disch := omega) only [n_69, n_50, n_13, Option.bind_some, bd2_some, bdX_ok, bdX_er, nm_eq, n_0, n_1, n_2, n_3, n_4, n_5, n_6, n_7, n_8, n_9, n_10, n_11, n_12, n_14, n_15, n_16, n_17, n_18, n_19, n_20, n_21, n_24, n_27, n_28, n_32, n_43, n_45, n_48, n_56, n_57, n_59, n_64, n_70, n_97, n_99, n_100, n_104, n_118, n_122, n_126, n_127, n_128, n_129, n_130, n_150, n_255, n_600, n_1000, n_1050, n_1200, n_999999, n_1000000, iI_neg, iI_add, iI_sub, iI_mul, ile, ilt, ieq, Z_has, Z_0, Z_1, Z_2, Z_5, Z_15, Z_17, Z_18, Z_24, Z_25, Z_26, Z_3, Z_4, Z_6, Z_7, Z_8, Z_9, Z_10, Z_11, Z_12, Z_13, Z_14, Z_16, Z_19, Z_20, Z_21, Z_22, Z_23, Z_27, Y_3, Y_4, Y_6, Y_7, Y_8, Y_9, Y_10, Y_11, Y_12, Y_13, Y_14, Y_16, Y_19, Y_20, Y_21, Y_22, Y_23, Y_27, A_g, A_s, up_at, up_ne, up_off, of_3 h1.1.1 c1.1 c1.2]
        rw [if_pos (by first | exact trivial | omega | decide), if_neg (by first | exact not_false | omega | decide), if_neg (by first | exact not_false | omega | decide), if_neg (by first | exact not_false | omega | decide), if_pos (by first | exact trivial | omega | decide)]; exact fin _
    · rw [show inB v 0 3 = 0 from if_neg c2, if_pos (by first | exact trivial | omega | decide), if_neg (by omega), if_neg (by omega), if_neg (by omega), if_neg (by omega)]
      exact key 2 (by omega) (by omega)
  · rw [show inB a 0 (nA (sN x) - 1) = 0 from if_neg (by omega)]
    rw [if_pos (by first | exact trivial | omega | decide), if_pos c1]
    exact key 1 (by omega) (by omega)
theorem lR_at {i : Int} (h0 : 0 ≤ i) (h1 : i < (sR x).length) : (sR x)[i.toNat]? = some (lR x i) ∧ lR x i ∈ sR x := by
  have hi : i.toNat < (sR x).length := by omega
  have e := List.getElem?_eq_getElem hi
  rw [lR_of e]
  exact ⟨e, List.getElem_mem _⟩
theorem rowR {i : Int} (hT : rTolds (m 284) (sR x)) (h0 : 0 ≤ i) (h1 : i < (sR x).length) : rPth (m 284) (70 + 8 * i) (lR x i) := by
  have := hT.2.2 i.toNat _ (lR_at h0 h1).1
  rw [show ((i.toNat : Nat) : Int) = i by omega] at this
  exact this
theorem routeArcR_eq (h : RI m x H) (ha : i32 a) (hv : i32 v) : RQ w m (f_X11_routeArc fu 283 (iI a) (iI v) (mem w m)) (qRouteArc x a v).1 (qRouteArc x a v).2 x H := by
  have hT := h.1.2.1
  have h6 := hT.2.1
  have v1 := ha
  have v2 := hv
  unfold i32 at v1 v2
  have key : ∀ k : Int, 0 < k → k < 4 → RQ w m (f_X11_routeArc_36 fu 283 (iI a) (iI v) 283 (iI k) (mem w m)) k 0 x H := fun k k0 k1 => by
    unfold f_X11_routeArc_36
    simp (disch := omega) only [n_69, n_50, n_13, Option.bind_some, bd2_some, bdX_ok, bdX_er, nm_eq, n_0, n_1, n_2, n_3, n_4, n_5, n_6, n_7, n_8, n_9, n_10, n_11, n_12, n_14, n_15, n_16, n_17, n_18, n_19, n_20, n_21, n_24, n_27, n_28, n_32, n_43, n_45, n_48, n_56, n_57, n_59, n_64, n_70, n_97, n_99, n_100, n_104, n_118, n_122, n_126, n_127, n_128, n_129, n_130, n_150, n_255, n_600, n_1000, n_1050, n_1200, n_999999, n_1000000, iI_neg, iI_add, iI_sub, iI_mul, ile, ilt, ieq, Z_has, Z_0, Z_1, Z_2, Z_5, Z_15, Z_17, Z_18, Z_24, Z_25, Z_26, Z_3, Z_4, Z_6, Z_7, Z_8, Z_9, Z_10, Z_11, Z_12, Z_13, Z_14, Z_16, Z_19, Z_20, Z_21, Z_22, Z_23, Z_27, Y_3, Y_4, Y_6, Y_7, Y_8, Y_9, Y_10, Y_11, Y_12, Y_13, Y_14, Y_16, Y_19, Y_20, Y_21, Y_22, Y_23, Y_27, A_g, A_s, up_at, up_ne, up_off]
    rw [if_neg (by omega)]
    exact RQ_nq h (by omega)
  unfold f_X11_routeArc f_X11_routeArc_35 qRouteArc
  simp (disch := omega) only [n_69, n_50, n_13, Option.bind_some, bd2_some, bdX_ok, bdX_er, nm_eq, n_0, n_1, n_2, n_3, n_4, n_5, n_6, n_7, n_8, n_9, n_10, n_11, n_12, n_14, n_15, n_16, n_17, n_18, n_19, n_20, n_21, n_24, n_27, n_28, n_32, n_43, n_45, n_48, n_56, n_57, n_59, n_64, n_70, n_97, n_99, n_100, n_104, n_118, n_122, n_126, n_127, n_128, n_129, n_130, n_150, n_255, n_600, n_1000, n_1050, n_1200, n_999999, n_1000000, iI_neg, iI_add, iI_sub, iI_mul, ile, ilt, ieq, Z_has, Z_0, Z_1, Z_2, Z_5, Z_15, Z_17, Z_18, Z_24, Z_25, Z_26, Z_3, Z_4, Z_6, Z_7, Z_8, Z_9, Z_10, Z_11, Z_12, Z_13, Z_14, Z_16, Z_19, Z_20, Z_21, Z_22, Z_23, Z_27, Y_3, Y_4, Y_6, Y_7, Y_8, Y_9, Y_10, Y_11, Y_12, Y_13, Y_14, Y_16, Y_19, Y_20, Y_21, Y_22, Y_23, Y_27, A_g, A_s, up_at, up_ne, up_off, isToldR_eq hT ha]
  by_cases c1 : 0 ≤ a ∧ a < (sR x).length
  · have hr := rowR hT c1.1 c1.2
    have h7 := hr.2.1
    rw [show inB a 0 (((sR x).length : Int) - 1) = 1 from if_pos (by omega)]
    rw [if_neg (by first | exact not_false | omega | decide)]
    simp (disch := omega) only [n_69, n_50, n_13, Option.bind_some, bd2_some, bdX_ok, bdX_er, nm_eq, n_0, n_1, n_2, n_3, n_4, n_5, n_6, n_7, n_8, n_9, n_10, n_11, n_12, n_14, n_15, n_16, n_17, n_18, n_19, n_20, n_21, n_24, n_27, n_28, n_32, n_43, n_45, n_48, n_56, n_57, n_59, n_64, n_70, n_97, n_99, n_100, n_104, n_118, n_122, n_126, n_127, n_128, n_129, n_130, n_150, n_255, n_600, n_1000, n_1050, n_1200, n_999999, n_1000000, iI_neg, iI_add, iI_sub, iI_mul, ile, ilt, ieq, Z_has, Z_0, Z_1, Z_2, Z_5, Z_15, Z_17, Z_18, Z_24, Z_25, Z_26, Z_3, Z_4, Z_6, Z_7, Z_8, Z_9, Z_10, Z_11, Z_12, Z_13, Z_14, Z_16, Z_19, Z_20, Z_21, Z_22, Z_23, Z_27, Y_3, Y_4, Y_6, Y_7, Y_8, Y_9, Y_10, Y_11, Y_12, Y_13, Y_14, Y_16, Y_19, Y_20, Y_21, Y_22, Y_23, Y_27, A_g, A_s, up_at, up_ne, up_off, hr.1]
    rw [isInR_eq hv (show i32 0 by unfold i32; omega) (show i32 (((lR x a).length : Int) - 1) by unfold i32; omega), bd2_some]
    by_cases c2 : 0 ≤ v ∧ v < (lR x a).length
    · rw [show inB v 0 (((lR x a).length : Int) - 1) = 1 from if_pos (by omega), if_neg (show ¬ (iI 1 = iI 0) by decide), if_pos (And.intro c1 c2)]
      have hg : m 284 (70 + 8 * a + 1 + v) = (lR x a).getD v.toNat 0 := by
        have hi : v.toNat < (lR x a).length := by omega
        have := hr.2.2 v.toNat _ (List.getElem?_eq_getElem hi)
        rw [show ((v.toNat : Nat) : Int) = v by omega] at this
        rw [this]
        simp [List.getD, hi]
      unfold f_X11_routeArc_36
      simp (disch := omega) only [n_69, n_50, n_13, Option.bind_some, bd2_some, bdX_ok, bdX_er, nm_eq, n_0, n_1, n_2, n_3, n_4, n_5, n_6, n_7, n_8, n_9, n_10, n_11, n_12, n_14, n_15, n_16, n_17, n_18, n_19, n_20, n_21, n_24, n_27, n_28, n_32, n_43, n_45, n_48, n_56, n_57, n_59, n_64, n_70, n_97, n_99, n_100, n_104, n_118, n_122, n_126, n_127, n_128, n_129, n_130, n_150, n_255, n_600, n_1000, n_1050, n_1200, n_999999, n_1000000, iI_neg, iI_add, iI_sub, iI_mul, ile, ilt, ieq, Z_has, Z_0, Z_1, Z_2, Z_5, Z_15, Z_17, Z_18, Z_24, Z_25, Z_26, Z_3, Z_4, Z_6, Z_7, Z_8, Z_9, Z_10, Z_11, Z_12, Z_13, Z_14, Z_16, Z_19, Z_20, Z_21, Z_22, Z_23, Z_27, Y_3, Y_4, Y_6, Y_7, Y_8, Y_9, Y_10, Y_11, Y_12, Y_13, Y_14, Y_16, Y_19, Y_20, Y_21, Y_22, Y_23, Y_27, A_g, A_s, up_at, up_ne, up_off, hg]
      rw [if_pos (by first | exact trivial | omega | decide)]
      exact ⟨_, _, rfl, up_at, fun _ => rfl, cS_f (by omega), h.q (qS_f (by omega))⟩
    · rw [show inB v 0 (((lR x a).length : Int) - 1) = 0 from if_neg (by omega), if_pos (show iI 0 = iI 0 from rfl), if_neg (fun q => c2 q.2)]
      exact key 1 (by omega) (by omega)
  · rw [show inB a 0 (((sR x).length : Int) - 1) = 0 from if_neg (by omega)]
    rw [if_pos (by first | exact trivial | omega | decide), if_neg (fun q => c1 q.1)]
    exact key 1 (by omega) (by omega)
theorem errPosR_eq : f_X11_errorPosition fu 283 (mem w m) = some (iI (m 283 14), mem w (up m 283 4 0)) := by
  unfold f_X11_errorPosition
  simp (disch := omega) only [n_69, n_50, n_13, Option.bind_some, bd2_some, bdX_ok, bdX_er, nm_eq, n_0, n_1, n_2, n_3, n_4, n_5, n_6, n_7, n_8, n_9, n_10, n_11, n_12, n_14, n_15, n_16, n_17, n_18, n_19, n_20, n_21, n_24, n_27, n_28, n_32, n_43, n_45, n_48, n_56, n_57, n_59, n_64, n_70, n_97, n_99, n_100, n_104, n_118, n_122, n_126, n_127, n_128, n_129, n_130, n_150, n_255, n_600, n_1000, n_1050, n_1200, n_999999, n_1000000, iI_neg, iI_add, iI_sub, iI_mul, ile, ilt, ieq, Z_has, Z_0, Z_1, Z_2, Z_5, Z_15, Z_17, Z_18, Z_24, Z_25, Z_26, Z_3, Z_4, Z_6, Z_7, Z_8, Z_9, Z_10, Z_11, Z_12, Z_13, Z_14, Z_16, Z_19, Z_20, Z_21, Z_22, Z_23, Z_27, Y_3, Y_4, Y_6, Y_7, Y_8, Y_9, Y_10, Y_11, Y_12, Y_13, Y_14, Y_16, Y_19, Y_20, Y_21, Y_22, Y_23, Y_27, A_g, A_s, up_at, up_ne, up_off]
end RE
