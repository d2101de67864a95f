section NV
variable {w : Wl} {m : Mm} {fu p b q : Nat} {N : Nt} {v z : Int} {l : List Int} {x : Sg}
theorem takeOut_go (h : isN p) {A : Int} (hA : 0 ≤ A ∧ A ≤ 16) {k74 : Nat → List Ob → Option (Unit × List Ob)} : ∀ (d n : Nat) (m : Mm) (i : Int), m p 4 = A → 0 ≤ i → i + d + 1 = A → d < n → ∃ m', f_X4_takeOut_2 fu k74 n p (iI i) (mem w m) = k74 p (mem w m') ∧ (∀ q, (q < p + 1 ∨ p + 5 ≤ q) → m' q = m q) ∧ (∀ r : Nat, 1 ≤ r → r ≤ 4 → ∀ k, m' (p + r) k = if i ≤ k ∧ k < A - 1 then m (p + r) (k + 1) else m (p + r) k) := by
  intro d
  induction d with
  | zero =>
    intro n m i h4 h0 hi hn
    obtain ⟨n, rfl⟩ : ∃ k, n = k + 1 := ⟨n - 1, by omega⟩
    rw [f_X4_takeOut_2, f_X4_takeOut_2b]
    simp (disch := omega) only [Option.bind_some, bd2_some, bdX_ok, bdX_er, nm_eq, n_0, n_1, n_2, n_3, n_4, n_5, n_6, n_7, n_8, n_9, n_10, n_11, n_12, n_14, n_15, n_16, n_17, n_18, n_19, n_20, n_21, n_24, n_27, n_28, n_32, n_43, n_45, n_48, n_56, n_57, n_59, n_64, n_70, n_97, n_99, n_100, n_104, n_118, n_122, n_126, n_127, n_128, n_129, n_130, n_150, n_255, n_600, n_1000, n_1050, n_1200, n_999999, n_1000000, iI_neg, iI_add, iI_sub, iI_mul, ile, ilt, ieq, N_has h, N_0 h, N_1 h, N_2 h, N_3 h, N_4 h, N_5 h, N_6 h, N_7 h, N_8 h, N_p0 h, N_p1 h, N_p2 h, N_p3 h, N_p4 h, N_tl h, N_hd h, N_co h, N_ex h, N_stl h, N_shd h, N_sco h, N_sex h, h4]
    rw [if_pos (by omega)]
    exact ⟨m, rfl, fun _ _ => rfl, fun r _ _ k => by rw [if_neg (by omega)]⟩
  | succ d ih =>
    intro n m i h4 h0 hi hn
    obtain ⟨n, rfl⟩ : ∃ k, n = k + 1 := ⟨n - 1, by omega⟩
    rw [f_X4_takeOut_2, f_X4_takeOut_2b]
    simp (disch := omega) only [Option.bind_some, bd2_some, bdX_ok, bdX_er, nm_eq, n_0, n_1, n_2, n_3, n_4, n_5, n_6, n_7, n_8, n_9, n_10, n_11, n_12, n_14, n_15, n_16, n_17, n_18, n_19, n_20, n_21, n_24, n_27, n_28, n_32, n_43, n_45, n_48, n_56, n_57, n_59, n_64, n_70, n_97, n_99, n_100, n_104, n_118, n_122, n_126, n_127, n_128, n_129, n_130, n_150, n_255, n_600, n_1000, n_1050, n_1200, n_999999, n_1000000, iI_neg, iI_add, iI_sub, iI_mul, ile, ilt, ieq, N_has h, N_0 h, N_1 h, N_2 h, N_3 h, N_4 h, N_5 h, N_6 h, N_7 h, N_8 h, N_p0 h, N_p1 h, N_p2 h, N_p3 h, N_p4 h, N_tl h, N_hd h, N_co h, N_ex h, N_stl h, N_shd h, N_sco h, N_sex h, h4, up_ne]
    rw [if_neg (by omega)]
    obtain ⟨m', q1, q2, q3⟩ := ih n (up (up (up (up m (p + 1) i (m (p + 1) (i + 1))) (p + 2) i (m (p + 2) (i + 1))) (p + 3) i (m (p + 3) (i + 1))) (p + 4) i (m (p + 4) (i + 1))) (i + 1) (by simp (disch := omega) only [up_ne]; exact h4) (by omega) (by omega) (by omega)
    refine ⟨m', q1, fun q hq => ?_, fun r r1 r4 k => ?_⟩
    · rw [q2 q hq]; simp (disch := omega) only [up_ne]
    · rw [q3 r r1 r4 k]
      have e : ∀ k, (up (up (up (up m (p + 1) i (m (p + 1) (i + 1))) (p + 2) i (m (p + 2) (i + 1))) (p + 3) i (m (p + 3) (i + 1))) (p + 4) i (m (p + 4) (i + 1))) (p + r) k = if k = i then m (p + r) (i + 1) else m (p + r) k := fun k => by
        rcases (show r = 1 ∨ r = 2 ∨ r = 3 ∨ r = 4 by omega) with rfl | rfl | rfl | rfl <;> (simp (disch := omega) only [up_ne, up_row])
      rw [e, e]
      by_cases c1 : i + 1 ≤ k ∧ k < A - 1
      · rw [if_pos c1, if_neg (show ¬ k + 1 = i by omega), if_pos (show i ≤ k ∧ k < A - 1 by omega)]
      · rw [if_neg c1]
        by_cases c2 : k = i
        · rw [if_pos c2, c2, if_pos (show i ≤ i ∧ i < A - 1 by omega)]
        · rw [if_neg c2, if_neg (show ¬ (i ≤ k ∧ k < A - 1) by omega)]
theorem takeOut_eq (hfu : 100 ≤ fu) (hN : isNet m p N) {a : Int} (ha : 0 ≤ a ∧ a < nA N) : ∃ m', f_X4_takeOut fu p (iI a) (mem w m) = some ((), mem w m') ∧ (∀ q, (q < p ∨ p + 5 ≤ q) → m' q = m q) ∧ netC m' p = delN N a := by
  have hb := hN.1
  have hw := hN.2.2.1
  have h4 : m p 4 = nA N := by rw [← hN.2.1]; rfl
  obtain ⟨m1, p1, p2, p3⟩ := takeOut_go (w := w) (fu := fu) hb (A := nA N) (by omega) (k74 := fun x1 M2 => f_X4_takeOut_74 fu x1 M2) (nA N - 1 - a).toNat fu m a h4 ha.1 (by omega) (by omega)
  rw [f_X4_takeOut, p1]
  unfold f_X4_takeOut_74
  have e4 : m1 p 4 = nA N := by rw [p2 p (by omega), h4]
  simp (disch := omega) only [Option.bind_some, bd2_some, bdX_ok, bdX_er, nm_eq, n_0, n_1, n_2, n_3, n_4, n_5, n_6, n_7, n_8, n_9, n_10, n_11, n_12, n_14, n_15, n_16, n_17, n_18, n_19, n_20, n_21, n_24, n_27, n_28, n_32, n_43, n_45, n_48, n_56, n_57, n_59, n_64, n_70, n_97, n_99, n_100, n_104, n_118, n_122, n_126, n_127, n_128, n_129, n_130, n_150, n_255, n_600, n_1000, n_1050, n_1200, n_999999, n_1000000, iI_neg, iI_add, iI_sub, iI_mul, ile, ilt, ieq, N_has hb, N_0 hb, N_1 hb, N_2 hb, N_3 hb, N_4 hb, N_5 hb, N_6 hb, N_7 hb, N_8 hb, N_p0 hb, N_p1 hb, N_p2 hb, N_p3 hb, N_p4 hb, N_tl hb, N_hd hb, N_co hb, N_ex hb, N_stl hb, N_shd hb, N_sco hb, N_sex hb, e4]
  refine ⟨_, rfl, fun q hq => by rw [up_ne (by omega), p2 q (by omega)], ?_⟩
  have row : ∀ r : Nat, 1 ≤ r → r ≤ 4 → ∀ f : Int → Int, f = cut (m p 4) (m (p + r)) → cut (nA N - 1) (m1 (p + r)) = shf (nA N) a f := fun r r1 r4 f hf => by
    subst hf
    funext k
    unfold shf cut
    by_cases c : 0 ≤ k ∧ k < nA N - 1
    · rw [if_pos c, if_pos c, p3 r r1 r4 k]
      by_cases c2 : k < a
      · rw [if_neg (by omega), if_pos c2, if_pos (by omega)]
      · rw [if_pos (by omega), if_neg c2, if_pos (by omega)]
    · rw [if_neg c, if_neg c]
  unfold netC delN
  simp (disch := omega) only [up_ne, up_off, up_at]
  rw [row 1 (by omega) (by omega) (aTl N) (by rw [← hN.2.1]; rfl), row 2 (by omega) (by omega) (aHd N) (by rw [← hN.2.1]; rfl), row 3 (by omega) (by omega) (aCo N) (by rw [← hN.2.1]; rfl), row 4 (by omega) (by omega) (aEx N) (by rw [← hN.2.1]; rfl)]
  rw [p2 p (by omega)]
  have e : (m p 0, m p 1, m p 2, m p 3) = (nN N, nS N, nT N, nB N) := by rw [← hN.2.1]; rfl
  injection e with e0 e
  injection e with e1 e
  injection e with e2 e3
  rw [e0, e1, e2, e3]
theorem renumber_go (hP : isP q) : ∀ (suf pre : List Int) (n : Nat) (m : Mm), isPth m q (pre ++ suf) → (∀ k ∈ suf, 0 ≤ k ∧ k < 100) → 0 ≤ z → z < 100 → suf.length < n → ∃ m', f_X5_renumberBehind_2 fu n q (iI z) (iI (pre.length : Int)) (mem w m) = some ((), mem w m') ∧ (∀ r, r ≠ q + 1 → m' r = m r) ∧ isPth m' q (pre ++ suf.map (rho z)) := by
  intro suf
  induction suf with
  | nil =>
    intro pre n m hq _ h0 h1 hn
    have h7 := hq.2.2.2
    obtain ⟨n, rfl⟩ : ∃ k, n = k + 1 := ⟨n - 1, by omega⟩
    rw [f_X5_renumberBehind_2, f_X5_renumberBehind_2b]
    simp (disch := omega) only [Option.bind_some, bd2_some, bdX_ok, bdX_er, nm_eq, n_0, n_1, n_2, n_3, n_4, n_5, n_6, n_7, n_8, n_9, n_10, n_11, n_12, n_14, n_15, n_16, n_17, n_18, n_19, n_20, n_21, n_24, n_27, n_28, n_32, n_43, n_45, n_48, n_56, n_57, n_59, n_64, n_70, n_97, n_99, n_100, n_104, n_118, n_122, n_126, n_127, n_128, n_129, n_130, n_150, n_255, n_600, n_1000, n_1050, n_1200, n_999999, n_1000000, iI_neg, iI_add, iI_sub, iI_mul, ile, ilt, ieq, Q_len hq, Q_arr hq, Q_has hq]
    rw [if_pos (by simp)]
    exact ⟨m, rfl, fun _ _ => rfl, by simpa using hq⟩
  | cons a suf ih =>
    intro pre n m hq hr h0 h1 hn
    have h7 := hq.2.2.2
    have hlen : (pre ++ a :: suf).length = pre.length + (suf.length + 1) := by simp
    have hg := Q_get (w := w) (j := pre.length) (a := a) hq mid_at
    have ha := hr a List.mem_cons_self
    simp only [List.length_cons] at hn
    obtain ⟨n, rfl⟩ : ∃ k, n = k + 1 := ⟨n - 1, by omega⟩
    have hq2 : ∀ m2 b', (∀ r, r ≠ q + 1 → m2 r = m r) → m2 (q + 1) pre.length = b' → (∀ k : Int, k ≠ pre.length → m2 (q + 1) k = m (q + 1) k) → isPth m2 q ((pre ++ [b']) ++ suf) := fun m2 b' e1 e2 e3 => by
      refine ⟨hP, by rw [e1 q (by omega), hq.2.1]; simp, fun j y hj => ?_, by simp; omega⟩
      by_cases e : j = pre.length
      · subst e
        rw [e2]
        simpa using hj
      · rw [e3 j (by omega)]
        refine hq.2.2.1 j y ?_
        by_cases c : j < pre.length
        · rw [List.append_assoc, List.getElem?_append_left c] at hj
          rw [List.getElem?_append_left c]; exact hj
        · rw [List.append_assoc, List.getElem?_append_right (by omega), show j - pre.length = (j - pre.length - 1) + 1 by omega] at hj
          rw [List.getElem?_append_right (by omega), show j - pre.length = (j - pre.length - 1) + 1 by omega]
          simpa using hj
    have el : ∀ b' : Int, ((pre ++ [b']).length : Int) = (pre.length : Int) + 1 := fun b' => by simp
    rw [f_X5_renumberBehind_2, f_X5_renumberBehind_2b]
    unfold f_X5_renumberBehind_30
    simp (disch := omega) only [Option.bind_some, bd2_some, bdX_ok, bdX_er, nm_eq, n_0, n_1, n_2, n_3, n_4, n_5, n_6, n_7, n_8, n_9, n_10, n_11, n_12, n_14, n_15, n_16, n_17, n_18, n_19, n_20, n_21, n_24, n_27, n_28, n_32, n_43, n_45, n_48, n_56, n_57, n_59, n_64, n_70, n_97, n_99, n_100, n_104, n_118, n_122, n_126, n_127, n_128, n_129, n_130, n_150, n_255, n_600, n_1000, n_1050, n_1200, n_999999, n_1000000, iI_neg, iI_add, iI_sub, iI_mul, ile, ilt, ieq, Q_len hq, Q_arr hq, Q_has hq, hg]
    rw [if_neg (by omega)]
    by_cases c : a ≤ z
    · rw [if_pos c]
      obtain ⟨m', q1, q2, q3⟩ := ih (pre ++ [a]) n m (hq2 m a (fun _ _ => rfl) (hq.2.2.1 _ a mid_at) (fun _ _ => rfl)) (fun k hk => hr k (List.mem_cons_of_mem _ hk)) h0 h1 (by omega)
      rw [el] at q1
      refine ⟨m', q1, q2, ?_⟩
      rw [List.map_cons, show rho z a = a from if_neg (by omega)]
      simpa using q3
    · rw [if_neg c, P_set hP (by omega) (by omega)]
      simp (disch := omega) only [Option.bind_some, bd2_some, bdX_ok, bdX_er, nm_eq, n_0, n_1, n_2, n_3, n_4, n_5, n_6, n_7, n_8, n_9, n_10, n_11, n_12, n_14, n_15, n_16, n_17, n_18, n_19, n_20, n_21, n_24, n_27, n_28, n_32, n_43, n_45, n_48, n_56, n_57, n_59, n_64, n_70, n_97, n_99, n_100, n_104, n_118, n_122, n_126, n_127, n_128, n_129, n_130, n_150, n_255, n_600, n_1000, n_1050, n_1200, n_999999, n_1000000, iI_neg, iI_add, iI_sub, iI_mul, ile, ilt, ieq]
      obtain ⟨m', q1, q2, q3⟩ := ih (pre ++ [a - 1]) n (up m (q + 1) pre.length (a - 1)) (hq2 _ (a - 1) (fun r hr => up_ne hr) up_at (fun k hk => up_off hk)) (fun k hk => hr k (List.mem_cons_of_mem _ hk)) h0 h1 (by omega)
      rw [el] at q1
      refine ⟨m', q1, fun r hr9 => by rw [q2 r hr9, up_ne hr9], ?_⟩
      rw [List.map_cons, show rho z a = a - 1 from if_pos (by omega)]
      simpa using q3
theorem renumber_eq (hfu : 100 ≤ fu) (hq : isPth m q l) (hl : ∀ k ∈ l, 0 ≤ k ∧ k < 100) (h0 : 0 ≤ z) (h1 : z < 100) : ∃ m', f_X5_renumberBehind fu q (iI z) (mem w m) = some ((), mem w m') ∧ (∀ r, r ≠ q + 1 → m' r = m r) ∧ isPth m' q (l.map (rho z)) := by
  have h7 := hq.2.2.2
  rw [f_X5_renumberBehind]
  exact renumber_go (w := w) hq.1 l [] fu m (by simpa using hq) hl h0 h1 (by omega)
theorem renumT_go (hfu : 100 ≤ fu) (hS : isS b) (h0 : 0 ≤ z) (h1 : z < 100) : ∀ (suf pre : List (List Int)) (n : Nat) (m : Mm), isTolds m b (pre ++ suf) → (∀ l ∈ suf, ∀ k ∈ l, 0 ≤ k ∧ k < 100) → suf.length < n → ∃ m', f_X8_takeArcOut_18 fu n b (iI z) (iI (pre.length : Int)) (mem w m) = some ((), mem w m') ∧ (∀ r, (r < b + 9 ∨ b + 21 ≤ r) → m' r = m r) ∧ isTolds m' b (pre ++ suf.map (List.map (rho z))) := by
  intro suf
  induction suf with
  | nil =>
    intro pre n m hT _ hn
    have h6 := hT.2.2.1
    obtain ⟨n, rfl⟩ : ∃ k, n = k + 1 := ⟨n - 1, by omega⟩
    rw [f_X8_takeArcOut_18, f_X8_takeArcOut_18b]
    simp (disch := omega) only [Option.bind_some, bd2_some, bdX_ok, bdX_er, nm_eq, n_0, n_1, n_2, n_3, n_4, n_5, n_6, n_7, n_8, n_9, n_10, n_11, n_12, n_14, n_15, n_16, n_17, n_18, n_19, n_20, n_21, n_24, n_27, n_28, n_32, n_43, n_45, n_48, n_56, n_57, n_59, n_64, n_70, n_97, n_99, n_100, n_104, n_118, n_122, n_126, n_127, n_128, n_129, n_130, n_150, n_255, n_600, n_1000, n_1050, n_1200, n_999999, n_1000000, iI_neg, iI_add, iI_sub, iI_mul, ile, ilt, ieq, S_3 hS, hT.2.1]
    rw [if_pos (by simp)]
    exact ⟨m, rfl, fun _ _ => rfl, by simpa using hT⟩
  | cons y suf ih =>
    intro pre n m hT hr hn
    have h6 := hT.2.2.1
    have hlen : (pre ++ y :: suf).length = pre.length + (suf.length + 1) := by simp
    have hqy := hT.2.2.2 pre.length y mid_at
    simp only [List.length_cons] at hn
    obtain ⟨n, rfl⟩ : ∃ k, n = k + 1 := ⟨n - 1, by omega⟩
    obtain ⟨m1, p1, p2, p3⟩ := renumber_eq (w := w) (fu := fu) hfu hqy (hr y List.mem_cons_self) h0 h1
    rw [f_X8_takeArcOut_18, f_X8_takeArcOut_18b]
    simp (disch := omega) only [Option.bind_some, bd2_some, bdX_ok, bdX_er, nm_eq, n_0, n_1, n_2, n_3, n_4, n_5, n_6, n_7, n_8, n_9, n_10, n_11, n_12, n_14, n_15, n_16, n_17, n_18, n_19, n_20, n_21, n_24, n_27, n_28, n_32, n_43, n_45, n_48, n_56, n_57, n_59, n_64, n_70, n_97, n_99, n_100, n_104, n_118, n_122, n_126, n_127, n_128, n_129, n_130, n_150, n_255, n_600, n_1000, n_1050, n_1200, n_999999, n_1000000, iI_neg, iI_add, iI_sub, iI_mul, ile, ilt, ieq, S_3 hS, hT.2.1, S_2 hS, S_told hS (show pre.length < 6 by omega), Q_len hqy, Q_arr hqy, Q_has hqy, p1]
    rw [if_neg (by omega)]
    have hT1 : isTolds m1 b ((pre ++ [y.map (rho z)]) ++ suf) := by
      refine ⟨hS, by rw [p2 b (by omega), hT.2.1]; simp, by simp; omega, fun j u hj => ?_⟩
      by_cases e : j = pre.length
      · subst e
        have : u = y.map (rho z) := by simpa using hj.symm
        subst this
        exact p3
      · have hj6 : j < 6 := by
          have := (List.getElem?_eq_some_iff.mp hj).1
          simp at this
          omega
        refine (hT.2.2.2 j u ?_).cong (p2 _ (by omega)) (p2 _ (by omega))
        by_cases c : j < pre.length
        · rw [List.append_assoc, List.getElem?_append_left c] at hj
          rw [List.getElem?_append_left c]; exact hj
        · rw [List.append_assoc, List.getElem?_append_right (by omega), show j - pre.length = (j - pre.length - 1) + 1 by omega] at hj
          rw [List.getElem?_append_right (by omega), show j - pre.length = (j - pre.length - 1) + 1 by omega]
          simpa using hj
    obtain ⟨m', q1, q2, q3⟩ := ih (pre ++ [y.map (rho z)]) n m1 hT1 (fun l hl => hr l (List.mem_cons_of_mem _ hl)) (by omega)
    rw [show ((pre ++ [y.map (rho z)]).length : Int) = (pre.length : Int) + 1 by simp] at q1
    exact ⟨m', q1, fun r hr9 => by rw [q2 r hr9, p2 r (by omega)], by simpa using q3⟩
def rhoR (z : Int) (T : List (List Int)) : List (List Int) := T.map (List.map (rho z))
theorem takeArcOut_eq (hfu : 100 ≤ fu) (h : cRep m b x) (hT9 : TOK (sN x) (sR x)) (hD9 : AOK (sN x) (sD x)) {a : Int} (ha : 0 ≤ a ∧ a < nA (sN x)) : ∃ m', f_X8_takeArcOut fu b (iI a) (mem w m) = some ((), mem w m') ∧ (∀ q, (q < b ∨ b + 21 ≤ q) → m' q = m q) ∧ isNet m' (b + 1) (delN (sN x) a) ∧ isTolds m' b (rhoR a (sR x)) ∧ isPth m' (b + 6) ((sD x).map (rho a)) := by
  obtain ⟨x1, x2, x3, x4, x5⟩ := h
  have hw := x2.2.2.1
  obtain ⟨m1, p1, p2, p3⟩ := takeOut_eq (w := w) (fu := fu) hfu x2 ha
  have hq1 : isPth m1 (b + 6) (sD x) := x4.cong (p2 _ (by omega)) (p2 _ (by omega))
  obtain ⟨m2, q1, q2, q3⟩ := renumber_eq (w := w) (fu := fu) hfu hq1 (z := a) (fun k hk => by have := hD9 k hk; omega) ha.1 (by omega)
  have hT2 : isTolds m2 b (sR x) := x3.cong2 (by rw [q2 _ (by omega), p2 _ (by omega)]) (fun r a c => by rw [q2 _ (by omega), p2 _ (by omega)])
  have h6 := x3.2.2.1
  obtain ⟨m3, r1, r2, r3⟩ := renumT_go (w := w) (fu := fu) hfu x1 (z := a) ha.1 (by omega) (sR x) [] fu m2 (by simpa using hT2) (fun l hl k hk => by have := hT9 l hl k hk; omega) (by omega)
  unfold f_X8_takeArcOut
  simp (disch := omega) only [Option.bind_some, bd2_some, bdX_ok, bdX_er, nm_eq, n_0, n_1, n_2, n_3, n_4, n_5, n_6, n_7, n_8, n_9, n_10, n_11, n_12, n_14, n_15, n_16, n_17, n_18, n_19, n_20, n_21, n_24, n_27, n_28, n_32, n_43, n_45, n_48, n_56, n_57, n_59, n_64, n_70, n_97, n_99, n_100, n_104, n_118, n_122, n_126, n_127, n_128, n_129, n_130, n_150, n_255, n_600, n_1000, n_1050, n_1200, n_999999, n_1000000, iI_neg, iI_add, iI_sub, iI_mul, ile, ilt, ieq, S_0 x1, S_1 x1, N_has x2.1, p1, Q_len hq1, Q_arr hq1, Q_has hq1, q1]
  refine ⟨m3, r1, fun q hq => by rw [r2 q (by omega), q2 q (by omega), p2 q (by omega)], ?_, by simpa [rhoR] using r3, q3.cong (r2 _ (by omega)) (r2 _ (by omega))⟩
  have hn : isNet m1 (b + 1) (delN (sN x) a) := ⟨x2.1, p3, delN_wf x2.2.2 ha⟩
  exact hn.cong (by rw [r2 _ (by omega), q2 _ (by omega)]) (by rw [r2 _ (by omega), q2 _ (by omega)]) (by rw [r2 _ (by omega), q2 _ (by omega)]) (by rw [r2 _ (by omega), q2 _ (by omega)]) (by rw [r2 _ (by omega), q2 _ (by omega)])
end NV
