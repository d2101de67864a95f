section RE3
variable {w : Wl} {m m' m1 : Mm} {z v : Int} {fu p : Nat} {t : List Int} {x : Ps} {l D : List Int}
theorem CR_wrap {o : Option (Int32 × List Ob)} {r : Except Er (Ps × Nat)} (h : CR w m o t r) : CR w m (bd2 o fun v M => if v &&& iI 1 = v then some (v, M) else none) t r := by
  obtain ⟨e1, e2⟩ := h
  refine ⟨fun y q' e => ?_, fun c s e => ?_⟩
  · obtain ⟨m3, k1, k2⟩ := e1 y q' e
    rw [k1, bd2_some, and1 (Or.inr rfl)]
    exact ⟨m3, rfl, k2⟩
  · obtain ⟨m3, k1, k2⟩ := e2 c s e
    rw [k1, bd2_some, and1 (Or.inl rfl)]
    exact ⟨m3, rfl, k2⟩
theorem readStatement_eq (hfu : 1000 ≤ fu) (h : CT m1 t p) (hP : PC m1 x []) (hx : WGp x) (hs : sS m m1) (h5 : m1 228 5 = m 228 5) : CR w m (f_X9_readStatement fu 228 230 (mem w m1)) t (pStmt t x p) := by
  have h600 := h.2.1
  have hple := h.2.2.2.1
  have hsp := run_le (P := ltB) hple
  have hC := h.up hsp
  have hP1 : PC (up m1 228 3 ((run ltB t p : Nat) : Int)) x [] := hP.fr (fun p a b => up_ne (by omega))
  have hS1 : sS m (up m1 228 3 ((run ltB t p : Nat) : Int)) := hs.trans (sS_f (by decide))
  have h51 : (up m1 228 3 ((run ltB t p : Nat) : Int)) 228 5 = m 228 5 := by rw [up_off (by decide)]; exact h5
  have w1 := isWord_eq (w := w) (k := 1) hfu (by omega) hC
  have w2 := isWord_eq (w := w) (k := 2) hfu (by omega) hC
  have w3 := isWord_eq (w := w) (k := 3) hfu (by omega) hC
  rw [show 1000000 + 1 = 1000001 from rfl] at w1
  rw [show 1000000 + 2 = 1000002 from rfl] at w2
  rw [show 1000000 + 3 = 1000003 from rfl] at w3
  have hT := hP1.2.1
  have hA := hP1.1.2.2.1
  have h6 := hT.2.2.1
  unfold f_X9_readStatement pStmt
  simp (disch := omega) only [n_69, n_50, n_13, Option.bind_some, bd2_some, bdX_ok, bdX_er, nm_eq, n_0, n_1, n_2, n_3, n_4, n_5, n_6, n_7, n_8, n_9, n_10, n_11, n_12, n_14, n_15, n_16, n_17, n_18, n_19, n_20, n_21, n_24, n_27, n_28, n_32, n_43, n_45, n_48, n_56, n_57, n_59, n_64, n_70, n_97, n_99, n_100, n_104, n_118, n_122, n_126, n_127, n_128, n_129, n_130, n_150, n_255, n_600, n_1000, n_1050, n_1200, n_999999, n_1000000, iI_neg, iI_add, iI_sub, iI_mul, ile, ilt, ieq, H9, G9_3, h.2.2.1, skipWord_eq hfu h, w1, w2, w3, S_0 isS_230, S_3 isS_230, K_4 hP1.1, hT.2.1]
  by_cases c1 : tw ltB t p = wordT 1
  · rw [show decide (tw ltB t p = wordT 1) = true from by simp [c1], show b2 true = 1 from rfl, if_neg (show ¬ iI 1 = iI 0 by decide), if_pos c1]
    exact CR_wrap (readBudget_eq hfu hC hP1 hS1 h51)
  · rw [show decide (tw ltB t p = wordT 1) = false from by simp [c1], show b2 false = 0 from rfl, if_pos (show iI 0 = iI 0 from rfl), if_neg c1]
    by_cases c2 : tw ltB t p = wordT 2
    · rw [show decide (tw ltB t p = wordT 2) = true from by simp [c2], show b2 true = 1 from rfl, if_neg (show ¬ iI 1 = iI 0 by decide), if_pos c2]
      by_cases c3 : 16 ≤ nA x.1
      · rw [if_pos c3, if_pos c3]
        unfold f_X9_fail
        simp (disch := omega) only [n_69, n_50, n_13, Option.bind_some, bd2_some, bdX_ok, bdX_er, nm_eq, n_0, n_1, n_2, n_3, n_4, n_5, n_6, n_7, n_8, n_9, n_10, n_11, n_12, n_14, n_15, n_16, n_17, n_18, n_19, n_20, n_21, n_24, n_27, n_28, n_32, n_43, n_45, n_48, n_56, n_57, n_59, n_64, n_70, n_97, n_99, n_100, n_104, n_118, n_122, n_126, n_127, n_128, n_129, n_130, n_150, n_255, n_600, n_1000, n_1050, n_1200, n_999999, n_1000000, iI_neg, iI_add, iI_sub, iI_mul, ile, ilt, ieq, U9_4, U9_5]
        rw [and1 (Or.inl rfl)]
        exact CR_fail (by omega) hS1
      · rw [if_neg c3, if_neg c3]
        exact CR_wrap (readArc_eq hfu hC hP1 (by omega) hS1 h51)
    · rw [show decide (tw ltB t p = wordT 2) = false from by simp [c2], show b2 false = 0 from rfl, if_pos (show iI 0 = iI 0 from rfl), if_neg c2]
      by_cases c3 : tw ltB t p = wordT 3
      · rw [show decide (tw ltB t p = wordT 3) = true from by simp [c3], show b2 true = 1 from rfl, if_neg (show ¬ iI 1 = iI 0 by decide), if_pos c3]
        by_cases c4 : 6 ≤ x.2.length
        · rw [if_pos (show (6 : Int) ≤ (x.2.length : Int) by omega), if_pos c4]
          unfold f_X9_fail
          simp (disch := omega) only [n_69, n_50, n_13, Option.bind_some, bd2_some, bdX_ok, bdX_er, nm_eq, n_0, n_1, n_2, n_3, n_4, n_5, n_6, n_7, n_8, n_9, n_10, n_11, n_12, n_14, n_15, n_16, n_17, n_18, n_19, n_20, n_21, n_24, n_27, n_28, n_32, n_43, n_45, n_48, n_56, n_57, n_59, n_64, n_70, n_97, n_99, n_100, n_104, n_118, n_122, n_126, n_127, n_128, n_129, n_130, n_150, n_255, n_600, n_1000, n_1050, n_1200, n_999999, n_1000000, iI_neg, iI_add, iI_sub, iI_mul, ile, ilt, ieq, U9_4, U9_5]
          rw [and1 (Or.inl rfl)]
          exact CR_fail (by omega) hS1
        · rw [if_neg (show ¬ (6 : Int) ≤ (x.2.length : Int) by omega), if_neg c4]
          exact CR_wrap (readRoute_eq hfu hC hP1 hx (by omega) hS1 h51)
      · rw [show decide (tw ltB t p = wordT 3) = false from by simp [c3], show b2 false = 0 from rfl, if_pos (show iI 0 = iI 0 from rfl), if_neg c3]
        unfold f_X9_fail
        simp (disch := omega) only [n_69, n_50, n_13, Option.bind_some, bd2_some, bdX_ok, bdX_er, nm_eq, n_0, n_1, n_2, n_3, n_4, n_5, n_6, n_7, n_8, n_9, n_10, n_11, n_12, n_14, n_15, n_16, n_17, n_18, n_19, n_20, n_21, n_24, n_27, n_28, n_32, n_43, n_45, n_48, n_56, n_57, n_59, n_64, n_70, n_97, n_99, n_100, n_104, n_118, n_122, n_126, n_127, n_128, n_129, n_130, n_150, n_255, n_600, n_1000, n_1050, n_1200, n_999999, n_1000000, iI_neg, iI_add, iI_sub, iI_mul, ile, ilt, ieq, U9_4, U9_5]
        rw [and1 (Or.inl rfl)]
        exact CR_fail (by omega) hS1
theorem sbegin_eq {b : Nat} (hS : isS b) {n s e : Int} (hw : WFN (begN n s e)) : ∃ m', f_X8_begin fu b (iI n) (iI s) (iI e) (mem w m) = some ((), mem w m') ∧ (∀ p, (p < b ∨ b + 25 ≤ p) → m' p = m p) ∧ cRep m' b (begN n s e, [], [], []) := by
  have hN := S_N hS
  have hD := S_D hS
  obtain ⟨m1, p1, p2, p3⟩ := nbegin_eq (w := w) (m := m) (fu := fu) hN (n := n) (s := s) (t := e)
  have hN2 : isNet (up (up m1 (b + 6) 1 0) b 3 0) (b + 1) (begN n s e) := ⟨hN, by
    unfold netC at p3 ⊢
    simp (disch := omega) only [up_ne]
    exact p3, hw⟩
  obtain ⟨m2, q1, q2, q3⟩ := jbegin_eq (w := w) (m := up (up m1 (b + 6) 1 0) b 3 0) (fu := fu) (S_J hS) hN2 (by omega)
  unfold f_X8_begin
  simp (disch := omega) only [n_69, n_50, n_13, Option.bind_some, bd2_some, bdX_ok, bdX_er, nm_eq, n_0, n_1, n_2, n_3, n_4, n_5, n_6, n_7, n_8, n_9, n_10, n_11, n_12, n_14, n_15, n_16, n_17, n_18, n_19, n_20, n_21, n_24, n_27, n_28, n_32, n_43, n_45, n_48, n_56, n_57, n_59, n_64, n_70, n_97, n_99, n_100, n_104, n_118, n_122, n_126, n_127, n_128, n_129, n_130, n_150, n_255, n_600, n_1000, n_1050, n_1200, n_999999, n_1000000, iI_neg, iI_add, iI_sub, iI_mul, ile, ilt, ieq, S_0 hS, S_1 hS, S_4 hS, N_has hN, p1, P_has hD, clear_eq hD, S_p3 hS, J_has (S_J hS), q1]
  refine ⟨m2, rfl, fun p hp => by rw [q2 p (by omega), up_ne (by omega), up_ne (by omega), p2 p (by omega)], hS, hN2.cong (q2 _ (by omega)) (q2 _ (by omega)) (q2 _ (by omega)) (q2 _ (by omega)) (q2 _ (by omega)), ⟨hS, ?_, by simp [sR], fun i l hi => by simp [sR] at hi⟩, ?_, q3⟩
  · rw [q2 b (by omega), up_at]; rfl
  · exact (clear_is (m := m1) hD).cong (by rw [q2 _ (by omega), up_ne (by omega)]) (by rw [q2 _ (by omega), up_ne (by omega)])
theorem readHead_eq (hfu : 1000 ≤ fu) (h : CT m1 t 0) (hs : sS m m1) (h5 : m1 228 5 = m 228 5) : CR w m (f_X9_readHead fu 228 230 (mem w m1)) t (pHead t) := by
  have h600 := h.2.1
  have hsp := run_le (P := spB) h.2.2.2.1
  have hC0 := h.up hsp
  have hsl := run_le (P := ltB) hsp
  have hC := hC0.up hsl
  have hS1 : sS m (up (up m1 228 3 ((run spB t 0 : Nat) : Int)) 228 3 ((run ltB t (run spB t 0) : Nat) : Int)) := hs.trans ((sS_f (by decide)).trans (sS_f (by decide)))
  have w0 := isWord_eq (w := w) (k := 0) hfu (by omega) hC
  rw [show 1000000 + 0 = 1000000 from rfl] at w0
  unfold f_X9_readHead pHead
  simp (disch := omega) only [n_69, n_50, n_13, Option.bind_some, bd2_some, bdX_ok, bdX_er, nm_eq, n_0, n_1, n_2, n_3, n_4, n_5, n_6, n_7, n_8, n_9, n_10, n_11, n_12, n_14, n_15, n_16, n_17, n_18, n_19, n_20, n_21, n_24, n_27, n_28, n_32, n_43, n_45, n_48, n_56, n_57, n_59, n_64, n_70, n_97, n_99, n_100, n_104, n_118, n_122, n_126, n_127, n_128, n_129, n_130, n_150, n_255, n_600, n_1000, n_1050, n_1200, n_999999, n_1000000, iI_neg, iI_add, iI_sub, iI_mul, ile, ilt, ieq, H9, G9_3, skipSpaces_eq hfu h, up_at, skipWord_eq hfu hC0, w0]
  by_cases c1 : tw ltB t (run spB t 0) = wordT 0
  · rw [show decide (tw ltB t (run spB t 0) = wordT 0) = true from by simp [c1], show b2 true = 1 from rfl, if_neg (show ¬ iI 1 = iI 0 by decide), if_pos c1]
    refine CR_num hfu hC hS1 (by omega) (by omega) (by omega) (fun v1 q1 hr1 hC1 hS1 => ?_)
    have hv1 := rnum_ok hr1
    simp (disch := omega) only [n_69, n_50, n_13, Option.bind_some, bd2_some, bdX_ok, bdX_er, nm_eq, n_0, n_1, n_2, n_3, n_4, n_5, n_6, n_7, n_8, n_9, n_10, n_11, n_12, n_14, n_15, n_16, n_17, n_18, n_19, n_20, n_21, n_24, n_27, n_28, n_32, n_43, n_45, n_48, n_56, n_57, n_59, n_64, n_70, n_97, n_99, n_100, n_104, n_118, n_122, n_126, n_127, n_128, n_129, n_130, n_150, n_255, n_600, n_1000, n_1050, n_1200, n_999999, n_1000000, iI_neg, iI_add, iI_sub, iI_mul, ile, ilt, ieq, H9]
    refine CR_num hfu hC1 hS1 (by omega) (by omega) (by omega) (fun v2 q2 hr2 hC2 hS2 => ?_)
    have hv2 := rnum_ok hr2
    simp (disch := omega) only [n_69, n_50, n_13, Option.bind_some, bd2_some, bdX_ok, bdX_er, nm_eq, n_0, n_1, n_2, n_3, n_4, n_5, n_6, n_7, n_8, n_9, n_10, n_11, n_12, n_14, n_15, n_16, n_17, n_18, n_19, n_20, n_21, n_24, n_27, n_28, n_32, n_43, n_45, n_48, n_56, n_57, n_59, n_64, n_70, n_97, n_99, n_100, n_104, n_118, n_122, n_126, n_127, n_128, n_129, n_130, n_150, n_255, n_600, n_1000, n_1050, n_1200, n_999999, n_1000000, iI_neg, iI_add, iI_sub, iI_mul, ile, ilt, ieq, H9]
    refine CR_num hfu hC2 hS2 (by omega) (by omega) (by omega) (fun v3 q3 hr3 hC3 hS3 => ?_)
    have hv3 := rnum_ok hr3
    have hwf : WFN (begN v1 v2 v3) := begN_wf ⟨hv1.1, hv1.2.1, by omega, by omega, by omega, by omega, fun e => hv3.2.2.1 e.symm⟩
    obtain ⟨m2, g1, g2, g3⟩ := sbegin_eq (w := w) (fu := fu) (m := up (up (up (up (up m1 228 3 ((run spB t 0 : Nat) : Int)) 228 3 ((run ltB t (run spB t 0) : Nat) : Int)) 228 3 (q1 : Nat)) 228 3 (q2 : Nat)) 228 3 (q3 : Nat)) isS_230 hwf
    simp (disch := omega) only [n_69, n_50, n_13, Option.bind_some, bd2_some, bdX_ok, bdX_er, nm_eq, n_0, n_1, n_2, n_3, n_4, n_5, n_6, n_7, n_8, n_9, n_10, n_11, n_12, n_14, n_15, n_16, n_17, n_18, n_19, n_20, n_21, n_24, n_27, n_28, n_32, n_43, n_45, n_48, n_56, n_57, n_59, n_64, n_70, n_97, n_99, n_100, n_104, n_118, n_122, n_126, n_127, n_128, n_129, n_130, n_150, n_255, n_600, n_1000, n_1050, n_1200, n_999999, n_1000000, iI_neg, iI_add, iI_sub, iI_mul, ile, ilt, ieq, H9, S_has isS_230, g1]
    refine CR_semi hfu ⟨by rw [g2 228 (by omega)]; exact hC3.1, hC3.2.1, by rw [g2 228 (by omega)]; exact hC3.2.2.1, hC3.2.2.2.1, fun j b hj => by rw [g2 229 (by omega)]; exact hC3.2.2.2.2 j b hj⟩ ⟨g3.2.1, g3.2.2.1, g3.2.2.2.1⟩ (hS3.trans (sS_s (fun p hp => g2 p (by omega)))) (by rw [g2 228 (by omega), up_off (by decide), up_off (by decide), up_off (by decide), up_off (by decide), up_off (by decide)]; exact h5)
  · rw [show decide (tw ltB t (run spB t 0) = wordT 0) = false from by simp [c1], show b2 false = 0 from rfl, if_pos (show iI 0 = iI 0 from rfl), if_neg c1]
    unfold f_X9_fail
    simp (disch := omega) only [n_69, n_50, n_13, Option.bind_some, bd2_some, bdX_ok, bdX_er, nm_eq, n_0, n_1, n_2, n_3, n_4, n_5, n_6, n_7, n_8, n_9, n_10, n_11, n_12, n_14, n_15, n_16, n_17, n_18, n_19, n_20, n_21, n_24, n_27, n_28, n_32, n_43, n_45, n_48, n_56, n_57, n_59, n_64, n_70, n_97, n_99, n_100, n_104, n_118, n_122, n_126, n_127, n_128, n_129, n_130, n_150, n_255, n_600, n_1000, n_1050, n_1200, n_999999, n_1000000, iI_neg, iI_add, iI_sub, iI_mul, ile, ilt, ieq, U9_4, U9_5]
    rw [and1 (Or.inl rfl)]
    exact CR_fail (by omega) hS1
theorem pHead_ok {y : Ps} {q : Nat} (h : pHead t = .ok (y, q)) : WGp y := by
  unfold pHead at h
  split at h
  · cases h1 : rnum t (run ltB t (run spB t 0)) 2 8 (-1) with
    | error e => rw [h1, eb_er] at h; cases h
    | ok a =>
      obtain ⟨v1, q1⟩ := a
      rw [h1, eb_ok] at h
      cases h2 : rnum t q1 0 (v1 - 1) (-1) with
      | error e => rw [h2, eb_er] at h; cases h
      | ok a =>
        obtain ⟨v2, q2⟩ := a
        rw [h2, eb_ok] at h
        cases h3 : rnum t q2 0 (v1 - 1) v2 with
        | error e => rw [h3, eb_er] at h; cases h
        | ok a =>
          obtain ⟨v3, q3⟩ := a
          rw [h3, eb_ok] at h
          cases h4 : rsemi t q3 with
          | error e => rw [h4, eb_er] at h; cases h
          | ok q4 =>
            rw [h4, eb_ok] at h
            have e : ((begN v1 v2 v3, ([] : List (List Int))), q4) = (y, q) := by injection h
            injection e with a b
            subst a
            have r1 := rnum_ok h1
            have r2 := rnum_ok h2
            have r3 := rnum_ok h3
            exact ⟨begN_wf ⟨r1.1, r1.2.1, by omega, by omega, by omega, by omega, fun e => r3.2.2.1 e.symm⟩, by simp, fun l hl => by cases hl⟩
  · cases h
/-- statement by statement -/
theorem rdAll_go (hfu : 1000 ≤ fu) {k76 : Nat → List Ob → Option (Int32 × List Ob)} : ∀ (f n p : Nat) (x : Ps) (m1 : Mm) (i : Int), CT m1 t p → run spB t p = p → PC m1 x [] → WGp x → t.length - p < f → t.length - p < n → 0 ≤ i → i ≤ p → sS m m1 → m1 228 5 = m 228 5 → (∀ y, pAll t f x p = .ok y → WGp y ∧ ∃ m2, f_X9_readNetwork_38 fu k76 n 228 230 (iI i) (mem w m1) = k76 230 (mem w m2) ∧ PC m2 y [] ∧ sS m m2 ∧ m2 228 5 = m 228 5) ∧ (∀ c s, pAll t f x p = .error (c, s) → ∃ m2, f_X9_readNetwork_38 fu k76 n 228 230 (iI i) (mem w m1) = some (iI 0, mem w m2) ∧ m2 228 4 = c ∧ m2 228 5 = (s : Nat) ∧ s ≤ 600 ∧ sS m m2) := by
  intro f
  induction f with
  | zero => intro n p x m1 i _ _ _ _ h; omega
  | succ f ih =>
    intro n p x m1 i h hp hP hx hf hn hi0 hi hs h5
    have h600 := h.2.1
    have hple := h.2.2.2.1
    obtain ⟨n, rfl⟩ : ∃ k, n = k + 1 := ⟨n - 1, by omega⟩
    rw [f_X9_readNetwork_38, f_X9_readNetwork_38b, pAll]
    simp (disch := omega) only [n_69, n_50, n_13, Option.bind_some, bd2_some, bdX_ok, bdX_er, nm_eq, n_0, n_1, n_2, n_3, n_4, n_5, n_6, n_7, n_8, n_9, n_10, n_11, n_12, n_14, n_15, n_16, n_17, n_18, n_19, n_20, n_21, n_24, n_27, n_28, n_32, n_43, n_45, n_48, n_56, n_57, n_59, n_64, n_70, n_97, n_99, n_100, n_104, n_118, n_122, n_126, n_127, n_128, n_129, n_130, n_150, n_255, n_600, n_1000, n_1050, n_1200, n_999999, n_1000000, iI_neg, iI_add, iI_sub, iI_mul, ile, ilt, ieq, H9, G9_3, G9_2, h.2.2.1, h.1]
    by_cases c1 : t.length ≤ p
    · have e1 : (t.length : Int) ≤ (p : Int) := by omega
      rw [if_pos c1]
      refine ⟨fun y e => ?_, fun c s e => (by cases e)⟩
      have e : x = y := by injection e
      subst e
      refine ⟨hx, m1, ?_, hP, hs, h5⟩
      by_cases q : 600 ≤ i
      · rw [if_pos q]
      · rw [if_neg q, if_pos e1]
    · rw [if_neg c1, if_neg (show ¬ (600 : Int) ≤ i by omega), if_neg (show ¬ (t.length : Int) ≤ (p : Int) by omega)]
      obtain ⟨s1, s2⟩ := readStatement_eq (w := w) (m := m) hfu h hP hx hs h5
      cases hr : pStmt t x p with
      | error e =>
        obtain ⟨c, s⟩ := e
        obtain ⟨m2, k1, k2, k3, k4, k5⟩ := s2 c s hr
        rw [k1, bd2_some, if_pos (show iI 0 = iI 0 from rfl), eb_er]
        refine ⟨fun y e => (by cases e), fun c' s' e => ?_⟩
        have e : (c, s) = (c', s') := by injection e
        injection e with a b
        subst a; subst b
        exact ⟨m2, rfl, k2, k3, k4, k5⟩
      | ok y0 =>
        obtain ⟨y0, q⟩ := y0
        obtain ⟨m2, k1, k2, k3, k4, k5⟩ := s1 y0 q hr
        have hw2 := pStmt_ok hr hx
        have hql := k2.2.2.2.1
        have hrl := run_le (P := spB) hql
        have hrg : q ≤ run spB t q := run_ge
        have hC3 := k2.up hrl
        rw [k1, bd2_some, if_neg (show ¬ iI 1 = iI 0 by decide), eb_ok]
        simp (disch := omega) only [n_69, n_50, n_13, Option.bind_some, bd2_some, bdX_ok, bdX_er, nm_eq, n_0, n_1, n_2, n_3, n_4, n_5, n_6, n_7, n_8, n_9, n_10, n_11, n_12, n_14, n_15, n_16, n_17, n_18, n_19, n_20, n_21, n_24, n_27, n_28, n_32, n_43, n_45, n_48, n_56, n_57, n_59, n_64, n_70, n_97, n_99, n_100, n_104, n_118, n_122, n_126, n_127, n_128, n_129, n_130, n_150, n_255, n_600, n_1000, n_1050, n_1200, n_999999, n_1000000, iI_neg, iI_add, iI_sub, iI_mul, ile, ilt, ieq, H9, skipSpaces_eq hfu k2]
        exact ih n (run spB t q) y0 _ (i + 1) hC3 run_run (k3.fr (fun p a b => up_ne (by omega))) hw2.1 (by omega) (by omega) (by omega) (by omega) (k4.trans (sS_f (by decide))) (by rw [up_off (by decide)]; exact k5)
/-- the class's buffer -/
def BC (m : Mm) (B : List Int) : Prop := m 228 1 = B.length ∧ B.length ≤ 600 ∧ ∀ (j : Nat) (b : Int), B[j]? = some b → 0 ≤ b ∧ b < 256 ∧ m 229 j = sg b
theorem readNet_eq (hfu : 1000 ≤ fu) {B : List Int} {n : Int} (hB : BC m B) (hn : 0 ≤ n ∧ n ≤ B.length) : (∀ y, pText (B.take n.toNat) = .ok y → WGp y ∧ ∃ m2, f_X9_readNetwork fu 228 (iI n) 230 (mem w m) = some (iI 1, mem w m2) ∧ cRep m2 230 (y.1, y.2, [], []) ∧ sS m m2 ∧ m2 228 5 = -1) ∧ (∀ c s, pText (B.take n.toNat) = .error (c, s) → ∃ m2, f_X9_readNetwork fu 228 (iI n) 230 (mem w m) = some (iI 0, mem w m2) ∧ m2 228 4 = c ∧ m2 228 5 = (s : Nat) ∧ s ≤ 600 ∧ sS m m2) := by
  obtain ⟨b1, b2', b3⟩ := hB
  have hlen : ((B.take n.toNat).length : Int) = n := by rw [List.length_take]; omega
  have hlen' : (B.take n.toNat).length ≤ 600 := by rw [List.length_take]; omega
  have hC : CT (up (up (up m 228 2 n) 228 3 0) 228 5 (-1)) (B.take n.toNat) 0 := ⟨by simp (disch := omega) only [up_off, up_at]; exact hlen.symm, hlen', by simp (disch := omega) only [up_off, up_at]; rfl, by omega, fun j b hj => by
    simp (disch := omega) only [up_ne]
    have hj' := (List.getElem?_eq_some_iff.mp hj).1
    rw [List.length_take] at hj'
    rw [List.getElem?_take, if_pos (by omega)] at hj
    exact b3 j b hj⟩
  have hS : sS m (up (up (up m 228 2 n) 228 3 0) 228 5 (-1)) := (sS_f (by decide)).trans ((sS_f (by decide)).trans (sS_f (by decide)))
  generalize hm0 : up (up (up m 228 2 n) 228 3 0) 228 5 (-1) = m0 at hC hS
  have h50 : m0 228 5 = -1 := by rw [← hm0, up_at]
  obtain ⟨s1, s2⟩ := readHead_eq (w := w) (m := m0) hfu hC ⟨fun _ _ _ => rfl, rfl⟩ rfl
  have em : (if (B.length : Int) < n then iI (B.length : Int) else iI n) = iI n := by split; omega; rfl
  generalize ht : B.take n.toNat = t at *
  unfold f_X9_readNetwork pText
  simp (disch := omega) only [n_69, n_50, n_13, Option.bind_some, bd2_some, bdX_ok, bdX_er, nm_eq, n_0, n_1, n_2, n_3, n_4, n_5, n_6, n_7, n_8, n_9, n_10, n_11, n_12, n_14, n_15, n_16, n_17, n_18, n_19, n_20, n_21, n_24, n_27, n_28, n_32, n_43, n_45, n_48, n_56, n_57, n_59, n_64, n_70, n_97, n_99, n_100, n_104, n_118, n_122, n_126, n_127, n_128, n_129, n_130, n_150, n_255, n_600, n_1000, n_1050, n_1200, n_999999, n_1000000, iI_neg, iI_add, iI_sub, iI_mul, ile, ilt, ieq, H9, G9_1, b1, U9_2, U9_3, U9_5]
  rw [em]
  simp (disch := omega) only [n_69, n_50, n_13, Option.bind_some, bd2_some, bdX_ok, bdX_er, nm_eq, n_0, n_1, n_2, n_3, n_4, n_5, n_6, n_7, n_8, n_9, n_10, n_11, n_12, n_14, n_15, n_16, n_17, n_18, n_19, n_20, n_21, n_24, n_27, n_28, n_32, n_43, n_45, n_48, n_56, n_57, n_59, n_64, n_70, n_97, n_99, n_100, n_104, n_118, n_122, n_126, n_127, n_128, n_129, n_130, n_150, n_255, n_600, n_1000, n_1050, n_1200, n_999999, n_1000000, iI_neg, iI_add, iI_sub, iI_mul, ile, ilt, ieq, H9, G9_1, b1, U9_2, U9_3, U9_5]
  rw [hm0]
  cases hr : pHead t with
  | error e =>
    obtain ⟨c, s⟩ := e
    obtain ⟨m2, k1, k2, k3, k4, k5⟩ := s2 c s hr
    rw [k1, bd2_some, if_pos (show iI 0 = iI 0 from rfl), eb_er]
    refine ⟨fun y e => (by cases e), fun c' s' e => ?_⟩
    have e : (c, s) = (c', s') := by injection e
    injection e with a b
    subst a; subst b
    exact ⟨m2, rfl, k2, k3, k4, hS.trans k5⟩
  | ok y0 =>
    obtain ⟨y0, q⟩ := y0
    obtain ⟨m2, k1, k2, k3, k4, k5⟩ := s1 y0 q hr
    have hql := k2.2.2.2.1
    have hrl := run_le (P := spB) hql
    have hC3 := k2.up hrl
    rw [k1, bd2_some, if_neg (show ¬ iI 1 = iI 0 by decide), eb_ok]
    obtain ⟨a1, a2⟩ := rdAll_go (w := w) (m := m0) hfu (k76 := fun x17 M18 => f_X9_readNetwork_76 fu x17 M18) 601 fu (run spB t q) y0 _ 0 hC3 run_run (k3.fr (fun p a b => up_ne (by omega))) (pHead_ok hr) (by omega) (by omega) (by omega) (by omega) (k4.trans (sS_f (by decide))) (by rw [up_off (by decide)]; exact k5)
    simp (disch := omega) only [n_69, n_50, n_13, Option.bind_some, bd2_some, bdX_ok, bdX_er, nm_eq, n_0, n_1, n_2, n_3, n_4, n_5, n_6, n_7, n_8, n_9, n_10, n_11, n_12, n_14, n_15, n_16, n_17, n_18, n_19, n_20, n_21, n_24, n_27, n_28, n_32, n_43, n_45, n_48, n_56, n_57, n_59, n_64, n_70, n_97, n_99, n_100, n_104, n_118, n_122, n_126, n_127, n_128, n_129, n_130, n_150, n_255, n_600, n_1000, n_1050, n_1200, n_999999, n_1000000, iI_neg, iI_add, iI_sub, iI_mul, ile, ilt, ieq, H9, skipSpaces_eq hfu k2]
    refine ⟨fun y e => ?_, fun c s e => ?_⟩
    · obtain ⟨hy, m3, j1, j2, j3, j4⟩ := a1 y e
      refine ⟨hy, ?_⟩
      obtain ⟨m4, r1, r2, r3⟩ := jbegin_eq (w := w) (fu := fu) (S_J isS_230) j2.1 (by omega)
      rw [j1]
      unfold f_X9_readNetwork_76
      simp (disch := omega) only [n_69, n_50, n_13, Option.bind_some, bd2_some, bdX_ok, bdX_er, nm_eq, n_0, n_1, n_2, n_3, n_4, n_5, n_6, n_7, n_8, n_9, n_10, n_11, n_12, n_14, n_15, n_16, n_17, n_18, n_19, n_20, n_21, n_24, n_27, n_28, n_32, n_43, n_45, n_48, n_56, n_57, n_59, n_64, n_70, n_97, n_99, n_100, n_104, n_118, n_122, n_126, n_127, n_128, n_129, n_130, n_150, n_255, n_600, n_1000, n_1050, n_1200, n_999999, n_1000000, iI_neg, iI_add, iI_sub, iI_mul, ile, ilt, ieq, S_0 isS_230, S_4 isS_230, J_has (S_J isS_230), r1]
      exact ⟨m4, rfl, ⟨isS_230, j2.1.cong (r2 _ (by omega)) (r2 _ (by omega)) (r2 _ (by omega)) (r2 _ (by omega)) (r2 _ (by omega)), j2.2.1.cong2 (r2 _ (by omega)) (fun p a b => r2 p (by omega)), j2.2.2.cong (r2 _ (by omega)) (r2 _ (by omega)), r3⟩, (hS.trans j3).trans (sS_s (fun p hp => r2 p (by omega))), by rw [r2 228 (by omega), j4, h50]⟩
    · obtain ⟨m3, j1, j2, j3, j4, j5⟩ := a2 c s e
      exact ⟨m3, j1, j2, j3, j4, hS.trans j5⟩
end RE3
section LD
variable {w : Wl} {m m' : Mm} {fu : Nat} {x : Sg} {H : List Sg} {v a : Int} {B : List Int}
theorem begin_fr (hfu : 100 ≤ fu) (h : CI m x H) : ∃ m', f_X10_beginChange fu 0 (mem w m) = some ((), mem w m') ∧ (∀ p, (p < 26 ∨ 228 ≤ p) → p ≠ 260 → p ≠ 265 → m' p = m p) ∧ HR m' ((x :: H).take 8) ∧ m' 260 5 = 0 ∧ m' 260 6 = 0 ∧ m' 265 3 = 0 := by
  obtain ⟨m', p1, p2, p3, p4, p5, p6, p7⟩ := begin_eq (w := w) (fu := fu) hfu h
  obtain ⟨m1, k1, k2, k3⟩ := keep_eq (w := w) (fu := fu) hfu h.2.1 h.1
  have e : f_X10_beginChange fu 0 (mem w m) = some ((), mem w (up (up (up m1 260 5 0) 260 6 0) 265 3 0)) := by
    unfold f_X10_beginChange
    simp (disch := omega) only [n_69, n_50, n_13, Option.bind_some, bd2_some, bdX_ok, bdX_er, nm_eq, n_0, n_1, n_2, n_3, n_4, n_5, n_6, n_7, n_8, n_9, n_10, n_11, n_12, n_14, n_15, n_16, n_17, n_18, n_19, n_20, n_21, n_24, n_27, n_28, n_32, n_43, n_45, n_48, n_56, n_57, n_59, n_64, n_70, n_97, n_99, n_100, n_104, n_118, n_122, n_126, n_127, n_128, n_129, n_130, n_150, n_255, n_600, n_1000, n_1050, n_1200, n_999999, n_1000000, iI_neg, iI_add, iI_sub, iI_mul, ile, ilt, ieq, G10_0, G10_1, H1, k1, H10, forget_eq]
  have e4 : HR (up (up (up m1 260 5 0) 260 6 0) 265 3 0) ((x :: H).take 8) := k3.cong (fun p a b => by rw [up_ne (by omega), up_ne (by omega), up_ne (by omega)])
  exact ⟨_, e, fun p a b c => by rw [up_ne c, up_ne b, up_ne b, k2 p a], e4, by rw [up_ne (by omega), up_off (by omega), up_at], by rw [up_ne (by omega), up_at], up_at⟩
def lS (m m' : Mm) : Prop := ∀ p, (p = 0 ∨ 282 ≤ p) → m' p = m p
theorem load_eq (hfu : 1000 ≤ fu) (hC : CI m x H) (hB : BC m B) (hv : i32 v) : (¬ (0 ≤ v ∧ v ≤ B.length) → f_X10_load fu 0 (iI v) (mem w m) = some (.error eIA, mem w m)) ∧ (0 ≤ v ∧ v ≤ B.length → (∀ c s, pText (B.take v.toNat) = .error (c, s) → ∃ m', f_X10_load fu 0 (iI v) (mem w m) = some (.ok (iI c), mem w m') ∧ CI m' x H ∧ lS m m' ∧ m' 228 1 = 0 ∧ m' 228 5 = (s : Nat) ∧ s ≤ 600) ∧ (∀ y, pText (B.take v.toNat) = .ok y → WGp y ∧ ∃ m', f_X10_load fu 0 (iI v) (mem w m) = some (.ok (iI (nA y.1)), mem w m') ∧ CI m' (y.1, y.2, [], []) ((x :: H).take 8) ∧ lS m m' ∧ m' 228 1 = 0 ∧ m' 228 5 = -1)) := by
  have h600 := hB.2.1
  obtain ⟨v1, v2⟩ := hv
  refine ⟨fun hn => ?_, fun hy => ?_⟩
  · unfold f_X10_load
    simp (disch := omega) only [n_69, n_50, n_13, Option.bind_some, bd2_some, bdX_ok, bdX_er, nm_eq, n_0, n_1, n_2, n_3, n_4, n_5, n_6, n_7, n_8, n_9, n_10, n_11, n_12, n_14, n_15, n_16, n_17, n_18, n_19, n_20, n_21, n_24, n_27, n_28, n_32, n_43, n_45, n_48, n_56, n_57, n_59, n_64, n_70, n_97, n_99, n_100, n_104, n_118, n_122, n_126, n_127, n_128, n_129, n_130, n_150, n_255, n_600, n_1000, n_1050, n_1200, n_999999, n_1000000, iI_neg, iI_add, iI_sub, iI_mul, ile, ilt, ieq, G10_2, G9_1, hB.1]
    by_cases c1 : v < 0
    · rw [if_pos c1]
    · rw [if_neg c1, if_neg (by omega)]
  · obtain ⟨r1, r2⟩ := readNet_eq (w := w) (n := v) hfu hB hy
    refine ⟨fun c s e => ?_, fun y e => ?_⟩
    · obtain ⟨m2, k1, k2, k3, k4, k5⟩ := r2 c s e
      unfold f_X10_load
      simp (disch := omega) only [n_69, n_50, n_13, Option.bind_some, bd2_some, bdX_ok, bdX_er, nm_eq, n_0, n_1, n_2, n_3, n_4, n_5, n_6, n_7, n_8, n_9, n_10, n_11, n_12, n_14, n_15, n_16, n_17, n_18, n_19, n_20, n_21, n_24, n_27, n_28, n_32, n_43, n_45, n_48, n_56, n_57, n_59, n_64, n_70, n_97, n_99, n_100, n_104, n_118, n_122, n_126, n_127, n_128, n_129, n_130, n_150, n_255, n_600, n_1000, n_1050, n_1200, n_999999, n_1000000, iI_neg, iI_add, iI_sub, iI_mul, ile, ilt, ieq, G10_2, G10_3, G9_1, hB.1, H9, k1, U9_1]
      rw [if_neg (by omega), if_pos (by omega)]
      have e4 : (up m2 228 1 0) 228 4 = c := by rw [up_off (by decide)]; exact k2
      simp (disch := omega) only [n_69, n_50, n_13, Option.bind_some, bd2_some, bdX_ok, bdX_er, nm_eq, n_0, n_1, n_2, n_3, n_4, n_5, n_6, n_7, n_8, n_9, n_10, n_11, n_12, n_14, n_15, n_16, n_17, n_18, n_19, n_20, n_21, n_24, n_27, n_28, n_32, n_43, n_45, n_48, n_56, n_57, n_59, n_64, n_70, n_97, n_99, n_100, n_104, n_118, n_122, n_126, n_127, n_128, n_129, n_130, n_150, n_255, n_600, n_1000, n_1050, n_1200, n_999999, n_1000000, iI_neg, iI_add, iI_sub, iI_mul, ile, ilt, ieq, G10_2, G10_3, G9_4, e4]
      rw [if_pos (by first | exact trivial | omega | decide)]
      refine ⟨_, rfl, hC.cong (fun p hp => ?_), fun p hp => ?_, up_at, by rw [up_off (by decide)]; exact k3, k4⟩
      · rw [up_ne (by omega), k5.1 p (by omega) (by omega)]
      · rw [up_ne (by omega), k5.1 p (by omega) (by omega)]
    · obtain ⟨hy2, m2, k1, k2, k3, k4⟩ := r1 y e
      refine ⟨hy2, ?_⟩
      have hC2 : CI (up m2 228 1 0) x H := hC.cong (fun p hp => by rw [up_ne (by omega), k3.1 p (by omega) (by omega)])
      obtain ⟨m3, p1, p2, p4, p5, p6, p7⟩ := begin_fr (w := w) (fu := fu) (by omega) hC2
      have hS := hC.1.1
      obtain ⟨m4, q1, q2, q3⟩ := scopy_eq (w := w) (m := m3) (fu := fu) hS isS_230 (by omega) (by omega)
      have hk3 : cRep m3 230 (y.1, y.2, [], []) := k2.cong (fun p a b => by rw [p2 p (by omega) (by omega) (by omega), up_ne (by omega)])
      have hx4 := q3 _ hk3
      have hN4 := hx4.2.1
      unfold f_X10_load
      simp (disch := omega) only [n_69, n_50, n_13, Option.bind_some, bd2_some, bdX_ok, bdX_er, nm_eq, n_0, n_1, n_2, n_3, n_4, n_5, n_6, n_7, n_8, n_9, n_10, n_11, n_12, n_14, n_15, n_16, n_17, n_18, n_19, n_20, n_21, n_24, n_27, n_28, n_32, n_43, n_45, n_48, n_56, n_57, n_59, n_64, n_70, n_97, n_99, n_100, n_104, n_118, n_122, n_126, n_127, n_128, n_129, n_130, n_150, n_255, n_600, n_1000, n_1050, n_1200, n_999999, n_1000000, iI_neg, iI_add, iI_sub, iI_mul, ile, ilt, ieq, G10_2, G10_3, G9_1, hB.1, H9, k1, U9_1]
      rw [if_neg (by omega), if_pos (by omega), if_neg (by first | exact not_false | omega | decide)]
      simp (disch := omega) only [n_69, n_50, n_13, Option.bind_some, bd2_some, bdX_ok, bdX_er, nm_eq, n_0, n_1, n_2, n_3, n_4, n_5, n_6, n_7, n_8, n_9, n_10, n_11, n_12, n_14, n_15, n_16, n_17, n_18, n_19, n_20, n_21, n_24, n_27, n_28, n_32, n_43, n_45, n_48, n_56, n_57, n_59, n_64, n_70, n_97, n_99, n_100, n_104, n_118, n_122, n_126, n_127, n_128, n_129, n_130, n_150, n_255, n_600, n_1000, n_1050, n_1200, n_999999, n_1000000, iI_neg, iI_add, iI_sub, iI_mul, ile, ilt, ieq, H10, p1, G10_0, G10_3, S_has hS, q1, S_0 hS, K_4 hN4]
      refine ⟨m4, rfl, CI_new p4 p5 p6 p7 (fun p hp => q2 p (by omega)) hx4, fun p hp => ?_, ?_, ?_⟩
      · rw [q2 p (by omega), p2 p (by omega) (by omega) (by omega), up_ne (by omega), k3.1 p (by omega) (by omega)]
      · rw [q2 228 (by omega), p2 228 (by omega) (by omega) (by omega), up_at]
      · rw [q2 228 (by omega), p2 228 (by omega) (by omega) (by omega), up_off (by decide)]; exact k4
end LD
