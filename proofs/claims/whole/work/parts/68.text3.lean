section RE2
variable {w : Wl} {m m' m1 : Mm} {z v : Int} {fu p : Nat} {t : List Int} {x : Ps} {l D : List Int}
/-- the loop over a route's arcs -/
theorem readRoute_go (hfu : 1000 ≤ fu) {k73 : Nat → Int32 → List Ob → Option (Int32 × List Ob)} {k98 : Nat → Nat → Nat → List Ob → Option (Int32 × List Ob)} : ∀ (f n p : Nat) (l : List Int) (m1 : Mm), CT m1 t p → run spB t p = p → PC m1 x l → pOK x.1 l → f + l.length = 8 → f < n → 
    (∀ l' q, pRt t x.1 f l p = .ok (l', q) → ∃ m2, f_X9_readRoute_29 fu 228 230 236 (iI (l.length : Int)) (mem w m1) (fun a0 a1 a2 a3 M => f_X9_readRoute_11 fu k73 k98 n a0 a1 a2 a3 M) k73 k98 = k98 228 230 236 (mem w m2) ∧ CT m2 t q ∧ run spB t q = q ∧ PC m2 x l' ∧ pOK x.1 l' ∧ sS m1 m2 ∧ m2 228 5 = m1 228 5) ∧
    (∀ c s, pRt t x.1 f l p = .error (c, s) → (∃ m2, f_X9_readRoute_29 fu 228 230 236 (iI (l.length : Int)) (mem w m1) (fun a0 a1 a2 a3 M => f_X9_readRoute_11 fu k73 k98 n a0 a1 a2 a3 M) k73 k98 = some (iI 0, mem w m2) ∧ m2 228 4 = c ∧ m2 228 5 = (s : Nat) ∧ s ≤ 600 ∧ sS m1 m2) ∨ (∃ m2, f_X9_readRoute_29 fu 228 230 236 (iI (l.length : Int)) (mem w m1) (fun a0 a1 a2 a3 M => f_X9_readRoute_11 fu k73 k98 n a0 a1 a2 a3 M) k73 k98 = k73 228 (iI (s : Nat)) (mem w m2) ∧ c = -3 ∧ s ≤ 600 ∧ sS m1 m2)) := by
  intro f
  induction f with
  | zero =>
    intro n p l m1 h hp hP hl hf hn
    have := pOK_len hP.1.2.2 hl
    omega
  | succ f ih =>
    intro n p l m1 h hp hP hl hf hn
    have hN := hP.1
    have hW := hN.2.2
    have hw := hN.2.2.1
    have h7 := pOK_len hW hl
    have h600 := h.2.1
    have hple := h.2.2.2.1
    obtain ⟨h1, h2⟩ := readNumber_eq (w := w) (lo := 0) (hi := nA x.1 - 1) (un := -1) hfu h (by omega) (by omega) (by omega)
    have hrn : rnum t p 0 (nA x.1 - 1) (-1) = if atB dgB t p = true then (if nvR t p < 0 ∨ nA x.1 - 1 < nvR t p ∨ nvR t p = -1 then .error (-3, p) else .ok (nvR t p, run dgB t p)) else .error (-2, p) := by unfold rnum; rw [hp]
    have hnr := nv_rel (t := t) (p := p)
    unfold f_X9_readRoute_29
    simp (disch := omega) only [n_69, n_50, n_13, Option.bind_some, bd2_some, bdX_ok, bdX_er, nm_eq, n_0, n_1, n_2, n_3, n_4, n_5, n_6, n_7, n_8, n_9, n_10, n_11, n_12, n_14, n_15, n_16, n_17, n_18, n_19, n_20, n_21, n_24, n_27, n_28, n_32, n_43, n_45, n_48, n_56, n_57, n_59, n_64, n_70, n_97, n_99, n_100, n_104, n_118, n_122, n_126, n_127, n_128, n_129, n_130, n_150, n_255, n_600, n_1000, n_1050, n_1200, n_999999, n_1000000, iI_neg, iI_add, iI_sub, iI_mul, ile, ilt, ieq, H9, G9_3, h.2.2.1, S_0 isS_230, K_4 hN]
    rw [pRt]
    cases ha : atB dgB t p with
    | false =>
      rw [ha, if_neg (show ¬ (false = true) by decide)] at hrn
      obtain ⟨q, g1, g2⟩ := h2 _ _ hrn
      rw [if_neg (show ¬ (false = true) by decide)]
      simp (disch := omega) only [n_69, n_50, n_13, Option.bind_some, bd2_some, bdX_ok, bdX_er, nm_eq, n_0, n_1, n_2, n_3, n_4, n_5, n_6, n_7, n_8, n_9, n_10, n_11, n_12, n_14, n_15, n_16, n_17, n_18, n_19, n_20, n_21, n_24, n_27, n_28, n_32, n_43, n_45, n_48, n_56, n_57, n_59, n_64, n_70, n_97, n_99, n_100, n_104, n_118, n_122, n_126, n_127, n_128, n_129, n_130, n_150, n_255, n_600, n_1000, n_1050, n_1200, n_999999, n_1000000, iI_neg, iI_add, iI_sub, iI_mul, ile, ilt, ieq, g1]
      rw [if_pos (by first | exact trivial | omega | decide)]
      refine ⟨fun l' q e => (by cases e), fun c s e => Or.inl ?_⟩
      have e : ((-2 : Int), p) = (c, s) := by injection e
      injection e with a b
      subst a; subst b
      exact ⟨_, rfl, by rw [up_off (by decide), up_at], up_at, by omega, (sS_f (by decide)).trans ((sS_f (by decide)).trans (sS_f (by decide)))⟩
    | true =>
      rw [ha, if_pos (show (true = true) from rfl)] at hrn
      rw [if_pos (show (true = true) from rfl)]
      by_cases c1 : nvR t p < 0 ∨ nA x.1 - 1 < nvR t p ∨ nvR t p = -1
      · rw [if_pos c1] at hrn
        obtain ⟨q, g1, g2⟩ := h2 _ _ hrn
        have hcg : canG x.1 l (nvR t p) = false := by unfold canG; rw [if_neg (by omega)]
        rw [hcg, if_neg (show ¬ (false = true) by decide)]
        simp (disch := omega) only [n_69, n_50, n_13, Option.bind_some, bd2_some, bdX_ok, bdX_er, nm_eq, n_0, n_1, n_2, n_3, n_4, n_5, n_6, n_7, n_8, n_9, n_10, n_11, n_12, n_14, n_15, n_16, n_17, n_18, n_19, n_20, n_21, n_24, n_27, n_28, n_32, n_43, n_45, n_48, n_56, n_57, n_59, n_64, n_70, n_97, n_99, n_100, n_104, n_118, n_122, n_126, n_127, n_128, n_129, n_130, n_150, n_255, n_600, n_1000, n_1050, n_1200, n_999999, n_1000000, iI_neg, iI_add, iI_sub, iI_mul, ile, ilt, ieq, g1]
        rw [if_pos (by first | exact trivial | omega | decide)]
        refine ⟨fun l' q e => (by cases e), fun c s e => Or.inl ?_⟩
        have e : ((-3 : Int), p) = (c, s) := by injection e
        injection e with a b
        subst a; subst b
        exact ⟨_, rfl, by rw [up_off (by decide), up_at], up_at, by omega, (sS_f (by decide)).trans ((sS_f (by decide)).trans (sS_f (by decide)))⟩
      · rw [if_neg c1] at hrn
        obtain ⟨g1, g2⟩ := h1 _ _ hrn
        have hr : 0 ≤ nvR t p ∧ nvR t p < nA x.1 := by omega
        have hcg : canG x.1 l (nvR t p) = canFol x.1 l (nvR t p) := if_pos hr
        have hC1 := h.up g2
        have hP1 : PC (up m1 228 3 ((run dgB t p : Nat) : Int)) x l := hP.fr (fun p a b => up_ne (by omega))
        simp (disch := omega) only [n_69, n_50, n_13, Option.bind_some, bd2_some, bdX_ok, bdX_er, nm_eq, n_0, n_1, n_2, n_3, n_4, n_5, n_6, n_7, n_8, n_9, n_10, n_11, n_12, n_14, n_15, n_16, n_17, n_18, n_19, n_20, n_21, n_24, n_27, n_28, n_32, n_43, n_45, n_48, n_56, n_57, n_59, n_64, n_70, n_97, n_99, n_100, n_104, n_118, n_122, n_126, n_127, n_128, n_129, n_130, n_150, n_255, n_600, n_1000, n_1050, n_1200, n_999999, n_1000000, iI_neg, iI_add, iI_sub, iI_mul, ile, ilt, ieq, g1, S_0 isS_230, N_has hP1.1.1, canFollow_eq (w := w) (fu := fu) (show 100 ≤ fu by omega) hP1.1 hP1.2.2 (pOK_AOK hl) hr.1 hr.2]
        rw [hcg, if_neg (show ¬ nvR t p = -1 by omega)]
        cases hc : canFol x.1 l (nvR t p) with
        | false =>
          rw [show b2 false = 0 from rfl, if_neg (show ¬ (false = true) by decide), if_pos (by first | exact trivial | omega | decide)]
          refine ⟨fun l' q e => (by cases e), fun c s e => Or.inr ?_⟩
          have e : ((-3 : Int), p) = (c, s) := by injection e
          injection e with a b
          subst a; subst b
          exact ⟨_, rfl, rfl, by omega, sS_f (by decide)⟩
        | true =>
          rw [show b2 true = 1 from rfl, if_pos (show (true = true) from rfl), if_neg (show ¬ iI 1 = iI 0 by decide)]
          have h6 := pOK_len6 hW hl hr.1 hr.2 hc
          have hpush := push_eq (w := w) (fu := fu) (a := nvR t p) hP1.2.2 (by omega)
          have hq2 := push_is (a := nvR t p) hP1.2.2 (by omega)
          generalize hm2 : up (up (up m1 228 3 ((run dgB t p : Nat) : Int)) (236 + 1) l.length (nvR t p)) 236 1 (l.length + 1) = m2 at hpush hq2
          have fr : ∀ p', p' ≠ 236 → p' ≠ 237 → m2 p' = (up m1 228 3 ((run dgB t p : Nat) : Int)) p' := fun p' a b => by rw [← hm2, up_ne a, up_ne (by omega)]
          have hC2 : CT m2 t (run dgB t p) := ⟨by rw [fr 228 (by decide) (by decide)]; exact hC1.1, hC1.2.1, by rw [fr 228 (by decide) (by decide)]; exact hC1.2.2.1, hC1.2.2.2.1, fun j b hj => by rw [fr 229 (by decide) (by decide)]; exact hC1.2.2.2.2 j b hj⟩
          have hs := run_le (P := spB) hC2.2.2.2.1
          have hC3 := hC2.up hs
          have hP2 : PC m2 x (l ++ [nvR t p]) := ⟨hP1.1.cong (fr _ (by decide) (by decide)) (fr _ (by decide) (by decide)) (fr _ (by decide) (by decide)) (fr _ (by decide) (by decide)) (fr _ (by decide) (by decide)), hP1.2.1.cong2 (fr _ (by decide) (by decide)) (fun p a b => fr p (by omega) (by omega)), hq2⟩
          have hP3 : PC (up m2 228 3 ((run spB t (run dgB t p) : Nat) : Int)) x (l ++ [nvR t p]) := hP2.fr (fun p a b => up_ne (by omega))
          have hs3 : sS m1 (up m2 228 3 ((run spB t (run dgB t p) : Nat) : Int)) := ((sS_f (by decide)).trans (sS_s (fun p hp => fr p (by omega) (by omega)))).trans (sS_f (by decide))
          have h53 : (up m2 228 3 ((run spB t (run dgB t p) : Nat) : Int)) 228 5 = m1 228 5 := by rw [up_off (by decide), fr 228 (by decide) (by decide), up_off (by decide)]
          have hl2 := pOK_snoc hl hr.1 hr.2 hc
          have hlen : ((l ++ [nvR t p]).length : Int) = (l.length : Int) + 1 := by simp
          simp (disch := omega) only [n_69, n_50, n_13, Option.bind_some, bd2_some, bdX_ok, bdX_er, nm_eq, n_0, n_1, n_2, n_3, n_4, n_5, n_6, n_7, n_8, n_9, n_10, n_11, n_12, n_14, n_15, n_16, n_17, n_18, n_19, n_20, n_21, n_24, n_27, n_28, n_32, n_43, n_45, n_48, n_56, n_57, n_59, n_64, n_70, n_97, n_99, n_100, n_104, n_118, n_122, n_126, n_127, n_128, n_129, n_130, n_150, n_255, n_600, n_1000, n_1050, n_1200, n_999999, n_1000000, iI_neg, iI_add, iI_sub, iI_mul, ile, ilt, ieq, H9, Q_len hP1.2.2, Q_arr hP1.2.2, Q_has hP1.2.2, hpush, skipSpaces_eq hfu hC2]
          obtain ⟨n, rfl⟩ : ∃ k, n = k + 1 := ⟨n - 1, by omega⟩
          rw [f_X9_readRoute_11, f_X9_readRoute_11b]
          simp (disch := omega) only [n_69, n_50, n_13, Option.bind_some, bd2_some, bdX_ok, bdX_er, nm_eq, n_0, n_1, n_2, n_3, n_4, n_5, n_6, n_7, n_8, n_9, n_10, n_11, n_12, n_14, n_15, n_16, n_17, n_18, n_19, n_20, n_21, n_24, n_27, n_28, n_32, n_43, n_45, n_48, n_56, n_57, n_59, n_64, n_70, n_97, n_99, n_100, n_104, n_118, n_122, n_126, n_127, n_128, n_129, n_130, n_150, n_255, n_600, n_1000, n_1050, n_1200, n_999999, n_1000000, iI_neg, iI_add, iI_sub, iI_mul, ile, ilt, ieq, H9, isAtDigit_eq hC3]
          rw [if_neg (show ¬ (600 : Int) ≤ (l.length : Int) + 1 by omega), if_neg (show ¬ (l.length : Int) + 1 = 0 by omega)]
          cases hd : atB dgB t (run spB t (run dgB t p)) with
          | false =>
            rw [show b2 false = 0 from rfl, if_neg (show ¬ (false = true) by decide), if_pos (show iI 0 = iI 0 from rfl)]
            refine ⟨fun l' q e => ?_, fun c s e => (by cases e)⟩
            have e : (l ++ [nvR t p], run spB t (run dgB t p)) = (l', q) := by injection e
            injection e with a b
            subst a; subst b
            exact ⟨_, rfl, hC3, run_run, hP3, hl2, hs3, h53⟩
          | true =>
            rw [show b2 true = 1 from rfl, if_pos (show (true = true) from rfl), if_neg (show ¬ iI 1 = iI 0 by decide)]
            obtain ⟨i1, i2⟩ := ih n (run spB t (run dgB t p)) (l ++ [nvR t p]) _ hC3 run_run hP3 hl2 (by simp <;> omega) (by omega)
            rw [hlen] at i1 i2
            refine ⟨fun l' q e => ?_, fun c s e => ?_⟩
            · obtain ⟨m3, j1, j2, j3, j4, j5, j6, j7⟩ := i1 l' q e
              exact ⟨m3, j1, j2, j3, j4, j5, hs3.trans j6, by rw [j7, h53]⟩
            · rcases i2 c s e with ⟨m3, j1, j2, j3, j4, j5⟩ | ⟨m3, j1, j2, j3, j4⟩
              · exact Or.inl ⟨m3, j1, j2, j3, j4, hs3.trans j5⟩
              · exact Or.inr ⟨m3, j1, j2, j3, hs3.trans j4⟩
theorem readRouteEnd_eq (hfu : 1000 ≤ fu) (h : CT m1 t p) (hp : run spB t p = p) (hP : PC m1 x l) (hl : pOK x.1 l) (hx : WGp x) (h6 : x.2.length < 6) (hs : sS m m1) (h5 : m1 228 5 = m 228 5) : CR w m (f_X9_readRouteEnd fu 228 230 236 (mem w m1)) t (pEnd t x l p) := by
  have hN := hP.1
  have hW := hN.2.2
  have h600 := h.2.1
  have hple := h.2.2.2.1
  have hk := pk_is h
  have hTK : TOK x.1 x.2 := fun y hy => pOK_AOK (hx.2.2 y hy).1
  have he := endOf_nn hW (pOK_AOK hl)
  have hw := hW.1
  have h27 : f_X9_readRouteEnd_27 fu 228 (mem w m1) = some (iI 0, mem w (up (up m1 228 4 (-2)) 228 5 (p : Nat))) := by
    unfold f_X9_readRouteEnd_27 f_X9_fail
    simp (disch := omega) only [n_69, n_50, n_13, Option.bind_some, bd2_some, bdX_ok, bdX_er, nm_eq, n_0, n_1, n_2, n_3, n_4, n_5, n_6, n_7, n_8, n_9, n_10, n_11, n_12, n_14, n_15, n_16, n_17, n_18, n_19, n_20, n_21, n_24, n_27, n_28, n_32, n_43, n_45, n_48, n_56, n_57, n_59, n_64, n_70, n_97, n_99, n_100, n_104, n_118, n_122, n_126, n_127, n_128, n_129, n_130, n_150, n_255, n_600, n_1000, n_1050, n_1200, n_999999, n_1000000, iI_neg, iI_add, iI_sub, iI_mul, ile, ilt, ieq, H9, G9_3, h.2.2.1, U9_4, U9_5]
    rw [and1 (Or.inl rfl)]
  unfold f_X9_readRouteEnd pEnd rsemi
  rw [hp]
  simp (disch := omega) only [n_69, n_50, n_13, Option.bind_some, bd2_some, bdX_ok, bdX_er, nm_eq, n_0, n_1, n_2, n_3, n_4, n_5, n_6, n_7, n_8, n_9, n_10, n_11, n_12, n_14, n_15, n_16, n_17, n_18, n_19, n_20, n_21, n_24, n_27, n_28, n_32, n_43, n_45, n_48, n_56, n_57, n_59, n_64, n_70, n_97, n_99, n_100, n_104, n_118, n_122, n_126, n_127, n_128, n_129, n_130, n_150, n_255, n_600, n_1000, n_1050, n_1200, n_999999, n_1000000, iI_neg, iI_add, iI_sub, iI_mul, ile, ilt, ieq, H9, peek_eq h, h27]
  cases ha : atB smB t p with
  | false =>
    have hne : pk t p ≠ 59 := fun q => by rw [hk.2.2.2.2.2.1.mp q] at ha; cases ha
    rw [if_neg hne, if_neg (show ¬ (false = true) by decide), eb_er]
    exact CR_fail (by omega) hs
  | true =>
    obtain ⟨c, -, -, hlt⟩ := at_some ha
    rw [if_pos (hk.2.2.2.2.2.1.mpr ha), if_pos (show (true = true) from rfl), eb_ok]
    unfold f_X9_fail
    simp (disch := omega) only [n_69, n_50, n_13, Option.bind_some, bd2_some, bdX_ok, bdX_er, nm_eq, n_0, n_1, n_2, n_3, n_4, n_5, n_6, n_7, n_8, n_9, n_10, n_11, n_12, n_14, n_15, n_16, n_17, n_18, n_19, n_20, n_21, n_24, n_27, n_28, n_32, n_43, n_45, n_48, n_56, n_57, n_59, n_64, n_70, n_97, n_99, n_100, n_104, n_118, n_122, n_126, n_127, n_128, n_129, n_130, n_150, n_255, n_600, n_1000, n_1050, n_1200, n_999999, n_1000000, iI_neg, iI_add, iI_sub, iI_mul, ile, ilt, ieq, H9, G9_3, U9_3, h.2.2.1, S_0 isS_230, S_has isS_230, K_has hN, K_0 hN, K_1 hN, K_2 hN, K_3 hN, K_4 hN, K_5 hN, K_6 hN, K_7 hN, K_8 hN, K_tl hN, K_hd hN, K_co hN, K_ex hN, endOf_eq (w := w) (fu := fu) hN hP.2.2 (pOK_AOK hl), wasTold_eq (w := w) (fu := fu) (show 100 ≤ fu by omega) hP.2.1 hTK hW hP.2.2 (pOK_AOK hl), U9_4, U9_5, h27]
    rw [and1 (Or.inl rfl)]
    by_cases c1 : endOf x.1 l = nT x.1
    · rw [if_pos c1, if_pos c1]
      cases hc : x.2.any (fun y => decide (y = l)) with
      | true =>
        rw [show b2 true = 1 from rfl, if_neg (show ¬ iI 1 = iI 0 by decide), if_pos (show (true = true) from rfl)]
        exact CR_fail (by omega) hs
      | false =>
        rw [show b2 false = 0 from rfl, if_pos (show iI 0 = iI 0 from rfl), if_neg (show ¬ (false = true) by decide)]
        rw [show (p : Int) + 1 = ((p + 1 : Nat) : Int) by omega]
        have hC1 := h.up (show p + 1 ≤ t.length by omega)
        have hP1 : PC (up m1 228 3 ((p + 1 : Nat) : Int)) x l := hP.fr (fun p a b => up_ne (by omega))
        have hS1 : sS m (up m1 228 3 ((p + 1 : Nat) : Int)) := hs.trans (sS_f (by decide))
        obtain ⟨m2, k1, k2, k3⟩ := addTold_eq (w := w) (fu := fu) hP1.2.1 hP1.2.2 h6 (by omega)
        have hq : isP 236 := S_D isS_230
        simp (disch := omega) only [n_69, n_50, n_13, Option.bind_some, bd2_some, bdX_ok, bdX_er, nm_eq, n_0, n_1, n_2, n_3, n_4, n_5, n_6, n_7, n_8, n_9, n_10, n_11, n_12, n_14, n_15, n_16, n_17, n_18, n_19, n_20, n_21, n_24, n_27, n_28, n_32, n_43, n_45, n_48, n_56, n_57, n_59, n_64, n_70, n_97, n_99, n_100, n_104, n_118, n_122, n_126, n_127, n_128, n_129, n_130, n_150, n_255, n_600, n_1000, n_1050, n_1200, n_999999, n_1000000, iI_neg, iI_add, iI_sub, iI_mul, ile, ilt, ieq, k1, P_has hq, clear_eq hq]
        have fr : ∀ p', p' ≠ 236 → (up m2 236 1 0) p' = m2 p' := fun p' a => up_ne a
        refine ⟨fun y q' e => ?_, fun c s e => (by cases e)⟩
        have e : ((x.1, x.2 ++ [l]), p + 1) = (y, q') := by injection e
        injection e with a b
        subst a; subst b
        refine ⟨_, rfl, ⟨by rw [fr 228 (by decide), k2 228 (by decide) (by omega)]; exact hC1.1, hC1.2.1, by rw [fr 228 (by decide), k2 228 (by decide) (by omega)]; exact hC1.2.2.1, hC1.2.2.2.1, fun j b hj => by rw [fr 229 (by decide), k2 229 (by decide) (by omega)]; exact hC1.2.2.2.2 j b hj⟩, ⟨hP1.1.cong (by rw [fr _ (by decide), k2 _ (by decide) (by omega)]) (by rw [fr _ (by decide), k2 _ (by decide) (by omega)]) (by rw [fr _ (by decide), k2 _ (by decide) (by omega)]) (by rw [fr _ (by decide), k2 _ (by decide) (by omega)]) (by rw [fr _ (by decide), k2 _ (by decide) (by omega)]), k3.cong2 (fr _ (by decide)) (fun p a b => fr p (by omega)), clear_is hq⟩, hS1.trans (sS_s (fun p hp => by rw [fr p (by omega), k2 p (by omega) (by omega)])), by rw [fr 228 (by decide), k2 228 (by decide) (by omega), up_off (by decide)]; exact h5⟩
    · rw [if_neg c1, if_neg c1]
      exact CR_fail (by omega) hs
theorem pRt_ok {N : Nt} {q : Nat} : ∀ (f : Nat) (l l' : List Int) (p : Nat), pRt t N f l p = .ok (l', q) → pOK N l → pOK N l' ∧ p ≤ q := by
  intro f
  induction f with
  | zero => intro l l' p h _; cases h
  | succ f ih =>
    intro l l' p h hl
    rw [pRt] at h
    have g1 : p ≤ run dgB t p := run_ge
    have g2 : run dgB t p ≤ run spB t (run dgB t p) := run_ge
    split at h
    · split at h
      · rename_i hc
        have hc' : (0 ≤ nvR t p ∧ nvR t p < nA N) ∧ canFol N l (nvR t p) = true := by
          unfold canG at hc
          split at hc
          · rename_i q; exact ⟨q, hc⟩
          · cases hc
        have hl2 := pOK_snoc hl hc'.1.1 hc'.1.2 hc'.2
        split at h
        · have := ih _ _ _ h hl2
          exact ⟨this.1, by omega⟩
        · have e : (l ++ [nvR t p], run spB t (run dgB t p)) = (l', q) := by injection h
          injection e with a b
          subst a; subst b
          exact ⟨hl2, by omega⟩
      · cases h
    · cases h
theorem rsemi_ok {q : Nat} (h : rsemi t p = .ok q) : p < q := by
  have g : p ≤ run spB t p := run_ge
  unfold rsemi at h
  split at h
  · have : run spB t p + 1 = q := by injection h
    omega
  · cases h
theorem rnum_ge {lo hi un v : Int} {q : Nat} (h : rnum t p lo hi un = .ok (v, q)) : p ≤ q := by
  have h1 := (rnum_ok h).2.2.2.2.1
  have g1 : p ≤ run spB t p := run_ge
  have g2 : run spB t p ≤ run dgB t (run spB t p) := run_ge
  omega
theorem pStmt_ok {y : Ps} {q : Nat} (h : pStmt t x p = .ok (y, q)) (hx : WGp x) : WGp y ∧ p < q := by
  have g0 : p ≤ run ltB t p := run_ge
  unfold pStmt at h
  split at h
  · refine ⟨pBud_ok h hx, ?_⟩
    unfold pBud at h
    cases h1 : rnum t (run ltB t p) 0 6 (-1) with
    | error e => rw [h1, eb_er] at h; cases h
    | ok a =>
      obtain ⟨v, q1⟩ := a
      rw [h1, eb_ok] at h
      cases h2 : rsemi t q1 with
      | error e => rw [h2, eb_er] at h; cases h
      | ok q2 =>
        rw [h2, eb_ok] at h
        have e : q2 = q := by injection h with h; injection h
        have := rnum_ge h1
        have := rsemi_ok h2
        omega
  · split at h
    · split at h
      · cases h
      · rename_i hA
        unfold pArc at h
        cases h1 : rnum t (run ltB t p) 0 (nN x.1 - 1) (-1) with
        | error e => rw [h1, eb_er] at h; cases h
        | ok a =>
          obtain ⟨v1, q1⟩ := a
          rw [h1, eb_ok] at h
          cases h2 : rnum t q1 0 (nN x.1 - 1) v1 with
          | error e => rw [h2, eb_er] at h; cases h
          | ok a =>
            obtain ⟨v2, q2⟩ := a
            rw [h2, eb_ok] at h
            cases h3 : rnum t q2 0 99 (-1) with
            | error e => rw [h3, eb_er] at h; cases h
            | ok a =>
              obtain ⟨v3, q3⟩ := a
              rw [h3, eb_ok] at h
              cases h4 : rnum t q3 0 99 (-1) with
              | error e => rw [h4, eb_er] at h; cases h
              | ok a =>
                obtain ⟨v4, q4⟩ := a
                rw [h4, eb_ok] at h
                cases h5 : rsemi t q4 with
                | error e => rw [h5, eb_er] at h; cases h
                | ok q5 =>
                  rw [h5, eb_ok] at h
                  have e : ((addN x.1 v1 v2 v3 v4, x.2), q5) = (y, q) := by injection h
                  injection e with a b
                  subst a; subst b
                  have r1 := rnum_ok h1
                  have r2 := rnum_ok h2
                  have r3 := rnum_ok h3
                  have r4 := rnum_ok h4
                  have k1 := rnum_ge h1
                  have k2 := rnum_ge h2
                  have k3 := rnum_ge h3
                  have k4 := rnum_ge h4
                  have k5 := rsemi_ok h5
                  exact ⟨⟨addN_wf hx.1 (by omega) (by omega) (by omega) (fun e => r2.2.2.1 e.symm) (by omega) (by omega), hx.2.1, fun l hl => RT_id (hx.2.2 l hl) rfl rfl (fun a _ h => addN_id h)⟩, by omega⟩
    · split at h
      · split at h
        · cases h
        · rename_i hR
          unfold pRoute at h
          cases h1 : pRt t x.1 8 [] (run spB t (run ltB t p)) with
          | error e => rw [h1, eb_er] at h; cases h
          | ok a =>
            obtain ⟨l', q1⟩ := a
            rw [h1, eb_ok] at h
            have k1 := pRt_ok _ _ _ _ h1 pOK_nil
            have g2 : run ltB t p ≤ run spB t (run ltB t p) := run_ge
            unfold pEnd at h
            cases h2 : rsemi t q1 with
            | error e => rw [h2, eb_er] at h; cases h
            | ok q2 =>
              rw [h2, eb_ok] at h
              split at h
              · rename_i hE
                split at h
                · cases h
                · have e : ((x.1, x.2 ++ [l']), q2) = (y, q) := by injection h
                  injection e with a b
                  subst a; subst b
                  have k2 := rsemi_ok h2
                  refine ⟨⟨hx.1, by simp <;> omega, fun l hl => ?_⟩, by omega⟩
                  rcases List.mem_append.mp hl with hl | hl
                  · exact hx.2.2 l hl
                  · have : l = l' := by simpa using hl
                    rw [this]; exact ⟨k1.1, hE⟩
              · cases h
      · cases h
theorem readRoute_eq (hfu : 1000 ≤ fu) (h : CT m1 t p) (hP : PC m1 x []) (hx : WGp x) (h6 : x.2.length < 6) (hs : sS m m1) (h5 : m1 228 5 = m 228 5) : CR w m (f_X9_readRoute fu 228 230 (mem w m1)) t (pRoute t x p) := by
  have h600 := h.2.1
  have hsp := run_le (P := spB) h.2.2.2.1
  have hC := h.up hsp
  have hP1 : PC (up m1 228 3 ((run spB t p : Nat) : Int)) x [] := hP.fr (fun p a b => up_ne (by omega))
  have hS1 : sS m (up m1 228 3 ((run spB t p : Nat) : Int)) := hs.trans (sS_f (by decide))
  have h51 : (up m1 228 3 ((run spB t p : Nat) : Int)) 228 5 = m 228 5 := by rw [up_off (by decide)]; exact h5
  obtain ⟨i1, i2⟩ := readRoute_go (w := w) hfu (k73 := fun x7 x8 M9 => f_X9_readRoute_73 fu x7 x8 M9) (k98 := fun x10 x11 x12 M13 => f_X9_readRoute_98 fu x10 x11 x12 M13) 8 (fu - 1) (run spB t p) [] _ hC run_run hP1 pOK_nil rfl (by omega)
  rw [show (([] : List Int).length : Int) = 0 from rfl] at i1 i2
  have e0 : ∀ M, f_X9_readRoute_11 fu (fun x7 x8 M9 => f_X9_readRoute_73 fu x7 x8 M9) (fun x10 x11 x12 M13 => f_X9_readRoute_98 fu x10 x11 x12 M13) fu 228 230 236 (iI 0) M = f_X9_readRoute_29 fu 228 230 236 (iI 0) M (fun a0 a1 a2 a3 M => f_X9_readRoute_11 fu (fun x7 x8 M9 => f_X9_readRoute_73 fu x7 x8 M9) (fun x10 x11 x12 M13 => f_X9_readRoute_98 fu x10 x11 x12 M13) (fu - 1) a0 a1 a2 a3 M) (fun x7 x8 M9 => f_X9_readRoute_73 fu x7 x8 M9) (fun x10 x11 x12 M13 => f_X9_readRoute_98 fu x10 x11 x12 M13) := by
    intro M
    have key : ∀ n, 0 < n → f_X9_readRoute_11 fu (fun x7 x8 M9 => f_X9_readRoute_73 fu x7 x8 M9) (fun x10 x11 x12 M13 => f_X9_readRoute_98 fu x10 x11 x12 M13) n 228 230 236 (iI 0) M = f_X9_readRoute_29 fu 228 230 236 (iI 0) M (fun a0 a1 a2 a3 M => f_X9_readRoute_11 fu (fun x7 x8 M9 => f_X9_readRoute_73 fu x7 x8 M9) (fun x10 x11 x12 M13 => f_X9_readRoute_98 fu x10 x11 x12 M13) (n - 1) a0 a1 a2 a3 M) (fun x7 x8 M9 => f_X9_readRoute_73 fu x7 x8 M9) (fun x10 x11 x12 M13 => f_X9_readRoute_98 fu x10 x11 x12 M13) := by
      intro n hn
      obtain ⟨n, rfl⟩ : ∃ k, n = k + 1 := ⟨n - 1, by omega⟩
      rw [f_X9_readRoute_11, f_X9_readRoute_11b]
      rw [if_neg (show ¬ (600 : Int32) ≤ iI 0 by decide), if_pos (show iI 0 = (0 : Int32) from rfl)]
      rfl
    exact key fu (by omega)
  unfold f_X9_readRoute pRoute
  simp (disch := omega) only [n_69, n_50, n_13, Option.bind_some, bd2_some, bdX_ok, bdX_er, nm_eq, n_0, n_1, n_2, n_3, n_4, n_5, n_6, n_7, n_8, n_9, n_10, n_11, n_12, n_14, n_15, n_16, n_17, n_18, n_19, n_20, n_21, n_24, n_27, n_28, n_32, n_43, n_45, n_48, n_56, n_57, n_59, n_64, n_70, n_97, n_99, n_100, n_104, n_118, n_122, n_126, n_127, n_128, n_129, n_130, n_150, n_255, n_600, n_1000, n_1050, n_1200, n_999999, n_1000000, iI_neg, iI_add, iI_sub, iI_mul, ile, ilt, ieq, H9, S_1 isS_230, skipSpaces_eq hfu h]
  rw [e0]
  cases hr : pRt t x.1 8 [] (run spB t p) with
  | error e =>
    obtain ⟨c, s⟩ := e
    rw [eb_er]
    rcases i2 c s hr with ⟨m2, j1, j2, j3, j4, j5⟩ | ⟨m2, j1, j2, j3, j4⟩
    · rw [j1]
      exact CR_er j4 (hS1.trans j5) j2 j3
    · rw [j1]
      unfold f_X9_readRoute_73 f_X9_fail
      simp (disch := omega) only [n_69, n_50, n_13, Option.bind_some, bd2_some, bdX_ok, bdX_er, nm_eq, n_0, n_1, n_2, n_3, n_4, n_5, n_6, n_7, n_8, n_9, n_10, n_11, n_12, n_14, n_15, n_16, n_17, n_18, n_19, n_20, n_21, n_24, n_27, n_28, n_32, n_43, n_45, n_48, n_56, n_57, n_59, n_64, n_70, n_97, n_99, n_100, n_104, n_118, n_122, n_126, n_127, n_128, n_129, n_130, n_150, n_255, n_600, n_1000, n_1050, n_1200, n_999999, n_1000000, iI_neg, iI_add, iI_sub, iI_mul, ile, ilt, ieq, H9, U9_4, U9_5]
      rw [and1 (Or.inl rfl), j2]
      exact CR_fail j3 (hS1.trans j4)
  | ok y =>
    obtain ⟨l', q⟩ := y
    rw [eb_ok]
    obtain ⟨m2, j1, j2, j3, j4, j5, j6, j7⟩ := i1 l' q hr
    rw [j1]
    have hE := readRouteEnd_eq (w := w) hfu j2 j3 j4 j5 hx h6 (hS1.trans j6) (by rw [j7]; exact h51)
    unfold f_X9_readRoute_98
    simp (disch := omega) only [n_69, n_50, n_13, Option.bind_some, bd2_some, bdX_ok, bdX_er, nm_eq, n_0, n_1, n_2, n_3, n_4, n_5, n_6, n_7, n_8, n_9, n_10, n_11, n_12, n_14, n_15, n_16, n_17, n_18, n_19, n_20, n_21, n_24, n_27, n_28, n_32, n_43, n_45, n_48, n_56, n_57, n_59, n_64, n_70, n_97, n_99, n_100, n_104, n_118, n_122, n_126, n_127, n_128, n_129, n_130, n_150, n_255, n_600, n_1000, n_1050, n_1200, n_999999, n_1000000, iI_neg, iI_add, iI_sub, iI_mul, ile, ilt, ieq, H9]
    obtain ⟨e1, e2⟩ := hE
    refine ⟨fun y q' e => ?_, fun c s e => ?_⟩
    · obtain ⟨m3, k1, k2⟩ := e1 y q' e
      rw [k1, bd2_some, and1 (Or.inr rfl)]
      exact ⟨m3, rfl, k2⟩
    · obtain ⟨m3, k1, k2⟩ := e2 c s e
      rw [k1, bd2_some, and1 (Or.inl rfl)]
      exact ⟨m3, rfl, k2⟩
end RE2
