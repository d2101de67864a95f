section RY
variable {w : Wl} {m m' m1 : Mm} {z v : Int} {fu p s : Nat} {t : List Int} {x : Ps} {l D : List Int}
theorem rsEnd (hfu : 1000 ≤ fu) (h : TP m1 t p) (hp : run spB t p = p) (hP : PR m1 x l) (hl : pOK x.1 l) (hx : WGp x) (h6 : x.2.length < 6) (hg : gS m m1) : RR w m (bd2 (f_X11_readsRoute_118 fu 283 (mem w m1)) fun _ M => f_X11_readsStatement_69 fu 283 M) t (pEnd t x l p) := by
  have hN := hP.1
  have hW := hN.1
  have hw := hN.1.1
  have hE := endOf_nn hW (pOK_AOK hl)
  have h8 := h.2.2.1
  rw [hp] at h8
  have hTK : TOK x.1 x.2 := fun y hy => pOK_AOK (hx.2.2 y hy).1
  obtain ⟨h1, h2⟩ := semiMust (w := w) hfu h
  unfold pEnd
  cases hr : rsemi t p with
  | error e =>
    obtain ⟨c, s⟩ := e
    obtain ⟨m', k1, k2, k3, k4⟩ := h2 c s hr
    unfold f_X11_readsRoute_118
    rw [Z_has, Option.bind_some, k1, bd2_some, if_pos (show iI 0 = 0 from rfl)]
    unfold f_X11_readsRoute_147
    rw [Z_has, Option.bind_some, k1, bd2_some, if_pos (show iI 0 = 0 from rfl)]
    unfold f_X11_readsRoute_171
    rw [Z_has, Option.bind_some, k1, bd2_some, if_pos (show iI 0 = 0 from rfl), bd2_some]
    unfold f_X11_readsStatement_69
    simp (disch := omega) only [n_69, n_50, n_13, Option.bind_some, bd2_some, bdX_ok, bdX_er, nm_eq, n_0, n_1, n_2, n_3, n_4, n_5, n_6, n_7, n_8, n_9, n_10, n_11, n_12, n_14, n_15, n_16, n_17, n_18, n_19, n_20, n_21, n_24, n_27, n_28, n_32, n_43, n_45, n_48, n_56, n_57, n_59, n_64, n_70, n_97, n_99, n_100, n_104, n_118, n_122, n_126, n_127, n_128, n_129, n_130, n_150, n_255, n_600, n_1000, n_1050, n_1200, n_999999, n_1000000, iI_neg, iI_add, iI_sub, iI_mul, ile, ilt, ieq, Z_has, k1, k2]
    rw [eb_er]
    refine ⟨fun y q e => (by cases e), fun c' s' e => ?_⟩
    have e : (c, s) = (c', s') := by injection e
    injection e with a b
    subst a; subst b
    exact ⟨m', rfl, k3, hg.trans k4.g⟩
  | ok q =>
    obtain ⟨m', k1, k2, k3, k4⟩ := h1 q hr
    have k1' := k1
    rw [eb_ok]
    -- an error here
    have er : ∀ c : Int, -4 ≤ c ∧ c < 0 → ∃ m2, f_X11_fails fu 283 (iI c) (mem w m1) = some ((), mem w m2) ∧ Wr m2 c p ∧ fS m1 m2 := fun c hc => fails_yes h.1 h8 hc
    obtain ⟨r, r1, r2, r3, r4⟩ := toldAs_eq (w := w) (fu := fu) (show 100 ≤ fu by omega) rw285 hP.2.1 hTK hP.2.2 (pOK_AOK hl) hW
    unfold f_X11_readsRoute_118
    simp (disch := omega) only [n_69, n_50, n_13, Option.bind_some, bd2_some, bdX_ok, bdX_er, nm_eq, n_0, n_1, n_2, n_3, n_4, n_5, n_6, n_7, n_8, n_9, n_10, n_11, n_12, n_14, n_15, n_16, n_17, n_18, n_19, n_20, n_21, n_24, n_27, n_28, n_32, n_43, n_45, n_48, n_56, n_57, n_59, n_64, n_70, n_97, n_99, n_100, n_104, n_118, n_122, n_126, n_127, n_128, n_129, n_130, n_150, n_255, n_600, n_1000, n_1050, n_1200, n_999999, n_1000000, iI_neg, iI_add, iI_sub, iI_mul, ile, ilt, ieq, Z_has, Z_1, k1, draftEnd_eq (w := w) (fu := fu) rw285 hN hP.2.2 (pOK_AOK hl), Rw_g rw285, hN.2.1.2.2.1]
    by_cases c1 : endOf x.1 l = nT x.1
    · rw [if_pos c1, if_pos c1]
      unfold f_X11_readsRoute_147
      simp (disch := omega) only [n_69, n_50, n_13, Option.bind_some, bd2_some, bdX_ok, bdX_er, nm_eq, n_0, n_1, n_2, n_3, n_4, n_5, n_6, n_7, n_8, n_9, n_10, n_11, n_12, n_14, n_15, n_16, n_17, n_18, n_19, n_20, n_21, n_24, n_27, n_28, n_32, n_43, n_45, n_48, n_56, n_57, n_59, n_64, n_70, n_97, n_99, n_100, n_104, n_118, n_122, n_126, n_127, n_128, n_129, n_130, n_150, n_255, n_600, n_1000, n_1050, n_1200, n_999999, n_1000000, iI_neg, iI_add, iI_sub, iI_mul, ile, ilt, ieq, Z_has, Z_1, k1, r1, n_m1]
      cases hc : x.2.any (fun y => decide (y = l)) with
      | true =>
        have hr9 : ¬ r = -1 := fun q => by rw [r4.mp q] at hc; cases hc
        obtain ⟨m2, e1, e2, e3⟩ := er (-3) (by omega)
        rw [if_neg hr9, if_pos (show (true = true) from rfl)]
        unfold f_X11_readsRoute_171
        simp (disch := omega) only [n_69, n_50, n_13, Option.bind_some, bd2_some, bdX_ok, bdX_er, nm_eq, n_0, n_1, n_2, n_3, n_4, n_5, n_6, n_7, n_8, n_9, n_10, n_11, n_12, n_14, n_15, n_16, n_17, n_18, n_19, n_20, n_21, n_24, n_27, n_28, n_32, n_43, n_45, n_48, n_56, n_57, n_59, n_64, n_70, n_97, n_99, n_100, n_104, n_118, n_122, n_126, n_127, n_128, n_129, n_130, n_150, n_255, n_600, n_1000, n_1050, n_1200, n_999999, n_1000000, iI_neg, iI_add, iI_sub, iI_mul, ile, ilt, ieq, Z_has, e1, semi_no e2]
        exact RR_er e2 (hg.trans e3.g)
      | false =>
        rw [if_pos (r4.mpr hc), if_neg (show ¬ (false = true) by decide)]
        obtain ⟨m2, e1, e2, e3, e4, e5⟩ := tells_eq (w := w) (fu := fu) (show 100 ≤ fu by omega) rw285 hP.2.1 hP.2.2 h6
        unfold f_X11_readsRoute_171
        simp (disch := omega) only [n_69, n_50, n_13, Option.bind_some, bd2_some, bdX_ok, bdX_er, nm_eq, n_0, n_1, n_2, n_3, n_4, n_5, n_6, n_7, n_8, n_9, n_10, n_11, n_12, n_14, n_15, n_16, n_17, n_18, n_19, n_20, n_21, n_24, n_27, n_28, n_32, n_43, n_45, n_48, n_56, n_57, n_59, n_64, n_70, n_97, n_99, n_100, n_104, n_118, n_122, n_126, n_127, n_128, n_129, n_130, n_150, n_255, n_600, n_1000, n_1050, n_1200, n_999999, n_1000000, iI_neg, iI_add, iI_sub, iI_mul, ile, ilt, ieq, Z_has, Z_1, k1, e1]
        have := st69_yes (w := w) (m := m) hfu (h.r e2) (x := (x.1, x.2 ++ [l])) ⟨hN.cong (fun k _ b => e3 k (by omega)), e4, e5⟩ (hg.trans (gS_r e2))
        rw [hr, eb_ok] at this
        exact this
    · rw [if_neg c1, if_neg c1]
      obtain ⟨m2, e1, e2, e3⟩ := er (-2) (by omega)
      unfold f_X11_readsRoute_147 f_X11_readsRoute_171
      simp (disch := omega) only [n_69, n_50, n_13, Option.bind_some, bd2_some, bdX_ok, bdX_er, nm_eq, n_0, n_1, n_2, n_3, n_4, n_5, n_6, n_7, n_8, n_9, n_10, n_11, n_12, n_14, n_15, n_16, n_17, n_18, n_19, n_20, n_21, n_24, n_27, n_28, n_32, n_43, n_45, n_48, n_56, n_57, n_59, n_64, n_70, n_97, n_99, n_100, n_104, n_118, n_122, n_126, n_127, n_128, n_129, n_130, n_150, n_255, n_600, n_1000, n_1050, n_1200, n_999999, n_1000000, iI_neg, iI_add, iI_sub, iI_mul, ile, ilt, ieq, Z_has, e1, semi_no e2]
      exact RR_er e2 (hg.trans e3.g)
theorem rsRoute (hfu : 1000 ≤ fu) (h : TP m1 t p) (hP : PR m1 x []) (hx : WGp x) (h6 : x.2.length < 6) (hg : gS m m1) (hb : bh t (run spB t p) = run ltB t p) : RR w m (bd2 (f_X11_readsRoute_18 fu 283 (mem w m1)) fun _ M => f_X11_readsStatement_69 fu 283 M) t (pRoute t x (run ltB t p)) := by
  obtain ⟨m2, k1, k2, k3⟩ := must_yes (w := w) hfu h
  rw [hb] at k2
  have hP2 := hP.f k3
  have hfr : ∀ q, q ≠ 285 → (up m2 285 118 0) q = m2 q := fun q hq => up_ne hq
  have hP3 : PR (up m2 285 118 0) x [] := ⟨hP2.1.cong (fun k _ b => up_off (by omega)), hP2.2.1.cong (fun k a b => up_off (by omega)), up_at, by simp, fun j a hj => by simp at hj⟩
  have hT3 : TP (up m2 285 118 0) t (run ltB t p) := k2.r hfr
  have hT3' : TP (up m2 285 118 0) t (run spB t (run ltB t p)) := ⟨hT3.1, by rw [run_run]; exact hT3.2⟩
  have hg3 : gS m (up m2 285 118 0) := (hg.trans k3.g).trans (gS_r hfr)
  have h12 : (up m2 285 118 0) 283 12 = 0 := hT3.1
  obtain ⟨i1, i2⟩ := rsRt (w := w) hfu (k118 := fun x1 M2 => f_X11_readsRoute_118 fu x1 M2) 8 fu (run spB t (run ltB t p)) [] _ hT3' run_run hP3 pOK_nil rfl (by omega)
  unfold f_X11_readsRoute_18 pRoute
  simp (disch := omega) only [n_69, n_50, n_13, Option.bind_some, bd2_some, bdX_ok, bdX_er, nm_eq, n_0, n_1, n_2, n_3, n_4, n_5, n_6, n_7, n_8, n_9, n_10, n_11, n_12, n_14, n_15, n_16, n_17, n_18, n_19, n_20, n_21, n_24, n_27, n_28, n_32, n_43, n_45, n_48, n_56, n_57, n_59, n_64, n_70, n_97, n_99, n_100, n_104, n_118, n_122, n_126, n_127, n_128, n_129, n_130, n_150, n_255, n_600, n_1000, n_1050, n_1200, n_999999, n_1000000, iI_neg, iI_add, iI_sub, iI_mul, ile, ilt, ieq, Z_has, Z_1, k1, Rw_s rw285, Z_12, h12]
  rw [if_pos (show True from trivial)]
  unfold f_X11_readsRoute_43
  cases hr : pRt t x.1 8 [] (run spB t (run ltB t p)) with
  | error e =>
    obtain ⟨c, s⟩ := e
    obtain ⟨m4, g1, g2, g3⟩ := i2 c s hr
    rw [g1, bd2_some, eb_er]
    exact RR_er g2 (hg3.trans g3)
  | ok y =>
    obtain ⟨l', q⟩ := y
    obtain ⟨m4, g1, g2, g3, g4, g5⟩ := i1 l' q hr
    rw [g1, eb_ok]
    exact rsEnd hfu g2 g3 g4 (pRt_ok _ _ _ _ hr pOK_nil).1 hx h6 (hg3.trans g5)
theorem rsStmt (hfu : 1000 ≤ fu) (h : TP m1 t p) (hp : run spB t p = p) (hP : PR m1 x []) (hx : WGp x) (hg : gS m m1) : RR w m (f_X11_readsStatement fu 283 (mem w m1)) t (pStmt t x p) := by
  have hw := hP.1.1.1
  have h6 := hx.2.1
  have h8 := h.2.2.1
  rw [hp] at h8
  obtain ⟨w1, b1⟩ := wordR_eq (w := w) (k := 1) hfu (by omega) h
  obtain ⟨w2, b2'⟩ := wordR_eq (w := w) (k := 2) hfu (by omega) h
  obtain ⟨w3, b3⟩ := wordR_eq (w := w) (k := 3) hfu (by omega) h
  rw [show 1000000 + 1 = 1000001 from rfl] at w1
  rw [show 1000000 + 2 = 1000002 from rfl] at w2
  rw [show 1000000 + 3 = 1000003 from rfl] at w3
  rw [hp] at w1 w2 w3 b1 b2' b3
  obtain ⟨m2, k1, k2, k3⟩ := must_yes (w := w) hfu h
  rw [hp] at k2
  have hP2 := hP.f k3
  have er : ∀ c : Int, -4 ≤ c ∧ c < 0 → ∃ m2, f_X11_fails fu 283 (iI c) (mem w m1) = some ((), mem w m2) ∧ Wr m2 c p ∧ fS m1 m2 := fun c hc => fails_yes h.1 h8 hc
  have e4 : m1 285 4 = nA x.1 := hP.1.2.1.2.2.2.2
  have e69 : m1 285 69 = x.2.length := hP.2.1.1
  have e0 : m2 285 0 = nN x.1 := hP2.1.2.1.1
  unfold f_X11_readsStatement pStmt
  simp (disch := omega) only [n_69, n_50, n_13, Option.bind_some, bd2_some, bdX_ok, bdX_er, nm_eq, n_0, n_1, n_2, n_3, n_4, n_5, n_6, n_7, n_8, n_9, n_10, n_11, n_12, n_14, n_15, n_16, n_17, n_18, n_19, n_20, n_21, n_24, n_27, n_28, n_32, n_43, n_45, n_48, n_56, n_57, n_59, n_64, n_70, n_97, n_99, n_100, n_104, n_118, n_122, n_126, n_127, n_128, n_129, n_130, n_150, n_255, n_600, n_1000, n_1050, n_1200, n_999999, n_1000000, iI_neg, iI_add, iI_sub, iI_mul, ile, ilt, ieq, Z_has, Z_1, w1, w2, w3]
  by_cases c1 : tw ltB t p = wordT 1
  · rw [show decide (tw ltB t p = wordT 1) = true from by simp [c1], show b2 true = 1 from rfl, if_neg (show ¬ iI 1 = iI 0 by decide), if_pos c1]
    rw [b1 c1] at k2
    simp (disch := omega) only [n_69, n_50, n_13, Option.bind_some, bd2_some, bdX_ok, bdX_er, nm_eq, n_0, n_1, n_2, n_3, n_4, n_5, n_6, n_7, n_8, n_9, n_10, n_11, n_12, n_14, n_15, n_16, n_17, n_18, n_19, n_20, n_21, n_24, n_27, n_28, n_32, n_43, n_45, n_48, n_56, n_57, n_59, n_64, n_70, n_97, n_99, n_100, n_104, n_118, n_122, n_126, n_127, n_128, n_129, n_130, n_150, n_255, n_600, n_1000, n_1050, n_1200, n_999999, n_1000000, iI_neg, iI_add, iI_sub, iI_mul, ile, ilt, ieq, Z_has, Z_1, k1]
    exact rsBud hfu k2 hP2 (hg.trans k3.g)
  · rw [show decide (tw ltB t p = wordT 1) = false from by simp [c1], show b2 false = 0 from rfl, if_pos (show iI 0 = iI 0 from rfl), if_neg c1]
    by_cases c2 : tw ltB t p = wordT 2
    · rw [show decide (tw ltB t p = wordT 2) = true from by simp [c2], show b2 true = 1 from rfl, if_neg (show ¬ iI 1 = iI 0 by decide), if_pos c2]
      rw [b2' c2] at k2
      unfold f_X11_readsArc
      simp (disch := omega) only [n_69, n_50, n_13, Option.bind_some, bd2_some, bdX_ok, bdX_er, nm_eq, n_0, n_1, n_2, n_3, n_4, n_5, n_6, n_7, n_8, n_9, n_10, n_11, n_12, n_14, n_15, n_16, n_17, n_18, n_19, n_20, n_21, n_24, n_27, n_28, n_32, n_43, n_45, n_48, n_56, n_57, n_59, n_64, n_70, n_97, n_99, n_100, n_104, n_118, n_122, n_126, n_127, n_128, n_129, n_130, n_150, n_255, n_600, n_1000, n_1050, n_1200, n_999999, n_1000000, iI_neg, iI_add, iI_sub, iI_mul, ile, ilt, ieq, Z_has, Z_1, Rw_g rw285, e4]
      by_cases c3 : 16 ≤ nA x.1
      · rw [if_pos (show nA x.1 = 16 by omega), if_pos c3]
        obtain ⟨m3, e1, e2, e3⟩ := er (-4) (by omega)
        have hc := e2.2.2.1
        unfold f_X11_readsArc_17
        simp (disch := omega) only [n_69, n_50, n_13, Option.bind_some, bd2_some, bdX_ok, bdX_er, nm_eq, n_0, n_1, n_2, n_3, n_4, n_5, n_6, n_7, n_8, n_9, n_10, n_11, n_12, n_14, n_15, n_16, n_17, n_18, n_19, n_20, n_21, n_24, n_27, n_28, n_32, n_43, n_45, n_48, n_56, n_57, n_59, n_64, n_70, n_97, n_99, n_100, n_104, n_118, n_122, n_126, n_127, n_128, n_129, n_130, n_150, n_255, n_600, n_1000, n_1050, n_1200, n_999999, n_1000000, iI_neg, iI_add, iI_sub, iI_mul, ile, ilt, ieq, Z_has, Z_1, e1, must_no e2 (b := 1) (Or.inr rfl), Rw_g rw285, takes_no e2, Z_12, e2.1]
        exact RR_er e2 (hg.trans e3.g)
      · rw [if_neg (show ¬ nA x.1 = 16 by omega), if_neg c3]
        unfold f_X11_readsArc_17
        simp (disch := omega) only [n_69, n_50, n_13, Option.bind_some, bd2_some, bdX_ok, bdX_er, nm_eq, n_0, n_1, n_2, n_3, n_4, n_5, n_6, n_7, n_8, n_9, n_10, n_11, n_12, n_14, n_15, n_16, n_17, n_18, n_19, n_20, n_21, n_24, n_27, n_28, n_32, n_43, n_45, n_48, n_56, n_57, n_59, n_64, n_70, n_97, n_99, n_100, n_104, n_118, n_122, n_126, n_127, n_128, n_129, n_130, n_150, n_255, n_600, n_1000, n_1050, n_1200, n_999999, n_1000000, iI_neg, iI_add, iI_sub, iI_mul, ile, ilt, ieq, Z_has, Z_1, k1, Rw_g rw285, e0]
        exact rsArc hfu k2 hP2 (by omega) (hg.trans k3.g) (fun _ M => f_X11_readsStatement_69 fu 283 M) (fun m2 => rfl)
    · rw [show decide (tw ltB t p = wordT 2) = false from by simp [c2], show b2 false = 0 from rfl, if_pos (show iI 0 = iI 0 from rfl), if_neg c2]
      by_cases c3 : tw ltB t p = wordT 3
      · rw [show decide (tw ltB t p = wordT 3) = true from by simp [c3], show b2 true = 1 from rfl, if_neg (show ¬ iI 1 = iI 0 by decide), if_pos c3]
        unfold f_X11_readsRoute
        simp (disch := omega) only [n_69, n_50, n_13, Option.bind_some, bd2_some, bdX_ok, bdX_er, nm_eq, n_0, n_1, n_2, n_3, n_4, n_5, n_6, n_7, n_8, n_9, n_10, n_11, n_12, n_14, n_15, n_16, n_17, n_18, n_19, n_20, n_21, n_24, n_27, n_28, n_32, n_43, n_45, n_48, n_56, n_57, n_59, n_64, n_70, n_97, n_99, n_100, n_104, n_118, n_122, n_126, n_127, n_128, n_129, n_130, n_150, n_255, n_600, n_1000, n_1050, n_1200, n_999999, n_1000000, iI_neg, iI_add, iI_sub, iI_mul, ile, ilt, ieq, Z_has, Z_1, Rw_g rw285, e69]
        by_cases c4 : 6 ≤ x.2.length
        · rw [if_pos (show (x.2.length : Int) = 6 by omega), if_pos c4]
          obtain ⟨m3, e1, e2, e3⟩ := er (-4) (by omega)
          have hc := e2.2.2.1
          have hc' := e2.2.1
          have e2' : Wr (up m3 285 118 0) (-4) p := e2.r (fun q hq => up_ne hq)
          unfold f_X11_readsRoute_18 f_X11_readsRoute_43
          simp (disch := omega) only [n_69, n_50, n_13, Option.bind_some, bd2_some, bdX_ok, bdX_er, nm_eq, n_0, n_1, n_2, n_3, n_4, n_5, n_6, n_7, n_8, n_9, n_10, n_11, n_12, n_14, n_15, n_16, n_17, n_18, n_19, n_20, n_21, n_24, n_27, n_28, n_32, n_43, n_45, n_48, n_56, n_57, n_59, n_64, n_70, n_97, n_99, n_100, n_104, n_118, n_122, n_126, n_127, n_128, n_129, n_130, n_150, n_255, n_600, n_1000, n_1050, n_1200, n_999999, n_1000000, iI_neg, iI_add, iI_sub, iI_mul, ile, ilt, ieq, Z_has, Z_1, e1, must_no e2 (b := 1) (Or.inr rfl), Rw_s rw285, Z_12, e2'.1]
          rw [if_neg (show ¬ (-4 : Int) = 0 by decide)]
          obtain ⟨fu, rfl⟩ : ∃ k, fu = k + 1 := ⟨fu - 1, by omega⟩
          rw [f_X11_readsRoute_44, f_X11_readsRoute_44b, if_pos (show iI 0 = 0 from rfl)]
          unfold f_X11_readsRoute_118
          rw [Z_has, Option.bind_some, semi_no e2', bd2_some, if_pos (show iI 0 = 0 from rfl)]
          unfold f_X11_readsRoute_147
          rw [Z_has, Option.bind_some, semi_no e2', bd2_some, if_pos (show iI 0 = 0 from rfl)]
          unfold f_X11_readsRoute_171
          rw [Z_has, Option.bind_some, semi_no e2', bd2_some, if_pos (show iI 0 = 0 from rfl), bd2_some]
          exact RR_er e2' ((hg.trans e3.g).trans (gS_r (fun q hq => up_ne hq)))
        · rw [if_neg (show ¬ (x.2.length : Int) = 6 by omega), if_neg c4]
          exact rsRoute hfu h hP hx (by omega) hg (by rw [hp]; exact b3 c3)
      · rw [show decide (tw ltB t p = wordT 3) = false from by simp [c3], show b2 false = 0 from rfl, if_pos (show iI 0 = iI 0 from rfl), if_neg c3]
        obtain ⟨m3, e1, e2, e3⟩ := er (-2) (by omega)
        simp (disch := omega) only [n_69, n_50, n_13, Option.bind_some, bd2_some, bdX_ok, bdX_er, nm_eq, n_0, n_1, n_2, n_3, n_4, n_5, n_6, n_7, n_8, n_9, n_10, n_11, n_12, n_14, n_15, n_16, n_17, n_18, n_19, n_20, n_21, n_24, n_27, n_28, n_32, n_43, n_45, n_48, n_56, n_57, n_59, n_64, n_70, n_97, n_99, n_100, n_104, n_118, n_122, n_126, n_127, n_128, n_129, n_130, n_150, n_255, n_600, n_1000, n_1050, n_1200, n_999999, n_1000000, iI_neg, iI_add, iI_sub, iI_mul, ile, ilt, ieq, Z_has, e1]
        exact RR_er e2 (hg.trans e3.g)
theorem rsAll_go (hfu : 1000 ≤ fu) {k128 : Nat → List Ob → Option (Int32 × List Ob)} : ∀ (f n p : Nat) (x : Ps) (m1 : Mm), TP m1 t p → run spB t p = p → PR m1 x [] → WGp x → t.length - p < f → t.length - p + 1 < n → gS m m1 → (∀ y, pAll t f x p = .ok y → ∃ m2, f_X11_load_106 fu k128 n 283 (mem w m1) = k128 283 (mem w m2) ∧ m2 283 12 = 0 ∧ PR m2 y [] ∧ gS m m2) ∧ (∀ c s, pAll t f x p = .error (c, s) → ∃ m2, f_X11_load_106 fu k128 n 283 (mem w m1) = k128 283 (mem w m2) ∧ Wr m2 c s ∧ gS m m2) := by
  intro f
  induction f with
  | zero => intro n p x m1 _ _ _ _ h; omega
  | succ f ih =>
    intro n p x m1 h hp hP hx hf hn hg
    have hT := h.2
    rw [hp] at hT
    have e10 := hT.2.2.2.1
    have hple := hT.2.2.2.2.2
    have kr : 0 ≤ kd t p ∧ kd t p ≤ 3 := by unfold kd; split; omega; split; omega; split <;> omega
    have hk3 : kd t p = 3 ↔ t.length ≤ p := by
      unfold kd
      constructor
      · intro q
        split at q
        · assumption
        · split at q
          · omega
          · split at q <;> omega
      · intro q; rw [if_pos q]
    obtain ⟨n, rfl⟩ : ∃ k, n = k + 1 := ⟨n - 1, by omega⟩
    rw [f_X11_load_106, f_X11_load_106b, pAll]
    simp (disch := omega) only [n_69, n_50, n_13, Option.bind_some, bd2_some, bdX_ok, bdX_er, nm_eq, n_0, n_1, n_2, n_3, n_4, n_5, n_6, n_7, n_8, n_9, n_10, n_11, n_12, n_14, n_15, n_16, n_17, n_18, n_19, n_20, n_21, n_24, n_27, n_28, n_32, n_43, n_45, n_48, n_56, n_57, n_59, n_64, n_70, n_97, n_99, n_100, n_104, n_118, n_122, n_126, n_127, n_128, n_129, n_130, n_150, n_255, n_600, n_1000, n_1050, n_1200, n_999999, n_1000000, iI_neg, iI_add, iI_sub, iI_mul, ile, ilt, ieq, Z_12, h.1, Z_10, e10, Z_has]
    by_cases c1 : t.length ≤ p
    · rw [if_pos c1, if_pos (show True from trivial), if_pos (hk3.mpr c1)]
      refine ⟨fun y e => ?_, fun c s e => (by cases e)⟩
      have e : x = y := by injection e
      subst e
      exact ⟨m1, rfl, h.1, hP, hg⟩
    · rw [if_neg c1, if_pos (show True from trivial), if_neg (fun q => c1 (hk3.mp q))]
      obtain ⟨s1, s2⟩ := rsStmt (w := w) (m := m) hfu h hp hP hx hg
      cases hr : pStmt t x p with
      | error e =>
        obtain ⟨c, s⟩ := e
        obtain ⟨m2, k1, k2, k3⟩ := s2 c s hr
        have hc := k2.2.2.1
        have hc' := k2.2.1
        rw [k1, bd2_some, eb_er]
        obtain ⟨n, rfl⟩ : ∃ k, n = k + 1 := ⟨n - 1, by omega⟩
        rw [f_X11_load_106, f_X11_load_106b]
        simp (disch := omega) only [n_69, n_50, n_13, Option.bind_some, bd2_some, bdX_ok, bdX_er, nm_eq, n_0, n_1, n_2, n_3, n_4, n_5, n_6, n_7, n_8, n_9, n_10, n_11, n_12, n_14, n_15, n_16, n_17, n_18, n_19, n_20, n_21, n_24, n_27, n_28, n_32, n_43, n_45, n_48, n_56, n_57, n_59, n_64, n_70, n_97, n_99, n_100, n_104, n_118, n_122, n_126, n_127, n_128, n_129, n_130, n_150, n_255, n_600, n_1000, n_1050, n_1200, n_999999, n_1000000, iI_neg, iI_add, iI_sub, iI_mul, ile, ilt, ieq, Z_12, k2.1]
        refine ⟨fun y e => (by cases e), fun c' s' e => ?_⟩
        have e : (c, s) = (c', s') := by injection e
        injection e with a b
        subst a; subst b
        refine ⟨m2, ?_, k2, k3⟩
        rw [if_neg (by omega)]
      | ok y0 =>
        obtain ⟨y0, q⟩ := y0
        obtain ⟨m2, k1, k2, k3, k4⟩ := s1 y0 q hr
        have hw2 := pStmt_ok hr hx
        have hrg : q ≤ run spB t q := run_ge
        have hT2 : TP m2 t (run spB t q) := ⟨k2.1, by rw [run_run]; exact k2.2⟩
        rw [k1, bd2_some, eb_ok]
        exact ih n (run spB t q) y0 m2 hT2 run_run k3 hw2.1 (by omega) (by omega) k4
theorem beg_go {k25 : Nat → Int32 → Int32 → Int32 → List Ob → Option (Unit × List Ob)} {a1 a2 a3 : Int32} : ∀ (d n : Nat) (m : Mm) (i : Int), i + d = 150 → 0 ≤ i → d < n → ∃ m', f_X11_begins_3 fu k25 n 283 a1 a2 a3 (iI i) (mem w m) = k25 283 a1 a2 a3 (mem w m') ∧ (∀ q, q ≠ 285 → m' q = m q) ∧ ∀ k, m' 285 k = if i ≤ k ∧ k < 150 then 0 else m 285 k := by
  intro d
  induction d with
  | zero =>
    intro n m i hi hi0 hn
    obtain ⟨n, rfl⟩ : ∃ k, n = k + 1 := ⟨n - 1, by omega⟩
    rw [f_X11_begins_3, f_X11_begins_3b]
    simp (disch := omega) only [n_69, n_50, n_13, Option.bind_some, bd2_some, bdX_ok, bdX_er, nm_eq, n_0, n_1, n_2, n_3, n_4, n_5, n_6, n_7, n_8, n_9, n_10, n_11, n_12, n_14, n_15, n_16, n_17, n_18, n_19, n_20, n_21, n_24, n_27, n_28, n_32, n_43, n_45, n_48, n_56, n_57, n_59, n_64, n_70, n_97, n_99, n_100, n_104, n_118, n_122, n_126, n_127, n_128, n_129, n_130, n_150, n_255, n_600, n_1000, n_1050, n_1200, n_999999, n_1000000, iI_neg, iI_add, iI_sub, iI_mul, ile, ilt, ieq]
    rw [if_pos (by omega)]
    exact ⟨m, rfl, fun _ _ => rfl, fun k => by rw [if_neg (by omega)]⟩
  | succ d ih =>
    intro n m i hi hi0 hn
    obtain ⟨n, rfl⟩ : ∃ k, n = k + 1 := ⟨n - 1, by omega⟩
    rw [f_X11_begins_3, f_X11_begins_3b]
    simp (disch := omega) only [n_69, n_50, n_13, Option.bind_some, bd2_some, bdX_ok, bdX_er, nm_eq, n_0, n_1, n_2, n_3, n_4, n_5, n_6, n_7, n_8, n_9, n_10, n_11, n_12, n_14, n_15, n_16, n_17, n_18, n_19, n_20, n_21, n_24, n_27, n_28, n_32, n_43, n_45, n_48, n_56, n_57, n_59, n_64, n_70, n_97, n_99, n_100, n_104, n_118, n_122, n_126, n_127, n_128, n_129, n_130, n_150, n_255, n_600, n_1000, n_1050, n_1200, n_999999, n_1000000, iI_neg, iI_add, iI_sub, iI_mul, ile, ilt, ieq, Z_1, Rw_s rw285]
    rw [if_neg (by omega)]
    obtain ⟨m', q1, q2, q3⟩ := ih n (up m 285 i 0) (i + 1) (by omega) (by omega) (by omega)
    refine ⟨m', q1, fun q hq => by rw [q2 q hq, up_ne hq], fun k => ?_⟩
    rw [q3 k]
    by_cases c : k = i
    · subst c; rw [if_neg (by omega), up_at, if_pos (by omega)]
    · rw [up_off c]
      by_cases c2 : i + 1 ≤ k ∧ k < 150
      · rw [if_pos c2, if_pos (by omega)]
      · rw [if_neg c2, if_neg (by omega)]
theorem begins_eq {n a b : Int} (hfu : 1000 ≤ fu) : ∃ m', f_X11_begins fu 283 (iI n) (iI a) (iI b) (mem w m) = some ((), mem w m') ∧ (∀ q, q ≠ 285 → m' q = m q) ∧ (WFN (begN n a b) → rRep (m' 285) (begN n a b, [], [], [])) := by
  obtain ⟨m1, p1, p2, p3⟩ := beg_go (w := w) (fu := fu) (k25 := fun x1 x2 x3 x4 M5 => f_X11_begins_25 fu x1 x2 x3 x4 M5) (a1 := iI n) (a2 := iI a) (a3 := iI b) 150 fu m 0 (by omega) (by omega) (by omega)
  obtain ⟨m3, r1, r2, r3, r4, r5, r6, r7⟩ := setsOut_eq (w := w) (m := up (up (up (up m1 285 0 n) 285 1 a) 285 2 b) 285 3 2) (fu := fu) rw285
  unfold f_X11_begins
  simp (disch := omega) only [n_69, n_50, n_13, Option.bind_some, bd2_some, bdX_ok, bdX_er, nm_eq, n_0, n_1, n_2, n_3, n_4, n_5, n_6, n_7, n_8, n_9, n_10, n_11, n_12, n_14, n_15, n_16, n_17, n_18, n_19, n_20, n_21, n_24, n_27, n_28, n_32, n_43, n_45, n_48, n_56, n_57, n_59, n_64, n_70, n_97, n_99, n_100, n_104, n_118, n_122, n_126, n_127, n_128, n_129, n_130, n_150, n_255, n_600, n_1000, n_1050, n_1200, n_999999, n_1000000, iI_neg, iI_add, iI_sub, iI_mul, ile, ilt, ieq]
  rw [p1]
  unfold f_X11_begins_25
  simp (disch := omega) only [n_69, n_50, n_13, Option.bind_some, bd2_some, bdX_ok, bdX_er, nm_eq, n_0, n_1, n_2, n_3, n_4, n_5, n_6, n_7, n_8, n_9, n_10, n_11, n_12, n_14, n_15, n_16, n_17, n_18, n_19, n_20, n_21, n_24, n_27, n_28, n_32, n_43, n_45, n_48, n_56, n_57, n_59, n_64, n_70, n_97, n_99, n_100, n_104, n_118, n_122, n_126, n_127, n_128, n_129, n_130, n_150, n_255, n_600, n_1000, n_1050, n_1200, n_999999, n_1000000, iI_neg, iI_add, iI_sub, iI_mul, ile, ilt, ieq, Z_1, Rw_s rw285, r1]
  have z0 : ∀ k, 4 ≤ k → k < 126 → m3 285 k = 0 := fun k k0 k1 => by rw [r3 k (by omega)]; simp (disch := omega) only [up_off]; rw [p3, if_pos (by omega)]
  have e0 : m3 285 0 = n := by rw [r3 0 (by omega)]; simp (disch := omega) only [up_off, up_at]
  have e1 : m3 285 1 = a := by rw [r3 1 (by omega)]; simp (disch := omega) only [up_off, up_at]
  have e2 : m3 285 2 = b := by rw [r3 2 (by omega)]; simp (disch := omega) only [up_off, up_at]
  have e3 : m3 285 3 = 2 := by rw [r3 3 (by omega), up_at]
  refine ⟨m3, rfl, fun q hq => by rw [r2 q hq, up_ne hq, up_ne hq, up_ne hq, up_ne hq, p2 q hq], fun hw => ?_⟩
  have hN : rNet (m3 285) (begN n a b) := ⟨hw, ⟨e0, e1, e2, e3, z0 4 (by omega) (by omega)⟩, fun k k0 k1 => by have : k < 0 := k1; omega⟩
  refine ⟨hN, ⟨z0 69 (by omega) (by omega), by simp [sR], fun i l hi => by simp [sR] at hi⟩, ⟨z0 118 (by omega) (by omega), by simp [sD], fun j a hj => by simp [sD] at hj⟩, ?_⟩
  refine rJrn_nil hN ?_ r5 ?_ r7
  · rw [r4, e1]; simp (disch := omega) only [up_off, up_at]
  · rw [r6, e3]; simp (disch := omega) only [up_at]
end RY
