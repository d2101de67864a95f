section RX
variable {w : Wl} {m m' m1 : Mm} {z v : Int} {fu p s : Nat} {t : List Int} {x : Ps} {l D : List Int}
/-- the row that is read -/
def PR (m : Mm) (x : Ps) (D : List Int) : Prop := rNet (m 285) x.1 ∧ rTolds (m 285) x.2 ∧ rPth (m 285) 118 D
theorem PR.fr (h : PR m x D) (e : ∀ k, 0 ≤ k → k < 126 → m' 285 k = m 285 k) : PR m' x D := ⟨h.1.cong (fun k a b => e k a (by omega)), h.2.1.cong (fun k a b => e k (by omega) (by omega)), h.2.2.cong (fun k a b => e k (by omega) (by omega))⟩
theorem PR.f (h : PR m x D) (g : fS m m') : PR m' x D := h.fr (fun k _ _ => by rw [g.1 285 (by decide)])
/-- what reading may change -/
def gS (m m' : Mm) : Prop := (∀ q, q ≠ 283 → q ≠ 285 → m' q = m q) ∧ ∀ k, (k < 8 ∨ 13 < k) → m' 283 k = m 283 k
theorem gS.trans {m'' : Mm} (h : gS m m') (g : gS m' m'') : gS m m'' := ⟨fun q a b => (g.1 q a b).trans (h.1 q a b), fun k a => (g.2 k a).trans (h.2 k a)⟩
theorem fS.g (h : fS m m') : gS m m' := ⟨fun q a _ => h.1 q a, h.2⟩
theorem gS.rf : gS m m := ⟨fun _ _ _ => rfl, fun _ _ => rfl⟩
theorem gS_r (h : ∀ q, q ≠ 285 → m' q = m q) : gS m m' := ⟨fun q _ b => h q b, fun k _ => by rw [h 283 (by decide)]⟩
theorem TK.r (h : TK m t s) (e : ∀ q, q ≠ 285 → m' q = m q) : TK m' t s := by
  obtain ⟨t1, t2, t3, t4, t5, t6⟩ := h
  exact ⟨t1.fr (by rw [e 283 (by decide)]) (e 287 (by decide)), by rw [e 283 (by decide)]; exact t2, by rw [e 283 (by decide)]; exact t3, by rw [e 283 (by decide)]; exact t4, fun q => by rw [e 283 (by decide)]; exact t5 q, t6⟩
theorem TP.r (h : TP m t p) (e : ∀ q, q ≠ 285 → m' q = m q) : TP m' t p := ⟨by rw [e 283 (by decide)]; exact h.1, h.2.r e⟩
theorem Wr.r {c : Int} (h : Wr m c s) (e : ∀ q, q ≠ 285 → m' q = m q) : Wr m' c s := ⟨by rw [e 283 (by decide)]; exact h.1, h.2.1, h.2.2.1, by rw [e 283 (by decide)]; exact h.2.2.2⟩
def RR (w : Wl) (m : Mm) (o : Option (Unit × List Ob)) (t : List Int) (r : Except Er (Ps × Nat)) : Prop := (∀ y q, r = .ok (y, q) → ∃ m', o = some ((), mem w m') ∧ TP m' t q ∧ PR m' y [] ∧ gS m m') ∧ (∀ c s, r = .error (c, s) → ∃ m', o = some ((), mem w m') ∧ Wr m' c s ∧ gS m m')
/-- behind each statement -/
theorem st69_no {c : Int} (h : Wr m c s) : f_X11_readsStatement_69 fu 283 (mem w m) = some ((), mem w m) := by
  unfold f_X11_readsStatement_69
  simp (disch := omega) only [n_69, n_50, n_13, Option.bind_some, bd2_some, bdX_ok, bdX_er, nm_eq, n_0, n_1, n_2, n_3, n_4, n_5, n_6, n_7, n_8, n_9, n_10, n_11, n_12, n_14, n_15, n_16, n_17, n_18, n_19, n_20, n_21, n_24, n_27, n_28, n_32, n_43, n_45, n_48, n_56, n_57, n_59, n_64, n_70, n_97, n_99, n_100, n_104, n_118, n_122, n_126, n_127, n_128, n_129, n_130, n_150, n_255, n_600, n_1000, n_1050, n_1200, n_999999, n_1000000, iI_neg, iI_add, iI_sub, iI_mul, ile, ilt, ieq, Z_has, semi_no h, must_no h (b := 0) (Or.inl rfl)]
theorem semiMust (hfu : 1000 ≤ fu) (h : TP m t p) : (∀ q, rsemi t p = .ok q → ∃ m', f_X11_isSemicolon fu 283 (mem w m) = some (iI 1, mem w m) ∧ f_X11_must fu 283 (iI 1) (mem w m) = some ((), mem w m') ∧ TP m' t q ∧ fS m m') ∧ (∀ c s, rsemi t p = .error (c, s) → ∃ m', f_X11_isSemicolon fu 283 (mem w m) = some (iI 0, mem w m) ∧ f_X11_must fu 283 (iI 0) (mem w m) = some ((), mem w m') ∧ Wr m' c s ∧ fS m m') := by
  obtain ⟨s1, s2⟩ := semi_eq (w := w) (fu := fu) h
  unfold rsemi
  cases ha : atB smB t (run spB t p) with
  | true =>
    rw [ha, show b2 true = 1 from rfl] at s1
    obtain ⟨m', q1, q2, q3⟩ := must_yes (w := w) hfu h
    rw [s2 ha] at q2
    rw [if_pos rfl]
    refine ⟨fun q e => ?_, fun c s e => (by cases e)⟩
    have e : run spB t p + 1 = q := by injection e
    subst e
    exact ⟨m', s1, q1, q2, q3⟩
  | false =>
    rw [ha, show b2 false = 0 from rfl] at s1
    obtain ⟨m', q1, q2, q3⟩ := must_fail (w := w) (fu := fu) h
    rw [if_neg (by decide)]
    refine ⟨fun q e => (by cases e), fun c s e => ?_⟩
    have e : ((-2 : Int), run spB t p) = (c, s) := by injection e
    injection e with a b
    subst a; subst b
    exact ⟨m', s1, q1, q2, q3⟩
theorem st69_yes (hfu : 1000 ≤ fu) (h : TP m1 t p) (hP : PR m1 x []) (hg : gS m m1) : RR w m (f_X11_readsStatement_69 fu 283 (mem w m1)) t (eb (rsemi t p) fun q => .ok (x, q)) := by
  obtain ⟨h1, h2⟩ := semiMust (w := w) hfu h
  unfold f_X11_readsStatement_69
  cases hr : rsemi t p with
  | error e =>
    obtain ⟨c, s⟩ := e
    obtain ⟨m', k1, k2, k3, k4⟩ := h2 c s hr
    simp (disch := omega) only [n_69, n_50, n_13, Option.bind_some, bd2_some, bdX_ok, bdX_er, nm_eq, n_0, n_1, n_2, n_3, n_4, n_5, n_6, n_7, n_8, n_9, n_10, n_11, n_12, n_14, n_15, n_16, n_17, n_18, n_19, n_20, n_21, n_24, n_27, n_28, n_32, n_43, n_45, n_48, n_56, n_57, n_59, n_64, n_70, n_97, n_99, n_100, n_104, n_118, n_122, n_126, n_127, n_128, n_129, n_130, n_150, n_255, n_600, n_1000, n_1050, n_1200, n_999999, n_1000000, iI_neg, iI_add, iI_sub, iI_mul, ile, ilt, ieq, Z_has, k1, k2]
    rw [eb_er]
    refine ⟨fun y q e => (by cases e), fun c' s' e => ?_⟩
    have e : (c, s) = (c', s') := by injection e
    injection e with a b
    subst a; subst b
    exact ⟨m', rfl, k3, hg.trans k4.g⟩
  | ok q =>
    obtain ⟨m', k1, k2, k3, k4⟩ := h1 q hr
    simp (disch := omega) only [n_69, n_50, n_13, Option.bind_some, bd2_some, bdX_ok, bdX_er, nm_eq, n_0, n_1, n_2, n_3, n_4, n_5, n_6, n_7, n_8, n_9, n_10, n_11, n_12, n_14, n_15, n_16, n_17, n_18, n_19, n_20, n_21, n_24, n_27, n_28, n_32, n_43, n_45, n_48, n_56, n_57, n_59, n_64, n_70, n_97, n_99, n_100, n_104, n_118, n_122, n_126, n_127, n_128, n_129, n_130, n_150, n_255, n_600, n_1000, n_1050, n_1200, n_999999, n_1000000, iI_neg, iI_add, iI_sub, iI_mul, ile, ilt, ieq, Z_has, k1, k2]
    rw [eb_ok]
    refine ⟨fun y q' e => ?_, fun c s e => (by cases e)⟩
    have e : (x, q) = (y, q') := by injection e
    injection e with a b
    subst a; subst b
    exact ⟨m', rfl, k3, hP.f k4, hg.trans k4.g⟩
theorem RR_er {c : Int} (h : Wr m1 c s) (hg : gS m m1) : RR w m (f_X11_readsStatement_69 fu 283 (mem w m1)) t (.error (c, s)) := by
  refine ⟨fun y q e => (by cases e), fun c' s' e => ?_⟩
  have e : (c, s) = (c', s') := by injection e
  injection e with a b
  subst a; subst b
  exact ⟨m1, st69_no h, h, hg⟩
/-- budget -/
theorem rsBud (hfu : 1000 ≤ fu) (h : TP m1 t p) (hP : PR m1 x []) (hg : gS m m1) : RR w m (bd2 (f_X11_takes fu 283 (iI 0) (iI 6) (iI (-1)) (mem w m1)) fun v31 M32 => (aSet M32 285 13 (iI 3) (.int v31)).bind fun M36 => f_X11_readsStatement_69 fu 283 M36) t (pBud t x p) := by
  obtain ⟨h1, h2⟩ := takes_eq (w := w) (lo := 0) (hi := 6) (un := -1) hfu h (by omega) (by omega) (by omega)
  unfold pBud
  cases hr : rnum t p 0 6 (-1) with
  | error e =>
    obtain ⟨c, s⟩ := e
    obtain ⟨m', k1, k2, k3⟩ := h2 c s hr
    simp (disch := omega) only [n_69, n_50, n_13, Option.bind_some, bd2_some, bdX_ok, bdX_er, nm_eq, n_0, n_1, n_2, n_3, n_4, n_5, n_6, n_7, n_8, n_9, n_10, n_11, n_12, n_14, n_15, n_16, n_17, n_18, n_19, n_20, n_21, n_24, n_27, n_28, n_32, n_43, n_45, n_48, n_56, n_57, n_59, n_64, n_70, n_97, n_99, n_100, n_104, n_118, n_122, n_126, n_127, n_128, n_129, n_130, n_150, n_255, n_600, n_1000, n_1050, n_1200, n_999999, n_1000000, iI_neg, iI_add, iI_sub, iI_mul, ile, ilt, ieq, k1, Rw_s rw285]
    rw [eb_er]
    exact RR_er (k2.r (fun q hq => up_ne hq)) ((hg.trans k3.g).trans (gS_r (fun q hq => up_ne hq)))
  | ok y =>
    obtain ⟨v, q⟩ := y
    have hv := rnum_ok hr
    obtain ⟨m', k1, k2, k3⟩ := h1 v q hr
    simp (disch := omega) only [n_69, n_50, n_13, Option.bind_some, bd2_some, bdX_ok, bdX_er, nm_eq, n_0, n_1, n_2, n_3, n_4, n_5, n_6, n_7, n_8, n_9, n_10, n_11, n_12, n_14, n_15, n_16, n_17, n_18, n_19, n_20, n_21, n_24, n_27, n_28, n_32, n_43, n_45, n_48, n_56, n_57, n_59, n_64, n_70, n_97, n_99, n_100, n_104, n_118, n_122, n_126, n_127, n_128, n_129, n_130, n_150, n_255, n_600, n_1000, n_1050, n_1200, n_999999, n_1000000, iI_neg, iI_add, iI_sub, iI_mul, ile, ilt, ieq, k1, Rw_s rw285]
    rw [eb_ok]
    have hP1 := hP.f k3
    refine st69_yes hfu (k2.r (fun q hq => up_ne hq)) (x := (budN x.1 v, x.2)) ⟨?_, hP1.2.1.cong (fun k a b => up_off (by omega)), hP1.2.2.cong (fun k a b => up_off (by omega))⟩ ((hg.trans k3.g).trans (gS_r (fun q hq => up_ne hq)))
    obtain ⟨g0, ⟨g1, g2, g3, g4, g5⟩, g6⟩ := hP1.1
    refine ⟨budN_wf g0 ⟨hv.1, hv.2.1⟩, ⟨?_, ?_, ?_, ?_, ?_⟩, fun k k0 k1 => ?_⟩
    · rw [up_off (by omega)]; exact g1
    · rw [up_off (by omega)]; exact g2
    · rw [up_off (by omega)]; exact g3
    · rw [up_at]; rfl
    · rw [up_off (by omega)]; exact g5
    · simp (disch := omega) only [up_off]; exact g6 k k0 k1
/-- arc -/
theorem rsArc (hfu : 1000 ≤ fu) (h : TP m1 t p) (hP : PR m1 x []) (hA : nA x.1 < 16) (hg : gS m m1) (K : Unit → List Ob → Option (Unit × List Ob)) (hK : ∀ m2, K () (mem w m2) = f_X11_readsStatement_69 fu 283 (mem w m2)) : RR w m (bd2 (bd2 (f_X11_takes fu 283 (iI 0) (iI (nN x.1 - 1)) (iI (-1)) (mem w m1)) fun v9 M10 => (gP M10 283 11 1).bind fun r13 => (aI M10 r13 13 (iI 0)).bind fun v16 => (hasO M10 283 11).bind fun _ => bd2 (f_X11_takes fu 283 (iI 0) (v16 - iI 1) v9 M10) fun v17 M18 => (hasO M18 283 11).bind fun _ => bd2 (f_X11_takes fu 283 (iI 0) (iI 99) (iI (-1)) M18) fun v21 M22 => (hasO M22 283 11).bind fun _ => bd2 (f_X11_takes fu 283 (iI 0) (iI 99) (iI (-1)) M22) fun v25 M26 => (gI M26 283 11 12).bind fun v29 => if v29 = iI 0 then (gP M26 283 11 1).bind fun r31 => bd2 (f_X11_addsArc fu r31 v9 v17 v21 v25 M26) fun _ M34 => some ((), M34) else some ((), M26)) K) t (pArc t x p) := by
  have hW := hP.1.1.1
  have hN1 := hP.1.2.1.1
  obtain ⟨a1, a2⟩ := takes_eq (w := w) (lo := 0) (hi := nN x.1 - 1) (un := -1) hfu h (by omega) (by omega) (by omega)
  unfold pArc
  -- once wrong, nothing more happens
  have er1 : ∀ (c : Int) (s : Nat) (m2 : Mm), Wr m2 c s → c ≠ 0 := fun c s m2 hw => by have := hw.2.2.1; omega
  cases hr1 : rnum t p 0 (nN x.1 - 1) (-1) with
  | error e =>
    obtain ⟨c, s⟩ := e
    obtain ⟨m2, k1, k2, k3⟩ := a2 c s hr1
    have hc := k2.2.2.1
    have hc' := k2.2.1
    simp (disch := omega) only [n_69, n_50, n_13, Option.bind_some, bd2_some, bdX_ok, bdX_er, nm_eq, n_0, n_1, n_2, n_3, n_4, n_5, n_6, n_7, n_8, n_9, n_10, n_11, n_12, n_14, n_15, n_16, n_17, n_18, n_19, n_20, n_21, n_24, n_27, n_28, n_32, n_43, n_45, n_48, n_56, n_57, n_59, n_64, n_70, n_97, n_99, n_100, n_104, n_118, n_122, n_126, n_127, n_128, n_129, n_130, n_150, n_255, n_600, n_1000, n_1050, n_1200, n_999999, n_1000000, iI_neg, iI_add, iI_sub, iI_mul, ile, ilt, ieq, k1, Z_has, Z_1, Rw_g rw285, takes_no k2, Z_12, k2.1]
    rw [if_neg (show ¬ c = 0 by omega), bd2_some, hK, eb_er]
    exact RR_er k2 (hg.trans k3.g)
  | ok y =>
    obtain ⟨v1, q1⟩ := y
    have hv1 := rnum_ok hr1
    obtain ⟨m2, k1, k2, k3⟩ := a1 v1 q1 hr1
    have hP2 := hP.f k3
    have e0 : m2 285 0 = nN x.1 := hP2.1.2.1.1
    obtain ⟨b1, b2'⟩ := takes_eq (w := w) (lo := 0) (hi := nN x.1 - 1) (un := v1) hfu k2 (by omega) (by omega) (by omega)
    simp (disch := omega) only [n_69, n_50, n_13, Option.bind_some, bd2_some, bdX_ok, bdX_er, nm_eq, n_0, n_1, n_2, n_3, n_4, n_5, n_6, n_7, n_8, n_9, n_10, n_11, n_12, n_14, n_15, n_16, n_17, n_18, n_19, n_20, n_21, n_24, n_27, n_28, n_32, n_43, n_45, n_48, n_56, n_57, n_59, n_64, n_70, n_97, n_99, n_100, n_104, n_118, n_122, n_126, n_127, n_128, n_129, n_130, n_150, n_255, n_600, n_1000, n_1050, n_1200, n_999999, n_1000000, iI_neg, iI_add, iI_sub, iI_mul, ile, ilt, ieq, k1, Z_has, Z_1, Rw_g rw285, e0]
    rw [eb_ok]
    cases hr2 : rnum t q1 0 (nN x.1 - 1) v1 with
    | error e =>
      obtain ⟨c, s⟩ := e
      obtain ⟨m3, j1, j2, j3⟩ := b2' c s hr2
      have hc := j2.2.2.1
      have hc' := j2.2.1
      simp (disch := omega) only [n_69, n_50, n_13, Option.bind_some, bd2_some, bdX_ok, bdX_er, nm_eq, n_0, n_1, n_2, n_3, n_4, n_5, n_6, n_7, n_8, n_9, n_10, n_11, n_12, n_14, n_15, n_16, n_17, n_18, n_19, n_20, n_21, n_24, n_27, n_28, n_32, n_43, n_45, n_48, n_56, n_57, n_59, n_64, n_70, n_97, n_99, n_100, n_104, n_118, n_122, n_126, n_127, n_128, n_129, n_130, n_150, n_255, n_600, n_1000, n_1050, n_1200, n_999999, n_1000000, iI_neg, iI_add, iI_sub, iI_mul, ile, ilt, ieq, j1, Z_has, Z_1, takes_no j2, Z_12, j2.1]
      rw [if_neg (show ¬ c = 0 by omega), bd2_some, hK]
      simp only [hr2, eb_er]
      exact RR_er j2 ((hg.trans k3.g).trans j3.g)
    | ok y =>
      obtain ⟨v2, q2⟩ := y
      have hv2 := rnum_ok hr2
      obtain ⟨m3, j1, j2, j3⟩ := b1 v2 q2 hr2
      obtain ⟨c1, c2⟩ := takes_eq (w := w) (lo := 0) (hi := 99) (un := -1) hfu j2 (by omega) (by omega) (by omega)
      simp (disch := omega) only [n_69, n_50, n_13, Option.bind_some, bd2_some, bdX_ok, bdX_er, nm_eq, n_0, n_1, n_2, n_3, n_4, n_5, n_6, n_7, n_8, n_9, n_10, n_11, n_12, n_14, n_15, n_16, n_17, n_18, n_19, n_20, n_21, n_24, n_27, n_28, n_32, n_43, n_45, n_48, n_56, n_57, n_59, n_64, n_70, n_97, n_99, n_100, n_104, n_118, n_122, n_126, n_127, n_128, n_129, n_130, n_150, n_255, n_600, n_1000, n_1050, n_1200, n_999999, n_1000000, iI_neg, iI_add, iI_sub, iI_mul, ile, ilt, ieq, j1, Z_has]
      simp only [hr2, eb_ok]
      cases hr3 : rnum t q2 0 99 (-1) with
      | error e =>
        obtain ⟨c, s⟩ := e
        obtain ⟨m4, i1, i2, i3⟩ := c2 c s hr3
        have hc := i2.2.2.1
        have hc' := i2.2.1
        simp (disch := omega) only [n_69, n_50, n_13, Option.bind_some, bd2_some, bdX_ok, bdX_er, nm_eq, n_0, n_1, n_2, n_3, n_4, n_5, n_6, n_7, n_8, n_9, n_10, n_11, n_12, n_14, n_15, n_16, n_17, n_18, n_19, n_20, n_21, n_24, n_27, n_28, n_32, n_43, n_45, n_48, n_56, n_57, n_59, n_64, n_70, n_97, n_99, n_100, n_104, n_118, n_122, n_126, n_127, n_128, n_129, n_130, n_150, n_255, n_600, n_1000, n_1050, n_1200, n_999999, n_1000000, iI_neg, iI_add, iI_sub, iI_mul, ile, ilt, ieq, i1, Z_has, Z_1, takes_no i2, Z_12, i2.1]
        rw [if_neg (show ¬ c = 0 by omega), bd2_some, hK]
        simp only [eb_er]
        exact RR_er i2 (((hg.trans k3.g).trans j3.g).trans i3.g)
      | ok y =>
        obtain ⟨v3, q3⟩ := y
        have hv3 := rnum_ok hr3
        obtain ⟨m4, i1, i2, i3⟩ := c1 v3 q3 hr3
        obtain ⟨d1, d2⟩ := takes_eq (w := w) (lo := 0) (hi := 99) (un := -1) hfu i2 (by omega) (by omega) (by omega)
        simp (disch := omega) only [n_69, n_50, n_13, Option.bind_some, bd2_some, bdX_ok, bdX_er, nm_eq, n_0, n_1, n_2, n_3, n_4, n_5, n_6, n_7, n_8, n_9, n_10, n_11, n_12, n_14, n_15, n_16, n_17, n_18, n_19, n_20, n_21, n_24, n_27, n_28, n_32, n_43, n_45, n_48, n_56, n_57, n_59, n_64, n_70, n_97, n_99, n_100, n_104, n_118, n_122, n_126, n_127, n_128, n_129, n_130, n_150, n_255, n_600, n_1000, n_1050, n_1200, n_999999, n_1000000, iI_neg, iI_add, iI_sub, iI_mul, ile, ilt, ieq, i1, Z_has]
        simp only [eb_ok]
        cases hr4 : rnum t q3 0 99 (-1) with
        | error e =>
          obtain ⟨c, s⟩ := e
          obtain ⟨m5, g1, g2, g3⟩ := d2 c s hr4
          have hc := g2.2.2.1
          have hc' := g2.2.1
          simp (disch := omega) only [n_69, n_50, n_13, Option.bind_some, bd2_some, bdX_ok, bdX_er, nm_eq, n_0, n_1, n_2, n_3, n_4, n_5, n_6, n_7, n_8, n_9, n_10, n_11, n_12, n_14, n_15, n_16, n_17, n_18, n_19, n_20, n_21, n_24, n_27, n_28, n_32, n_43, n_45, n_48, n_56, n_57, n_59, n_64, n_70, n_97, n_99, n_100, n_104, n_118, n_122, n_126, n_127, n_128, n_129, n_130, n_150, n_255, n_600, n_1000, n_1050, n_1200, n_999999, n_1000000, iI_neg, iI_add, iI_sub, iI_mul, ile, ilt, ieq, g1, Z_1, Z_12, g2.1]
          rw [if_neg (show ¬ c = 0 by omega), bd2_some, hK]
          simp only [eb_er]
          exact RR_er g2 ((((hg.trans k3.g).trans j3.g).trans i3.g).trans g3.g)
        | ok y =>
          obtain ⟨v4, q4⟩ := y
          have hv4 := rnum_ok hr4
          obtain ⟨m5, g1, g2, g3⟩ := d1 v4 q4 hr4
          have hP5 := ((hP2.f j3).f i3).f g3
          obtain ⟨m6, n1, n2, n3, n4, n5, n6⟩ := addsArc_eq (w := w) (fu := fu) rw285 hP5.1 hA (t := v1) (h := v2) (c := v3) (e := v4) (by omega) (by omega) (fun e => hv2.2.2.1 e.symm) (by omega) (by omega)
          simp (disch := omega) only [n_69, n_50, n_13, Option.bind_some, bd2_some, bdX_ok, bdX_er, nm_eq, n_0, n_1, n_2, n_3, n_4, n_5, n_6, n_7, n_8, n_9, n_10, n_11, n_12, n_14, n_15, n_16, n_17, n_18, n_19, n_20, n_21, n_24, n_27, n_28, n_32, n_43, n_45, n_48, n_56, n_57, n_59, n_64, n_70, n_97, n_99, n_100, n_104, n_118, n_122, n_126, n_127, n_128, n_129, n_130, n_150, n_255, n_600, n_1000, n_1050, n_1200, n_999999, n_1000000, iI_neg, iI_add, iI_sub, iI_mul, ile, ilt, ieq, g1, Z_1, Z_12, g2.1, n1]
          simp only [eb_ok]
          rw [if_pos (by first | exact trivial | omega | decide), bd2_some, hK]
          exact st69_yes hfu (g2.r n2) ⟨n6, hP5.2.1.cong (fun k a b => n3 k (by omega)), hP5.2.2.cong (fun k a b => n3 k (by omega))⟩ (((((hg.trans k3.g).trans j3.g).trans i3.g).trans g3.g).trans (gS_r n2))
/-- route: the loop -/
theorem rsRt (hfu : 1000 ≤ fu) {k118 : Nat → List Ob → Option (Unit × List Ob)} : ∀ (f n p : Nat) (l : List Int) (m1 : Mm), TP m1 t p → run spB t p = p → PR m1 x l → pOK x.1 l → f + l.length = 8 → f < n → (∀ l' q, pRt t x.1 f l p = .ok (l', q) → ∃ m2, f_X11_readsRoute_44 fu k118 n 283 (iI 1) (mem w m1) = k118 283 (mem w m2) ∧ TP m2 t q ∧ run spB t q = q ∧ PR m2 x l' ∧ gS m1 m2) ∧ (∀ c s, pRt t x.1 f l p = .error (c, s) → ∃ m2, f_X11_readsRoute_44 fu k118 n 283 (iI 1) (mem w m1) = some ((), mem w m2) ∧ Wr m2 c s ∧ gS m1 m2) := by
  intro f
  induction f with
  | zero =>
    intro n p l m1 h hp hP hl hf hn
    have := pOK_len hP.1.1 hl
    omega
  | succ f ih =>
    intro n p l m1 h hp hP hl hf hn
    have hN := hP.1
    have hW := hN.1
    have hw := hN.1.1
    have h7 := pOK_len hW hl
    obtain ⟨a1, a2⟩ := takes_eq (w := w) (lo := 0) (hi := 16) (un := -1) hfu h (by omega) (by omega) (by omega)
    have hrn : rnum t p 0 16 (-1) = if atB dgB t p = true then (if nvR t p < 0 ∨ 16 < nvR t p ∨ nvR t p = -1 then .error (-3, p) else .ok (nvR t p, run dgB t p)) else .error (-2, p) := by unfold rnum; rw [hp]
    have hnr := nv_rel (t := t) (p := p)
    have hTK := h.2
    rw [hp] at hTK
    obtain ⟨t1, t2, t3, t4, t5, t6⟩ := id hTK
    have hkd : kd t p = 1 ↔ atB dgB t p = true := by
      unfold kd
      constructor
      · intro q
        split at q
        · omega
        · split at q
          · omega
          · split at q
            · assumption
            · omega
      · intro q
        obtain ⟨c, e1, e2, hl9⟩ := at_some q
        have n1 : ¬ atB ltB t p = true := fun z => by
          obtain ⟨c', e3, e4, -⟩ := at_some z
          rw [e1] at e3
          cases e3
          unfold dgB at e2
          unfold ltB at e4
          simp at e2 e4
          omega
        rw [if_neg (by omega), if_neg n1, if_pos q]
    have kr : 0 ≤ kd t p ∧ kd t p ≤ 3 := by unfold kd; split; omega; split; omega; split <;> omega
    obtain ⟨n, rfl⟩ : ∃ k, n = k + 1 := ⟨n - 1, by omega⟩
    rw [f_X11_readsRoute_44, f_X11_readsRoute_44b, pRt]
    rw [if_neg (show ¬ (iI 1 = 0) by decide)]
    simp (disch := omega) only [n_69, n_50, n_13, Option.bind_some, bd2_some, bdX_ok, bdX_er, nm_eq, n_0, n_1, n_2, n_3, n_4, n_5, n_6, n_7, n_8, n_9, n_10, n_11, n_12, n_14, n_15, n_16, n_17, n_18, n_19, n_20, n_21, n_24, n_27, n_28, n_32, n_43, n_45, n_48, n_56, n_57, n_59, n_64, n_70, n_97, n_99, n_100, n_104, n_118, n_122, n_126, n_127, n_128, n_129, n_130, n_150, n_255, n_600, n_1000, n_1050, n_1200, n_999999, n_1000000, iI_neg, iI_add, iI_sub, iI_mul, ile, ilt, ieq, Z_10, t4]
    cases ha : atB dgB t p with
    | false =>
      rw [ha, if_neg (show ¬ (false = true) by decide)] at hrn
      have hk1 : ¬ kd t p = 1 := fun q => by rw [hkd.mp q] at ha; cases ha
      obtain ⟨m2, k1, k2, k3⟩ := a2 _ _ hrn
      rw [if_neg (show ¬ (false = true) by decide), if_neg hk1]
      unfold f_X11_readsRoute_76
      simp (disch := omega) only [n_69, n_50, n_13, Option.bind_some, bd2_some, bdX_ok, bdX_er, nm_eq, n_0, n_1, n_2, n_3, n_4, n_5, n_6, n_7, n_8, n_9, n_10, n_11, n_12, n_14, n_15, n_16, n_17, n_18, n_19, n_20, n_21, n_24, n_27, n_28, n_32, n_43, n_45, n_48, n_56, n_57, n_59, n_64, n_70, n_97, n_99, n_100, n_104, n_118, n_122, n_126, n_127, n_128, n_129, n_130, n_150, n_255, n_600, n_1000, n_1050, n_1200, n_999999, n_1000000, iI_neg, iI_add, iI_sub, iI_mul, ile, ilt, ieq, Z_has, k1, Z_12, k2.1]
      refine ⟨fun l' q e => (by cases e), fun c s e => ?_⟩
      have e : ((-2 : Int), p) = (c, s) := by injection e
      injection e with a b
      subst a; subst b
      exact ⟨m2, rfl, k2, k3.g⟩
    | true =>
      rw [ha, if_pos (show (true = true) from rfl)] at hrn
      have hk1 : kd t p = 1 := hkd.mpr ha
      have e11 := t5 hk1
      rw [if_pos (show (true = true) from rfl), if_pos hk1]
      simp (disch := omega) only [n_69, n_50, n_13, Option.bind_some, bd2_some, bdX_ok, bdX_er, nm_eq, n_0, n_1, n_2, n_3, n_4, n_5, n_6, n_7, n_8, n_9, n_10, n_11, n_12, n_14, n_15, n_16, n_17, n_18, n_19, n_20, n_21, n_24, n_27, n_28, n_32, n_43, n_45, n_48, n_56, n_57, n_59, n_64, n_70, n_97, n_99, n_100, n_104, n_118, n_122, n_126, n_127, n_128, n_129, n_130, n_150, n_255, n_600, n_1000, n_1050, n_1200, n_999999, n_1000000, iI_neg, iI_add, iI_sub, iI_mul, ile, ilt, ieq, Z_1, Z_11, e11, canGoR_eq (w := w) (fu := fu) (show 100 ≤ fu by omega) rw285 hN hP.2.2 (pOK_AOK hl) (show i32 (nvR t p) by unfold i32; omega)]
      cases hc : canG x.1 l (nvR t p) with
      | false =>
        rw [show b2 false = 0 from rfl, if_neg (show ¬ (false = true) by decide), if_pos (show iI 0 = iI 0 from rfl)]
        obtain ⟨m2, k1, k2, k3⟩ := fails_yes (w := w) (fu := fu) (c := -3) h.1 t2 (by omega)
        unfold f_X11_readsRoute_76
        simp (disch := omega) only [n_69, n_50, n_13, Option.bind_some, bd2_some, bdX_ok, bdX_er, nm_eq, n_0, n_1, n_2, n_3, n_4, n_5, n_6, n_7, n_8, n_9, n_10, n_11, n_12, n_14, n_15, n_16, n_17, n_18, n_19, n_20, n_21, n_24, n_27, n_28, n_32, n_43, n_45, n_48, n_56, n_57, n_59, n_64, n_70, n_97, n_99, n_100, n_104, n_118, n_122, n_126, n_127, n_128, n_129, n_130, n_150, n_255, n_600, n_1000, n_1050, n_1200, n_999999, n_1000000, iI_neg, iI_add, iI_sub, iI_mul, ile, ilt, ieq, Z_has, k1, takes_no k2, Z_12, k2.1]
        refine ⟨fun l' q e => (by cases e), fun c s e => ?_⟩
        have e : ((-3 : Int), p) = (c, s) := by injection e
        injection e with a b
        subst a; subst b
        exact ⟨m2, rfl, k2, k3.g⟩
      | true =>
        have hc' : (0 ≤ nvR t p ∧ nvR t p < nA x.1) ∧ canFol x.1 l (nvR t p) = true := by
          unfold canG at hc
          split at hc
          · rename_i q; exact ⟨q, hc⟩
          · cases hc
        rw [show b2 true = 1 from rfl, if_pos (show (true = true) from rfl), if_neg (show ¬ iI 1 = iI 0 by decide)]
        rw [if_neg (show ¬ (nvR t p < 0 ∨ 16 < nvR t p ∨ nvR t p = -1) by omega)] at hrn
        obtain ⟨m2, k1, k2, k3⟩ := a1 _ _ hrn
        have hP2 := hP.f k3
        have h6 := pOK_len6 hW hl hc'.1.1 hc'.1.2 hc'.2
        obtain ⟨m3, j1, j2, j3, j4⟩ := appendsTo_eq (w := w) (fu := fu) (a := nvR t p) rw285 hP2.2.2 (by omega)
        have hl2 := pOK_snoc hl hc'.1.1 hc'.1.2 hc'.2
        have hP3 : PR m3 x (l ++ [nvR t p]) := ⟨hP2.1.cong (fun k _ b => j3 k (by omega)), hP2.2.1.cong (fun k a b => j3 k (by omega)), j4⟩
        have hT3 : TP m3 t (run dgB t p) := k2.r j2
        have hg3 : gS m1 m3 := k3.g.trans (gS_r j2)
        have hT3' : TP m3 t (run spB t (run dgB t p)) := ⟨hT3.1, by rw [run_run]; exact hT3.2⟩
        have e10 := hT3.2.2.2.2.1
        have kr' : 0 ≤ kd t (run spB t (run dgB t p)) ∧ kd t (run spB t (run dgB t p)) ≤ 3 := by unfold kd; split; omega; split; omega; split <;> omega
        have hkd' : kd t (run spB t (run dgB t p)) = 1 ↔ atB dgB t (run spB t (run dgB t p)) = true := by
          generalize run spB t (run dgB t p) = p'
          unfold kd
          constructor
          · intro q
            split at q
            · omega
            · split at q
              · omega
              · split at q
                · assumption
                · omega
          · intro q
            obtain ⟨c, e1, e2, hl9⟩ := at_some q
            have n1 : ¬ atB ltB t p' = true := fun z => by
              obtain ⟨c', e3, e4, -⟩ := at_some z
              rw [e1] at e3
              cases e3
              unfold dgB at e2
              unfold ltB at e4
              simp at e2 e4
              omega
            rw [if_neg (by omega), if_neg n1, if_pos q]
        unfold f_X11_readsRoute_76 f_X11_readsRoute_114
        simp (disch := omega) only [n_69, n_50, n_13, Option.bind_some, bd2_some, bdX_ok, bdX_er, nm_eq, n_0, n_1, n_2, n_3, n_4, n_5, n_6, n_7, n_8, n_9, n_10, n_11, n_12, n_14, n_15, n_16, n_17, n_18, n_19, n_20, n_21, n_24, n_27, n_28, n_32, n_43, n_45, n_48, n_56, n_57, n_59, n_64, n_70, n_97, n_99, n_100, n_104, n_118, n_122, n_126, n_127, n_128, n_129, n_130, n_150, n_255, n_600, n_1000, n_1050, n_1200, n_999999, n_1000000, iI_neg, iI_add, iI_sub, iI_mul, ile, ilt, ieq, Z_has, Z_1, k1, Z_12, k2.1, j1, Z_10, e10]
        by_cases hd : atB dgB t (run spB t (run dgB t p)) = true
        · rw [if_pos hd, if_pos (show True from trivial), if_pos (hkd'.mpr hd)]
          obtain ⟨i1, i2⟩ := ih n (run spB t (run dgB t p)) (l ++ [nvR t p]) m3 hT3' run_run hP3 hl2 (by simp <;> omega) (by omega)
          refine ⟨fun l' q e => ?_, fun c s e => ?_⟩
          · obtain ⟨m4, g1, g2, g3, g4, g5⟩ := i1 l' q e
            exact ⟨m4, g1, g2, g3, g4, hg3.trans g5⟩
          · obtain ⟨m4, g1, g2, g3⟩ := i2 c s e
            exact ⟨m4, g1, g2, hg3.trans g3⟩
        · rw [if_neg hd, if_pos (show True from trivial), if_neg (fun q => hd (hkd'.mp q))]
          obtain ⟨n, rfl⟩ : ∃ k, n = k + 1 := ⟨n - 1, by omega⟩
          rw [f_X11_readsRoute_44, f_X11_readsRoute_44b, if_pos (show iI 0 = 0 from rfl)]
          refine ⟨fun l' q e => ?_, fun c s e => (by cases e)⟩
          have e : (l ++ [nvR t p], run spB t (run dgB t p)) = (l', q) := by injection e
          injection e with a b
          subst a; subst b
          exact ⟨m3, rfl, hT3', run_run, hP3, hg3⟩
end RX
