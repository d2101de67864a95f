theorem b2_01 (p : Bool) : b2 p = 0 ∨ b2 p = 1 := by
  cases p
  · exact Or.inl rfl
  · exact Or.inr rfl
section LY
variable {w W : Wl} {m m1 m2 : Mm} {b1 b2 b3 b4 b5 k v r : Int} {fu : Nat} {x x' : Sg} {H H' : List Sg} {B L B' L' : List Int} {K : List Ob → Option (Int32 × List Ob)} {xs : List Int32} {a5 : Int32}
theorem master2 {cw : Option (Int32 × List Ob)} {rf : List Ob → Option (Int32 × List Ob)} (hk : 0 ≤ k ∧ k ≤ 3) (hc : cw = some (iI k, mem (wN k v w) m1)) (q1 : rf (mem (wN k v w) m1) = some (iI r, mem (wN k v w) m2)) (q2 : m2 283 4 = k) (q3 : k = 0 → r = v) (hI : INV m2 x' H' L' B') : GO (bd2 cw fun v3 M4 => (hasO M4 283 11).bind fun _ => bd2 (rf M4) fun v9 M10 => (hasO M10 283 11).bind fun _ => bd2 (f_X11_thrown fu 283 M10) fun v13 M14 => if v13 = v3 then (if v3 = 0 then ((aJ M14 294 0).bind fun v18 => if (lg_cmp v18 ((v9 : Int32).toInt64)) = 0 then (K M14) else (some (0, M14))) else (K M14)) else (some (0, M14))) K := by
  refine ⟨wN k v w, m2, x', H', L', B', hI, ?_⟩
  subst hc
  rw [bd2_some, Z_has, Option.bind_some, q1, bd2_some]
  exact tailL hk q3 q2
theorem gc_2 (hI : INV m x H L B) : GO (g_2 fu xs 0 283 294 295 a5 (mem w m) K) K := by
  refine ⟨w, up m 283 4 0, x, H, L, B, hI.step (m1 := m) sC_rf hI.ci (cS_f (by omega)) hI.ri.thr hI.gx hI.hx, ?_⟩
  unfold g_2
  rw [H10, Option.bind_some, errPos_eq, bd2_some, Z_has, Option.bind_some, errPosR_eq, bd2_some, hI.ep.1, if_pos rfl]
theorem gc_11 (hfu : 200000 ≤ fu) (hI : INV m x H L B) : GO (g_11 fu xs 0 283 294 295 a5 (mem w m) K) K := by
  obtain ⟨m2, q1, q2, q3⟩ := reasonR_eq (w := w) (fu := fu) (by omega) hI.ri hI.gx.1
  refine ⟨w, m2, x, H, L, B, hI.step (m1 := m) sC_rf hI.ci q2 q3 hI.gx hI.hx, ?_⟩
  unfold g_11
  rw [H10, Option.bind_some, reason_eq (by omega) hI.ci hI.gx.1, bd2_some, Z_has, Option.bind_some, q1, bd2_some, if_pos rfl]
theorem gc_24 (hfu : 200000 ≤ fu) (hI : INV m x H L B) (s1 : sGet xs (a5 + 1) = some (iI b1)) (i1 : i32 b1) : GO (g_24 fu xs 0 283 294 295 a5 (mem w m) K) K := by
  obtain ⟨m1, c1, c2, c3⟩ := within_eq (w := w) (fu := fu) hfu hI.ci i1
  obtain ⟨m2, q1, q2, q3⟩ := withinR_eq (w := w) (fu := fu) (by omega) (RI_fr hI.ri (fun p hp => c3 p (by omega))) i1
  refine ⟨w, m2, x, H, L, B, hI.step c3 c2 q2 q3 hI.gx hI.hx, ?_⟩
  unfold g_24
  simp only [s1, Option.bind_some]
  rw [H10, Option.bind_some, c1, bd2_some, Z_has, Option.bind_some, q1, bd2_some, if_pos rfl]
theorem gc_28 (hfu : 200000 ≤ fu) (hI : INV m x H L B) : GO (g_28 fu xs 0 283 294 295 a5 (mem w m) K) K := by
  obtain ⟨m1, c1, c3, c2⟩ := restart_eq (w := w) (fu := fu) (by omega) hI.ci
  obtain ⟨m2, r, q1, q2, q3, q4, q5⟩ := restartR_eq (w := w) (fu := fu) (by omega) (RI_fr hI.ri (fun p hp => c3 p (by omega)))
  refine ⟨w, m2, _, _, L, B, hI.step c3 c2 q4 q5 (GX_restart hI.gx) (HX_new hI.gx hI.hx), ?_⟩
  unfold g_28
  rw [H10, Option.bind_some, c1, bd2_some, Z_has, Option.bind_some, q1, bd2_some, q3 rfl, if_pos rfl]
theorem gc_33 (hfu : 200000 ≤ fu) (hI : INV m x H L B) : GO (g_33 fu xs 0 283 294 295 a5 (mem w m) K) K := by
  obtain ⟨u1, u2⟩ := undo_eq (w := w) (fu := fu) (by omega) hI.ci
  unfold g_33
  cases H with
  | nil =>
    have c1 : f_X10_undo fu 0 (mem w m) = some (xr [eIS] 1 0, mem w m) := u1 rfl
    exact master (k := 1) (v := 0) (rf := fun M => f_X11_undo fu 283 M) hI (by omega) (by unfold f_L_undo; rw [H10, Option.bind_some]; exact w1 c1 (by omega)) sC_rf hI.ci (fun h => (undoR_eq (by omega) h).1 rfl) hI.gx hI.hx
  | cons y H' =>
    obtain ⟨m1, c1, c3, c2⟩ := u2 y H' rfl
    have c1 : f_X10_undo fu 0 (mem w m) = some (xr [eIS] 0 (H'.length : Int), mem w m1) := c1
    exact master (k := 0) (v := (H'.length : Int)) (rf := fun M => f_X11_undo fu 283 M) hI (by omega) (by unfold f_L_undo; rw [H10, Option.bind_some]; exact w1 c1 (by omega)) c3 c2 (fun h => (undoR_eq (by omega) h).2 y H' rfl) (hI.hx y (List.mem_cons_self ..)) (fun z hz => hI.hx z (List.mem_cons_of_mem _ hz))
theorem gc_23 (hfu : 200000 ≤ fu) (hI : INV m x H L B) (s1 : sGet xs (a5 + 1) = some (iI b1)) (s2 : sGet xs (a5 + 2) = some (iI b2)) (i2 : i32 b2) : GO (g_23 fu xs 0 283 294 295 a5 (mem w m) K) K := by
  have hG := hI.gx.1
  have hk : ∀ c : Int, 0 ≤ (qBestArc x c b2).1 ∧ (qBestArc x c b2).1 ≤ 1 := by
    intro c
    unfold qBestArc
    repeat' split
    all_goals simp
  unfold g_23
  simp only [s1, s2, Option.bind_some]
  by_cases c : iI b1 = 0
  · simp only [if_pos c]
    have hk0 := hk 0
    obtain ⟨m1, c1, c2, c3⟩ := bestArc_eq (w := w) (fu := fu) hfu hI.ci hG i2 (Or.inl rfl : (0 : Int) = 0 ∨ (0 : Int) = 1)
    exact master (rf := fun M => f_X11_bestArc fu 283 0 (iI b2) M) hI (by omega) (by unfold f_L_bestArc; rw [H10, Option.bind_some]; exact w1 c1 hk0) c3 c2 (fun h => bestArcR_eq (by omega) h hG i2 (Or.inl rfl)) hI.gx hI.hx
  · simp only [if_neg c]
    have hk0 := hk 1
    obtain ⟨m1, c1, c2, c3⟩ := bestArc_eq (w := w) (fu := fu) hfu hI.ci hG i2 (Or.inr rfl : (1 : Int) = 0 ∨ (1 : Int) = 1)
    exact master (rf := fun M => f_X11_bestArc fu 283 1 (iI b2) M) hI (by omega) (by unfold f_L_bestArc; rw [H10, Option.bind_some]; exact w1 c1 hk0) c3 c2 (fun h => bestArcR_eq (by omega) h hG i2 (Or.inr rfl)) hI.gx hI.hx
theorem gc_27 (hfu : 200000 ≤ fu) (hI : INV m x H L B) (s1 : sGet xs (a5 + 1) = some (iI b1)) (i1 : i32 b1) (s2 : sGet xs (a5 + 2) = some (iI b2)) : GO (g_27 fu xs 0 283 294 295 a5 (mem w m) K) K := by
  have hG := hI.gx.1
  have hk : ∀ c : Int, 0 ≤ (qStep x b1 c).1 ∧ (qStep x b1 c).1 ≤ 2 := by
    intro c
    unfold qStep
    repeat' split
    all_goals simp
  unfold g_27
  simp only [s1, s2, Option.bind_some]
  by_cases c : iI b2 = 0
  · simp only [if_pos c]
    have hk0 := hk 0
    obtain ⟨m1, c1, c3, c2⟩ := step_eq (w := w) (fu := fu) (del := 0) (by omega) hI.ci hG i1 (Or.inl rfl)
    have hx1 : GX (qStep x b1 0).2.2 := GX_step hI.gx (Or.inl rfl)
    have hh1 : HX (hist (qStep x b1 0).1 x H) := HX_hist hI.gx hI.hx
    have hr1 : ∀ (W : Wl) (m1 : Mm), RI m1 x H → RQ W m1 (f_X11_step fu 283 (iI b1) (iI 0) (mem W m1)) (qStep x b1 0).1 (qStep x b1 0).2.1 (qStep x b1 0).2.2 (hist (qStep x b1 0).1 x H) := fun W m1 h => stepR_eq (del := 0) (by omega) h hG i1 (Or.inl rfl)
    generalize qStep x b1 0 = q at hk0 c1 c2 hx1 hh1 hr1
    simp only [show iI 0 = (0 : Int32) from rfl] at c1 hr1
    exact master (rf := fun M => f_X11_step fu 283 (iI b1) 0 M) (k := q.1) (v := q.2.1) hI (by omega) (by unfold f_L_step; rw [H10, Option.bind_some]; exact w2 c1 hk0 (by decide)) c3 c2 (fun h => hr1 _ _ h) hx1 hh1
  · simp only [if_neg c]
    have hk0 := hk 1
    obtain ⟨m1, c1, c3, c2⟩ := step_eq (w := w) (fu := fu) (del := 1) (by omega) hI.ci hG i1 (Or.inr rfl)
    have hx1 : GX (qStep x b1 1).2.2 := GX_step hI.gx (Or.inr rfl)
    have hh1 : HX (hist (qStep x b1 1).1 x H) := HX_hist hI.gx hI.hx
    have hr1 : ∀ (W : Wl) (m1 : Mm), RI m1 x H → RQ W m1 (f_X11_step fu 283 (iI b1) (iI 1) (mem W m1)) (qStep x b1 1).1 (qStep x b1 1).2.1 (qStep x b1 1).2.2 (hist (qStep x b1 1).1 x H) := fun W m1 h => stepR_eq (del := 1) (by omega) h hG i1 (Or.inr rfl)
    generalize qStep x b1 1 = q at hk0 c1 c2 hx1 hh1 hr1
    simp only [show iI 1 = (1 : Int32) from rfl] at c1 hr1
    exact master (rf := fun M => f_X11_step fu 283 (iI b1) 1 M) (k := q.1) (v := q.2.1) hI (by omega) (by unfold f_L_step; rw [H10, Option.bind_some]; exact w2 c1 hk0 (by decide)) c3 c2 (fun h => hr1 _ _ h) hx1 hh1
theorem gc_31 (hfu : 200000 ≤ fu) (hI : INV m x H L B) (s1 : sGet xs (a5 + 1) = some (iI b1)) (i1 : i32 b1) : GO (g_31 fu xs 0 283 294 295 a5 (mem w m) K) K := by
  have hG := hI.gx.1
  have hk : 0 ≤ (qWrite x b1).1 ∧ (qWrite x b1).1 ≤ 1 := by
    unfold qWrite
    repeat' split
    all_goals simp
  obtain ⟨m1, c1, c2, c3, c4⟩ := writeRoute_eq (w := w) (fu := fu) (by omega) hI.ci hG i1 hI.wr
  have hR1 := RI_fr hI.ri (fun p hp => c3 p (by omega) (by omega))
  have e283 : m1 283 = m 283 := c3 _ (by decide) (by decide)
  have hW1 : WRr m1 L := WRr_fr hI.wrr (by rw [e283]) (c3 _ (by decide) (by decide))
  unfold g_31
  simp only [s1, Option.bind_some]
  obtain ⟨m2, r, q1, q2, q3, q4, q5⟩ := writeRouteR_eq (w := wN (qWrite x b1).1 (qWrite x b1).2 w) (fu := fu) (by omega) hR1 hG hW1 i1
  have f : ∀ p, p ≠ 0 → p ≠ 282 → p ≠ 283 → p ≠ 293 → m2 p = m p := fun p a b c d => by rw [q4.1 p d c, c3 p a b]
  have f3 : ∀ j, j ≠ 27 → j ≠ 4 → m2 283 j = m 283 j := fun j a b => by rw [q4.2 j a b, e283]
  exact master2 (x' := x) (H' := H) (L' := wrNew x b1 L) (B' := B) (rf := fun M => f_X11_writeRoute fu 283 (iI b1) M) (by omega) (by unfold f_L_writeRoute; rw [H10, Option.bind_some]; exact w1 c1 hk) q1 q2 q3 ⟨c2.cong (fun p hp => q4.1 p (by omega) (by omega)), ⟨by rw [f 284 (by decide) (by decide) (by decide) (by decide)]; exact hI.ri.1, by rw [f3 3 (by decide) (by decide)]; exact hI.ri.2.1, hI.ri.2.2.1, fun i y hi => by rw [f 286 (by decide) (by decide) (by decide) (by decide)]; exact hI.ri.2.2.2 i y hi⟩, hI.gx, hI.hx, WR_fr c4 (q4.1 _ (by decide) (by decide)) (q4.1 _ (by decide) (by decide)), q5, BC_fr hI.bc (by rw [f 228 (by decide) (by decide) (by decide) (by decide)]) (f 229 (by decide) (by decide) (by decide) (by decide)), BF_fr hI.bf (f3 6 (by decide) (by decide)) (f 287 (by decide) (by decide) (by decide) (by decide)), by rw [f3 14 (by decide) (by decide), f 228 (by decide) (by decide) (by decide) (by decide)]; exact hI.ep⟩
theorem gc_18 (hfu : 200000 ≤ fu) (hI : INV m x H L B) (s1 : sGet xs (a5 + 1) = some (iI b1)) (i1 : i32 b1) (s2 : sGet xs (a5 + 2) = some (iI b2)) (i2 : i32 b2) : GO (g_18 fu xs 0 283 294 295 a5 (mem w m) K) K := by
  have hG := hI.gx.1
  have hq : ((qBeats x b1 b2).1 = 1) ∨ ((qBeats x b1 b2).1 = 0 ∧ ((qBeats x b1 b2).2 = 0 ∨ (qBeats x b1 b2).2 = 1)) := by
    unfold qBeats
    split
    · exact Or.inl rfl
    · exact Or.inr ⟨rfl, b2_01 _⟩
  have c1 := beats_eq (w := w) (fu := fu) (by omega) hI.ci hG i1 i2
  have hr : ∀ W : Wl, RQ W m (f_X11_beats fu 283 (iI b1) (iI b2) (mem W m)) (qBeats x b1 b2).1 (qBeats x b1 b2).2 x H := fun W => beatsR_eq (by omega) hI.ri hG i1 i2
  generalize (qBeats x b1 b2).1 = k at hq c1 hr
  generalize (qBeats x b1 b2).2 = v at hq c1 hr
  unfold g_18 f_L_beats
  simp only [s1, s2, Option.bind_some]
  rcases hq with rfl | ⟨rfl, rfl | rfl⟩
  · obtain ⟨m2, r, q1, q2, q3, q4, q5⟩ := hr w
    refine ⟨w, m2, x, H, L, B, hI.step (m1 := m) sC_rf hI.ci q4 q5 hI.gx hI.hx, ?_⟩
    rw [H10, Option.bind_some, c1, show xr [eIO] 1 v = .error eIO from rfl, bdW_er, if_pos rfl, bd2_some, Z_has, Option.bind_some, q1, bd2_some, Z_has, Option.bind_some, thr_eq, bd2_some, q2, if_pos (show iI 1 = 1 from rfl), if_neg (show ¬ (1 : Int32) = 0 by decide)]
  · obtain ⟨m2, r, q1, q2, q3, q4, q5⟩ := hr (0, w.2)
    refine ⟨(0, w.2), m2, x, H, L, B, hI.step (m1 := m) sC_rf hI.ci q4 q5 hI.gx hI.hx, ?_⟩
    rw [H10, Option.bind_some, c1, show xr [eIO] 0 0 = .ok (iI 0) from rfl, bdW_ok, if_pos (show iI 0 = 0 from rfl), setJ, Option.bind_some, bd2_some, Z_has, Option.bind_some, q1, bd2_some, Z_has, Option.bind_some, thr_eq, bd2_some, q2, if_pos (show iI 0 = 0 from rfl), if_pos rfl, getJ, Option.bind_some, q3 rfl, if_pos (show iI 0 = 0 from rfl)]
    exact if_pos (lg_self _)
  · obtain ⟨m2, r, q1, q2, q3, q4, q5⟩ := hr (1, w.2)
    refine ⟨(1, w.2), m2, x, H, L, B, hI.step (m1 := m) sC_rf hI.ci q4 q5 hI.gx hI.hx, ?_⟩
    rw [H10, Option.bind_some, c1, show xr [eIO] 0 1 = .ok (iI 1) from rfl, bdW_ok, if_neg (show ¬ iI 1 = 0 by decide), setJ, Option.bind_some, bd2_some, Z_has, Option.bind_some, q1, bd2_some, Z_has, Option.bind_some, thr_eq, bd2_some, q2, if_pos (show iI 0 = 0 from rfl), if_pos rfl, getJ, Option.bind_some, q3 rfl, if_neg (show ¬ iI 1 = 0 by decide)]
    exact if_pos (lg_self _)
theorem gc_19 (hfu : 200000 ≤ fu) (hI : INV m x H L B) (s1 : sGet xs (a5 + 1) = some (iI b1)) (i1 : i32 b1) : GO (g_19 fu xs 0 283 294 295 a5 (mem w m) K) K := by
  have hG := hI.gx.1
  have c1 := strain_eq (w := w) (fu := fu) (by omega) hI.ci hG i1
  unfold g_19 f_L_strain
  simp only [s1, Option.bind_some]
  by_cases c : 0 ≤ b1 ∧ b1 < (sR x).length
  · obtain ⟨d1, d2⟩ := stn_d (cst_1386 hI.ci hG c)
    obtain ⟨m2, r, q1, q2, q3, q4, q5⟩ := strainR_eq (w := (w.1, FP.f2d (stn (sN x) (lR x b1)))) (fu := fu) (by omega) hI.ci hI.ri hG i1
    have q2 := q2 c
    subst q2
    rw [if_pos c] at c1 q3
    refine ⟨(w.1, FP.f2d (stn (sN x) (lR x b1))), m2, x, H, L, B, hI.step (m1 := m) sC_rf hI.ci q4 q5 hI.gx hI.hx, ?_⟩
    rw [H10, Option.bind_some, c1, bdW_ok, if_pos d1, setD, Option.bind_some, bd2_some, Z_has, Option.bind_some, q1, bd2_some, Z_has, Option.bind_some, thr_eq, bd2_some, q3, if_pos (show iI 0 = 0 from rfl), if_pos rfl, getD', Option.bind_some, if_pos d1]
    exact if_pos d2
  · obtain ⟨m2, r, q1, q2, q3, q4, q5⟩ := strainR_eq (w := w) (fu := fu) (by omega) hI.ci hI.ri hG i1
    rw [if_neg c] at c1 q3
    refine ⟨w, m2, x, H, L, B, hI.step (m1 := m) sC_rf hI.ci q4 q5 hI.gx hI.hx, ?_⟩
    rw [H10, Option.bind_some, c1, bdW_er, if_pos rfl, bd2_some, Z_has, Option.bind_some, q1, bd2_some, Z_has, Option.bind_some, thr_eq, bd2_some, q3, if_pos (show iI 1 = 1 from rfl), if_neg (show ¬ (1 : Int32) = 0 by decide)]
theorem gc_0 (hfu : 200000 ≤ fu) (hI : INV m x H L B) (s1 : sGet xs (a5 + 1) = some (iI b1)) (s2 : sGet xs (a5 + 2) = some (iI b2)) (s3 : sGet xs (a5 + 3) = some (iI b3)) (s4 : sGet xs (a5 + 4) = some (iI b4)) (s5 : sGet xs (a5 + 5) = some (iI b5)) : GO (g_0 fu xs 0 283 294 295 a5 (mem w m) K) K := by
  obtain ⟨u1, u2⟩ := append_eq (w := w) (fu := fu) (by omega) hI.bc (iI b1) (iI b2) (iI b3) (iI b4) (iI b5)
  unfold g_0
  simp only [s1, s2, s3, s4, s5, Option.bind_some]
  by_cases c : B.length + 20 ≤ 600
  · obtain ⟨m1, c1, c2, c3⟩ := u1 c
    have c1 : f_X10_append fu 0 (iI b1) (iI b2) (iI b3) (iI b4) (iI b5) (mem w m) = some (xr [eIS] 0 ((B.length : Int) + 20), mem w m1) := c1
    have e283 : m1 283 = m 283 := c3.1 _ (by decide) (by decide)
    obtain ⟨m2, q1, q2, q3, q4⟩ := (appendR_eq (w := wN 0 ((B.length : Int) + 20) w) (fu := fu) (by omega) (BF_fr hI.bf (by rw [e283]) (c3.1 _ (by decide) (by decide))) (iI b1) (iI b2) (iI b3) (iI b4) (iI b5)).1 c
    have f : ∀ p, p ≠ 228 → p ≠ 229 → p ≠ 283 → p ≠ 287 → m2 p = m p := fun p a b c d => by rw [q4.1 p c d, c3.1 p a b]
    have f3 : ∀ j, j ≠ 4 → j ≠ 6 → m2 283 j = m 283 j := fun j a b => by rw [q4.2 j a b, e283]
    exact master2 (k := 0) (v := (B.length : Int) + 20) (x' := x) (H' := H) (L' := L) (B' := B ++ by20 (iI b1) (iI b2) (iI b3) (iI b4) (iI b5)) (rf := fun M => f_X11_append fu 283 (iI b1) (iI b2) (iI b3) (iI b4) (iI b5) M) (by omega) (by unfold f_L_append; rw [H10, Option.bind_some]; exact w1 c1 (by omega)) q1 q2 (fun _ => rfl) ⟨hI.ci.cong (fun p hp => f p (by omega) (by omega) (by omega) (by omega)), ⟨by rw [f 284 (by decide) (by decide) (by decide) (by decide)]; exact hI.ri.1, by rw [f3 3 (by decide) (by decide)]; exact hI.ri.2.1, hI.ri.2.2.1, fun i y hi => by rw [f 286 (by decide) (by decide) (by decide) (by decide)]; exact hI.ri.2.2.2 i y hi⟩, hI.gx, hI.hx, WR_fr hI.wr (f _ (by decide) (by decide) (by decide) (by decide)) (f _ (by decide) (by decide) (by decide) (by decide)), WRr_fr hI.wrr (f3 27 (by decide) (by decide)) (f _ (by decide) (by decide) (by decide) (by decide)), BC_fr c2 (by rw [q4.1 228 (by decide) (by decide)]) (q4.1 _ (by decide) (by decide)), q3, by rw [f3 14 (by decide) (by decide), q4.1 228 (by decide) (by decide), c3.2 5 (by decide)]; exact hI.ep⟩
  · have c1 : f_X10_append fu 0 (iI b1) (iI b2) (iI b3) (iI b4) (iI b5) (mem w m) = some (xr [eIS] 1 0, mem w m) := u2 c
    exact master2 (k := 1) (v := 0) (m2 := up m 283 4 1) (r := 0) (x' := x) (H' := H) (L' := L) (B' := B) (rf := fun M => f_X11_append fu 283 (iI b1) (iI b2) (iI b3) (iI b4) (iI b5) M) (by omega) (by unfold f_L_append; rw [H10, Option.bind_some]; exact w1 c1 (by omega)) ((appendR_eq (by omega) hI.bf _ _ _ _ _).2 c) up_at (fun e => by omega) (hI.step (m1 := m) sC_rf hI.ci (cS_f (by omega)) hI.ri.thr hI.gx hI.hx)
theorem gc_1 (hfu : 200000 ≤ fu) (hI : INV m x H L B) (s1 : sGet xs (a5 + 1) = some (iI b1)) (i1 : i32 b1) : GO (g_1 fu xs 0 283 294 295 a5 (mem w m) K) K := by
  obtain ⟨u1, u2⟩ := load_eq (w := w) (fu := fu) (by omega) hI.ci hI.bc i1
  unfold g_1
  simp only [s1, Option.bind_some]
  by_cases c : 0 ≤ b1 ∧ b1 ≤ B.length
  · obtain ⟨u3, u4⟩ := u2 c
    cases hp : pText (B.take b1.toNat) with
    | error e =>
      obtain ⟨cc, s⟩ := e
      obtain ⟨m1, c1, c2, c3, c4, c5, c6⟩ := u3 cc s hp
      have c1 : f_X10_load fu 0 (iI b1) (mem w m) = some (xr [eIA] 0 cc, mem w m1) := c1
      obtain ⟨m2, q1, q2, q3, q4, q5, q6, q7, q8⟩ := ((loadR_eq (w := wN 0 cc w) (fu := fu) (by omega) (RI_fr hI.ri (fun p hp => c3 p (by omega))) (BF_fr hI.bf (by rw [c3 283 (by omega)]) (c3 287 (by omega))) i1).2 c).1 cc s hp
      have e228 : m2 228 = m1 228 := q4 _ (by omega)
      exact master2 (k := 0) (v := cc) (x' := x) (H' := H) (L' := L) (B' := []) (rf := fun M => f_X11_load fu 283 (iI b1) M) (by omega) (by unfold f_L_load; rw [H10, Option.bind_some]; exact w1 c1 (by omega)) q1 q2 (fun _ => rfl) ⟨c2.cong (fun p hp => q4 p (by omega)), q3, hI.gx, hI.hx, WR_fr hI.wr (by rw [q4 0 (by omega), c3 0 (by omega)]) (by rw [q4 282 (by omega), c3 282 (by omega)]), WRr_fr hI.wrr (by rw [q6, c3 283 (by omega)]) (by rw [q5, c3 293 (by omega)]), ⟨by rw [e228, c4]; rfl, by simp, fun j b hj => by simp at hj⟩, ⟨by rw [q7]; rfl, by simp, fun j b hj => by simp at hj⟩, by rw [q8, e228, c5], by rw [e228, c5]; omega, by rw [e228, c5]; omega⟩
    | ok y =>
      obtain ⟨hy, m1, c1, c2, c3, c4, c5⟩ := u4 y hp
      have c1 : f_X10_load fu 0 (iI b1) (mem w m) = some (xr [eIA] 0 (nA y.1), mem w m1) := c1
      obtain ⟨m2, q1, q2, q3, q4, q5, q6, q7, q8⟩ := ((loadR_eq (w := wN 0 (nA y.1) w) (fu := fu) (by omega) (RI_fr hI.ri (fun p hp => c3 p (by omega))) (BF_fr hI.bf (by rw [c3 283 (by omega)]) (c3 287 (by omega))) i1).2 c).2 y hp
      have e228 : m2 228 = m1 228 := q4 _ (by omega)
      exact master2 (k := 0) (v := nA y.1) (x' := (y.1, y.2, [], [])) (H' := (x :: H).take 8) (L' := L) (B' := []) (rf := fun M => f_X11_load fu 283 (iI b1) M) (by omega) (by unfold f_L_load; rw [H10, Option.bind_some]; exact w1 c1 (by omega)) q1 q2 (fun _ => rfl) ⟨c2.cong (fun p hp => q4 p (by omega)), q3, GX_load hy, HX_new hI.gx hI.hx, WR_fr hI.wr (by rw [q4 0 (by omega), c3 0 (by omega)]) (by rw [q4 282 (by omega), c3 282 (by omega)]), WRr_fr hI.wrr (by rw [q6, c3 283 (by omega)]) (by rw [q5, c3 293 (by omega)]), ⟨by rw [e228, c4]; rfl, by simp, fun j b hj => by simp at hj⟩, ⟨by rw [q7]; rfl, by simp, fun j b hj => by simp at hj⟩, by rw [q8, e228, c5], by rw [e228, c5]; omega, by rw [e228, c5]; omega⟩
  · have c1 : f_X10_load fu 0 (iI b1) (mem w m) = some (xr [eIA] 1 0, mem w m) := u1 c
    exact master (k := 1) (v := 0) (rf := fun M => f_X11_load fu 283 (iI b1) M) hI (by omega) (by unfold f_L_load; rw [H10, Option.bind_some]; exact w1 c1 (by omega)) sC_rf hI.ci (fun h => (loadR_eq (by omega) h (by exact hI.bf) i1).1 c) hI.gx hI.hx
end LY
