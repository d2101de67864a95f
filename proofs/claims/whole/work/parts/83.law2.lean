section LX
variable {w : Wl} {m m1 : Mm} {b1 b2 b3 b4 b5 : Int} {fu : Nat} {x : Sg} {H : List Sg} {B L : List Int} {K : List Ob → Option (Int32 × List Ob)} {xs : List Int32} {a5 : Int32}
theorem gc_3 (hfu : 200000 ≤ fu) (hI : INV m x H L B) (s1 : sGet xs (a5 + 1) = some (iI b1)) (i1 : i32 b1) : GO (g_3 fu xs 0 283 294 295 a5 (mem w m) K) K := by
  have hG := hI.gx.1
  have hJ := hI.gx.2
  have hk : 0 ≤ (qCount x b1).1 ∧ (qCount x b1).1 ≤ 1 := by
    unfold qCount
    repeat' split
    all_goals simp
  obtain ⟨m1, c1, c2, c3⟩ := count_eq (w := w) (fu := fu) (by omega) hI.ci i1
  unfold g_3
  simp only [s1, Option.bind_some]
  exact master (rf := fun M => f_X11_count fu 283 (iI b1) M) hI (by omega) (by unfold f_L_count; rw [H10, Option.bind_some]; exact w1 c1 hk) c3 c2 (fun h => countR_eq (by omega) h i1) hI.gx hI.hx
theorem gc_4 (hfu : 200000 ≤ fu) (hI : INV m x H L B) (s1 : sGet xs (a5 + 1) = some (iI b1)) (i1 : i32 b1) (s2 : sGet xs (a5 + 2) = some (iI b2)) (i2 : i32 b2) : GO (g_4 fu xs 0 283 294 295 a5 (mem w m) K) K := by
  have hG := hI.gx.1
  have hJ := hI.gx.2
  have hk : 0 ≤ (qArc x b1 b2).1 ∧ (qArc x b1 b2).1 ≤ 2 := by
    unfold qArc
    repeat' split
    all_goals simp
  have c1 := arc_eq (w := w) (fu := fu) hI.ci i1 i2
  have c2 := hI.ci
  have c3 : sameC m m := sC_rf
  unfold g_4
  simp only [s1, s2, Option.bind_some]
  exact master (rf := fun M => f_X11_arc fu 283 (iI b1) (iI b2) M) hI (by omega) (by unfold f_L_arc; rw [H10, Option.bind_some]; exact w2 c1 hk (by decide)) c3 c2 (fun h => arcR_eq h i1 i2) hI.gx hI.hx
theorem gc_5 (hfu : 200000 ≤ fu) (hI : INV m x H L B) (s1 : sGet xs (a5 + 1) = some (iI b1)) (i1 : i32 b1) (s2 : sGet xs (a5 + 2) = some (iI b2)) (i2 : i32 b2) (s3 : sGet xs (a5 + 3) = some (iI b3)) (i3 : i32 b3) (s4 : sGet xs (a5 + 4) = some (iI b4)) (i4 : i32 b4) : GO (g_5 fu xs 0 283 294 295 a5 (mem w m) K) K := by
  have hG := hI.gx.1
  have hJ := hI.gx.2
  have hk : 0 ≤ (qAdd x b1 b2 b3 b4).1 ∧ (qAdd x b1 b2 b3 b4).1 ≤ 3 := by
    unfold qAdd
    repeat' split
    all_goals simp
  obtain ⟨m1, c1, c3, c2⟩ := addArc_eq (w := w) (fu := fu) (by omega) hI.ci i1 i2 i3 i4
  unfold g_5
  simp only [s1, s2, s3, s4, Option.bind_some]
  exact master (rf := fun M => f_X11_addArc fu 283 (iI b1) (iI b2) (iI b3) (iI b4) M) hI (by omega) (by unfold f_L_addArc; rw [H10, Option.bind_some]; exact w3 c1 hk (by decide) (by decide) (by decide)) c3 c2 (fun h => addArcR_eq (by omega) h i1 i2 i3 i4) (GX_add hI.gx) (HX_hist hI.gx hI.hx)
theorem gc_6 (hfu : 200000 ≤ fu) (hI : INV m x H L B) (s1 : sGet xs (a5 + 1) = some (iI b1)) (i1 : i32 b1) : GO (g_6 fu xs 0 283 294 295 a5 (mem w m) K) K := by
  have hG := hI.gx.1
  have hJ := hI.gx.2
  have hk : 0 ≤ (qDel x b1).1 ∧ (qDel x b1).1 ≤ 2 := by
    unfold qDel
    repeat' split
    all_goals simp
  obtain ⟨m1, c1, c3, c2⟩ := removeArc_eq (w := w) (fu := fu) (by omega) hI.ci hG i1
  unfold g_6
  simp only [s1, Option.bind_some]
  exact master (rf := fun M => f_X11_removeArc fu 283 (iI b1) M) hI (by omega) (by unfold f_L_removeArc; rw [H10, Option.bind_some]; exact w2 c1 hk (by decide)) c3 c2 (fun h => removeArcR_eq (by omega) h hG i1) (GX_del hI.gx) (HX_hist hI.gx hI.hx)
theorem gc_7 (hfu : 200000 ≤ fu) (hI : INV m x H L B) (s1 : sGet xs (a5 + 1) = some (iI b1)) (i1 : i32 b1) (s2 : sGet xs (a5 + 2) = some (iI b2)) (i2 : i32 b2) (s3 : sGet xs (a5 + 3) = some (iI b3)) (i3 : i32 b3) : GO (g_7 fu xs 0 283 294 295 a5 (mem w m) K) K := by
  have hG := hI.gx.1
  have hJ := hI.gx.2
  have hk : 0 ≤ (qSet x b1 b2 b3).1 ∧ (qSet x b1 b2 b3).1 ≤ 2 := by
    unfold qSet
    repeat' split
    all_goals simp
  obtain ⟨m1, c1, c3, c2⟩ := setArc_eq (w := w) (fu := fu) (by omega) hI.ci i1 i2 i3
  unfold g_7
  simp only [s1, s2, s3, Option.bind_some]
  exact master (rf := fun M => f_X11_setArc fu 283 (iI b1) (iI b2) (iI b3) M) hI (by omega) (by unfold f_L_setArc; rw [H10, Option.bind_some]; exact w2 c1 hk (by decide)) c3 c2 (fun h => setArcR_eq (by omega) h i1 i2 i3) (GX_set hI.gx) (HX_hist hI.gx hI.hx)
theorem gc_8 (hfu : 200000 ≤ fu) (hI : INV m x H L B) (s1 : sGet xs (a5 + 1) = some (iI b1)) (i1 : i32 b1) : GO (g_8 fu xs 0 283 294 295 a5 (mem w m) K) K := by
  have hG := hI.gx.1
  have hJ := hI.gx.2
  have hk : 0 ≤ (qBud x b1).1 ∧ (qBud x b1).1 ≤ 1 := by
    unfold qBud
    repeat' split
    all_goals simp
  obtain ⟨m1, c1, c3, c2⟩ := setBudget_eq (w := w) (fu := fu) (by omega) hI.ci i1
  unfold g_8
  simp only [s1, Option.bind_some]
  exact master (rf := fun M => f_X11_setBudget fu 283 (iI b1) M) hI (by omega) (by unfold f_L_setBudget; rw [H10, Option.bind_some]; exact w1 c1 hk) c3 c2 (fun h => setBudgetR_eq (by omega) h i1) (GX_bud hI.gx) (HX_hist hI.gx hI.hx)
theorem gc_9 (hfu : 200000 ≤ fu) (hI : INV m x H L B) (s1 : sGet xs (a5 + 1) = some (iI b1)) (i1 : i32 b1) : GO (g_9 fu xs 0 283 294 295 a5 (mem w m) K) K := by
  have hG := hI.gx.1
  have hJ := hI.gx.2
  have hk : 0 ≤ (qDraft x b1).1 ∧ (qDraft x b1).1 ≤ 2 := by
    unfold qDraft
    repeat' split
    all_goals simp
  obtain ⟨m1, c1, c3, c2⟩ := draft_eq (w := w) (fu := fu) (by omega) hI.ci hG i1
  unfold g_9
  simp only [s1, Option.bind_some]
  exact master (rf := fun M => f_X11_draft fu 283 (iI b1) M) hI (by omega) (by unfold f_L_draft; rw [H10, Option.bind_some]; exact w2 c1 hk (by decide)) c3 c2 (fun h => draftR_eq (by omega) h hG i1) (GX_draft hI.gx) (HX_hist hI.gx hI.hx)
theorem gc_10 (hfu : 200000 ≤ fu) (hI : INV m x H L B) : GO (g_10 fu xs 0 283 294 295 a5 (mem w m) K) K := by
  have hG := hI.gx.1
  have hJ := hI.gx.2
  have hk : 0 ≤ (qDrop x).1 ∧ (qDrop x).1 ≤ 1 := by
    unfold qDrop
    repeat' split
    all_goals simp
  obtain ⟨m1, c1, c3, c2⟩ := drop_eq (w := w) (fu := fu) (by omega) hI.ci
  unfold g_10
  exact master (rf := fun M => f_X11_drop fu 283  M) hI (by omega) (by unfold f_L_drop; rw [H10, Option.bind_some]; exact w1 c1 hk) c3 c2 (fun h => dropR_eq (by omega) h) (GX_drop hI.gx) (HX_hist hI.gx hI.hx)
theorem gc_12 (hfu : 200000 ≤ fu) (hI : INV m x H L B) : GO (g_12 fu xs 0 283 294 295 a5 (mem w m) K) K := by
  have hG := hI.gx.1
  have hJ := hI.gx.2
  have hk : 0 ≤ (qTell x).1 ∧ (qTell x).1 ≤ 1 := by
    unfold qTell
    repeat' split
    all_goals simp
  obtain ⟨m1, c1, c3, c2⟩ := tell_eq (w := w) (fu := fu) (by omega) hI.ci hG
  unfold g_12
  exact master (rf := fun M => f_X11_tell fu 283  M) hI (by omega) (by unfold f_L_tell; rw [H10, Option.bind_some]; exact w1 c1 hk) c3 c2 (fun h => tellR_eq (by omega) h hG) (GX_tell hI.gx) (HX_hist hI.gx hI.hx)
theorem gc_13 (hfu : 200000 ≤ fu) (hI : INV m x H L B) (s1 : sGet xs (a5 + 1) = some (iI b1)) (i1 : i32 b1) : GO (g_13 fu xs 0 283 294 295 a5 (mem w m) K) K := by
  have hG := hI.gx.1
  have hJ := hI.gx.2
  have hk : 0 ≤ (qForget x b1).1 ∧ (qForget x b1).1 ≤ 1 := by
    unfold qForget
    repeat' split
    all_goals simp
  obtain ⟨m1, c1, c3, c2⟩ := forgetR_eq (w := w) (fu := fu) (by omega) hI.ci i1
  unfold g_13
  simp only [s1, Option.bind_some]
  exact master (rf := fun M => f_X11_forget fu 283 (iI b1) M) hI (by omega) (by unfold f_L_forget; rw [H10, Option.bind_some]; exact w1 c1 hk) c3 c2 (fun h => forgetR_eq' (by omega) h i1) (GX_forget hI.gx) (HX_hist hI.gx hI.hx)
theorem gc_14 (hfu : 200000 ≤ fu) (hI : INV m x H L B) (s1 : sGet xs (a5 + 1) = some (iI b1)) (i1 : i32 b1) (s2 : sGet xs (a5 + 2) = some (iI b2)) (i2 : i32 b2) : GO (g_14 fu xs 0 283 294 295 a5 (mem w m) K) K := by
  have hG := hI.gx.1
  have hJ := hI.gx.2
  have hk : 0 ≤ (qRouteArc x b1 b2).1 ∧ (qRouteArc x b1 b2).1 ≤ 1 := by
    unfold qRouteArc
    repeat' split
    all_goals simp
  have c1 := routeArc_eq (w := w) (fu := fu) hI.ci i1 i2
  have c2 := hI.ci
  have c3 : sameC m m := sC_rf
  unfold g_14
  simp only [s1, s2, Option.bind_some]
  exact master (rf := fun M => f_X11_routeArc fu 283 (iI b1) (iI b2) M) hI (by omega) (by unfold f_L_routeArc; rw [H10, Option.bind_some]; exact w1 c1 hk) c3 c2 (fun h => routeArcR_eq h i1 i2) hI.gx hI.hx
theorem gc_15 (hfu : 200000 ≤ fu) (hI : INV m x H L B) (s1 : sGet xs (a5 + 1) = some (iI b1)) (i1 : i32 b1) (s2 : sGet xs (a5 + 2) = some (iI b2)) (i2 : i32 b2) : GO (g_15 fu xs 0 283 294 295 a5 (mem w m) K) K := by
  have hG := hI.gx.1
  have hJ := hI.gx.2
  have hk : 0 ≤ (qRoute x b1 b2).1 ∧ (qRoute x b1 b2).1 ≤ 2 := by
    unfold qRoute
    repeat' split
    all_goals simp
  obtain ⟨m1, c1, c2, c3⟩ := route_eq (w := w) (fu := fu) (by omega) hI.ci hG i1 i2
  unfold g_15
  simp only [s1, s2, Option.bind_some]
  exact master (rf := fun M => f_X11_route fu 283 (iI b1) (iI b2) M) hI (by omega) (by unfold f_L_route; rw [H10, Option.bind_some]; exact w2 c1 hk (by decide)) c3 c2 (fun h => routeR_eq (by omega) h hG i1 i2) hI.gx hI.hx
theorem gc_16 (hfu : 200000 ≤ fu) (hI : INV m x H L B) (s1 : sGet xs (a5 + 1) = some (iI b1)) (i1 : i32 b1) (s2 : sGet xs (a5 + 2) = some (iI b2)) (i2 : i32 b2) : GO (g_16 fu xs 0 283 294 295 a5 (mem w m) K) K := by
  have hG := hI.gx.1
  have hJ := hI.gx.2
  have hk : 0 ≤ (qCost x b1 b2).1 ∧ (qCost x b1 b2).1 ≤ 1 := by
    unfold qCost
    repeat' split
    all_goals simp
  have c1 := cost_eq (w := w) (fu := fu) (v := b2) (by omega) hI.ci hG i1
  have c2 := hI.ci
  have c3 : sameC m m := sC_rf
  unfold g_16
  simp only [s1, s2, Option.bind_some]
  exact master (rf := fun M => f_X11_cost fu 283 (iI b1) (iI b2) M) hI (by omega) (by unfold f_L_cost; rw [H10, Option.bind_some]; exact w1 c1 hk) c3 c2 (fun h => costR_eq (by omega) h hG i1) hI.gx hI.hx
theorem gc_17 (hfu : 200000 ≤ fu) (hI : INV m x H L B) : GO (g_17 fu xs 0 283 294 295 a5 (mem w m) K) K := by
  have hG := hI.gx.1
  have hJ := hI.gx.2
  have hk : 0 ≤ (qChosen x).1 ∧ (qChosen x).1 ≤ 1 := by
    unfold qChosen
    repeat' split
    all_goals simp
  obtain ⟨m1, c1, c2, c3⟩ := chosen_eq (w := w) (fu := fu) (by omega) hI.ci hG
  unfold g_17
  exact master (rf := fun M => f_X11_chosen fu 283  M) hI (by omega) (by unfold f_L_chosen; rw [H10, Option.bind_some]; exact w1 c1 hk) c3 c2 (fun h => chosenR_eq (by omega) h hG) hI.gx hI.hx
theorem gc_20 (hfu : 200000 ≤ fu) (hI : INV m x H L B) (s1 : sGet xs (a5 + 1) = some (iI b1)) (i1 : i32 b1) : GO (g_20 fu xs 0 283 294 295 a5 (mem w m) K) K := by
  have hG := hI.gx.1
  have hJ := hI.gx.2
  have hk : 0 ≤ (qShortest x b1).1 ∧ (qShortest x b1).1 ≤ 1 := by
    unfold qShortest
    repeat' split
    all_goals simp
  obtain ⟨m1, c1, c2, c3⟩ := shortest_eq (w := w) (fu := fu) (v := b1) (by omega) hI.ci hG
  unfold g_20
  simp only [s1, Option.bind_some]
  exact master (rf := fun M => f_X11_shortest fu 283 (iI b1) M) hI (by omega) (by unfold f_L_shortest; rw [H10, Option.bind_some]; exact w1 c1 hk) c3 c2 (fun h => shortestR_eq (by omega) h) hI.gx hI.hx
theorem gc_21 (hfu : 200000 ≤ fu) (hI : INV m x H L B) (s1 : sGet xs (a5 + 1) = some (iI b1)) (i1 : i32 b1) : GO (g_21 fu xs 0 283 294 295 a5 (mem w m) K) K := by
  have hG := hI.gx.1
  have hJ := hI.gx.2
  have hk : 0 ≤ (qBest x 0 b1).1 ∧ (qBest x 0 b1).1 ≤ 2 := by
    unfold qBest
    repeat' split
    all_goals simp
  obtain ⟨m1, c1, c2, c3⟩ := robust_eq (w := w) (fu := fu) (by omega) hI.ci hG i1
  unfold g_21
  simp only [s1, Option.bind_some]
  exact master (rf := fun M => f_X11_robust fu 283 (iI b1) M) hI (by omega) (by unfold f_L_robust; rw [H10, Option.bind_some]; exact w2 c1 hk (by decide)) c3 c2 (fun h => robustR_eq (by omega) h hG i1) hI.gx hI.hx
theorem gc_22 (hfu : 200000 ≤ fu) (hI : INV m x H L B) (s1 : sGet xs (a5 + 1) = some (iI b1)) (i1 : i32 b1) : GO (g_22 fu xs 0 283 294 295 a5 (mem w m) K) K := by
  have hG := hI.gx.1
  have hJ := hI.gx.2
  have hk : 0 ≤ (qBest x 1 b1).1 ∧ (qBest x 1 b1).1 ≤ 2 := by
    unfold qBest
    repeat' split
    all_goals simp
  obtain ⟨m1, c1, c2, c3⟩ := calm_eq (w := w) (fu := fu) (by omega) hI.ci hG i1
  unfold g_22
  simp only [s1, Option.bind_some]
  exact master (rf := fun M => f_X11_calm fu 283 (iI b1) M) hI (by omega) (by unfold f_L_calm; rw [H10, Option.bind_some]; exact w2 c1 hk (by decide)) c3 c2 (fun h => calmR_eq (by omega) h hG i1) hI.gx hI.hx
theorem gc_25 (hfu : 200000 ≤ fu) (hI : INV m x H L B) (s1 : sGet xs (a5 + 1) = some (iI b1)) (i1 : i32 b1) (s2 : sGet xs (a5 + 2) = some (iI b2)) (i2 : i32 b2) : GO (g_25 fu xs 0 283 294 295 a5 (mem w m) K) K := by
  have hG := hI.gx.1
  have hJ := hI.gx.2
  have hk : 0 ≤ (qValue x b1 b2).1 ∧ (qValue x b1 b2).1 ≤ 2 := by
    unfold qValue
    repeat' split
    all_goals simp
  obtain ⟨m1, c1, c2, c3⟩ := value_eq (w := w) (fu := fu) (by omega) hI.ci i1 i2
  unfold g_25
  simp only [s1, s2, Option.bind_some]
  exact master (rf := fun M => f_X11_value fu 283 (iI b1) (iI b2) M) hI (by omega) (by unfold f_L_value; rw [H10, Option.bind_some]; exact w2 c1 hk (by decide)) c3 c2 (fun h => valueR_eq (by omega) h i1 i2) hI.gx hI.hx
theorem gc_26 (hfu : 200000 ≤ fu) (hI : INV m x H L B) (s1 : sGet xs (a5 + 1) = some (iI b1)) (i1 : i32 b1) (s2 : sGet xs (a5 + 2) = some (iI b2)) (i2 : i32 b2) : GO (g_26 fu xs 0 283 294 295 a5 (mem w m) K) K := by
  have hG := hI.gx.1
  have hJ := hI.gx.2
  have hk : 0 ≤ (qNext x b1 b2).1 ∧ (qNext x b1 b2).1 ≤ 2 := by
    unfold qNext
    repeat' split
    all_goals simp
  obtain ⟨m1, c1, c2, c3⟩ := bestNext_eq (w := w) (fu := fu) (by omega) hI.ci i1 i2
  unfold g_26
  simp only [s1, s2, Option.bind_some]
  exact master (rf := fun M => f_X11_bestNext fu 283 (iI b1) (iI b2) M) hI (by omega) (by unfold f_L_bestNext; rw [H10, Option.bind_some]; exact w2 c1 hk (by decide)) c3 c2 (fun h => bestNextR_eq (by omega) h i1 i2) hI.gx hI.hx
theorem gc_29 (hfu : 200000 ≤ fu) (hI : INV m x H L B) : GO (g_29 fu xs 0 283 294 295 a5 (mem w m) K) K := by
  have hG := hI.gx.1
  have hJ := hI.gx.2
  have hk : 0 ≤ (qPromise x).1 ∧ (qPromise x).1 ≤ 1 := by
    unfold qPromise
    repeat' split
    all_goals simp
  obtain ⟨m1, c1, c2, c3⟩ := promise_eq (w := w) (fu := fu) (by omega) hI.ci hG hJ.1
  unfold g_29
  exact master (rf := fun M => f_X11_promise fu 283  M) hI (by omega) (by unfold f_L_promise; rw [H10, Option.bind_some]; exact w1 c1 hk) c3 c2 (fun h => promiseR_eq (by omega) h hG hJ.1) hI.gx hI.hx
theorem gc_30 (hfu : 200000 ≤ fu) (hI : INV m x H L B) (s1 : sGet xs (a5 + 1) = some (iI b1)) (i1 : i32 b1) : GO (g_30 fu xs 0 283 294 295 a5 (mem w m) K) K := by
  have hG := hI.gx.1
  have hJ := hI.gx.2
  have hk : 0 ≤ (qGrief x b1).1 ∧ (qGrief x b1).1 ≤ 2 := by
    unfold qGrief
    repeat' split
    all_goals simp
  obtain ⟨m1, c1, c2, c3⟩ := grief_eq (w := w) (fu := fu) (by omega) hI.ci hG hJ.1 i1
  unfold g_30
  simp only [s1, Option.bind_some]
  exact master (rf := fun M => f_X11_grief fu 283 (iI b1) M) hI (by omega) (by unfold f_L_grief; rw [H10, Option.bind_some]; exact w2 c1 hk (by decide)) c3 c2 (fun h => griefR_eq (by omega) h hG hJ.1 hJ.2 i1) hI.gx hI.hx
theorem gc_32 (hfu : 200000 ≤ fu) (hI : INV m x H L B) (s1 : sGet xs (a5 + 1) = some (iI b1)) (i1 : i32 b1) : GO (g_32 fu xs 0 283 294 295 a5 (mem w m) K) K := by
  have hG := hI.gx.1
  have hJ := hI.gx.2
  have hk : 0 ≤ (qByte L b1).1 ∧ (qByte L b1).1 ≤ 1 := by
    unfold qByte
    repeat' split
    all_goals simp
  have c1 := writtenByte_eq (w := w) (fu := fu) hI.wr i1
  have c2 := hI.ci
  have c3 : sameC m m := sC_rf
  unfold g_32
  simp only [s1, Option.bind_some]
  exact master (rf := fun M => f_X11_writtenByte fu 283 (iI b1) M) hI (by omega) (by unfold f_L_writtenByte; rw [H10, Option.bind_some]; exact w1 c1 hk) c3 c2 (fun h => writtenByteR_eq h (WRr_fr hI.wrr rfl rfl) i1) hI.gx hI.hx
end LX
