section CM
variable {w : Wl} {m : Mm} {fu : Nat} {x : Sg} {H : List Sg} {v a : Int}
theorem noC (hC : CI m x H) {ns : List String} {k v : Int} (hk : k ≠ 0) : ∃ m', (some (xr ns k v, mem w m) : Option (Except String Int32 × List Ob)) = some (xr ns k v, mem w m') ∧ sameC m m' ∧ CI m' x (hist k x H) := ⟨m, rfl, fun _ _ => rfl, by unfold hist; rw [if_neg hk]; exact hC⟩
def qDel (x : Sg) (a : Int) : Int × Int × Sg := if ¬ (0 ≤ a ∧ a < nA (sN x)) then (1, 0, x) else if usesA x a then (2, 0, x) else (0, nA (sN x) - 1, (delN (sN x) a, rhoR a (sR x), (sD x).map (rho a), []))
theorem removeArc_eq (hfu : 100 ≤ fu) (hC : CI m x H) (hG : WG x) (ha : i32 a) : ∃ m', f_X10_removeArc fu 0 (iI a) (mem w m) = some (xr [eIO, eIS] (qDel x a).1 (qDel x a).2.1, mem w m') ∧ sameC m m' ∧ CI m' (qDel x a).2.2 (hist (qDel x a).1 x H) := by
  have hN := hC.1.2.1
  have hw := hN.2.2.1
  have hS := hC.1.1
  unfold f_X10_removeArc qDel
  rw [H10, Option.bind_some, reqArc_eq hC ha]
  by_cases c1 : 0 ≤ a ∧ a < nA (sN x)
  · rw [if_pos c1, if_neg (fun q => q c1), bdX_ok]
    simp (disch := omega) only [Option.bind_some, bd2_some, bdX_ok, bdX_er, nm_eq, n_0, n_1, n_2, n_3, n_4, n_5, n_6, n_7, n_8, n_9, n_10, n_11, n_12, n_14, n_15, n_16, n_17, n_18, n_19, n_20, n_21, n_24, n_27, n_28, n_32, n_43, n_45, n_48, n_56, n_57, n_59, n_64, n_70, n_97, n_99, n_100, n_104, n_118, n_122, n_126, n_127, n_128, n_129, n_130, n_150, n_255, n_600, n_1000, n_1050, n_1200, n_999999, n_1000000, iI_neg, iI_add, iI_sub, iI_mul, ile, ilt, ieq, G10_0, S_has hS, usesArc_eq (w := w) hfu hC.1 hG.tok (pOK_AOK hG.2.2.1) (v := a) (by omega)]
    cases hu : usesA x a with
    | true =>
      rw [show b2 true = 1 from rfl]
      simp (disch := omega) only [Option.bind_some, bd2_some, bdX_ok, bdX_er, nm_eq, n_0, n_1, n_2, n_3, n_4, n_5, n_6, n_7, n_8, n_9, n_10, n_11, n_12, n_14, n_15, n_16, n_17, n_18, n_19, n_20, n_21, n_24, n_27, n_28, n_32, n_43, n_45, n_48, n_56, n_57, n_59, n_64, n_70, n_97, n_99, n_100, n_104, n_118, n_122, n_126, n_127, n_128, n_129, n_130, n_150, n_255, n_600, n_1000, n_1050, n_1200, n_999999, n_1000000, iI_neg, iI_add, iI_sub, iI_mul, ile, ilt, ieq]
      rw [if_neg (by first | exact not_false | omega | decide), if_pos (by first | exact trivial | omega | decide)]
      exact noC hC (ns := [eIO, eIS]) (k := 2) (v := 0) (by decide)
    | false =>
      rw [show b2 false = 0 from rfl]
      simp (disch := omega) only [Option.bind_some, bd2_some, bdX_ok, bdX_er, nm_eq, n_0, n_1, n_2, n_3, n_4, n_5, n_6, n_7, n_8, n_9, n_10, n_11, n_12, n_14, n_15, n_16, n_17, n_18, n_19, n_20, n_21, n_24, n_27, n_28, n_32, n_43, n_45, n_48, n_56, n_57, n_59, n_64, n_70, n_97, n_99, n_100, n_104, n_118, n_122, n_126, n_127, n_128, n_129, n_130, n_150, n_255, n_600, n_1000, n_1050, n_1200, n_999999, n_1000000, iI_neg, iI_add, iI_sub, iI_mul, ile, ilt, ieq]
      rw [if_pos (by first | exact trivial | omega | decide), if_neg (by first | exact not_false | omega | decide)]
      obtain ⟨m1, p1, p2, p3, p4, p5, p6, p7⟩ := begin_eq (w := w) hfu hC
      obtain ⟨m2, q1, q2, q3, q4, q5⟩ := takeArcOut_eq (w := w) (fu := fu) hfu p3 hG.tok (pOK_AOK hG.2.2.1) c1
      obtain ⟨m3, r1, r2, r3⟩ := restartC (w := w) (fu := fu) hS q3 q4 q5
      have hN3 := r3.2.1
      simp (disch := omega) only [Option.bind_some, bd2_some, bdX_ok, bdX_er, nm_eq, n_0, n_1, n_2, n_3, n_4, n_5, n_6, n_7, n_8, n_9, n_10, n_11, n_12, n_14, n_15, n_16, n_17, n_18, n_19, n_20, n_21, n_24, n_27, n_28, n_32, n_43, n_45, n_48, n_56, n_57, n_59, n_64, n_70, n_97, n_99, n_100, n_104, n_118, n_122, n_126, n_127, n_128, n_129, n_130, n_150, n_255, n_600, n_1000, n_1050, n_1200, n_999999, n_1000000, iI_neg, iI_add, iI_sub, iI_mul, ile, ilt, ieq, H10, p1, G10_0, S_0 hS, S_4 hS, S_has hS, N_has hN.1, q1, J_has (S_J hS), r1, K_4 hN3]
      refine ⟨m3, rfl, fun p hp => ?_, CI_new p4 p5 p6 p7 (fun p hp => by rw [r2 p (by omega), q2 p (by omega)]) r3⟩
      rw [r2 p (by omega), q2 p (by omega)]; exact p2 p hp
  · rw [if_neg c1, if_pos (fun q => c1 q), bdX_er]; exact noC hC (ns := [eIO, eIS]) (k := 1) (v := 0) (by decide)
def qSet (x : Sg) (a c e : Int) : Int × Int × Sg := if ¬ (0 ≤ a ∧ a < nA (sN x)) then (1, 0, x) else if ¬ ((0 ≤ c ∧ c ≤ 99) ∧ 0 ≤ e ∧ e ≤ 99) then (2, 0, x) else (0, 100 * aCo (sN x) a + aEx (sN x) a, (setN (sN x) a c e, sR x, sD x, []))
theorem netC_set {p : Nat} {N : Nt} {m1 : Mm} (hN : isNet m1 p N) {a c e : Int} (ha : 0 ≤ a ∧ a < nA N) : netC (up (up m1 (p + 3) a c) (p + 4) a e) p = setN N a c e := by
  have h4 : m1 p 4 = nA N := by rw [← hN.2.1]; rfl
  unfold netC setN
  simp (disch := omega) only [up_ne, up_row]
  rw [cut_upd ha.1 (by rw [h4]; exact ha.2), cut_upd ha.1 (by rw [h4]; exact ha.2)]
  rw [← hN.2.1]
  rfl
theorem setArc_eq (hfu : 100 ≤ fu) (hC : CI m x H) {c e : Int} (ha : i32 a) (hc : i32 c) (he : i32 e) : ∃ m', f_X10_setArc fu 0 (iI a) (iI c) (iI e) (mem w m) = some (xr [eIO, eIA] (qSet x a c e).1 (qSet x a c e).2.1, mem w m') ∧ sameC m m' ∧ CI m' (qSet x a c e).2.2 (hist (qSet x a c e).1 x H) := by
  have hN := hC.1.2.1
  have hw := hN.2.2.1
  have hS := hC.1.1
  unfold f_X10_setArc qSet
  rw [H10, Option.bind_some, reqArc_eq hC ha]
  by_cases c1 : 0 ≤ a ∧ a < nA (sN x)
  · rw [if_pos c1, if_neg (fun q => q c1), bdX_ok, reqCosts_eq hc he]
    by_cases c2 : (0 ≤ c ∧ c ≤ 99) ∧ 0 ≤ e ∧ e ≤ 99
    · rw [if_pos c2, if_neg (fun q => q c2), bdX_ok]
      obtain ⟨m1, p1, p2, p3, p4, p5, p6, p7⟩ := begin_eq (w := w) hfu hC
      obtain ⟨y1, y2, y3, y4, y5⟩ := p3
      have hN2 : isNet (up (up m1 (1 + 1 + 3) a c) (1 + 1 + 4) a e) (1 + 1) (setN (sN x) a c e) := ⟨y2.1, netC_set y2 c1, setN_wf y2.2.2 (by omega) (by omega)⟩
      have fr : ∀ p, p ≠ 5 → p ≠ 6 → (up (up m1 (1 + 1 + 3) a c) (1 + 1 + 4) a e) p = m1 p := fun p h5 h6 => by rw [up_ne (by omega), up_ne (by omega)]
      obtain ⟨m3, r1, r2, r3⟩ := restartC (w := w) (fu := fu) hS hN2 (y3.cong2 (fr _ (by omega) (by omega)) (fun p a b => fr p (by omega) (by omega))) (y4.cong (fr _ (by omega) (by omega)) (fr _ (by omega) (by omega)))
      have s1 : ∀ v, aSet (mem w m1) (1 + 1 + 3) 13 (iI a) (.int (iI v)) = some (mem w (up m1 (1 + 1 + 3) a v)) := fun v => N_sco y2.1 c1.1 (by omega)
      have s2 : ∀ v, aSet (mem w (up m1 (1 + 1 + 3) a c)) (1 + 1 + 4) 13 (iI a) (.int (iI v)) = some (mem w (up (up m1 (1 + 1 + 3) a c) (1 + 1 + 4) a v)) := fun v => N_sex y2.1 c1.1 (by omega)
      simp (disch := omega) only [Option.bind_some, bd2_some, bdX_ok, bdX_er, nm_eq, n_0, n_1, n_2, n_3, n_4, n_5, n_6, n_7, n_8, n_9, n_10, n_11, n_12, n_14, n_15, n_16, n_17, n_18, n_19, n_20, n_21, n_24, n_27, n_28, n_32, n_43, n_45, n_48, n_56, n_57, n_59, n_64, n_70, n_97, n_99, n_100, n_104, n_118, n_122, n_126, n_127, n_128, n_129, n_130, n_150, n_255, n_600, n_1000, n_1050, n_1200, n_999999, n_1000000, iI_neg, iI_add, iI_sub, iI_mul, ile, ilt, ieq, H10, p1, G10_0, S_0 hS, S_4 hS, K_has hN, K_0 hN, K_1 hN, K_2 hN, K_3 hN, K_4 hN, K_5 hN, K_6 hN, K_7 hN, K_8 hN, K_tl hN, K_hd hN, K_co hN, K_ex hN, N_7 hN.1, N_8 hN.1, s1, s2, J_has (S_J hS), r1]
      refine ⟨m3, rfl, fun p hp => ?_, CI_new p4 p5 p6 p7 (fun p hp => by rw [r2 p (by omega), fr p (by omega) (by omega)]) r3⟩
      rw [r2 p (by omega), fr p (by omega) (by omega)]; exact p2 p hp
    · rw [if_neg c2, if_pos (fun q => c2 q), bdX_er]; exact noC hC (ns := [eIO, eIA]) (k := 2) (v := 0) (by decide)
  · rw [if_neg c1, if_pos (fun q => c1 q), bdX_er]; exact noC hC (ns := [eIO, eIA]) (k := 1) (v := 0) (by decide)
def qBud (x : Sg) (v : Int) : Int × Int × Sg := if ¬ (0 ≤ v ∧ v ≤ 6) then (1, 0, x) else (0, nB (sN x), (budN (sN x) v, sR x, sD x, []))
theorem netC_bud {p : Nat} {N : Nt} {m1 : Mm} (hN : isNet m1 p N) : netC (up m1 p 3 v) p = budN N v := by
  unfold netC budN
  simp (disch := omega) only [up_ne, up_off, up_at]
  rw [← hN.2.1]
  rfl
theorem setBudget_eq (hfu : 100 ≤ fu) (hC : CI m x H) (hv : i32 v) : ∃ m', f_X10_setBudget fu 0 (iI v) (mem w m) = some (xr [eIA] (qBud x v).1 (qBud x v).2.1, mem w m') ∧ sameC m m' ∧ CI m' (qBud x v).2.2 (hist (qBud x v).1 x H) := by
  have hN := hC.1.2.1
  have hw := hN.2.2.1
  have hS := hC.1.1
  unfold f_X10_setBudget qBud
  rw [reqBudget_eq hv]
  by_cases c1 : 0 ≤ v ∧ v ≤ 6
  · rw [if_pos c1, if_neg (fun q => q c1), bdX_ok]
    obtain ⟨m1, p1, p2, p3, p4, p5, p6, p7⟩ := begin_eq (w := w) hfu hC
    obtain ⟨y1, y2, y3, y4, y5⟩ := p3
    have hN2 : isNet (up m1 (1 + 1) 3 v) (1 + 1) (budN (sN x) v) := ⟨y2.1, netC_bud y2, budN_wf y2.2.2 c1⟩
    have fr : ∀ p, p ≠ 2 → (up m1 (1 + 1) 3 v) p = m1 p := fun p h5 => by rw [up_ne (by omega)]
    obtain ⟨m3, r1, r2, r3⟩ := restartC (w := w) (fu := fu) hS hN2 (y3.cong2 (fr _ (by omega)) (fun p a b => fr p (by omega))) (y4.cong (fr _ (by omega)) (fr _ (by omega)))
    simp (disch := omega) only [Option.bind_some, bd2_some, bdX_ok, bdX_er, nm_eq, n_0, n_1, n_2, n_3, n_4, n_5, n_6, n_7, n_8, n_9, n_10, n_11, n_12, n_14, n_15, n_16, n_17, n_18, n_19, n_20, n_21, n_24, n_27, n_28, n_32, n_43, n_45, n_48, n_56, n_57, n_59, n_64, n_70, n_97, n_99, n_100, n_104, n_118, n_122, n_126, n_127, n_128, n_129, n_130, n_150, n_255, n_600, n_1000, n_1050, n_1200, n_999999, n_1000000, iI_neg, iI_add, iI_sub, iI_mul, ile, ilt, ieq, H10, p1, G10_0, S_0 hS, S_4 hS, K_has hN, K_0 hN, K_1 hN, K_2 hN, K_3 hN, K_4 hN, K_5 hN, K_6 hN, K_7 hN, K_8 hN, K_tl hN, K_hd hN, K_co hN, K_ex hN, N_p3 hN.1, J_has (S_J hS), r1]
    refine ⟨m3, rfl, fun p hp => ?_, CI_new p4 p5 p6 p7 (fun p hp => by rw [r2 p (by omega), fr p (by omega)]) r3⟩
    rw [r2 p (by omega), fr p (by omega)]; exact p2 p hp
  · rw [if_neg c1, if_pos (fun q => c1 q), bdX_er]; exact noC hC (ns := [eIA]) (k := 1) (v := 0) (by decide)
def qDraft (x : Sg) (a : Int) : Int × Int × Sg := if ¬ (0 ≤ a ∧ a < nA (sN x)) then (1, 0, x) else if canFol (sN x) (sD x) a then (0, aHd (sN x) a, (sN x, sR x, sD x ++ [a], sJ x)) else (2, 0, x)
theorem draft_eq (hfu : 100 ≤ fu) (hC : CI m x H) (hG : WG x) (ha : i32 a) : ∃ m', f_X10_draft fu 0 (iI a) (mem w m) = some (xr [eIO, eIS] (qDraft x a).1 (qDraft x a).2.1, mem w m') ∧ sameC m m' ∧ CI m' (qDraft x a).2.2 (hist (qDraft x a).1 x H) := by
  have hN := hC.1.2.1
  have hw := hN.2.2.1
  have hS := hC.1.1
  have hD := hC.1.2.2.2.1
  have hl := pOK_AOK hG.2.2.1
  unfold f_X10_draft qDraft
  rw [H10, Option.bind_some, reqArc_eq hC ha]
  by_cases c1 : 0 ≤ a ∧ a < nA (sN x)
  · rw [if_pos c1, if_neg (fun q => q c1), bdX_ok]
    simp (disch := omega) only [Option.bind_some, bd2_some, bdX_ok, bdX_er, nm_eq, n_0, n_1, n_2, n_3, n_4, n_5, n_6, n_7, n_8, n_9, n_10, n_11, n_12, n_14, n_15, n_16, n_17, n_18, n_19, n_20, n_21, n_24, n_27, n_28, n_32, n_43, n_45, n_48, n_56, n_57, n_59, n_64, n_70, n_97, n_99, n_100, n_104, n_118, n_122, n_126, n_127, n_128, n_129, n_130, n_150, n_255, n_600, n_1000, n_1050, n_1200, n_999999, n_1000000, iI_neg, iI_add, iI_sub, iI_mul, ile, ilt, ieq, G10_0, S_0 hS, S_1 hS, K_has hN, K_0 hN, K_1 hN, K_2 hN, K_3 hN, K_4 hN, K_5 hN, K_6 hN, K_7 hN, K_8 hN, K_tl hN, K_hd hN, K_co hN, K_ex hN, canFollow_eq (w := w) hfu hN hD hl c1.1 c1.2]
    cases hc : canFol (sN x) (sD x) a with
    | false =>
      rw [show b2 false = 0 from rfl]
      simp (disch := omega) only [Option.bind_some, bd2_some, bdX_ok, bdX_er, nm_eq, n_0, n_1, n_2, n_3, n_4, n_5, n_6, n_7, n_8, n_9, n_10, n_11, n_12, n_14, n_15, n_16, n_17, n_18, n_19, n_20, n_21, n_24, n_27, n_28, n_32, n_43, n_45, n_48, n_56, n_57, n_59, n_64, n_70, n_97, n_99, n_100, n_104, n_118, n_122, n_126, n_127, n_128, n_129, n_130, n_150, n_255, n_600, n_1000, n_1050, n_1200, n_999999, n_1000000, iI_neg, iI_add, iI_sub, iI_mul, ile, ilt, ieq]
      rw [if_pos (by first | exact trivial | omega | decide), if_neg (by first | exact not_false | omega | decide)]
      exact noC hC (ns := [eIO, eIS]) (k := 2) (v := 0) (by decide)
    | true =>
      rw [show b2 true = 1 from rfl]
      simp (disch := omega) only [Option.bind_some, bd2_some, bdX_ok, bdX_er, nm_eq, n_0, n_1, n_2, n_3, n_4, n_5, n_6, n_7, n_8, n_9, n_10, n_11, n_12, n_14, n_15, n_16, n_17, n_18, n_19, n_20, n_21, n_24, n_27, n_28, n_32, n_43, n_45, n_48, n_56, n_57, n_59, n_64, n_70, n_97, n_99, n_100, n_104, n_118, n_122, n_126, n_127, n_128, n_129, n_130, n_150, n_255, n_600, n_1000, n_1050, n_1200, n_999999, n_1000000, iI_neg, iI_add, iI_sub, iI_mul, ile, ilt, ieq]
      rw [if_neg (by first | exact not_false | omega | decide), if_pos (by first | exact trivial | omega | decide)]
      obtain ⟨m1, p1, p2, p3, p4, p5, p6, p7⟩ := begin_eq (w := w) hfu hC
      obtain ⟨y1, y2, y3, y4, y5⟩ := p3
      have h6 := pOK_len6 hG.1 hG.2.2.1 c1.1 c1.2 hc
      have hpush := push_eq (w := w) (fu := fu) (a := a) y4 (by omega)
      have hq2 := push_is (a := a) y4 (by omega)
      generalize hm2 : up (up m1 (1 + 6 + 1) (sD x).length a) (1 + 6) 1 ((sD x).length + 1) = m2 at hpush hq2
      have fr : ∀ p, p ≠ 7 → p ≠ 8 → m2 p = m1 p := fun p h5 h6 => by rw [← hm2, up_ne (by omega), up_ne (by omega)]
      have hN2 : isNet m2 (1 + 1) (sN x) := y2.cong (fr _ (by omega) (by omega)) (fr _ (by omega) (by omega)) (fr _ (by omega) (by omega)) (fr _ (by omega) (by omega)) (fr _ (by omega) (by omega))
      have hl2 : AOK (sN x) (sD x ++ [a]) := pOK_AOK (pOK_snoc hG.2.2.1 c1.1 c1.2 hc)
      simp (disch := omega) only [Option.bind_some, bd2_some, bdX_ok, bdX_er, nm_eq, n_0, n_1, n_2, n_3, n_4, n_5, n_6, n_7, n_8, n_9, n_10, n_11, n_12, n_14, n_15, n_16, n_17, n_18, n_19, n_20, n_21, n_24, n_27, n_28, n_32, n_43, n_45, n_48, n_56, n_57, n_59, n_64, n_70, n_97, n_99, n_100, n_104, n_118, n_122, n_126, n_127, n_128, n_129, n_130, n_150, n_255, n_600, n_1000, n_1050, n_1200, n_999999, n_1000000, iI_neg, iI_add, iI_sub, iI_mul, ile, ilt, ieq, H10, p1, G10_0, S_0 hS, S_1 hS, Q_len y4, Q_arr y4, Q_has y4, hpush, K_has hN2, K_0 hN2, K_1 hN2, K_2 hN2, K_3 hN2, K_4 hN2, K_5 hN2, K_6 hN2, K_7 hN2, K_8 hN2, K_tl hN2, K_hd hN2, K_co hN2, K_ex hN2, endOf_eq hN2 hq2 hl2, endOf_snoc]
      have hx2 : cRep m2 1 (sN x, sR x, sD x ++ [a], sJ x) := ⟨hS, hN2, y3.cong2 (fr _ (by omega) (by omega)) (fun p a b => fr p (by omega) (by omega)), hq2, y5.cong (fr _ (by omega) (by omega)) (fr _ (by omega) (by omega)) (fr _ (by omega) (by omega)) (fr _ (by omega) (by omega))⟩
      refine ⟨m2, rfl, fun p hp => ?_, CI_new p4 p5 p6 p7 (fun p hp => fr p (by omega) (by omega)) hx2⟩
      rw [fr p (by omega) (by omega)]; exact p2 p hp
  · rw [if_neg c1, if_pos (fun q => c1 q), bdX_er]; exact noC hC (ns := [eIO, eIS]) (k := 1) (v := 0) (by decide)
def qDrop (x : Sg) : Int × Int × Sg := if sD x = [] then (1, 0, x) else (0, ((sD x).length : Int) - 1, (sN x, sR x, (sD x).dropLast, sJ x))
theorem drop_eq (hfu : 100 ≤ fu) (hC : CI m x H) : ∃ m', f_X10_drop fu 0 (mem w m) = some (xr [eIS] (qDrop x).1 (qDrop x).2.1, mem w m') ∧ sameC m m' ∧ CI m' (qDrop x).2.2 (hist (qDrop x).1 x H) := by
  have hS := hC.1.1
  have hD := hC.1.2.2.2.1
  have h7 := hD.2.2.2
  unfold f_X10_drop qDrop
  simp (disch := omega) only [Option.bind_some, bd2_some, bdX_ok, bdX_er, nm_eq, n_0, n_1, n_2, n_3, n_4, n_5, n_6, n_7, n_8, n_9, n_10, n_11, n_12, n_14, n_15, n_16, n_17, n_18, n_19, n_20, n_21, n_24, n_27, n_28, n_32, n_43, n_45, n_48, n_56, n_57, n_59, n_64, n_70, n_97, n_99, n_100, n_104, n_118, n_122, n_126, n_127, n_128, n_129, n_130, n_150, n_255, n_600, n_1000, n_1050, n_1200, n_999999, n_1000000, iI_neg, iI_add, iI_sub, iI_mul, ile, ilt, ieq, G10_0, S_1 hS, Q_len hD, Q_arr hD, Q_has hD]
  by_cases c1 : sD x = []
  · rw [if_pos (by rw [c1]; rfl), if_pos c1]; exact noC hC (ns := [eIS]) (k := 1) (v := 0) (by decide)
  · have hl : 0 < (sD x).length := List.length_pos_iff.mpr c1
    rw [if_neg (by omega), if_neg c1]
    obtain ⟨m1, p1, p2, p3, p4, p5, p6, p7⟩ := begin_eq (w := w) hfu hC
    obtain ⟨y1, y2, y3, y4, y5⟩ := p3
    have ed : sD x = (sD x).dropLast ++ [(sD x).getLast c1] := (List.dropLast_concat_getLast c1).symm
    have y4' : isPth m1 (1 + 6) ((sD x).dropLast ++ [(sD x).getLast c1]) := by rw [← ed]; exact y4
    have hpop := pop_eq (w := w) (fu := fu) y4'
    have hq2 := pop_is y4'
    have hq2' := hq2
    generalize hm2 : up m1 (1 + 6) 1 ((sD x).dropLast.length : Int) = m2 at hpop hq2
    have fr : ∀ p, p ≠ 7 → m2 p = m1 p := fun p h5 => by rw [← hm2, up_ne (by omega)]
    simp (disch := omega) only [Option.bind_some, bd2_some, bdX_ok, bdX_er, nm_eq, n_0, n_1, n_2, n_3, n_4, n_5, n_6, n_7, n_8, n_9, n_10, n_11, n_12, n_14, n_15, n_16, n_17, n_18, n_19, n_20, n_21, n_24, n_27, n_28, n_32, n_43, n_45, n_48, n_56, n_57, n_59, n_64, n_70, n_97, n_99, n_100, n_104, n_118, n_122, n_126, n_127, n_128, n_129, n_130, n_150, n_255, n_600, n_1000, n_1050, n_1200, n_999999, n_1000000, iI_neg, iI_add, iI_sub, iI_mul, ile, ilt, ieq, H10, p1, G10_0, S_1 hS, Q_len y4, Q_arr y4, Q_has y4, hpop, Q_len hq2, Q_arr hq2, Q_has hq2]
    have hx2 : cRep m2 1 (sN x, sR x, (sD x).dropLast, sJ x) := ⟨hS, y2.cong (fr _ (by omega)) (fr _ (by omega)) (fr _ (by omega)) (fr _ (by omega)) (fr _ (by omega)), y3.cong2 (fr _ (by omega)) (fun p a b => fr p (by omega)), hq2, y5.cong (fr _ (by omega)) (fr _ (by omega)) (fr _ (by omega)) (fr _ (by omega))⟩
    refine ⟨m2, ?_, fun p hp => ?_, CI_new p4 p5 p6 p7 (fun p hp => fr p (by omega)) hx2⟩
    · unfold xr
      rw [if_pos rfl, List.length_dropLast]
      rw [show (((sD x).length - 1 : Nat) : Int) = ((sD x).length : Int) - 1 by omega]
    · rw [fr p (by omega)]; exact p2 p hp
def reasonF (x : Sg) : Int := if endOf (sN x) (sD x) = nT (sN x) then (if (sR x).any (fun y => decide (y = sD x)) then 2 else if (sR x).length < 6 then 0 else 3) else 1
theorem reason_eq (hfu : 100 ≤ fu) (hC : CI m x H) (hG : WG x) : f_X10_reason fu 0 (mem w m) = some (iI (reasonF x), mem w m) := by
  have hS := hC.1.1
  have hN := hC.1.2.1
  have hw := hN.2.2.1
  have hT := hC.1.2.2.1
  have h6 := hT.2.2.1
  have hD := hC.1.2.2.2.1
  have hl := pOK_AOK hG.2.2.1
  have he := endOf_nn hG.1 hl
  unfold f_X10_reason reasonF
  simp (disch := omega) only [Option.bind_some, bd2_some, bdX_ok, bdX_er, nm_eq, n_0, n_1, n_2, n_3, n_4, n_5, n_6, n_7, n_8, n_9, n_10, n_11, n_12, n_14, n_15, n_16, n_17, n_18, n_19, n_20, n_21, n_24, n_27, n_28, n_32, n_43, n_45, n_48, n_56, n_57, n_59, n_64, n_70, n_97, n_99, n_100, n_104, n_118, n_122, n_126, n_127, n_128, n_129, n_130, n_150, n_255, n_600, n_1000, n_1050, n_1200, n_999999, n_1000000, iI_neg, iI_add, iI_sub, iI_mul, ile, ilt, ieq, G10_0, S_0 hS, S_1 hS, S_has hS, K_has hN, K_0 hN, K_1 hN, K_2 hN, K_3 hN, K_4 hN, K_5 hN, K_6 hN, K_7 hN, K_8 hN, K_tl hN, K_hd hN, K_co hN, K_ex hN, endOf_eq (w := w) (fu := fu) hN hD hl, wasTold_eq (w := w) hfu hT hG.tok hG.1 hD hl, S_3 hS, hT.2.1]
  by_cases c1 : endOf (sN x) (sD x) = nT (sN x)
  · rw [if_pos c1, if_pos c1]
    cases hc : (sR x).any (fun y => decide (y = sD x)) with
    | true => rw [show b2 true = 1 from rfl]; simp (disch := omega) only [Option.bind_some, bd2_some, bdX_ok, bdX_er, nm_eq, n_0, n_1, n_2, n_3, n_4, n_5, n_6, n_7, n_8, n_9, n_10, n_11, n_12, n_14, n_15, n_16, n_17, n_18, n_19, n_20, n_21, n_24, n_27, n_28, n_32, n_43, n_45, n_48, n_56, n_57, n_59, n_64, n_70, n_97, n_99, n_100, n_104, n_118, n_122, n_126, n_127, n_128, n_129, n_130, n_150, n_255, n_600, n_1000, n_1050, n_1200, n_999999, n_1000000, iI_neg, iI_add, iI_sub, iI_mul, ile, ilt, ieq]; rw [if_neg (by first | exact not_false | omega | decide), if_pos (by first | exact trivial | omega | decide)]
    | false =>
      rw [show b2 false = 0 from rfl]; simp (disch := omega) only [Option.bind_some, bd2_some, bdX_ok, bdX_er, nm_eq, n_0, n_1, n_2, n_3, n_4, n_5, n_6, n_7, n_8, n_9, n_10, n_11, n_12, n_14, n_15, n_16, n_17, n_18, n_19, n_20, n_21, n_24, n_27, n_28, n_32, n_43, n_45, n_48, n_56, n_57, n_59, n_64, n_70, n_97, n_99, n_100, n_104, n_118, n_122, n_126, n_127, n_128, n_129, n_130, n_150, n_255, n_600, n_1000, n_1050, n_1200, n_999999, n_1000000, iI_neg, iI_add, iI_sub, iI_mul, ile, ilt, ieq]; rw [if_pos (by first | exact trivial | omega | decide)]
      by_cases c2 : ((sR x).length : Int) < 6
      · rw [if_pos c2, if_neg (show ¬ (false = true) by decide), if_pos (by omega)]
      · rw [if_neg c2, if_neg (show ¬ (false = true) by decide), if_neg (by omega)]
  · rw [if_neg c1, if_neg c1]
def qTell (x : Sg) : Int × Int × Sg := if reasonF x = 0 then (0, (sR x).length, (sN x, sR x ++ [sD x], [], sJ x)) else (1, 0, x)
theorem tell_eq (hfu : 100 ≤ fu) (hC : CI m x H) (hG : WG x) : ∃ m', f_X10_tell fu 0 (mem w m) = some (xr [eIS] (qTell x).1 (qTell x).2.1, mem w m') ∧ sameC m m' ∧ CI m' (qTell x).2.2 (hist (qTell x).1 x H) := by
  have hS := hC.1.1
  have hr : 0 ≤ reasonF x ∧ reasonF x ≤ 3 := by unfold reasonF; split; split; omega; split <;> omega; omega
  unfold f_X10_tell qTell
  rw [H10, Option.bind_some, reason_eq hfu hC hG, bd2_some]
  simp (disch := omega) only [Option.bind_some, bd2_some, bdX_ok, bdX_er, nm_eq, n_0, n_1, n_2, n_3, n_4, n_5, n_6, n_7, n_8, n_9, n_10, n_11, n_12, n_14, n_15, n_16, n_17, n_18, n_19, n_20, n_21, n_24, n_27, n_28, n_32, n_43, n_45, n_48, n_56, n_57, n_59, n_64, n_70, n_97, n_99, n_100, n_104, n_118, n_122, n_126, n_127, n_128, n_129, n_130, n_150, n_255, n_600, n_1000, n_1050, n_1200, n_999999, n_1000000, iI_neg, iI_add, iI_sub, iI_mul, ile, ilt, ieq]
  by_cases c1 : reasonF x = 0
  · rw [if_pos c1, if_pos c1]
    have h6 : (sR x).length < 6 := by
      unfold reasonF at c1
      split at c1
      · split at c1
        · omega
        · split at c1
          · assumption
          · omega
      · omega
    obtain ⟨m1, p1, p2, p3, p4, p5, p6, p7⟩ := begin_eq (w := w) hfu hC
    obtain ⟨y1, y2, y3, y4, y5⟩ := p3
    obtain ⟨m2, q1, q2, q3⟩ := addTold_eq (w := w) (fu := fu) y3 y4 h6 (by omega)
    have hP := S_D hS
    simp (disch := omega) only [Option.bind_some, bd2_some, bdX_ok, bdX_er, nm_eq, n_0, n_1, n_2, n_3, n_4, n_5, n_6, n_7, n_8, n_9, n_10, n_11, n_12, n_14, n_15, n_16, n_17, n_18, n_19, n_20, n_21, n_24, n_27, n_28, n_32, n_43, n_45, n_48, n_56, n_57, n_59, n_64, n_70, n_97, n_99, n_100, n_104, n_118, n_122, n_126, n_127, n_128, n_129, n_130, n_150, n_255, n_600, n_1000, n_1050, n_1200, n_999999, n_1000000, iI_neg, iI_add, iI_sub, iI_mul, ile, ilt, ieq, H10, p1, G10_0, S_1 hS, S_has hS, P_has hP, q1, clear_eq hP, S_3 hS]
    have fr : ∀ p, p ≠ 7 → (up m2 (1 + 6) 1 0) p = m2 p := fun p h5 => by rw [up_ne (by omega)]
    have hT3 := q3.cong2 (m' := up m2 (1 + 6) 1 0) (fr _ (by omega)) (fun p a b => fr p (by omega))
    have hx2 : cRep (up m2 (1 + 6) 1 0) 1 (sN x, sR x ++ [sD x], [], sJ x) := ⟨hS, y2.cong (by rw [fr _ (by omega), q2 _ (by omega) (by omega)]) (by rw [fr _ (by omega), q2 _ (by omega) (by omega)]) (by rw [fr _ (by omega), q2 _ (by omega) (by omega)]) (by rw [fr _ (by omega), q2 _ (by omega) (by omega)]) (by rw [fr _ (by omega), q2 _ (by omega) (by omega)]), hT3, clear_is hP, y5.cong (by rw [fr _ (by omega), q2 _ (by omega) (by omega)]) (by rw [fr _ (by omega), q2 _ (by omega) (by omega)]) (by rw [fr _ (by omega), q2 _ (by omega) (by omega)]) (by rw [fr _ (by omega), q2 _ (by omega) (by omega)])⟩
    refine ⟨_, ?_, fun p hp => ?_, CI_new p4 p5 p6 p7 (fun p hp => by rw [fr p (by omega), q2 p (by omega) (by omega)]) hx2⟩
    · unfold xr
      rw [if_pos rfl, hT3.2.1]
      rw [show (((sR x ++ [sD x]).length : Nat) : Int) - 1 = (sR x).length by simp]
    · rw [fr p (by omega), q2 p (by omega) (by omega)]; exact p2 p hp
  · rw [if_neg c1, if_neg c1]; exact noC hC (ns := [eIS]) (k := 1) (v := 0) (by decide)
def qForget (x : Sg) (v : Int) : Int × Int × Sg := if ¬ (0 ≤ v ∧ v < (sR x).length) then (1, 0, x) else (0, ((sR x).length : Int) - 1, (sN x, (sR x).eraseIdx v.toNat, sD x, sJ x))
theorem forgetR_eq (hfu : 100 ≤ fu) (hC : CI m x H) (hv : i32 v) : ∃ m', f_X10_forget fu 0 (iI v) (mem w m) = some (xr [eIO] (qForget x v).1 (qForget x v).2.1, mem w m') ∧ sameC m m' ∧ CI m' (qForget x v).2.2 (hist (qForget x v).1 x H) := by
  have hS := hC.1.1
  unfold f_X10_forget qForget
  rw [H10, Option.bind_some, reqRoute_eq hC hv]
  by_cases c1 : 0 ≤ v ∧ v < (sR x).length
  · rw [if_pos c1, if_neg (fun q => q c1), bdX_ok]
    obtain ⟨m1, p1, p2, p3, p4, p5, p6, p7⟩ := begin_eq (w := w) hfu hC
    obtain ⟨y1, y2, y3, y4, y5⟩ := p3
    obtain ⟨m2, q1, q2, q3⟩ := takeTold_eq (w := w) (fu := fu) hfu y3 (i := v.toNat) (by omega)
    rw [show ((v.toNat : Nat) : Int) = v by omega] at q1
    simp (disch := omega) only [Option.bind_some, bd2_some, bdX_ok, bdX_er, nm_eq, n_0, n_1, n_2, n_3, n_4, n_5, n_6, n_7, n_8, n_9, n_10, n_11, n_12, n_14, n_15, n_16, n_17, n_18, n_19, n_20, n_21, n_24, n_27, n_28, n_32, n_43, n_45, n_48, n_56, n_57, n_59, n_64, n_70, n_97, n_99, n_100, n_104, n_118, n_122, n_126, n_127, n_128, n_129, n_130, n_150, n_255, n_600, n_1000, n_1050, n_1200, n_999999, n_1000000, iI_neg, iI_add, iI_sub, iI_mul, ile, ilt, ieq, H10, p1, G10_0, S_has hS, q1, S_3 hS, q3.2.1]
    have hx2 : cRep m2 1 (sN x, (sR x).eraseIdx v.toNat, sD x, sJ x) := ⟨hS, y2.cong (q2 _ (by omega) (by omega)) (q2 _ (by omega) (by omega)) (q2 _ (by omega) (by omega)) (q2 _ (by omega) (by omega)) (q2 _ (by omega) (by omega)), q3, y4.cong (q2 _ (by omega) (by omega)) (q2 _ (by omega) (by omega)), y5.cong (q2 _ (by omega) (by omega)) (q2 _ (by omega) (by omega)) (q2 _ (by omega) (by omega)) (q2 _ (by omega) (by omega))⟩
    refine ⟨m2, ?_, fun p hp => ?_, CI_new p4 p5 p6 p7 (fun p hp => q2 p (by omega) (by omega)) hx2⟩
    · unfold xr
      rw [if_pos rfl, List.length_eraseIdx, if_pos (by omega)]
      rw [show (((sR x).length - 1 : Nat) : Int) = ((sR x).length : Int) - 1 by omega]
    · rw [q2 p (by omega) (by omega)]; exact p2 p hp
  · rw [if_neg c1, if_pos (fun q => c1 q), bdX_er]; exact noC hC (ns := [eIO]) (k := 1) (v := 0) (by decide)
noncomputable def qStep (x : Sg) (a del : Int) : Int × Int × Sg := if ¬ (0 ≤ a ∧ a < nA (sN x)) then (1, 0, x) else @ite _ (canJ (sN x) (sJ x) a del) (Classical.propDecidable _) (0, (jst (sN x) (sJ x ++ [a + 100 * del])).2.1, (sN x, sR x, sD x, sJ x ++ [a + 100 * del])) (2, 0, x)
theorem step_eq (hfu : 100 ≤ fu) (hC : CI m x H) (hG : WG x) (ha : i32 a) {del : Int} (hd : del = 0 ∨ del = 1) : ∃ m', f_X10_step fu 0 (iI a) (iI del) (mem w m) = some (xr [eIO, eIS] (qStep x a del).1 (qStep x a del).2.1, mem w m') ∧ sameC m m' ∧ CI m' (qStep x a del).2.2 (hist (qStep x a del).1 x H) := by
  have hN := hC.1.2.1
  have hS := hC.1.1
  unfold f_X10_step qStep
  rw [H10, Option.bind_some, reqArc_eq hC ha]
  by_cases c1 : 0 ≤ a ∧ a < nA (sN x)
  · rw [if_pos c1, if_neg (fun q => q c1), bdX_ok]
    obtain ⟨g1, g2⟩ := canGo_eq (w := w) (fu := fu) hN hC.1.2.2.2.2 hG.2.2.2 c1 hd
    by_cases c2 : canJ (sN x) (sJ x) a del
    · rw [if_pos c2]
      obtain ⟨m1, p1, p2, p3, p4, p5, p6, p7⟩ := begin_eq (w := w) hfu hC
      obtain ⟨y1, y2, y3, y4, y5⟩ := p3
      obtain ⟨m2, q1, q2, q3⟩ := go_eq (w := w) (fu := fu) y2 y5 c2.1 c1 hd (by omega)
      simp (disch := omega) only [Option.bind_some, bd2_some, bdX_ok, bdX_er, nm_eq, n_0, n_1, n_2, n_3, n_4, n_5, n_6, n_7, n_8, n_9, n_10, n_11, n_12, n_14, n_15, n_16, n_17, n_18, n_19, n_20, n_21, n_24, n_27, n_28, n_32, n_43, n_45, n_48, n_56, n_57, n_59, n_64, n_70, n_97, n_99, n_100, n_104, n_118, n_122, n_126, n_127, n_128, n_129, n_130, n_150, n_255, n_600, n_1000, n_1050, n_1200, n_999999, n_1000000, iI_neg, iI_add, iI_sub, iI_mul, ile, ilt, ieq, G10_0, S_0 hS, S_4 hS, J_has (S_J hS), g1 c2]
      rw [if_neg (by first | exact not_false | omega | decide)]
      simp (disch := omega) only [Option.bind_some, bd2_some, bdX_ok, bdX_er, nm_eq, n_0, n_1, n_2, n_3, n_4, n_5, n_6, n_7, n_8, n_9, n_10, n_11, n_12, n_14, n_15, n_16, n_17, n_18, n_19, n_20, n_21, n_24, n_27, n_28, n_32, n_43, n_45, n_48, n_56, n_57, n_59, n_64, n_70, n_97, n_99, n_100, n_104, n_118, n_122, n_126, n_127, n_128, n_129, n_130, n_150, n_255, n_600, n_1000, n_1050, n_1200, n_999999, n_1000000, iI_neg, iI_add, iI_sub, iI_mul, ile, ilt, ieq, H10, p1, G10_0, S_0 hS, S_4 hS, J_has (S_J hS), q1, timeNow_eq q3]
      have hx2 : cRep m2 1 (sN x, sR x, sD x, sJ x ++ [a + 100 * del]) := ⟨hS, y2.cong (q2 _ (by omega)) (q2 _ (by omega)) (q2 _ (by omega)) (q2 _ (by omega)) (q2 _ (by omega)), y3.cong2 (q2 _ (by omega)) (fun p a b => q2 p (by omega)), y4.cong (q2 _ (by omega)) (q2 _ (by omega)), q3⟩
      refine ⟨m2, rfl, fun p hp => ?_, CI_new p4 p5 p6 p7 (fun p hp => q2 p (by omega)) hx2⟩
      rw [q2 p (by omega)]; exact p2 p hp
    · rw [if_neg c2]
      simp (disch := omega) only [Option.bind_some, bd2_some, bdX_ok, bdX_er, nm_eq, n_0, n_1, n_2, n_3, n_4, n_5, n_6, n_7, n_8, n_9, n_10, n_11, n_12, n_14, n_15, n_16, n_17, n_18, n_19, n_20, n_21, n_24, n_27, n_28, n_32, n_43, n_45, n_48, n_56, n_57, n_59, n_64, n_70, n_97, n_99, n_100, n_104, n_118, n_122, n_126, n_127, n_128, n_129, n_130, n_150, n_255, n_600, n_1000, n_1050, n_1200, n_999999, n_1000000, iI_neg, iI_add, iI_sub, iI_mul, ile, ilt, ieq, G10_0, S_0 hS, S_4 hS, J_has (S_J hS), g2 c2]
      rw [if_pos (by first | exact trivial | omega | decide)]
      exact noC hC (ns := [eIO, eIS]) (k := 2) (v := 0) (by decide)
  · rw [if_neg c1, if_pos (fun q => c1 q), bdX_er]; exact noC hC (ns := [eIO, eIS]) (k := 1) (v := 0) (by decide)
theorem restart_eq (hfu : 100 ≤ fu) (hC : CI m x H) : ∃ m', f_X10_restart fu 0 (mem w m) = some (iI ((sJ x).length : Int), mem w m') ∧ sameC m m' ∧ CI m' (sN x, sR x, sD x, []) ((x :: H).take 8) := by
  have hS := hC.1.1
  obtain ⟨m1, p1, p2, p3, p4, p5, p6, p7⟩ := begin_eq (w := w) hfu hC
  obtain ⟨y1, y2, y3, y4, y5⟩ := p3
  obtain ⟨m3, r1, r2, r3⟩ := restartC (w := w) (fu := fu) hS y2 y3 y4
  unfold f_X10_restart
  simp (disch := omega) only [Option.bind_some, bd2_some, bdX_ok, bdX_er, nm_eq, n_0, n_1, n_2, n_3, n_4, n_5, n_6, n_7, n_8, n_9, n_10, n_11, n_12, n_14, n_15, n_16, n_17, n_18, n_19, n_20, n_21, n_24, n_27, n_28, n_32, n_43, n_45, n_48, n_56, n_57, n_59, n_64, n_70, n_97, n_99, n_100, n_104, n_118, n_122, n_126, n_127, n_128, n_129, n_130, n_150, n_255, n_600, n_1000, n_1050, n_1200, n_999999, n_1000000, iI_neg, iI_add, iI_sub, iI_mul, ile, ilt, ieq, G10_0, S_0 hS, S_4 hS, J_0 (S_J hS), hC.1.2.2.2.2.2.1, H10, p1, J_has (S_J hS), r1]
  refine ⟨m3, rfl, fun p hp => ?_, CI_new p4 p5 p6 p7 (fun p hp => r2 p (by omega)) r3⟩
  rw [r2 p (by omega)]; exact p2 p hp
theorem undo_eq (hfu : 100 ≤ fu) (hC : CI m x H) : (H = [] → f_X10_undo fu 0 (mem w m) = some (.error eIS, mem w m)) ∧ (∀ y H', H = y :: H' → ∃ m', f_X10_undo fu 0 (mem w m) = some (.ok (iI (H'.length : Int)), mem w m') ∧ sameC m m' ∧ CI m' y H') := by
  have hS := hC.1.1
  obtain ⟨nx, n1, n2, n3, n4, n5⟩ := hC.2.1
  refine ⟨fun e => ?_, fun y H' e => ?_⟩
  · unfold f_X10_undo
    simp (disch := omega) only [Option.bind_some, bd2_some, bdX_ok, bdX_er, nm_eq, n_0, n_1, n_2, n_3, n_4, n_5, n_6, n_7, n_8, n_9, n_10, n_11, n_12, n_14, n_15, n_16, n_17, n_18, n_19, n_20, n_21, n_24, n_27, n_28, n_32, n_43, n_45, n_48, n_56, n_57, n_59, n_64, n_70, n_97, n_99, n_100, n_104, n_118, n_122, n_126, n_127, n_128, n_129, n_130, n_150, n_255, n_600, n_1000, n_1050, n_1200, n_999999, n_1000000, iI_neg, iI_add, iI_sub, iI_mul, ile, ilt, ieq, G10_1, G1_2, n3]
    rw [if_pos (by rw [e]; rfl)]
  · subst e
    obtain ⟨m1, p1, p2, p3, p4⟩ := takeBack_eq (w := w) (fu := fu) hfu hC.2.1 hS
    unfold f_X10_undo
    simp (disch := omega) only [Option.bind_some, bd2_some, bdX_ok, bdX_er, nm_eq, n_0, n_1, n_2, n_3, n_4, n_5, n_6, n_7, n_8, n_9, n_10, n_11, n_12, n_14, n_15, n_16, n_17, n_18, n_19, n_20, n_21, n_24, n_27, n_28, n_32, n_43, n_45, n_48, n_56, n_57, n_59, n_64, n_70, n_97, n_99, n_100, n_104, n_118, n_122, n_126, n_127, n_128, n_129, n_130, n_150, n_255, n_600, n_1000, n_1050, n_1200, n_999999, n_1000000, iI_neg, iI_add, iI_sub, iI_mul, ile, ilt, ieq, G10_0, G10_1, G1_2, n3, H1, p1, H10, forget_eq]
    rw [if_neg (by simp; omega)]
    obtain ⟨nx', k1, k2, k3, k4, k5⟩ := p3
    have e2 : (up (up (up m1 260 5 0) 260 6 0) 265 3 0) 26 2 = H'.length := by rw [up_ne (by omega), up_ne (by omega), up_ne (by omega)]; exact k3
    rw [e2]
    have fr : ∀ p, p ≠ 260 → p ≠ 265 → (up (up (up m1 260 5 0) 260 6 0) 265 3 0) p = m1 p := fun p a b => by rw [up_ne b, up_ne a, up_ne a]
    refine ⟨_, rfl, fun p hp => ?_, p4.cong (fun p a b => fr p (by omega) (by omega)), ⟨nx', k1, by rw [fr 26 (by omega) (by omega)]; exact k2, by rw [fr 26 (by omega) (by omega)]; exact k3, k4, fun i z hi => (k5 i z hi).cong (fun p a b => fr p ?_ ?_)⟩, Or.inl ?_, Or.inl ?_, Or.inl ?_⟩
    · rw [fr p (by omega) (by omega), p2 p (by omega)]
    · have : (nx' + 7 - i) % 8 < 8 := Nat.mod_lt _ (by omega)
      unfold slotH at b; omega
    · have : (nx' + 7 - i) % 8 < 8 := Nat.mod_lt _ (by omega)
      unfold slotH at b; omega
    · rw [up_ne (by omega), up_off (by omega), up_at]
    · rw [up_ne (by omega), up_at]
    · rw [up_at]
end CM
