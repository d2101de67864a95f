section CQ
variable {w : Wl} {m m' : Mm} {fu : Nat} {x : Sg} {H : List Sg} {v a : Int}
theorem HR.cong (h : HR m H) (e : ∀ p, 26 ≤ p → p < 228 → m' p = m p) : HR m' H := by
  obtain ⟨nx, n1, n2, n3, n4, n5⟩ := h
  refine ⟨nx, n1, by rw [e 26 (by omega) (by omega)]; exact n2, by rw [e 26 (by omega) (by omega)]; exact n3, n4, fun i y hi => (n5 i y hi).cong (fun p a b => e p ?_ ?_)⟩
  · unfold slotH at a; omega
  · have : (nx + 7 - i) % 8 < 8 := Nat.mod_lt _ (by omega)
    unfold slotH at b; omega
theorem CI.cong (h : CI m x H) (e : ∀ p, ((1 ≤ p ∧ p < 228) ∨ (260 ≤ p ∧ p < 282)) → m' p = m p) : CI m' x H := by
  obtain ⟨h1, h2, h3, h4, h5⟩ := h
  refine ⟨h1.cong (fun p a b => e p (by omega)), h2.cong (fun p a b => e p (by omega)), ?_, ?_, ?_⟩
  · rw [e 260 (by omega)]; exact h3.imp id (fun q => ⟨q.1, q.2.cong (e _ (by omega)) (e _ (by omega))⟩)
  · rw [e 260 (by omega)]; exact h4.imp id (fun q => ⟨q.1, q.2.cong (e _ (by omega)) (e _ (by omega))⟩)
  · unfold solved at h5 ⊢
    rw [e 265 (by omega)]
    exact h5.imp id (fun q => ⟨q.1, fun l v a b c => by rw [e _ (by omega)]; exact q.2 l v a b c⟩)
theorem CI_W (h : CI m x H) (e : sameW m m') : CI m' x H ∧ sameC m m' := ⟨h.cong (fun p hp => e p (by omega) (by omega)), fun p hp => e p (by omega) (by omega)⟩
theorem CI_J (h : CI m x H) (e : sameJ m m') : CI m' x H ∧ sameC m m' := ⟨h.cong (fun p hp => e p (by omega) (by omega)), fun p hp => e p (by omega) (by omega)⟩
theorem CI_rf (h : CI m x H) : CI m x H ∧ sameC m m := ⟨h, fun _ _ => rfl⟩
def cntF (x : Sg) (v : Int) : Int := if v = 0 then nN (sN x) else if v = 1 then nA (sN x) else if v = 2 then nS (sN x) else if v = 3 then nT (sN x) else if v = 4 then nB (sN x) else if v = 5 then (sR x).length else if v = 6 then (sD x).length else if v = 7 then (routesOf (sN x)).length else if v = 8 then (jst (sN x) (sJ x)).1 else if v = 9 then (jst (sN x) (sJ x)).2.1 else if v = 10 then (jst (sN x) (sJ x)).2.2 else (sJ x).length
def qCount (x : Sg) (v : Int) : Int × Int := if 0 ≤ v ∧ v ≤ 11 then (0, cntF x v) else (1, 0)
theorem count_eq (hfu : 200000 ≤ fu) (hC : CI m x H) (hv : i32 v) : ∃ m', f_X10_count fu 0 (iI v) (mem w m) = some (xr [eIA] (qCount x v).1 (qCount x v).2, mem w m') ∧ CI m' x H ∧ sameC m m' := by
  have hS := hC.1.1
  have hN := hC.1.2.1
  have hJ := hC.1.2.2.2.2
  obtain ⟨m7, p1, p2⟩ := countRoutes_eq (w := w) hfu hN
  obtain ⟨v1, v2⟩ := hv
  unfold f_X10_count
  have fin : ∀ (k : Int), 0 ≤ k → k ≤ 11 → v = k → ∀ m', CI m' x H ∧ sameC m m' → ∀ r, r = cntF x k → ∃ m'', (some (Except.ok (iI r), mem w m') : Option (Except String Int32 × List Ob)) = some (xr [eIA] (qCount x v).1 (qCount x v).2, mem w m'') ∧ CI m'' x H ∧ sameC m m'' := fun k k0 k1 hk m' hm r hr => by
    refine ⟨m', ?_, hm⟩
    unfold qCount
    rw [if_pos (by omega), hr, ← hk]
    rfl
  rw [n_0, ieq v1 v2 (by omega) (by omega)]
  by_cases c0 : v = 0
  · rw [if_pos c0]; simp (disch := omega) only [Option.bind_some, bd2_some, bdX_ok, bdX_er, nm_eq, n_0, n_1, n_2, n_3, n_4, n_5, n_6, n_7, n_8, n_9, n_10, n_11, n_12, n_14, n_15, n_16, n_17, n_18, n_19, n_20, n_21, n_24, n_27, n_28, n_32, n_43, n_45, n_48, n_56, n_57, n_59, n_64, n_70, n_97, n_99, n_100, n_104, n_118, n_122, n_126, n_127, n_128, n_129, n_130, n_150, n_255, n_600, n_1000, n_1050, n_1200, n_999999, n_1000000, iI_neg, iI_add, iI_sub, iI_mul, ile, ilt, ieq, G10_0, S_0 hS, K_has hN, K_0 hN, K_1 hN, K_2 hN, K_3 hN, K_4 hN, K_5 hN, K_6 hN, K_7 hN, K_8 hN, K_tl hN, K_hd hN, K_co hN, K_ex hN]; exact fin 0 (by omega) (by omega) c0 m (CI_rf hC) _ rfl
  rw [if_neg c0]
  rw [n_1, ieq v1 v2 (by omega) (by omega)]
  by_cases c1 : v = 1
  · rw [if_pos c1]; simp (disch := omega) only [Option.bind_some, bd2_some, bdX_ok, bdX_er, nm_eq, n_0, n_1, n_2, n_3, n_4, n_5, n_6, n_7, n_8, n_9, n_10, n_11, n_12, n_14, n_15, n_16, n_17, n_18, n_19, n_20, n_21, n_24, n_27, n_28, n_32, n_43, n_45, n_48, n_56, n_57, n_59, n_64, n_70, n_97, n_99, n_100, n_104, n_118, n_122, n_126, n_127, n_128, n_129, n_130, n_150, n_255, n_600, n_1000, n_1050, n_1200, n_999999, n_1000000, iI_neg, iI_add, iI_sub, iI_mul, ile, ilt, ieq, G10_0, S_0 hS, K_has hN, K_0 hN, K_1 hN, K_2 hN, K_3 hN, K_4 hN, K_5 hN, K_6 hN, K_7 hN, K_8 hN, K_tl hN, K_hd hN, K_co hN, K_ex hN]; exact fin 1 (by omega) (by omega) c1 m (CI_rf hC) _ rfl
  rw [if_neg c1]
  rw [n_2, ieq v1 v2 (by omega) (by omega)]
  by_cases c2 : v = 2
  · rw [if_pos c2]; simp (disch := omega) only [Option.bind_some, bd2_some, bdX_ok, bdX_er, nm_eq, n_0, n_1, n_2, n_3, n_4, n_5, n_6, n_7, n_8, n_9, n_10, n_11, n_12, n_14, n_15, n_16, n_17, n_18, n_19, n_20, n_21, n_24, n_27, n_28, n_32, n_43, n_45, n_48, n_56, n_57, n_59, n_64, n_70, n_97, n_99, n_100, n_104, n_118, n_122, n_126, n_127, n_128, n_129, n_130, n_150, n_255, n_600, n_1000, n_1050, n_1200, n_999999, n_1000000, iI_neg, iI_add, iI_sub, iI_mul, ile, ilt, ieq, G10_0, S_0 hS, K_has hN, K_0 hN, K_1 hN, K_2 hN, K_3 hN, K_4 hN, K_5 hN, K_6 hN, K_7 hN, K_8 hN, K_tl hN, K_hd hN, K_co hN, K_ex hN]; exact fin 2 (by omega) (by omega) c2 m (CI_rf hC) _ rfl
  rw [if_neg c2]
  rw [n_3, ieq v1 v2 (by omega) (by omega)]
  by_cases c3 : v = 3
  · rw [if_pos c3]; simp (disch := omega) only [Option.bind_some, bd2_some, bdX_ok, bdX_er, nm_eq, n_0, n_1, n_2, n_3, n_4, n_5, n_6, n_7, n_8, n_9, n_10, n_11, n_12, n_14, n_15, n_16, n_17, n_18, n_19, n_20, n_21, n_24, n_27, n_28, n_32, n_43, n_45, n_48, n_56, n_57, n_59, n_64, n_70, n_97, n_99, n_100, n_104, n_118, n_122, n_126, n_127, n_128, n_129, n_130, n_150, n_255, n_600, n_1000, n_1050, n_1200, n_999999, n_1000000, iI_neg, iI_add, iI_sub, iI_mul, ile, ilt, ieq, G10_0, S_0 hS, K_has hN, K_0 hN, K_1 hN, K_2 hN, K_3 hN, K_4 hN, K_5 hN, K_6 hN, K_7 hN, K_8 hN, K_tl hN, K_hd hN, K_co hN, K_ex hN]; exact fin 3 (by omega) (by omega) c3 m (CI_rf hC) _ rfl
  rw [if_neg c3]
  rw [n_4, ieq v1 v2 (by omega) (by omega)]
  by_cases c4 : v = 4
  · rw [if_pos c4]; simp (disch := omega) only [Option.bind_some, bd2_some, bdX_ok, bdX_er, nm_eq, n_0, n_1, n_2, n_3, n_4, n_5, n_6, n_7, n_8, n_9, n_10, n_11, n_12, n_14, n_15, n_16, n_17, n_18, n_19, n_20, n_21, n_24, n_27, n_28, n_32, n_43, n_45, n_48, n_56, n_57, n_59, n_64, n_70, n_97, n_99, n_100, n_104, n_118, n_122, n_126, n_127, n_128, n_129, n_130, n_150, n_255, n_600, n_1000, n_1050, n_1200, n_999999, n_1000000, iI_neg, iI_add, iI_sub, iI_mul, ile, ilt, ieq, G10_0, S_0 hS, K_has hN, K_0 hN, K_1 hN, K_2 hN, K_3 hN, K_4 hN, K_5 hN, K_6 hN, K_7 hN, K_8 hN, K_tl hN, K_hd hN, K_co hN, K_ex hN]; exact fin 4 (by omega) (by omega) c4 m (CI_rf hC) _ rfl
  rw [if_neg c4]
  rw [n_5, ieq v1 v2 (by omega) (by omega)]
  by_cases c5 : v = 5
  · rw [if_pos c5]; simp (disch := omega) only [Option.bind_some, bd2_some, bdX_ok, bdX_er, nm_eq, n_0, n_1, n_2, n_3, n_4, n_5, n_6, n_7, n_8, n_9, n_10, n_11, n_12, n_14, n_15, n_16, n_17, n_18, n_19, n_20, n_21, n_24, n_27, n_28, n_32, n_43, n_45, n_48, n_56, n_57, n_59, n_64, n_70, n_97, n_99, n_100, n_104, n_118, n_122, n_126, n_127, n_128, n_129, n_130, n_150, n_255, n_600, n_1000, n_1050, n_1200, n_999999, n_1000000, iI_neg, iI_add, iI_sub, iI_mul, ile, ilt, ieq, G10_0, S_0 hS, S_3 hS, hC.1.2.2.1.2.1]; exact fin 5 (by omega) (by omega) c5 m (CI_rf hC) _ rfl
  rw [if_neg c5]
  rw [n_6, ieq v1 v2 (by omega) (by omega)]
  by_cases c6 : v = 6
  · rw [if_pos c6]; simp (disch := omega) only [Option.bind_some, bd2_some, bdX_ok, bdX_er, nm_eq, n_0, n_1, n_2, n_3, n_4, n_5, n_6, n_7, n_8, n_9, n_10, n_11, n_12, n_14, n_15, n_16, n_17, n_18, n_19, n_20, n_21, n_24, n_27, n_28, n_32, n_43, n_45, n_48, n_56, n_57, n_59, n_64, n_70, n_97, n_99, n_100, n_104, n_118, n_122, n_126, n_127, n_128, n_129, n_130, n_150, n_255, n_600, n_1000, n_1050, n_1200, n_999999, n_1000000, iI_neg, iI_add, iI_sub, iI_mul, ile, ilt, ieq, G10_0, S_0 hS, S_1 hS, Q_len hC.1.2.2.2.1, Q_arr hC.1.2.2.2.1, Q_has hC.1.2.2.2.1]; exact fin 6 (by omega) (by omega) c6 m (CI_rf hC) _ rfl
  rw [if_neg c6]
  rw [n_7, ieq v1 v2 (by omega) (by omega)]
  by_cases c7 : v = 7
  · rw [if_pos c7]; simp (disch := omega) only [Option.bind_some, bd2_some, bdX_ok, bdX_er, nm_eq, n_0, n_1, n_2, n_3, n_4, n_5, n_6, n_7, n_8, n_9, n_10, n_11, n_12, n_14, n_15, n_16, n_17, n_18, n_19, n_20, n_21, n_24, n_27, n_28, n_32, n_43, n_45, n_48, n_56, n_57, n_59, n_64, n_70, n_97, n_99, n_100, n_104, n_118, n_122, n_126, n_127, n_128, n_129, n_130, n_150, n_255, n_600, n_1000, n_1050, n_1200, n_999999, n_1000000, iI_neg, iI_add, iI_sub, iI_mul, ile, ilt, ieq, G10_0, S_0 hS, G10_4, H7, p1]; exact fin 7 (by omega) (by omega) c7 m7 (CI_W hC p2) _ rfl
  rw [if_neg c7]
  rw [n_8, ieq v1 v2 (by omega) (by omega)]
  by_cases c8 : v = 8
  · rw [if_pos c8]; simp (disch := omega) only [Option.bind_some, bd2_some, bdX_ok, bdX_er, nm_eq, n_0, n_1, n_2, n_3, n_4, n_5, n_6, n_7, n_8, n_9, n_10, n_11, n_12, n_14, n_15, n_16, n_17, n_18, n_19, n_20, n_21, n_24, n_27, n_28, n_32, n_43, n_45, n_48, n_56, n_57, n_59, n_64, n_70, n_97, n_99, n_100, n_104, n_118, n_122, n_126, n_127, n_128, n_129, n_130, n_150, n_255, n_600, n_1000, n_1050, n_1200, n_999999, n_1000000, iI_neg, iI_add, iI_sub, iI_mul, ile, ilt, ieq, G10_0, S_0 hS, S_4 hS, J_has hJ.1, nodeNow_eq hJ]; exact fin 8 (by omega) (by omega) c8 m (CI_rf hC) _ rfl
  rw [if_neg c8]
  rw [n_9, ieq v1 v2 (by omega) (by omega)]
  by_cases c9 : v = 9
  · rw [if_pos c9]; simp (disch := omega) only [Option.bind_some, bd2_some, bdX_ok, bdX_er, nm_eq, n_0, n_1, n_2, n_3, n_4, n_5, n_6, n_7, n_8, n_9, n_10, n_11, n_12, n_14, n_15, n_16, n_17, n_18, n_19, n_20, n_21, n_24, n_27, n_28, n_32, n_43, n_45, n_48, n_56, n_57, n_59, n_64, n_70, n_97, n_99, n_100, n_104, n_118, n_122, n_126, n_127, n_128, n_129, n_130, n_150, n_255, n_600, n_1000, n_1050, n_1200, n_999999, n_1000000, iI_neg, iI_add, iI_sub, iI_mul, ile, ilt, ieq, G10_0, S_0 hS, S_4 hS, J_has hJ.1, timeNow_eq hJ]; exact fin 9 (by omega) (by omega) c9 m (CI_rf hC) _ rfl
  rw [if_neg c9]
  rw [n_10, ieq v1 v2 (by omega) (by omega)]
  by_cases c10 : v = 10
  · rw [if_pos c10]; simp (disch := omega) only [Option.bind_some, bd2_some, bdX_ok, bdX_er, nm_eq, n_0, n_1, n_2, n_3, n_4, n_5, n_6, n_7, n_8, n_9, n_10, n_11, n_12, n_14, n_15, n_16, n_17, n_18, n_19, n_20, n_21, n_24, n_27, n_28, n_32, n_43, n_45, n_48, n_56, n_57, n_59, n_64, n_70, n_97, n_99, n_100, n_104, n_118, n_122, n_126, n_127, n_128, n_129, n_130, n_150, n_255, n_600, n_1000, n_1050, n_1200, n_999999, n_1000000, iI_neg, iI_add, iI_sub, iI_mul, ile, ilt, ieq, G10_0, S_0 hS, S_4 hS, J_has hJ.1, leftNow_eq hJ]; exact fin 10 (by omega) (by omega) c10 m (CI_rf hC) _ rfl
  rw [if_neg c10]
  rw [n_11, ieq v1 v2 (by omega) (by omega)]
  by_cases c11 : v = 11
  · rw [if_pos c11]; simp (disch := omega) only [Option.bind_some, bd2_some, bdX_ok, bdX_er, nm_eq, n_0, n_1, n_2, n_3, n_4, n_5, n_6, n_7, n_8, n_9, n_10, n_11, n_12, n_14, n_15, n_16, n_17, n_18, n_19, n_20, n_21, n_24, n_27, n_28, n_32, n_43, n_45, n_48, n_56, n_57, n_59, n_64, n_70, n_97, n_99, n_100, n_104, n_118, n_122, n_126, n_127, n_128, n_129, n_130, n_150, n_255, n_600, n_1000, n_1050, n_1200, n_999999, n_1000000, iI_neg, iI_add, iI_sub, iI_mul, ile, ilt, ieq, G10_0, S_0 hS, S_4 hS, J_0 hJ.1, hJ.2.1]; exact fin 11 (by omega) (by omega) c11 m (CI_rf hC) _ rfl
  rw [if_neg c11]
  refine ⟨m, ?_, CI_rf hC⟩
  unfold qCount
  rw [if_neg (by omega)]
  rfl
def qArc (x : Sg) (a v : Int) : Int × Int := if ¬ (0 ≤ a ∧ a < nA (sN x)) then (1, 0) else if v = 0 then (0, aTl (sN x) a) else if v = 1 then (0, aHd (sN x) a) else if v = 2 then (0, aCo (sN x) a) else if v = 3 then (0, aEx (sN x) a) else (2, 0)
theorem arc_eq (hC : CI m x H) (ha : i32 a) (hv : i32 v) : f_X10_arc fu 0 (iI a) (iI v) (mem w m) = some (xr [eIO, eIA] (qArc x a v).1 (qArc x a v).2, mem w m) := by
  have hS := hC.1.1
  have hN := hC.1.2.1
  obtain ⟨v1, v2⟩ := hv
  unfold f_X10_arc qArc
  rw [H10, Option.bind_some, reqArc_eq hC ha]
  by_cases c1 : 0 ≤ a ∧ a < nA (sN x)
  · rw [if_pos c1, if_neg (fun q => q c1), bdX_ok]
    simp (disch := omega) only [Option.bind_some, bd2_some, bdX_ok, bdX_er, nm_eq, n_0, n_1, n_2, n_3, n_4, n_5, n_6, n_7, n_8, n_9, n_10, n_11, n_12, n_14, n_15, n_16, n_17, n_18, n_19, n_20, n_21, n_24, n_27, n_28, n_32, n_43, n_45, n_48, n_56, n_57, n_59, n_64, n_70, n_97, n_99, n_100, n_104, n_118, n_122, n_126, n_127, n_128, n_129, n_130, n_150, n_255, n_600, n_1000, n_1050, n_1200, n_999999, n_1000000, iI_neg, iI_add, iI_sub, iI_mul, ile, ilt, ieq, G10_0, S_0 hS, K_has hN, K_0 hN, K_1 hN, K_2 hN, K_3 hN, K_4 hN, K_5 hN, K_6 hN, K_7 hN, K_8 hN, K_tl hN, K_hd hN, K_co hN, K_ex hN]
    by_cases d0 : v = 0
    · rw [if_pos d0, if_pos d0]; rfl
    rw [if_neg d0, if_neg d0]
    by_cases d1 : v = 1
    · rw [if_pos d1, if_pos d1]; rfl
    rw [if_neg d1, if_neg d1]
    by_cases d2 : v = 2
    · rw [if_pos d2, if_pos d2]; rfl
    rw [if_neg d2, if_neg d2]
    by_cases d3 : v = 3
    · rw [if_pos d3, if_pos d3]; rfl
    rw [if_neg d3, if_neg d3]
    rfl
  · rw [if_neg c1, if_pos (fun q => c1 q), bdX_er]; rfl
/-- the told route of that number -/
theorem tR {i : Int} (hC : CI m x H) (h0 : 0 ≤ i) (h1 : i < (sR x).length) : ∃ l, (sR x)[i.toNat]? = some l ∧ l ∈ sR x ∧ isPth m (1 + 9 + 2 * i.toNat) l ∧ ∀ m1 : Mm, aP (mem w m1) (1 + 8) 14 (iI i) = some (1 + 9 + 2 * i.toNat) := by
  have hT := hC.1.2.2.1
  have h6 := hT.2.2.1
  have hi : i.toNat < (sR x).length := by omega
  refine ⟨(sR x)[i.toNat], List.getElem?_eq_getElem hi, List.getElem_mem _, hT.2.2.2 _ _ (List.getElem?_eq_getElem hi), fun m1 => ?_⟩
  have := S_told (w := w) (m := m1) hC.1.1 (i := i.toNat) (by omega)
  rw [show ((i.toNat : Nat) : Int) = i by omega] at this
  exact this
def lR (x : Sg) (i : Int) : List Int := (sR x).getD i.toNat []
theorem lR_of {i : Int} {l : List Int} (h : (sR x)[i.toNat]? = some l) : lR x i = l := by unfold lR; rw [List.getD_eq_getElem?_getD, h]; rfl
theorem arcAt_eq {q : Nat} {l : List Int} (hq : isPth m q l) (hv : i32 v) : f_X10_arcAt fu q (iI v) (mem w m) = some (if 0 ≤ v ∧ v < l.length then .ok (iI (l.getD v.toNat 0)) else .error eIO, mem w m) := by
  have h7 := hq.2.2.2
  obtain ⟨v1, v2⟩ := hv
  unfold f_X10_arcAt
  simp (disch := omega) only [Option.bind_some, bd2_some, bdX_ok, bdX_er, nm_eq, n_0, n_1, n_2, n_3, n_4, n_5, n_6, n_7, n_8, n_9, n_10, n_11, n_12, n_14, n_15, n_16, n_17, n_18, n_19, n_20, n_21, n_24, n_27, n_28, n_32, n_43, n_45, n_48, n_56, n_57, n_59, n_64, n_70, n_97, n_99, n_100, n_104, n_118, n_122, n_126, n_127, n_128, n_129, n_130, n_150, n_255, n_600, n_1000, n_1050, n_1200, n_999999, n_1000000, iI_neg, iI_add, iI_sub, iI_mul, ile, ilt, ieq, Q_len hq, Q_arr hq, Q_has hq]
  by_cases c1 : v < 0
  · rw [if_pos c1, if_neg (by omega)]
  · rw [if_neg c1]
    by_cases c2 : v < l.length
    · have hi : v.toNat < l.length := by omega
      have hg := Q_get (w := w) (j := v.toNat) hq (List.getElem?_eq_getElem hi)
      rw [show ((v.toNat : Nat) : Int) = v by omega] at hg
      rw [if_pos c2, hg, if_pos (by omega)]
      simp [List.getD, hi]
    · rw [if_neg c2, if_neg (by omega)]
def qRouteArc (x : Sg) (a v : Int) : Int × Int := if (0 ≤ a ∧ a < (sR x).length) ∧ 0 ≤ v ∧ v < (lR x a).length then (0, (lR x a).getD v.toNat 0) else (1, 0)
theorem routeArc_eq (hC : CI m x H) (ha : i32 a) (hv : i32 v) : f_X10_routeArc fu 0 (iI a) (iI v) (mem w m) = some (xr [eIO] (qRouteArc x a v).1 (qRouteArc x a v).2, mem w m) := by
  have hS := hC.1.1
  unfold f_X10_routeArc qRouteArc
  rw [H10, Option.bind_some, reqRoute_eq hC ha]
  by_cases c1 : 0 ≤ a ∧ a < (sR x).length
  · obtain ⟨l, t1, t2, t3, t4⟩ := tR (w := w) hC c1.1 c1.2
    rw [if_pos c1, bdX_ok, lR_of t1]
    simp (disch := omega) only [Option.bind_some, bd2_some, bdX_ok, bdX_er, nm_eq, n_0, n_1, n_2, n_3, n_4, n_5, n_6, n_7, n_8, n_9, n_10, n_11, n_12, n_14, n_15, n_16, n_17, n_18, n_19, n_20, n_21, n_24, n_27, n_28, n_32, n_43, n_45, n_48, n_56, n_57, n_59, n_64, n_70, n_97, n_99, n_100, n_104, n_118, n_122, n_126, n_127, n_128, n_129, n_130, n_150, n_255, n_600, n_1000, n_1050, n_1200, n_999999, n_1000000, iI_neg, iI_add, iI_sub, iI_mul, ile, ilt, ieq, G10_0, S_2 hS, t4, arcAt_eq t3 hv]
    by_cases c2 : 0 ≤ v ∧ v < l.length
    · rw [if_pos c2, if_pos ⟨c1, c2⟩, bdX_ok]; rfl
    · rw [if_neg c2, if_neg (fun q => c2 q.2), bdX_er]; rfl
  · rw [if_neg c1, if_neg (fun q => c1 q.1), bdX_er]; rfl
/-- the numbers 0 to 5 of a route -/
def numF (x : Sg) (l : List Int) (v : Int) : Int := if v = 0 then l.length else if v = 1 then cst (sN x) l 0 else if v = 2 then wst (sN x) l else if v = 3 then (wit (sN x) l).toInt else if v = 4 then (rgF (sN x) (sR x) 0 l).1 else ((rgF (sN x) (sR x) 0 l).2 : Nat)
theorem numberOf_eq (hfu : 1000 ≤ fu) (hC : CI m x H) (hG : WG x) {q : Nat} {l : List Int} (hq : isPth m q l) (hq8 : q ≠ 258 ∧ q ≠ 259 ∧ q ≠ 257) (hl : PK (sN x) l) (hv : i32 v) : ∃ m', f_X10_numberOf fu 0 q (iI v) (mem w m) = some (iI (numF x l v), mem w m') ∧ CI m' x H ∧ sameC m m' := by
  have hS := hC.1.1
  have hN := hC.1.2.1
  obtain ⟨m4, p1, p2⟩ := regretOf_eq (w := w) (T := sR x) hfu hN hq hq8 hl hG.tok
  obtain ⟨m5, q1, q2⟩ := regretWitnessOf_eq (w := w) (T := sR x) hfu hN hq hq8 hl hG.tok
  obtain ⟨v1, v2⟩ := hv
  have hcs := costAgainst_eq (w := w) (D := 0) (show 100 ≤ fu by omega) hN hq hl.1
  rw [show (0 : Int32) = iI 0 from rfl] at hcs
  unfold f_X10_numberOf
  simp (disch := omega) only [Option.bind_some, bd2_some, bdX_ok, bdX_er, nm_eq, n_0, n_1, n_2, n_3, n_4, n_5, n_6, n_7, n_8, n_9, n_10, n_11, n_12, n_14, n_15, n_16, n_17, n_18, n_19, n_20, n_21, n_24, n_27, n_28, n_32, n_43, n_45, n_48, n_56, n_57, n_59, n_64, n_70, n_97, n_99, n_100, n_104, n_118, n_122, n_126, n_127, n_128, n_129, n_130, n_150, n_255, n_600, n_1000, n_1050, n_1200, n_999999, n_1000000, iI_neg, iI_add, iI_sub, iI_mul, ile, ilt, ieq, G10_0, G10_5, S_0 hS, K_has hN, K_0 hN, K_1 hN, K_2 hN, K_3 hN, K_4 hN, K_5 hN, K_6 hN, K_7 hN, K_8 hN, K_tl hN, K_hd hN, K_co hN, K_ex hN, Q_len hq, Q_arr hq, Q_has hq, H3, p1, q1, hcs, worstOf_eq (w := w) (show 100 ≤ fu by omega) hN hq hl.1, witnessOf_eq (w := w) (show 100 ≤ fu by omega) hN hq hl.1]
  unfold numF
  by_cases d0 : v = 0
  · rw [if_pos d0, if_pos d0]; exact ⟨m, rfl, CI_rf hC⟩
  rw [if_neg d0, if_neg d0]
  by_cases d1 : v = 1
  · rw [if_pos d1, if_pos d1]; exact ⟨m, rfl, CI_rf hC⟩
  rw [if_neg d1, if_neg d1]
  by_cases d2 : v = 2
  · rw [if_pos d2, if_pos d2]; exact ⟨m, rfl, CI_rf hC⟩
  rw [if_neg d2, if_neg d2]
  by_cases d3 : v = 3
  · rw [if_pos d3, if_pos d3, iI_toInt]; exact ⟨m, rfl, CI_rf hC⟩
  rw [if_neg d3, if_neg d3]
  by_cases d4 : v = 4
  · rw [if_pos d4, if_pos d4]; exact ⟨m4, rfl, CI_J hC p2⟩
  rw [if_neg d4, if_neg d4]
  exact ⟨m5, rfl, CI_J hC q2⟩
def qRoute (x : Sg) (a v : Int) : Int × Int := if ¬ (0 ≤ a ∧ a < (sR x).length) then (1, 0) else if ¬ (0 ≤ v ∧ v ≤ 7) then (2, 0) else if v = 6 then (0, (rgF (sN x) (sR x) 1 (lR x a)).1) else if v = 7 then (0, ((sR x).countP (fun y => decide (cst (sN x) y (wit (sN x) (lR x a)) < wst (sN x) (lR x a))) : Nat)) else (0, numF x (lR x a) v)
theorem route_eq (hfu : 1000 ≤ fu) (hC : CI m x H) (hG : WG x) (ha : i32 a) (hv : i32 v) : ∃ m', f_X10_route fu 0 (iI a) (iI v) (mem w m) = some (xr [eIO, eIA] (qRoute x a v).1 (qRoute x a v).2, mem w m') ∧ CI m' x H ∧ sameC m m' := by
  have hS := hC.1.1
  have hN := hC.1.2.1
  have hv' := hv
  obtain ⟨v1, v2⟩ := hv
  unfold f_X10_route qRoute
  rw [H10, Option.bind_some, reqRoute_eq hC ha]
  by_cases c1 : 0 ≤ a ∧ a < (sR x).length
  · have h6 := hC.1.2.2.1.2.2.1
    obtain ⟨l, t1, t2, t3, t4⟩ := tR (w := w) hC c1.1 c1.2
    have hl := hG.pk l t2
    obtain ⟨m6, p1, p2⟩ := toldRegretOf_eq (w := w) (T := sR x) hfu hN t3 (by omega) hl hC.1.2.2.1 hG.tok
    obtain ⟨m8, q1, q2⟩ := numberOf_eq (w := w) hfu hC hG t3 (by omega) hl hv'
    rw [if_pos c1, if_neg (fun q => q c1), bdX_ok, lR_of t1]
    simp (disch := omega) only [Option.bind_some, bd2_some, bdX_ok, bdX_er, nm_eq, n_0, n_1, n_2, n_3, n_4, n_5, n_6, n_7, n_8, n_9, n_10, n_11, n_12, n_14, n_15, n_16, n_17, n_18, n_19, n_20, n_21, n_24, n_27, n_28, n_32, n_43, n_45, n_48, n_56, n_57, n_59, n_64, n_70, n_97, n_99, n_100, n_104, n_118, n_122, n_126, n_127, n_128, n_129, n_130, n_150, n_255, n_600, n_1000, n_1050, n_1200, n_999999, n_1000000, iI_neg, iI_add, iI_sub, iI_mul, ile, ilt, ieq, G10_0, G10_5, H10, H3, S_2 hS, t4, p1, countBeating_eq (w := w) (show 100 ≤ fu by omega) hN hC.1.2.2.1 hG.tok t3 hl.1, q1]
    by_cases c2 : v < 0
    · rw [if_pos c2, if_pos (by omega)]; exact ⟨m, rfl, CI_rf hC⟩
    rw [if_neg c2]
    by_cases c3 : v ≤ 7
    · rw [if_pos c3, if_neg (show ¬ ¬ (0 ≤ v ∧ v ≤ 7) by omega)]
      by_cases c4 : v = 6
      · rw [if_pos c4, if_pos c4]; exact ⟨m6, rfl, CI_J hC p2⟩
      rw [if_neg c4, if_neg c4]
      by_cases c5 : v = 7
      · rw [if_pos c5, if_pos c5]; exact ⟨m, rfl, CI_rf hC⟩
      rw [if_neg c5, if_neg c5]
      exact ⟨m8, rfl, q2⟩
    · rw [if_neg c3, if_pos (by omega)]; exact ⟨m, rfl, CI_rf hC⟩
  · rw [if_neg c1, if_pos (fun q => c1 q), bdX_er]; exact ⟨m, rfl, CI_rf hC⟩
def qCost (x : Sg) (a v : Int) : Int × Int := if ¬ (0 ≤ a ∧ a < (sR x).length) then (1, 0) else (0, cst (sN x) (lR x a) (iI v))
theorem cost_eq (hfu : 1000 ≤ fu) (hC : CI m x H) (hG : WG x) (ha : i32 a) : f_X10_cost fu 0 (iI a) (iI v) (mem w m) = some (xr [eIO] (qCost x a v).1 (qCost x a v).2, mem w m) := by
  have hS := hC.1.1
  have hN := hC.1.2.1
  unfold f_X10_cost qCost
  rw [H10, Option.bind_some, reqRoute_eq hC ha]
  by_cases c1 : 0 ≤ a ∧ a < (sR x).length
  · obtain ⟨l, t1, t2, t3, t4⟩ := tR (w := w) hC c1.1 c1.2
    have hl := hG.pk l t2
    rw [if_pos c1, if_neg (fun q => q c1), bdX_ok, lR_of t1]
    simp (disch := omega) only [Option.bind_some, bd2_some, bdX_ok, bdX_er, nm_eq, n_0, n_1, n_2, n_3, n_4, n_5, n_6, n_7, n_8, n_9, n_10, n_11, n_12, n_14, n_15, n_16, n_17, n_18, n_19, n_20, n_21, n_24, n_27, n_28, n_32, n_43, n_45, n_48, n_56, n_57, n_59, n_64, n_70, n_97, n_99, n_100, n_104, n_118, n_122, n_126, n_127, n_128, n_129, n_130, n_150, n_255, n_600, n_1000, n_1050, n_1200, n_999999, n_1000000, iI_neg, iI_add, iI_sub, iI_mul, ile, ilt, ieq, G10_0, S_0 hS, S_2 hS, K_has hN, K_0 hN, K_1 hN, K_2 hN, K_3 hN, K_4 hN, K_5 hN, K_6 hN, K_7 hN, K_8 hN, K_tl hN, K_hd hN, K_co hN, K_ex hN, t4, costAgainst_eq (w := w) (D := iI v) (show 100 ≤ fu by omega) hN t3 hl.1]
    rfl
  · rw [if_neg c1, if_pos (fun q => c1 q), bdX_er]; rfl
def qChosen (x : Sg) : Int × Int := if sR x = [] then (1, 0) else (0, chF (sN x) (sR x) (sR x) 0 (-1) 1000000)
theorem chosen_eq (hfu : 1000 ≤ fu) (hC : CI m x H) (hG : WG x) : ∃ m', f_X10_chosen fu 0 (mem w m) = some (xr [eNS] (qChosen x).1 (qChosen x).2, mem w m') ∧ CI m' x H ∧ sameC m m' := by
  have hS := hC.1.1
  have hN := hC.1.2.1
  have hT := hC.1.2.2.1
  have h6 := hT.2.2.1
  obtain ⟨m', p1, p2⟩ := chooseTold_eq (w := w) hfu hN hT hG.pk
  unfold f_X10_chosen qChosen
  simp (disch := omega) only [Option.bind_some, bd2_some, bdX_ok, bdX_er, nm_eq, n_0, n_1, n_2, n_3, n_4, n_5, n_6, n_7, n_8, n_9, n_10, n_11, n_12, n_14, n_15, n_16, n_17, n_18, n_19, n_20, n_21, n_24, n_27, n_28, n_32, n_43, n_45, n_48, n_56, n_57, n_59, n_64, n_70, n_97, n_99, n_100, n_104, n_118, n_122, n_126, n_127, n_128, n_129, n_130, n_150, n_255, n_600, n_1000, n_1050, n_1200, n_999999, n_1000000, iI_neg, iI_add, iI_sub, iI_mul, ile, ilt, ieq, G10_0, G10_5, S_3 hS, hT.2.1, H3, p1]
  by_cases c1 : sR x = []
  · rw [if_pos (by rw [c1]; rfl), if_pos c1]; exact ⟨m, rfl, CI_rf hC⟩
  · have : 0 < (sR x).length := List.length_pos_iff.mpr c1
    rw [if_neg (by omega), if_neg c1]; exact ⟨m', rfl, CI_J hC p2⟩
def qBeats (x : Sg) (a v : Int) : Int × Int := if ¬ ((0 ≤ a ∧ a < (sR x).length) ∧ 0 ≤ v ∧ v < (sR x).length) then (1, 0) else (0, b2 (decide (cst (sN x) (lR x a) (wit (sN x) (lR x v)) < wst (sN x) (lR x v))))
theorem beats_eq (hfu : 1000 ≤ fu) (hC : CI m x H) (hG : WG x) (ha : i32 a) (hv : i32 v) : f_X10_beats fu 0 (iI a) (iI v) (mem w m) = some (xr [eIO] (qBeats x a v).1 (qBeats x a v).2, mem w m) := by
  have hS := hC.1.1
  have hN := hC.1.2.1
  unfold f_X10_beats qBeats
  rw [H10, Option.bind_some, reqRoute_eq hC ha]
  by_cases c1 : 0 ≤ a ∧ a < (sR x).length
  · obtain ⟨l, t1, t2, t3, t4⟩ := tR (w := w) hC c1.1 c1.2
    rw [if_pos c1, bdX_ok, H10, Option.bind_some, reqRoute_eq hC hv]
    by_cases c2 : 0 ≤ v ∧ v < (sR x).length
    · obtain ⟨l', t1', t2', t3', t4'⟩ := tR (w := w) hC c2.1 c2.2
      rw [if_pos c2, if_neg (fun q => q ⟨c1, c2⟩), bdX_ok, lR_of t1, lR_of t1']
      simp (disch := omega) only [Option.bind_some, bd2_some, bdX_ok, bdX_er, nm_eq, n_0, n_1, n_2, n_3, n_4, n_5, n_6, n_7, n_8, n_9, n_10, n_11, n_12, n_14, n_15, n_16, n_17, n_18, n_19, n_20, n_21, n_24, n_27, n_28, n_32, n_43, n_45, n_48, n_56, n_57, n_59, n_64, n_70, n_97, n_99, n_100, n_104, n_118, n_122, n_126, n_127, n_128, n_129, n_130, n_150, n_255, n_600, n_1000, n_1050, n_1200, n_999999, n_1000000, iI_neg, iI_add, iI_sub, iI_mul, ile, ilt, ieq, G10_0, G10_5, S_2 hS, H3, t4, t4', isBeating_eq (w := w) (show 100 ≤ fu by omega) hN t3 t3' (hG.pk l t2).1 (hG.pk l' t2').1]
      cases decide (cst (sN x) l (wit (sN x) l') < wst (sN x) l') <;> rfl
    · rw [if_neg c2, if_pos (fun q => c2 q.2), bdX_er]; rfl
  · rw [if_neg c1, if_pos (fun q => c1 q.1), bdX_er]; rfl
def qShortest (x : Sg) (v : Int) : Int × Int := if sp (sN x) (iI v) = 999999 then (1, 0) else (0, sp (sN x) (iI v))
theorem shortest_eq (hfu : 1000 ≤ fu) (hC : CI m x H) (hG : WG x) : ∃ m', f_X10_shortest fu 0 (iI v) (mem w m) = some (xr [eNS] (qShortest x v).1 (qShortest x v).2, mem w m') ∧ CI m' x H ∧ sameC m m' := by
  have hN := hC.1.2.1
  have hr := sp_nn hG.1 (D := iI v)
  obtain ⟨m', p1, p2⟩ := shortestCost_eq (w := w) (D := iI v) hfu hN
  have hc := spC_r hG.1 (D := iI v)
  unfold f_X10_shortest qShortest
  simp (disch := omega) only [Option.bind_some, bd2_some, bdX_ok, bdX_er, nm_eq, n_0, n_1, n_2, n_3, n_4, n_5, n_6, n_7, n_8, n_9, n_10, n_11, n_12, n_14, n_15, n_16, n_17, n_18, n_19, n_20, n_21, n_24, n_27, n_28, n_32, n_43, n_45, n_48, n_56, n_57, n_59, n_64, n_70, n_97, n_99, n_100, n_104, n_118, n_122, n_126, n_127, n_128, n_129, n_130, n_150, n_255, n_600, n_1000, n_1050, n_1200, n_999999, n_1000000, iI_neg, iI_add, iI_sub, iI_mul, ile, ilt, ieq, G10_5, H3, p1, n_m1]
  have ec : spC (sN x) (iI v) = if sp (sN x) (iI v) = 999999 then -1 else sp (sN x) (iI v) := rfl
  by_cases c : sp (sN x) (iI v) = 999999
  · rw [if_pos c] at ec
    rw [if_pos ec, if_pos c]; exact ⟨m', rfl, CI_J hC (sameJ_P p2)⟩
  · rw [if_neg c] at ec
    rw [if_neg (by omega), if_neg c, ec]; exact ⟨m', rfl, CI_J hC (sameJ_P p2)⟩
def qWithin (x : Sg) (v : Int) : Int := ((routesOf (sN x)).countP (fun r => decide (wst (sN x) r ≤ v)) : Nat)
theorem within_eq (hfu : 200000 ≤ fu) (hC : CI m x H) (hv : i32 v) : ∃ m', f_X10_within fu 0 (iI v) (mem w m) = some (iI (qWithin x v), mem w m') ∧ CI m' x H ∧ sameC m m' := by
  have hN := hC.1.2.1
  obtain ⟨m', p1, p2⟩ := countWithin_eq (w := w) hfu hv hN
  unfold f_X10_within
  simp (disch := omega) only [Option.bind_some, bd2_some, bdX_ok, bdX_er, nm_eq, n_0, n_1, n_2, n_3, n_4, n_5, n_6, n_7, n_8, n_9, n_10, n_11, n_12, n_14, n_15, n_16, n_17, n_18, n_19, n_20, n_21, n_24, n_27, n_28, n_32, n_43, n_45, n_48, n_56, n_57, n_59, n_64, n_70, n_97, n_99, n_100, n_104, n_118, n_122, n_126, n_127, n_128, n_129, n_130, n_150, n_255, n_600, n_1000, n_1050, n_1200, n_999999, n_1000000, iI_neg, iI_add, iI_sub, iI_mul, ile, ilt, ieq, G10_4, H7, p1]
  exact ⟨m', rfl, CI_W hC p2⟩
end CQ
