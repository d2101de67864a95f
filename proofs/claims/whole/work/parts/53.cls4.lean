/-! the class: what holds between its calls -/
def CI (m : Mm) (x : Sg) (H : List Sg) : Prop := cRep m 1 x ∧ HR m H ∧ (m 260 5 = 0 ∨ (m 260 5 = 1 ∧ isPth m 261 (bestR (sN x) (sR x) 0).1)) ∧ (m 260 6 = 0 ∨ (m 260 6 = 1 ∧ isPth m 263 (bestR (sN x) (sR x) 1).1)) ∧ solved m (sN x)
/-- a state as it can come about -/
def WG (x : Sg) : Prop := WFN (sN x) ∧ (∀ l ∈ sR x, pOK (sN x) l ∧ endOf (sN x) l = nT (sN x)) ∧ pOK (sN x) (sD x) ∧ SOK (sN x) (sJ x)
theorem WG.tok {x : Sg} (h : WG x) : TOK (sN x) (sR x) := fun l hl => pOK_AOK (h.2.1 l hl).1
theorem WG.pk {x : Sg} (h : WG x) : ∀ l ∈ sR x, PK (sN x) l := fun l hl => pOK_PK h.1 (h.2.1 l hl).1
/-- what calls leave as it was: the reader's, the written bytes; the model's -/
def sameC (m m' : Mm) : Prop := ∀ p, (p = 0 ∨ p = 228 ∨ p = 229 ∨ 282 ≤ p) → m' p = m p
theorem sameC.trans {m m' m'' : Mm} (h : sameC m m') (h' : sameC m' m'') : sameC m m'' := fun p hp => (h' p hp).trans (h p hp)
def xr (ns : List String) (k v : Int) : Except String Int32 := if k = 0 then .ok (iI v) else .error (ns.getD (k - 1).toNat "")
abbrev eIO : String := "java/lang/IndexOutOfBoundsException"
abbrev eIA : String := "java/lang/IllegalArgumentException"
abbrev eIS : String := "java/lang/IllegalStateException"
abbrev eNS : String := "java/util/NoSuchElementException"
def inR (a lo hi : Int) : Prop := lo ≤ a ∧ a ≤ hi
def i32 (z : Int) : Prop := -2147483648 ≤ z ∧ z < 2147483648
section CL
variable {w : Wl} {m : Mm} {fu : Nat} {x : Sg} {H : List Sg} {v a : Int}
theorem sk0 : SK[0]? = some (10, [some 1, some 26, some 228, some 230, some 255, some 258, some 260, some 265, some 282, none]) := by decide +kernel
theorem G10_0 : gP (mem w m) 0 10 0 = some 1 := gP_mem sk0 rfl
theorem G10_1 : gP (mem w m) 0 10 1 = some 26 := gP_mem sk0 rfl
theorem G10_2 : gP (mem w m) 0 10 2 = some 228 := gP_mem sk0 rfl
theorem G10_3 : gP (mem w m) 0 10 3 = some 230 := gP_mem sk0 rfl
theorem G10_4 : gP (mem w m) 0 10 4 = some 255 := gP_mem sk0 rfl
theorem G10_5 : gP (mem w m) 0 10 5 = some 258 := gP_mem sk0 rfl
theorem G10_6 : gP (mem w m) 0 10 6 = some 260 := gP_mem sk0 rfl
theorem G10_7 : gP (mem w m) 0 10 7 = some 265 := gP_mem sk0 rfl
theorem G10_8 : gP (mem w m) 0 10 8 = some 282 := gP_mem sk0 rfl
theorem G10_9 : gI (mem w m) 0 10 9 = some (iI (m 0 9)) := gI_mem sk0 rfl
theorem U10_9 : pF (mem w m) 0 10 9 (.int (iI v)) = some (mem w (up m 0 9 v)) := pF_mem sk0 rfl
theorem H10 : hasO (mem w m) 0 10 = some () := hasO_mem sk0
theorem forget_eq : f_X10_forgetResults fu 0 (mem w m) = some ((), mem w (up (up (up m 260 5 0) 260 6 0) 265 3 0)) := by
  unfold f_X10_forgetResults
  simp (disch := omega) only [Option.bind_some, bd2_some, bdX_ok, bdX_er, nm_eq, n_0, n_1, n_2, n_3, n_4, n_5, n_6, n_7, n_8, n_9, n_10, n_11, n_12, n_14, n_15, n_16, n_17, n_18, n_19, n_20, n_21, n_24, n_27, n_28, n_32, n_43, n_45, n_48, n_56, n_57, n_59, n_64, n_70, n_97, n_99, n_100, n_104, n_118, n_122, n_126, n_127, n_128, n_129, n_130, n_150, n_255, n_600, n_1000, n_1050, n_1200, n_999999, n_1000000, iI_neg, iI_add, iI_sub, iI_mul, ile, ilt, ieq, G10_6, G10_7, H6, H0, forgetBest_eq, forgetValues_eq]
theorem begin_eq (hfu : 100 ≤ fu) (h : CI m x H) : ∃ m', f_X10_beginChange fu 0 (mem w m) = some ((), mem w m') ∧ sameC m m' ∧ cRep m' 1 x ∧ HR m' ((x :: H).take 8) ∧ m' 260 5 = 0 ∧ m' 260 6 = 0 ∧ m' 265 3 = 0 := by
  obtain ⟨h1, h2, h3, h4, h5⟩ := h
  obtain ⟨m1, p1, p2, p3⟩ := keep_eq (w := w) (fu := fu) hfu h2 h1
  unfold f_X10_beginChange
  simp (disch := omega) only [Option.bind_some, bd2_some, bdX_ok, bdX_er, nm_eq, n_0, n_1, n_2, n_3, n_4, n_5, n_6, n_7, n_8, n_9, n_10, n_11, n_12, n_14, n_15, n_16, n_17, n_18, n_19, n_20, n_21, n_24, n_27, n_28, n_32, n_43, n_45, n_48, n_56, n_57, n_59, n_64, n_70, n_97, n_99, n_100, n_104, n_118, n_122, n_126, n_127, n_128, n_129, n_130, n_150, n_255, n_600, n_1000, n_1050, n_1200, n_999999, n_1000000, iI_neg, iI_add, iI_sub, iI_mul, ile, ilt, ieq, G10_0, G10_1, H1, p1, H10, forget_eq]
  refine ⟨_, rfl, fun p hp => ?_, h1.cong (fun p a b => ?_), ?_, ?_, ?_, ?_⟩
  · rw [up_ne (by omega), up_ne (by omega), up_ne (by omega), p2 p (by omega)]
  · rw [up_ne (by omega), up_ne (by omega), up_ne (by omega), p2 p (by omega)]
  · obtain ⟨nx, n1, n2, n3, n4, n5⟩ := p3
    have e : ∀ p, 26 ≤ p → p < 228 → (up (up (up m1 260 5 0) 260 6 0) 265 3 0) p = m1 p := fun p a b => by rw [up_ne (by omega), up_ne (by omega), up_ne (by omega)]
    refine ⟨nx, n1, by rw [e 26 (by omega) (by omega)]; exact n2, by rw [e 26 (by omega) (by omega)]; exact n3, n4, fun i y hi => (n5 i y hi).cong (fun p a b => e p ?_ ?_)⟩
    · unfold slotH at a; omega
    · have : (nx + 7 - i) % 8 < 8 := Nat.mod_lt _ (by omega)
      unfold slotH at b; omega
  · rw [up_ne (by omega), up_off (by omega), up_at]
  · rw [up_ne (by omega), up_at]
  · rw [up_at]
/-- behind a change -/
theorem CI_new {m1 m' : Mm} {x' : Sg} {H' : List Sg} (hH : HR m1 H') (h5 : m1 260 5 = 0) (h6 : m1 260 6 = 0) (h7 : m1 265 3 = 0) (hs : ∀ p, 26 ≤ p → m' p = m1 p) (hx : cRep m' 1 x') : CI m' x' H' := by
  obtain ⟨nx, n1, n2, n3, n4, n5⟩ := hH
  exact ⟨hx, ⟨nx, n1, by rw [hs 26 (by omega)]; exact n2, by rw [hs 26 (by omega)]; exact n3, n4, fun i y hi => (n5 i y hi).cong (fun p a b => hs p (by unfold slotH at a; omega))⟩, Or.inl (by rw [hs 260 (by omega)]; exact h5), Or.inl (by rw [hs 260 (by omega)]; exact h6), Or.inl (by rw [hs 265 (by omega)]; exact h7)⟩
theorem i0 (h : i32 v) : (iI v < 0 ↔ v < 0) := by
  rw [show (0 : Int32) = iI 0 from rfl, iI_lt h.1 h.2 (by omega) (by omega)]
theorem reqNode_eq (h : CI m x H) (hv : i32 v) : f_X10_requireNode fu 0 (iI v) (mem w m) = some (if 0 ≤ v ∧ v < nN (sN x) then .ok () else .error eIO, mem w m) := by
  have hN := h.1.2.1
  have hw := hN.2.2.1
  obtain ⟨v1, v2⟩ := hv
  unfold f_X10_requireNode
  simp (disch := omega) only [Option.bind_some, bd2_some, bdX_ok, bdX_er, nm_eq, n_0, n_1, n_2, n_3, n_4, n_5, n_6, n_7, n_8, n_9, n_10, n_11, n_12, n_14, n_15, n_16, n_17, n_18, n_19, n_20, n_21, n_24, n_27, n_28, n_32, n_43, n_45, n_48, n_56, n_57, n_59, n_64, n_70, n_97, n_99, n_100, n_104, n_118, n_122, n_126, n_127, n_128, n_129, n_130, n_150, n_255, n_600, n_1000, n_1050, n_1200, n_999999, n_1000000, iI_neg, iI_add, iI_sub, iI_mul, ile, ilt, ieq, G10_0, S_0 h.1.1, K_has hN, K_0 hN, K_1 hN, K_2 hN, K_3 hN, K_4 hN, K_5 hN, K_6 hN, K_7 hN, K_8 hN, K_tl hN, K_hd hN, K_co hN, K_ex hN]
  by_cases c1 : v < 0
  · rw [if_pos c1, if_neg (by omega)]
  · rw [if_neg c1]
    by_cases c2 : v < nN (sN x)
    · rw [if_pos c2, if_pos (by omega)]
    · rw [if_neg c2, if_neg (by omega)]
theorem reqArc_eq (h : CI m x H) (hv : i32 v) : f_X10_requireArc fu 0 (iI v) (mem w m) = some (if 0 ≤ v ∧ v < nA (sN x) then .ok () else .error eIO, mem w m) := by
  have hN := h.1.2.1
  have hw := hN.2.2.1
  obtain ⟨v1, v2⟩ := hv
  unfold f_X10_requireArc
  simp (disch := omega) only [Option.bind_some, bd2_some, bdX_ok, bdX_er, nm_eq, n_0, n_1, n_2, n_3, n_4, n_5, n_6, n_7, n_8, n_9, n_10, n_11, n_12, n_14, n_15, n_16, n_17, n_18, n_19, n_20, n_21, n_24, n_27, n_28, n_32, n_43, n_45, n_48, n_56, n_57, n_59, n_64, n_70, n_97, n_99, n_100, n_104, n_118, n_122, n_126, n_127, n_128, n_129, n_130, n_150, n_255, n_600, n_1000, n_1050, n_1200, n_999999, n_1000000, iI_neg, iI_add, iI_sub, iI_mul, ile, ilt, ieq, G10_0, S_0 h.1.1, K_has hN, K_0 hN, K_1 hN, K_2 hN, K_3 hN, K_4 hN, K_5 hN, K_6 hN, K_7 hN, K_8 hN, K_tl hN, K_hd hN, K_co hN, K_ex hN]
  by_cases c1 : v < 0
  · rw [if_pos c1, if_neg (by omega)]
  · rw [if_neg c1]
    by_cases c2 : v < nA (sN x)
    · rw [if_pos c2, if_pos (by omega)]
    · rw [if_neg c2, if_neg (by omega)]
theorem reqRoute_eq (h : CI m x H) (hv : i32 v) : f_X10_requireRoute fu 0 (iI v) (mem w m) = some (if 0 ≤ v ∧ v < (sR x).length then .ok () else .error eIO, mem w m) := by
  have hT := h.1.2.2.1
  have h6 := hT.2.2.1
  obtain ⟨v1, v2⟩ := hv
  unfold f_X10_requireRoute
  simp (disch := omega) only [Option.bind_some, bd2_some, bdX_ok, bdX_er, nm_eq, n_0, n_1, n_2, n_3, n_4, n_5, n_6, n_7, n_8, n_9, n_10, n_11, n_12, n_14, n_15, n_16, n_17, n_18, n_19, n_20, n_21, n_24, n_27, n_28, n_32, n_43, n_45, n_48, n_56, n_57, n_59, n_64, n_70, n_97, n_99, n_100, n_104, n_118, n_122, n_126, n_127, n_128, n_129, n_130, n_150, n_255, n_600, n_1000, n_1050, n_1200, n_999999, n_1000000, iI_neg, iI_add, iI_sub, iI_mul, ile, ilt, ieq, G10_0, S_3 h.1.1, hT.2.1]
  by_cases c1 : v < 0
  · rw [if_pos c1, if_neg (by omega)]
  · rw [if_neg c1]
    by_cases c2 : v < (sR x).length
    · rw [if_pos c2, if_pos (by omega)]
    · rw [if_neg c2, if_neg (by omega)]
theorem reqCosts_eq (hv : i32 v) (ha : i32 a) : f_X10_requireCosts fu (iI v) (iI a) (mem w m) = some (if (0 ≤ v ∧ v ≤ 99) ∧ 0 ≤ a ∧ a ≤ 99 then .ok () else .error eIA, mem w m) := by
  obtain ⟨v1, v2⟩ := hv
  obtain ⟨a1, a2⟩ := ha
  unfold f_X10_requireCosts
  simp (disch := omega) only [Option.bind_some, bd2_some, bdX_ok, bdX_er, nm_eq, n_0, n_1, n_2, n_3, n_4, n_5, n_6, n_7, n_8, n_9, n_10, n_11, n_12, n_14, n_15, n_16, n_17, n_18, n_19, n_20, n_21, n_24, n_27, n_28, n_32, n_43, n_45, n_48, n_56, n_57, n_59, n_64, n_70, n_97, n_99, n_100, n_104, n_118, n_122, n_126, n_127, n_128, n_129, n_130, n_150, n_255, n_600, n_1000, n_1050, n_1200, n_999999, n_1000000, iI_neg, iI_add, iI_sub, iI_mul, ile, ilt, ieq]
  by_cases c1 : v < 0
  · rw [if_pos c1, if_neg (by omega)]
  · rw [if_neg c1]
    by_cases c2 : 99 < v
    · rw [if_pos c2, if_neg (by omega)]
    · rw [if_neg c2]
      by_cases c3 : a < 0
      · rw [if_pos c3, if_neg (by omega)]
      · rw [if_neg c3]
        by_cases c4 : a ≤ 99
        · rw [if_pos c4, if_pos (by omega)]
        · rw [if_neg c4, if_neg (by omega)]
theorem reqBudget_eq (hv : i32 v) : f_X10_requireBudget fu (iI v) (mem w m) = some (if 0 ≤ v ∧ v ≤ 6 then .ok () else .error eIA, mem w m) := by
  obtain ⟨v1, v2⟩ := hv
  unfold f_X10_requireBudget
  simp (disch := omega) only [Option.bind_some, bd2_some, bdX_ok, bdX_er, nm_eq, n_0, n_1, n_2, n_3, n_4, n_5, n_6, n_7, n_8, n_9, n_10, n_11, n_12, n_14, n_15, n_16, n_17, n_18, n_19, n_20, n_21, n_24, n_27, n_28, n_32, n_43, n_45, n_48, n_56, n_57, n_59, n_64, n_70, n_97, n_99, n_100, n_104, n_118, n_122, n_126, n_127, n_128, n_129, n_130, n_150, n_255, n_600, n_1000, n_1050, n_1200, n_999999, n_1000000, iI_neg, iI_add, iI_sub, iI_mul, ile, ilt, ieq]
  by_cases c1 : v < 0
  · rw [if_pos c1, if_neg (by omega)]
  · rw [if_neg c1]
    by_cases c2 : v ≤ 6
    · rw [if_pos c2, if_pos (by omega)]
    · rw [if_neg c2, if_neg (by omega)]
theorem reqNum_eq (hv : i32 v) : f_X10_requireRouteNumber fu (iI v) (mem w m) = some (if 0 ≤ v ∧ v ≤ 5 then .ok () else .error eIA, mem w m) := by
  obtain ⟨v1, v2⟩ := hv
  unfold f_X10_requireRouteNumber
  simp (disch := omega) only [Option.bind_some, bd2_some, bdX_ok, bdX_er, nm_eq, n_0, n_1, n_2, n_3, n_4, n_5, n_6, n_7, n_8, n_9, n_10, n_11, n_12, n_14, n_15, n_16, n_17, n_18, n_19, n_20, n_21, n_24, n_27, n_28, n_32, n_43, n_45, n_48, n_56, n_57, n_59, n_64, n_70, n_97, n_99, n_100, n_104, n_118, n_122, n_126, n_127, n_128, n_129, n_130, n_150, n_255, n_600, n_1000, n_1050, n_1200, n_999999, n_1000000, iI_neg, iI_add, iI_sub, iI_mul, ile, ilt, ieq]
  by_cases c1 : v < 0
  · rw [if_pos c1, if_neg (by omega)]
  · rw [if_neg c1]
    by_cases c2 : v ≤ 5
    · rw [if_pos c2, if_pos (by omega)]
    · rw [if_neg c2, if_neg (by omega)]
/-- the journey begins anew, behind a change of the network -/
theorem restartC {m1 : Mm} {N : Nt} {T : List (List Int)} {D : List Int} (hS : isS 1) (hN : isNet m1 (1 + 1) N) (hT : isTolds m1 1 T) (hD : isPth m1 (1 + 6) D) : ∃ m', f_X2_begin fu (1 + 21) (1 + 1) (mem w m1) = some ((), mem w m') ∧ (∀ p, (p < 22 ∨ 26 ≤ p) → m' p = m1 p) ∧ cRep m' 1 (N, T, D, []) := by
  obtain ⟨m', q1, q2, q3⟩ := jbegin_eq (w := w) (fu := fu) (S_J hS) hN (by omega)
  exact ⟨m', q1, fun p hp => q2 p (by omega), hS, hN.cong (q2 _ (by omega)) (q2 _ (by omega)) (q2 _ (by omega)) (q2 _ (by omega)) (q2 _ (by omega)), hT.cong2 (q2 _ (by omega)) (fun p a b => q2 p (by omega)), hD.cong (q2 _ (by omega)) (q2 _ (by omega)), q3⟩
def qAdd (x : Sg) (t h c e : Int) : Int × Int × Sg := if ¬ (0 ≤ t ∧ t < nN (sN x)) then (1, 0, x) else if ¬ (0 ≤ h ∧ h < nN (sN x)) then (1, 0, x) else if t = h then (2, 0, x) else if ¬ ((0 ≤ c ∧ c ≤ 99) ∧ 0 ≤ e ∧ e ≤ 99) then (2, 0, x) else if nA (sN x) < 16 then (0, nA (sN x), (addN (sN x) t h c e, sR x, sD x, [])) else (3, 0, x)
def hist (k : Int) (x : Sg) (H : List Sg) : List Sg := if k = 0 then (x :: H).take 8 else H
theorem addArc_eq (hfu : 100 ≤ fu) (hC : CI m x H) {t h c e : Int} (ht : i32 t) (hh : i32 h) (hc : i32 c) (he : i32 e) : ∃ m', f_X10_addArc fu 0 (iI t) (iI h) (iI c) (iI e) (mem w m) = some (xr [eIO, eIA, eIS] (qAdd x t h c e).1 (qAdd x t h c e).2.1, mem w m') ∧ sameC m m' ∧ CI m' (qAdd x t h c e).2.2 (hist (qAdd x t h c e).1 x H) := by
  have hN := hC.1.2.1
  have hw := hN.2.2.1
  have no : ∀ k : Int, k ≠ 0 → ∃ m', (some (xr [eIO, eIA, eIS] k 0, mem w m) : Option (Except String Int32 × List Ob)) = some (xr [eIO, eIA, eIS] k 0, mem w m') ∧ sameC m m' ∧ CI m' x (hist k x H) := fun k hk => ⟨m, rfl, fun _ _ => rfl, by unfold hist; rw [if_neg hk]; exact hC⟩
  unfold f_X10_addArc qAdd
  rw [H10, Option.bind_some, reqNode_eq hC ht]
  by_cases c1 : 0 ≤ t ∧ t < nN (sN x)
  · rw [if_pos c1, if_neg (fun q => q c1), bdX_ok, H10, Option.bind_some, reqNode_eq hC hh]
    by_cases c2 : 0 ≤ h ∧ h < nN (sN x)
    · rw [if_pos c2, if_neg (fun q => q c2), bdX_ok]
      simp (disch := omega) only [Option.bind_some, bd2_some, bdX_ok, bdX_er, nm_eq, n_0, n_1, n_2, n_3, n_4, n_5, n_6, n_7, n_8, n_9, n_10, n_11, n_12, n_14, n_15, n_16, n_17, n_18, n_19, n_20, n_21, n_24, n_27, n_28, n_32, n_43, n_45, n_48, n_56, n_57, n_59, n_64, n_70, n_97, n_99, n_100, n_104, n_118, n_122, n_126, n_127, n_128, n_129, n_130, n_150, n_255, n_600, n_1000, n_1050, n_1200, n_999999, n_1000000, iI_neg, iI_add, iI_sub, iI_mul, ile, ilt, ieq]
      by_cases c3 : t = h
      · rw [if_pos c3, if_pos c3]; exact no 2 (by decide)
      · rw [if_neg c3, if_neg c3, reqCosts_eq hc he]
        by_cases c4 : (0 ≤ c ∧ c ≤ 99) ∧ 0 ≤ e ∧ e ≤ 99
        · rw [if_pos c4, if_neg (fun q => q c4), bdX_ok]
          simp (disch := omega) only [Option.bind_some, bd2_some, bdX_ok, bdX_er, nm_eq, n_0, n_1, n_2, n_3, n_4, n_5, n_6, n_7, n_8, n_9, n_10, n_11, n_12, n_14, n_15, n_16, n_17, n_18, n_19, n_20, n_21, n_24, n_27, n_28, n_32, n_43, n_45, n_48, n_56, n_57, n_59, n_64, n_70, n_97, n_99, n_100, n_104, n_118, n_122, n_126, n_127, n_128, n_129, n_130, n_150, n_255, n_600, n_1000, n_1050, n_1200, n_999999, n_1000000, iI_neg, iI_add, iI_sub, iI_mul, ile, ilt, ieq, G10_0, S_0 hC.1.1, K_has hN, K_0 hN, K_1 hN, K_2 hN, K_3 hN, K_4 hN, K_5 hN, K_6 hN, K_7 hN, K_8 hN, K_tl hN, K_hd hN, K_co hN, K_ex hN]
          by_cases c5 : nA (sN x) < 16
          · rw [if_pos c5, if_pos c5]
            obtain ⟨m1, p1, p2, p3, p4, p5, p6, p7⟩ := begin_eq (w := w) hfu hC
            obtain ⟨y1, y2, y3, y4, y5⟩ := p3
            obtain ⟨m2, q1, q2, q3⟩ := addLast_eq (w := w) (fu := fu) y2 c5 (t := t) (h := h) (c := c) (e := e)
            have hN2 : isNet m2 (1 + 1) (addN (sN x) t h c e) := ⟨y2.1, q3, addN_wf y2.2.2 c5 (by omega) (by omega) c3 (by omega) (by omega)⟩
            obtain ⟨m3, r1, r2, r3⟩ := restartC (w := w) (fu := fu) y1 hN2 (y3.cong2 (q2 _ (by omega)) (fun p a b => q2 p (by omega))) (y4.cong (q2 _ (by omega)) (q2 _ (by omega)))
            have hN3 := r3.2.1
            simp (disch := omega) only [Option.bind_some, bd2_some, bdX_ok, bdX_er, nm_eq, n_0, n_1, n_2, n_3, n_4, n_5, n_6, n_7, n_8, n_9, n_10, n_11, n_12, n_14, n_15, n_16, n_17, n_18, n_19, n_20, n_21, n_24, n_27, n_28, n_32, n_43, n_45, n_48, n_56, n_57, n_59, n_64, n_70, n_97, n_99, n_100, n_104, n_118, n_122, n_126, n_127, n_128, n_129, n_130, n_150, n_255, n_600, n_1000, n_1050, n_1200, n_999999, n_1000000, iI_neg, iI_add, iI_sub, iI_mul, ile, ilt, ieq, H10, p1, G10_0, S_0 y1, S_4 y1, N_has y2.1, q1, J_has (S_J y1), r1, K_4 hN3]
            refine ⟨m3, ?_, fun p hp => ?_, CI_new p4 p5 p6 p7 (fun p hp => by rw [r2 p (by omega), q2 p (by omega)]) r3⟩
            · unfold xr
              rw [if_pos rfl]
              show some (Except.ok (iI (nA (sN x) + 1 - 1)), mem w m3) = _
              rw [show nA (sN x) + 1 - 1 = nA (sN x) by omega]
            · rw [r2 p (by omega), q2 p (by omega)]; exact p2 p hp
          · rw [if_neg c5, if_neg c5]; exact no 3 (by decide)
        · rw [if_neg c4, if_pos (fun q => c4 q), bdX_er]; exact no 2 (by decide)
    · rw [if_neg c2, if_pos (fun q => c2 q), bdX_er]; exact no 1 (by decide)
  · rw [if_neg c1, if_pos (fun q => c1 q), bdX_er]; exact no 1 (by decide)
end CL
