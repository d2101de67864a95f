section CR
variable {w : Wl} {m m' : Mm} {fu : Nat} {x : Sg} {H : List Sg} {v a : Int}
/-- a search for the best route, between calls -/
theorem CI_R {q : Nat} {by_ : Int} (hb : BP q) (h : CI m x H) (e : sameR q m m') (hq : isPth m' q (bestR (sN x) (sR x) by_).1) (hby : (q = 261 ∧ by_ = 0) ∨ (q = 263 ∧ by_ = 1)) (k : Int) (hk : (q = 261 ∧ k = 5) ∨ (q = 263 ∧ k = 6)) : CI (up m' 260 k 1) x H ∧ sameC m (up m' 260 k 1) ∧ isPth (up m' 260 k 1) q (bestR (sN x) (sR x) by_).1 := by
  obtain ⟨e1, e2, e3⟩ := e
  obtain ⟨h1, h2, h3, h4, h5⟩ := h
  have fr : ∀ p, (p < 256 ∨ 265 ≤ p) → (up m' 260 k 1) p = m p := fun p hp => by rw [up_ne (by omega), e1 p (by omega) (by omega) (by omega) (by omega) (by omega) (by omega) (by omega)]
  have hq' : isPth (up m' 260 k 1) q (bestR (sN x) (sR x) by_).1 := hq.cong (up_ne (by omega)) (up_ne (by omega))
  refine ⟨⟨h1.cong (fun p a b => fr p (by omega)), h2.cong (fun p a b => fr p (by omega)), ?_, ?_, ?_⟩, fun p hp => fr p (by omega), hq'⟩
  · rcases hk with ⟨rfl, rfl⟩ | ⟨rfl, rfl⟩
    · obtain ⟨-, rfl⟩ : (261 : Nat) = 261 ∧ by_ = 0 := by rcases hby with q | q; exact q; omega
      exact Or.inr ⟨up_at, hq'⟩
    · rw [up_off (by omega), e2]
      exact h3.imp id (fun z => ⟨z.1, z.2.cong (by rw [up_ne (by omega), e1 _ (by omega) (by omega) (by omega) (by omega) (by omega) (by omega) (by omega)]) (by rw [up_ne (by omega), e1 _ (by omega) (by omega) (by omega) (by omega) (by omega) (by omega) (by omega)])⟩)
  · rcases hk with ⟨rfl, rfl⟩ | ⟨rfl, rfl⟩
    · rw [up_off (by omega), e3]
      exact h4.imp id (fun z => ⟨z.1, z.2.cong (by rw [up_ne (by omega), e1 _ (by omega) (by omega) (by omega) (by omega) (by omega) (by omega) (by omega)]) (by rw [up_ne (by omega), e1 _ (by omega) (by omega) (by omega) (by omega) (by omega) (by omega) (by omega)])⟩)
    · obtain ⟨-, rfl⟩ : (263 : Nat) = 263 ∧ by_ = 1 := by rcases hby with q | q; omega; exact q
      exact Or.inr ⟨up_at, hq'⟩
  · unfold solved at h5 ⊢
    rw [fr 265 (by omega)]
    exact h5.imp id (fun z => ⟨z.1, fun l v a b c => by rw [fr _ (by omega)]; exact z.2 l v a b c⟩)
theorem robustRoute_eq (hfu : 200000 ≤ fu) (hC : CI m x H) (hG : WG x) : ∃ m', f_X6_robustRoute fu 260 (mem w m) = some (261, mem w m') ∧ CI m' x H ∧ sameC m m' ∧ isPth m' 261 (bestR (sN x) (sR x) 0).1 := by
  have hN := hC.1.2.1
  unfold f_X6_robustRoute f_X6_robustRoute_21
  rcases hC.2.2.1 with h | ⟨h, hq⟩
  · obtain ⟨m1, p1, p2, p3⟩ := findBest_eq (w := w) (m := m) (fu := fu) (q := 261) (T := sR x) (by_ := 0) hfu (Or.inl rfl) hG.tok (Or.inl rfl) hN
    simp (disch := omega) only [Option.bind_some, bd2_some, bdX_ok, bdX_er, nm_eq, n_0, n_1, n_2, n_3, n_4, n_5, n_6, n_7, n_8, n_9, n_10, n_11, n_12, n_14, n_15, n_16, n_17, n_18, n_19, n_20, n_21, n_24, n_27, n_28, n_32, n_43, n_45, n_48, n_56, n_57, n_59, n_64, n_70, n_97, n_99, n_100, n_104, n_118, n_122, n_126, n_127, n_128, n_129, n_130, n_150, n_255, n_600, n_1000, n_1050, n_1200, n_999999, n_1000000, iI_neg, iI_add, iI_sub, iI_mul, ile, ilt, ieq, G6_5, G6_3, H6, h, p1, U6_5]
    rw [if_pos (by first | exact trivial | omega | decide)]
    obtain ⟨k1, k2, k3⟩ := CI_R (Or.inl rfl) hC p2 p3 (Or.inl ⟨rfl, rfl⟩) 5 (Or.inl ⟨rfl, rfl⟩)
    exact ⟨_, rfl, k1, k2, k3⟩
  · simp (disch := omega) only [Option.bind_some, bd2_some, bdX_ok, bdX_er, nm_eq, n_0, n_1, n_2, n_3, n_4, n_5, n_6, n_7, n_8, n_9, n_10, n_11, n_12, n_14, n_15, n_16, n_17, n_18, n_19, n_20, n_21, n_24, n_27, n_28, n_32, n_43, n_45, n_48, n_56, n_57, n_59, n_64, n_70, n_97, n_99, n_100, n_104, n_118, n_122, n_126, n_127, n_128, n_129, n_130, n_150, n_255, n_600, n_1000, n_1050, n_1200, n_999999, n_1000000, iI_neg, iI_add, iI_sub, iI_mul, ile, ilt, ieq, G6_5, G6_3, h]
    rw [if_neg (by first | exact not_false | omega | decide)]
    exact ⟨m, rfl, hC, fun _ _ => rfl, hq⟩
theorem calmRoute_eq (hfu : 200000 ≤ fu) (hC : CI m x H) (hG : WG x) : ∃ m', f_X6_calmRoute fu 260 (mem w m) = some (263, mem w m') ∧ CI m' x H ∧ sameC m m' ∧ isPth m' 263 (bestR (sN x) (sR x) 1).1 := by
  have hN := hC.1.2.1
  unfold f_X6_calmRoute f_X6_calmRoute_21
  rcases hC.2.2.2.1 with h | ⟨h, hq⟩
  · obtain ⟨m1, p1, p2, p3⟩ := findBest_eq (w := w) (m := m) (fu := fu) (q := 263) (T := sR x) (by_ := 1) hfu (Or.inr rfl) hG.tok (Or.inr rfl) hN
    simp (disch := omega) only [Option.bind_some, bd2_some, bdX_ok, bdX_er, nm_eq, n_0, n_1, n_2, n_3, n_4, n_5, n_6, n_7, n_8, n_9, n_10, n_11, n_12, n_14, n_15, n_16, n_17, n_18, n_19, n_20, n_21, n_24, n_27, n_28, n_32, n_43, n_45, n_48, n_56, n_57, n_59, n_64, n_70, n_97, n_99, n_100, n_104, n_118, n_122, n_126, n_127, n_128, n_129, n_130, n_150, n_255, n_600, n_1000, n_1050, n_1200, n_999999, n_1000000, iI_neg, iI_add, iI_sub, iI_mul, ile, ilt, ieq, G6_6, G6_4, H6, h, p1, U6_6]
    rw [if_pos (by first | exact trivial | omega | decide)]
    obtain ⟨k1, k2, k3⟩ := CI_R (Or.inr rfl) hC p2 p3 (Or.inr ⟨rfl, rfl⟩) 6 (Or.inr ⟨rfl, rfl⟩)
    exact ⟨_, rfl, k1, k2, k3⟩
  · simp (disch := omega) only [Option.bind_some, bd2_some, bdX_ok, bdX_er, nm_eq, n_0, n_1, n_2, n_3, n_4, n_5, n_6, n_7, n_8, n_9, n_10, n_11, n_12, n_14, n_15, n_16, n_17, n_18, n_19, n_20, n_21, n_24, n_27, n_28, n_32, n_43, n_45, n_48, n_56, n_57, n_59, n_64, n_70, n_97, n_99, n_100, n_104, n_118, n_122, n_126, n_127, n_128, n_129, n_130, n_150, n_255, n_600, n_1000, n_1050, n_1200, n_999999, n_1000000, iI_neg, iI_add, iI_sub, iI_mul, ile, ilt, ieq, G6_6, G6_4, h]
    rw [if_neg (by first | exact not_false | omega | decide)]
    exact ⟨m, rfl, hC, fun _ _ => rfl, hq⟩
/-- the best route is one of the routes, or none -/
theorem ext_pOK {N : Nt} : ∀ (d : Nat) (l as : List Int), pOK N l → (∀ a ∈ as, 0 ≤ a ∧ a < nA N) → ∀ r ∈ ext N d l as, pOK N r ∧ endOf N r = nT N ∧ r ≠ [] := by
  intro d
  induction d with
  | zero => intro l as _ _ r hr; simp [ext] at hr
  | succ d ih =>
    intro l as hl ha r hr
    rw [ext, List.mem_flatMap] at hr
    obtain ⟨a, h1, h2⟩ := hr
    split at h2
    · rename_i hc
      have hp := pOK_snoc hl (ha a h1).1 (ha a h1).2 hc
      split at h2
      · rename_i ht
        rw [List.mem_singleton] at h2
        subst h2
        exact ⟨hp, by rw [endOf_snoc]; exact ht, by simp⟩
      · exact ih _ _ hp (fun b hb => arF_mem.mp hb) r h2
    · cases h2
theorem bestR_mem {N : Nt} {T : List (List Int)} {by_ : Int} : (bestR N T by_).1 = [] ∨ (bestR N T by_).1 ∈ routesOf N := by
  unfold bestR
  have : ∀ (L : List (List Int)) (b : Bs), (L.foldl (stepB N T by_) b).1 = b.1 ∨ (L.foldl (stepB N T by_) b).1 ∈ L := by
    intro L
    induction L with
    | nil => intro b; exact Or.inl rfl
    | cons r L ih =>
      intro b
      rw [List.foldl_cons]
      rcases ih (stepB N T by_ b r) with h | h
      · have : (stepB N T by_ b r).1 = b.1 ∨ (stepB N T by_ b r).1 = r := by
          rw [stepB.eq_1]
          by_cases c : b.1 = [] ∨ (if rgK N T by_ r = b.2.1 then (if wst N r = b.2.2.1 then (if cst N r 0 = b.2.2.2 then r.length < b.1.length else cst N r 0 < b.2.2.2) else wst N r < b.2.2.1) else rgK N T by_ r < b.2.1)
          · rw [if_pos c]; exact Or.inr rfl
          · rw [if_neg c]; exact Or.inl rfl
        rcases this with q | q
        · exact Or.inl (h.trans q)
        · exact Or.inr (by rw [h, q]; exact List.mem_cons_self)
      · exact Or.inr (List.mem_cons_of_mem _ h)
  exact this _ _
theorem bestR_PK {N : Nt} (hW : WFN N) {T : List (List Int)} {by_ : Int} : PK N (bestR N T by_).1 := by
  rcases bestR_mem (N := N) (T := T) (by_ := by_) with h | h
  · rw [h]; exact ⟨fun a ha => absurd ha List.not_mem_nil, List.nodup_nil⟩
  · exact pOK_PK hW (ext_pOK 8 [] _ pOK_nil (fun a ha => arF_mem.mp ha) _ h).1
def qBest (x : Sg) (by_ v : Int) : Int × Int := if ¬ (0 ≤ v ∧ v ≤ 5) then (1, 0) else if (bestR (sN x) (sR x) by_).1 = [] then (2, 0) else (0, numF x (bestR (sN x) (sR x) by_).1 v)
theorem requireSome_eq {q : Nat} {l : List Int} (hq : isPth m q l) : f_X10_requireSome fu q (mem w m) = some (if l = [] then .error eNS else .ok (), mem w m) := by
  have h7 := hq.2.2.2
  unfold f_X10_requireSome
  simp (disch := omega) only [Option.bind_some, bd2_some, bdX_ok, bdX_er, nm_eq, n_0, n_1, n_2, n_3, n_4, n_5, n_6, n_7, n_8, n_9, n_10, n_11, n_12, n_14, n_15, n_16, n_17, n_18, n_19, n_20, n_21, n_24, n_27, n_28, n_32, n_43, n_45, n_48, n_56, n_57, n_59, n_64, n_70, n_97, n_99, n_100, n_104, n_118, n_122, n_126, n_127, n_128, n_129, n_130, n_150, n_255, n_600, n_1000, n_1050, n_1200, n_999999, n_1000000, iI_neg, iI_add, iI_sub, iI_mul, ile, ilt, ieq, Q_len hq, Q_arr hq, Q_has hq]
  by_cases c1 : l = []
  · rw [if_pos (by rw [c1]; rfl), if_pos c1]
  · have : 0 < l.length := List.length_pos_iff.mpr c1
    rw [if_neg (by omega), if_neg c1]
theorem robust_eq (hfu : 200000 ≤ fu) (hC : CI m x H) (hG : WG x) (hv : i32 v) : ∃ m', f_X10_robust fu 0 (iI v) (mem w m) = some (xr [eIA, eNS] (qBest x 0 v).1 (qBest x 0 v).2, mem w m') ∧ CI m' x H ∧ sameC m m' := by
  unfold f_X10_robust qBest
  rw [reqNum_eq hv]
  by_cases c1 : 0 ≤ v ∧ v ≤ 5
  · rw [if_pos c1, if_neg (fun q => q c1), bdX_ok]
    obtain ⟨m1, p1, p2, p3, p4⟩ := robustRoute_eq (w := w) hfu hC hG
    simp (disch := omega) only [Option.bind_some, bd2_some, bdX_ok, bdX_er, nm_eq, n_0, n_1, n_2, n_3, n_4, n_5, n_6, n_7, n_8, n_9, n_10, n_11, n_12, n_14, n_15, n_16, n_17, n_18, n_19, n_20, n_21, n_24, n_27, n_28, n_32, n_43, n_45, n_48, n_56, n_57, n_59, n_64, n_70, n_97, n_99, n_100, n_104, n_118, n_122, n_126, n_127, n_128, n_129, n_130, n_150, n_255, n_600, n_1000, n_1050, n_1200, n_999999, n_1000000, iI_neg, iI_add, iI_sub, iI_mul, ile, ilt, ieq, G10_6, H6, p1, requireSome_eq p4]
    by_cases c2 : (bestR (sN x) (sR x) 0).1 = []
    · rw [if_pos c2, if_pos c2, bdX_er]; exact ⟨m1, rfl, p2, p3⟩
    · obtain ⟨m2, q1, q2, q3⟩ := numberOf_eq (w := w) (show 1000 ≤ fu by omega) p2 hG p4 (by decide) (bestR_PK hG.1) hv
      rw [if_neg c2, if_neg c2, bdX_ok]
      simp (disch := omega) only [Option.bind_some, bd2_some, bdX_ok, bdX_er, nm_eq, n_0, n_1, n_2, n_3, n_4, n_5, n_6, n_7, n_8, n_9, n_10, n_11, n_12, n_14, n_15, n_16, n_17, n_18, n_19, n_20, n_21, n_24, n_27, n_28, n_32, n_43, n_45, n_48, n_56, n_57, n_59, n_64, n_70, n_97, n_99, n_100, n_104, n_118, n_122, n_126, n_127, n_128, n_129, n_130, n_150, n_255, n_600, n_1000, n_1050, n_1200, n_999999, n_1000000, iI_neg, iI_add, iI_sub, iI_mul, ile, ilt, ieq, H10, q1]
      exact ⟨m2, rfl, q2, p3.trans q3⟩
  · rw [if_neg c1, if_pos (fun q => c1 q), bdX_er]; exact ⟨m, rfl, CI_rf hC⟩
theorem calm_eq (hfu : 200000 ≤ fu) (hC : CI m x H) (hG : WG x) (hv : i32 v) : ∃ m', f_X10_calm fu 0 (iI v) (mem w m) = some (xr [eIA, eNS] (qBest x 1 v).1 (qBest x 1 v).2, mem w m') ∧ CI m' x H ∧ sameC m m' := by
  unfold f_X10_calm qBest
  rw [reqNum_eq hv]
  by_cases c1 : 0 ≤ v ∧ v ≤ 5
  · rw [if_pos c1, if_neg (fun q => q c1), bdX_ok]
    obtain ⟨m1, p1, p2, p3, p4⟩ := calmRoute_eq (w := w) hfu hC hG
    simp (disch := omega) only [Option.bind_some, bd2_some, bdX_ok, bdX_er, nm_eq, n_0, n_1, n_2, n_3, n_4, n_5, n_6, n_7, n_8, n_9, n_10, n_11, n_12, n_14, n_15, n_16, n_17, n_18, n_19, n_20, n_21, n_24, n_27, n_28, n_32, n_43, n_45, n_48, n_56, n_57, n_59, n_64, n_70, n_97, n_99, n_100, n_104, n_118, n_122, n_126, n_127, n_128, n_129, n_130, n_150, n_255, n_600, n_1000, n_1050, n_1200, n_999999, n_1000000, iI_neg, iI_add, iI_sub, iI_mul, ile, ilt, ieq, G10_6, H6, p1, requireSome_eq p4]
    by_cases c2 : (bestR (sN x) (sR x) 1).1 = []
    · rw [if_pos c2, if_pos c2, bdX_er]; exact ⟨m1, rfl, p2, p3⟩
    · obtain ⟨m2, q1, q2, q3⟩ := numberOf_eq (w := w) (show 1000 ≤ fu by omega) p2 hG p4 (by decide) (bestR_PK hG.1) hv
      rw [if_neg c2, if_neg c2, bdX_ok]
      simp (disch := omega) only [Option.bind_some, bd2_some, bdX_ok, bdX_er, nm_eq, n_0, n_1, n_2, n_3, n_4, n_5, n_6, n_7, n_8, n_9, n_10, n_11, n_12, n_14, n_15, n_16, n_17, n_18, n_19, n_20, n_21, n_24, n_27, n_28, n_32, n_43, n_45, n_48, n_56, n_57, n_59, n_64, n_70, n_97, n_99, n_100, n_104, n_118, n_122, n_126, n_127, n_128, n_129, n_130, n_150, n_255, n_600, n_1000, n_1050, n_1200, n_999999, n_1000000, iI_neg, iI_add, iI_sub, iI_mul, ile, ilt, ieq, H10, q1]
      exact ⟨m2, rfl, q2, p3.trans q3⟩
  · rw [if_neg c1, if_pos (fun q => c1 q), bdX_er]; exact ⟨m, rfl, CI_rf hC⟩
def qBestArc (x : Sg) (by_ v : Int) : Int × Int := if 0 ≤ v ∧ v < (bestR (sN x) (sR x) by_).1.length then (0, (bestR (sN x) (sR x) by_).1.getD v.toNat 0) else (1, 0)
theorem bestArc_eq (hfu : 200000 ≤ fu) (hC : CI m x H) (hG : WG x) (hv : i32 v) {c : Int} (hc : c = 0 ∨ c = 1) : ∃ m', f_X10_bestArc fu 0 (iI c) (iI v) (mem w m) = some (xr [eIO] (qBestArc x c v).1 (qBestArc x c v).2, mem w m') ∧ CI m' x H ∧ sameC m m' := by
  unfold f_X10_bestArc f_X10_bestArc_21 qBestArc
  rcases hc with rfl | rfl
  · obtain ⟨m1, p1, p2, p3, p4⟩ := robustRoute_eq (w := w) hfu hC hG
    simp (disch := omega) only [Option.bind_some, bd2_some, bdX_ok, bdX_er, nm_eq, n_0, n_1, n_2, n_3, n_4, n_5, n_6, n_7, n_8, n_9, n_10, n_11, n_12, n_14, n_15, n_16, n_17, n_18, n_19, n_20, n_21, n_24, n_27, n_28, n_32, n_43, n_45, n_48, n_56, n_57, n_59, n_64, n_70, n_97, n_99, n_100, n_104, n_118, n_122, n_126, n_127, n_128, n_129, n_130, n_150, n_255, n_600, n_1000, n_1050, n_1200, n_999999, n_1000000, iI_neg, iI_add, iI_sub, iI_mul, ile, ilt, ieq, G10_6, H6, p1, arcAt_eq p4 hv]
    rw [if_pos (by first | exact trivial | omega | decide)]
    by_cases c1 : 0 ≤ v ∧ v < (bestR (sN x) (sR x) 0).1.length
    · rw [if_pos c1, if_pos c1, bdX_ok]; exact ⟨m1, rfl, p2, p3⟩
    · rw [if_neg c1, if_neg c1, bdX_er]; exact ⟨m1, rfl, p2, p3⟩
  · obtain ⟨m1, p1, p2, p3, p4⟩ := calmRoute_eq (w := w) hfu hC hG
    simp (disch := omega) only [Option.bind_some, bd2_some, bdX_ok, bdX_er, nm_eq, n_0, n_1, n_2, n_3, n_4, n_5, n_6, n_7, n_8, n_9, n_10, n_11, n_12, n_14, n_15, n_16, n_17, n_18, n_19, n_20, n_21, n_24, n_27, n_28, n_32, n_43, n_45, n_48, n_56, n_57, n_59, n_64, n_70, n_97, n_99, n_100, n_104, n_118, n_122, n_126, n_127, n_128, n_129, n_130, n_150, n_255, n_600, n_1000, n_1050, n_1200, n_999999, n_1000000, iI_neg, iI_add, iI_sub, iI_mul, ile, ilt, ieq, G10_6, H6, p1, arcAt_eq p4 hv]
    rw [if_neg (by first | exact not_false | omega | decide)]
    by_cases c1 : 0 ≤ v ∧ v < (bestR (sN x) (sR x) 1).1.length
    · rw [if_pos c1, if_pos c1, bdX_ok]; exact ⟨m1, rfl, p2, p3⟩
    · rw [if_neg c1, if_neg c1, bdX_er]; exact ⟨m1, rfl, p2, p3⟩
/-- the game, between calls -/
theorem CI_H (h : CI m x H) (e : sameH m m') (h1 : m' 265 3 = 1) (hG : gmAt m' (sN x) (GV (sN x) 64)) : CI m' x H ∧ sameC m m' := by
  obtain ⟨a1, a2, a3, a4, a5⟩ := h
  refine ⟨⟨a1.cong (fun p a b => e p (by omega) (by omega)), a2.cong (fun p a b => e p (by omega) (by omega)), ?_, ?_, Or.inr ⟨h1, hG⟩⟩, fun p hp => e p (by omega) (by omega)⟩
  · rw [e 260 (by omega) (by omega)]; exact a3.imp id (fun q => ⟨q.1, q.2.cong (e _ (by omega) (by omega)) (e _ (by omega) (by omega))⟩)
  · rw [e 260 (by omega) (by omega)]; exact a4.imp id (fun q => ⟨q.1, q.2.cong (e _ (by omega) (by omega)) (e _ (by omega) (by omega))⟩)
def qValue (x : Sg) (v a : Int) : Int × Int := if ¬ (0 ≤ v ∧ v < nN (sN x)) then (1, 0) else if ¬ (0 ≤ a ∧ a ≤ 6) then (2, 0) else (0, GV (sN x) 64 v a)
theorem value_eq (hfu : 1000 ≤ fu) (hC : CI m x H) (hv : i32 v) (ha : i32 a) : ∃ m', f_X10_value fu 0 (iI v) (iI a) (mem w m) = some (xr [eIO, eIA] (qValue x v a).1 (qValue x v a).2, mem w m') ∧ CI m' x H ∧ sameC m m' := by
  have hN := hC.1.2.1
  unfold f_X10_value qValue
  rw [H10, Option.bind_some, reqNode_eq hC hv]
  by_cases c1 : 0 ≤ v ∧ v < nN (sN x)
  · rw [if_pos c1, if_neg (fun q => q c1), bdX_ok, reqBudget_eq ha]
    by_cases c2 : 0 ≤ a ∧ a ≤ 6
    · rw [if_pos c2, if_neg (fun q => q c2), bdX_ok]
      obtain ⟨m1, p1, p2, p3, p4⟩ := solve_eq (w := w) hfu hN hC.2.2.2.2
      obtain ⟨k1, k2⟩ := CI_H hC p2 p3 p4
      have hw := worthOf_eq (w := w) (fu := fu) (l := a.toNat) p4 k1.1.2.1 (by omega) c1
      rw [show ((a.toNat : Nat) : Int) = a by omega] at hw
      simp (disch := omega) only [Option.bind_some, bd2_some, bdX_ok, bdX_er, nm_eq, n_0, n_1, n_2, n_3, n_4, n_5, n_6, n_7, n_8, n_9, n_10, n_11, n_12, n_14, n_15, n_16, n_17, n_18, n_19, n_20, n_21, n_24, n_27, n_28, n_32, n_43, n_45, n_48, n_56, n_57, n_59, n_64, n_70, n_97, n_99, n_100, n_104, n_118, n_122, n_126, n_127, n_128, n_129, n_130, n_150, n_255, n_600, n_1000, n_1050, n_1200, n_999999, n_1000000, iI_neg, iI_add, iI_sub, iI_mul, ile, ilt, ieq, G10_7, H0, p1, hw]
      exact ⟨m1, rfl, k1, k2⟩
    · rw [if_neg c2, if_pos (fun q => c2 q), bdX_er]; exact ⟨m, rfl, CI_rf hC⟩
  · rw [if_neg c1, if_pos (fun q => c1 q), bdX_er]; exact ⟨m, rfl, CI_rf hC⟩
def qNext (x : Sg) (v a : Int) : Int × Int := if ¬ (0 ≤ v ∧ v < nN (sN x)) then (1, 0) else if ¬ (0 ≤ a ∧ a ≤ 6) then (2, 0) else (0, bestA (sN x) (GV (sN x) 64) v a)
theorem bestNext_eq (hfu : 1000 ≤ fu) (hC : CI m x H) (hv : i32 v) (ha : i32 a) : ∃ m', f_X10_bestNext fu 0 (iI v) (iI a) (mem w m) = some (xr [eIO, eIA] (qNext x v a).1 (qNext x v a).2, mem w m') ∧ CI m' x H ∧ sameC m m' := by
  have hN := hC.1.2.1
  unfold f_X10_bestNext qNext
  rw [H10, Option.bind_some, reqNode_eq hC hv]
  by_cases c1 : 0 ≤ v ∧ v < nN (sN x)
  · rw [if_pos c1, if_neg (fun q => q c1), bdX_ok, reqBudget_eq ha]
    by_cases c2 : 0 ≤ a ∧ a ≤ 6
    · rw [if_pos c2, if_neg (fun q => q c2), bdX_ok]
      obtain ⟨m1, p1, p2, p3, p4⟩ := solve_eq (w := w) hfu hN hC.2.2.2.2
      obtain ⟨k1, k2⟩ := CI_H hC p2 p3 p4
      have hw := bestArcOf_eq (w := w) (fu := fu) (l := a.toNat) (show 100 ≤ fu by omega) k1.1.2.1 p4 (GV_ok hN.2.2 64 (by omega)) (by omega) (by omega) c1
      rw [show ((a.toNat : Nat) : Int) = a by omega] at hw
      simp (disch := omega) only [Option.bind_some, bd2_some, bdX_ok, bdX_er, nm_eq, n_0, n_1, n_2, n_3, n_4, n_5, n_6, n_7, n_8, n_9, n_10, n_11, n_12, n_14, n_15, n_16, n_17, n_18, n_19, n_20, n_21, n_24, n_27, n_28, n_32, n_43, n_45, n_48, n_56, n_57, n_59, n_64, n_70, n_97, n_99, n_100, n_104, n_118, n_122, n_126, n_127, n_128, n_129, n_130, n_150, n_255, n_600, n_1000, n_1050, n_1200, n_999999, n_1000000, iI_neg, iI_add, iI_sub, iI_mul, ile, ilt, ieq, G10_7, H0, p1, hw]
      exact ⟨m1, rfl, k1, k2⟩
    · rw [if_neg c2, if_pos (fun q => c2 q), bdX_er]; exact ⟨m, rfl, CI_rf hC⟩
  · rw [if_neg c1, if_pos (fun q => c1 q), bdX_er]; exact ⟨m, rfl, CI_rf hC⟩
/-- the promise behind so many steps; -1 for none -/
def prmN (x : Sg) (j : Nat) : Bool := decide (GV (sN x) 64 (jst (sN x) ((sJ x).take j)).1 (jst (sN x) ((sJ x).take j)).2.2 = -1)
def prm (x : Sg) (j : Nat) : Int := (jst (sN x) ((sJ x).take j)).2.1 + GV (sN x) 64 (jst (sN x) ((sJ x).take j)).1 (jst (sN x) ((sJ x).take j)).2.2
/-- the left budget of a journey is never below 0 -/
def JL (x : Sg) : Prop := ∀ j : Nat, j ≤ (sJ x).length → 0 ≤ (jst (sN x) ((sJ x).take j)).2.2
theorem SOK_take {N : Nt} {S : List Int} (h : SOK N S) (j : Nat) : SOK N (S.take j) := fun c hc => h c (List.mem_of_mem_take hc)
theorem promiseBehind_eq (hfu : 1000 ≤ fu) (hC : CI m x H) (hG : WG x) (hL : JL x) {j : Nat} (hj : j ≤ (sJ x).length) : ∃ m', f_X10_promiseBehind fu 0 (iI (j : Int)) (mem w m) = some (if prmN x j then .error eNS else .ok (iI (prm x j)), mem w m') ∧ CI m' x H ∧ sameC m m' := by
  have hN := hC.1.2.1
  have hS := hC.1.1
  have hw := hN.2.2.1
  obtain ⟨m1, p1, p2, p3, p4⟩ := solve_eq (w := w) hfu hN hC.2.2.2.2
  obtain ⟨k1, k2⟩ := CI_H hC p2 p3 p4
  have hJ := k1.1.2.2.2.2
  have h20 := hJ.2.2.1
  obtain ⟨j1, j2, j3⟩ := hJ.2.2.2 j hj
  have hr := jst_r hG.1 _ ((sJ x).take j) rfl (SOK_take hG.2.2.2 j)
  have hl := hL j hj
  have hwo := worthOf_eq (w := w) (fu := fu) (l := (jst (sN x) ((sJ x).take j)).2.2.toNat) p4 k1.1.2.1 (by omega) (v := (jst (sN x) ((sJ x).take j)).1) ⟨hr.1, hr.2.1⟩
  rw [show (((jst (sN x) ((sJ x).take j)).2.2.toNat : Nat) : Int) = (jst (sN x) ((sJ x).take j)).2.2 by omega] at hwo
  have hvb := GV_ok hG.1 64 (by omega) (jst (sN x) ((sJ x).take j)).1 (jst (sN x) ((sJ x).take j)).2.2 hr.1 hr.2.1 hl (by omega)
  unfold f_X10_promiseBehind
  simp (disch := omega) only [Option.bind_some, bd2_some, bdX_ok, bdX_er, nm_eq, n_0, n_1, n_2, n_3, n_4, n_5, n_6, n_7, n_8, n_9, n_10, n_11, n_12, n_14, n_15, n_16, n_17, n_18, n_19, n_20, n_21, n_24, n_27, n_28, n_32, n_43, n_45, n_48, n_56, n_57, n_59, n_64, n_70, n_97, n_99, n_100, n_104, n_118, n_122, n_126, n_127, n_128, n_129, n_130, n_150, n_255, n_600, n_1000, n_1050, n_1200, n_999999, n_1000000, iI_neg, iI_add, iI_sub, iI_mul, ile, ilt, ieq, G10_0, G10_7, S_4 hS, H0, p1, J_has hJ.1, J_0 hJ.1, J_p0 hJ.1, J_1 hJ.1, J_2 hJ.1, J_3 hJ.1, J_g1 hJ.1, J_g2 hJ.1, J_g3 hJ.1, J_s1 hJ.1, J_s2 hJ.1, J_s3 hJ.1, j1, j2, j3, hwo, n_m1]
  unfold prmN prm
  by_cases c : GV (sN x) 64 (jst (sN x) ((sJ x).take j)).1 (jst (sN x) ((sJ x).take j)).2.2 = -1
  · rw [if_pos c, if_pos (by simp [c])]; exact ⟨m1, rfl, k1, k2⟩
  · rw [if_neg c, if_neg (by simp [c])]; exact ⟨m1, rfl, k1, k2⟩
def qPromise (x : Sg) : Int × Int := if prmN x (sJ x).length then (1, 0) else (0, prm x (sJ x).length)
theorem promise_eq (hfu : 1000 ≤ fu) (hC : CI m x H) (hG : WG x) (hL : JL x) : ∃ m', f_X10_promise fu 0 (mem w m) = some (xr [eNS] (qPromise x).1 (qPromise x).2, mem w m') ∧ CI m' x H ∧ sameC m m' := by
  have hS := hC.1.1
  have hJ := hC.1.2.2.2.2
  obtain ⟨m1, p1, p2, p3⟩ := promiseBehind_eq (w := w) hfu hC hG hL (Nat.le_refl _)
  unfold f_X10_promise qPromise
  simp (disch := omega) only [Option.bind_some, bd2_some, bdX_ok, bdX_er, nm_eq, n_0, n_1, n_2, n_3, n_4, n_5, n_6, n_7, n_8, n_9, n_10, n_11, n_12, n_14, n_15, n_16, n_17, n_18, n_19, n_20, n_21, n_24, n_27, n_28, n_32, n_43, n_45, n_48, n_56, n_57, n_59, n_64, n_70, n_97, n_99, n_100, n_104, n_118, n_122, n_126, n_127, n_128, n_129, n_130, n_150, n_255, n_600, n_1000, n_1050, n_1200, n_999999, n_1000000, iI_neg, iI_add, iI_sub, iI_mul, ile, ilt, ieq, G10_0, S_4 hS, H10, J_0 hJ.1, hJ.2.1, p1]
  cases prmN x (sJ x).length with
  | true => rw [if_pos rfl, bdX_er]; exact ⟨m1, rfl, p2, p3⟩
  | false => rw [if_neg (by decide), bdX_ok]; exact ⟨m1, rfl, p2, p3⟩
def qGrief (x : Sg) (v : Int) : Int × Int := if ¬ (0 ≤ v ∧ v < (sJ x).length) then (1, 0) else if prmN x v.toNat || prmN x (v.toNat + 1) then (2, 0) else (0, prm x (v.toNat + 1) - prm x v.toNat)
theorem grief_eq (hfu : 1000 ≤ fu) (hC : CI m x H) (hG : WG x) (hL : JL x) (hv : i32 v) : ∃ m', f_X10_grief fu 0 (iI v) (mem w m) = some (xr [eIO, eNS] (qGrief x v).1 (qGrief x v).2, mem w m') ∧ CI m' x H ∧ sameC m m' := by
  have hS := hC.1.1
  have hJ := hC.1.2.2.2.2
  have h20 := hJ.2.2.1
  obtain ⟨v1, v2⟩ := hv
  unfold f_X10_grief qGrief
  simp (disch := omega) only [Option.bind_some, bd2_some, bdX_ok, bdX_er, nm_eq, n_0, n_1, n_2, n_3, n_4, n_5, n_6, n_7, n_8, n_9, n_10, n_11, n_12, n_14, n_15, n_16, n_17, n_18, n_19, n_20, n_21, n_24, n_27, n_28, n_32, n_43, n_45, n_48, n_56, n_57, n_59, n_64, n_70, n_97, n_99, n_100, n_104, n_118, n_122, n_126, n_127, n_128, n_129, n_130, n_150, n_255, n_600, n_1000, n_1050, n_1200, n_999999, n_1000000, iI_neg, iI_add, iI_sub, iI_mul, ile, ilt, ieq, G10_0, S_4 hS, H10, J_0 hJ.1, hJ.2.1]
  by_cases c1 : v < 0
  · rw [if_pos c1, if_pos (by omega)]; exact ⟨m, rfl, CI_rf hC⟩
  rw [if_neg c1]
  by_cases c2 : v < (sJ x).length
  · rw [if_pos c2, if_neg (show ¬ ¬ (0 ≤ v ∧ v < (sJ x).length) by omega)]
    obtain ⟨m1, p1, p2, p3⟩ := promiseBehind_eq (w := w) hfu hC hG hL (j := v.toNat) (by omega)
    obtain ⟨m2, q1, q2, q3⟩ := promiseBehind_eq (w := w) hfu p2 hG hL (j := v.toNat + 1) (by omega)
    rw [show ((v.toNat : Nat) : Int) = v by omega] at p1
    rw [show ((v.toNat + 1 : Nat) : Int) = v + 1 by omega] at q1
    rw [p1]
    cases c3 : prmN x v.toNat with
    | true => rw [if_pos rfl, bdX_er, Bool.true_or, if_pos rfl]; exact ⟨m1, rfl, p2, p3⟩
    | false =>
      rw [if_neg (by decide), bdX_ok, H10, Option.bind_some, q1, Bool.false_or]
      cases c4 : prmN x (v.toNat + 1) with
      | true => rw [if_pos rfl, bdX_er, if_pos rfl]; exact ⟨m2, rfl, q2, p3.trans q3⟩
      | false =>
        rw [if_neg (by decide), bdX_ok, if_neg (by decide)]
        simp (disch := omega) only [Option.bind_some, bd2_some, bdX_ok, bdX_er, nm_eq, n_0, n_1, n_2, n_3, n_4, n_5, n_6, n_7, n_8, n_9, n_10, n_11, n_12, n_14, n_15, n_16, n_17, n_18, n_19, n_20, n_21, n_24, n_27, n_28, n_32, n_43, n_45, n_48, n_56, n_57, n_59, n_64, n_70, n_97, n_99, n_100, n_104, n_118, n_122, n_126, n_127, n_128, n_129, n_130, n_150, n_255, n_600, n_1000, n_1050, n_1200, n_999999, n_1000000, iI_neg, iI_add, iI_sub, iI_mul, ile, ilt, ieq]
        exact ⟨m2, rfl, q2, p3.trans q3⟩
  · rw [if_neg c2, if_pos (show ¬ (0 ≤ v ∧ v < (sJ x).length) by omega)]; exact ⟨m, rfl, CI_rf hC⟩
end CR
