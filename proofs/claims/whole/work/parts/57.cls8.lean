/-! what is written; the text buffer -/
def wrtL (N : Nt) (W : Int32) : List Int → List Int
  | [] => []
  | a :: l => (if bt W a = 0 then 45 else 43) :: (48 + aHd N a) :: wrtL N W l
def wrtF (N : Nt) (l : List Int) : List Int := (48 + nS N) :: wrtL N (wit N l) l
theorem wrtL_len {N : Nt} {W : Int32} : ∀ l : List Int, (wrtL N W l).length = 2 * l.length := by
  intro l
  induction l with
  | nil => rfl
  | cons a l ih => rw [wrtL, List.length_cons, List.length_cons, ih, List.length_cons]; omega
/-- the written bytes -/
def WR (m : Mm) (L : List Int) : Prop := m 0 9 = L.length ∧ L.length ≤ 15 ∧ ∀ (j : Nat) (c : Int), L[j]? = some c → m 282 j = c
section WT
variable {w : Wl} {m m' : Mm} {fu : Nat} {x : Sg} {H : List Sg} {v a : Int} {L : List Int}
theorem sk282 : SK[282]? = some (12, List.replicate 15 none) := by decide +kernel
theorem byte_id {c : Int} (h0 : 0 ≤ c) (h1 : c < 128) : (iI c).toInt8.toInt32 = iI c := by
  have h : ∀ n : Nat, n < 128 → (iI (n : Int)).toInt8.toInt32 = iI (n : Int) := by decide +kernel
  have := h c.toNat (by omega)
  rw [show ((c.toNat : Nat) : Int) = c by omega] at this
  exact this
theorem WR_al : aLen (mem w m) 282 12 = some (iI 15) := aLen_mem sk282 rfl
theorem WR_set {z c : Int} (h0 : 0 ≤ z) (h1 : z < 15) : aSet (mem w m) 282 12 (iI z) (.int (iI c)) = some (mem w (up m 282 z c)) := aSet_mem sk282 h0 h1 (by decide)
theorem WR_get {z : Int} (h0 : 0 ≤ z) (h1 : z < 15) : aI (mem w m) 282 12 (iI z) = some (iI (m 282 z)) := aI_mem sk282 h0 h1 (by decide)
/-- only the written bytes have changed -/
def sameT (m m' : Mm) : Prop := (∀ p, p ≠ 0 → p ≠ 282 → m' p = m p)
theorem writeByte_eq (h : WR m L) (h15 : L.length < 15) {c : Int} (h0 : 0 ≤ c) (h1 : c < 128) : ∃ m', f_X10_writeByte fu 0 (iI c) (mem w m) = some ((), mem w m') ∧ sameT m m' ∧ WR m' (L ++ [c]) := by
  unfold f_X10_writeByte
  rw [byte_id h0 h1, byte_id h0 h1]
  simp (disch := omega) only [Option.bind_some, bd2_some, bdX_ok, bdX_er, nm_eq, n_0, n_1, n_2, n_3, n_4, n_5, n_6, n_7, n_8, n_9, n_10, n_11, n_12, n_14, n_15, n_16, n_17, n_18, n_19, n_20, n_21, n_24, n_27, n_28, n_32, n_43, n_45, n_48, n_56, n_57, n_59, n_64, n_70, n_97, n_99, n_100, n_104, n_118, n_122, n_126, n_127, n_128, n_129, n_130, n_150, n_255, n_600, n_1000, n_1050, n_1200, n_999999, n_1000000, iI_neg, iI_add, iI_sub, iI_mul, ile, ilt, ieq, G10_9, G10_8, h.1, WR_al, WR_set]
  rw [if_neg (by omega)]
  have e : (up m 282 L.length c) 0 9 = L.length := by rw [up_ne (by omega), h.1]
  rw [e]
  simp (disch := omega) only [Option.bind_some, bd2_some, bdX_ok, bdX_er, nm_eq, n_0, n_1, n_2, n_3, n_4, n_5, n_6, n_7, n_8, n_9, n_10, n_11, n_12, n_14, n_15, n_16, n_17, n_18, n_19, n_20, n_21, n_24, n_27, n_28, n_32, n_43, n_45, n_48, n_56, n_57, n_59, n_64, n_70, n_97, n_99, n_100, n_104, n_118, n_122, n_126, n_127, n_128, n_129, n_130, n_150, n_255, n_600, n_1000, n_1050, n_1200, n_999999, n_1000000, iI_neg, iI_add, iI_sub, iI_mul, ile, ilt, ieq, U10_9]
  refine ⟨_, rfl, fun p a b => by rw [up_ne a, up_ne b], by rw [up_at]; simp, by simp; omega, fun j d hj => ?_⟩
  rw [up_ne (by omega)]
  by_cases c1 : j = L.length
  · subst c1; rw [up_at]; simpa using hj
  · have := (List.getElem?_eq_some_iff.mp hj).1
    simp at this
    rw [up_off (by omega)]
    rw [List.getElem?_append_left (by omega)] at hj
    exact h.2.2 j d hj
theorem CI_T (h : CI m x H) (e : sameT m m') : CI m' x H := h.cong (fun p hp => e p (by omega) (by omega))
theorem isNet_T {N : Nt} (h : isNet m 2 N) (e : sameT m m') : isNet m' 2 N := h.cong (e _ (by decide) (by decide)) (e _ (by decide) (by decide)) (e _ (by decide) (by decide)) (e _ (by decide) (by decide)) (e _ (by decide) (by decide))
theorem writeRoute_go {k116 : Nat → List Ob → Option (Except String Int32 × List Ob)} {N : Nt} {W : Int32} {q : Nat} {l : List Int} (hS : isS 1) (hqq : q ≠ 0 ∧ q + 1 ≠ 0 ∧ q ≠ 282 ∧ q + 1 ≠ 282) (hl : AOK N l) : ∀ (suf pre : List Int) (n : Nat) (m : Mm) (L : List Int), isNet m 2 N → isPth m q l → l = pre ++ suf → suf.length < n → WR m L → L.length + 2 * suf.length ≤ 15 → ∃ m', f_X10_writeRoute_52 fu k116 n 0 q W (iI (pre.length : Int)) (mem w m) = k116 0 (mem w m') ∧ sameT m m' ∧ WR m' (L ++ wrtL N W suf) := by
  intro suf
  induction suf with
  | nil =>
    intro pre n m L hN hq hs hn hW h15
    have h7 := hq.2.2.2
    have hlen : l.length = pre.length := by rw [hs]; simp
    obtain ⟨n, rfl⟩ : ∃ k, n = k + 1 := ⟨n - 1, by omega⟩
    rw [f_X10_writeRoute_52, f_X10_writeRoute_52b]
    simp (disch := omega) only [Option.bind_some, bd2_some, bdX_ok, bdX_er, nm_eq, n_0, n_1, n_2, n_3, n_4, n_5, n_6, n_7, n_8, n_9, n_10, n_11, n_12, n_14, n_15, n_16, n_17, n_18, n_19, n_20, n_21, n_24, n_27, n_28, n_32, n_43, n_45, n_48, n_56, n_57, n_59, n_64, n_70, n_97, n_99, n_100, n_104, n_118, n_122, n_126, n_127, n_128, n_129, n_130, n_150, n_255, n_600, n_1000, n_1050, n_1200, n_999999, n_1000000, iI_neg, iI_add, iI_sub, iI_mul, ile, ilt, ieq, Q_len hq, Q_arr hq, Q_has hq]
    rw [if_pos (by omega)]
    exact ⟨m, rfl, fun _ _ _ => rfl, by simpa [wrtL] using hW⟩
  | cons a suf ih =>
    intro pre n m L hN hq hs hn hW h15
    have h7 := hq.2.2.2
    have hw := hN.2.2.1
    have hlen : l.length = pre.length + (suf.length + 1) := by rw [hs]; simp
    have hg := Q_get (w := w) (j := pre.length) (a := a) hq (by rw [hs]; exact mid_at)
    obtain ⟨ha, ha'⟩ := hl a (by rw [hs]; simp)
    have hA := hN.2.2.arc ha ha'
    simp only [List.length_cons] at hn h15
    obtain ⟨n, rfl⟩ : ∃ k, n = k + 1 := ⟨n - 1, by omega⟩
    have step : ∀ c : Int, 0 ≤ c → c < 128 → c = (if bt W a = 0 then 45 else 43) → ∃ m', f_X10_writeRoute_87 fu 0 q W (iI (pre.length : Int)) (iI a) 0 (iI c) (mem w m) (fun a0 a2 a3 a4 M => f_X10_writeRoute_52 fu k116 n a0 a2 a3 a4 M) k116 = k116 0 (mem w m') ∧ sameT m m' ∧ WR m' (L ++ wrtL N W (a :: suf)) := by
      intro c c0 c1 hc
      obtain ⟨m1, p1, p2, p3⟩ := writeByte_eq (w := w) (fu := fu) hW (by omega) c0 c1
      have hN1 := isNet_T hN p2
      obtain ⟨m2, q1, q2, q3⟩ := writeByte_eq (w := w) (fu := fu) p3 (by simp; omega) (c := 48 + aHd N a) (by omega) (by omega)
      have hN2 := isNet_T hN1 q2
      unfold f_X10_writeRoute_87
      simp (disch := omega) only [Option.bind_some, bd2_some, bdX_ok, bdX_er, nm_eq, n_0, n_1, n_2, n_3, n_4, n_5, n_6, n_7, n_8, n_9, n_10, n_11, n_12, n_14, n_15, n_16, n_17, n_18, n_19, n_20, n_21, n_24, n_27, n_28, n_32, n_43, n_45, n_48, n_56, n_57, n_59, n_64, n_70, n_97, n_99, n_100, n_104, n_118, n_122, n_126, n_127, n_128, n_129, n_130, n_150, n_255, n_600, n_1000, n_1050, n_1200, n_999999, n_1000000, iI_neg, iI_add, iI_sub, iI_mul, ile, ilt, ieq, H10, p1, G10_0, S_0 hS, K_has hN1, K_0 hN1, K_1 hN1, K_2 hN1, K_3 hN1, K_4 hN1, K_5 hN1, K_6 hN1, K_7 hN1, K_8 hN1, K_tl hN1, K_hd hN1, K_co hN1, K_ex hN1, q1]
      have hq2 : isPth m2 q l := (hq.cong (p2 _ hqq.1 hqq.2.2.1) (p2 _ hqq.2.1 hqq.2.2.2)).cong (q2 _ hqq.1 hqq.2.2.1) (q2 _ hqq.2.1 hqq.2.2.2)
      obtain ⟨m3, r1, r2, r3⟩ := ih (pre ++ [a]) n m2 (L ++ [c] ++ [48 + aHd N a]) hN2 hq2 (by rw [hs]; simp) (by omega) q3 (by simp; omega)
      rw [show ((pre ++ [a]).length : Int) = (pre.length : Int) + 1 by simp] at r1
      refine ⟨m3, r1, fun p x y => by rw [r2 p x y, q2 p x y, p2 p x y], ?_⟩
      rw [wrtL, ← hc]
      simpa using r3
    rw [f_X10_writeRoute_52, f_X10_writeRoute_52b]
    simp (disch := omega) only [Option.bind_some, bd2_some, bdX_ok, bdX_er, nm_eq, n_0, n_1, n_2, n_3, n_4, n_5, n_6, n_7, n_8, n_9, n_10, n_11, n_12, n_14, n_15, n_16, n_17, n_18, n_19, n_20, n_21, n_24, n_27, n_28, n_32, n_43, n_45, n_48, n_56, n_57, n_59, n_64, n_70, n_97, n_99, n_100, n_104, n_118, n_122, n_126, n_127, n_128, n_129, n_130, n_150, n_255, n_600, n_1000, n_1050, n_1200, n_999999, n_1000000, iI_neg, iI_add, iI_sub, iI_mul, ile, ilt, ieq, Q_len hq, Q_arr hq, Q_has hq, hg, isIn_eq ha (show a < 32 by omega)]
    have hb := bt_01 W a
    rw [if_neg (by omega)]
    simp (disch := omega) only [Option.bind_some, bd2_some, bdX_ok, bdX_er, nm_eq, n_0, n_1, n_2, n_3, n_4, n_5, n_6, n_7, n_8, n_9, n_10, n_11, n_12, n_14, n_15, n_16, n_17, n_18, n_19, n_20, n_21, n_24, n_27, n_28, n_32, n_43, n_45, n_48, n_56, n_57, n_59, n_64, n_70, n_97, n_99, n_100, n_104, n_118, n_122, n_126, n_127, n_128, n_129, n_130, n_150, n_255, n_600, n_1000, n_1050, n_1200, n_999999, n_1000000, iI_neg, iI_add, iI_sub, iI_mul, ile, ilt, ieq]
    by_cases c : bt W a = 0
    · rw [if_pos c]; exact step 45 (by omega) (by omega) (by rw [if_pos c])
    · rw [if_neg c]; exact step 43 (by omega) (by omega) (by rw [if_neg c])
def qWrite (x : Sg) (a : Int) : Int × Int := if ¬ (0 ≤ a ∧ a < (sR x).length) then (1, 0) else (0, (wrtF (sN x) (lR x a)).length)
def wrNew (x : Sg) (a : Int) (L : List Int) : List Int := if ¬ (0 ≤ a ∧ a < (sR x).length) then L else wrtF (sN x) (lR x a)
theorem writeRoute_eq (hfu : 1000 ≤ fu) (hC : CI m x H) (hG : WG x) (ha : i32 a) (hW : WR m L) : ∃ m', f_X10_writeRoute fu 0 (iI a) (mem w m) = some (xr [eIO] (qWrite x a).1 (qWrite x a).2, mem w m') ∧ CI m' x H ∧ sameT m m' ∧ WR m' (wrNew x a L) := by
  have hS := hC.1.1
  have hN := hC.1.2.1
  have hw := hN.2.2.1
  unfold f_X10_writeRoute qWrite wrNew
  rw [H10, Option.bind_some, reqRoute_eq hC ha]
  by_cases c1 : 0 ≤ a ∧ a < (sR x).length
  · have h6 := hC.1.2.2.1.2.2.1
    obtain ⟨l, t1, t2, t3, t4⟩ := tR (w := w) hC c1.1 c1.2
    have hl := hG.pk l t2
    have h7 := t3.2.2.2
    rw [if_pos c1, if_neg (fun q => q c1), if_neg (fun q => q c1), bdX_ok, lR_of t1]
    have hT0 : sameT m (up m 0 9 0) := fun p a b => up_ne a
    have hN0 := isNet_T hN hT0
    have hW0 : WR (up m 0 9 0) [] := ⟨up_at, by simp, fun j c hj => by simp at hj⟩
    obtain ⟨m1, p1, p2, p3⟩ := writeByte_eq (w := w) (fu := fu) hW0 (by simp) (c := 48 + nS (sN x)) (by omega) (by omega)
    have hN1 := isNet_T hN0 p2
    have hq1 : isPth m1 (1 + 9 + 2 * a.toNat) l := (t3.cong (hT0 _ (by omega) (by omega)) (hT0 _ (by omega) (by omega))).cong (p2 _ (by omega) (by omega)) (p2 _ (by omega) (by omega))
    obtain ⟨m2, q1, q2, q3⟩ := writeRoute_go (w := w) (fu := fu) (k116 := fun x32 M33 => f_X10_writeRoute_116 fu x32 M33) (W := wit (sN x) l) hS (q := 1 + 9 + 2 * a.toNat) (by omega) hl.1 l [] fu m1 _ hN1 hq1 rfl (by omega) p3 (by simp; omega)
    rw [show (([] : List Int).length : Int) = 0 from rfl] at q1
    simp (disch := omega) only [Option.bind_some, bd2_some, bdX_ok, bdX_er, nm_eq, n_0, n_1, n_2, n_3, n_4, n_5, n_6, n_7, n_8, n_9, n_10, n_11, n_12, n_14, n_15, n_16, n_17, n_18, n_19, n_20, n_21, n_24, n_27, n_28, n_32, n_43, n_45, n_48, n_56, n_57, n_59, n_64, n_70, n_97, n_99, n_100, n_104, n_118, n_122, n_126, n_127, n_128, n_129, n_130, n_150, n_255, n_600, n_1000, n_1050, n_1200, n_999999, n_1000000, iI_neg, iI_add, iI_sub, iI_mul, ile, ilt, ieq, G10_0, S_0 hS, S_2 hS, t4, K_has hN, K_0 hN, K_1 hN, K_2 hN, K_3 hN, K_4 hN, K_5 hN, K_6 hN, K_7 hN, K_8 hN, K_tl hN, K_hd hN, K_co hN, K_ex hN, witnessOf_eq (w := w) (show 100 ≤ fu by omega) hN t3 hl.1, U10_9, K_has hN0, K_0 hN0, K_1 hN0, K_2 hN0, K_3 hN0, K_4 hN0, K_5 hN0, K_6 hN0, K_7 hN0, K_8 hN0, K_tl hN0, K_hd hN0, K_co hN0, K_ex hN0, H10, p1, q1]
    unfold f_X10_writeRoute_116
    simp (disch := omega) only [Option.bind_some, bd2_some, bdX_ok, bdX_er, nm_eq, n_0, n_1, n_2, n_3, n_4, n_5, n_6, n_7, n_8, n_9, n_10, n_11, n_12, n_14, n_15, n_16, n_17, n_18, n_19, n_20, n_21, n_24, n_27, n_28, n_32, n_43, n_45, n_48, n_56, n_57, n_59, n_64, n_70, n_97, n_99, n_100, n_104, n_118, n_122, n_126, n_127, n_128, n_129, n_130, n_150, n_255, n_600, n_1000, n_1050, n_1200, n_999999, n_1000000, iI_neg, iI_add, iI_sub, iI_mul, ile, ilt, ieq, G10_9, q3.1]
    have ht : sameT m m2 := fun p a b => by rw [q2 p a b, p2 p a b, hT0 p a b]
    exact ⟨m2, rfl, CI_T hC ht, ht, q3⟩
  · rw [if_neg c1, if_pos (fun q => c1 q), if_pos (fun q => c1 q), bdX_er]; exact ⟨m, rfl, hC, fun _ _ _ => rfl, hW⟩
def qByte (L : List Int) (v : Int) : Int × Int := if 0 ≤ v ∧ v < L.length then (0, L.getD v.toNat 0) else (1, 0)
theorem writtenByte_eq (hW : WR m L) (hv : i32 v) : f_X10_writtenByte fu 0 (iI v) (mem w m) = some (xr [eIO] (qByte L v).1 (qByte L v).2, mem w m) := by
  have h15 := hW.2.1
  obtain ⟨v1, v2⟩ := hv
  unfold f_X10_writtenByte qByte
  simp (disch := omega) only [Option.bind_some, bd2_some, bdX_ok, bdX_er, nm_eq, n_0, n_1, n_2, n_3, n_4, n_5, n_6, n_7, n_8, n_9, n_10, n_11, n_12, n_14, n_15, n_16, n_17, n_18, n_19, n_20, n_21, n_24, n_27, n_28, n_32, n_43, n_45, n_48, n_56, n_57, n_59, n_64, n_70, n_97, n_99, n_100, n_104, n_118, n_122, n_126, n_127, n_128, n_129, n_130, n_150, n_255, n_600, n_1000, n_1050, n_1200, n_999999, n_1000000, iI_neg, iI_add, iI_sub, iI_mul, ile, ilt, ieq, G10_9, G10_8, hW.1]
  by_cases c1 : v < 0
  · rw [if_pos c1, if_neg (by omega)]; rfl
  rw [if_neg c1]
  by_cases c2 : v < L.length
  · have hi : v.toNat < L.length := by omega
    have := hW.2.2 v.toNat _ (List.getElem?_eq_getElem hi)
    rw [show ((v.toNat : Nat) : Int) = v by omega] at this
    rw [if_pos c2, WR_get (by omega) (by omega), if_pos (by omega), this]
    have e : L.getD v.toNat 0 = L[v.toNat] := by simp [List.getD, hi]
    rw [e]
    rfl
  · rw [if_neg c2, if_neg (by omega)]; rfl
end WT
