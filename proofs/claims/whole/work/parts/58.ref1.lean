/-! the reference: its memory -/
theorem n_13 : (13 : Int32) = iI 13 := id rfl
theorem n_50 : (50 : Int32) = iI 50 := id rfl
theorem n_69 : (69 : Int32) = iI 69 := id rfl
section RB
variable {w : Wl} {m m' : Mm} {p : Nat} {z v k a : Int} {fu : Nat} {N : Nt} {D : Int32}
theorem sk283 : SK[283]? = some (11, [some 284, some 285, some 286, none, none, some 287, none, none, none, none, none, none, none, none, none, some 288, none, some 289, some 290, none, none, none, none, none, some 291, some 292, some 293, none]) := by decide +kernel
theorem Z_has : hasO (mem w m) 283 11 = some () := hasO_mem sk283
theorem Z_0 : gP (mem w m) 283 11 0 = some 284 := gP_mem sk283 rfl
theorem Z_1 : gP (mem w m) 283 11 1 = some 285 := gP_mem sk283 rfl
theorem Z_2 : gP (mem w m) 283 11 2 = some 286 := gP_mem sk283 rfl
theorem Z_5 : gP (mem w m) 283 11 5 = some 287 := gP_mem sk283 rfl
theorem Z_15 : gP (mem w m) 283 11 15 = some 288 := gP_mem sk283 rfl
theorem Z_17 : gP (mem w m) 283 11 17 = some 289 := gP_mem sk283 rfl
theorem Z_18 : gP (mem w m) 283 11 18 = some 290 := gP_mem sk283 rfl
theorem Z_24 : gP (mem w m) 283 11 24 = some 291 := gP_mem sk283 rfl
theorem Z_25 : gP (mem w m) 283 11 25 = some 292 := gP_mem sk283 rfl
theorem Z_26 : gP (mem w m) 283 11 26 = some 293 := gP_mem sk283 rfl
theorem Z_3 : gI (mem w m) 283 11 3 = some (iI (m 283 3)) := gI_mem sk283 rfl
theorem Y_3 : pF (mem w m) 283 11 3 (.int (iI v)) = some (mem w (up m 283 3 v)) := pF_mem sk283 rfl
theorem Z_4 : gI (mem w m) 283 11 4 = some (iI (m 283 4)) := gI_mem sk283 rfl
theorem Y_4 : pF (mem w m) 283 11 4 (.int (iI v)) = some (mem w (up m 283 4 v)) := pF_mem sk283 rfl
theorem Z_6 : gI (mem w m) 283 11 6 = some (iI (m 283 6)) := gI_mem sk283 rfl
theorem Y_6 : pF (mem w m) 283 11 6 (.int (iI v)) = some (mem w (up m 283 6 v)) := pF_mem sk283 rfl
theorem Z_7 : gI (mem w m) 283 11 7 = some (iI (m 283 7)) := gI_mem sk283 rfl
theorem Y_7 : pF (mem w m) 283 11 7 (.int (iI v)) = some (mem w (up m 283 7 v)) := pF_mem sk283 rfl
theorem Z_8 : gI (mem w m) 283 11 8 = some (iI (m 283 8)) := gI_mem sk283 rfl
theorem Y_8 : pF (mem w m) 283 11 8 (.int (iI v)) = some (mem w (up m 283 8 v)) := pF_mem sk283 rfl
theorem Z_9 : gI (mem w m) 283 11 9 = some (iI (m 283 9)) := gI_mem sk283 rfl
theorem Y_9 : pF (mem w m) 283 11 9 (.int (iI v)) = some (mem w (up m 283 9 v)) := pF_mem sk283 rfl
theorem Z_10 : gI (mem w m) 283 11 10 = some (iI (m 283 10)) := gI_mem sk283 rfl
theorem Y_10 : pF (mem w m) 283 11 10 (.int (iI v)) = some (mem w (up m 283 10 v)) := pF_mem sk283 rfl
theorem Z_11 : gI (mem w m) 283 11 11 = some (iI (m 283 11)) := gI_mem sk283 rfl
theorem Y_11 : pF (mem w m) 283 11 11 (.int (iI v)) = some (mem w (up m 283 11 v)) := pF_mem sk283 rfl
theorem Z_12 : gI (mem w m) 283 11 12 = some (iI (m 283 12)) := gI_mem sk283 rfl
theorem Y_12 : pF (mem w m) 283 11 12 (.int (iI v)) = some (mem w (up m 283 12 v)) := pF_mem sk283 rfl
theorem Z_13 : gI (mem w m) 283 11 13 = some (iI (m 283 13)) := gI_mem sk283 rfl
theorem Y_13 : pF (mem w m) 283 11 13 (.int (iI v)) = some (mem w (up m 283 13 v)) := pF_mem sk283 rfl
theorem Z_14 : gI (mem w m) 283 11 14 = some (iI (m 283 14)) := gI_mem sk283 rfl
theorem Y_14 : pF (mem w m) 283 11 14 (.int (iI v)) = some (mem w (up m 283 14 v)) := pF_mem sk283 rfl
theorem Z_16 : gI (mem w m) 283 11 16 = some (iI (m 283 16)) := gI_mem sk283 rfl
theorem Y_16 : pF (mem w m) 283 11 16 (.int (iI v)) = some (mem w (up m 283 16 v)) := pF_mem sk283 rfl
theorem Z_19 : gI (mem w m) 283 11 19 = some (iI (m 283 19)) := gI_mem sk283 rfl
theorem Y_19 : pF (mem w m) 283 11 19 (.int (iI v)) = some (mem w (up m 283 19 v)) := pF_mem sk283 rfl
theorem Z_20 : gI (mem w m) 283 11 20 = some (iI (m 283 20)) := gI_mem sk283 rfl
theorem Y_20 : pF (mem w m) 283 11 20 (.int (iI v)) = some (mem w (up m 283 20 v)) := pF_mem sk283 rfl
theorem Z_21 : gI (mem w m) 283 11 21 = some (iI (m 283 21)) := gI_mem sk283 rfl
theorem Y_21 : pF (mem w m) 283 11 21 (.int (iI v)) = some (mem w (up m 283 21 v)) := pF_mem sk283 rfl
theorem Z_22 : gI (mem w m) 283 11 22 = some (iI (m 283 22)) := gI_mem sk283 rfl
theorem Y_22 : pF (mem w m) 283 11 22 (.int (iI v)) = some (mem w (up m 283 22 v)) := pF_mem sk283 rfl
theorem Z_23 : gI (mem w m) 283 11 23 = some (iI (m 283 23)) := gI_mem sk283 rfl
theorem Y_23 : pF (mem w m) 283 11 23 (.int (iI v)) = some (mem w (up m 283 23 v)) := pF_mem sk283 rfl
theorem Z_27 : gI (mem w m) 283 11 27 = some (iI (m 283 27)) := gI_mem sk283 rfl
theorem Y_27 : pF (mem w m) 283 11 27 (.int (iI v)) = some (mem w (up m 283 27 v)) := pF_mem sk283 rfl
def isRw (p : Nat) : Prop := SK[p]? = some (13, List.replicate 150 none)
theorem rw284 : isRw 284 := by unfold isRw; decide +kernel
theorem rw285 : isRw 285 := by unfold isRw; decide +kernel
theorem Rw_g (h : isRw p) (h0 : 0 ≤ z) (h1 : z < 150) : aI (mem w m) p 13 (iI z) = some (iI (m p z)) := aI_mem h h0 h1 (by decide)
theorem Rw_s (h : isRw p) (h0 : 0 ≤ z) (h1 : z < 150) : aSet (mem w m) p 13 (iI z) (.int (iI v)) = some (mem w (up m p z v)) := aSet_mem h h0 h1 (by decide)
theorem A_g (h0 : 0 ≤ z) (h1 : z < 150) : aI (mem w m) 284 13 (iI z) = some (iI (m 284 z)) := Rw_g rw284 h0 h1
theorem A_s (h0 : 0 ≤ z) (h1 : z < 150) : aSet (mem w m) 284 13 (iI z) (.int (iI v)) = some (mem w (up m 284 z v)) := Rw_s rw284 h0 h1
theorem sk286 : SK[286]? = some (13, List.replicate 1200 none) := by decide +kernel
theorem Kp_g (h0 : 0 ≤ z) (h1 : z < 1200) : aI (mem w m) 286 13 (iI z) = some (iI (m 286 z)) := aI_mem sk286 h0 h1 (by decide)
theorem Kp_s (h0 : 0 ≤ z) (h1 : z < 1200) : aSet (mem w m) 286 13 (iI z) (.int (iI v)) = some (mem w (up m 286 z v)) := aSet_mem sk286 h0 h1 (by decide)
theorem sk287 : SK[287]? = some (13, List.replicate 600 none) := by decide +kernel
theorem Bu_g (h0 : 0 ≤ z) (h1 : z < 600) : aI (mem w m) 287 13 (iI z) = some (iI (m 287 z)) := aI_mem sk287 h0 h1 (by decide)
theorem Bu_s (h0 : 0 ≤ z) (h1 : z < 600) : aSet (mem w m) 287 13 (iI z) (.int (iI v)) = some (mem w (up m 287 z v)) := aSet_mem sk287 h0 h1 (by decide)
theorem sk288 : SK[288]? = some (13, List.replicate 8 none) := by decide +kernel
theorem Re_g (h0 : 0 ≤ z) (h1 : z < 8) : aI (mem w m) 288 13 (iI z) = some (iI (m 288 z)) := aI_mem sk288 h0 h1 (by decide)
theorem Re_s (h0 : 0 ≤ z) (h1 : z < 8) : aSet (mem w m) 288 13 (iI z) (.int (iI v)) = some (mem w (up m 288 z v)) := aSet_mem sk288 h0 h1 (by decide)
theorem sk289 : SK[289]? = some (13, List.replicate 8 none) := by decide +kernel
theorem Tr_g (h0 : 0 ≤ z) (h1 : z < 8) : aI (mem w m) 289 13 (iI z) = some (iI (m 289 z)) := aI_mem sk289 h0 h1 (by decide)
theorem Tr_s (h0 : 0 ≤ z) (h1 : z < 8) : aSet (mem w m) 289 13 (iI z) (.int (iI v)) = some (mem w (up m 289 z v)) := aSet_mem sk289 h0 h1 (by decide)
theorem sk290 : SK[290]? = some (13, List.replicate 8 none) := by decide +kernel
theorem Be_g (h0 : 0 ≤ z) (h1 : z < 8) : aI (mem w m) 290 13 (iI z) = some (iI (m 290 z)) := aI_mem sk290 h0 h1 (by decide)
theorem Be_s (h0 : 0 ≤ z) (h1 : z < 8) : aSet (mem w m) 290 13 (iI z) (.int (iI v)) = some (mem w (up m 290 z v)) := aSet_mem sk290 h0 h1 (by decide)
theorem sk291 : SK[291]? = some (13, List.replicate 56 none) := by decide +kernel
theorem Va_g (h0 : 0 ≤ z) (h1 : z < 56) : aI (mem w m) 291 13 (iI z) = some (iI (m 291 z)) := aI_mem sk291 h0 h1 (by decide)
theorem Va_s (h0 : 0 ≤ z) (h1 : z < 56) : aSet (mem w m) 291 13 (iI z) (.int (iI v)) = some (mem w (up m 291 z v)) := aSet_mem sk291 h0 h1 (by decide)
theorem sk292 : SK[292]? = some (13, List.replicate 56 none) := by decide +kernel
theorem Vb_g (h0 : 0 ≤ z) (h1 : z < 56) : aI (mem w m) 292 13 (iI z) = some (iI (m 292 z)) := aI_mem sk292 h0 h1 (by decide)
theorem Vb_s (h0 : 0 ≤ z) (h1 : z < 56) : aSet (mem w m) 292 13 (iI z) (.int (iI v)) = some (mem w (up m 292 z v)) := aSet_mem sk292 h0 h1 (by decide)
theorem sk293 : SK[293]? = some (13, List.replicate 20 none) := by decide +kernel
theorem Wt_g (h0 : 0 ≤ z) (h1 : z < 20) : aI (mem w m) 293 13 (iI z) = some (iI (m 293 z)) := aI_mem sk293 h0 h1 (by decide)
theorem Wt_s (h0 : 0 ≤ z) (h1 : z < 20) : aSet (mem w m) 293 13 (iI z) (.int (iI v)) = some (mem w (up m 293 z v)) := aSet_mem sk293 h0 h1 (by decide)
/-! a row of numbers and a state -/
def rNet (f : Int → Int) (N : Nt) : Prop := WFN N ∧ (f 0 = nN N ∧ f 1 = nS N ∧ f 2 = nT N ∧ f 3 = nB N ∧ f 4 = nA N) ∧ ∀ k, 0 ≤ k → k < nA N → f (5 + 4 * k + 0) = aTl N k ∧ f (5 + 4 * k + 1) = aHd N k ∧ f (5 + 4 * k + 2) = aCo N k ∧ f (5 + 4 * k + 3) = aEx N k
def rPth (f : Int → Int) (o : Int) (l : List Int) : Prop := f o = l.length ∧ l.length ≤ 7 ∧ ∀ (j : Nat) (a : Int), l[j]? = some a → f (o + 1 + j) = a
def rTolds (f : Int → Int) (T : List (List Int)) : Prop := f 69 = T.length ∧ T.length ≤ 6 ∧ ∀ (i : Nat) (l : List Int), T[i]? = some l → rPth f (70 + 8 * i) l
def rJrn (f : Int → Int) (N : Nt) (S : List Int) : Prop := f 126 = (jst N S).1 ∧ f 127 = (jst N S).2.1 ∧ f 128 = (jst N S).2.2 ∧ f 129 = S.length ∧ S.length ≤ 20 ∧ ∀ (j : Nat) (c : Int), S[j]? = some c → f (130 + j) = c
def rRep (f : Int → Int) (x : Sg) : Prop := rNet f (sN x) ∧ rTolds f (sR x) ∧ rPth f 118 (sD x) ∧ rJrn f (sN x) (sJ x)
theorem rNet.cong {f g : Int → Int} (h : rNet f N) (e : ∀ k, 0 ≤ k → k < 69 → g k = f k) : rNet g N := by
  obtain ⟨h0, ⟨h1, h2, h3, h4, h5⟩, h6⟩ := h
  have hw := h0.1
  refine ⟨h0, ⟨by rw [e 0 (by omega) (by omega), h1], by rw [e 1 (by omega) (by omega), h2], by rw [e 2 (by omega) (by omega), h3], by rw [e 3 (by omega) (by omega), h4], by rw [e 4 (by omega) (by omega), h5]⟩, fun k k0 k1 => ?_⟩
  obtain ⟨q1, q2, q3, q4⟩ := h6 k k0 k1
  exact ⟨by rw [e _ (by omega) (by omega), q1], by rw [e _ (by omega) (by omega), q2], by rw [e _ (by omega) (by omega), q3], by rw [e _ (by omega) (by omega), q4]⟩
theorem rPth.cong {f g : Int → Int} {o : Int} {l : List Int} (h : rPth f o l) (e : ∀ k, o ≤ k → k < o + 8 → g k = f k) : rPth g o l := by
  obtain ⟨h1, h2, h3⟩ := h
  refine ⟨by rw [e o (by omega) (by omega), h1], h2, fun j a hj => ?_⟩
  have := (List.getElem?_eq_some_iff.mp hj).1
  rw [e _ (by omega) (by omega)]
  exact h3 j a hj
theorem rTolds.cong {f g : Int → Int} {T : List (List Int)} (h : rTolds f T) (e : ∀ k, 69 ≤ k → k < 118 → g k = f k) : rTolds g T := by
  obtain ⟨h1, h2, h3⟩ := h
  refine ⟨by rw [e 69 (by omega) (by omega), h1], h2, fun i l hi => ?_⟩
  have := (List.getElem?_eq_some_iff.mp hi).1
  exact (h3 i l hi).cong (fun k k0 k1 => e k (by omega) (by omega))
theorem rJrn.cong {f g : Int → Int} {S : List Int} (h : rJrn f N S) (e : ∀ k, 126 ≤ k → k < 150 → g k = f k) : rJrn g N S := by
  obtain ⟨h1, h2, h3, h4, h5, h6⟩ := h
  refine ⟨by rw [e _ (by omega) (by omega), h1], by rw [e _ (by omega) (by omega), h2], by rw [e _ (by omega) (by omega), h3], by rw [e _ (by omega) (by omega), h4], h5, fun j c hj => ?_⟩
  have := (List.getElem?_eq_some_iff.mp hj).1
  rw [e _ (by omega) (by omega)]
  exact h6 j c hj
theorem rRep.cong {f g : Int → Int} {x : Sg} (h : rRep f x) (e : ∀ k, 0 ≤ k → k < 150 → g k = f k) : rRep g x :=
  ⟨h.1.cong (fun k a b => e k a (by omega)), h.2.1.cong (fun k a b => e k (by omega) (by omega)), h.2.2.1.cong (fun k a b => e k (by omega) (by omega)), h.2.2.2.cong (fun k a b => e k (by omega) (by omega))⟩
/-- the reference between calls -/
def RI (m : Mm) (x : Sg) (H : List Sg) : Prop := rRep (m 284) x ∧ m 283 3 = H.length ∧ H.length ≤ 8 ∧ ∀ (i : Nat) (y : Sg), H[i]? = some y → rRep (fun k => m 286 (150 * ((H.length : Int) - 1 - i) + k)) y
/-- what a question of the reference leaves as it was -/
def qS (m m' : Mm) : Prop := (∀ p, p < 283 → m' p = m p) ∧ m' 284 = m 284 ∧ m' 286 = m 286 ∧ m' 287 = m 287 ∧ m' 293 = m 293 ∧ m' 283 3 = m 283 3 ∧ m' 283 6 = m 283 6 ∧ m' 283 14 = m 283 14 ∧ m' 283 27 = m 283 27
/-- what a change leaves as it was -/
def cS (m m' : Mm) : Prop := (∀ p, p < 283 → m' p = m p) ∧ m' 287 = m 287 ∧ m' 293 = m 293 ∧ m' 283 6 = m 283 6 ∧ m' 283 14 = m 283 14 ∧ m' 283 27 = m 283 27
theorem qS.rf : qS m m := ⟨fun _ _ => rfl, rfl, rfl, rfl, rfl, rfl, rfl, rfl, rfl⟩
theorem cS.rf : cS m m := ⟨fun _ _ => rfl, rfl, rfl, rfl, rfl, rfl⟩
theorem qS.trans {m'' : Mm} (h : qS m m') (g : qS m' m'') : qS m m'' := ⟨fun p hp => (g.1 p hp).trans (h.1 p hp), g.2.1.trans h.2.1, g.2.2.1.trans h.2.2.1, g.2.2.2.1.trans h.2.2.2.1, g.2.2.2.2.1.trans h.2.2.2.2.1, g.2.2.2.2.2.1.trans h.2.2.2.2.2.1, g.2.2.2.2.2.2.1.trans h.2.2.2.2.2.2.1, g.2.2.2.2.2.2.2.1.trans h.2.2.2.2.2.2.2.1, g.2.2.2.2.2.2.2.2.trans h.2.2.2.2.2.2.2.2⟩
theorem cS.trans {m'' : Mm} (h : cS m m') (g : cS m' m'') : cS m m'' := ⟨fun p hp => (g.1 p hp).trans (h.1 p hp), g.2.1.trans h.2.1, g.2.2.1.trans h.2.2.1, g.2.2.2.1.trans h.2.2.2.1, g.2.2.2.2.1.trans h.2.2.2.2.1, g.2.2.2.2.2.trans h.2.2.2.2.2⟩
theorem qS.cS (h : qS m m') : cS m m' := ⟨h.1, h.2.2.2.1, h.2.2.2.2.1, h.2.2.2.2.2.2.1, h.2.2.2.2.2.2.2.1, h.2.2.2.2.2.2.2.2⟩
theorem qS_f (hk : k ≠ 3 ∧ k ≠ 6 ∧ k ≠ 14 ∧ k ≠ 27) : qS m (up m 283 k v) := ⟨fun p hp => up_ne (by omega), up_ne (by omega), up_ne (by omega), up_ne (by omega), up_ne (by omega), up_off (by omega), up_off (by omega), up_off (by omega), up_off (by omega)⟩
theorem qS_r (hp : p = 285 ∨ (288 ≤ p ∧ p ≤ 292)) : qS m (up m p k v) := ⟨fun q hq => up_ne (by omega), up_ne (by omega), up_ne (by omega), up_ne (by omega), up_ne (by omega), by rw [up_ne (by omega)], by rw [up_ne (by omega)], by rw [up_ne (by omega)], by rw [up_ne (by omega)]⟩
theorem cS_f (hk : k ≠ 6 ∧ k ≠ 14 ∧ k ≠ 27) : cS m (up m 283 k v) := ⟨fun p hp => up_ne (by omega), up_ne (by omega), up_ne (by omega), up_off (by omega), up_off (by omega), up_off (by omega)⟩
theorem cS_r (hp : 284 ≤ p ∧ p ≠ 287 ∧ p ≠ 293) : cS m (up m p k v) := ⟨fun q hq => up_ne (by omega), up_ne (by omega), up_ne (by omega), by rw [up_ne (by omega)], by rw [up_ne (by omega)], by rw [up_ne (by omega)]⟩
theorem RI.q {x : Sg} {H : List Sg} (h : RI m x H) (g : qS m m') : RI m' x H := by
  obtain ⟨g0, g1, g2, g3, g4, g5, -⟩ := g
  exact ⟨by rw [g1]; exact h.1, by rw [g5]; exact h.2.1, h.2.2.1, by rw [g2]; exact h.2.2.2⟩
/-! small ones -/
def inB (v lo hi : Int) : Int := if lo ≤ v ∧ v ≤ hi then 1 else 0
theorem inB_01 {lo hi : Int} : inB v lo hi = 0 ∨ inB v lo hi = 1 := by unfold inB; split <;> simp
theorem isInR_eq {lo hi : Int} (hv : i32 v) (hlo : i32 lo) (hhi : i32 hi) : f_X11_isIn fu (iI v) (iI lo) (iI hi) (mem w m) = some (iI (inB v lo hi), mem w m) := by
  obtain ⟨v1, v2⟩ := hv
  obtain ⟨l1, l2⟩ := hlo
  obtain ⟨u1, u2⟩ := hhi
  unfold f_X11_isIn inB
  simp (disch := omega) only [n_69, n_50, n_13, Option.bind_some, bd2_some, bdX_ok, bdX_er, nm_eq, n_0, n_1, n_2, n_3, n_4, n_5, n_6, n_7, n_8, n_9, n_10, n_11, n_12, n_14, n_15, n_16, n_17, n_18, n_19, n_20, n_21, n_24, n_27, n_28, n_32, n_43, n_45, n_48, n_56, n_57, n_59, n_64, n_70, n_97, n_99, n_100, n_104, n_118, n_122, n_126, n_127, n_128, n_129, n_130, n_150, n_255, n_600, n_1000, n_1050, n_1200, n_999999, n_1000000, iI_neg, iI_add, iI_sub, iI_mul, ile, ilt, ieq]
  by_cases c1 : v < lo
  · rw [if_pos c1, if_neg (by omega)]
  · rw [if_neg c1]
    by_cases c2 : hi < v
    · rw [if_pos c2, if_neg (by omega)]
    · rw [if_neg c2, if_pos (by omega)]
theorem and1 {b : Int} (h : b = 0 ∨ b = 1) {α : Type} (x y : α) : (if iI b &&& iI 1 = iI b then x else y) = x := by
  rcases h with rfl | rfl
  · exact if_pos (by decide)
  · exact if_pos (by decide)
theorem isNodeR_eq (h : rNet (m 284) N) (hv : i32 v) : f_X11_isNode fu 283 (iI v) (mem w m) = some (iI (inB v 0 (nN N - 1)), mem w m) := by
  have hw := h.1.1
  unfold f_X11_isNode
  simp (disch := omega) only [n_69, n_50, n_13, Option.bind_some, bd2_some, bdX_ok, bdX_er, nm_eq, n_0, n_1, n_2, n_3, n_4, n_5, n_6, n_7, n_8, n_9, n_10, n_11, n_12, n_14, n_15, n_16, n_17, n_18, n_19, n_20, n_21, n_24, n_27, n_28, n_32, n_43, n_45, n_48, n_56, n_57, n_59, n_64, n_70, n_97, n_99, n_100, n_104, n_118, n_122, n_126, n_127, n_128, n_129, n_130, n_150, n_255, n_600, n_1000, n_1050, n_1200, n_999999, n_1000000, iI_neg, iI_add, iI_sub, iI_mul, ile, ilt, ieq, Z_has, Z_0, Z_1, Z_2, Z_5, Z_15, Z_17, Z_18, Z_24, Z_25, Z_26, Z_3, Z_4, Z_6, Z_7, Z_8, Z_9, Z_10, Z_11, Z_12, Z_13, Z_14, Z_16, Z_19, Z_20, Z_21, Z_22, Z_23, Z_27, Y_3, Y_4, Y_6, Y_7, Y_8, Y_9, Y_10, Y_11, Y_12, Y_13, Y_14, Y_16, Y_19, Y_20, Y_21, Y_22, Y_23, Y_27, A_g, A_s, up_at, h.2.1.1]
  rw [isInR_eq hv (by unfold i32; omega) (by unfold i32; omega), bd2_some, and1 inB_01]
theorem isArcR_eq (h : rNet (m 284) N) (hv : i32 v) : f_X11_isArc fu 283 (iI v) (mem w m) = some (iI (inB v 0 (nA N - 1)), mem w m) := by
  have hw := h.1.1
  unfold f_X11_isArc
  simp (disch := omega) only [n_69, n_50, n_13, Option.bind_some, bd2_some, bdX_ok, bdX_er, nm_eq, n_0, n_1, n_2, n_3, n_4, n_5, n_6, n_7, n_8, n_9, n_10, n_11, n_12, n_14, n_15, n_16, n_17, n_18, n_19, n_20, n_21, n_24, n_27, n_28, n_32, n_43, n_45, n_48, n_56, n_57, n_59, n_64, n_70, n_97, n_99, n_100, n_104, n_118, n_122, n_126, n_127, n_128, n_129, n_130, n_150, n_255, n_600, n_1000, n_1050, n_1200, n_999999, n_1000000, iI_neg, iI_add, iI_sub, iI_mul, ile, ilt, ieq, Z_has, Z_0, Z_1, Z_2, Z_5, Z_15, Z_17, Z_18, Z_24, Z_25, Z_26, Z_3, Z_4, Z_6, Z_7, Z_8, Z_9, Z_10, Z_11, Z_12, Z_13, Z_14, Z_16, Z_19, Z_20, Z_21, Z_22, Z_23, Z_27, Y_3, Y_4, Y_6, Y_7, Y_8, Y_9, Y_10, Y_11, Y_12, Y_13, Y_14, Y_16, Y_19, Y_20, Y_21, Y_22, Y_23, Y_27, A_g, A_s, up_at, h.2.1.2.2.2.2]
  rw [isInR_eq hv (by unfold i32; omega) (by unfold i32; omega), bd2_some, and1 inB_01]
theorem isToldR_eq {T : List (List Int)} (h : rTolds (m 284) T) (hv : i32 v) : f_X11_isTold fu 283 (iI v) (mem w m) = some (iI (inB v 0 ((T.length : Int) - 1)), mem w m) := by
  have h6 := h.2.1
  unfold f_X11_isTold
  simp (disch := omega) only [n_69, n_50, n_13, Option.bind_some, bd2_some, bdX_ok, bdX_er, nm_eq, n_0, n_1, n_2, n_3, n_4, n_5, n_6, n_7, n_8, n_9, n_10, n_11, n_12, n_14, n_15, n_16, n_17, n_18, n_19, n_20, n_21, n_24, n_27, n_28, n_32, n_43, n_45, n_48, n_56, n_57, n_59, n_64, n_70, n_97, n_99, n_100, n_104, n_118, n_122, n_126, n_127, n_128, n_129, n_130, n_150, n_255, n_600, n_1000, n_1050, n_1200, n_999999, n_1000000, iI_neg, iI_add, iI_sub, iI_mul, ile, ilt, ieq, Z_has, Z_0, Z_1, Z_2, Z_5, Z_15, Z_17, Z_18, Z_24, Z_25, Z_26, Z_3, Z_4, Z_6, Z_7, Z_8, Z_9, Z_10, Z_11, Z_12, Z_13, Z_14, Z_16, Z_19, Z_20, Z_21, Z_22, Z_23, Z_27, Y_3, Y_4, Y_6, Y_7, Y_8, Y_9, Y_10, Y_11, Y_12, Y_13, Y_14, Y_16, Y_19, Y_20, Y_21, Y_22, Y_23, Y_27, A_g, A_s, up_at, h.1]
  rw [isInR_eq hv (by unfold i32; omega) (by unfold i32; omega), bd2_some, and1 inB_01]
theorem arcOf_0 (hp : isRw p) (h : rNet (m p) N) (h0 : 0 ≤ k) (h1 : k < nA N) : f_X11_arcOf fu p (iI k) (iI 0) (mem w m) = some (iI (aTl N k), mem w m) := by
  have hw := h.1.1
  unfold f_X11_arcOf
  simp (disch := omega) only [n_69, n_50, n_13, Option.bind_some, bd2_some, bdX_ok, bdX_er, nm_eq, n_0, n_1, n_2, n_3, n_4, n_5, n_6, n_7, n_8, n_9, n_10, n_11, n_12, n_14, n_15, n_16, n_17, n_18, n_19, n_20, n_21, n_24, n_27, n_28, n_32, n_43, n_45, n_48, n_56, n_57, n_59, n_64, n_70, n_97, n_99, n_100, n_104, n_118, n_122, n_126, n_127, n_128, n_129, n_130, n_150, n_255, n_600, n_1000, n_1050, n_1200, n_999999, n_1000000, iI_neg, iI_add, iI_sub, iI_mul, ile, ilt, ieq, Rw_g hp, (h.2.2 k h0 h1).1]
theorem arcOf_1 (hp : isRw p) (h : rNet (m p) N) (h0 : 0 ≤ k) (h1 : k < nA N) : f_X11_arcOf fu p (iI k) (iI 1) (mem w m) = some (iI (aHd N k), mem w m) := by
  have hw := h.1.1
  unfold f_X11_arcOf
  simp (disch := omega) only [n_69, n_50, n_13, Option.bind_some, bd2_some, bdX_ok, bdX_er, nm_eq, n_0, n_1, n_2, n_3, n_4, n_5, n_6, n_7, n_8, n_9, n_10, n_11, n_12, n_14, n_15, n_16, n_17, n_18, n_19, n_20, n_21, n_24, n_27, n_28, n_32, n_43, n_45, n_48, n_56, n_57, n_59, n_64, n_70, n_97, n_99, n_100, n_104, n_118, n_122, n_126, n_127, n_128, n_129, n_130, n_150, n_255, n_600, n_1000, n_1050, n_1200, n_999999, n_1000000, iI_neg, iI_add, iI_sub, iI_mul, ile, ilt, ieq, Rw_g hp, (h.2.2 k h0 h1).2.1]
theorem arcOf_2 (hp : isRw p) (h : rNet (m p) N) (h0 : 0 ≤ k) (h1 : k < nA N) : f_X11_arcOf fu p (iI k) (iI 2) (mem w m) = some (iI (aCo N k), mem w m) := by
  have hw := h.1.1
  unfold f_X11_arcOf
  simp (disch := omega) only [n_69, n_50, n_13, Option.bind_some, bd2_some, bdX_ok, bdX_er, nm_eq, n_0, n_1, n_2, n_3, n_4, n_5, n_6, n_7, n_8, n_9, n_10, n_11, n_12, n_14, n_15, n_16, n_17, n_18, n_19, n_20, n_21, n_24, n_27, n_28, n_32, n_43, n_45, n_48, n_56, n_57, n_59, n_64, n_70, n_97, n_99, n_100, n_104, n_118, n_122, n_126, n_127, n_128, n_129, n_130, n_150, n_255, n_600, n_1000, n_1050, n_1200, n_999999, n_1000000, iI_neg, iI_add, iI_sub, iI_mul, ile, ilt, ieq, Rw_g hp, (h.2.2 k h0 h1).2.2.1]
theorem arcOf_3 (hp : isRw p) (h : rNet (m p) N) (h0 : 0 ≤ k) (h1 : k < nA N) : f_X11_arcOf fu p (iI k) (iI 3) (mem w m) = some (iI (aEx N k), mem w m) := by
  have hw := h.1.1
  unfold f_X11_arcOf
  simp (disch := omega) only [n_69, n_50, n_13, Option.bind_some, bd2_some, bdX_ok, bdX_er, nm_eq, n_0, n_1, n_2, n_3, n_4, n_5, n_6, n_7, n_8, n_9, n_10, n_11, n_12, n_14, n_15, n_16, n_17, n_18, n_19, n_20, n_21, n_24, n_27, n_28, n_32, n_43, n_45, n_48, n_56, n_57, n_59, n_64, n_70, n_97, n_99, n_100, n_104, n_118, n_122, n_126, n_127, n_128, n_129, n_130, n_150, n_255, n_600, n_1000, n_1050, n_1200, n_999999, n_1000000, iI_neg, iI_add, iI_sub, iI_mul, ile, ilt, ieq, Rw_g hp, (h.2.2 k h0 h1).2.2.2]
theorem of_0 (h : rNet (m 284) N) (h0 : 0 ≤ k) (h1 : k < nA N) : f_X11_of fu 283 (iI k) (iI 0) (mem w m) = some (iI (aTl N k), mem w m) := by
  unfold f_X11_of
  simp (disch := omega) only [n_69, n_50, n_13, Option.bind_some, bd2_some, bdX_ok, bdX_er, nm_eq, n_0, n_1, n_2, n_3, n_4, n_5, n_6, n_7, n_8, n_9, n_10, n_11, n_12, n_14, n_15, n_16, n_17, n_18, n_19, n_20, n_21, n_24, n_27, n_28, n_32, n_43, n_45, n_48, n_56, n_57, n_59, n_64, n_70, n_97, n_99, n_100, n_104, n_118, n_122, n_126, n_127, n_128, n_129, n_130, n_150, n_255, n_600, n_1000, n_1050, n_1200, n_999999, n_1000000, iI_neg, iI_add, iI_sub, iI_mul, ile, ilt, ieq, Z_has, Z_0, Z_1, Z_2, Z_5, Z_15, Z_17, Z_18, Z_24, Z_25, Z_26, Z_3, Z_4, Z_6, Z_7, Z_8, Z_9, Z_10, Z_11, Z_12, Z_13, Z_14, Z_16, Z_19, Z_20, Z_21, Z_22, Z_23, Z_27, Y_3, Y_4, Y_6, Y_7, Y_8, Y_9, Y_10, Y_11, Y_12, Y_13, Y_14, Y_16, Y_19, Y_20, Y_21, Y_22, Y_23, Y_27, A_g, A_s, up_at, arcOf_0 rw284 h h0 h1]
theorem of_1 (h : rNet (m 284) N) (h0 : 0 ≤ k) (h1 : k < nA N) : f_X11_of fu 283 (iI k) (iI 1) (mem w m) = some (iI (aHd N k), mem w m) := by
  unfold f_X11_of
  simp (disch := omega) only [n_69, n_50, n_13, Option.bind_some, bd2_some, bdX_ok, bdX_er, nm_eq, n_0, n_1, n_2, n_3, n_4, n_5, n_6, n_7, n_8, n_9, n_10, n_11, n_12, n_14, n_15, n_16, n_17, n_18, n_19, n_20, n_21, n_24, n_27, n_28, n_32, n_43, n_45, n_48, n_56, n_57, n_59, n_64, n_70, n_97, n_99, n_100, n_104, n_118, n_122, n_126, n_127, n_128, n_129, n_130, n_150, n_255, n_600, n_1000, n_1050, n_1200, n_999999, n_1000000, iI_neg, iI_add, iI_sub, iI_mul, ile, ilt, ieq, Z_has, Z_0, Z_1, Z_2, Z_5, Z_15, Z_17, Z_18, Z_24, Z_25, Z_26, Z_3, Z_4, Z_6, Z_7, Z_8, Z_9, Z_10, Z_11, Z_12, Z_13, Z_14, Z_16, Z_19, Z_20, Z_21, Z_22, Z_23, Z_27, Y_3, Y_4, Y_6, Y_7, Y_8, Y_9, Y_10, Y_11, Y_12, Y_13, Y_14, Y_16, Y_19, Y_20, Y_21, Y_22, Y_23, Y_27, A_g, A_s, up_at, arcOf_1 rw284 h h0 h1]
theorem of_2 (h : rNet (m 284) N) (h0 : 0 ≤ k) (h1 : k < nA N) : f_X11_of fu 283 (iI k) (iI 2) (mem w m) = some (iI (aCo N k), mem w m) := by
  unfold f_X11_of
  simp (disch := omega) only [n_69, n_50, n_13, Option.bind_some, bd2_some, bdX_ok, bdX_er, nm_eq, n_0, n_1, n_2, n_3, n_4, n_5, n_6, n_7, n_8, n_9, n_10, n_11, n_12, n_14, n_15, n_16, n_17, n_18, n_19, n_20, n_21, n_24, n_27, n_28, n_32, n_43, n_45, n_48, n_56, n_57, n_59, n_64, n_70, n_97, n_99, n_100, n_104, n_118, n_122, n_126, n_127, n_128, n_129, n_130, n_150, n_255, n_600, n_1000, n_1050, n_1200, n_999999, n_1000000, iI_neg, iI_add, iI_sub, iI_mul, ile, ilt, ieq, Z_has, Z_0, Z_1, Z_2, Z_5, Z_15, Z_17, Z_18, Z_24, Z_25, Z_26, Z_3, Z_4, Z_6, Z_7, Z_8, Z_9, Z_10, Z_11, Z_12, Z_13, Z_14, Z_16, Z_19, Z_20, Z_21, Z_22, Z_23, Z_27, Y_3, Y_4, Y_6, Y_7, Y_8, Y_9, Y_10, Y_11, Y_12, Y_13, Y_14, Y_16, Y_19, Y_20, Y_21, Y_22, Y_23, Y_27, A_g, A_s, up_at, arcOf_2 rw284 h h0 h1]
theorem of_3 (h : rNet (m 284) N) (h0 : 0 ≤ k) (h1 : k < nA N) : f_X11_of fu 283 (iI k) (iI 3) (mem w m) = some (iI (aEx N k), mem w m) := by
  unfold f_X11_of
  simp (disch := omega) only [n_69, n_50, n_13, Option.bind_some, bd2_some, bdX_ok, bdX_er, nm_eq, n_0, n_1, n_2, n_3, n_4, n_5, n_6, n_7, n_8, n_9, n_10, n_11, n_12, n_14, n_15, n_16, n_17, n_18, n_19, n_20, n_21, n_24, n_27, n_28, n_32, n_43, n_45, n_48, n_56, n_57, n_59, n_64, n_70, n_97, n_99, n_100, n_104, n_118, n_122, n_126, n_127, n_128, n_129, n_130, n_150, n_255, n_600, n_1000, n_1050, n_1200, n_999999, n_1000000, iI_neg, iI_add, iI_sub, iI_mul, ile, ilt, ieq, Z_has, Z_0, Z_1, Z_2, Z_5, Z_15, Z_17, Z_18, Z_24, Z_25, Z_26, Z_3, Z_4, Z_6, Z_7, Z_8, Z_9, Z_10, Z_11, Z_12, Z_13, Z_14, Z_16, Z_19, Z_20, Z_21, Z_22, Z_23, Z_27, Y_3, Y_4, Y_6, Y_7, Y_8, Y_9, Y_10, Y_11, Y_12, Y_13, Y_14, Y_16, Y_19, Y_20, Y_21, Y_22, Y_23, Y_27, A_g, A_s, up_at, arcOf_3 rw284 h h0 h1]
theorem hasR_eq (h0 : 0 ≤ k) (h1 : k < 32) : f_X11_has fu D (iI k) (mem w m) = some (iI (bt D k), mem w m) := by
  unfold f_X11_has
  rw [bt_of h0 h1]
  simp (disch := omega) only [n_69, n_50, n_13, Option.bind_some, bd2_some, bdX_ok, bdX_er, nm_eq, n_0, n_1, n_2, n_3, n_4, n_5, n_6, n_7, n_8, n_9, n_10, n_11, n_12, n_14, n_15, n_16, n_17, n_18, n_19, n_20, n_21, n_24, n_27, n_28, n_32, n_43, n_45, n_48, n_56, n_57, n_59, n_64, n_70, n_97, n_99, n_100, n_104, n_118, n_122, n_126, n_127, n_128, n_129, n_130, n_150, n_255, n_600, n_1000, n_1050, n_1200, n_999999, n_1000000, iI_neg, iI_add, iI_sub, iI_mul, ile, ilt, ieq]
  rcases bt_01 D k with h | h <;> rw [h] <;> rfl
/-- a fill of a whole row, a copy of a row -/
theorem becomes_go (hp : p = 285 ∨ p = 286) {f : Int} (h0 : 0 ≤ f) (h1 : f + 150 ≤ (if p = 285 then 150 else 1200)) : ∀ (d n : Nat) (m : Mm) (i : Int), i + d = 150 → 0 ≤ i → d < n → ∃ m', f_X11_becomes_2 fu n 283 p (iI f) (iI i) (mem w m) = some ((), mem w m') ∧ (∀ q, q ≠ 284 → m' q = m q) ∧ ∀ k, m' 284 k = if i ≤ k ∧ k < 150 then m p (f + k) else m 284 k := by
  intro d
  induction d with
  | zero =>
    intro n m i hi hi0 hn
    obtain ⟨n, rfl⟩ : ∃ k, n = k + 1 := ⟨n - 1, by omega⟩
    rw [f_X11_becomes_2, f_X11_becomes_2b]
    simp (disch := omega) only [n_69, n_50, n_13, Option.bind_some, bd2_some, bdX_ok, bdX_er, nm_eq, n_0, n_1, n_2, n_3, n_4, n_5, n_6, n_7, n_8, n_9, n_10, n_11, n_12, n_14, n_15, n_16, n_17, n_18, n_19, n_20, n_21, n_24, n_27, n_28, n_32, n_43, n_45, n_48, n_56, n_57, n_59, n_64, n_70, n_97, n_99, n_100, n_104, n_118, n_122, n_126, n_127, n_128, n_129, n_130, n_150, n_255, n_600, n_1000, n_1050, n_1200, n_999999, n_1000000, iI_neg, iI_add, iI_sub, iI_mul, ile, ilt, ieq]
    rw [if_pos (by omega)]
    exact ⟨m, rfl, fun _ _ => rfl, fun k => by rw [if_neg (by omega)]⟩
  | succ d ih =>
    intro n m i hi hi0 hn
    obtain ⟨n, rfl⟩ : ∃ k, n = k + 1 := ⟨n - 1, by omega⟩
    have hg : aI (mem w m) p 13 (iI (f + i)) = some (iI (m p (f + i))) := by
      rcases hp with rfl | rfl
      · rw [if_pos rfl] at h1; exact Rw_g rw285 (by omega) (by omega)
      · rw [if_neg (by decide)] at h1; exact Kp_g (by omega) (by omega)
    rw [f_X11_becomes_2, f_X11_becomes_2b]
    simp (disch := omega) only [n_69, n_50, n_13, Option.bind_some, bd2_some, bdX_ok, bdX_er, nm_eq, n_0, n_1, n_2, n_3, n_4, n_5, n_6, n_7, n_8, n_9, n_10, n_11, n_12, n_14, n_15, n_16, n_17, n_18, n_19, n_20, n_21, n_24, n_27, n_28, n_32, n_43, n_45, n_48, n_56, n_57, n_59, n_64, n_70, n_97, n_99, n_100, n_104, n_118, n_122, n_126, n_127, n_128, n_129, n_130, n_150, n_255, n_600, n_1000, n_1050, n_1200, n_999999, n_1000000, iI_neg, iI_add, iI_sub, iI_mul, ile, ilt, ieq, Z_has, Z_0, Z_1, Z_2, Z_5, Z_15, Z_17, Z_18, Z_24, Z_25, Z_26, Z_3, Z_4, Z_6, Z_7, Z_8, Z_9, Z_10, Z_11, Z_12, Z_13, Z_14, Z_16, Z_19, Z_20, Z_21, Z_22, Z_23, Z_27, Y_3, Y_4, Y_6, Y_7, Y_8, Y_9, Y_10, Y_11, Y_12, Y_13, Y_14, Y_16, Y_19, Y_20, Y_21, Y_22, Y_23, Y_27, A_g, A_s, up_at, hg]
    rw [if_neg (by omega)]
    obtain ⟨m', q1, q2, q3⟩ := ih n (up m 284 i (m p (f + i))) (i + 1) (by omega) (by omega) (by omega)
    refine ⟨m', q1, fun q hq => by rw [q2 q hq, up_ne hq], fun k => ?_⟩
    rw [q3 k, up_ne (p := 284) (p' := p) (by omega)]
    by_cases c : k = i
    · subst c; rw [if_neg (by omega), up_at, if_pos (by omega)]
    · rw [up_off c]
      by_cases c2 : i + 1 ≤ k ∧ k < 150
      · rw [if_pos c2, if_pos (by omega)]
      · rw [if_neg c2, if_neg (by omega)]
theorem becomes_eq (hfu : 1000 ≤ fu) (hp : p = 285 ∨ p = 286) {f : Int} (h0 : 0 ≤ f) (h1 : f + 150 ≤ (if p = 285 then 150 else 1200)) : ∃ m', f_X11_becomes fu 283 p (iI f) (mem w m) = some ((), mem w m') ∧ (∀ q, q ≠ 284 → m' q = m q) ∧ ∀ k, 0 ≤ k → k < 150 → m' 284 k = m p (f + k) := by
  obtain ⟨m', q1, q2, q3⟩ := becomes_go (w := w) (fu := fu) hp h0 h1 150 fu m 0 (by omega) (by omega) (by omega)
  unfold f_X11_becomes
  simp (disch := omega) only [n_69, n_50, n_13, Option.bind_some, bd2_some, bdX_ok, bdX_er, nm_eq, n_0, n_1, n_2, n_3, n_4, n_5, n_6, n_7, n_8, n_9, n_10, n_11, n_12, n_14, n_15, n_16, n_17, n_18, n_19, n_20, n_21, n_24, n_27, n_28, n_32, n_43, n_45, n_48, n_56, n_57, n_59, n_64, n_70, n_97, n_99, n_100, n_104, n_118, n_122, n_126, n_127, n_128, n_129, n_130, n_150, n_255, n_600, n_1000, n_1050, n_1200, n_999999, n_1000000, iI_neg, iI_add, iI_sub, iI_mul, ile, ilt, ieq]
  exact ⟨m', q1, q2, fun k a b => by rw [q3 k, if_pos (by omega)]⟩
theorem setsOut_eq (hp : isRw p) : ∃ m', f_X11_setsOut fu p (mem w m) = some ((), mem w m') ∧ (∀ q, q ≠ p → m' q = m q) ∧ (∀ k, (k < 126 ∨ 130 ≤ k) → m' p k = m p k) ∧ m' p 126 = m p 1 ∧ m' p 127 = 0 ∧ m' p 128 = m p 3 ∧ m' p 129 = 0 := by
  unfold f_X11_setsOut
  simp (disch := omega) only [n_69, n_50, n_13, Option.bind_some, bd2_some, bdX_ok, bdX_er, nm_eq, n_0, n_1, n_2, n_3, n_4, n_5, n_6, n_7, n_8, n_9, n_10, n_11, n_12, n_14, n_15, n_16, n_17, n_18, n_19, n_20, n_21, n_24, n_27, n_28, n_32, n_43, n_45, n_48, n_56, n_57, n_59, n_64, n_70, n_97, n_99, n_100, n_104, n_118, n_122, n_126, n_127, n_128, n_129, n_130, n_150, n_255, n_600, n_1000, n_1050, n_1200, n_999999, n_1000000, iI_neg, iI_add, iI_sub, iI_mul, ile, ilt, ieq, Rw_g hp, Rw_s hp, up_off]
  refine ⟨_, rfl, fun q hq => ?_, fun k hk => ?_, ?_, ?_, ?_, ?_⟩ <;> simp (disch := omega) only [up_ne, up_off, up_at]
theorem rJrn_nil {f g : Int → Int} (h : rNet f N) (h1 : g 126 = f 1) (h2 : g 127 = 0) (h3 : g 128 = f 3) (h4 : g 129 = 0) : rJrn g N [] := ⟨h1.trans h.2.1.2.1, h2, h3.trans h.2.1.2.2.2.1, h4, by simp, fun j c hj => by simp at hj⟩
end RB
