section LW
variable {w : Wl} {m m' m1 m2 : Mm} {z v k r : Int} {fu : Nat} {x x' : Sg} {H H' : List Sg} {B L : List Int} {K : List Ob → Option (Int32 × List Ob)}
/-- what holds between two calls of the script -/
def INV (m : Mm) (x : Sg) (H : List Sg) (L B : List Int) : Prop := CI m x H ∧ RI m x H ∧ GX x ∧ HX H ∧ WR m L ∧ WRr m L ∧ BC m B ∧ BF m B ∧ m 283 14 = m 228 5 ∧ -1 ≤ m 228 5 ∧ m 228 5 ≤ 600
theorem INV.ci (h : INV m x H L B) : CI m x H := h.1
theorem INV.ri (h : INV m x H L B) : RI m x H := h.2.1
theorem INV.gx (h : INV m x H L B) : GX x := h.2.2.1
theorem INV.hx (h : INV m x H L B) : HX H := h.2.2.2.1
theorem INV.wr (h : INV m x H L B) : WR m L := h.2.2.2.2.1
theorem INV.wrr (h : INV m x H L B) : WRr m L := h.2.2.2.2.2.1
theorem INV.bc (h : INV m x H L B) : BC m B := h.2.2.2.2.2.2.1
theorem INV.bf (h : INV m x H L B) : BF m B := h.2.2.2.2.2.2.2.1
theorem INV.ep (h : INV m x H L B) : m 283 14 = m 228 5 ∧ -1 ≤ m 228 5 ∧ m 228 5 ≤ 600 := h.2.2.2.2.2.2.2.2
def GO (e : Option (Int32 × List Ob)) (K : List Ob → Option (Int32 × List Ob)) : Prop := ∃ (w' : Wl) (m' : Mm) (x' : Sg) (H' : List Sg) (L' B' : List Int), INV m' x' H' L' B' ∧ e = K (mem w' m')
theorem RI_fr (h : RI m x H) (e : ∀ p, 283 ≤ p → m' p = m p) : RI m' x H := ⟨by rw [e 284 (by omega)]; exact h.1, by rw [e 283 (by omega)]; exact h.2.1, h.2.2.1, fun i y hi => by rw [e 286 (by omega)]; exact h.2.2.2 i y hi⟩
theorem WR_fr (h : WR m L) (e0 : m' 0 = m 0) (e1 : m' 282 = m 282) : WR m' L := ⟨by rw [e0]; exact h.1, h.2.1, fun j c hj => by rw [e1]; exact h.2.2 j c hj⟩
theorem WRr_fr (h : WRr m L) (e0 : m' 283 27 = m 283 27) (e1 : m' 293 = m 293) : WRr m' L := ⟨by rw [e0]; exact h.1, h.2.1, fun j c hj => by rw [e1]; exact h.2.2 j c hj⟩
theorem BC_fr (h : BC m B) (e0 : m' 228 1 = m 228 1) (e1 : m' 229 = m 229) : BC m' B := ⟨by rw [e0]; exact h.1, h.2.1, fun j c hj => by rw [e1]; exact h.2.2 j c hj⟩
theorem BF_fr (h : BF m B) (e0 : m' 283 6 = m 283 6) (e1 : m' 287 = m 287) : BF m' B := ⟨by rw [e0]; exact h.1, h.2.1, fun j c hj => by rw [e1]; exact h.2.2 j c hj⟩
theorem CI_fr (h : CI m x H) (e : cS m m') : CI m' x H := h.cong (fun p hp => e.1 p (by omega))
theorem INV.step (hI : INV m x H L B) (s : sameC m m1) (c : CI m1 x' H') (s2 : cS m1 m2) (rr : RI m2 x' H') (g : GX x') (hh : HX H') : INV m2 x' H' L B := by
  have e228 : m2 228 = m 228 := by rw [s2.1 228 (by omega), s 228 (by omega)]
  have e283 : m1 283 = m 283 := s 283 (by omega)
  refine ⟨CI_fr c s2, rr, g, hh, WR_fr hI.wr (by rw [s2.1 0 (by omega), s 0 (by omega)]) (by rw [s2.1 282 (by omega), s 282 (by omega)]), WRr_fr hI.wrr (by rw [s2.2.2.2.2.2, e283]) (by rw [s2.2.2.1, s 293 (by omega)]), BC_fr hI.bc (by rw [e228]) (by rw [s2.1 229 (by omega), s 229 (by omega)]), BF_fr hI.bf (by rw [s2.2.2.2.1, e283]) (by rw [s2.2.1, s 287 (by omega)]), ?_⟩
  rw [s2.2.2.2.2.1, e283, e228]
  exact hI.ep
theorem sC_rf : sameC m m := fun _ _ => rfl
theorem lg_self (y : Int64) : lg_cmp y y = 0 := by
  unfold lg_cmp; simp
/-- the world after a call that kept a number -/
def wN (k v : Int) (w : Wl) : Wl := if k = 0 then ((iI v).toInt64, w.2) else w
theorem setJ (y : Int64) : aSet (mem w m) 294 17 0 (.long y) = some (mem (y, w.2) m) := by
  have hl : (memF m 0 SK).length = 294 := by rw [memF_len]; exact SK_len
  have h1 : (mem w m)[294]? = some (17, [.long w.1]) := by
    unfold mem
    rw [List.getElem?_append_right (by omega), hl]; rfl
  unfold aSet
  rw [h1]
  show some ((mem w m).set 294 (17, [.long y])) = _
  unfold mem
  rw [List.set_append_right _ _ (by omega), hl]; rfl
theorem setD (y : UInt64) : aSet (mem w m) 295 18 0 (.double y) = some (mem (w.1, y) m) := by
  have hl : (memF m 0 SK).length = 294 := by rw [memF_len]; exact SK_len
  have h1 : (mem w m)[295]? = some (18, [.double w.2]) := by
    unfold mem
    rw [List.getElem?_append_right (by omega), hl]; rfl
  unfold aSet
  rw [h1]
  show some ((mem w m).set 295 (18, [.double y])) = _
  unfold mem
  rw [List.set_append_right _ _ (by omega), hl]; rfl
theorem getJ : aJ (mem w m) 294 0 = some w.1 := by
  have hl : (memF m 0 SK).length = 294 := by rw [memF_len]; exact SK_len
  have h1 : (mem w m)[294]? = some (17, [.long w.1]) := by
    unfold mem
    rw [List.getElem?_append_right (by omega), hl]; rfl
  unfold aJ aGet
  rw [h1]; rfl
theorem getD' : aD (mem w m) 295 0 = some w.2 := by
  have hl : (memF m 0 SK).length = 294 := by rw [memF_len]; exact SK_len
  have h1 : (mem w m)[295]? = some (18, [.double w.2]) := by
    unfold mem
    rw [List.getElem?_append_right (by omega), hl]; rfl
  unfold aD aGet
  rw [h1]; rfl
theorem thr_eq : f_X11_thrown fu 283 (mem w m) = some (iI (m 283 4), mem w m) := by
  unfold f_X11_thrown
  rw [Z_4]; rfl
theorem bdW_ok {α β : Type} (a : α) (M : List Ob) (f : α → List Ob → Option β) (g : String → List Ob → Option β) : bdW (some (.ok a, M)) f g = f a M := rfl
theorem bdW_er {α β : Type} (e : String) (M : List Ob) (f : α → List Ob → Option β) (g : String → List Ob → Option β) : bdW (some (.error e, M)) f g = g e M := rfl
theorem w1 {e1 : String} {o : Option (Except String Int32 × List Ob)} (h : o = some (xr [e1] k v, mem w m1)) (hk : 0 ≤ k ∧ k ≤ 1) : bdW o (fun v1 M2 => (aSet M2 294 17 0 (.long ((v1 : Int32).toInt64))).bind fun M7 => some (0, M7)) (fun E5 M2 => if E5 = e1 then (some (1, M2)) else none) = some (iI k, mem (wN k v w) m1) := by
  subst h
  rcases (show k = 0 ∨ k = 1 by omega) with rfl | rfl
  · show bdW (some (.ok (iI v), mem w m1)) _ _ = _
    rw [bdW_ok, setJ]; rfl
  · show bdW (some (.error e1, mem w m1)) _ _ = _
    rw [bdW_er, if_pos rfl]; rfl
theorem w2 {e1 e2 : String} {o : Option (Except String Int32 × List Ob)} (h : o = some (xr [e1, e2] k v, mem w m1)) (hk : 0 ≤ k ∧ k ≤ 2) (h12 : e2 ≠ e1) : bdW o (fun v1 M2 => (aSet M2 294 17 0 (.long ((v1 : Int32).toInt64))).bind fun M7 => some (0, M7)) (fun E5 M2 => if E5 = e1 then (some (1, M2)) else if E5 = e2 then (some (2, M2)) else none) = some (iI k, mem (wN k v w) m1) := by
  subst h
  rcases (show k = 0 ∨ k = 1 ∨ k = 2 by omega) with rfl | rfl | rfl
  · show bdW (some (.ok (iI v), mem w m1)) _ _ = _
    rw [bdW_ok, setJ]; rfl
  · show bdW (some (.error e1, mem w m1)) _ _ = _
    rw [bdW_er, if_pos rfl]; rfl
  · show bdW (some (.error e2, mem w m1)) _ _ = _
    rw [bdW_er, if_neg h12, if_pos rfl]; rfl
theorem w3 {e1 e2 e3 : String} {o : Option (Except String Int32 × List Ob)} (h : o = some (xr [e1, e2, e3] k v, mem w m1)) (hk : 0 ≤ k ∧ k ≤ 3) (h12 : e2 ≠ e1) (h13 : e3 ≠ e1) (h23 : e3 ≠ e2) : bdW o (fun v1 M2 => (aSet M2 294 17 0 (.long ((v1 : Int32).toInt64))).bind fun M7 => some (0, M7)) (fun E5 M2 => if E5 = e1 then (some (1, M2)) else if E5 = e2 then (some (2, M2)) else if E5 = e3 then (some (3, M2)) else none) = some (iI k, mem (wN k v w) m1) := by
  subst h
  rcases (show k = 0 ∨ k = 1 ∨ k = 2 ∨ k = 3 by omega) with rfl | rfl | rfl | rfl
  · show bdW (some (.ok (iI v), mem w m1)) _ _ = _
    rw [bdW_ok, setJ]; rfl
  · show bdW (some (.error e1, mem w m1)) _ _ = _
    rw [bdW_er, if_pos rfl]; rfl
  · show bdW (some (.error e2, mem w m1)) _ _ = _
    rw [bdW_er, if_neg h12, if_pos rfl]; rfl
  · show bdW (some (.error e3, mem w m1)) _ _ = _
    rw [bdW_er, if_neg h13, if_neg h23, if_pos rfl]; rfl
/-- the comparison that every case ends with -/
theorem tailL (hk : 0 ≤ k ∧ k ≤ 3) (hr : k = 0 → r = v) (h4 : m2 283 4 = k) : ((hasO (mem (wN k v w) m2) 283 11).bind fun _ => bd2 (f_X11_thrown fu 283 (mem (wN k v w) m2)) fun v13 M14 => if v13 = iI k then (if iI k = 0 then ((aJ M14 294 0).bind fun v18 => if (lg_cmp v18 ((iI r : Int32).toInt64)) = 0 then (K M14) else (some (0, M14))) else (K M14)) else (some (0, M14))) = K (mem (wN k v w) m2) := by
  rw [Z_has, Option.bind_some, thr_eq, bd2_some, h4, if_pos rfl]
  by_cases c : k = 0
  · subst c
    rw [if_pos (show iI 0 = 0 from rfl), getJ, Option.bind_some, hr rfl]
    show (if lg_cmp (iI v).toInt64 (iI v).toInt64 = 0 then _ else _) = _
    rw [if_pos (lg_self _)]
  · have : ¬ iI k = 0 := fun e => c ((iI_eq (by omega) (by omega) (by omega) (by omega)).mp (e.trans n_0))
    rw [if_neg this]
/-- a case of the script: both sides are called, and what they answer is compared -/
theorem master {cw : Option (Int32 × List Ob)} {rf : List Ob → Option (Int32 × List Ob)} (hI : INV m x H L B) (hk : 0 ≤ k ∧ k ≤ 3) (hc : cw = some (iI k, mem (wN k v w) m1)) (s : sameC m m1) (c : CI m1 x' H') (hr : RI m1 x H → RQ (wN k v w) m1 (rf (mem (wN k v w) m1)) k v x' H') (g : GX x') (hh : HX H') : GO (bd2 cw fun v3 M4 => (hasO M4 283 11).bind fun _ => bd2 (rf M4) fun v9 M10 => (hasO M10 283 11).bind fun _ => bd2 (f_X11_thrown fu 283 M10) fun v13 M14 => if v13 = v3 then (if v3 = 0 then ((aJ M14 294 0).bind fun v18 => if (lg_cmp v18 ((v9 : Int32).toInt64)) = 0 then (K M14) else (some (0, M14))) else (K M14)) else (some (0, M14))) K := by
  obtain ⟨m2, r, q1, q2, q3, q4, q5⟩ := hr (RI_fr hI.ri (fun p hp => s p (by omega)))
  refine ⟨wN k v w, m2, x', H', L, B, hI.step s c q4 q5 g hh, ?_⟩
  subst hc
  rw [bd2_some, Z_has, Option.bind_some, q1, bd2_some]
  exact tailL hk q3 q2
end LW
