/-! changes of a network -/
def addN (N : Nt) (t h c e : Int) : Nt := (nN N, nS N, nT N, nB N, nA N + 1, upd1 (aTl N) (nA N) t, upd1 (aHd N) (nA N) h, upd1 (aCo N) (nA N) c, upd1 (aEx N) (nA N) e)
def shf (A a : Int) (f : Int → Int) : Int → Int := fun k => if 0 ≤ k ∧ k < A - 1 then (if k < a then f k else f (k + 1)) else 0
def delN (N : Nt) (a : Int) : Nt := (nN N, nS N, nT N, nB N, nA N - 1, shf (nA N) a (aTl N), shf (nA N) a (aHd N), shf (nA N) a (aCo N), shf (nA N) a (aEx N))
def setN (N : Nt) (a c e : Int) : Nt := (nN N, nS N, nT N, nB N, nA N, aTl N, aHd N, upd1 (aCo N) a c, upd1 (aEx N) a e)
def budN (N : Nt) (v : Int) : Nt := (nN N, nS N, nT N, v, nA N, aTl N, aHd N, aCo N, aEx N)
def begN (n s t : Int) : Nt := (n, s, t, 2, 0, fun _ => 0, fun _ => 0, fun _ => 0, fun _ => 0)
def rho (a k : Int) : Int := if a < k then k - 1 else k
theorem begN_wf {n s t : Int} (h : 2 ≤ n ∧ n ≤ 8 ∧ 0 ≤ s ∧ s < n ∧ 0 ≤ t ∧ t < n ∧ s ≠ t) : WFN (begN n s t) := ⟨⟨h.1, h.2.1, h.2.2.1, h.2.2.2.1, h.2.2.2.2.1, h.2.2.2.2.2.1, h.2.2.2.2.2.2, by show (0 : Int) ≤ 2; omega, by show (2 : Int) ≤ 6; omega, by show (0 : Int) ≤ 0; omega, by show (0 : Int) ≤ 16; omega⟩, fun k h0 h1 => by have : k < 0 := h1; omega⟩
theorem addN_wf {N : Nt} (hW : WFN N) (hA : nA N < 16) {t h c e : Int} (ht : 0 ≤ t ∧ t < nN N) (hh : 0 ≤ h ∧ h < nN N) (hne : t ≠ h) (hc : 0 ≤ c ∧ c ≤ 99) (he : 0 ≤ e ∧ e ≤ 99) : WFN (addN N t h c e) := by
  have hw := hW.1
  refine ⟨⟨hw.1, hw.2.1, hw.2.2.1, hw.2.2.2.1, hw.2.2.2.2.1, hw.2.2.2.2.2.1, hw.2.2.2.2.2.2.1, hw.2.2.2.2.2.2.2.1, hw.2.2.2.2.2.2.2.2.1, by show 0 ≤ nA N + 1; omega, by show nA N + 1 ≤ 16; omega⟩, fun k h0 h1 => ?_⟩
  have h1 : k < nA N + 1 := h1
  show 0 ≤ upd1 (aTl N) (nA N) t k ∧ upd1 (aTl N) (nA N) t k < nN N ∧ 0 ≤ upd1 (aHd N) (nA N) h k ∧ upd1 (aHd N) (nA N) h k < nN N ∧ upd1 (aTl N) (nA N) t k ≠ upd1 (aHd N) (nA N) h k ∧ 0 ≤ upd1 (aCo N) (nA N) c k ∧ upd1 (aCo N) (nA N) c k ≤ 99 ∧ 0 ≤ upd1 (aEx N) (nA N) e k ∧ upd1 (aEx N) (nA N) e k ≤ 99
  unfold upd1
  by_cases q : k = nA N
  · simp only [if_pos q]; exact ⟨ht.1, ht.2, hh.1, hh.2, hne, hc.1, hc.2, he.1, he.2⟩
  · simp only [if_neg q]; exact hW.arc h0 (by omega)
theorem delN_wf {N : Nt} (hW : WFN N) {a : Int} (ha : 0 ≤ a ∧ a < nA N) : WFN (delN N a) := by
  have hw := hW.1
  refine ⟨⟨hw.1, hw.2.1, hw.2.2.1, hw.2.2.2.1, hw.2.2.2.2.1, hw.2.2.2.2.2.1, hw.2.2.2.2.2.2.1, hw.2.2.2.2.2.2.2.1, hw.2.2.2.2.2.2.2.2.1, by show 0 ≤ nA N - 1; omega, by show nA N - 1 ≤ 16; omega⟩, fun k h0 h1 => ?_⟩
  have h1 : k < nA N - 1 := h1
  show 0 ≤ shf (nA N) a (aTl N) k ∧ shf (nA N) a (aTl N) k < nN N ∧ 0 ≤ shf (nA N) a (aHd N) k ∧ shf (nA N) a (aHd N) k < nN N ∧ shf (nA N) a (aTl N) k ≠ shf (nA N) a (aHd N) k ∧ 0 ≤ shf (nA N) a (aCo N) k ∧ shf (nA N) a (aCo N) k ≤ 99 ∧ 0 ≤ shf (nA N) a (aEx N) k ∧ shf (nA N) a (aEx N) k ≤ 99
  unfold shf
  simp only [if_pos (show 0 ≤ k ∧ k < nA N - 1 from ⟨h0, h1⟩)]
  by_cases q : k < a
  · simp only [if_pos q]; exact hW.arc h0 (by omega)
  · simp only [if_neg q]; exact hW.arc (by omega) (by omega)
theorem setN_wf {N : Nt} (hW : WFN N) {a c e : Int} (hc : 0 ≤ c ∧ c ≤ 99) (he : 0 ≤ e ∧ e ≤ 99) : WFN (setN N a c e) := by
  have hw := hW.1
  refine ⟨hw, fun k h0 h1 => ?_⟩
  have h1 : k < nA N := h1
  have hk := hW.arc h0 h1
  show 0 ≤ aTl N k ∧ aTl N k < nN N ∧ 0 ≤ aHd N k ∧ aHd N k < nN N ∧ aTl N k ≠ aHd N k ∧ 0 ≤ upd1 (aCo N) a c k ∧ upd1 (aCo N) a c k ≤ 99 ∧ 0 ≤ upd1 (aEx N) a e k ∧ upd1 (aEx N) a e k ≤ 99
  unfold upd1
  by_cases q : k = a
  · simp only [if_pos q]; omega
  · simp only [if_neg q]; exact hk
theorem budN_wf {N : Nt} (hW : WFN N) {v : Int} (hv : 0 ≤ v ∧ v ≤ 6) : WFN (budN N v) := by
  have hw := hW.1
  exact ⟨⟨hw.1, hw.2.1, hw.2.2.1, hw.2.2.2.1, hw.2.2.2.2.1, hw.2.2.2.2.2.1, hw.2.2.2.2.2.2.1, hv.1, hv.2, hw.2.2.2.2.2.2.2.2.2.1, hw.2.2.2.2.2.2.2.2.2.2⟩, hW.2⟩
/-- a way keeps when arcs get other numbers -/
theorem pOK_map {N N' : Nt} (phi : Int → Int) (hs : nS N' = nS N) (ht : nT N' = nT N) : ∀ (n : Nat) (l : List Int), l.length = n → pOK N l → (∀ a ∈ l, aTl N' (phi a) = aTl N a ∧ aHd N' (phi a) = aHd N a ∧ 0 ≤ phi a ∧ phi a < nA N') → pOK N' (l.map phi) ∧ endOf N' (l.map phi) = endOf N l ∧ ∀ v, hasNd N' (l.map phi) v = hasNd N l v := by
  intro n
  induction n with
  | zero =>
    intro l hl _ _
    have : l = [] := List.eq_nil_of_length_eq_zero hl
    subst this
    exact ⟨pOK_nil, hs, fun v => by simp [hasNd, hs]⟩
  | succ n ih =>
    intro l hl h ha
    rcases List.eq_nil_or_concat l with rfl | ⟨l0, a, rfl⟩
    · simp at hl
    · rw [List.concat_eq_append] at hl h ha ⊢
      obtain ⟨h1, h2, h3, h4⟩ := pOK_init h
      obtain ⟨i1, i2, i3⟩ := ih l0 (by simpa using hl) h1 (fun b hb => ha b (by simp [hb]))
      obtain ⟨a1, a2, a3, a4⟩ := ha a (by simp)
      rw [List.map_append, List.map_singleton]
      refine ⟨pOK_snoc i1 a3 a4 ?_, by rw [endOf_snoc, endOf_snoc, a2], fun v => by rw [hasNd_snoc, hasNd_snoc, i3, a2]⟩
      unfold canFol at h4 ⊢
      rw [i2, i3, a1, a2, ht]
      exact h4
section NU
variable {w : Wl} {m : Mm} {fu p b : Nat} {N : Nt} {v z : Int} {l : List Int}
theorem cut_upd {A k v : Int} {f : Int → Int} (h0 : 0 ≤ k) (h1 : k < A) : cut A (fun j => if j = k then v else f j) = upd1 (cut A f) k v := by
  funext j
  unfold cut upd1
  by_cases q : j = k
  · simp only [if_pos q]; rw [if_pos (by omega)]
  · rw [if_neg q]; simp only [if_neg q]
theorem up_row {m : Mm} {p : Nat} {k v : Int} : up m p k v p = fun j => if j = k then v else m p j := by
  funext j; unfold up
  by_cases q : j = k
  · rw [if_pos ⟨rfl, q⟩, if_pos q]
  · rw [if_neg (fun x => q x.2), if_neg q]
theorem cut_next {A v : Int} {f : Int → Int} (hA : 0 ≤ A) : cut (A + 1) (fun j => if j = A then v else f j) = upd1 (cut A f) A v := by
  funext j
  unfold cut upd1
  by_cases q : j = A
  · simp only [if_pos q]; rw [if_pos (by omega)]
  · simp only [if_neg q]
    by_cases r : 0 ≤ j ∧ j < A
    · rw [if_pos (by omega), if_pos r]
    · rw [if_neg (by omega), if_neg r]
theorem nbegin_eq (h : isN p) {n s t : Int} : ∃ m', f_X4_begin fu p (iI n) (iI s) (iI t) (mem w m) = some ((), mem w m') ∧ (∀ q, q ≠ p → m' q = m q) ∧ netC m' p = begN n s t := by
  unfold f_X4_begin
  simp (disch := omega) only [Option.bind_some, bd2_some, bdX_ok, bdX_er, nm_eq, n_0, n_1, n_2, n_3, n_4, n_5, n_6, n_7, n_8, n_9, n_10, n_11, n_12, n_14, n_15, n_16, n_17, n_18, n_19, n_20, n_21, n_24, n_27, n_28, n_32, n_43, n_45, n_48, n_56, n_57, n_59, n_64, n_70, n_97, n_99, n_100, n_104, n_118, n_122, n_126, n_127, n_128, n_129, n_130, n_150, n_255, n_600, n_1000, n_1050, n_1200, n_999999, n_1000000, iI_neg, iI_add, iI_sub, iI_mul, ile, ilt, ieq, N_has h, N_0 h, N_1 h, N_2 h, N_3 h, N_4 h, N_5 h, N_6 h, N_7 h, N_8 h, N_p0 h, N_p1 h, N_p2 h, N_p3 h, N_p4 h, N_tl h, N_hd h, N_co h, N_ex h, N_stl h, N_shd h, N_sco h, N_sex h]
  refine ⟨_, rfl, fun q hq => ?_, ?_⟩
  · simp (disch := omega) only [up_ne]
  · unfold netC begN
    simp (disch := omega) only [up_off, up_at]
    have e : ∀ f : Int → Int, cut 0 f = fun _ => 0 := fun f => by funext k; unfold cut; rw [if_neg (by omega)]
    rw [e, e, e, e]
theorem addLast_eq (hN : isNet m p N) (hA : nA N < 16) {t h c e : Int} : ∃ m', f_X4_addLast fu p (iI t) (iI h) (iI c) (iI e) (mem w m) = some ((), mem w m') ∧ (∀ q, (q < p ∨ p + 5 ≤ q) → m' q = m q) ∧ netC m' p = addN N t h c e := by
  have hb := hN.1
  have hw := hN.2.2.1
  have h4 : m p 4 = nA N := by rw [← hN.2.1]; rfl
  unfold f_X4_addLast
  simp (disch := omega) only [Option.bind_some, bd2_some, bdX_ok, bdX_er, nm_eq, n_0, n_1, n_2, n_3, n_4, n_5, n_6, n_7, n_8, n_9, n_10, n_11, n_12, n_14, n_15, n_16, n_17, n_18, n_19, n_20, n_21, n_24, n_27, n_28, n_32, n_43, n_45, n_48, n_56, n_57, n_59, n_64, n_70, n_97, n_99, n_100, n_104, n_118, n_122, n_126, n_127, n_128, n_129, n_130, n_150, n_255, n_600, n_1000, n_1050, n_1200, n_999999, n_1000000, iI_neg, iI_add, iI_sub, iI_mul, ile, ilt, ieq, N_has hb, N_0 hb, N_1 hb, N_2 hb, N_3 hb, N_4 hb, N_5 hb, N_6 hb, N_7 hb, N_8 hb, N_p0 hb, N_p1 hb, N_p2 hb, N_p3 hb, N_p4 hb, N_tl hb, N_hd hb, N_co hb, N_ex hb, N_stl hb, N_shd hb, N_sco hb, N_sex hb, h4, up_ne]
  rw [if_neg (by omega)]
  refine ⟨_, rfl, fun q hq => ?_, ?_⟩
  · simp (disch := omega) only [up_ne]
  · unfold netC addN
    simp (disch := omega) only [up_ne, up_off, up_at, up_row]
    rw [cut_next hw.2.2.2.2.2.2.2.2.2.1, cut_next hw.2.2.2.2.2.2.2.2.2.1, cut_next hw.2.2.2.2.2.2.2.2.2.1, cut_next hw.2.2.2.2.2.2.2.2.2.1]
    rw [← hN.2.1] at h4 ⊢
    rfl
end NU
