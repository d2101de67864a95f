section LZ
variable {w : Wl} {m : Mm} {b1 b2 b3 b4 b5 : Int} {fu : Nat} {x : Sg} {H : List Sg} {B L : List Int} {K : List Ob → Option (Int32 × List Ob)} {xs : List Int32} {a5 c : Int32}
theorem case_all (hfu : 200000 ≤ fu) (hI : INV m x H L B) (s1 : sGet xs (a5 + 1) = some (iI b1)) (i1 : i32 b1) (s2 : sGet xs (a5 + 2) = some (iI b2)) (i2 : i32 b2) (s3 : sGet xs (a5 + 3) = some (iI b3)) (i3 : i32 b3) (s4 : sGet xs (a5 + 4) = some (iI b4)) (i4 : i32 b4) (s5 : sGet xs (a5 + 5) = some (iI b5)) : GO (f_L_case fu xs 0 283 294 295 c a5 (mem w m) K) K := by
  unfold f_L_case
  by_cases c0 : c = 0
  · rw [if_pos c0]; exact gc_0 hfu hI s1 s2 s3 s4 s5
  rw [if_neg c0]
  by_cases c1 : c = 1
  · rw [if_pos c1]; exact gc_1 hfu hI s1 i1
  rw [if_neg c1]
  by_cases c2 : c = 2
  · rw [if_pos c2]; exact gc_2 hI
  rw [if_neg c2]
  by_cases c3 : c = 3
  · rw [if_pos c3]; exact gc_3 hfu hI s1 i1
  rw [if_neg c3]
  by_cases c4 : c = 4
  · rw [if_pos c4]; exact gc_4 hfu hI s1 i1 s2 i2
  rw [if_neg c4]
  by_cases c5 : c = 5
  · rw [if_pos c5]; exact gc_5 hfu hI s1 i1 s2 i2 s3 i3 s4 i4
  rw [if_neg c5]
  by_cases c6 : c = 6
  · rw [if_pos c6]; exact gc_6 hfu hI s1 i1
  rw [if_neg c6]
  by_cases c7 : c = 7
  · rw [if_pos c7]; exact gc_7 hfu hI s1 i1 s2 i2 s3 i3
  rw [if_neg c7]
  by_cases c8 : c = 8
  · rw [if_pos c8]; exact gc_8 hfu hI s1 i1
  rw [if_neg c8]
  by_cases c9 : c = 9
  · rw [if_pos c9]; exact gc_9 hfu hI s1 i1
  rw [if_neg c9]
  by_cases c10 : c = 10
  · rw [if_pos c10]; exact gc_10 hfu hI
  rw [if_neg c10]
  by_cases c11 : c = 11
  · rw [if_pos c11]; exact gc_11 hfu hI
  rw [if_neg c11]
  by_cases c12 : c = 12
  · rw [if_pos c12]; exact gc_12 hfu hI
  rw [if_neg c12]
  by_cases c13 : c = 13
  · rw [if_pos c13]; exact gc_13 hfu hI s1 i1
  rw [if_neg c13]
  by_cases c14 : c = 14
  · rw [if_pos c14]; exact gc_14 hfu hI s1 i1 s2 i2
  rw [if_neg c14]
  by_cases c15 : c = 15
  · rw [if_pos c15]; exact gc_15 hfu hI s1 i1 s2 i2
  rw [if_neg c15]
  by_cases c16 : c = 16
  · rw [if_pos c16]; exact gc_16 hfu hI s1 i1 s2 i2
  rw [if_neg c16]
  by_cases c17 : c = 17
  · rw [if_pos c17]; exact gc_17 hfu hI
  rw [if_neg c17]
  by_cases c18 : c = 18
  · rw [if_pos c18]; exact gc_18 hfu hI s1 i1 s2 i2
  rw [if_neg c18]
  by_cases c19 : c = 19
  · rw [if_pos c19]; exact gc_19 hfu hI s1 i1
  rw [if_neg c19]
  by_cases c20 : c = 20
  · rw [if_pos c20]; exact gc_20 hfu hI s1 i1
  rw [if_neg c20]
  by_cases c21 : c = 21
  · rw [if_pos c21]; exact gc_21 hfu hI s1 i1
  rw [if_neg c21]
  by_cases c22 : c = 22
  · rw [if_pos c22]; exact gc_22 hfu hI s1 i1
  rw [if_neg c22]
  by_cases c23 : c = 23
  · rw [if_pos c23]; exact gc_23 hfu hI s1 s2 i2
  rw [if_neg c23]
  by_cases c24 : c = 24
  · rw [if_pos c24]; exact gc_24 hfu hI s1 i1
  rw [if_neg c24]
  by_cases c25 : c = 25
  · rw [if_pos c25]; exact gc_25 hfu hI s1 i1 s2 i2
  rw [if_neg c25]
  by_cases c26 : c = 26
  · rw [if_pos c26]; exact gc_26 hfu hI s1 i1 s2 i2
  rw [if_neg c26]
  by_cases c27 : c = 27
  · rw [if_pos c27]; exact gc_27 hfu hI s1 i1 s2
  rw [if_neg c27]
  by_cases c28 : c = 28
  · rw [if_pos c28]; exact gc_28 hfu hI
  rw [if_neg c28]
  by_cases c29 : c = 29
  · rw [if_pos c29]; exact gc_29 hfu hI
  rw [if_neg c29]
  by_cases c30 : c = 30
  · rw [if_pos c30]; exact gc_30 hfu hI s1 i1
  rw [if_neg c30]
  by_cases c31 : c = 31
  · rw [if_pos c31]; exact gc_31 hfu hI s1 i1
  rw [if_neg c31]
  by_cases c32 : c = 32
  · rw [if_pos c32]; exact gc_32 hfu hI s1 i1
  rw [if_neg c32]
  by_cases c33 : c = 33
  · rw [if_pos c33]; exact gc_33 hfu hI
  rw [if_neg c33]
  exact ⟨w, m, x, H, L, B, hI, rfl⟩
theorem i32_of (y : Int32) : i32 y.toInt := ⟨y.le_toInt, y.toInt_lt⟩
theorem sGet_at {j : Int} (h0 : 0 ≤ j) (h1 : j < xs.length) (h2 : xs.length ≤ 3072) : ∃ b, sGet xs (iI j) = some (iI b) ∧ i32 b := by
  have hl : j.toNat < xs.length := by omega
  refine ⟨(xs[j.toNat]).toInt, ?_, i32_of _⟩
  unfold sGet
  rw [if_neg (iI_nneg h0 (by omega)), iI_clamp h0 (by omega), List.getElem?_eq_getElem hl, iI_toInt]
theorem loop_all (hfu : 200000 ≤ fu) (h2 : xs.length ≤ 3072) : ∀ (n t : Nat) (w : Wl) (m : Mm) (x : Sg) (H : List Sg) (L B : List Int), t + n = 600 → t ≤ 512 → INV m x H L B → ∃ M9, f_L_28 fu xs 0 283 294 295 n (iI (6 * t)) (mem w m) = some (1, M9) := by
  intro n
  induction n with
  | zero => intro t w m x H L B ht h5; omega
  | succ n ih =>
    intro t w m x H L B ht h5 hI
    rw [f_L_28, show Int32.ofNat xs.length = iI (xs.length : Int) from (Int32.ofInt_eq_ofNat ..).symm]
    have hlt : (iI (xs.length : Int) - 6 < iI (6 * (t : Int))) ↔ (xs.length : Int) - 6 < 6 * t := by
      rw [n_6, iI_sub]
      exact iI_lt (by omega) (by omega) (by omega) (by omega)
    by_cases c : (xs.length : Int) - 6 < 6 * t
    · rw [if_pos (hlt.mpr c)]; exact ⟨_, rfl⟩
    · rw [if_neg (fun q => c (hlt.mp q))]
      obtain ⟨b0, s0, i0⟩ := sGet_at (xs := xs) (j := 6 * t) (by omega) (by omega) h2
      obtain ⟨b1, s1, i1⟩ := sGet_at (xs := xs) (j := 6 * t + 1) (by omega) (by omega) h2
      obtain ⟨b2, s2, i2⟩ := sGet_at (xs := xs) (j := 6 * t + 2) (by omega) (by omega) h2
      obtain ⟨b3, s3, i3⟩ := sGet_at (xs := xs) (j := 6 * t + 3) (by omega) (by omega) h2
      obtain ⟨b4, s4, i4⟩ := sGet_at (xs := xs) (j := 6 * t + 4) (by omega) (by omega) h2
      obtain ⟨b5, s5, i5⟩ := sGet_at (xs := xs) (j := 6 * t + 5) (by omega) (by omega) h2
      have a : ∀ j : Int, iI (6 * (t : Int)) + iI j = iI (6 * t + j) := fun j => iI_add _ _
      rw [s0, Option.bind_some]
      obtain ⟨w', m', x', H', L', B', hI', e⟩ := case_all (w := w) (c := iI b0 &&& 63) (a5 := iI (6 * t)) (K := fun M => f_L_28 fu xs 0 283 294 295 n (iI (6 * t) + 6) M) hfu hI ((congrArg (sGet xs) (a 1)).trans s1) i1 ((congrArg (sGet xs) (a 2)).trans s2) i2 ((congrArg (sGet xs) (a 3)).trans s3) i3 ((congrArg (sGet xs) (a 4)).trans s4) i4 ((congrArg (sGet xs) (a 5)).trans s5)
      have e6 : iI (6 * (t : Int)) + 6 = iI (6 * ((t + 1 : Nat) : Int)) := (a 6).trans (by congr 1)
      obtain ⟨M9, e9⟩ := ih (t + 1) w' m' x' H' L' B' (by omega) (by omega) hI'
      rw [← e6] at e9
      exact ⟨M9, e.trans e9⟩
theorem m0_INV : INV m0 x0 [] [] [] := by
  have A := m0_at
  refine ⟨m0_CI, m0_RI, GX_beg, fun y hy => (by cases hy), ⟨A (0, 9, 0) (by decide), by simp, fun j c hj => by simp at hj⟩, ⟨A (283, 27, 0) (by decide), by simp, fun j c hj => by simp at hj⟩, ⟨A (228, 1, 0) (by decide), by simp, fun j c hj => by simp at hj⟩, ⟨A (283, 6, 0) (by decide), by simp, fun j c hj => by simp at hj⟩, ?_⟩
  have e1 : m0 228 5 = -1 := A (228, 5, -1) (by decide)
  have e2 : m0 283 14 = -1 := A (283, 14, -1) (by decide)
  rw [e1, e2]
  omega
end LZ
/-- the law's function answers 1 on every script -/
theorem pure_all (xs : List Int32) (h : xs.length ≤ 3072) : ∃ (fu : Nat) (M9 : List Ob), f_L_law fu xs = some (1, M9) := by
  obtain ⟨M9, e⟩ := loop_all (fu := 2000000) (by omega) h 600 0 (0, 0) m0 x0 [] [] [] (by omega) (by omega) m0_INV
  refine ⟨2000000, M9, ?_⟩
  rw [law_eq, mem0]
  exact e
