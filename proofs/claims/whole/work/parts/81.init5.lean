def m0 : Mm := fun p k => if p = 2 then (if k = 0 then 2 else if k = 2 then 1 else if k = 3 then 2 else 0) else if p = 25 then (if k = 0 then 2 else 0) else if p = 228 then (if k = 5 then -1 else 0) else if p = 258 then (if k = 3 then -1 else 0) else if p = 260 then (if 7 ≤ k then 1000000 else 0) else if p = 283 then (if k = 14 then -1 else 0) else if p = 284 ∨ p = 285 then (if k = 0 then 2 else if k = 2 then 1 else if k = 3 then 2 else if k = 128 then 2 else 0) else 0
theorem mem0 : Mall = mem (0, 0) m0 := by decide +kernel
theorem m0_at : ∀ q ∈ ([(2, 0, 2), (2, 1, 0), (2, 2, 1), (2, 3, 2), (2, 4, 0), (1, 3, 0), (7, 1, 0), (22, 0, 0), (23, 0, 0), (24, 0, 0), (25, 0, 2), (26, 1, 0), (26, 2, 0), (260, 5, 0), (260, 6, 0), (265, 3, 0), (0, 9, 0), (228, 1, 0), (228, 5, -1), (284, 0, 2), (284, 1, 0), (284, 2, 1), (284, 3, 2), (284, 4, 0), (284, 69, 0), (284, 118, 0), (284, 126, 0), (284, 127, 0), (284, 128, 2), (284, 129, 0), (283, 3, 0), (283, 6, 0), (283, 14, -1), (283, 27, 0)] : List (Nat × Int × Int)), m0 q.1 q.2.1 = q.2.2 := by decide +kernel
def x0 : Sg := (begN 2 0 1, [], [], [])
theorem cut0 (f : Int → Int) : cut 0 f = fun _ => 0 := by
  funext k; unfold cut; rw [if_neg (by omega)]
theorem m0_CI : CI m0 x0 [] := by
  have A : ∀ (p : Nat) (k v : Int), (p, k, v) ∈ ([(2, 0, 2), (2, 1, 0), (2, 2, 1), (2, 3, 2), (2, 4, 0), (1, 3, 0), (7, 1, 0), (22, 0, 0), (23, 0, 0), (24, 0, 0), (25, 0, 2), (26, 1, 0), (26, 2, 0), (260, 5, 0), (260, 6, 0), (265, 3, 0), (0, 9, 0), (228, 1, 0), (228, 5, -1), (284, 0, 2), (284, 1, 0), (284, 2, 1), (284, 3, 2), (284, 4, 0), (284, 69, 0), (284, 118, 0), (284, 126, 0), (284, 127, 0), (284, 128, 2), (284, 129, 0), (283, 3, 0), (283, 6, 0), (283, 14, -1), (283, 27, 0)] : List (Nat × Int × Int)) → m0 p k = v := fun p k v h => m0_at (p, k, v) h
  have hS : isS 1 := isS_all _ (by decide)
  refine ⟨⟨hS, ⟨S_N hS, ?_, begN_wf (by omega)⟩, ⟨hS, A 1 3 0 (by decide), by show 0 ≤ 6; omega, fun i l hi => ?_⟩, ⟨S_D hS, A 7 1 0 (by decide), fun j a hj => ?_, by show 0 ≤ 7; omega⟩, S_J hS, A 22 0 0 (by decide), by show 0 ≤ 20; omega, fun j hj => ?_⟩, ⟨0, by omega, A 26 1 0 (by decide), A 26 2 0 (by decide), by show 0 ≤ 8; omega, fun i x hi => ?_⟩, Or.inl (A 260 5 0 (by decide)), Or.inl (A 260 6 0 (by decide)), Or.inl (A 265 3 0 (by decide))⟩
  · show netC m0 2 = begN 2 0 1
    unfold netC begN
    rw [A 2 0 2 (by decide), A 2 1 0 (by decide), A 2 2 1 (by decide), A 2 3 2 (by decide), A 2 4 0 (by decide), cut0, cut0, cut0, cut0]
  · have hi : ([] : List (List Int))[i]? = some l := hi
    rw [List.getElem?_nil] at hi; cases hi
  · have hj : ([] : List Int)[j]? = some a := hj
    rw [List.getElem?_nil] at hj; cases hj
  · have hj : j ≤ 0 := hj
    have : j = 0 := by omega
    subst this
    exact ⟨A 23 0 0 (by decide), A 24 0 0 (by decide), A 25 0 2 (by decide)⟩
  · rw [List.getElem?_nil] at hi; cases hi
theorem m0_RI : RI m0 x0 [] := by
  have A : ∀ (p : Nat) (k v : Int), (p, k, v) ∈ ([(2, 0, 2), (2, 1, 0), (2, 2, 1), (2, 3, 2), (2, 4, 0), (1, 3, 0), (7, 1, 0), (22, 0, 0), (23, 0, 0), (24, 0, 0), (25, 0, 2), (26, 1, 0), (26, 2, 0), (260, 5, 0), (260, 6, 0), (265, 3, 0), (0, 9, 0), (228, 1, 0), (228, 5, -1), (284, 0, 2), (284, 1, 0), (284, 2, 1), (284, 3, 2), (284, 4, 0), (284, 69, 0), (284, 118, 0), (284, 126, 0), (284, 127, 0), (284, 128, 2), (284, 129, 0), (283, 3, 0), (283, 6, 0), (283, 14, -1), (283, 27, 0)] : List (Nat × Int × Int)) → m0 p k = v := fun p k v h => m0_at (p, k, v) h
  refine ⟨⟨⟨begN_wf (by omega), ⟨A 284 0 2 (by decide), A 284 1 0 (by decide), A 284 2 1 (by decide), A 284 3 2 (by decide), A 284 4 0 (by decide)⟩, fun k h0 h1 => ?_⟩, ⟨A 284 69 0 (by decide), by show 0 ≤ 6; omega, fun i l hi => ?_⟩, ⟨A 284 118 0 (by decide), by show 0 ≤ 7; omega, fun j a hj => ?_⟩, A 284 126 0 (by decide), A 284 127 0 (by decide), A 284 128 2 (by decide), A 284 129 0 (by decide), by show 0 ≤ 20; omega, fun j c hj => ?_⟩, A 283 3 0 (by decide), by show 0 ≤ 8; omega, fun i y hi => ?_⟩
  · have h1 : k < 0 := h1
    omega
  · have hi : ([] : List (List Int))[i]? = some l := hi
    rw [List.getElem?_nil] at hi; cases hi
  · have hj : ([] : List Int)[j]? = some a := hj
    rw [List.getElem?_nil] at hj; cases hj
  · have hj : ([] : List Int)[j]? = some c := hj
    rw [List.getElem?_nil] at hj; cases hj
  · rw [List.getElem?_nil] at hi; cases hi
