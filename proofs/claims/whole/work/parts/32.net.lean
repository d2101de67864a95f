/-! networks and paths -/
theorem n_0 : (0 : Int32) = iI 0 := id rfl
theorem n_1 : (1 : Int32) = iI 1 := id rfl
theorem n_m1 : (-1 : Int32) = iI (-1) := id rfl
abbrev Nt : Type := Int × Int × Int × Int × Int × (Int → Int) × (Int → Int) × (Int → Int) × (Int → Int)
def nN (N : Nt) : Int := N.1
def nS (N : Nt) : Int := N.2.1
def nT (N : Nt) : Int := N.2.2.1
def nB (N : Nt) : Int := N.2.2.2.1
def nA (N : Nt) : Int := N.2.2.2.2.1
def aTl (N : Nt) : Int → Int := N.2.2.2.2.2.1
def aHd (N : Nt) : Int → Int := N.2.2.2.2.2.2.1
def aCo (N : Nt) : Int → Int := N.2.2.2.2.2.2.2.1
def aEx (N : Nt) : Int → Int := N.2.2.2.2.2.2.2.2
def cut (A : Int) (f : Int → Int) : Int → Int := fun k => if 0 ≤ k ∧ k < A then f k else 0
def netC (m : Mm) (p : Nat) : Nt := (m p 0, m p 1, m p 2, m p 3, m p 4, cut (m p 4) (m (p + 1)), cut (m p 4) (m (p + 2)), cut (m p 4) (m (p + 3)), cut (m p 4) (m (p + 4)))
def WFN (N : Nt) : Prop := (2 ≤ nN N ∧ nN N ≤ 8 ∧ 0 ≤ nS N ∧ nS N < nN N ∧ 0 ≤ nT N ∧ nT N < nN N ∧ nS N ≠ nT N ∧ 0 ≤ nB N ∧ nB N ≤ 6 ∧ 0 ≤ nA N ∧ nA N ≤ 16) ∧ ∀ k, 0 ≤ k → k < nA N → 0 ≤ aTl N k ∧ aTl N k < nN N ∧ 0 ≤ aHd N k ∧ aHd N k < nN N ∧ aTl N k ≠ aHd N k ∧ 0 ≤ aCo N k ∧ aCo N k ≤ 99 ∧ 0 ≤ aEx N k ∧ aEx N k ≤ 99
def isNet (m : Mm) (p : Nat) (N : Nt) : Prop := isN p ∧ netC m p = N ∧ WFN N
def isPth (m : Mm) (q : Nat) (l : List Int) : Prop := isP q ∧ m q 1 = l.length ∧ (∀ (j : Nat) (a : Int), l[j]? = some a → m (q + 1) j = a) ∧ l.length ≤ 7
def AOK (N : Nt) (l : List Int) : Prop := ∀ a ∈ l, 0 ≤ a ∧ a < nA N
section NP
variable {w : Wl} {m : Mm} {p q : Nat} {z v : Int} {N : Nt} {l : List Int}
theorem K_has (h : isNet m p N) : hasO (mem w m) p 4 = some () := N_has h.1
theorem K_0 (h : isNet m p N) : gI (mem w m) p 4 0 = some (iI (nN N)) := by rw [N_0 h.1, ← h.2.1]; rfl
theorem K_1 (h : isNet m p N) : gI (mem w m) p 4 1 = some (iI (nS N)) := by rw [N_1 h.1, ← h.2.1]; rfl
theorem K_2 (h : isNet m p N) : gI (mem w m) p 4 2 = some (iI (nT N)) := by rw [N_2 h.1, ← h.2.1]; rfl
theorem K_3 (h : isNet m p N) : gI (mem w m) p 4 3 = some (iI (nB N)) := by rw [N_3 h.1, ← h.2.1]; rfl
theorem K_4 (h : isNet m p N) : gI (mem w m) p 4 4 = some (iI (nA N)) := by rw [N_4 h.1, ← h.2.1]; rfl
theorem K_5 (h : isNet m p N) : gP (mem w m) p 4 5 = some (p + 1) := N_5 h.1
theorem K_6 (h : isNet m p N) : gP (mem w m) p 4 6 = some (p + 2) := N_6 h.1
theorem K_7 (h : isNet m p N) : gP (mem w m) p 4 7 = some (p + 3) := N_7 h.1
theorem K_8 (h : isNet m p N) : gP (mem w m) p 4 8 = some (p + 4) := N_8 h.1
theorem cut_in {A : Int} {f : Int → Int} {k : Int} (h0 : 0 ≤ k) (h1 : k < A) : cut A f k = f k := if_pos ⟨h0, h1⟩
theorem K_tl (h : isNet m p N) (h0 : 0 ≤ z) (h1 : z < nA N) : aI (mem w m) (p + 1) 13 (iI z) = some (iI (aTl N z)) := by
  have := h.2.2.1
  rw [N_tl h.1 h0 (by omega), ← h.2.1]
  show _ = some (iI (cut (m p 4) (m (p + 1)) z))
  rw [cut_in h0 (by rw [← h.2.1] at h1; exact h1)]
theorem K_hd (h : isNet m p N) (h0 : 0 ≤ z) (h1 : z < nA N) : aI (mem w m) (p + 2) 13 (iI z) = some (iI (aHd N z)) := by
  have := h.2.2.1
  rw [N_hd h.1 h0 (by omega), ← h.2.1]
  show _ = some (iI (cut (m p 4) (m (p + 2)) z))
  rw [cut_in h0 (by rw [← h.2.1] at h1; exact h1)]
theorem K_co (h : isNet m p N) (h0 : 0 ≤ z) (h1 : z < nA N) : aI (mem w m) (p + 3) 13 (iI z) = some (iI (aCo N z)) := by
  have := h.2.2.1
  rw [N_co h.1 h0 (by omega), ← h.2.1]
  show _ = some (iI (cut (m p 4) (m (p + 3)) z))
  rw [cut_in h0 (by rw [← h.2.1] at h1; exact h1)]
theorem K_ex (h : isNet m p N) (h0 : 0 ≤ z) (h1 : z < nA N) : aI (mem w m) (p + 4) 13 (iI z) = some (iI (aEx N z)) := by
  have := h.2.2.1
  rw [N_ex h.1 h0 (by omega), ← h.2.1]
  show _ = some (iI (cut (m p 4) (m (p + 4)) z))
  rw [cut_in h0 (by rw [← h.2.1] at h1; exact h1)]
theorem Q_len (h : isPth m q l) : gI (mem w m) q 5 1 = some (iI (l.length : Int)) := by rw [P_len h.1, h.2.1]
theorem Q_arr (h : isPth m q l) : gP (mem w m) q 5 0 = some (q + 1) := P_arr h.1
theorem Q_has (h : isPth m q l) : hasO (mem w m) q 5 = some () := P_has h.1
theorem Q_get {j : Nat} {a : Int} (h : isPth m q l) (hj : l[j]? = some a) : aI (mem w m) (q + 1) 13 (iI (j : Int)) = some (iI a) := by
  have hl : j < l.length := (List.getElem?_eq_some_iff.mp hj).1
  have := h.2.2.2
  rw [P_get h.1 (by omega) (by omega), h.2.2.1 j a hj]
theorem mid_at {α : Type} {pre suf : List α} {a : α} : (pre ++ a :: suf)[pre.length]? = some a := by simp
def cst (N : Nt) : List Int → Int32 → Int
  | [], _ => 0
  | a :: l, D => aCo N a + bt D a * aEx N a + cst N l D
theorem arcCost_eq {fu : Nat} {D : Int32} (hN : isNet m p N) (h0 : 0 ≤ z) (h1 : z < nA N) : f_X4_arcCost fu p (iI z) D (mem w m) = some (iI (aCo N z + bt D z * aEx N z), mem w m) := by
  have := hN.2.2.1
  unfold f_X4_arcCost
  rw [K_7 hN, Option.bind_some, K_co hN h0 h1, Option.bind_some, K_8 hN, Option.bind_some, K_ex hN h0 h1, Option.bind_some, bt_of h0 (by omega), iI_mul, iI_add]
theorem costAgainst_go {fu : Nat} {D : Int32} (hN : isNet m p N) (hq : isPth m q l) (hl : AOK N l) : ∀ (suf pre : List Int) (n : Nat) (s : Int), l = pre ++ suf → suf.length < n → f_X4_costAgainst_5 fu n p q D (iI s) (iI (pre.length : Int)) (mem w m) = some (iI (s + cst N suf D), mem w m) := by
  have h7 := hq.2.2.2
  intro suf
  induction suf with
  | nil =>
    intro pre n s hs hn
    obtain ⟨n, rfl⟩ : ∃ k, n = k + 1 := ⟨n - 1, by omega⟩
    rw [f_X4_costAgainst_5, f_X4_costAgainst_5b, Q_len hq, Option.bind_some, if_pos (by rw [hs, List.append_nil]; exact Int32.le_refl _)]
    rw [cst, Int.add_zero]
  | cons a suf ih =>
    intro pre n s hs hn
    obtain ⟨n, rfl⟩ : ∃ k, n = k + 1 := ⟨n - 1, by omega⟩
    have hlen : l.length = pre.length + (suf.length + 1) := by rw [hs]; simp
    have ha := hl a (by rw [hs]; simp)
    rw [f_X4_costAgainst_5, f_X4_costAgainst_5b, Q_len hq, Option.bind_some, if_neg (by rw [iI_le (by omega) (by omega) (by omega) (by omega)]; omega), Q_arr hq, Option.bind_some, Q_get hq (by rw [hs]; exact mid_at), Option.bind_some, K_has hN, Option.bind_some, arcCost_eq hN ha.1 ha.2, bd2_some, iI_add, n_1, iI_add]
    have := ih (pre ++ [a]) n (s + (aCo N a + bt D a * aEx N a)) (by rw [hs]; simp) (by simp at hn; omega)
    rw [List.length_append, List.length_singleton, Int.natCast_add] at this
    rw [show ((1 : Nat) : Int) = 1 from rfl] at this
    rw [this, cst]
    congr 3
    omega
theorem costAgainst_eq {fu : Nat} {D : Int32} (hfu : 100 ≤ fu) (hN : isNet m p N) (hq : isPth m q l) (hl : AOK N l) : f_X4_costAgainst fu p q D (mem w m) = some (iI (cst N l D), mem w m) := by
  have h7 := hq.2.2.2
  rw [f_X4_costAgainst]
  have := costAgainst_go (w := w) (fu := fu) (D := D) hN hq hl l [] fu 0 rfl (by omega)
  rw [Int.zero_add] at this
  exact this
end NP
