/-! bits -/
def bt (D : Int32) (a : Int) : Int := if D.toBitVec.getLsbD a.toNat then 1 else 0
theorem iI_and31 {a : Int} (h0 : 0 ≤ a) (h1 : a < 32) : iI a &&& 31 = iI a := by
  have h : ∀ n : Nat, n < 32 → iI (n : Int) &&& 31 = iI (n : Int) := by decide +kernel
  have := h a.toNat (by omega)
  rw [show ((a.toNat : Nat) : Int) = a by omega] at this
  exact this
theorem iI_mod32 {a : Int} (h0 : 0 ≤ a) (h1 : a < 32) : (iI a).toBitVec.toNat = a.toNat := by
  have h : ∀ n : Nat, n < 32 → (iI (n : Int)).toBitVec.toNat = n := by decide +kernel
  have := h a.toNat (by omega)
  rw [show ((a.toNat : Nat) : Int) = a by omega] at this
  exact this
theorem bt_of {D : Int32} {a : Int} (h0 : 0 ≤ a) (h1 : a < 32) : (D >>> (iI a &&& 31)) &&& 1 = iI (bt D a) := by
  rw [iI_and31 h0 h1]
  apply Int32.toBitVec_inj.mp
  rw [Int32.toBitVec_and, Int32.toBitVec_shiftRight]
  apply BitVec.eq_of_getLsbD_eq
  intro i hi
  rw [BitVec.getLsbD_and]
  have e : (iI a).toBitVec.smod 32 = BitVec.ofNat 32 a.toNat := by
    have h : ∀ n : Nat, n < 32 → (iI (n : Int)).toBitVec.smod 32 = BitVec.ofNat 32 n := by decide +kernel
    have := h a.toNat (by omega)
    rw [show ((a.toNat : Nat) : Int) = a by omega] at this
    exact this
  rw [e]
  unfold bt
  by_cases hi0 : i = 0
  · subst hi0
    simp only [BitVec.sshiftRight', BitVec.getLsbD_sshiftRight, BitVec.toNat_ofNat]
    rw [Nat.mod_eq_of_lt (by omega)]
    have : a.toNat < 32 := by omega
    simp [this]
    split
    · rename_i h; simp [h]; exact (show (iI 1).toBitVec[0]'(by decide) = true by decide)
    · rename_i h; simp [h]; exact (show (iI 0).toBitVec[0]'(by decide) = false by decide)
  · have : (1 : Int32).toBitVec.getLsbD i = false := by
      have h : ∀ n : Nat, n < 32 → n ≠ 0 → (1 : Int32).toBitVec.getLsbD n = false := by decide +kernel
      exact h i hi hi0
    rw [this, Bool.and_false]
    split
    · exact this.symm
    · have h : ∀ n : Nat, n < 32 → (iI 0).toBitVec.getLsbD n = false := by decide +kernel
      exact (h i hi).symm
theorem bt_01 (D : Int32) (a : Int) : bt D a = 0 ∨ bt D a = 1 := by
  unfold bt; split
  · exact Or.inr rfl
  · exact Or.inl rfl
theorem bt_zero (a : Int) : bt 0 a = 0 := by
  unfold bt
  simp
/-- a set with one more member -/
theorem bt_or {D : Int32} {a b : Int} (h0 : 0 ≤ a) (h1 : a < 32) (h2 : 0 ≤ b) (h3 : b < 32) : bt (D ||| (1 <<< (iI a &&& 31))) b = if b = a then 1 else bt D b := by
  rw [iI_and31 h0 h1]
  have h : ∀ n : Nat, n < 32 → ∀ k : Nat, k < 32 → ((1 : Int32) <<< iI (n : Int)).toBitVec.getLsbD k = decide (k = n) := by decide +kernel
  have h9 := h a.toNat (by omega) b.toNat (by omega)
  rw [show ((a.toNat : Nat) : Int) = a by omega] at h9
  unfold bt
  rw [Int32.toBitVec_or, BitVec.getLsbD_or, h9]
  by_cases hb : b = a
  · subst hb; simp
  · have : ¬ b.toNat = a.toNat := by omega
    simp [hb, this]
theorem bt_and (D E : Int32) (a : Int) : bt (D &&& E) a = bt D a * bt E a := by
  unfold bt
  rw [Int32.toBitVec_and, BitVec.getLsbD_and]
  cases D.toBitVec.getLsbD a.toNat <;> cases E.toBitVec.getLsbD a.toNat <;> rfl
theorem bt_not {D : Int32} {a : Int} (h0 : 0 ≤ a) (h1 : a < 32) : bt (D ^^^ (-1)) a = 1 - bt D a := by
  have h : ∀ n : Nat, n < 32 → (-1 : Int32).toBitVec.getLsbD n = true := by decide +kernel
  unfold bt
  rw [Int32.toBitVec_xor, BitVec.getLsbD_xor, h a.toNat (by omega)]
  cases D.toBitVec.getLsbD a.toNat <;> rfl
/-! places of one kind -/
def isP (q : Nat) : Prop := SK[q]? = some (5, [some (q + 1), none]) ∧ SK[q + 1]? = some (13, List.replicate 7 none)
def isN (p : Nat) : Prop := SK[p]? = some (4, [none, none, none, none, none, some (p + 1), some (p + 2), some (p + 3), some (p + 4)]) ∧ SK[p + 1]? = some (13, List.replicate 16 none) ∧ SK[p + 2]? = some (13, List.replicate 16 none) ∧ SK[p + 3]? = some (13, List.replicate 16 none) ∧ SK[p + 4]? = some (13, List.replicate 16 none)
def isJ (q : Nat) : Prop := SK[q]? = some (2, [none, some (q + 1), some (q + 2), some (q + 3)]) ∧ SK[q + 1]? = some (13, List.replicate 21 none) ∧ SK[q + 2]? = some (13, List.replicate 21 none) ∧ SK[q + 3]? = some (13, List.replicate 21 none)
def isS (b : Nat) : Prop := SK[b]? = some (8, [some (b + 1), some (b + 6), some (b + 8), none, some (b + 21)]) ∧ isN (b + 1) ∧ isP (b + 6) ∧ SK[b + 8]? = some (14, [some (b + 9), some (b + 11), some (b + 13), some (b + 15), some (b + 17), some (b + 19)]) ∧ (isP (b + 9) ∧ isP (b + 11) ∧ isP (b + 13) ∧ isP (b + 15) ∧ isP (b + 17) ∧ isP (b + 19)) ∧ isJ (b + 21)
def basesS : List Nat := [1, 28, 53, 78, 103, 128, 153, 178, 203, 230]
theorem isS_a1 : ∀ b ∈ basesS, SK[b]? = some (8, [some (b + 1), some (b + 6), some (b + 8), none, some (b + 21)]) ∧ SK[b + 8]? = some (14, [some (b + 9), some (b + 11), some (b + 13), some (b + 15), some (b + 17), some (b + 19)]) := by decide +kernel
theorem isS_a2 : ∀ b ∈ basesS, isN (b + 1) := by unfold isN; decide +kernel
theorem isS_a3 : ∀ b ∈ basesS, ∀ i ∈ [6, 9, 11, 13, 15, 17, 19], isP (b + i) := by unfold isP; decide +kernel
theorem isS_a4 : ∀ b ∈ basesS, isJ (b + 21) := by unfold isJ; decide +kernel
theorem isS_all : ∀ b ∈ basesS, isS b := fun b hb => ⟨(isS_a1 b hb).1, isS_a2 b hb, isS_a3 b hb 6 (by decide), (isS_a1 b hb).2, ⟨isS_a3 b hb 9 (by decide), isS_a3 b hb 11 (by decide), isS_a3 b hb 13 (by decide), isS_a3 b hb 15 (by decide), isS_a3 b hb 17 (by decide), isS_a3 b hb 19 (by decide)⟩, isS_a4 b hb⟩
theorem isP_256 : isP 256 := by unfold isP; decide +kernel
theorem isP_261 : isP 261 := by unfold isP; decide +kernel
theorem isP_263 : isP 263 := by unfold isP; decide +kernel
section AC
variable {w : Wl} {m : Mm} {p q b : Nat} {z v : Int}
theorem P_has (h : isP q) : hasO (mem w m) q 5 = some () := hasO_mem h.1
theorem P_len (h : isP q) : gI (mem w m) q 5 1 = some (iI (m q 1)) := gI_mem h.1 rfl
theorem P_arr (h : isP q) : gP (mem w m) q 5 0 = some (q + 1) := gP_mem h.1 rfl
theorem P_put (h : isP q) : pF (mem w m) q 5 1 (.int (iI v)) = some (mem w (up m q 1 v)) := pF_mem h.1 rfl
theorem P_get (h : isP q) (h0 : 0 ≤ z) (h1 : z < 7) : aI (mem w m) (q + 1) 13 (iI z) = some (iI (m (q + 1) z)) := aI_mem h.2 h0 h1 (by decide)
theorem P_set (h : isP q) (h0 : 0 ≤ z) (h1 : z < 7) : aSet (mem w m) (q + 1) 13 (iI z) (.int (iI v)) = some (mem w (up m (q + 1) z v)) := aSet_mem h.2 h0 h1 (by decide)
theorem P_al (h : isP q) : aLen (mem w m) (q + 1) 13 = some (iI 7) := aLen_mem h.2 rfl
theorem N_has (h : isN p) : hasO (mem w m) p 4 = some () := hasO_mem h.1
theorem N_0 (h : isN p) : gI (mem w m) p 4 0 = some (iI (m p 0)) := gI_mem h.1 rfl
theorem N_1 (h : isN p) : gI (mem w m) p 4 1 = some (iI (m p 1)) := gI_mem h.1 rfl
theorem N_2 (h : isN p) : gI (mem w m) p 4 2 = some (iI (m p 2)) := gI_mem h.1 rfl
theorem N_3 (h : isN p) : gI (mem w m) p 4 3 = some (iI (m p 3)) := gI_mem h.1 rfl
theorem N_4 (h : isN p) : gI (mem w m) p 4 4 = some (iI (m p 4)) := gI_mem h.1 rfl
theorem N_5 (h : isN p) : gP (mem w m) p 4 5 = some (p + 1) := gP_mem h.1 rfl
theorem N_6 (h : isN p) : gP (mem w m) p 4 6 = some (p + 2) := gP_mem h.1 rfl
theorem N_7 (h : isN p) : gP (mem w m) p 4 7 = some (p + 3) := gP_mem h.1 rfl
theorem N_8 (h : isN p) : gP (mem w m) p 4 8 = some (p + 4) := gP_mem h.1 rfl
theorem N_p0 (h : isN p) : pF (mem w m) p 4 0 (.int (iI v)) = some (mem w (up m p 0 v)) := pF_mem h.1 rfl
theorem N_p1 (h : isN p) : pF (mem w m) p 4 1 (.int (iI v)) = some (mem w (up m p 1 v)) := pF_mem h.1 rfl
theorem N_p2 (h : isN p) : pF (mem w m) p 4 2 (.int (iI v)) = some (mem w (up m p 2 v)) := pF_mem h.1 rfl
theorem N_p3 (h : isN p) : pF (mem w m) p 4 3 (.int (iI v)) = some (mem w (up m p 3 v)) := pF_mem h.1 rfl
theorem N_p4 (h : isN p) : pF (mem w m) p 4 4 (.int (iI v)) = some (mem w (up m p 4 v)) := pF_mem h.1 rfl
theorem N_tl (h : isN p) (h0 : 0 ≤ z) (h1 : z < 16) : aI (mem w m) (p + 1) 13 (iI z) = some (iI (m (p + 1) z)) := aI_mem h.2.1 h0 h1 (by decide)
theorem N_hd (h : isN p) (h0 : 0 ≤ z) (h1 : z < 16) : aI (mem w m) (p + 2) 13 (iI z) = some (iI (m (p + 2) z)) := aI_mem h.2.2.1 h0 h1 (by decide)
theorem N_co (h : isN p) (h0 : 0 ≤ z) (h1 : z < 16) : aI (mem w m) (p + 3) 13 (iI z) = some (iI (m (p + 3) z)) := aI_mem h.2.2.2.1 h0 h1 (by decide)
theorem N_ex (h : isN p) (h0 : 0 ≤ z) (h1 : z < 16) : aI (mem w m) (p + 4) 13 (iI z) = some (iI (m (p + 4) z)) := aI_mem h.2.2.2.2 h0 h1 (by decide)
theorem N_stl (h : isN p) (h0 : 0 ≤ z) (h1 : z < 16) : aSet (mem w m) (p + 1) 13 (iI z) (.int (iI v)) = some (mem w (up m (p + 1) z v)) := aSet_mem h.2.1 h0 h1 (by decide)
theorem N_shd (h : isN p) (h0 : 0 ≤ z) (h1 : z < 16) : aSet (mem w m) (p + 2) 13 (iI z) (.int (iI v)) = some (mem w (up m (p + 2) z v)) := aSet_mem h.2.2.1 h0 h1 (by decide)
theorem N_sco (h : isN p) (h0 : 0 ≤ z) (h1 : z < 16) : aSet (mem w m) (p + 3) 13 (iI z) (.int (iI v)) = some (mem w (up m (p + 3) z v)) := aSet_mem h.2.2.2.1 h0 h1 (by decide)
theorem N_sex (h : isN p) (h0 : 0 ≤ z) (h1 : z < 16) : aSet (mem w m) (p + 4) 13 (iI z) (.int (iI v)) = some (mem w (up m (p + 4) z v)) := aSet_mem h.2.2.2.2 h0 h1 (by decide)
theorem J_has (h : isJ q) : hasO (mem w m) q 2 = some () := hasO_mem h.1
theorem J_0 (h : isJ q) : gI (mem w m) q 2 0 = some (iI (m q 0)) := gI_mem h.1 rfl
theorem J_p0 (h : isJ q) : pF (mem w m) q 2 0 (.int (iI v)) = some (mem w (up m q 0 v)) := pF_mem h.1 rfl
theorem J_1 (h : isJ q) : gP (mem w m) q 2 1 = some (q + 1) := gP_mem h.1 rfl
theorem J_2 (h : isJ q) : gP (mem w m) q 2 2 = some (q + 2) := gP_mem h.1 rfl
theorem J_3 (h : isJ q) : gP (mem w m) q 2 3 = some (q + 3) := gP_mem h.1 rfl
theorem J_g1 (h : isJ q) (h0 : 0 ≤ z) (h1 : z < 21) : aI (mem w m) (q + 1) 13 (iI z) = some (iI (m (q + 1) z)) := aI_mem h.2.1 h0 h1 (by decide)
theorem J_g2 (h : isJ q) (h0 : 0 ≤ z) (h1 : z < 21) : aI (mem w m) (q + 2) 13 (iI z) = some (iI (m (q + 2) z)) := aI_mem h.2.2.1 h0 h1 (by decide)
theorem J_g3 (h : isJ q) (h0 : 0 ≤ z) (h1 : z < 21) : aI (mem w m) (q + 3) 13 (iI z) = some (iI (m (q + 3) z)) := aI_mem h.2.2.2 h0 h1 (by decide)
theorem J_s1 (h : isJ q) (h0 : 0 ≤ z) (h1 : z < 21) : aSet (mem w m) (q + 1) 13 (iI z) (.int (iI v)) = some (mem w (up m (q + 1) z v)) := aSet_mem h.2.1 h0 h1 (by decide)
theorem J_s2 (h : isJ q) (h0 : 0 ≤ z) (h1 : z < 21) : aSet (mem w m) (q + 2) 13 (iI z) (.int (iI v)) = some (mem w (up m (q + 2) z v)) := aSet_mem h.2.2.1 h0 h1 (by decide)
theorem J_s3 (h : isJ q) (h0 : 0 ≤ z) (h1 : z < 21) : aSet (mem w m) (q + 3) 13 (iI z) (.int (iI v)) = some (mem w (up m (q + 3) z v)) := aSet_mem h.2.2.2 h0 h1 (by decide)
theorem S_has (h : isS b) : hasO (mem w m) b 8 = some () := hasO_mem h.1
theorem S_0 (h : isS b) : gP (mem w m) b 8 0 = some (b + 1) := gP_mem h.1 rfl
theorem S_1 (h : isS b) : gP (mem w m) b 8 1 = some (b + 6) := gP_mem h.1 rfl
theorem S_2 (h : isS b) : gP (mem w m) b 8 2 = some (b + 8) := gP_mem h.1 rfl
theorem S_3 (h : isS b) : gI (mem w m) b 8 3 = some (iI (m b 3)) := gI_mem h.1 rfl
theorem S_p3 (h : isS b) : pF (mem w m) b 8 3 (.int (iI v)) = some (mem w (up m b 3 v)) := pF_mem h.1 rfl
theorem S_4 (h : isS b) : gP (mem w m) b 8 4 = some (b + 21) := gP_mem h.1 rfl
/-- the told route i of a state -/
theorem S_told {i : Nat} (h : isS b) (hi : i < 6) : aP (mem w m) (b + 8) 14 (iI (i : Int)) = some (b + 9 + 2 * i) := by
  refine aP_mem h.2.2.2.1 (by omega) (by omega) ?_
  rw [Int.toNat_natCast]
  rcases (show i = 0 ∨ i = 1 ∨ i = 2 ∨ i = 3 ∨ i = 4 ∨ i = 5 by omega) with rfl | rfl | rfl | rfl | rfl | rfl <;> rfl
theorem S_P {i : Nat} (h : isS b) (hi : i < 6) : isP (b + 9 + 2 * i) := by
  obtain ⟨h0, h1, h2, h3, h4, h5⟩ := h.2.2.2.2.1
  rcases (show i = 0 ∨ i = 1 ∨ i = 2 ∨ i = 3 ∨ i = 4 ∨ i = 5 by omega) with rfl | rfl | rfl | rfl | rfl | rfl
  · exact h0
  · exact h1
  · exact h2
  · exact h3
  · exact h4
  · exact h5
end AC
