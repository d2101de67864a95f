section AP
variable {w : Wl} {m m' m1 : Mm} {z v : Int} {fu : Nat} {x : Sg} {H : List Sg} {B : List Int}
/-- the byte of a word at a shift -/
def by8 (v : Int32) (s : Int) : Int := ((v >>> (iI s &&& 31)) &&& 255).toInt
theorem a255 (u : Int32) : (u &&& 255).toInt = u.toInt % 256 := by
  have h1 : (u &&& 255).toInt = BitVec.toInt (u.toBitVec &&& 255#32) := rfl
  have h2 : u.toInt = BitVec.toInt u.toBitVec := rfl
  have h3 : (u.toBitVec &&& 255#32).toNat = u.toBitVec.toNat % 256 := by
    rw [BitVec.toNat_and, show (255#32).toNat = 2 ^ 8 - 1 from rfl, Nat.and_two_pow_sub_one_eq_mod]
  have h4 := u.toBitVec.isLt
  rw [h1, h2, BitVec.toInt_eq_toNat_cond, BitVec.toInt_eq_toNat_cond, h3]
  split <;> split <;> omega
theorem by8_lt (v : Int32) (s : Int) : 0 ≤ by8 v s ∧ by8 v s < 256 := by
  unfold by8
  rw [a255]
  omega
theorem by8_iI (v : Int32) (s : Int) : (v >>> (iI s &&& 31)) &&& 255 = iI (by8 v s) := (iI_toInt _).symm
theorem sg8 (u : Int32) : u.toInt8.toInt32 = iI (sg (u &&& 255).toInt) := by
  apply Int32.toInt_inj.mp
  have h : 0 ≤ (u &&& 255).toInt ∧ (u &&& 255).toInt < 256 := by rw [a255]; omega
  have hs : -128 ≤ sg (u &&& 255).toInt ∧ sg (u &&& 255).toInt < 128 := by unfold sg; split <;> omega
  rw [Int8.toInt_toInt32, Int32.toInt_toInt8, iI_int (by omega) (by omega), a255]
  unfold sg
  rw [Int.bmod_def]
  split <;> split <;> omega
theorem b88 (v : Int32) (s : Int) : ((((v >>> (iI s &&& 31)) : Int32).toInt8.toInt32) : Int32).toInt8.toInt32 = iI (sg (by8 v s)) := by
  rw [Int8.toInt8_toInt32, sg8]; rfl
def by4 (v : Int32) : List Int := [by8 v 24, by8 v 16, by8 v 8, by8 v 0]
def by20 (v1 v2 v3 v4 v5 : Int32) : List Int := by4 v1 ++ (by4 v2 ++ (by4 v3 ++ (by4 v4 ++ by4 v5)))
theorem by20_len (v1 v2 v3 v4 v5 : Int32) : (by20 v1 v2 v3 v4 v5).length = 20 := rfl
theorem snoc_get {B : List Int} {b b' : Int} {j : Nat} (h : (B ++ [b])[j]? = some b') : B[j]? = some b' ∨ (j = B.length ∧ b' = b) := by
  by_cases c : j < B.length
  · rw [List.getElem?_append_left c] at h; exact Or.inl h
  · rw [List.getElem?_append_right (by omega)] at h
    have hj := (List.getElem?_eq_some_iff.mp h).1
    simp at hj
    have : j = B.length := by omega
    subst this
    simp at h
    exact Or.inr ⟨rfl, h.symm⟩
def aS (m m' : Mm) : Prop := (∀ p, p ≠ 228 → p ≠ 229 → m' p = m p) ∧ ∀ k, k ≠ 1 → m' 228 k = m 228 k
theorem aS.trans {m1 m2 m3 : Mm} (a : aS m1 m2) (b : aS m2 m3) : aS m1 m3 := ⟨fun p h g => (b.1 p h g).trans (a.1 p h g), fun k h => (b.2 k h).trans (a.2 k h)⟩
theorem BC_snoc {b : Int} (h : BC m B) (hb : 0 ≤ b ∧ b < 256) (hl : B.length < 600) : BC (up (up m 229 B.length (sg b)) 228 1 (B.length + 1)) (B ++ [b]) ∧ aS m (up (up m 229 B.length (sg b)) 228 1 (B.length + 1)) := by
  obtain ⟨h1, h2, h3⟩ := h
  refine ⟨⟨by rw [up_at]; simp, by simp; omega, fun j b' hj => ?_⟩, fun p a c => by rw [up_ne a, up_ne c], fun k a => by rw [up_off a, up_ne (by decide)]⟩
  rcases snoc_get hj with hj | ⟨rfl, rfl⟩
  · have hj' := (List.getElem?_eq_some_iff.mp hj).1
    obtain ⟨q1, q2, q3⟩ := h3 j b' hj
    exact ⟨q1, q2, by rw [up_ne (by decide), up_off (by omega)]; exact q3⟩
  · exact ⟨hb.1, hb.2, by rw [up_ne (by decide), up_at]⟩
theorem addB_1 {n : Nat} {s : Int} (hn : 0 < n) (v : Int32) (hB : BC m B) (hl : B.length < 600) (h0 : 0 ≤ s) (h1 : s ≤ 24) : ∃ m', f_X9_addBytes_3 fu n 228 v (iI s) (mem w m) = f_X9_addBytes_3 fu (n - 1) 228 v (iI (s + -8)) (mem w m') ∧ BC m' (B ++ [by8 v s]) ∧ aS m m' := by
  obtain ⟨n, rfl⟩ : ∃ k, n = k + 1 := ⟨n - 1, by omega⟩
  obtain ⟨q1, q2⟩ := BC_snoc hB (by8_lt v s) hl
  rw [f_X9_addBytes_3, f_X9_addBytes_3b]
  simp (disch := omega) only [n_69, n_50, n_13, Option.bind_some, bd2_some, bdX_ok, bdX_er, nm_eq, n_0, n_1, n_2, n_3, n_4, n_5, n_6, n_7, n_8, n_9, n_10, n_11, n_12, n_14, n_15, n_16, n_17, n_18, n_19, n_20, n_21, n_24, n_27, n_28, n_32, n_43, n_45, n_48, n_56, n_57, n_59, n_64, n_70, n_97, n_99, n_100, n_104, n_118, n_122, n_126, n_127, n_128, n_129, n_130, n_150, n_255, n_600, n_1000, n_1050, n_1200, n_999999, n_1000000, iI_neg, iI_add, iI_sub, iI_mul, ile, ilt, ieq, G9_0, G9_1, hB.1, b88, Tx_s]
  rw [if_neg (by omega), if_neg (by omega)]
  have e1 : (up m 229 B.length (sg (by8 v s))) 228 1 = B.length := by rw [up_ne (by decide)]; exact hB.1
  simp (disch := omega) only [n_69, n_50, n_13, Option.bind_some, bd2_some, bdX_ok, bdX_er, nm_eq, n_0, n_1, n_2, n_3, n_4, n_5, n_6, n_7, n_8, n_9, n_10, n_11, n_12, n_14, n_15, n_16, n_17, n_18, n_19, n_20, n_21, n_24, n_27, n_28, n_32, n_43, n_45, n_48, n_56, n_57, n_59, n_64, n_70, n_97, n_99, n_100, n_104, n_118, n_122, n_126, n_127, n_128, n_129, n_130, n_150, n_255, n_600, n_1000, n_1050, n_1200, n_999999, n_1000000, iI_neg, iI_add, iI_sub, iI_mul, ile, ilt, ieq, G9_1, U9_1, e1]
  unfold f_X9_addBytes_40
  simp (disch := omega) only [n_69, n_50, n_13, Option.bind_some, bd2_some, bdX_ok, bdX_er, nm_eq, n_0, n_1, n_2, n_3, n_4, n_5, n_6, n_7, n_8, n_9, n_10, n_11, n_12, n_14, n_15, n_16, n_17, n_18, n_19, n_20, n_21, n_24, n_27, n_28, n_32, n_43, n_45, n_48, n_56, n_57, n_59, n_64, n_70, n_97, n_99, n_100, n_104, n_118, n_122, n_126, n_127, n_128, n_129, n_130, n_150, n_255, n_600, n_1000, n_1050, n_1200, n_999999, n_1000000, iI_neg, iI_add, iI_sub, iI_mul, ile, ilt, ieq]
  exact ⟨_, rfl, q1, q2⟩
theorem addB_0 {n : Nat} {s : Int} (hn : 0 < n) (v : Int32) (h0 : -8 ≤ s) (h1 : s < 0) : f_X9_addBytes_3 fu n 228 v (iI s) (mem w m) = some ((), mem w m) := by
  obtain ⟨n, rfl⟩ : ∃ k, n = k + 1 := ⟨n - 1, by omega⟩
  rw [f_X9_addBytes_3, f_X9_addBytes_3b]
  simp (disch := omega) only [n_69, n_50, n_13, Option.bind_some, bd2_some, bdX_ok, bdX_er, nm_eq, n_0, n_1, n_2, n_3, n_4, n_5, n_6, n_7, n_8, n_9, n_10, n_11, n_12, n_14, n_15, n_16, n_17, n_18, n_19, n_20, n_21, n_24, n_27, n_28, n_32, n_43, n_45, n_48, n_56, n_57, n_59, n_64, n_70, n_97, n_99, n_100, n_104, n_118, n_122, n_126, n_127, n_128, n_129, n_130, n_150, n_255, n_600, n_1000, n_1050, n_1200, n_999999, n_1000000, iI_neg, iI_add, iI_sub, iI_mul, ile, ilt, ieq]
  rw [if_pos (by omega)]
theorem addBytes_eq (hfu : 100 ≤ fu) (v : Int32) (hB : BC m B) (hl : B.length + 4 ≤ 600) : ∃ m', f_X9_addBytes fu 228 v (mem w m) = some ((), mem w m') ∧ BC m' (B ++ by4 v) ∧ aS m m' := by
  obtain ⟨m1, p1, p2, p3⟩ := addB_1 (w := w) (fu := fu) (n := fu) (s := 24) (by omega) v hB (by omega) (by omega) (by omega)
  obtain ⟨m2, q1, q2, q3⟩ := addB_1 (w := w) (fu := fu) (n := fu - 1) (s := 24 + -8) (by omega) v p2 (by simp; omega) (by omega) (by omega)
  obtain ⟨m3, r1, r2, r3⟩ := addB_1 (w := w) (fu := fu) (n := fu - 1 - 1) (s := 24 + -8 + -8) (by omega) v q2 (by simp; omega) (by omega) (by omega)
  obtain ⟨m4, s1, s2, s3⟩ := addB_1 (w := w) (fu := fu) (n := fu - 1 - 1 - 1) (s := 24 + -8 + -8 + -8) (by omega) v r2 (by simp; omega) (by omega) (by omega)
  refine ⟨m4, ?_, ?_, ((p3.trans q3).trans r3).trans s3⟩
  · unfold f_X9_addBytes
    rw [n_24, p1, q1, r1, s1]
    exact addB_0 (by omega) v (by omega) (by omega)
  · have e : B ++ by4 v = (((B ++ [by8 v 24]) ++ [by8 v (24 + -8)]) ++ [by8 v (24 + -8 + -8)]) ++ [by8 v (24 + -8 + -8 + -8)] := by simp [by4]
    rw [e]; exact s2
theorem by4_len (v : Int32) : (by4 v).length = 4 := rfl
theorem append_eq (hfu : 100 ≤ fu) (hB : BC m B) (v1 v2 v3 v4 v5 : Int32) : (B.length + 20 ≤ 600 → ∃ m', f_X10_append fu 0 v1 v2 v3 v4 v5 (mem w m) = some (.ok (iI (B.length + 20)), mem w m') ∧ BC m' (B ++ by20 v1 v2 v3 v4 v5) ∧ aS m m') ∧ (¬ B.length + 20 ≤ 600 → f_X10_append fu 0 v1 v2 v3 v4 v5 (mem w m) = some (.error eIS, mem w m)) := by
  have h600 := hB.2.1
  refine ⟨fun hy => ?_, fun hn => ?_⟩
  · obtain ⟨m1, p1, p2, p3⟩ := addBytes_eq (w := w) hfu v1 hB (by omega)
    obtain ⟨m2, q1, q2, q3⟩ := addBytes_eq (w := w) hfu v2 p2 (by simp [by4_len]; omega)
    obtain ⟨m3, r1, r2, r3⟩ := addBytes_eq (w := w) hfu v3 q2 (by simp [by4_len]; omega)
    obtain ⟨m4, s1, s2, s3⟩ := addBytes_eq (w := w) hfu v4 r2 (by simp [by4_len]; omega)
    obtain ⟨m5, t1, t2, t3⟩ := addBytes_eq (w := w) hfu v5 s2 (by simp [by4_len]; omega)
    have e : B ++ by20 v1 v2 v3 v4 v5 = ((((B ++ by4 v1) ++ by4 v2) ++ by4 v3) ++ by4 v4) ++ by4 v5 := by simp [by20]
    have e5 : m5 228 1 = B.length + 20 := by rw [t2.1]; simp [by4_len]
    refine ⟨m5, ?_, by rw [e]; exact t2, (((p3.trans q3).trans r3).trans s3).trans t3⟩
    unfold f_X10_append
    simp (disch := omega) only [n_69, n_50, n_13, Option.bind_some, bd2_some, bdX_ok, bdX_er, nm_eq, n_0, n_1, n_2, n_3, n_4, n_5, n_6, n_7, n_8, n_9, n_10, n_11, n_12, n_14, n_15, n_16, n_17, n_18, n_19, n_20, n_21, n_24, n_27, n_28, n_32, n_43, n_45, n_48, n_56, n_57, n_59, n_64, n_70, n_97, n_99, n_100, n_104, n_118, n_122, n_126, n_127, n_128, n_129, n_130, n_150, n_255, n_600, n_1000, n_1050, n_1200, n_999999, n_1000000, iI_neg, iI_add, iI_sub, iI_mul, ile, ilt, ieq, G10_2, G9_1, hB.1]
    rw [if_pos (by omega)]
    simp (disch := omega) only [n_69, n_50, n_13, Option.bind_some, bd2_some, bdX_ok, bdX_er, nm_eq, n_0, n_1, n_2, n_3, n_4, n_5, n_6, n_7, n_8, n_9, n_10, n_11, n_12, n_14, n_15, n_16, n_17, n_18, n_19, n_20, n_21, n_24, n_27, n_28, n_32, n_43, n_45, n_48, n_56, n_57, n_59, n_64, n_70, n_97, n_99, n_100, n_104, n_118, n_122, n_126, n_127, n_128, n_129, n_130, n_150, n_255, n_600, n_1000, n_1050, n_1200, n_999999, n_1000000, iI_neg, iI_add, iI_sub, iI_mul, ile, ilt, ieq, G10_2, H9, p1, q1, r1, s1, t1, G9_1, e5]
  · unfold f_X10_append
    simp (disch := omega) only [n_69, n_50, n_13, Option.bind_some, bd2_some, bdX_ok, bdX_er, nm_eq, n_0, n_1, n_2, n_3, n_4, n_5, n_6, n_7, n_8, n_9, n_10, n_11, n_12, n_14, n_15, n_16, n_17, n_18, n_19, n_20, n_21, n_24, n_27, n_28, n_32, n_43, n_45, n_48, n_56, n_57, n_59, n_64, n_70, n_97, n_99, n_100, n_104, n_118, n_122, n_126, n_127, n_128, n_129, n_130, n_150, n_255, n_600, n_1000, n_1050, n_1200, n_999999, n_1000000, iI_neg, iI_add, iI_sub, iI_mul, ile, ilt, ieq, G10_2, G9_1, hB.1]
    rw [if_neg (by omega)]
def lR6 (m m' : Mm) : Prop := (∀ p, p ≠ 283 → p ≠ 287 → m' p = m p) ∧ ∀ k, k ≠ 6 → m' 283 k = m 283 k
theorem lR6.trans {m1 m2 m3 : Mm} (a : lR6 m1 m2) (b : lR6 m2 m3) : lR6 m1 m3 := ⟨fun p h g => (b.1 p h g).trans (a.1 p h g), fun k h => (b.2 k h).trans (a.2 k h)⟩
def lR4 (m m' : Mm) : Prop := (∀ p, p ≠ 283 → p ≠ 287 → m' p = m p) ∧ ∀ k, k ≠ 4 → k ≠ 6 → m' 283 k = m 283 k
theorem BF_snoc {b : Int} (h : BF m B) (hb : 0 ≤ b ∧ b < 256) (hl : B.length < 600) : BF (up (up m 287 B.length b) 283 6 (B.length + 1)) (B ++ [b]) ∧ lR6 m (up (up m 287 B.length b) 283 6 (B.length + 1)) := by
  obtain ⟨h1, h2, h3⟩ := h
  refine ⟨⟨by rw [up_at]; simp, by simp; omega, fun j b' hj => ?_⟩, fun p a c => by rw [up_ne a, up_ne c], fun k a => by rw [up_off a, up_ne (by decide)]⟩
  rcases snoc_get hj with hj | ⟨rfl, rfl⟩
  · have hj' := (List.getElem?_eq_some_iff.mp hj).1
    obtain ⟨q1, q2, q3⟩ := h3 j b' hj
    exact ⟨q1, q2, by rw [up_ne (by decide), up_off (by omega)]; exact q3⟩
  · exact ⟨hb.1, hb.2, by rw [up_ne (by decide), up_at]⟩
def pick5 (v1 v2 v3 v4 v5 : Int32) (k : Nat) : Int32 := if k < 4 then v1 else if k < 8 then v2 else if k < 12 then v3 else if k < 16 then v4 else v5
theorem sh4 : ∀ k : Nat, k < 20 → 24 - (8 * (iI k - iI k / 4 * 4)) = iI (24 - 8 * ((k : Int) % 4)) := by decide +kernel
theorem Bf_s (h0 : 0 ≤ z) (h1 : z < 600) : aSet (mem w m) 287 13 (iI z) (.int (iI v)) = some (mem w (up m 287 z v)) := aSet_mem (show SK[287]? = some (13, List.replicate 600 none) from by decide +kernel) h0 h1 (by decide)
theorem app_1 {n : Nat} {K : Nat → List Ob → Option (Int32 × List Ob)} {v1 v2 v3 v4 v5 : Int32} {k : Nat} (hn : 0 < n) (hk : k < 20) (hB : BF m B) (hl : B.length < 600) : ∃ m', f_X11_append_34 fu K n 283 v1 v2 v3 v4 v5 (iI k) (mem w m) = f_X11_append_34 fu K (n - 1) 283 v1 v2 v3 v4 v5 (iI (k + 1)) (mem w m') ∧ BF m' (B ++ [by8 (pick5 v1 v2 v3 v4 v5 k) (24 - 8 * ((k : Int) % 4))]) ∧ lR6 m m' := by
  obtain ⟨n, rfl⟩ : ∃ k, n = k + 1 := ⟨n - 1, by omega⟩
  have one : ∀ u : Int32, ∃ m', f_X11_append_87 fu 283 v1 v2 v3 v4 v5 (iI k) u (mem w m) (fun a0 a1 a2 a3 a4 a5 a6 M => f_X11_append_34 fu K n a0 a1 a2 a3 a4 a5 a6 M) K = f_X11_append_34 fu K n 283 v1 v2 v3 v4 v5 (iI (k + 1)) (mem w m') ∧ BF m' (B ++ [by8 u (24 - 8 * ((k : Int) % 4))]) ∧ lR6 m m' := by
    intro u
    obtain ⟨q1, q2⟩ := BF_snoc hB (by8_lt u (24 - 8 * ((k : Int) % 4))) hl
    unfold f_X11_append_87
    rw [sh4 k hk, by8_iI]
    have e1 : (up m 287 B.length (by8 u (24 - 8 * ((k : Int) % 4)))) 283 6 = B.length := by rw [up_ne (by decide)]; exact hB.1
    simp (disch := omega) only [n_69, n_50, n_13, Option.bind_some, bd2_some, bdX_ok, bdX_er, nm_eq, n_0, n_1, n_2, n_3, n_4, n_5, n_6, n_7, n_8, n_9, n_10, n_11, n_12, n_14, n_15, n_16, n_17, n_18, n_19, n_20, n_21, n_24, n_27, n_28, n_32, n_43, n_45, n_48, n_56, n_57, n_59, n_64, n_70, n_97, n_99, n_100, n_104, n_118, n_122, n_126, n_127, n_128, n_129, n_130, n_150, n_255, n_600, n_1000, n_1050, n_1200, n_999999, n_1000000, iI_neg, iI_add, iI_sub, iI_mul, ile, ilt, ieq, Z_5, Z_6, hB.1, Bf_s, Y_6, e1]
    exact ⟨_, rfl, q1, q2⟩
  rw [f_X11_append_34, f_X11_append_34b, Nat.add_sub_cancel]
  unfold pick5
  simp (disch := omega) only [n_69, n_50, n_13, Option.bind_some, bd2_some, bdX_ok, bdX_er, nm_eq, n_0, n_1, n_2, n_3, n_4, n_5, n_6, n_7, n_8, n_9, n_10, n_11, n_12, n_14, n_15, n_16, n_17, n_18, n_19, n_20, n_21, n_24, n_27, n_28, n_32, n_43, n_45, n_48, n_56, n_57, n_59, n_64, n_70, n_97, n_99, n_100, n_104, n_118, n_122, n_126, n_127, n_128, n_129, n_130, n_150, n_255, n_600, n_1000, n_1050, n_1200, n_999999, n_1000000, iI_neg, iI_add, iI_sub, iI_mul, ile, ilt, ieq]
  rw [if_neg (by omega)]
  by_cases c1 : k < 4
  · rw [if_neg (by omega), if_pos c1]; exact one v1
  · rw [if_pos (by omega), if_neg c1]
    by_cases c2 : k < 8
    · rw [if_neg (by omega), if_pos c2]; exact one v2
    · rw [if_pos (by omega), if_neg c2]
      by_cases c3 : k < 12
      · rw [if_neg (by omega), if_pos c3]; exact one v3
      · rw [if_pos (by omega), if_neg c3]
        by_cases c4 : k < 16
        · rw [if_neg (by omega), if_pos c4]; exact one v4
        · rw [if_pos (by omega), if_neg c4]; exact one v5
def by20k (v1 v2 v3 v4 v5 : Int32) : Nat → Nat → List Int
  | 0, _ => []
  | d + 1, k => by8 (pick5 v1 v2 v3 v4 v5 k) (24 - 8 * ((k : Int) % 4)) :: by20k v1 v2 v3 v4 v5 d (k + 1)
theorem by20k_len {v1 v2 v3 v4 v5 : Int32} : ∀ d k, (by20k v1 v2 v3 v4 v5 d k).length = d
  | 0, _ => rfl
  | d + 1, k => by rw [by20k, List.length_cons, by20k_len d]
theorem by20k_all {v1 v2 v3 v4 v5 : Int32} : by20k v1 v2 v3 v4 v5 20 0 = by20 v1 v2 v3 v4 v5 := rfl
theorem app_go {K : Nat → List Ob → Option (Int32 × List Ob)} {v1 v2 v3 v4 v5 : Int32} : ∀ (d n k : Nat) (m : Mm) (B : List Int), k + d = 20 → d < n → BF m B → B.length + d ≤ 600 → ∃ m', f_X11_append_34 fu K n 283 v1 v2 v3 v4 v5 (iI k) (mem w m) = K 283 (mem w m') ∧ BF m' (B ++ by20k v1 v2 v3 v4 v5 d k) ∧ lR6 m m' := by
  intro d
  induction d with
  | zero =>
    intro n k m B h1 h2 hB hl
    obtain ⟨n, rfl⟩ : ∃ k, n = k + 1 := ⟨n - 1, by omega⟩
    rw [f_X11_append_34, f_X11_append_34b]
    simp (disch := omega) only [n_69, n_50, n_13, Option.bind_some, bd2_some, bdX_ok, bdX_er, nm_eq, n_0, n_1, n_2, n_3, n_4, n_5, n_6, n_7, n_8, n_9, n_10, n_11, n_12, n_14, n_15, n_16, n_17, n_18, n_19, n_20, n_21, n_24, n_27, n_28, n_32, n_43, n_45, n_48, n_56, n_57, n_59, n_64, n_70, n_97, n_99, n_100, n_104, n_118, n_122, n_126, n_127, n_128, n_129, n_130, n_150, n_255, n_600, n_1000, n_1050, n_1200, n_999999, n_1000000, iI_neg, iI_add, iI_sub, iI_mul, ile, ilt, ieq]
    rw [if_pos (by omega)]
    exact ⟨m, rfl, by rw [by20k, List.append_nil]; exact hB, fun _ _ _ => rfl, fun _ _ => rfl⟩
  | succ d ih =>
    intro n k m B h1 h2 hB hl
    obtain ⟨m1, p1, p2, p3⟩ := app_1 (w := w) (fu := fu) (n := n) (k := k) (K := K) (v1 := v1) (v2 := v2) (v3 := v3) (v4 := v4) (v5 := v5) (by omega) (by omega) hB (by omega)
    obtain ⟨m2, q1, q2, q3⟩ := ih (n - 1) (k + 1) m1 _ (by omega) (by omega) p2 (by simp; omega)
    rw [p1, show ((k : Int) + 1) = ((k + 1 : Nat) : Int) from by omega, q1]
    refine ⟨m2, rfl, ?_, p3.trans q3⟩
    rw [List.append_assoc] at q2
    exact q2
theorem appendR_eq (hfu : 100 ≤ fu) (hB : BF m B) (v1 v2 v3 v4 v5 : Int32) : (B.length + 20 ≤ 600 → ∃ m', f_X11_append fu 283 v1 v2 v3 v4 v5 (mem w m) = some (iI (B.length + 20), mem w m') ∧ m' 283 4 = 0 ∧ BF m' (B ++ by20 v1 v2 v3 v4 v5) ∧ lR4 m m') ∧ (¬ B.length + 20 ≤ 600 → f_X11_append fu 283 v1 v2 v3 v4 v5 (mem w m) = some (iI 0, mem w (up m 283 4 1))) := by
  have h600 := hB.2.1
  refine ⟨fun hy => ?_, fun hn => ?_⟩
  · have hB1 : BF (up m 283 4 0) B := ⟨by rw [up_off (by decide)]; exact hB.1, hB.2.1, fun j b hj => by rw [up_ne (by decide)]; exact hB.2.2 j b hj⟩
    obtain ⟨m1, p1, p2, p3⟩ := app_go (w := w) (fu := fu) (K := fun x5 M6 => f_X11_append_131 fu x5 M6) (v1 := v1) (v2 := v2) (v3 := v3) (v4 := v4) (v5 := v5) 20 fu 0 (up m 283 4 0) B (by omega) (by omega) hB1 (by omega)
    have e5 : m1 283 6 = B.length + 20 := by rw [p2.1]; simp [by20k_len]
    refine ⟨m1, ?_, by rw [p3.2 4 (by decide), up_at], by rw [by20k_all] at p2; exact p2, fun p a b => by rw [p3.1 p a b, up_ne a], fun k a b => by rw [p3.2 k b, up_off a]⟩
    unfold f_X11_append
    simp (disch := omega) only [n_69, n_50, n_13, Option.bind_some, bd2_some, bdX_ok, bdX_er, nm_eq, n_0, n_1, n_2, n_3, n_4, n_5, n_6, n_7, n_8, n_9, n_10, n_11, n_12, n_14, n_15, n_16, n_17, n_18, n_19, n_20, n_21, n_24, n_27, n_28, n_32, n_43, n_45, n_48, n_56, n_57, n_59, n_64, n_70, n_97, n_99, n_100, n_104, n_118, n_122, n_126, n_127, n_128, n_129, n_130, n_150, n_255, n_600, n_1000, n_1050, n_1200, n_999999, n_1000000, iI_neg, iI_add, iI_sub, iI_mul, ile, ilt, ieq, Z_6, hB.1]
    rw [if_pos (by omega)]
    unfold f_X11_append_19
    simp (disch := omega) only [n_69, n_50, n_13, Option.bind_some, bd2_some, bdX_ok, bdX_er, nm_eq, n_0, n_1, n_2, n_3, n_4, n_5, n_6, n_7, n_8, n_9, n_10, n_11, n_12, n_14, n_15, n_16, n_17, n_18, n_19, n_20, n_21, n_24, n_27, n_28, n_32, n_43, n_45, n_48, n_56, n_57, n_59, n_64, n_70, n_97, n_99, n_100, n_104, n_118, n_122, n_126, n_127, n_128, n_129, n_130, n_150, n_255, n_600, n_1000, n_1050, n_1200, n_999999, n_1000000, iI_neg, iI_add, iI_sub, iI_mul, ile, ilt, ieq, Y_4, Z_4, up_at]
    rw [if_pos (by first | exact trivial | omega | decide), show iI 0 = iI ((0 : Nat) : Int) from rfl, p1]
    unfold f_X11_append_131
    simp (disch := omega) only [n_69, n_50, n_13, Option.bind_some, bd2_some, bdX_ok, bdX_er, nm_eq, n_0, n_1, n_2, n_3, n_4, n_5, n_6, n_7, n_8, n_9, n_10, n_11, n_12, n_14, n_15, n_16, n_17, n_18, n_19, n_20, n_21, n_24, n_27, n_28, n_32, n_43, n_45, n_48, n_56, n_57, n_59, n_64, n_70, n_97, n_99, n_100, n_104, n_118, n_122, n_126, n_127, n_128, n_129, n_130, n_150, n_255, n_600, n_1000, n_1050, n_1200, n_999999, n_1000000, iI_neg, iI_add, iI_sub, iI_mul, ile, ilt, ieq, Z_6, e5]
  · unfold f_X11_append
    simp (disch := omega) only [n_69, n_50, n_13, Option.bind_some, bd2_some, bdX_ok, bdX_er, nm_eq, n_0, n_1, n_2, n_3, n_4, n_5, n_6, n_7, n_8, n_9, n_10, n_11, n_12, n_14, n_15, n_16, n_17, n_18, n_19, n_20, n_21, n_24, n_27, n_28, n_32, n_43, n_45, n_48, n_56, n_57, n_59, n_64, n_70, n_97, n_99, n_100, n_104, n_118, n_122, n_126, n_127, n_128, n_129, n_130, n_150, n_255, n_600, n_1000, n_1050, n_1200, n_999999, n_1000000, iI_neg, iI_add, iI_sub, iI_mul, ile, ilt, ieq, Z_6, hB.1]
    rw [if_neg (by omega)]
    unfold f_X11_append_19
    simp (disch := omega) only [n_69, n_50, n_13, Option.bind_some, bd2_some, bdX_ok, bdX_er, nm_eq, n_0, n_1, n_2, n_3, n_4, n_5, n_6, n_7, n_8, n_9, n_10, n_11, n_12, n_14, n_15, n_16, n_17, n_18, n_19, n_20, n_21, n_24, n_27, n_28, n_32, n_43, n_45, n_48, n_56, n_57, n_59, n_64, n_70, n_97, n_99, n_100, n_104, n_118, n_122, n_126, n_127, n_128, n_129, n_130, n_150, n_255, n_600, n_1000, n_1050, n_1200, n_999999, n_1000000, iI_neg, iI_add, iI_sub, iI_mul, ile, ilt, ieq, Y_4, Z_4, up_at]
    rw [if_neg (by first | exact not_false | omega | decide)]
theorem errPos_eq : f_X10_errorPosition fu 0 (mem w m) = some (iI (m 228 5), mem w m) := by
  unfold f_X10_errorPosition
  simp (disch := omega) only [n_69, n_50, n_13, Option.bind_some, bd2_some, bdX_ok, bdX_er, nm_eq, n_0, n_1, n_2, n_3, n_4, n_5, n_6, n_7, n_8, n_9, n_10, n_11, n_12, n_14, n_15, n_16, n_17, n_18, n_19, n_20, n_21, n_24, n_27, n_28, n_32, n_43, n_45, n_48, n_56, n_57, n_59, n_64, n_70, n_97, n_99, n_100, n_104, n_118, n_122, n_126, n_127, n_128, n_129, n_130, n_150, n_255, n_600, n_1000, n_1050, n_1200, n_999999, n_1000000, iI_neg, iI_add, iI_sub, iI_mul, ile, ilt, ieq, G10_2, G9_5]
end AP
