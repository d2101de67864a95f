section ST
variable {w : Wl} {m m' m1 : Mm} {z v a : Int} {fu : Nat} {x : Sg} {H : List Sg} {B : List Int}
theorem fd_nn (a b : Int32) (h : b ≠ 0) : FP.fIsNaN (FP.fdiv (FP.i2f a) (FP.i2f b)) = false := FP.Core.fdiv_out ((FP.Core.notNaN_iff32 _).mpr (FP.Core.i2f_fin a).ne_nan) (FP.Core.i2f_fin b) (fun hz => FP.Core.i2f_ne_zero h ((FP.Core.zero_bits232 _).mp hz))
theorem nn32 {a : UInt32} (h : FP.fIsNaN a = false) : a &&& 0x7fffffff ≤ 0x7f800000 := by
  have h1 := (FP.Core.ne_nan32 a).mp ((FP.Core.notNaN_iff32 a).mp h)
  rw [UInt32.le_iff_toNat_le, UInt32.toNat_and, show (0x7fffffff : UInt32).toNat = 2 ^ 31 - 1 from rfl, Nat.and_two_pow_sub_one_eq_mod]
  exact h1
theorem nn64 {a : UInt64} (h : FP.dIsNaN a = false) : a &&& 0x7fffffffffffffff ≤ 0x7ff0000000000000 := by
  have h1 := (FP.Core.ne_nan a).mp ((FP.Core.notNaN_iff a).mp h)
  rw [UInt64.le_iff_toNat_le, UInt64.toNat_and, show (0x7fffffffffffffff : UInt64).toNat = 2 ^ 63 - 1 from rfl, Nat.and_two_pow_sub_one_eq_mod]
  exact h1
def stn (N : Nt) (l : List Int) : UInt32 := if cst N l (iI 0) = 0 then FP.fconst1 else FP.fdiv (FP.i2f (iI (wst N l))) (FP.i2f (iI (cst N l (iI 0))))
theorem stn_nn {N : Nt} {l : List Int} (h : 0 ≤ cst N l (iI 0) ∧ cst N l (iI 0) ≤ 1386) : FP.fIsNaN (stn N l) = false := by
  unfold stn
  by_cases c : cst N l (iI 0) = 0
  · rw [if_pos c]; decide +kernel
  · rw [if_neg c]
    refine fd_nn _ _ (fun e => c ?_)
    exact (iI_eq (by omega) (by omega) (by omega) (by omega)).mp (e.trans n_0)
theorem stn_d {N : Nt} {l : List Int} (h : 0 ≤ cst N l (iI 0) ∧ cst N l (iI 0) ≤ 1386) : FP.f2d (stn N l) &&& 0x7fffffffffffffff ≤ 0x7ff0000000000000 ∧ Op.cmpValue (FP.dcmp (FP.f2d (stn N l)) (FP.f2d (stn N l))) .l = 0 := by
  have h1 : FP.dIsNaN (FP.f2d (stn N l)) = false := by rw [FP.f2d_nan]; exact stn_nn h
  refine ⟨nn64 h1, ?_⟩
  have h2 : FP.dcmp (FP.f2d (stn N l)) (FP.f2d (stn N l)) = some .eq := FP.Core.dcmp_self ((FP.Core.notNaN_iff _).mp h1)
  rw [h2]; rfl
theorem cst_1386 (hC : CI m x H) (hG : WG x) (c1 : 0 ≤ a ∧ a < (sR x).length) : 0 ≤ cst (sN x) (lR x a) (iI 0) ∧ cst (sN x) (lR x a) (iI 0) ≤ 1386 := by
  obtain ⟨l, t1, t2, t3, t4⟩ := tR (w := (0, 0)) hC c1.1 c1.2
  rw [lR_of t1]
  exact AOK_len hG.1 t3 (hG.pk l t2).1
theorem strain_eq (hfu : 1000 ≤ fu) (hC : CI m x H) (hG : WG x) (ha : i32 a) : f_X10_strain fu 0 (iI a) (mem w m) = some (if 0 ≤ a ∧ a < (sR x).length then .ok (stn (sN x) (lR x a)) else .error eIO, mem w m) := by
  have hS := hC.1.1
  have hN := hC.1.2.1
  unfold f_X10_strain
  rw [H10, Option.bind_some, reqRoute_eq hC ha]
  by_cases c1 : 0 ≤ a ∧ a < (sR x).length
  · have h13 := cst_1386 hC hG c1
    obtain ⟨l, t1, t2, t3, t4⟩ := tR (w := w) hC c1.1 c1.2
    have hl := hG.pk l t2
    have hnn := stn_nn h13
    rw [lR_of t1] at h13 hnn
    rw [if_pos c1, if_pos c1, bdX_ok, lR_of t1]
    simp (disch := omega) only [n_69, n_50, n_13, Option.bind_some, bd2_some, bdX_ok, bdX_er, nm_eq, n_0, n_1, n_2, n_3, n_4, n_5, n_6, n_7, n_8, n_9, n_10, n_11, n_12, n_14, n_15, n_16, n_17, n_18, n_19, n_20, n_21, n_24, n_27, n_28, n_32, n_43, n_45, n_48, n_56, n_57, n_59, n_64, n_70, n_97, n_99, n_100, n_104, n_118, n_122, n_126, n_127, n_128, n_129, n_130, n_150, n_255, n_600, n_1000, n_1050, n_1200, n_999999, n_1000000, iI_neg, iI_add, iI_sub, iI_mul, ile, ilt, ieq, G10_0, S_0 hS, S_2 hS, K_has hN, K_0 hN, K_1 hN, K_2 hN, K_3 hN, K_4 hN, K_5 hN, K_6 hN, K_7 hN, K_8 hN, K_tl hN, K_hd hN, K_co hN, K_ex hN, t4, costAgainst_eq (w := w) (D := iI 0) (show 100 ≤ fu by omega) hN t3 hl.1, worstOf_eq (w := w) (show 100 ≤ fu by omega) hN t3 hl.1]
    unfold stn at hnn ⊢
    by_cases c : cst (sN x) l (iI 0) = 0
    · rw [if_pos c, if_pos c]
    · rw [if_neg c] at hnn ⊢
      rw [if_neg c, if_pos (nn32 hnn)]
  · rw [if_neg c1, if_neg c1, bdX_er]
theorem strainR_eq (hfu : 100 ≤ fu) (hC : CI m1 x H) (h : RI m x H) (hG : WG x) (ha : i32 a) : ∃ m' r, f_X11_strain fu 283 (iI a) (mem w m) = some (r, mem w m') ∧ (0 ≤ a ∧ a < (sR x).length → r = stn (sN x) (lR x a)) ∧ m' 283 4 = (if 0 ≤ a ∧ a < (sR x).length then 0 else 1) ∧ cS m m' ∧ RI m' x H := by
  have hT := h.1.2.1
  have h6 := hT.2.1
  have v1 := ha
  unfold i32 at v1
  unfold f_X11_strain f_X11_strain_14
  simp (disch := omega) only [n_69, n_50, n_13, Option.bind_some, bd2_some, bdX_ok, bdX_er, nm_eq, n_0, n_1, n_2, n_3, n_4, n_5, n_6, n_7, n_8, n_9, n_10, n_11, n_12, n_14, n_15, n_16, n_17, n_18, n_19, n_20, n_21, n_24, n_27, n_28, n_32, n_43, n_45, n_48, n_56, n_57, n_59, n_64, n_70, n_97, n_99, n_100, n_104, n_118, n_122, n_126, n_127, n_128, n_129, n_130, n_150, n_255, n_600, n_1000, n_1050, n_1200, n_999999, n_1000000, iI_neg, iI_add, iI_sub, iI_mul, ile, ilt, ieq, Z_has, Z_0, Z_1, Z_2, Z_5, Z_15, Z_17, Z_18, Z_24, Z_25, Z_26, Z_3, Z_4, Z_6, Z_7, Z_8, Z_9, Z_10, Z_11, Z_12, Z_13, Z_14, Z_16, Z_19, Z_20, Z_21, Z_22, Z_23, Z_27, Y_3, Y_4, Y_6, Y_7, Y_8, Y_9, Y_10, Y_11, Y_12, Y_13, Y_14, Y_16, Y_19, Y_20, Y_21, Y_22, Y_23, Y_27, A_g, A_s, up_at, up_ne, up_off, isToldR_eq hT ha]
  by_cases c1 : 0 ≤ a ∧ a < (sR x).length
  · rw [show inB a 0 (((sR x).length : Int) - 1) = 1 from if_pos (by omega)]
    rw [if_neg (by first | exact not_false | omega | decide)]
    have h1 : RI (up m 283 4 0) x H := h.thr
    have hr := hG.rt _ (lR_at c1.1 c1.2).2
    have h13 := cst_1386 hC hG c1
    have hnn := stn_nn h13
    simp (disch := omega) only [n_69, n_50, n_13, Option.bind_some, bd2_some, bdX_ok, bdX_er, nm_eq, n_0, n_1, n_2, n_3, n_4, n_5, n_6, n_7, n_8, n_9, n_10, n_11, n_12, n_14, n_15, n_16, n_17, n_18, n_19, n_20, n_21, n_24, n_27, n_28, n_32, n_43, n_45, n_48, n_56, n_57, n_59, n_64, n_70, n_97, n_99, n_100, n_104, n_118, n_122, n_126, n_127, n_128, n_129, n_130, n_150, n_255, n_600, n_1000, n_1050, n_1200, n_999999, n_1000000, iI_neg, iI_add, iI_sub, iI_mul, ile, ilt, ieq, Z_has, Z_0, Z_1, Z_2, Z_5, Z_15, Z_17, Z_18, Z_24, Z_25, Z_26, Z_3, Z_4, Z_6, Z_7, Z_8, Z_9, Z_10, Z_11, Z_12, Z_13, Z_14, Z_16, Z_19, Z_20, Z_21, Z_22, Z_23, Z_27, Y_3, Y_4, Y_6, Y_7, Y_8, Y_9, Y_10, Y_11, Y_12, Y_13, Y_14, Y_16, Y_19, Y_20, Y_21, Y_22, Y_23, Y_27, A_g, A_s, up_at, up_ne, up_off, toldArcs_eq (w := w) (fu := fu) hfu (show 0 ≤ a ∧ a < 6 by omega) (rowR h1.1.2.1 c1.1 c1.2), costOf_eq (w := w) (D := iI 0) hfu h1.1.1 (hr.pk h1.1.1.1), wstR_eq (w := w) hfu h1.1.1 (hr.pk h1.1.1.1)]
    rw [if_pos (by first | exact trivial | omega | decide)]
    unfold stn at hnn ⊢
    by_cases c : cst (sN x) (lR x a) (iI 0) = 0
    · rw [if_pos c]
      exact ⟨_, _, rfl, fun _ => by rw [if_pos c], by rw [up_at, if_pos c1], cS_f (by omega), h1⟩
    · rw [if_neg c] at hnn
      rw [if_neg c, if_pos (nn32 hnn)]
      exact ⟨_, _, rfl, fun _ => by rw [if_neg c], by rw [up_at, if_pos c1], cS_f (by omega), h1⟩
  · rw [show inB a 0 (((sR x).length : Int) - 1) = 0 from if_neg (by omega)]
    rw [if_pos (by first | exact trivial | omega | decide), if_neg (by first | exact not_false | omega | decide)]
    exact ⟨_, _, rfl, fun e => absurd e c1, by rw [up_at, if_neg c1], cS_f (by omega), h.thr⟩
end ST
