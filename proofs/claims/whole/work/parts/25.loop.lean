/-! the law -/
theorem df_10 (ρ : Nat → Nat) : ∀ j, j < 10 → defaultValue (tyX10 j) = vp_V (List.map (cv ρ) [.null, .null, .null, .null, .null, .null, .null, .null, .null, .int 0]) j := fun j hj => by
  rcases (show j = 0 ∨ j = 1 ∨ j = 2 ∨ j = 3 ∨ j = 4 ∨ j = 5 ∨ j = 6 ∨ j = 7 ∨ j = 8 ∨ j = 9 by omega) with rfl | rfl | rfl | rfl | rfl | rfl | rfl | rfl | rfl | rfl <;> rfl
theorem mw_X10_init : Cond.initialized (mN t_X10_init).cls ∈ TBg ∧ Cond.code (mN t_X10_init) (mB t_X10_init) (mL t_X10_init) (mR t_X10_init) ∈ TBg ∧ (mN t_X10_init).cls ≠ "java/lang/invoke/MethodHandle" ∧ (mN t_X10_init).cls ≠ "java/lang/invoke/VarHandle" ∧ (parseMethodDescriptor (mN t_X10_init).desc).map (fun d => d.parameters.length) = some 0 := ⟨TBg_of 49 (by decide +kernel) rfl, TBg_of 80 (by decide +kernel) rfl, show yX10_init.cls ≠ "java/lang/invoke/MethodHandle" by decide, show yX10_init.cls ≠ "java/lang/invoke/VarHandle" by decide, show (parseMethodDescriptor yX10_init.desc).map (fun d => d.parameters.length) = some 0 by decide +kernel⟩
theorem mi_X10_init : Cond.instanceMethod (mN t_X10_init) ∈ TBg := TBg_of 79 (show lw_tbl[79]? = some (Cond.instanceMethod yX10_init) by decide +kernel) rfl
theorem cl_L_117 : Cl RL 117 t_X10_init 0 := ⟨TBg_of 78 (show lw_tbl[78]? = some (Cond.methodLink RL 117 yX10_init) by decide +kernel) rfl, mw_X10_init.1, mw_X10_init.2.1, mw_X10_init.2.2.1, mw_X10_init.2.2.2.1, mw_X10_init.2.2.2.2⟩
theorem df_11 (ρ : Nat → Nat) : ∀ j, j < 28 → defaultValue (tyX11 j) = vp_V (List.map (cv ρ) [.null, .null, .null, .int 0, .int 0, .null, .int 0, .int 0, .int 0, .int 0, .int 0, .int 0, .int 0, .int 0, .int 0, .null, .int 0, .null, .null, .int 0, .int 0, .int 0, .int 0, .int 0, .null, .null, .null, .int 0]) j := fun j hj => by
  rcases (show j = 0 ∨ j = 1 ∨ j = 2 ∨ j = 3 ∨ j = 4 ∨ j = 5 ∨ j = 6 ∨ j = 7 ∨ j = 8 ∨ j = 9 ∨ j = 10 ∨ j = 11 ∨ j = 12 ∨ j = 13 ∨ j = 14 ∨ j = 15 ∨ j = 16 ∨ j = 17 ∨ j = 18 ∨ j = 19 ∨ j = 20 ∨ j = 21 ∨ j = 22 ∨ j = 23 ∨ j = 24 ∨ j = 25 ∨ j = 26 ∨ j = 27 by omega) with rfl | rfl | rfl | rfl | rfl | rfl | rfl | rfl | rfl | rfl | rfl | rfl | rfl | rfl | rfl | rfl | rfl | rfl | rfl | rfl | rfl | rfl | rfl | rfl | rfl | rfl | rfl | rfl <;> rfl
theorem mw_X11_init : Cond.initialized (mN t_X11_init).cls ∈ TBg ∧ Cond.code (mN t_X11_init) (mB t_X11_init) (mL t_X11_init) (mR t_X11_init) ∈ TBg ∧ (mN t_X11_init).cls ≠ "java/lang/invoke/MethodHandle" ∧ (mN t_X11_init).cls ≠ "java/lang/invoke/VarHandle" ∧ (parseMethodDescriptor (mN t_X11_init).desc).map (fun d => d.parameters.length) = some 0 := ⟨TBg_of 60 (by decide +kernel) rfl, TBg_of 1276 (by decide +kernel) rfl, show yX11_init.cls ≠ "java/lang/invoke/MethodHandle" by decide, show yX11_init.cls ≠ "java/lang/invoke/VarHandle" by decide, show (parseMethodDescriptor yX11_init.desc).map (fun d => d.parameters.length) = some 0 by decide +kernel⟩
theorem mi_X11_init : Cond.instanceMethod (mN t_X11_init) ∈ TBg := TBg_of 1275 (show lw_tbl[1275]? = some (Cond.instanceMethod yX11_init) by decide +kernel) rfl
theorem cl_L_120 : Cl RL 120 t_X11_init 0 := ⟨TBg_of 1274 (show lw_tbl[1274]? = some (Cond.methodLink RL 120 yX11_init) by decide +kernel) rfl, mw_X11_init.1, mw_X11_init.2.1, mw_X11_init.2.2.1, mw_X11_init.2.2.2.1, mw_X11_init.2.2.2.2⟩
def f_L_case (fu : Nat) (xs : List Int32) (a1 a2 a3 a4 : Nat) (x a5 : Int32) (M : List Ob) (k : List Ob → Option (Int32 × List Ob)) : Option (Int32 × List Ob) :=
  if x = 0 then g_0 fu xs a1 a2 a3 a4 a5 M k
  else if x = 1 then g_1 fu xs a1 a2 a3 a4 a5 M k
  else if x = 2 then g_2 fu xs a1 a2 a3 a4 a5 M k
  else if x = 3 then g_3 fu xs a1 a2 a3 a4 a5 M k
  else if x = 4 then g_4 fu xs a1 a2 a3 a4 a5 M k
  else if x = 5 then g_5 fu xs a1 a2 a3 a4 a5 M k
  else if x = 6 then g_6 fu xs a1 a2 a3 a4 a5 M k
  else if x = 7 then g_7 fu xs a1 a2 a3 a4 a5 M k
  else if x = 8 then g_8 fu xs a1 a2 a3 a4 a5 M k
  else if x = 9 then g_9 fu xs a1 a2 a3 a4 a5 M k
  else if x = 10 then g_10 fu xs a1 a2 a3 a4 a5 M k
  else if x = 11 then g_11 fu xs a1 a2 a3 a4 a5 M k
  else if x = 12 then g_12 fu xs a1 a2 a3 a4 a5 M k
  else if x = 13 then g_13 fu xs a1 a2 a3 a4 a5 M k
  else if x = 14 then g_14 fu xs a1 a2 a3 a4 a5 M k
  else if x = 15 then g_15 fu xs a1 a2 a3 a4 a5 M k
  else if x = 16 then g_16 fu xs a1 a2 a3 a4 a5 M k
  else if x = 17 then g_17 fu xs a1 a2 a3 a4 a5 M k
  else if x = 18 then g_18 fu xs a1 a2 a3 a4 a5 M k
  else if x = 19 then g_19 fu xs a1 a2 a3 a4 a5 M k
  else if x = 20 then g_20 fu xs a1 a2 a3 a4 a5 M k
  else if x = 21 then g_21 fu xs a1 a2 a3 a4 a5 M k
  else if x = 22 then g_22 fu xs a1 a2 a3 a4 a5 M k
  else if x = 23 then g_23 fu xs a1 a2 a3 a4 a5 M k
  else if x = 24 then g_24 fu xs a1 a2 a3 a4 a5 M k
  else if x = 25 then g_25 fu xs a1 a2 a3 a4 a5 M k
  else if x = 26 then g_26 fu xs a1 a2 a3 a4 a5 M k
  else if x = 27 then g_27 fu xs a1 a2 a3 a4 a5 M k
  else if x = 28 then g_28 fu xs a1 a2 a3 a4 a5 M k
  else if x = 29 then g_29 fu xs a1 a2 a3 a4 a5 M k
  else if x = 30 then g_30 fu xs a1 a2 a3 a4 a5 M k
  else if x = 31 then g_31 fu xs a1 a2 a3 a4 a5 M k
  else if x = 32 then g_32 fu xs a1 a2 a3 a4 a5 M k
  else if x = 33 then g_33 fu xs a1 a2 a3 a4 a5 M k
  else k M
def f_L_28 (fu : Nat) (xs : List Int32) (a1 a2 a3 a4 : Nat) : Nat → Int32 → List Ob → Option (Int32 × List Ob)
  | 0, _, _ => none
  | n + 1, i, M => if Int32.ofNat xs.length - 6 < i then some (1, M) else (sGet xs i).bind fun v => f_L_case fu xs a1 a2 a3 a4 (v &&& 63) i M (fun M => f_L_28 fu xs a1 a2 a3 a4 n (i + 6) M)
theorem ok_L_case {G : GT} (hz : gZ G = false) {fu : Nat} {xs : List Int32} (hX : gX G = xs) {a1 a2 a3 a4 : Nat} {a5 x : Int32} {M : List Ob} {kk nn : Nat} (hkk : kk + 8 ≤ 601024) (hnn : nn + 48 ≤ 7293033) {k : List Ob → Option (Int32 × List Ob)} {out : Int32 × List Ob} (hk : ∀ M, k M = some out → X G t_L_law [] 2157 [some (.ref 3000000), some (.ref a1), some (.ref a2), some (.ref a3), some (.ref a4), some (.int a5), none, none] [] M (kk + 4) (nn + 24) (oI out)) (h : f_L_case fu xs a1 a2 a3 a4 x a5 M k = some out) : X G t_L_law [] 45 [some (.ref 3000000), some (.ref a1), some (.ref a2), some (.ref a3), some (.ref a4), some (.int a5), none, none] [.int x] M kk nn (oI out) := by
  unfold f_L_case at h
  by_cases hc0 : x = 0
  · rw [if_pos hc0] at h
    exact X.tableIn (off := 151) (pc' := 196) dL_law_45 (by rw [hc0]; decide) (by rw [hc0]; decide) (by rw [hc0]; rfl) (by decide) (okg_0 hz hX hkk hnn hk h)
  rw [if_neg hc0] at h
  by_cases hc1 : x = 1
  · rw [if_pos hc1] at h
    exact X.tableIn (off := 255) (pc' := 300) dL_law_45 (by rw [hc1]; decide) (by rw [hc1]; decide) (by rw [hc1]; rfl) (by decide) (okg_1 hz hX hkk hnn hk h)
  rw [if_neg hc1] at h
  by_cases hc2 : x = 2
  · rw [if_pos hc2] at h
    exact X.tableIn (off := 311) (pc' := 356) dL_law_45 (by rw [hc2]; decide) (by rw [hc2]; decide) (by rw [hc2]; rfl) (by decide) (okg_2 hz hX hkk hnn hk h)
  rw [if_neg hc2] at h
  by_cases hc3 : x = 3
  · rw [if_pos hc3] at h
    exact X.tableIn (off := 324) (pc' := 369) dL_law_45 (by rw [hc3]; decide) (by rw [hc3]; decide) (by rw [hc3]; rfl) (by decide) (okg_3 hz hX hkk hnn hk h)
  rw [if_neg hc3] at h
  by_cases hc4 : x = 4
  · rw [if_pos hc4] at h
    exact X.tableIn (off := 380) (pc' := 425) dL_law_45 (by rw [hc4]; decide) (by rw [hc4]; decide) (by rw [hc4]; rfl) (by decide) (okg_4 hz hX hkk hnn hk h)
  rw [if_neg hc4] at h
  by_cases hc5 : x = 5
  · rw [if_pos hc5] at h
    exact X.tableIn (off := 448) (pc' := 493) dL_law_45 (by rw [hc5]; decide) (by rw [hc5]; decide) (by rw [hc5]; rfl) (by decide) (okg_5 hz hX hkk hnn hk h)
  rw [if_neg hc5] at h
  by_cases hc6 : x = 6
  · rw [if_pos hc6] at h
    exact X.tableIn (off := 540) (pc' := 585) dL_law_45 (by rw [hc6]; decide) (by rw [hc6]; decide) (by rw [hc6]; rfl) (by decide) (okg_6 hz hX hkk hnn hk h)
  rw [if_neg hc6] at h
  by_cases hc7 : x = 7
  · rw [if_pos hc7] at h
    exact X.tableIn (off := 596) (pc' := 641) dL_law_45 (by rw [hc7]; decide) (by rw [hc7]; decide) (by rw [hc7]; rfl) (by decide) (okg_7 hz hX hkk hnn hk h)
  rw [if_neg hc7] at h
  by_cases hc8 : x = 8
  · rw [if_pos hc8] at h
    exact X.tableIn (off := 676) (pc' := 721) dL_law_45 (by rw [hc8]; decide) (by rw [hc8]; decide) (by rw [hc8]; rfl) (by decide) (okg_8 hz hX hkk hnn hk h)
  rw [if_neg hc8] at h
  by_cases hc9 : x = 9
  · rw [if_pos hc9] at h
    exact X.tableIn (off := 732) (pc' := 777) dL_law_45 (by rw [hc9]; decide) (by rw [hc9]; decide) (by rw [hc9]; rfl) (by decide) (okg_9 hz hX hkk hnn hk h)
  rw [if_neg hc9] at h
  by_cases hc10 : x = 10
  · rw [if_pos hc10] at h
    exact X.tableIn (off := 788) (pc' := 833) dL_law_45 (by rw [hc10]; decide) (by rw [hc10]; decide) (by rw [hc10]; rfl) (by decide) (okg_10 hz hX hkk hnn hk h)
  rw [if_neg hc10] at h
  by_cases hc11 : x = 11
  · rw [if_pos hc11] at h
    exact X.tableIn (off := 832) (pc' := 877) dL_law_45 (by rw [hc11]; decide) (by rw [hc11]; decide) (by rw [hc11]; rfl) (by decide) (okg_11 hz hX hkk hnn hk h)
  rw [if_neg hc11] at h
  by_cases hc12 : x = 12
  · rw [if_pos hc12] at h
    exact X.tableIn (off := 845) (pc' := 890) dL_law_45 (by rw [hc12]; decide) (by rw [hc12]; decide) (by rw [hc12]; rfl) (by decide) (okg_12 hz hX hkk hnn hk h)
  rw [if_neg hc12] at h
  by_cases hc13 : x = 13
  · rw [if_pos hc13] at h
    exact X.tableIn (off := 889) (pc' := 934) dL_law_45 (by rw [hc13]; decide) (by rw [hc13]; decide) (by rw [hc13]; rfl) (by decide) (okg_13 hz hX hkk hnn hk h)
  rw [if_neg hc13] at h
  by_cases hc14 : x = 14
  · rw [if_pos hc14] at h
    exact X.tableIn (off := 945) (pc' := 990) dL_law_45 (by rw [hc14]; decide) (by rw [hc14]; decide) (by rw [hc14]; rfl) (by decide) (okg_14 hz hX hkk hnn hk h)
  rw [if_neg hc14] at h
  by_cases hc15 : x = 15
  · rw [if_pos hc15] at h
    exact X.tableIn (off := 1013) (pc' := 1058) dL_law_45 (by rw [hc15]; decide) (by rw [hc15]; decide) (by rw [hc15]; rfl) (by decide) (okg_15 hz hX hkk hnn hk h)
  rw [if_neg hc15] at h
  by_cases hc16 : x = 16
  · rw [if_pos hc16] at h
    exact X.tableIn (off := 1081) (pc' := 1126) dL_law_45 (by rw [hc16]; decide) (by rw [hc16]; decide) (by rw [hc16]; rfl) (by decide) (okg_16 hz hX hkk hnn hk h)
  rw [if_neg hc16] at h
  by_cases hc17 : x = 17
  · rw [if_pos hc17] at h
    exact X.tableIn (off := 1149) (pc' := 1194) dL_law_45 (by rw [hc17]; decide) (by rw [hc17]; decide) (by rw [hc17]; rfl) (by decide) (okg_17 hz hX hkk hnn hk h)
  rw [if_neg hc17] at h
  by_cases hc18 : x = 18
  · rw [if_pos hc18] at h
    exact X.tableIn (off := 1193) (pc' := 1238) dL_law_45 (by rw [hc18]; decide) (by rw [hc18]; decide) (by rw [hc18]; rfl) (by decide) (okg_18 hz hX hkk hnn hk h)
  rw [if_neg hc18] at h
  by_cases hc19 : x = 19
  · rw [if_pos hc19] at h
    exact X.tableIn (off := 1268) (pc' := 1313) dL_law_45 (by rw [hc19]; decide) (by rw [hc19]; decide) (by rw [hc19]; rfl) (by decide) (okg_19 hz hX hkk hnn hk h)
  rw [if_neg hc19] at h
  by_cases hc20 : x = 20
  · rw [if_pos hc20] at h
    exact X.tableIn (off := 1346) (pc' := 1391) dL_law_45 (by rw [hc20]; decide) (by rw [hc20]; decide) (by rw [hc20]; rfl) (by decide) (okg_20 hz hX hkk hnn hk h)
  rw [if_neg hc20] at h
  by_cases hc21 : x = 21
  · rw [if_pos hc21] at h
    exact X.tableIn (off := 1402) (pc' := 1447) dL_law_45 (by rw [hc21]; decide) (by rw [hc21]; decide) (by rw [hc21]; rfl) (by decide) (okg_21 hz hX hkk hnn hk h)
  rw [if_neg hc21] at h
  by_cases hc22 : x = 22
  · rw [if_pos hc22] at h
    exact X.tableIn (off := 1458) (pc' := 1503) dL_law_45 (by rw [hc22]; decide) (by rw [hc22]; decide) (by rw [hc22]; rfl) (by decide) (okg_22 hz hX hkk hnn hk h)
  rw [if_neg hc22] at h
  by_cases hc23 : x = 23
  · rw [if_pos hc23] at h
    exact X.tableIn (off := 1514) (pc' := 1559) dL_law_45 (by rw [hc23]; decide) (by rw [hc23]; decide) (by rw [hc23]; rfl) (by decide) (okg_23 hz hX hkk hnn hk h)
  rw [if_neg hc23] at h
  by_cases hc24 : x = 24
  · rw [if_pos hc24] at h
    exact X.tableIn (off := 1598) (pc' := 1643) dL_law_45 (by rw [hc24]; decide) (by rw [hc24]; decide) (by rw [hc24]; rfl) (by decide) (okg_24 hz hX hkk hnn hk h)
  rw [if_neg hc24] at h
  by_cases hc25 : x = 25
  · rw [if_pos hc25] at h
    exact X.tableIn (off := 1623) (pc' := 1668) dL_law_45 (by rw [hc25]; decide) (by rw [hc25]; decide) (by rw [hc25]; rfl) (by decide) (okg_25 hz hX hkk hnn hk h)
  rw [if_neg hc25] at h
  by_cases hc26 : x = 26
  · rw [if_pos hc26] at h
    exact X.tableIn (off := 1691) (pc' := 1736) dL_law_45 (by rw [hc26]; decide) (by rw [hc26]; decide) (by rw [hc26]; rfl) (by decide) (okg_26 hz hX hkk hnn hk h)
  rw [if_neg hc26] at h
  by_cases hc27 : x = 27
  · rw [if_pos hc27] at h
    exact X.tableIn (off := 1759) (pc' := 1804) dL_law_45 (by rw [hc27]; decide) (by rw [hc27]; decide) (by rw [hc27]; rfl) (by decide) (okg_27 hz hX hkk hnn hk h)
  rw [if_neg hc27] at h
  by_cases hc28 : x = 28
  · rw [if_pos hc28] at h
    exact X.tableIn (off := 1843) (pc' := 1888) dL_law_45 (by rw [hc28]; decide) (by rw [hc28]; decide) (by rw [hc28]; rfl) (by decide) (okg_28 hz hX hkk hnn hk h)
  rw [if_neg hc28] at h
  by_cases hc29 : x = 29
  · rw [if_pos hc29] at h
    exact X.tableIn (off := 1856) (pc' := 1901) dL_law_45 (by rw [hc29]; decide) (by rw [hc29]; decide) (by rw [hc29]; rfl) (by decide) (okg_29 hz hX hkk hnn hk h)
  rw [if_neg hc29] at h
  by_cases hc30 : x = 30
  · rw [if_pos hc30] at h
    exact X.tableIn (off := 1900) (pc' := 1945) dL_law_45 (by rw [hc30]; decide) (by rw [hc30]; decide) (by rw [hc30]; rfl) (by decide) (okg_30 hz hX hkk hnn hk h)
  rw [if_neg hc30] at h
  by_cases hc31 : x = 31
  · rw [if_pos hc31] at h
    exact X.tableIn (off := 1956) (pc' := 2001) dL_law_45 (by rw [hc31]; decide) (by rw [hc31]; decide) (by rw [hc31]; rfl) (by decide) (okg_31 hz hX hkk hnn hk h)
  rw [if_neg hc31] at h
  by_cases hc32 : x = 32
  · rw [if_pos hc32] at h
    exact X.tableIn (off := 2012) (pc' := 2057) dL_law_45 (by rw [hc32]; decide) (by rw [hc32]; decide) (by rw [hc32]; rfl) (by decide) (okg_32 hz hX hkk hnn hk h)
  rw [if_neg hc32] at h
  by_cases hc33 : x = 33
  · rw [if_pos hc33] at h
    exact X.tableIn (off := 2068) (pc' := 2113) dL_law_45 (by rw [hc33]; decide) (by rw [hc33]; decide) (by rw [hc33]; rfl) (by decide) (okg_33 hz hX hkk hnn hk h)
  rw [if_neg hc33] at h
  refine X.tableOut (pc' := 2157) dL_law_45 (sw_out (n := 33) (by decide) (fun j hj => match j, hj with | 0, _ => hc0 | 1, _ => hc1 | 2, _ => hc2 | 3, _ => hc3 | 4, _ => hc4 | 5, _ => hc5 | 6, _ => hc6 | 7, _ => hc7 | 8, _ => hc8 | 9, _ => hc9 | 10, _ => hc10 | 11, _ => hc11 | 12, _ => hc12 | 13, _ => hc13 | 14, _ => hc14 | 15, _ => hc15 | 16, _ => hc16 | 17, _ => hc17 | 18, _ => hc18 | 19, _ => hc19 | 20, _ => hc20 | 21, _ => hc21 | 22, _ => hc22 | 23, _ => hc23 | 24, _ => hc24 | 25, _ => hc25 | 26, _ => hc26 | 27, _ => hc27 | 28, _ => hc28 | 29, _ => hc29 | 30, _ => hc30 | 31, _ => hc31 | 32, _ => hc32 | 33, _ => hc33 | j + 34, hj => absurd hj (by omega))) (by decide) ?_
  exact X.widen (by omega) (by omega) (hk _ h)
theorem ok_L_28 {G : GT} (hz : gZ G = false) {fu : Nat} {xs : List Int32} (hX : gX G = xs) (hl : xs.length ≤ 3072) {a1 a2 a3 a4 : Nat} {out : Int32 × List Ob} (h01 : out.1 &&& 1 = out.1) : ∀ (n : Nat) (i : Int32) (j : Nat) (M : List Ob) (kk nn : Nat), f_L_28 fu xs a1 a2 a3 a4 n i M = some out → i.toInt = 6 * (j : Int) → j ≤ 512 → kk ≤ 1000 + 4 * j → nn ≤ 10000 + 24 * j → X G t_L_law [] 28 [some (.ref 3000000), some (.ref a1), some (.ref a2), some (.ref a3), some (.ref a4), some (.int i), none, none] [] M kk nn (oI out) := by
  intro n
  induction n with
  | zero =>
    intro i j M kk nn h
    unfold f_L_28 at h
    cases h
  | succ n ih =>
    intro i j M kk nn h hi hj9 hk1 hn1
    unfold f_L_28 at h
    have hlen : (Int32.ofNat xs.length - 6).toInt = (xs.length : Int) - 6 := by
      rw [Int32.toInt_sub, Int32.toInt_ofNat_of_lt (by omega), show (6 : Int32).toInt = 6 from rfl]
      exact Int.bmod_eq_of_le (by omega) (by omega)
    refine X.iload (x := i) (pc' := 30) dL_law_28 rfl rfl ?_
    refine X.aload_n (x := 3000000) (pc' := 31) dL_law_30 rfl rfl rfl ?_
    refine X.slen (pc' := 32) dL_law_31 rfl ?_
    rw [hX]
    refine X.bipush (v := 6) (pc' := 34) dL_law_32 rfl (by decide) ?_
    refine X.isub (pc' := 35) dL_law_34 rfl ?_
    refine X.icmp_gt (tgt := 2163) (pc' := 38) dL_law_35 (by decide) rfl (fun hc => ?_) (fun hc => ?_)
    · rw [if_pos hc] at h
      cases h
      refine X.iconst (v := 1) (pc' := 2164) dL_law_2163 rfl (by decide) ?_
      exact X.iret (ty := .boolean) dL_law_2164 rfl rfl (by show kk ≤ 601024; omega) (by show nn ≤ 7293033; omega) rfl
    · rw [if_neg hc] at h
      have hle : i.toInt ≤ (xs.length : Int) - 6 := by
        rw [← hlen]
        exact Int.not_lt.mp (fun q => hc (Int32.lt_iff_toInt_lt.mpr q))
      obtain ⟨v, hv, h⟩ := bindE h
      refine X.aload_n (x := 3000000) (pc' := 39) dL_law_38 rfl rfl rfl ?_
      refine X.iload (x := i) (pc' := 41) dL_law_39 rfl rfl ?_
      refine X.sld (pc' := 42) dL_law_41 rfl (by rw [hX]; exact hv) ?_
      refine X.bipush (v := 63) (pc' := 44) dL_law_42 rfl (by decide) ?_
      refine X.iand (pc' := 45) dL_law_44 rfl ?_
      refine ok_L_case hz hX (by omega) (by omega) (fun M h => ?_) h
      refine X.iinc (v := (i + 6)) (L' := [some (.ref 3000000), some (.ref a1), some (.ref a2), some (.ref a3), some (.ref a4), some (.int (i + 6)), none, none]) (pc' := 2160) dL_law_2157 rfl rfl (congrArg (fun y => i + y) (show Int32.ofInt 6 = 6 by decide)) (Nat.le_of_ble_eq_true rfl) rfl ?_
      refine X.goto (pc' := 28) dL_law_2160 (by decide) ?_
      refine ih (i + 6) (j + 1) M (kk + 4) (nn + 24) h ?_ (by omega) (by omega) (by omega)
      rw [Int32.toInt_add, hi, show (6 : Int32).toInt = 6 from rfl, Int.bmod_eq_of_le (by omega) (by omega)]
      omega
def f_L_law (fu : Nat) (xs : List Int32) : Option (Int32 × List Ob) :=
  bd2 (newO [] (10, [.null, .null, .null, .null, .null, .null, .null, .null, .null, .int 0])) fun r1 M2 =>
  bd2 (f_X10_init fu r1 M2) fun _ M5 =>
  bd2 (newO M5 (11, [.null, .null, .null, .int 0, .int 0, .null, .int 0, .int 0, .int 0, .int 0, .int 0, .int 0, .int 0, .int 0, .int 0, .null, .int 0, .null, .null, .int 0, .int 0, .int 0, .int 0, .int 0, .null, .null, .null, .int 0])) fun r8 M9 =>
  bd2 (f_X11_init fu r8 M9) fun _ M12 =>
  bd2 (newO M12 (17, List.replicate 1 (.long 0))) fun r15 M16 =>
  bd2 (newO M16 (18, List.replicate 1 (.double 0))) fun r18 M19 =>
  f_L_28 fu xs r1 r8 r15 r18 600 0 M19
set_option maxHeartbeats 4000000 in
theorem ok_L_law {G : GT} (hR : Row G) (hF : gF G = false) {fu : Nat} {xs : List Int32} (hX : gX G = xs) (hl : xs.length ≤ 3072) {M9 : List Ob} (h : f_L_law fu xs = some (1, M9)) : X G t_L_law [] 0 [some (.ref 3000000), none, none, none, none, none, none, none] [] [] 0 0 (oI (1, M9)) := by
  unfold f_L_law at h
  obtain ⟨r1, M2, e3, h⟩ := bd2E h
  refine X.newo (ci := 10) (r := (RX10, TX10, 10)) (fs := [.null, .null, .null, .null, .null, .null, .null, .null, .null, .int 0]) (pc' := 3) dL_law_0 rfl rfl (TBg_of 76 (by decide +kernel) rfl) (TBg_of 77 (by decide +kernel) rfl) (TBg_of 49 (by decide +kernel) rfl) tyX10 tyX10_ok (df_10 _) hR (Nat.le_of_ble_eq_true rfl) (Nat.le_of_ble_eq_true rfl) e3 ?_
  show X G t_L_law [] 3 [some (.ref 3000000), none, none, none, none, none, none, none] [.ref r1] M2 1 10 _
  refine X.dup (pc' := 4) dL_law_3 rfl rfl ?_
  obtain ⟨r4, M5, e6, h⟩ := bd2E h
  refine X.callI (b := r1) (As := []) (st := [.ref r1]) (M' := M5) (pc' := 7) dL_law_4 rfl cl_L_117 rfl rfl mi_X10_init ⟨⟨Nat.le_of_ble_eq_true rfl, Nat.le_of_ble_eq_true rfl⟩, Nat.le_of_ble_eq_true rfl, Nat.le_of_ble_eq_true rfl⟩ rfl (Nat.le_of_ble_eq_true rfl) (ok_X10_init (G := zs G) (hR := hR) e6) ?_
  show X G t_L_law [] 7 [some (.ref 3000000), none, none, none, none, none, none, none] [.ref r1] M5 283 2964 _
  refine X.astore_n (L' := [some (.ref 3000000), some (.ref r1), none, none, none, none, none, none]) (pc' := 8) dL_law_7 rfl rfl (Nat.le_of_ble_eq_true rfl) rfl ?_
  obtain ⟨r8, M9, e10, h⟩ := bd2E h
  refine X.newo (ci := 11) (r := (RX11, TX11, 28)) (fs := [.null, .null, .null, .int 0, .int 0, .null, .int 0, .int 0, .int 0, .int 0, .int 0, .int 0, .int 0, .int 0, .int 0, .null, .int 0, .null, .null, .int 0, .int 0, .int 0, .int 0, .int 0, .null, .null, .null, .int 0]) (pc' := 11) dL_law_8 rfl rfl (TBg_of 1272 (by decide +kernel) rfl) (TBg_of 1273 (by decide +kernel) rfl) (TBg_of 60 (by decide +kernel) rfl) tyX11 tyX11_ok (df_11 _) hR (Nat.le_of_ble_eq_true rfl) (Nat.le_of_ble_eq_true rfl) e10 ?_
  show X G t_L_law [] 11 [some (.ref 3000000), some (.ref r1), none, none, none, none, none, none] [.ref r8] M9 284 2992 _
  refine X.dup (pc' := 12) dL_law_11 rfl rfl ?_
  obtain ⟨r11, M12, e13, h⟩ := bd2E h
  refine X.callI (b := r8) (As := []) (st := [.ref r8]) (M' := M12) (pc' := 15) dL_law_12 rfl cl_L_120 rfl rfl mi_X11_init ⟨⟨Nat.le_of_ble_eq_true rfl, Nat.le_of_ble_eq_true rfl⟩, Nat.le_of_ble_eq_true rfl, Nat.le_of_ble_eq_true rfl⟩ rfl (Nat.le_of_ble_eq_true rfl) (ok_X11_init (G := zs G) (hR := hR) e13) ?_
  show X G t_L_law [] 15 [some (.ref 3000000), some (.ref r1), none, none, none, none, none, none] [.ref r8] M12 294 5248 _
  refine X.astore_n (L' := [some (.ref 3000000), some (.ref r1), some (.ref r8), none, none, none, none, none]) (pc' := 16) dL_law_15 rfl rfl (Nat.le_of_ble_eq_true rfl) rfl ?_
  refine X.iconst (v := 1) (pc' := 17) dL_law_16 rfl (by decide) ?_
  obtain ⟨r15, M16, e17, h⟩ := bd2E h
  refine X.newi (kd := 17) (N := 1) (dv := .long 0) (pc' := 19) dL_law_17 rfl (Or.inr (Or.inr (Or.inl ⟨rfl, rfl, rfl⟩))) (TBg_of 1708 (by decide +kernel) rfl) (by decide) (by decide) (Nat.le_of_ble_eq_true rfl) hR (Nat.le_of_ble_eq_true rfl) (Nat.le_of_ble_eq_true rfl) e17 ?_
  show X G t_L_law [] 19 [some (.ref 3000000), some (.ref r1), some (.ref r8), none, none, none, none, none] [.ref r15] M16 295 5249 _
  refine X.astore_n (L' := [some (.ref 3000000), some (.ref r1), some (.ref r8), some (.ref r15), none, none, none, none]) (pc' := 20) dL_law_19 rfl rfl (Nat.le_of_ble_eq_true rfl) rfl ?_
  refine X.iconst (v := 1) (pc' := 21) dL_law_20 rfl (by decide) ?_
  obtain ⟨r18, M19, e20, h⟩ := bd2E h
  refine X.newi (kd := 18) (N := 1) (dv := .double 0) (pc' := 23) dL_law_21 rfl (Or.inr (Or.inr (Or.inr ⟨rfl, rfl, rfl⟩))) (TBg_of 1709 (by decide +kernel) rfl) (by decide) (by decide) (Nat.le_of_ble_eq_true rfl) hR (Nat.le_of_ble_eq_true rfl) (Nat.le_of_ble_eq_true rfl) e20 ?_
  show X G t_L_law [] 23 [some (.ref 3000000), some (.ref r1), some (.ref r8), some (.ref r15), none, none, none, none] [.ref r18] M19 296 5250 _
  refine X.astore (L' := [some (.ref 3000000), some (.ref r1), some (.ref r8), some (.ref r15), some (.ref r18), none, none, none]) (pc' := 25) dL_law_23 rfl (Nat.le_of_ble_eq_true rfl) rfl ?_
  refine X.iconst (v := 0) (pc' := 26) dL_law_25 rfl (by decide) ?_
  refine X.istore (L' := [some (.ref 3000000), some (.ref r1), some (.ref r8), some (.ref r15), some (.ref r18), some (.int 0), none, none]) (pc' := 28) dL_law_26 rfl (Nat.le_of_ble_eq_true rfl) rfl ?_
  exact X.unz hF (ok_L_28 (G := uz G) rfl hX hl (show (1 : Int32) &&& 1 = 1 by decide) 600 0 0 M19 296 5250 h (by decide) (by decide) (by decide) (by decide))
