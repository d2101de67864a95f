def f_X10_init (fu : Nat) (a0 : Nat) (M : List Ob) : Option (Unit × List Ob) :=
  bd2 (newO M (8, [.null, .null, .null, .int 0, .null])) fun r1 M2 =>
  bd2 (f_X8_init fu r1 M2) fun _ M5 =>
  (pF M5 a0 10 0 (.ref r1)).bind fun M8 =>
  (gP M8 a0 10 0).bind fun r10 =>
  (hasO M8 r10 8).bind fun _ =>
  bd2 (f_X8_begin fu r10 2 0 1 M8) fun _ M13 =>
  bd2 (newO M13 (1, [.null, .int 0, .int 0])) fun r16 M17 =>
  bd2 (f_X1_init fu r16 M17) fun _ M20 =>
  (pF M20 a0 10 1 (.ref r16)).bind fun M23 =>
  bd2 (newO M23 (9, [.null, .int 0, .int 0, .int 0, .int 0, .int 0])) fun r25 M26 =>
  bd2 (f_X9_init fu r25 M26) fun _ M29 =>
  (pF M29 a0 10 2 (.ref r25)).bind fun M32 =>
  bd2 (newO M32 (8, [.null, .null, .null, .int 0, .null])) fun r34 M35 =>
  bd2 (f_X8_init fu r34 M35) fun _ M38 =>
  (pF M38 a0 10 3 (.ref r34)).bind fun M41 =>
  bd2 (newO M41 (7, [.null, .null])) fun r43 M44 =>
  (gP M44 a0 10 0).bind fun r46 =>
  (gP M44 r46 8 0).bind fun r48 =>
  bd2 (f_X7_init fu r43 r48 M44) fun _ M51 =>
  (pF M51 a0 10 4 (.ref r43)).bind fun M54 =>
  bd2 (newO M54 (3, [.null, .null, .null, .int 0, .int 0])) fun r56 M57 =>
  (gP M57 a0 10 0).bind fun r59 =>
  bd2 (f_X3_init fu r56 r59 M57) fun _ M62 =>
  (pF M62 a0 10 5 (.ref r56)).bind fun M65 =>
  bd2 (newO M65 (6, [.null, .null, .null, .null, .null, .int 0, .int 0, .int 0, .int 0, .int 0])) fun r67 M68 =>
  (gP M68 a0 10 0).bind fun r70 =>
  (gP M68 r70 8 0).bind fun r72 =>
  (gP M68 a0 10 4).bind fun r74 =>
  (gP M68 a0 10 5).bind fun r76 =>
  bd2 (f_X6_init fu r67 r72 r74 r76 M68) fun _ M79 =>
  (pF M79 a0 10 6 (.ref r67)).bind fun M82 =>
  bd2 (newO M82 (0, [.null, .null, .null, .int 0])) fun r84 M85 =>
  (gP M85 a0 10 0).bind fun r87 =>
  (gP M85 r87 8 0).bind fun r89 =>
  bd2 (f_X0_init fu r84 r89 M85) fun _ M92 =>
  (pF M92 a0 10 7 (.ref r84)).bind fun M95 =>
  bd2 (newO M95 (12, List.replicate 15 (.int 0))) fun r97 M98 =>
  (pF M98 a0 10 8 (.ref r97)).bind fun M100 =>
  (pF M100 a0 10 9 (.int 0)).bind fun M102 =>
  some ((), M102)
set_option maxHeartbeats 4000000 in
theorem ok_X10_init {G : GT} (hR : Row G) {fu : Nat} {a0 : Nat} {M : List Ob} {out : Unit × List Ob} (h : f_X10_init fu a0 M = some out) : Sp G t_X10_init [.ref a0] M (oU out) := by
  refine Sp.of rfl (by decide +kernel) (cat_all rfl) (Nat.le_of_ble_eq_true rfl) ?_
  show X G t_X10_init [] 0 [some (.ref a0)] [] M 0 0 (oU out)
  unfold f_X10_init at h
  refine X.aload_n (x := a0) (pc' := 1) dX10_init_0 rfl rfl rfl ?_
  refine X.objI (pc' := 4) dX10_init_1 rfl (TBg_of 81 (by decide +kernel) rfl) (Nat.le_of_ble_eq_true rfl) (Nat.le_of_ble_eq_true rfl) ?_
  refine X.aload_n (x := a0) (pc' := 5) dX10_init_4 rfl rfl rfl ?_
  obtain ⟨r1, M2, e3, h⟩ := bd2E h
  refine X.newo (ci := 8) (r := (RX8, TX8, 5)) (fs := [.null, .null, .null, .int 0, .null]) (pc' := 8) dX10_init_5 rfl rfl (TBg_of 84 (by decide +kernel) rfl) (TBg_of 85 (by decide +kernel) rfl) (TBg_of 50 (by decide +kernel) rfl) tyX8 tyX8_ok (df_8 _) hR (Nat.le_of_ble_eq_true rfl) (Nat.le_of_ble_eq_true rfl) e3 ?_
  show X G t_X10_init [] 8 [some (.ref a0)] [.ref r1, .ref a0] M2 1 5 _
  refine X.dup (pc' := 9) dX10_init_8 rfl rfl ?_
  obtain ⟨r4, M5, e6, h⟩ := bd2E h
  refine X.callI (b := r1) (As := []) (st := [.ref r1, .ref a0]) (M' := M5) (pc' := 12) dX10_init_9 rfl cl_X10_9 rfl rfl mi_X8_init ⟨⟨Nat.le_of_ble_eq_true rfl, Nat.le_of_ble_eq_true rfl⟩, Nat.le_of_ble_eq_true rfl, Nat.le_of_ble_eq_true rfl⟩ rfl (Nat.le_of_ble_eq_true rfl) (ok_X8_init (G := zs G) (hR := hR) e6) ?_
  show X G t_X10_init [] 12 [some (.ref a0)] [.ref r1, .ref a0] M5 25 214 _
  obtain ⟨M8, e9, h⟩ := bindE h
  refine X.putF (pc' := 15) dX10_init_12 rfl fq_X10_10 rfl (fun r hr => by cases hr; rfl) rfl rfl e9 ?_
  refine X.aload_n (x := a0) (pc' := 16) dX10_init_15 rfl rfl rfl ?_
  obtain ⟨r10, e11, h⟩ := bindE h
  refine X.getf (pc' := 19) dX10_init_16 rfl fq_X10_10 (gP_spec e11) ?_
  refine X.iconst (v := 2) (pc' := 20) dX10_init_19 rfl (by decide) ?_
  refine X.iconst (v := 0) (pc' := 21) dX10_init_20 rfl (by decide) ?_
  refine X.iconst (v := 1) (pc' := 22) dX10_init_21 rfl (by decide) ?_
  obtain ⟨⟨⟩, e15, h⟩ := bindE h
  obtain ⟨r12, M13, e14, h⟩ := bd2E h
  refine X.callV (b := r10) (v := none) (As := [.int 2, .int 0, .int 1]) (st := []) (M' := M13) (pc' := 25) dX10_init_22 rfl cl_X10_16 mi_X8_begin me_X8_begin mr_X8_begin e15 ⟨⟨Nat.le_of_ble_eq_true rfl, Nat.le_of_ble_eq_true rfl⟩, Nat.le_of_ble_eq_true rfl, Nat.le_of_ble_eq_true rfl⟩ rfl (Nat.le_of_ble_eq_true rfl) (ok_X8_begin (G := zs G) e14) ?_
  show X G t_X10_init [] 25 [some (.ref a0)] [] M13 25 214 _
  refine X.aload_n (x := a0) (pc' := 26) dX10_init_25 rfl rfl rfl ?_
  obtain ⟨r16, M17, e18, h⟩ := bd2E h
  refine X.newo (ci := 1) (r := (RX1, TX1, 3)) (fs := [.null, .int 0, .int 0]) (pc' := 29) dX10_init_26 rfl rfl (TBg_of 248 (by decide +kernel) rfl) (TBg_of 249 (by decide +kernel) rfl) (TBg_of 54 (by decide +kernel) rfl) tyX1 tyX1_ok (df_1 _) hR (Nat.le_of_ble_eq_true rfl) (Nat.le_of_ble_eq_true rfl) e18 ?_
  show X G t_X10_init [] 29 [some (.ref a0)] [.ref r16, .ref a0] M17 26 217 _
  refine X.dup (pc' := 30) dX10_init_29 rfl rfl ?_
  obtain ⟨r19, M20, e21, h⟩ := bd2E h
  refine X.callI (b := r16) (As := []) (st := [.ref r16, .ref a0]) (M' := M20) (pc' := 33) dX10_init_30 rfl cl_X10_22 rfl rfl mi_X1_init ⟨⟨Nat.le_of_ble_eq_true rfl, Nat.le_of_ble_eq_true rfl⟩, Nat.le_of_ble_eq_true rfl, Nat.le_of_ble_eq_true rfl⟩ rfl (Nat.le_of_ble_eq_true rfl) (ok_X1_init (G := zs G) (hR := hR) e21) ?_
  show X G t_X10_init [] 33 [some (.ref a0)] [.ref r16, .ref a0] M20 227 1937 _
  obtain ⟨M23, e24, h⟩ := bindE h
  refine X.putF (pc' := 36) dX10_init_33 rfl fq_X10_23 rfl (fun r hr => by cases hr; rfl) rfl rfl e24 ?_
  refine X.aload_n (x := a0) (pc' := 37) dX10_init_36 rfl rfl rfl ?_
  obtain ⟨r25, M26, e27, h⟩ := bd2E h
  refine X.newo (ci := 9) (r := (RX9, TX9, 6)) (fs := [.null, .int 0, .int 0, .int 0, .int 0, .int 0]) (pc' := 40) dX10_init_37 rfl rfl (TBg_of 268 (by decide +kernel) rfl) (TBg_of 269 (by decide +kernel) rfl) (TBg_of 55 (by decide +kernel) rfl) tyX9 tyX9_ok (df_9 _) hR (Nat.le_of_ble_eq_true rfl) (Nat.le_of_ble_eq_true rfl) e27 ?_
  show X G t_X10_init [] 40 [some (.ref a0)] [.ref r25, .ref a0] M26 228 1943 _
  refine X.dup (pc' := 41) dX10_init_40 rfl rfl ?_
  obtain ⟨r28, M29, e30, h⟩ := bd2E h
  refine X.callIN (b := r25) (As := []) (st := [.ref r25, .ref a0]) (M' := M29) (pc' := 44) dX10_init_41 rfl cl_X10_29 rfl rfl mi_X9_init ⟨⟨Nat.le_of_ble_eq_true rfl, Nat.le_of_ble_eq_true rfl⟩, Nat.le_of_ble_eq_true rfl, Nat.le_of_ble_eq_true rfl⟩ rfl (Nat.le_of_ble_eq_true rfl) (ok_X9_init (G := zs G) (hR := hR) e30) ?_
  show X G t_X10_init [] 44 [some (.ref a0)] [.ref r25, .ref a0] M29 229 2543 _
  obtain ⟨M32, e33, h⟩ := bindE h
  refine X.putF (pc' := 47) dX10_init_44 rfl fq_X10_30 rfl (fun r hr => by cases hr; rfl) rfl rfl e33 ?_
  refine X.aload_n (x := a0) (pc' := 48) dX10_init_47 rfl rfl rfl ?_
  obtain ⟨r34, M35, e36, h⟩ := bd2E h
  refine X.newo (ci := 8) (r := (RX8, TX8, 5)) (fs := [.null, .null, .null, .int 0, .null]) (pc' := 51) dX10_init_48 rfl rfl (TBg_of 84 (by decide +kernel) rfl) (TBg_of 85 (by decide +kernel) rfl) (TBg_of 50 (by decide +kernel) rfl) tyX8 tyX8_ok (df_8 _) hR (Nat.le_of_ble_eq_true rfl) (Nat.le_of_ble_eq_true rfl) e36 ?_
  show X G t_X10_init [] 51 [some (.ref a0)] [.ref r34, .ref a0] M35 230 2548 _
  refine X.dup (pc' := 52) dX10_init_51 rfl rfl ?_
  obtain ⟨r37, M38, e39, h⟩ := bd2E h
  refine X.callI (b := r34) (As := []) (st := [.ref r34, .ref a0]) (M' := M38) (pc' := 55) dX10_init_52 rfl cl_X10_9 rfl rfl mi_X8_init ⟨⟨Nat.le_of_ble_eq_true rfl, Nat.le_of_ble_eq_true rfl⟩, Nat.le_of_ble_eq_true rfl, Nat.le_of_ble_eq_true rfl⟩ rfl (Nat.le_of_ble_eq_true rfl) (ok_X8_init (G := zs G) (hR := hR) e39) ?_
  show X G t_X10_init [] 55 [some (.ref a0)] [.ref r34, .ref a0] M38 254 2757 _
  obtain ⟨M41, e42, h⟩ := bindE h
  refine X.putF (pc' := 58) dX10_init_55 rfl fq_X10_34 rfl (fun r hr => by cases hr; rfl) rfl rfl e42 ?_
  refine X.aload_n (x := a0) (pc' := 59) dX10_init_58 rfl rfl rfl ?_
  obtain ⟨r43, M44, e45, h⟩ := bd2E h
  refine X.newo (ci := 7) (r := (RX7, TX7, 2)) (fs := [.null, .null]) (pc' := 62) dX10_init_59 rfl rfl (TBg_of 297 (by decide +kernel) rfl) (TBg_of 298 (by decide +kernel) rfl) (TBg_of 56 (by decide +kernel) rfl) tyX7 tyX7_ok (df_7 _) hR (Nat.le_of_ble_eq_true rfl) (Nat.le_of_ble_eq_true rfl) e45 ?_
  show X G t_X10_init [] 62 [some (.ref a0)] [.ref r43, .ref a0] M44 255 2759 _
  refine X.dup (pc' := 63) dX10_init_62 rfl rfl ?_
  refine X.aload_n (x := a0) (pc' := 64) dX10_init_63 rfl rfl rfl ?_
  obtain ⟨r46, e47, h⟩ := bindE h
  refine X.getf (pc' := 67) dX10_init_64 rfl fq_X10_10 (gP_spec e47) ?_
  obtain ⟨r48, e49, h⟩ := bindE h
  refine X.getf (pc' := 70) dX10_init_67 rfl fq_X10_39 (gP_spec e49) ?_
  obtain ⟨r50, M51, e52, h⟩ := bd2E h
  refine X.callI (b := r43) (As := [.ref r48]) (st := [.ref r43, .ref a0]) (M' := M51) (pc' := 73) dX10_init_70 rfl cl_X10_43 rfl rfl mi_X7_init ⟨⟨Nat.le_of_ble_eq_true rfl, Nat.le_of_ble_eq_true rfl⟩, Nat.le_of_ble_eq_true rfl, Nat.le_of_ble_eq_true rfl⟩ rfl (Nat.le_of_ble_eq_true rfl) (ok_X7_init (G := zs G) (hR := hR) e52) ?_
  show X G t_X10_init [] 73 [some (.ref a0)] [.ref r43, .ref a0] M51 257 2768 _
  obtain ⟨M54, e55, h⟩ := bindE h
  refine X.putF (pc' := 76) dX10_init_73 rfl fq_X10_46 rfl (fun r hr => by cases hr; rfl) rfl rfl e55 ?_
  refine X.aload_n (x := a0) (pc' := 77) dX10_init_76 rfl rfl rfl ?_
  obtain ⟨r56, M57, e58, h⟩ := bd2E h
  refine X.newo (ci := 3) (r := (RX3, TX3, 5)) (fs := [.null, .null, .null, .int 0, .int 0]) (pc' := 80) dX10_init_77 rfl rfl (TBg_of 313 (by decide +kernel) rfl) (TBg_of 314 (by decide +kernel) rfl) (TBg_of 57 (by decide +kernel) rfl) tyX3 tyX3_ok (df_3 _) hR (Nat.le_of_ble_eq_true rfl) (Nat.le_of_ble_eq_true rfl) e58 ?_
  show X G t_X10_init [] 80 [some (.ref a0)] [.ref r56, .ref a0] M57 258 2773 _
  refine X.dup (pc' := 81) dX10_init_80 rfl rfl ?_
  refine X.aload_n (x := a0) (pc' := 82) dX10_init_81 rfl rfl rfl ?_
  obtain ⟨r59, e60, h⟩ := bindE h
  refine X.getf (pc' := 85) dX10_init_82 rfl fq_X10_10 (gP_spec e60) ?_
  obtain ⟨r61, M62, e63, h⟩ := bd2E h
  refine X.callI (b := r56) (As := [.ref r59]) (st := [.ref r56, .ref a0]) (M' := M62) (pc' := 88) dX10_init_85 rfl cl_X10_52 rfl rfl mi_X3_init ⟨⟨Nat.le_of_ble_eq_true rfl, Nat.le_of_ble_eq_true rfl⟩, Nat.le_of_ble_eq_true rfl, Nat.le_of_ble_eq_true rfl⟩ rfl (Nat.le_of_ble_eq_true rfl) (ok_X3_init (G := zs G) (hR := hR) e63) ?_
  show X G t_X10_init [] 88 [some (.ref a0)] [.ref r56, .ref a0] M62 259 2781 _
  obtain ⟨M65, e66, h⟩ := bindE h
  refine X.putF (pc' := 91) dX10_init_88 rfl fq_X10_55 rfl (fun r hr => by cases hr; rfl) rfl rfl e66 ?_
  refine X.aload_n (x := a0) (pc' := 92) dX10_init_91 rfl rfl rfl ?_
  obtain ⟨r67, M68, e69, h⟩ := bd2E h
  refine X.newo (ci := 6) (r := (RX6, TX6, 10)) (fs := [.null, .null, .null, .null, .null, .int 0, .int 0, .int 0, .int 0, .int 0]) (pc' := 95) dX10_init_92 rfl rfl (TBg_of 336 (by decide +kernel) rfl) (TBg_of 337 (by decide +kernel) rfl) (TBg_of 58 (by decide +kernel) rfl) tyX6 tyX6_ok (df_6 _) hR (Nat.le_of_ble_eq_true rfl) (Nat.le_of_ble_eq_true rfl) e69 ?_
  show X G t_X10_init [] 95 [some (.ref a0)] [.ref r67, .ref a0] M68 260 2791 _
  refine X.dup (pc' := 96) dX10_init_95 rfl rfl ?_
  refine X.aload_n (x := a0) (pc' := 97) dX10_init_96 rfl rfl rfl ?_
  obtain ⟨r70, e71, h⟩ := bindE h
  refine X.getf (pc' := 100) dX10_init_97 rfl fq_X10_10 (gP_spec e71) ?_
  obtain ⟨r72, e73, h⟩ := bindE h
  refine X.getf (pc' := 103) dX10_init_100 rfl fq_X10_39 (gP_spec e73) ?_
  refine X.aload_n (x := a0) (pc' := 104) dX10_init_103 rfl rfl rfl ?_
  obtain ⟨r74, e75, h⟩ := bindE h
  refine X.getf (pc' := 107) dX10_init_104 rfl fq_X10_46 (gP_spec e75) ?_
  refine X.aload_n (x := a0) (pc' := 108) dX10_init_107 rfl rfl rfl ?_
  obtain ⟨r76, e77, h⟩ := bindE h
  refine X.getf (pc' := 111) dX10_init_108 rfl fq_X10_55 (gP_spec e77) ?_
  obtain ⟨r78, M79, e80, h⟩ := bd2E h
  refine X.callI (b := r67) (As := [.ref r72, .ref r74, .ref r76]) (st := [.ref r67, .ref a0]) (M' := M79) (pc' := 114) dX10_init_111 rfl cl_X10_61 rfl rfl mi_X6_init ⟨⟨Nat.le_of_ble_eq_true rfl, Nat.le_of_ble_eq_true rfl⟩, Nat.le_of_ble_eq_true rfl, Nat.le_of_ble_eq_true rfl⟩ rfl (Nat.le_of_ble_eq_true rfl) (ok_X6_init (G := zs G) (hR := hR) e80) ?_
  show X G t_X10_init [] 114 [some (.ref a0)] [.ref r67, .ref a0] M79 264 2809 _
  obtain ⟨M82, e83, h⟩ := bindE h
  refine X.putF (pc' := 117) dX10_init_114 rfl fq_X10_64 rfl (fun r hr => by cases hr; rfl) rfl rfl e83 ?_
  refine X.aload_n (x := a0) (pc' := 118) dX10_init_117 rfl rfl rfl ?_
  obtain ⟨r84, M85, e86, h⟩ := bd2E h
  refine X.newo (ci := 0) (r := (RX0, TX0, 4)) (fs := [.null, .null, .null, .int 0]) (pc' := 121) dX10_init_118 rfl rfl (TBg_of 376 (by decide +kernel) rfl) (TBg_of 377 (by decide +kernel) rfl) (TBg_of 59 (by decide +kernel) rfl) tyX0 tyX0_ok (df_0 _) hR (Nat.le_of_ble_eq_true rfl) (Nat.le_of_ble_eq_true rfl) e86 ?_
  show X G t_X10_init [] 121 [some (.ref a0)] [.ref r84, .ref a0] M85 265 2813 _
  refine X.dup (pc' := 122) dX10_init_121 rfl rfl ?_
  refine X.aload_n (x := a0) (pc' := 123) dX10_init_122 rfl rfl rfl ?_
  obtain ⟨r87, e88, h⟩ := bindE h
  refine X.getf (pc' := 126) dX10_init_123 rfl fq_X10_10 (gP_spec e88) ?_
  obtain ⟨r89, e90, h⟩ := bindE h
  refine X.getf (pc' := 129) dX10_init_126 rfl fq_X10_39 (gP_spec e90) ?_
  obtain ⟨r91, M92, e93, h⟩ := bd2E h
  refine X.callI (b := r84) (As := [.ref r89]) (st := [.ref r84, .ref a0]) (M' := M92) (pc' := 132) dX10_init_129 rfl cl_X10_70 rfl rfl mi_X0_init ⟨⟨Nat.le_of_ble_eq_true rfl, Nat.le_of_ble_eq_true rfl⟩, Nat.le_of_ble_eq_true rfl, Nat.le_of_ble_eq_true rfl⟩ rfl (Nat.le_of_ble_eq_true rfl) (ok_X0_init (G := zs G) (hR := hR) e93) ?_
  show X G t_X10_init [] 132 [some (.ref a0)] [.ref r84, .ref a0] M92 281 2939 _
  obtain ⟨M95, e96, h⟩ := bindE h
  refine X.putF (pc' := 135) dX10_init_132 rfl fq_X10_71 rfl (fun r hr => by cases hr; rfl) rfl rfl e96 ?_
  refine X.aload_n (x := a0) (pc' := 136) dX10_init_135 rfl rfl rfl ?_
  refine X.bipush (v := 15) (pc' := 138) dX10_init_136 rfl (by decide) ?_
  obtain ⟨r97, M98, e99, h⟩ := bd2E h
  refine X.newi (kd := 12) (N := 15) (dv := .int 0) (pc' := 140) dX10_init_138 rfl (Or.inl ⟨rfl, rfl, rfl⟩) (TBg_of 296 (by decide +kernel) rfl) (by decide) (by decide) (Nat.le_of_ble_eq_true rfl) hR (Nat.le_of_ble_eq_true rfl) (Nat.le_of_ble_eq_true rfl) e99 ?_
  show X G t_X10_init [] 140 [some (.ref a0)] [.ref r97, .ref a0] M98 282 2954 _
  obtain ⟨M100, e101, h⟩ := bindE h
  refine X.putF (pc' := 143) dX10_init_140 rfl fq_X10_75 rfl (fun r hr => by cases hr; rfl) rfl rfl e101 ?_
  refine X.aload_n (x := a0) (pc' := 144) dX10_init_143 rfl rfl rfl ?_
  refine X.iconst (v := 0) (pc' := 145) dX10_init_144 rfl (by decide) ?_
  obtain ⟨M102, e103, h⟩ := bindE h
  refine X.putf (pc' := 148) dX10_init_145 rfl fq_X10_79 rfl rfl e103 ?_
  cases h
  exact X.vret dX10_init_148 rfl (Nat.le_of_ble_eq_true rfl) (Nat.le_of_ble_eq_true rfl) rfl
def f_X10_append (fu : Nat) (a0 : Nat) (a1 : Int32) (a2 : Int32) (a3 : Int32) (a4 : Int32) (a5 : Int32) (M : List Ob) : Option ((Except String Int32) × List Ob) :=
  (gP M a0 10 2).bind fun r1 =>
  (gI M r1 9 1).bind fun v3 =>
  if (v3 + 20) ≤ 600 then ((gP M a0 10 2).bind fun r5 =>
  (hasO M r5 9).bind fun _ =>
  bd2 (f_X9_addBytes fu r5 a1 M) fun _ M8 =>
  (gP M8 a0 10 2).bind fun r11 =>
  (hasO M8 r11 9).bind fun _ =>
  bd2 (f_X9_addBytes fu r11 a2 M8) fun _ M14 =>
  (gP M14 a0 10 2).bind fun r17 =>
  (hasO M14 r17 9).bind fun _ =>
  bd2 (f_X9_addBytes fu r17 a3 M14) fun _ M20 =>
  (gP M20 a0 10 2).bind fun r23 =>
  (hasO M20 r23 9).bind fun _ =>
  bd2 (f_X9_addBytes fu r23 a4 M20) fun _ M26 =>
  (gP M26 a0 10 2).bind fun r29 =>
  (hasO M26 r29 9).bind fun _ =>
  bd2 (f_X9_addBytes fu r29 a5 M26) fun _ M32 =>
  (gP M32 a0 10 2).bind fun r35 =>
  (gI M32 r35 9 1).bind fun v37 =>
  some (.ok v37, M32))
  else (some (.error "java/lang/IllegalStateException", M))
set_option maxHeartbeats 4000000 in
theorem ok_X10_append {G : GT} (hz : gZ G = false) {fu : Nat} {a0 : Nat} {a1 : Int32} {a2 : Int32} {a3 : Int32} {a4 : Int32} {a5 : Int32} {M : List Ob} {out : (Except String Int32) × List Ob} (h : f_X10_append fu a0 a1 a2 a3 a4 a5 M = some out) : Sq G t_X10_append [.ref a0, .int a1, .int a2, .int a3, .int a4, .int a5] M (xI out) := by
  refine Sq.of rfl (by decide +kernel) (cat_all rfl) (Nat.le_of_ble_eq_true rfl) ?_
  show X G t_X10_append [] 0 [some (.ref a0), some (.int a1), some (.int a2), some (.int a3), some (.int a4), some (.int a5)] [] M 0 0 (xI out)
  unfold f_X10_append at h
  refine X.aload_n (x := a0) (pc' := 1) dX10_append_0 rfl rfl rfl ?_
  obtain ⟨r1, e2, h⟩ := bindE h
  refine X.getf (pc' := 4) dX10_append_1 rfl fq_X10_30 (gP_spec e2) ?_
  obtain ⟨v3, e4, h⟩ := bindE h
  refine X.getf (pc' := 7) dX10_append_4 rfl fq_X10_83 (gI_spec e4) ?_
  refine X.bipush (v := 20) (pc' := 9) dX10_append_7 rfl (by decide) ?_
  refine X.iadd (pc' := 10) dX10_append_9 rfl ?_
  refine X.sipush (v := 600) (pc' := 13) dX10_append_10 rfl (by decide) ?_
  refine X.icmp_le (tgt := 26) (pc' := 16) dX10_append_13 (by decide) rfl (fun hc => ?_) (fun hc => ?_)
  · rw [if_pos hc] at h
    refine X.aload_n (x := a0) (pc' := 27) dX10_append_26 rfl rfl rfl ?_
    obtain ⟨r5, e6, h⟩ := bindE h
    refine X.getf (pc' := 30) dX10_append_27 rfl fq_X10_30 (gP_spec e6) ?_
    refine X.iload_n (x := a1) (pc' := 31) dX10_append_30 rfl rfl rfl ?_
    obtain ⟨⟨⟩, e10, h⟩ := bindE h
    obtain ⟨r7, M8, e9, h⟩ := bd2E h
    refine X.callV (b := r5) (v := none) (As := [.int a1]) (st := []) (M' := M8) (pc' := 34) dX10_append_31 rfl cl_X10_93 mi_X9_addBytes me_X9_addBytes mr_X9_addBytes e10 ⟨⟨Nat.le_of_ble_eq_true rfl, Nat.le_of_ble_eq_true rfl⟩, Nat.le_of_ble_eq_true rfl, Nat.le_of_ble_eq_true rfl⟩ rfl (Nat.le_of_ble_eq_true rfl) (ok_X9_addBytes (G := zs G) e9) ?_
    show X G t_X10_append [] 34 [some (.ref a0), some (.int a1), some (.int a2), some (.int a3), some (.int a4), some (.int a5)] [] M8 0 0 _
    refine X.aload_n (x := a0) (pc' := 35) dX10_append_34 rfl rfl rfl ?_
    obtain ⟨r11, e12, h⟩ := bindE h
    refine X.getf (pc' := 38) dX10_append_35 rfl fq_X10_30 (gP_spec e12) ?_
    refine X.iload_n (x := a2) (pc' := 39) dX10_append_38 rfl rfl rfl ?_
    obtain ⟨⟨⟩, e16, h⟩ := bindE h
    obtain ⟨r13, M14, e15, h⟩ := bd2E h
    refine X.callV (b := r11) (v := none) (As := [.int a2]) (st := []) (M' := M14) (pc' := 42) dX10_append_39 rfl cl_X10_93 mi_X9_addBytes me_X9_addBytes mr_X9_addBytes e16 ⟨⟨Nat.le_of_ble_eq_true rfl, Nat.le_of_ble_eq_true rfl⟩, Nat.le_of_ble_eq_true rfl, Nat.le_of_ble_eq_true rfl⟩ rfl (Nat.le_of_ble_eq_true rfl) (ok_X9_addBytes (G := zs G) e15) ?_
    show X G t_X10_append [] 42 [some (.ref a0), some (.int a1), some (.int a2), some (.int a3), some (.int a4), some (.int a5)] [] M14 0 0 _
    refine X.aload_n (x := a0) (pc' := 43) dX10_append_42 rfl rfl rfl ?_
    obtain ⟨r17, e18, h⟩ := bindE h
    refine X.getf (pc' := 46) dX10_append_43 rfl fq_X10_30 (gP_spec e18) ?_
    refine X.iload_n (x := a3) (pc' := 47) dX10_append_46 rfl rfl rfl ?_
    obtain ⟨⟨⟩, e22, h⟩ := bindE h
    obtain ⟨r19, M20, e21, h⟩ := bd2E h
    refine X.callV (b := r17) (v := none) (As := [.int a3]) (st := []) (M' := M20) (pc' := 50) dX10_append_47 rfl cl_X10_93 mi_X9_addBytes me_X9_addBytes mr_X9_addBytes e22 ⟨⟨Nat.le_of_ble_eq_true rfl, Nat.le_of_ble_eq_true rfl⟩, Nat.le_of_ble_eq_true rfl, Nat.le_of_ble_eq_true rfl⟩ rfl (Nat.le_of_ble_eq_true rfl) (ok_X9_addBytes (G := zs G) e21) ?_
    show X G t_X10_append [] 50 [some (.ref a0), some (.int a1), some (.int a2), some (.int a3), some (.int a4), some (.int a5)] [] M20 0 0 _
    refine X.aload_n (x := a0) (pc' := 51) dX10_append_50 rfl rfl rfl ?_
    obtain ⟨r23, e24, h⟩ := bindE h
    refine X.getf (pc' := 54) dX10_append_51 rfl fq_X10_30 (gP_spec e24) ?_
    refine X.iload (x := a4) (pc' := 56) dX10_append_54 rfl rfl ?_
    obtain ⟨⟨⟩, e28, h⟩ := bindE h
    obtain ⟨r25, M26, e27, h⟩ := bd2E h
    refine X.callV (b := r23) (v := none) (As := [.int a4]) (st := []) (M' := M26) (pc' := 59) dX10_append_56 rfl cl_X10_93 mi_X9_addBytes me_X9_addBytes mr_X9_addBytes e28 ⟨⟨Nat.le_of_ble_eq_true rfl, Nat.le_of_ble_eq_true rfl⟩, Nat.le_of_ble_eq_true rfl, Nat.le_of_ble_eq_true rfl⟩ rfl (Nat.le_of_ble_eq_true rfl) (ok_X9_addBytes (G := zs G) e27) ?_
    show X G t_X10_append [] 59 [some (.ref a0), some (.int a1), some (.int a2), some (.int a3), some (.int a4), some (.int a5)] [] M26 0 0 _
    refine X.aload_n (x := a0) (pc' := 60) dX10_append_59 rfl rfl rfl ?_
    obtain ⟨r29, e30, h⟩ := bindE h
    refine X.getf (pc' := 63) dX10_append_60 rfl fq_X10_30 (gP_spec e30) ?_
    refine X.iload (x := a5) (pc' := 65) dX10_append_63 rfl rfl ?_
    obtain ⟨⟨⟩, e34, h⟩ := bindE h
    obtain ⟨r31, M32, e33, h⟩ := bd2E h
    refine X.callV (b := r29) (v := none) (As := [.int a5]) (st := []) (M' := M32) (pc' := 68) dX10_append_65 rfl cl_X10_93 mi_X9_addBytes me_X9_addBytes mr_X9_addBytes e34 ⟨⟨Nat.le_of_ble_eq_true rfl, Nat.le_of_ble_eq_true rfl⟩, Nat.le_of_ble_eq_true rfl, Nat.le_of_ble_eq_true rfl⟩ rfl (Nat.le_of_ble_eq_true rfl) (ok_X9_addBytes (G := zs G) e33) ?_
    show X G t_X10_append [] 68 [some (.ref a0), some (.int a1), some (.int a2), some (.int a3), some (.int a4), some (.int a5)] [] M32 0 0 _
    refine X.aload_n (x := a0) (pc' := 69) dX10_append_68 rfl rfl rfl ?_
    obtain ⟨r35, e36, h⟩ := bindE h
    refine X.getf (pc' := 72) dX10_append_69 rfl fq_X10_30 (gP_spec e36) ?_
    obtain ⟨v37, e38, h⟩ := bindE h
    refine X.getf (pc' := 75) dX10_append_72 rfl fq_X10_83 (gI_spec e38) ?_
    cases h
    exact X.iret (ty := .int) dX10_append_75 rfl rfl (Nat.le_of_ble_eq_true rfl) (Nat.le_of_ble_eq_true rfl) rfl
  · rw [if_neg hc] at h
    cases h
    exact X.thr (tx := "the text buffer is full") dX10_append_16 dX10_append_19 dX10_append_20 dX10_append_22 dX10_append_25 rfl th_X10_86_90 (by decide +kernel) (Nat.le_of_ble_eq_true rfl) (Nat.le_of_ble_eq_true rfl) (Nat.le_of_ble_eq_true rfl) (Nat.le_of_ble_eq_true rfl) rfl
def f_X10_forgetResults (fu : Nat) (a0 : Nat) (M : List Ob) : Option (Unit × List Ob) :=
  (gP M a0 10 6).bind fun r1 =>
  (hasO M r1 6).bind fun _ =>
  bd2 (f_X6_forgetBest fu r1 M) fun _ M4 =>
  (gP M4 a0 10 7).bind fun r7 =>
  (hasO M4 r7 0).bind fun _ =>
  bd2 (f_X0_forgetValues fu r7 M4) fun _ M10 =>
  some ((), M10)
set_option maxHeartbeats 4000000 in
theorem ok_X10_forgetResults {G : GT} {fu : Nat} {a0 : Nat} {M : List Ob} {out : Unit × List Ob} (h : f_X10_forgetResults fu a0 M = some out) : Sp G t_X10_forgetResults [.ref a0] M (oU out) := by
  refine Sp.of rfl (by decide +kernel) (cat_all rfl) (Nat.le_of_ble_eq_true rfl) ?_
  show X G t_X10_forgetResults [] 0 [some (.ref a0)] [] M 0 0 (oU out)
  unfold f_X10_forgetResults at h
  refine X.aload_n (x := a0) (pc' := 1) dX10_forgetResults_0 rfl rfl rfl ?_
  obtain ⟨r1, e2, h⟩ := bindE h
  refine X.getf (pc' := 4) dX10_forgetResults_1 rfl fq_X10_64 (gP_spec e2) ?_
  obtain ⟨⟨⟩, e6, h⟩ := bindE h
  obtain ⟨r3, M4, e5, h⟩ := bd2E h
  refine X.callV (b := r1) (v := none) (As := []) (st := []) (M' := M4) (pc' := 7) dX10_forgetResults_4 rfl cl_X10_385 mi_X6_forgetBest me_X6_forgetBest mr_X6_forgetBest e6 ⟨⟨Nat.le_of_ble_eq_true rfl, Nat.le_of_ble_eq_true rfl⟩, Nat.le_of_ble_eq_true rfl, Nat.le_of_ble_eq_true rfl⟩ rfl (Nat.le_of_ble_eq_true rfl) (ok_X6_forgetBest (G := zs G) e5) ?_
  show X G t_X10_forgetResults [] 7 [some (.ref a0)] [] M4 0 0 _
  refine X.aload_n (x := a0) (pc' := 8) dX10_forgetResults_7 rfl rfl rfl ?_
  obtain ⟨r7, e8, h⟩ := bindE h
  refine X.getf (pc' := 11) dX10_forgetResults_8 rfl fq_X10_71 (gP_spec e8) ?_
  obtain ⟨⟨⟩, e12, h⟩ := bindE h
  obtain ⟨r9, M10, e11, h⟩ := bd2E h
  refine X.callV (b := r7) (v := none) (As := []) (st := []) (M' := M10) (pc' := 14) dX10_forgetResults_11 rfl cl_X10_388 mi_X0_forgetValues me_X0_forgetValues mr_X0_forgetValues e12 ⟨⟨Nat.le_of_ble_eq_true rfl, Nat.le_of_ble_eq_true rfl⟩, Nat.le_of_ble_eq_true rfl, Nat.le_of_ble_eq_true rfl⟩ rfl (Nat.le_of_ble_eq_true rfl) (ok_X0_forgetValues (G := zs G) e11) ?_
  show X G t_X10_forgetResults [] 14 [some (.ref a0)] [] M10 0 0 _
  cases h
  exact X.vret dX10_forgetResults_14 rfl (Nat.le_of_ble_eq_true rfl) (Nat.le_of_ble_eq_true rfl) rfl
def f_X10_beginChange (fu : Nat) (a0 : Nat) (M : List Ob) : Option (Unit × List Ob) :=
  (gP M a0 10 1).bind fun r1 =>
  (gP M a0 10 0).bind fun r3 =>
  (hasO M r1 1).bind fun _ =>
  bd2 (f_X1_keep fu r1 r3 M) fun _ M6 =>
  (hasO M6 a0 10).bind fun _ =>
  bd2 (f_X10_forgetResults fu a0 M6) fun _ M10 =>
  some ((), M10)
set_option maxHeartbeats 4000000 in
theorem ok_X10_beginChange {G : GT} (hz : gZ G = false) {fu : Nat} {a0 : Nat} {M : List Ob} {out : Unit × List Ob} (h : f_X10_beginChange fu a0 M = some out) : Sp G t_X10_beginChange [.ref a0] M (oU out) := by
  refine Sp.of rfl (by decide +kernel) (cat_all rfl) (Nat.le_of_ble_eq_true rfl) ?_
  show X G t_X10_beginChange [] 0 [some (.ref a0)] [] M 0 0 (oU out)
  unfold f_X10_beginChange at h
  refine X.aload_n (x := a0) (pc' := 1) dX10_beginChange_0 rfl rfl rfl ?_
  obtain ⟨r1, e2, h⟩ := bindE h
  refine X.getf (pc' := 4) dX10_beginChange_1 rfl fq_X10_23 (gP_spec e2) ?_
  refine X.aload_n (x := a0) (pc' := 5) dX10_beginChange_4 rfl rfl rfl ?_
  obtain ⟨r3, e4, h⟩ := bindE h
  refine X.getf (pc' := 8) dX10_beginChange_5 rfl fq_X10_10 (gP_spec e4) ?_
  obtain ⟨⟨⟩, e8, h⟩ := bindE h
  obtain ⟨r5, M6, e7, h⟩ := bd2E h
  refine X.callV (b := r1) (v := none) (As := [.ref r3]) (st := []) (M' := M6) (pc' := 11) dX10_beginChange_8 rfl cl_X10_382 mi_X1_keep me_X1_keep mr_X1_keep e8 ⟨⟨Nat.le_of_ble_eq_true rfl, Nat.le_of_ble_eq_true rfl⟩, Nat.le_of_ble_eq_true rfl, Nat.le_of_ble_eq_true rfl⟩ rfl (Nat.le_of_ble_eq_true rfl) (ok_X1_keep (G := zs G) (hz := hz) e7) ?_
  show X G t_X10_beginChange [] 11 [some (.ref a0)] [] M6 0 0 _
  refine X.aload_n (x := a0) (pc' := 12) dX10_beginChange_11 rfl rfl rfl ?_
  obtain ⟨⟨⟩, e12, h⟩ := bindE h
  obtain ⟨r9, M10, e11, h⟩ := bd2E h
  refine X.callV (b := a0) (v := none) (As := []) (st := []) (M' := M10) (pc' := 15) dX10_beginChange_12 rfl cl_X10_367 mi_X10_forgetResults me_X10_forgetResults mr_X10_forgetResults e12 ⟨⟨Nat.le_of_ble_eq_true rfl, Nat.le_of_ble_eq_true rfl⟩, Nat.le_of_ble_eq_true rfl, Nat.le_of_ble_eq_true rfl⟩ rfl (Nat.le_of_ble_eq_true rfl) (ok_X10_forgetResults (G := zs G) e11) ?_
  show X G t_X10_beginChange [] 15 [some (.ref a0)] [] M10 0 0 _
  cases h
  exact X.vret dX10_beginChange_15 rfl (Nat.le_of_ble_eq_true rfl) (Nat.le_of_ble_eq_true rfl) rfl
def f_X10_load (fu : Nat) (a0 : Nat) (a1 : Int32) (M : List Ob) : Option ((Except String Int32) × List Ob) :=
  if a1 < 0 then (some (.error "java/lang/IllegalArgumentException", M))
  else ((gP M a0 10 2).bind fun r1 =>
  (gI M r1 9 1).bind fun v3 =>
  if a1 ≤ v3 then ((gP M a0 10 2).bind fun r5 =>
  (gP M a0 10 3).bind fun r7 =>
  (hasO M r5 9).bind fun _ =>
  bd2 (f_X9_readNetwork fu r5 a1 r7 M) fun v9 M10 =>
  (gP M10 a0 10 2).bind fun r13 =>
  (pF M10 r13 9 1 (.int 0)).bind fun M15 =>
  if v9 = 0 then ((gP M15 a0 10 2).bind fun r35 =>
  (gI M15 r35 9 4).bind fun v37 =>
  some (.ok v37, M15))
  else ((hasO M15 a0 10).bind fun _ =>
  bd2 (f_X10_beginChange fu a0 M15) fun _ M18 =>
  (gP M18 a0 10 0).bind fun r21 =>
  (gP M18 a0 10 3).bind fun r23 =>
  (hasO M18 r21 8).bind fun _ =>
  bd2 (f_X8_copyFrom fu r21 r23 M18) fun _ M26 =>
  (gP M26 a0 10 0).bind fun r29 =>
  (gP M26 r29 8 0).bind fun r31 =>
  (gI M26 r31 4 4).bind fun v33 =>
  some (.ok v33, M26)))
  else (some (.error "java/lang/IllegalArgumentException", M)))
set_option maxHeartbeats 4000000 in
theorem ok_X10_load {G : GT} (hz : gZ G = false) {fu : Nat} {a0 : Nat} {a1 : Int32} {M : List Ob} {out : (Except String Int32) × List Ob} (h : f_X10_load fu a0 a1 M = some out) : Sq G t_X10_load [.ref a0, .int a1] M (xI out) := by
  refine Sq.of rfl (by decide +kernel) (cat_all rfl) (Nat.le_of_ble_eq_true rfl) ?_
  show X G t_X10_load [] 0 [some (.ref a0), some (.int a1), none] [] M 0 0 (xI out)
  unfold f_X10_load at h
  refine X.iload_n (x := a1) (pc' := 1) dX10_load_0 rfl rfl rfl ?_
  refine X.if_lt (tgt := 15) (pc' := 4) dX10_load_1 (by decide) rfl (fun hc => ?_) (fun hc => ?_)
  · rw [if_pos hc] at h
    cases h
    exact X.thr (tx := "the text buffer has not this length") dX10_load_15 dX10_load_18 dX10_load_19 dX10_load_21 dX10_load_24 rfl th_X10_97_101 (by decide +kernel) (Nat.le_of_ble_eq_true rfl) (Nat.le_of_ble_eq_true rfl) (Nat.le_of_ble_eq_true rfl) (Nat.le_of_ble_eq_true rfl) rfl
  · rw [if_neg hc] at h
    refine X.iload_n (x := a1) (pc' := 5) dX10_load_4 rfl rfl rfl ?_
    refine X.aload_n (x := a0) (pc' := 6) dX10_load_5 rfl rfl rfl ?_
    obtain ⟨r1, e2, h⟩ := bindE h
    refine X.getf (pc' := 9) dX10_load_6 rfl fq_X10_30 (gP_spec e2) ?_
    obtain ⟨v3, e4, h⟩ := bindE h
    refine X.getf (pc' := 12) dX10_load_9 rfl fq_X10_83 (gI_spec e4) ?_
    refine X.icmp_le (tgt := 25) (pc' := 15) dX10_load_12 (by decide) rfl (fun hc => ?_) (fun hc => ?_)
    · rw [if_pos hc] at h
      refine X.aload_n (x := a0) (pc' := 26) dX10_load_25 rfl rfl rfl ?_
      obtain ⟨r5, e6, h⟩ := bindE h
      refine X.getf (pc' := 29) dX10_load_26 rfl fq_X10_30 (gP_spec e6) ?_
      refine X.iload_n (x := a1) (pc' := 30) dX10_load_29 rfl rfl rfl ?_
      refine X.aload_n (x := a0) (pc' := 31) dX10_load_30 rfl rfl rfl ?_
      obtain ⟨r7, e8, h⟩ := bindE h
      refine X.getf (pc' := 34) dX10_load_31 rfl fq_X10_34 (gP_spec e8) ?_
      obtain ⟨⟨⟩, e12, h⟩ := bindE h
      obtain ⟨v9, M10, e11, h⟩ := bd2E h
      refine X.callV (b := r5) (v := some (.int v9)) (As := [.int a1, .ref r7]) (st := []) (M' := M10) (pc' := 37) dX10_load_34 rfl cl_X10_102 mi_X9_readNetwork me_X9_readNetwork mr_X9_readNetwork e12 ⟨⟨Nat.le_of_ble_eq_true rfl, Nat.le_of_ble_eq_true rfl⟩, Nat.le_of_ble_eq_true rfl, Nat.le_of_ble_eq_true rfl⟩ rfl (Nat.le_of_ble_eq_true rfl) (ok_X9_readNetwork (G := zs G) (hz := hz) e11) ?_
      show X G t_X10_load [] 37 [some (.ref a0), some (.int a1), none] [.int v9] M10 0 0 _
      refine X.istore_n (L' := [some (.ref a0), some (.int a1), some (.int v9)]) (pc' := 38) dX10_load_37 rfl rfl (Nat.le_of_ble_eq_true rfl) rfl ?_
      refine X.aload_n (x := a0) (pc' := 39) dX10_load_38 rfl rfl rfl ?_
      obtain ⟨r13, e14, h⟩ := bindE h
      refine X.getf (pc' := 42) dX10_load_39 rfl fq_X10_30 (gP_spec e14) ?_
      refine X.iconst (v := 0) (pc' := 43) dX10_load_42 rfl (by decide) ?_
      obtain ⟨M15, e16, h⟩ := bindE h
      refine X.putf (pc' := 46) dX10_load_43 rfl fq_X10_83 rfl rfl e16 ?_
      refine X.iload_n (x := v9) (pc' := 47) dX10_load_46 rfl rfl rfl ?_
      refine X.if_ne (tgt := 58) (pc' := 50) dX10_load_47 (by decide) rfl (fun hc => ?_) (fun hc => ?_)
      · rw [if_neg hc] at h
        refine X.aload_n (x := a0) (pc' := 59) dX10_load_58 rfl rfl rfl ?_
        obtain ⟨⟨⟩, e20, h⟩ := bindE h
        obtain ⟨r17, M18, e19, h⟩ := bd2E h
        refine X.callV (b := a0) (v := none) (As := []) (st := []) (M' := M18) (pc' := 62) dX10_load_59 rfl cl_X10_109 mi_X10_beginChange me_X10_beginChange mr_X10_beginChange e20 ⟨⟨Nat.le_of_ble_eq_true rfl, Nat.le_of_ble_eq_true rfl⟩, Nat.le_of_ble_eq_true rfl, Nat.le_of_ble_eq_true rfl⟩ rfl (Nat.le_of_ble_eq_true rfl) (ok_X10_beginChange (G := zs G) (hz := hz) e19) ?_
        show X G t_X10_load [] 62 [some (.ref a0), some (.int a1), some (.int v9)] [] M18 0 0 _
        refine X.aload_n (x := a0) (pc' := 63) dX10_load_62 rfl rfl rfl ?_
        obtain ⟨r21, e22, h⟩ := bindE h
        refine X.getf (pc' := 66) dX10_load_63 rfl fq_X10_10 (gP_spec e22) ?_
        refine X.aload_n (x := a0) (pc' := 67) dX10_load_66 rfl rfl rfl ?_
        obtain ⟨r23, e24, h⟩ := bindE h
        refine X.getf (pc' := 70) dX10_load_67 rfl fq_X10_34 (gP_spec e24) ?_
        obtain ⟨⟨⟩, e28, h⟩ := bindE h
        obtain ⟨r25, M26, e27, h⟩ := bd2E h
        refine X.callV (b := r21) (v := none) (As := [.ref r23]) (st := []) (M' := M26) (pc' := 73) dX10_load_70 rfl cl_X10_112 mi_X8_copyFrom me_X8_copyFrom mr_X8_copyFrom e28 ⟨⟨Nat.le_of_ble_eq_true rfl, Nat.le_of_ble_eq_true rfl⟩, Nat.le_of_ble_eq_true rfl, Nat.le_of_ble_eq_true rfl⟩ rfl (Nat.le_of_ble_eq_true rfl) (ok_X8_copyFrom (G := zs G) (hz := hz) e27) ?_
        show X G t_X10_load [] 73 [some (.ref a0), some (.int a1), some (.int v9)] [] M26 0 0 _
        refine X.aload_n (x := a0) (pc' := 74) dX10_load_73 rfl rfl rfl ?_
        obtain ⟨r29, e30, h⟩ := bindE h
        refine X.getf (pc' := 77) dX10_load_74 rfl fq_X10_10 (gP_spec e30) ?_
        obtain ⟨r31, e32, h⟩ := bindE h
        refine X.getf (pc' := 80) dX10_load_77 rfl fq_X10_39 (gP_spec e32) ?_
        obtain ⟨v33, e34, h⟩ := bindE h
        refine X.getf (pc' := 83) dX10_load_80 rfl fq_X10_115 (gI_spec e34) ?_
        cases h
        exact X.iret (ty := .int) dX10_load_83 rfl rfl (Nat.le_of_ble_eq_true rfl) (Nat.le_of_ble_eq_true rfl) rfl
      · rw [if_pos hc] at h
        refine X.aload_n (x := a0) (pc' := 51) dX10_load_50 rfl rfl rfl ?_
        obtain ⟨r35, e36, h⟩ := bindE h
        refine X.getf (pc' := 54) dX10_load_51 rfl fq_X10_30 (gP_spec e36) ?_
        obtain ⟨v37, e38, h⟩ := bindE h
        refine X.getf (pc' := 57) dX10_load_54 rfl fq_X10_106 (gI_spec e38) ?_
        cases h
        exact X.iret (ty := .int) dX10_load_57 rfl rfl (Nat.le_of_ble_eq_true rfl) (Nat.le_of_ble_eq_true rfl) rfl
    · rw [if_neg hc] at h
      cases h
      exact X.thr (tx := "the text buffer has not this length") dX10_load_15 dX10_load_18 dX10_load_19 dX10_load_21 dX10_load_24 rfl th_X10_97_101 (by decide +kernel) (Nat.le_of_ble_eq_true rfl) (Nat.le_of_ble_eq_true rfl) (Nat.le_of_ble_eq_true rfl) (Nat.le_of_ble_eq_true rfl) rfl
def f_X10_errorPosition (fu : Nat) (a0 : Nat) (M : List Ob) : Option (Int32 × List Ob) :=
  (gP M a0 10 2).bind fun r1 =>
  (gI M r1 9 5).bind fun v3 =>
  some (v3, M)
set_option maxHeartbeats 4000000 in
theorem ok_X10_errorPosition {G : GT} {fu : Nat} {a0 : Nat} {M : List Ob} {out : Int32 × List Ob} (h : f_X10_errorPosition fu a0 M = some out) : Sp G t_X10_errorPosition [.ref a0] M (oI out) := by
  refine Sp.of rfl (by decide +kernel) (cat_all rfl) (Nat.le_of_ble_eq_true rfl) ?_
  show X G t_X10_errorPosition [] 0 [some (.ref a0)] [] M 0 0 (oI out)
  unfold f_X10_errorPosition at h
  refine X.aload_n (x := a0) (pc' := 1) dX10_errorPosition_0 rfl rfl rfl ?_
  obtain ⟨r1, e2, h⟩ := bindE h
  refine X.getf (pc' := 4) dX10_errorPosition_1 rfl fq_X10_30 (gP_spec e2) ?_
  obtain ⟨v3, e4, h⟩ := bindE h
  refine X.getf (pc' := 7) dX10_errorPosition_4 rfl fq_X10_120 (gI_spec e4) ?_
  cases h
  exact X.iret (ty := .int) dX10_errorPosition_7 rfl rfl (Nat.le_of_ble_eq_true rfl) (Nat.le_of_ble_eq_true rfl) rfl
def f_X10_count (fu : Nat) (a0 : Nat) (a1 : Int32) (M : List Ob) : Option ((Except String Int32) × List Ob) :=
  if a1 = 0 then ((gP M a0 10 0).bind fun r1 =>
  (gP M r1 8 0).bind fun r3 =>
  (gI M r3 4 0).bind fun v5 =>
  some (.ok v5, M))
  else if a1 = 1 then ((gP M a0 10 0).bind fun r7 =>
  (gP M r7 8 0).bind fun r9 =>
  (gI M r9 4 4).bind fun v11 =>
  some (.ok v11, M))
  else if a1 = 2 then ((gP M a0 10 0).bind fun r13 =>
  (gP M r13 8 0).bind fun r15 =>
  (gI M r15 4 1).bind fun v17 =>
  some (.ok v17, M))
  else if a1 = 3 then ((gP M a0 10 0).bind fun r19 =>
  (gP M r19 8 0).bind fun r21 =>
  (gI M r21 4 2).bind fun v23 =>
  some (.ok v23, M))
  else if a1 = 4 then ((gP M a0 10 0).bind fun r25 =>
  (gP M r25 8 0).bind fun r27 =>
  (gI M r27 4 3).bind fun v29 =>
  some (.ok v29, M))
  else if a1 = 5 then ((gP M a0 10 0).bind fun r31 =>
  (gI M r31 8 3).bind fun v33 =>
  some (.ok v33, M))
  else if a1 = 6 then ((gP M a0 10 0).bind fun r35 =>
  (gP M r35 8 1).bind fun r37 =>
  (gI M r37 5 1).bind fun v39 =>
  some (.ok v39, M))
  else if a1 = 7 then ((gP M a0 10 4).bind fun r41 =>
  (hasO M r41 7).bind fun _ =>
  bd2 (f_X7_countRoutes fu r41 M) fun v43 M44 =>
  some (.ok v43, M44))
  else if a1 = 8 then ((gP M a0 10 0).bind fun r47 =>
  (gP M r47 8 4).bind fun r49 =>
  (hasO M r49 2).bind fun _ =>
  bd2 (f_X2_nodeNow fu r49 M) fun v51 M52 =>
  some (.ok v51, M52))
  else if a1 = 9 then ((gP M a0 10 0).bind fun r55 =>
  (gP M r55 8 4).bind fun r57 =>
  (hasO M r57 2).bind fun _ =>
  bd2 (f_X2_timeNow fu r57 M) fun v59 M60 =>
  some (.ok v59, M60))
  else if a1 = 10 then ((gP M a0 10 0).bind fun r63 =>
  (gP M r63 8 4).bind fun r65 =>
  (hasO M r65 2).bind fun _ =>
  bd2 (f_X2_leftNow fu r65 M) fun v67 M68 =>
  some (.ok v67, M68))
  else if a1 = 11 then ((gP M a0 10 0).bind fun r71 =>
  (gP M r71 8 4).bind fun r73 =>
  (gI M r73 2 0).bind fun v75 =>
  some (.ok v75, M))
  else (some (.error "java/lang/IllegalArgumentException", M))
set_option maxHeartbeats 4000000 in
theorem ok_X10_count {G : GT} (hz : gZ G = false) {fu : Nat} {a0 : Nat} {a1 : Int32} {M : List Ob} {out : (Except String Int32) × List Ob} (h : f_X10_count fu a0 a1 M = some out) : Sq G t_X10_count [.ref a0, .int a1] M (xI out) := by
  refine Sq.of rfl (by decide +kernel) (cat_all rfl) (Nat.le_of_ble_eq_true rfl) ?_
  show X G t_X10_count [] 0 [some (.ref a0), some (.int a1)] [] M 0 0 (xI out)
  unfold f_X10_count at h
  refine X.iload_n (x := a1) (pc' := 1) dX10_count_0 rfl rfl rfl ?_
  by_cases hc0 : a1 = 0
  · rw [if_pos hc0] at h
    refine X.tableIn (off := 63) (pc' := 64) dX10_count_1 (by rw [hc0]; decide) (by rw [hc0]; decide) (by rw [hc0]; rfl) (by decide) ?_
    refine X.aload_n (x := a0) (pc' := 65) dX10_count_64 rfl rfl rfl ?_
    obtain ⟨r1, e2, h⟩ := bindE h
    refine X.getf (pc' := 68) dX10_count_65 rfl fq_X10_10 (gP_spec e2) ?_
    obtain ⟨r3, e4, h⟩ := bindE h
    refine X.getf (pc' := 71) dX10_count_68 rfl fq_X10_39 (gP_spec e4) ?_
    obtain ⟨v5, e6, h⟩ := bindE h
    refine X.getf (pc' := 74) dX10_count_71 rfl fq_X10_123 (gI_spec e6) ?_
    cases h
    exact X.iret (ty := .int) dX10_count_74 rfl rfl (Nat.le_of_ble_eq_true rfl) (Nat.le_of_ble_eq_true rfl) rfl
  rw [if_neg hc0] at h
  by_cases hc1 : a1 = 1
  · rw [if_pos hc1] at h
    refine X.tableIn (off := 74) (pc' := 75) dX10_count_1 (by rw [hc1]; decide) (by rw [hc1]; decide) (by rw [hc1]; rfl) (by decide) ?_
    refine X.aload_n (x := a0) (pc' := 76) dX10_count_75 rfl rfl rfl ?_
    obtain ⟨r7, e8, h⟩ := bindE h
    refine X.getf (pc' := 79) dX10_count_76 rfl fq_X10_10 (gP_spec e8) ?_
    obtain ⟨r9, e10, h⟩ := bindE h
    refine X.getf (pc' := 82) dX10_count_79 rfl fq_X10_39 (gP_spec e10) ?_
    obtain ⟨v11, e12, h⟩ := bindE h
    refine X.getf (pc' := 85) dX10_count_82 rfl fq_X10_115 (gI_spec e12) ?_
    cases h
    exact X.iret (ty := .int) dX10_count_85 rfl rfl (Nat.le_of_ble_eq_true rfl) (Nat.le_of_ble_eq_true rfl) rfl
  rw [if_neg hc1] at h
  by_cases hc2 : a1 = 2
  · rw [if_pos hc2] at h
    refine X.tableIn (off := 85) (pc' := 86) dX10_count_1 (by rw [hc2]; decide) (by rw [hc2]; decide) (by rw [hc2]; rfl) (by decide) ?_
    refine X.aload_n (x := a0) (pc' := 87) dX10_count_86 rfl rfl rfl ?_
    obtain ⟨r13, e14, h⟩ := bindE h
    refine X.getf (pc' := 90) dX10_count_87 rfl fq_X10_10 (gP_spec e14) ?_
    obtain ⟨r15, e16, h⟩ := bindE h
    refine X.getf (pc' := 93) dX10_count_90 rfl fq_X10_39 (gP_spec e16) ?_
    obtain ⟨v17, e18, h⟩ := bindE h
    refine X.getf (pc' := 96) dX10_count_93 rfl fq_X10_126 (gI_spec e18) ?_
    cases h
    exact X.iret (ty := .int) dX10_count_96 rfl rfl (Nat.le_of_ble_eq_true rfl) (Nat.le_of_ble_eq_true rfl) rfl
  rw [if_neg hc2] at h
  by_cases hc3 : a1 = 3
  · rw [if_pos hc3] at h
    refine X.tableIn (off := 96) (pc' := 97) dX10_count_1 (by rw [hc3]; decide) (by rw [hc3]; decide) (by rw [hc3]; rfl) (by decide) ?_
    refine X.aload_n (x := a0) (pc' := 98) dX10_count_97 rfl rfl rfl ?_
    obtain ⟨r19, e20, h⟩ := bindE h
    refine X.getf (pc' := 101) dX10_count_98 rfl fq_X10_10 (gP_spec e20) ?_
    obtain ⟨r21, e22, h⟩ := bindE h
    refine X.getf (pc' := 104) dX10_count_101 rfl fq_X10_39 (gP_spec e22) ?_
    obtain ⟨v23, e24, h⟩ := bindE h
    refine X.getf (pc' := 107) dX10_count_104 rfl fq_X10_129 (gI_spec e24) ?_
    cases h
    exact X.iret (ty := .int) dX10_count_107 rfl rfl (Nat.le_of_ble_eq_true rfl) (Nat.le_of_ble_eq_true rfl) rfl
  rw [if_neg hc3] at h
  by_cases hc4 : a1 = 4
  · rw [if_pos hc4] at h
    refine X.tableIn (off := 107) (pc' := 108) dX10_count_1 (by rw [hc4]; decide) (by rw [hc4]; decide) (by rw [hc4]; rfl) (by decide) ?_
    refine X.aload_n (x := a0) (pc' := 109) dX10_count_108 rfl rfl rfl ?_
    obtain ⟨r25, e26, h⟩ := bindE h
    refine X.getf (pc' := 112) dX10_count_109 rfl fq_X10_10 (gP_spec e26) ?_
    obtain ⟨r27, e28, h⟩ := bindE h
    refine X.getf (pc' := 115) dX10_count_112 rfl fq_X10_39 (gP_spec e28) ?_
    obtain ⟨v29, e30, h⟩ := bindE h
    refine X.getf (pc' := 118) dX10_count_115 rfl fq_X10_132 (gI_spec e30) ?_
    cases h
    exact X.iret (ty := .int) dX10_count_118 rfl rfl (Nat.le_of_ble_eq_true rfl) (Nat.le_of_ble_eq_true rfl) rfl
  rw [if_neg hc4] at h
  by_cases hc5 : a1 = 5
  · rw [if_pos hc5] at h
    refine X.tableIn (off := 118) (pc' := 119) dX10_count_1 (by rw [hc5]; decide) (by rw [hc5]; decide) (by rw [hc5]; rfl) (by decide) ?_
    refine X.aload_n (x := a0) (pc' := 120) dX10_count_119 rfl rfl rfl ?_
    obtain ⟨r31, e32, h⟩ := bindE h
    refine X.getf (pc' := 123) dX10_count_120 rfl fq_X10_10 (gP_spec e32) ?_
    obtain ⟨v33, e34, h⟩ := bindE h
    refine X.getf (pc' := 126) dX10_count_123 rfl fq_X10_135 (gI_spec e34) ?_
    cases h
    exact X.iret (ty := .int) dX10_count_126 rfl rfl (Nat.le_of_ble_eq_true rfl) (Nat.le_of_ble_eq_true rfl) rfl
  rw [if_neg hc5] at h
  by_cases hc6 : a1 = 6
  · rw [if_pos hc6] at h
    refine X.tableIn (off := 126) (pc' := 127) dX10_count_1 (by rw [hc6]; decide) (by rw [hc6]; decide) (by rw [hc6]; rfl) (by decide) ?_
    refine X.aload_n (x := a0) (pc' := 128) dX10_count_127 rfl rfl rfl ?_
    obtain ⟨r35, e36, h⟩ := bindE h
    refine X.getf (pc' := 131) dX10_count_128 rfl fq_X10_10 (gP_spec e36) ?_
    obtain ⟨r37, e38, h⟩ := bindE h
    refine X.getf (pc' := 134) dX10_count_131 rfl fq_X10_138 (gP_spec e38) ?_
    obtain ⟨v39, e40, h⟩ := bindE h
    refine X.getf (pc' := 137) dX10_count_134 rfl fq_X10_142 (gI_spec e40) ?_
    cases h
    exact X.iret (ty := .int) dX10_count_137 rfl rfl (Nat.le_of_ble_eq_true rfl) (Nat.le_of_ble_eq_true rfl) rfl
  rw [if_neg hc6] at h
  by_cases hc7 : a1 = 7
  · rw [if_pos hc7] at h
    refine X.tableIn (off := 137) (pc' := 138) dX10_count_1 (by rw [hc7]; decide) (by rw [hc7]; decide) (by rw [hc7]; rfl) (by decide) ?_
    refine X.aload_n (x := a0) (pc' := 139) dX10_count_138 rfl rfl rfl ?_
    obtain ⟨r41, e42, h⟩ := bindE h
    refine X.getf (pc' := 142) dX10_count_139 rfl fq_X10_46 (gP_spec e42) ?_
    obtain ⟨⟨⟩, e46, h⟩ := bindE h
    obtain ⟨v43, M44, e45, h⟩ := bd2E h
    refine X.callV (b := r41) (v := some (.int v43)) (As := []) (st := []) (M' := M44) (pc' := 145) dX10_count_142 rfl cl_X10_147 mi_X7_countRoutes me_X7_countRoutes mr_X7_countRoutes e46 ⟨⟨Nat.le_of_ble_eq_true rfl, Nat.le_of_ble_eq_true rfl⟩, Nat.le_of_ble_eq_true rfl, Nat.le_of_ble_eq_true rfl⟩ rfl (Nat.le_of_ble_eq_true rfl) (ok_X7_countRoutes (G := zs G) e45) ?_
    show X G t_X10_count [] 145 [some (.ref a0), some (.int a1)] [.int v43] M44 0 0 _
    cases h
    exact X.iret (ty := .int) dX10_count_145 rfl rfl (Nat.le_of_ble_eq_true rfl) (Nat.le_of_ble_eq_true rfl) rfl
  rw [if_neg hc7] at h
  by_cases hc8 : a1 = 8
  · rw [if_pos hc8] at h
    refine X.tableIn (off := 145) (pc' := 146) dX10_count_1 (by rw [hc8]; decide) (by rw [hc8]; decide) (by rw [hc8]; rfl) (by decide) ?_
    refine X.aload_n (x := a0) (pc' := 147) dX10_count_146 rfl rfl rfl ?_
    obtain ⟨r47, e48, h⟩ := bindE h
    refine X.getf (pc' := 150) dX10_count_147 rfl fq_X10_10 (gP_spec e48) ?_
    obtain ⟨r49, e50, h⟩ := bindE h
    refine X.getf (pc' := 153) dX10_count_150 rfl fq_X10_151 (gP_spec e50) ?_
    obtain ⟨⟨⟩, e54, h⟩ := bindE h
    obtain ⟨v51, M52, e53, h⟩ := bd2E h
    refine X.callV (b := r49) (v := some (.int v51)) (As := []) (st := []) (M' := M52) (pc' := 156) dX10_count_153 rfl cl_X10_155 mi_X2_nodeNow me_X2_nodeNow mr_X2_nodeNow e54 ⟨⟨Nat.le_of_ble_eq_true rfl, Nat.le_of_ble_eq_true rfl⟩, Nat.le_of_ble_eq_true rfl, Nat.le_of_ble_eq_true rfl⟩ rfl (Nat.le_of_ble_eq_true rfl) (ok_X2_nodeNow (G := zs G) e53) ?_
    show X G t_X10_count [] 156 [some (.ref a0), some (.int a1)] [.int v51] M52 0 0 _
    cases h
    exact X.iret (ty := .int) dX10_count_156 rfl rfl (Nat.le_of_ble_eq_true rfl) (Nat.le_of_ble_eq_true rfl) rfl
  rw [if_neg hc8] at h
  by_cases hc9 : a1 = 9
  · rw [if_pos hc9] at h
    refine X.tableIn (off := 156) (pc' := 157) dX10_count_1 (by rw [hc9]; decide) (by rw [hc9]; decide) (by rw [hc9]; rfl) (by decide) ?_
    refine X.aload_n (x := a0) (pc' := 158) dX10_count_157 rfl rfl rfl ?_
    obtain ⟨r55, e56, h⟩ := bindE h
    refine X.getf (pc' := 161) dX10_count_158 rfl fq_X10_10 (gP_spec e56) ?_
    obtain ⟨r57, e58, h⟩ := bindE h
    refine X.getf (pc' := 164) dX10_count_161 rfl fq_X10_151 (gP_spec e58) ?_
    obtain ⟨⟨⟩, e62, h⟩ := bindE h
    obtain ⟨v59, M60, e61, h⟩ := bd2E h
    refine X.callV (b := r57) (v := some (.int v59)) (As := []) (st := []) (M' := M60) (pc' := 167) dX10_count_164 rfl cl_X10_160 mi_X2_timeNow me_X2_timeNow mr_X2_timeNow e62 ⟨⟨Nat.le_of_ble_eq_true rfl, Nat.le_of_ble_eq_true rfl⟩, Nat.le_of_ble_eq_true rfl, Nat.le_of_ble_eq_true rfl⟩ rfl (Nat.le_of_ble_eq_true rfl) (ok_X2_timeNow (G := zs G) e61) ?_
    show X G t_X10_count [] 167 [some (.ref a0), some (.int a1)] [.int v59] M60 0 0 _
    cases h
    exact X.iret (ty := .int) dX10_count_167 rfl rfl (Nat.le_of_ble_eq_true rfl) (Nat.le_of_ble_eq_true rfl) rfl
  rw [if_neg hc9] at h
  by_cases hc10 : a1 = 10
  · rw [if_pos hc10] at h
    refine X.tableIn (off := 167) (pc' := 168) dX10_count_1 (by rw [hc10]; decide) (by rw [hc10]; decide) (by rw [hc10]; rfl) (by decide) ?_
    refine X.aload_n (x := a0) (pc' := 169) dX10_count_168 rfl rfl rfl ?_
    obtain ⟨r63, e64, h⟩ := bindE h
    refine X.getf (pc' := 172) dX10_count_169 rfl fq_X10_10 (gP_spec e64) ?_
    obtain ⟨r65, e66, h⟩ := bindE h
    refine X.getf (pc' := 175) dX10_count_172 rfl fq_X10_151 (gP_spec e66) ?_
    obtain ⟨⟨⟩, e70, h⟩ := bindE h
    obtain ⟨v67, M68, e69, h⟩ := bd2E h
    refine X.callV (b := r65) (v := some (.int v67)) (As := []) (st := []) (M' := M68) (pc' := 178) dX10_count_175 rfl cl_X10_163 mi_X2_leftNow me_X2_leftNow mr_X2_leftNow e70 ⟨⟨Nat.le_of_ble_eq_true rfl, Nat.le_of_ble_eq_true rfl⟩, Nat.le_of_ble_eq_true rfl, Nat.le_of_ble_eq_true rfl⟩ rfl (Nat.le_of_ble_eq_true rfl) (ok_X2_leftNow (G := zs G) e69) ?_
    show X G t_X10_count [] 178 [some (.ref a0), some (.int a1)] [.int v67] M68 0 0 _
    cases h
    exact X.iret (ty := .int) dX10_count_178 rfl rfl (Nat.le_of_ble_eq_true rfl) (Nat.le_of_ble_eq_true rfl) rfl
  rw [if_neg hc10] at h
  by_cases hc11 : a1 = 11
  · rw [if_pos hc11] at h
    refine X.tableIn (off := 178) (pc' := 179) dX10_count_1 (by rw [hc11]; decide) (by rw [hc11]; decide) (by rw [hc11]; rfl) (by decide) ?_
    refine X.aload_n (x := a0) (pc' := 180) dX10_count_179 rfl rfl rfl ?_
    obtain ⟨r71, e72, h⟩ := bindE h
    refine X.getf (pc' := 183) dX10_count_180 rfl fq_X10_10 (gP_spec e72) ?_
    obtain ⟨r73, e74, h⟩ := bindE h
    refine X.getf (pc' := 186) dX10_count_183 rfl fq_X10_151 (gP_spec e74) ?_
    obtain ⟨v75, e76, h⟩ := bindE h
    refine X.getf (pc' := 189) dX10_count_186 rfl fq_X10_166 (gI_spec e76) ?_
    cases h
    exact X.iret (ty := .int) dX10_count_189 rfl rfl (Nat.le_of_ble_eq_true rfl) (Nat.le_of_ble_eq_true rfl) rfl
  rw [if_neg hc11] at h
  refine X.tableOut (pc' := 190) dX10_count_1 (sw_out (n := 11) (by decide) (fun j hj => match j, hj with | 0, _ => hc0 | 1, _ => hc1 | 2, _ => hc2 | 3, _ => hc3 | 4, _ => hc4 | 5, _ => hc5 | 6, _ => hc6 | 7, _ => hc7 | 8, _ => hc8 | 9, _ => hc9 | 10, _ => hc10 | 11, _ => hc11 | j + 12, hj => absurd hj (by omega))) (by decide) ?_
  cases h
  exact X.thr (tx := "no such number of the network") dX10_count_190 dX10_count_193 dX10_count_194 dX10_count_196 dX10_count_199 rfl th_X10_97_101 (by decide +kernel) (Nat.le_of_ble_eq_true rfl) (Nat.le_of_ble_eq_true rfl) (Nat.le_of_ble_eq_true rfl) (Nat.le_of_ble_eq_true rfl) rfl
def f_X10_requireArc (fu : Nat) (a0 : Nat) (a1 : Int32) (M : List Ob) : Option ((Except String Unit) × List Ob) :=
  if a1 < 0 then (some (.error "java/lang/IndexOutOfBoundsException", M))
  else ((gP M a0 10 0).bind fun r1 =>
  (gP M r1 8 0).bind fun r3 =>
  (gI M r3 4 4).bind fun v5 =>
  if a1 < v5 then (some (.ok (), M))
  else (some (.error "java/lang/IndexOutOfBoundsException", M)))
set_option maxHeartbeats 4000000 in
theorem ok_X10_requireArc {G : GT} (hz : gZ G = false) {fu : Nat} {a0 : Nat} {a1 : Int32} {M : List Ob} {out : (Except String Unit) × List Ob} (h : f_X10_requireArc fu a0 a1 M = some out) : Sq G t_X10_requireArc [.ref a0, .int a1] M (xU out) := by
  refine Sq.of rfl (by decide +kernel) (cat_all rfl) (Nat.le_of_ble_eq_true rfl) ?_
  show X G t_X10_requireArc [] 0 [some (.ref a0), some (.int a1)] [] M 0 0 (xU out)
  unfold f_X10_requireArc at h
  refine X.iload_n (x := a1) (pc' := 1) dX10_requireArc_0 rfl rfl rfl ?_
  refine X.if_lt (tgt := 18) (pc' := 4) dX10_requireArc_1 (by decide) rfl (fun hc => ?_) (fun hc => ?_)
  · rw [if_pos hc] at h
    cases h
    exact X.thrW (tx := "the arc does not exist") dX10_requireArc_18 dX10_requireArc_21 dX10_requireArc_22 dX10_requireArc_25 dX10_requireArc_28 rfl th_X10_340_344 (by decide +kernel) (Nat.le_of_ble_eq_true rfl) (Nat.le_of_ble_eq_true rfl) (Nat.le_of_ble_eq_true rfl) (Nat.le_of_ble_eq_true rfl) rfl
  · rw [if_neg hc] at h
    refine X.iload_n (x := a1) (pc' := 5) dX10_requireArc_4 rfl rfl rfl ?_
    refine X.aload_n (x := a0) (pc' := 6) dX10_requireArc_5 rfl rfl rfl ?_
    obtain ⟨r1, e2, h⟩ := bindE h
    refine X.getf (pc' := 9) dX10_requireArc_6 rfl fq_X10_10 (gP_spec e2) ?_
    obtain ⟨r3, e4, h⟩ := bindE h
    refine X.getf (pc' := 12) dX10_requireArc_9 rfl fq_X10_39 (gP_spec e4) ?_
    obtain ⟨v5, e6, h⟩ := bindE h
    refine X.getf (pc' := 15) dX10_requireArc_12 rfl fq_X10_115 (gI_spec e6) ?_
    refine X.icmp_lt (tgt := 29) (pc' := 18) dX10_requireArc_15 (by decide) rfl (fun hc => ?_) (fun hc => ?_)
    · rw [if_pos hc] at h
      cases h
      exact X.vret dX10_requireArc_29 rfl (Nat.le_of_ble_eq_true rfl) (Nat.le_of_ble_eq_true rfl) rfl
    · rw [if_neg hc] at h
      cases h
      exact X.thrW (tx := "the arc does not exist") dX10_requireArc_18 dX10_requireArc_21 dX10_requireArc_22 dX10_requireArc_25 dX10_requireArc_28 rfl th_X10_340_344 (by decide +kernel) (Nat.le_of_ble_eq_true rfl) (Nat.le_of_ble_eq_true rfl) (Nat.le_of_ble_eq_true rfl) (Nat.le_of_ble_eq_true rfl) rfl
def f_X10_arc (fu : Nat) (a0 : Nat) (a1 : Int32) (a2 : Int32) (M : List Ob) : Option ((Except String Int32) × List Ob) :=
  (hasO M a0 10).bind fun _ =>
  bdX (f_X10_requireArc fu a0 a1 M) fun _ M2 =>
  if a2 = 0 then ((gP M2 a0 10 0).bind fun r6 =>
  (gP M2 r6 8 0).bind fun r8 =>
  (gP M2 r8 4 5).bind fun r10 =>
  (aI M2 r10 13 a1).bind fun v13 =>
  some (.ok v13, M2))
  else if a2 = 1 then ((gP M2 a0 10 0).bind fun r14 =>
  (gP M2 r14 8 0).bind fun r16 =>
  (gP M2 r16 4 6).bind fun r18 =>
  (aI M2 r18 13 a1).bind fun v21 =>
  some (.ok v21, M2))
  else if a2 = 2 then ((gP M2 a0 10 0).bind fun r22 =>
  (gP M2 r22 8 0).bind fun r24 =>
  (gP M2 r24 4 7).bind fun r26 =>
  (aI M2 r26 13 a1).bind fun v29 =>
  some (.ok v29, M2))
  else if a2 = 3 then ((gP M2 a0 10 0).bind fun r30 =>
  (gP M2 r30 8 0).bind fun r32 =>
  (gP M2 r32 4 8).bind fun r34 =>
  (aI M2 r34 13 a1).bind fun v37 =>
  some (.ok v37, M2))
  else (some (.error "java/lang/IllegalArgumentException", M2))
set_option maxHeartbeats 4000000 in
theorem ok_X10_arc {G : GT} (hz : gZ G = false) {fu : Nat} {a0 : Nat} {a1 : Int32} {a2 : Int32} {M : List Ob} {out : (Except String Int32) × List Ob} (h : f_X10_arc fu a0 a1 a2 M = some out) : Sq G t_X10_arc [.ref a0, .int a1, .int a2] M (xI out) := by
  refine Sq.of rfl (by decide +kernel) (cat_all rfl) (Nat.le_of_ble_eq_true rfl) ?_
  show X G t_X10_arc [] 0 [some (.ref a0), some (.int a1), some (.int a2)] [] M 0 0 (xI out)
  unfold f_X10_arc at h
  refine X.aload_n (x := a0) (pc' := 1) dX10_arc_0 rfl rfl rfl ?_
  refine X.iload_n (x := a1) (pc' := 2) dX10_arc_1 rfl rfl rfl ?_
  obtain ⟨⟨⟩, e4, h⟩ := bindE h
  rcases bdXE h with ⟨r1, M2, e3, h⟩ | ⟨E5, M2, e3, h⟩
  rotate_left
  · subst h
    exact X.callVx (b := a0) (As := [.int a1]) (st := []) (M' := M2) dX10_arc_2 cl_X10_171 mi_X10_requireArc me_X10_requireArc mr_X10_requireArc e4 ⟨⟨Nat.le_of_ble_eq_true rfl, Nat.le_of_ble_eq_true rfl⟩, Nat.le_of_ble_eq_true rfl, Nat.le_of_ble_eq_true rfl⟩ rfl (Nat.le_of_ble_eq_true rfl) hz rfl (ok_X10_requireArc (G := zs G) (hz := hz) e3) rfl
  refine X.callVq (b := a0) (v := none) (As := [.int a1]) (st := []) (M' := M2) (pc' := 5) dX10_arc_2 rfl cl_X10_171 mi_X10_requireArc me_X10_requireArc mr_X10_requireArc e4 ⟨⟨Nat.le_of_ble_eq_true rfl, Nat.le_of_ble_eq_true rfl⟩, Nat.le_of_ble_eq_true rfl, Nat.le_of_ble_eq_true rfl⟩ rfl (Nat.le_of_ble_eq_true rfl) (ok_X10_requireArc (G := zs G) (hz := hz) e3) ?_
  show X G t_X10_arc [] 5 [some (.ref a0), some (.int a1), some (.int a2)] [] M2 1 6 _
  refine X.iload_n (x := a2) (pc' := 6) dX10_arc_5 rfl rfl rfl ?_
  by_cases hc0 : a2 = 0
  · rw [if_pos hc0] at h
    refine X.tableIn (off := 30) (pc' := 36) dX10_arc_6 (by rw [hc0]; decide) (by rw [hc0]; decide) (by rw [hc0]; rfl) (by decide) ?_
    refine X.aload_n (x := a0) (pc' := 37) dX10_arc_36 rfl rfl rfl ?_
    obtain ⟨r6, e7, h⟩ := bindE h
    refine X.getf (pc' := 40) dX10_arc_37 rfl fq_X10_10 (gP_spec e7) ?_
    obtain ⟨r8, e9, h⟩ := bindE h
    refine X.getf (pc' := 43) dX10_arc_40 rfl fq_X10_39 (gP_spec e9) ?_
    obtain ⟨r10, e11, h⟩ := bindE h
    refine X.getf (pc' := 46) dX10_arc_43 rfl fq_X10_174 (gP_spec e11) ?_
    refine X.iload_n (x := a1) (pc' := 47) dX10_arc_46 rfl rfl rfl ?_
    obtain ⟨v13, e12, h⟩ := bindE h
    refine X.iald (pc' := 48) dX10_arc_47 rfl e12 ?_
    cases h
    exact X.iret (ty := .int) dX10_arc_48 rfl rfl (Nat.le_of_ble_eq_true rfl) (Nat.le_of_ble_eq_true rfl) rfl
  rw [if_neg hc0] at h
  by_cases hc1 : a2 = 1
  · rw [if_pos hc1] at h
    refine X.tableIn (off := 43) (pc' := 49) dX10_arc_6 (by rw [hc1]; decide) (by rw [hc1]; decide) (by rw [hc1]; rfl) (by decide) ?_
    refine X.aload_n (x := a0) (pc' := 50) dX10_arc_49 rfl rfl rfl ?_
    obtain ⟨r14, e15, h⟩ := bindE h
    refine X.getf (pc' := 53) dX10_arc_50 rfl fq_X10_10 (gP_spec e15) ?_
    obtain ⟨r16, e17, h⟩ := bindE h
    refine X.getf (pc' := 56) dX10_arc_53 rfl fq_X10_39 (gP_spec e17) ?_
    obtain ⟨r18, e19, h⟩ := bindE h
    refine X.getf (pc' := 59) dX10_arc_56 rfl fq_X10_178 (gP_spec e19) ?_
    refine X.iload_n (x := a1) (pc' := 60) dX10_arc_59 rfl rfl rfl ?_
    obtain ⟨v21, e20, h⟩ := bindE h
    refine X.iald (pc' := 61) dX10_arc_60 rfl e20 ?_
    cases h
    exact X.iret (ty := .int) dX10_arc_61 rfl rfl (Nat.le_of_ble_eq_true rfl) (Nat.le_of_ble_eq_true rfl) rfl
  rw [if_neg hc1] at h
  by_cases hc2 : a2 = 2
  · rw [if_pos hc2] at h
    refine X.tableIn (off := 56) (pc' := 62) dX10_arc_6 (by rw [hc2]; decide) (by rw [hc2]; decide) (by rw [hc2]; rfl) (by decide) ?_
    refine X.aload_n (x := a0) (pc' := 63) dX10_arc_62 rfl rfl rfl ?_
    obtain ⟨r22, e23, h⟩ := bindE h
    refine X.getf (pc' := 66) dX10_arc_63 rfl fq_X10_10 (gP_spec e23) ?_
    obtain ⟨r24, e25, h⟩ := bindE h
    refine X.getf (pc' := 69) dX10_arc_66 rfl fq_X10_39 (gP_spec e25) ?_
    obtain ⟨r26, e27, h⟩ := bindE h
    refine X.getf (pc' := 72) dX10_arc_69 rfl fq_X10_181 (gP_spec e27) ?_
    refine X.iload_n (x := a1) (pc' := 73) dX10_arc_72 rfl rfl rfl ?_
    obtain ⟨v29, e28, h⟩ := bindE h
    refine X.iald (pc' := 74) dX10_arc_73 rfl e28 ?_
    cases h
    exact X.iret (ty := .int) dX10_arc_74 rfl rfl (Nat.le_of_ble_eq_true rfl) (Nat.le_of_ble_eq_true rfl) rfl
  rw [if_neg hc2] at h
  by_cases hc3 : a2 = 3
  · rw [if_pos hc3] at h
    refine X.tableIn (off := 69) (pc' := 75) dX10_arc_6 (by rw [hc3]; decide) (by rw [hc3]; decide) (by rw [hc3]; rfl) (by decide) ?_
    refine X.aload_n (x := a0) (pc' := 76) dX10_arc_75 rfl rfl rfl ?_
    obtain ⟨r30, e31, h⟩ := bindE h
    refine X.getf (pc' := 79) dX10_arc_76 rfl fq_X10_10 (gP_spec e31) ?_
    obtain ⟨r32, e33, h⟩ := bindE h
    refine X.getf (pc' := 82) dX10_arc_79 rfl fq_X10_39 (gP_spec e33) ?_
    obtain ⟨r34, e35, h⟩ := bindE h
    refine X.getf (pc' := 85) dX10_arc_82 rfl fq_X10_184 (gP_spec e35) ?_
    refine X.iload_n (x := a1) (pc' := 86) dX10_arc_85 rfl rfl rfl ?_
    obtain ⟨v37, e36, h⟩ := bindE h
    refine X.iald (pc' := 87) dX10_arc_86 rfl e36 ?_
    cases h
    exact X.iret (ty := .int) dX10_arc_87 rfl rfl (Nat.le_of_ble_eq_true rfl) (Nat.le_of_ble_eq_true rfl) rfl
  rw [if_neg hc3] at h
  refine X.tableOut (pc' := 88) dX10_arc_6 (sw_out (n := 3) (by decide) (fun j hj => match j, hj with | 0, _ => hc0 | 1, _ => hc1 | 2, _ => hc2 | 3, _ => hc3 | j + 4, hj => absurd hj (by omega))) (by decide) ?_
  cases h
  exact X.thr (tx := "no such number of an arc") dX10_arc_88 dX10_arc_91 dX10_arc_92 dX10_arc_94 dX10_arc_97 rfl th_X10_97_101 (by decide +kernel) (Nat.le_of_ble_eq_true rfl) (Nat.le_of_ble_eq_true rfl) (Nat.le_of_ble_eq_true rfl) (Nat.le_of_ble_eq_true rfl) rfl
def f_X10_requireNode (fu : Nat) (a0 : Nat) (a1 : Int32) (M : List Ob) : Option ((Except String Unit) × List Ob) :=
  if a1 < 0 then (some (.error "java/lang/IndexOutOfBoundsException", M))
  else ((gP M a0 10 0).bind fun r1 =>
  (gP M r1 8 0).bind fun r3 =>
  (gI M r3 4 0).bind fun v5 =>
  if a1 < v5 then (some (.ok (), M))
  else (some (.error "java/lang/IndexOutOfBoundsException", M)))
set_option maxHeartbeats 4000000 in
theorem ok_X10_requireNode {G : GT} (hz : gZ G = false) {fu : Nat} {a0 : Nat} {a1 : Int32} {M : List Ob} {out : (Except String Unit) × List Ob} (h : f_X10_requireNode fu a0 a1 M = some out) : Sq G t_X10_requireNode [.ref a0, .int a1] M (xU out) := by
  refine Sq.of rfl (by decide +kernel) (cat_all rfl) (Nat.le_of_ble_eq_true rfl) ?_
  show X G t_X10_requireNode [] 0 [some (.ref a0), some (.int a1)] [] M 0 0 (xU out)
  unfold f_X10_requireNode at h
  refine X.iload_n (x := a1) (pc' := 1) dX10_requireNode_0 rfl rfl rfl ?_
  refine X.if_lt (tgt := 18) (pc' := 4) dX10_requireNode_1 (by decide) rfl (fun hc => ?_) (fun hc => ?_)
  · rw [if_pos hc] at h
    cases h
    exact X.thrW (tx := "the node does not exist") dX10_requireNode_18 dX10_requireNode_21 dX10_requireNode_22 dX10_requireNode_25 dX10_requireNode_28 rfl th_X10_340_344 (by decide +kernel) (Nat.le_of_ble_eq_true rfl) (Nat.le_of_ble_eq_true rfl) (Nat.le_of_ble_eq_true rfl) (Nat.le_of_ble_eq_true rfl) rfl
  · rw [if_neg hc] at h
    refine X.iload_n (x := a1) (pc' := 5) dX10_requireNode_4 rfl rfl rfl ?_
    refine X.aload_n (x := a0) (pc' := 6) dX10_requireNode_5 rfl rfl rfl ?_
    obtain ⟨r1, e2, h⟩ := bindE h
    refine X.getf (pc' := 9) dX10_requireNode_6 rfl fq_X10_10 (gP_spec e2) ?_
    obtain ⟨r3, e4, h⟩ := bindE h
    refine X.getf (pc' := 12) dX10_requireNode_9 rfl fq_X10_39 (gP_spec e4) ?_
    obtain ⟨v5, e6, h⟩ := bindE h
    refine X.getf (pc' := 15) dX10_requireNode_12 rfl fq_X10_123 (gI_spec e6) ?_
    refine X.icmp_lt (tgt := 29) (pc' := 18) dX10_requireNode_15 (by decide) rfl (fun hc => ?_) (fun hc => ?_)
    · rw [if_pos hc] at h
      cases h
      exact X.vret dX10_requireNode_29 rfl (Nat.le_of_ble_eq_true rfl) (Nat.le_of_ble_eq_true rfl) rfl
    · rw [if_neg hc] at h
      cases h
      exact X.thrW (tx := "the node does not exist") dX10_requireNode_18 dX10_requireNode_21 dX10_requireNode_22 dX10_requireNode_25 dX10_requireNode_28 rfl th_X10_340_344 (by decide +kernel) (Nat.le_of_ble_eq_true rfl) (Nat.le_of_ble_eq_true rfl) (Nat.le_of_ble_eq_true rfl) (Nat.le_of_ble_eq_true rfl) rfl
def f_X10_requireCosts (fu : Nat) (a0 : Int32) (a1 : Int32) (M : List Ob) : Option ((Except String Unit) × List Ob) :=
  if a0 < 0 then (some (.error "java/lang/IllegalArgumentException", M))
  else (if 99 < a0 then (some (.error "java/lang/IllegalArgumentException", M))
  else (if a1 < 0 then (some (.error "java/lang/IllegalArgumentException", M))
  else (if a1 ≤ 99 then (some (.ok (), M))
  else (some (.error "java/lang/IllegalArgumentException", M)))))
set_option maxHeartbeats 4000000 in
theorem ok_X10_requireCosts {G : GT} (hz : gZ G = false) {fu : Nat} {a0 : Int32} {a1 : Int32} {M : List Ob} {out : (Except String Unit) × List Ob} (h : f_X10_requireCosts fu a0 a1 M = some out) : Sq G t_X10_requireCosts [.int a0, .int a1] M (xU out) := by
  refine Sq.of rfl (by decide +kernel) (cat_all rfl) (Nat.le_of_ble_eq_true rfl) ?_
  show X G t_X10_requireCosts [] 0 [some (.int a0), some (.int a1)] [] M 0 0 (xU out)
  unfold f_X10_requireCosts at h
  refine X.iload_n (x := a0) (pc' := 1) dX10_requireCosts_0 rfl rfl rfl ?_
  refine X.if_lt (tgt := 20) (pc' := 4) dX10_requireCosts_1 (by decide) rfl (fun hc => ?_) (fun hc => ?_)
  · rw [if_pos hc] at h
    cases h
    exact X.thrW (tx := "a cost or an extra is 0 to 99") dX10_requireCosts_20 dX10_requireCosts_23 dX10_requireCosts_24 dX10_requireCosts_27 dX10_requireCosts_30 rfl th_X10_97_101 (by decide +kernel) (Nat.le_of_ble_eq_true rfl) (Nat.le_of_ble_eq_true rfl) (Nat.le_of_ble_eq_true rfl) (Nat.le_of_ble_eq_true rfl) rfl
  · rw [if_neg hc] at h
    refine X.iload_n (x := a0) (pc' := 5) dX10_requireCosts_4 rfl rfl rfl ?_
    refine X.bipush (v := 99) (pc' := 7) dX10_requireCosts_5 rfl (by decide) ?_
    refine X.icmp_gt (tgt := 20) (pc' := 10) dX10_requireCosts_7 (by decide) rfl (fun hc => ?_) (fun hc => ?_)
    · rw [if_pos hc] at h
      cases h
      exact X.thrW (tx := "a cost or an extra is 0 to 99") dX10_requireCosts_20 dX10_requireCosts_23 dX10_requireCosts_24 dX10_requireCosts_27 dX10_requireCosts_30 rfl th_X10_97_101 (by decide +kernel) (Nat.le_of_ble_eq_true rfl) (Nat.le_of_ble_eq_true rfl) (Nat.le_of_ble_eq_true rfl) (Nat.le_of_ble_eq_true rfl) rfl
    · rw [if_neg hc] at h
      refine X.iload_n (x := a1) (pc' := 11) dX10_requireCosts_10 rfl rfl rfl ?_
      refine X.if_lt (tgt := 20) (pc' := 14) dX10_requireCosts_11 (by decide) rfl (fun hc => ?_) (fun hc => ?_)
      · rw [if_pos hc] at h
        cases h
        exact X.thrW (tx := "a cost or an extra is 0 to 99") dX10_requireCosts_20 dX10_requireCosts_23 dX10_requireCosts_24 dX10_requireCosts_27 dX10_requireCosts_30 rfl th_X10_97_101 (by decide +kernel) (Nat.le_of_ble_eq_true rfl) (Nat.le_of_ble_eq_true rfl) (Nat.le_of_ble_eq_true rfl) (Nat.le_of_ble_eq_true rfl) rfl
      · rw [if_neg hc] at h
        refine X.iload_n (x := a1) (pc' := 15) dX10_requireCosts_14 rfl rfl rfl ?_
        refine X.bipush (v := 99) (pc' := 17) dX10_requireCosts_15 rfl (by decide) ?_
        refine X.icmp_le (tgt := 31) (pc' := 20) dX10_requireCosts_17 (by decide) rfl (fun hc => ?_) (fun hc => ?_)
        · rw [if_pos hc] at h
          cases h
          exact X.vret dX10_requireCosts_31 rfl (Nat.le_of_ble_eq_true rfl) (Nat.le_of_ble_eq_true rfl) rfl
        · rw [if_neg hc] at h
          cases h
          exact X.thrW (tx := "a cost or an extra is 0 to 99") dX10_requireCosts_20 dX10_requireCosts_23 dX10_requireCosts_24 dX10_requireCosts_27 dX10_requireCosts_30 rfl th_X10_97_101 (by decide +kernel) (Nat.le_of_ble_eq_true rfl) (Nat.le_of_ble_eq_true rfl) (Nat.le_of_ble_eq_true rfl) (Nat.le_of_ble_eq_true rfl) rfl
def f_X10_addArc (fu : Nat) (a0 : Nat) (a1 : Int32) (a2 : Int32) (a3 : Int32) (a4 : Int32) (M : List Ob) : Option ((Except String Int32) × List Ob) :=
  (hasO M a0 10).bind fun _ =>
  bdX (f_X10_requireNode fu a0 a1 M) fun _ M2 =>
  (hasO M2 a0 10).bind fun _ =>
  bdX (f_X10_requireNode fu a0 a2 M2) fun _ M7 =>
  if a1 = a2 then (some (.error "java/lang/IllegalArgumentException", M7))
  else (bdX (f_X10_requireCosts fu a3 a4 M7) fun _ M12 =>
  (gP M12 a0 10 0).bind fun r16 =>
  (gP M12 r16 8 0).bind fun r18 =>
  (gI M12 r18 4 4).bind fun v20 =>
  if v20 < 16 then ((hasO M12 a0 10).bind fun _ =>
  bd2 (f_X10_beginChange fu a0 M12) fun _ M23 =>
  (gP M23 a0 10 0).bind fun r26 =>
  (gP M23 r26 8 0).bind fun r28 =>
  (hasO M23 r28 4).bind fun _ =>
  bd2 (f_X4_addLast fu r28 a1 a2 a3 a4 M23) fun _ M31 =>
  (gP M31 a0 10 0).bind fun r34 =>
  (gP M31 r34 8 4).bind fun r36 =>
  (gP M31 a0 10 0).bind fun r38 =>
  (gP M31 r38 8 0).bind fun r40 =>
  (hasO M31 r36 2).bind fun _ =>
  bd2 (f_X2_begin fu r36 r40 M31) fun _ M43 =>
  (gP M43 a0 10 0).bind fun r46 =>
  (gP M43 r46 8 0).bind fun r48 =>
  (gI M43 r48 4 4).bind fun v50 =>
  some (.ok (v50 - 1), M43))
  else (some (.error "java/lang/IllegalStateException", M12)))
set_option maxHeartbeats 4000000 in
theorem ok_X10_addArc {G : GT} (hz : gZ G = false) {fu : Nat} {a0 : Nat} {a1 : Int32} {a2 : Int32} {a3 : Int32} {a4 : Int32} {M : List Ob} {out : (Except String Int32) × List Ob} (h : f_X10_addArc fu a0 a1 a2 a3 a4 M = some out) : Sq G t_X10_addArc [.ref a0, .int a1, .int a2, .int a3, .int a4] M (xI out) := by
  refine Sq.of rfl (by decide +kernel) (cat_all rfl) (Nat.le_of_ble_eq_true rfl) ?_
  show X G t_X10_addArc [] 0 [some (.ref a0), some (.int a1), some (.int a2), some (.int a3), some (.int a4)] [] M 0 0 (xI out)
  unfold f_X10_addArc at h
  refine X.aload_n (x := a0) (pc' := 1) dX10_addArc_0 rfl rfl rfl ?_
  refine X.iload_n (x := a1) (pc' := 2) dX10_addArc_1 rfl rfl rfl ?_
  obtain ⟨⟨⟩, e4, h⟩ := bindE h
  rcases bdXE h with ⟨r1, M2, e3, h⟩ | ⟨E5, M2, e3, h⟩
  rotate_left
  · subst h
    exact X.callVx (b := a0) (As := [.int a1]) (st := []) (M' := M2) dX10_addArc_2 cl_X10_189 mi_X10_requireNode me_X10_requireNode mr_X10_requireNode e4 ⟨⟨Nat.le_of_ble_eq_true rfl, Nat.le_of_ble_eq_true rfl⟩, Nat.le_of_ble_eq_true rfl, Nat.le_of_ble_eq_true rfl⟩ rfl (Nat.le_of_ble_eq_true rfl) hz rfl (ok_X10_requireNode (G := zs G) (hz := hz) e3) rfl
  refine X.callVq (b := a0) (v := none) (As := [.int a1]) (st := []) (M' := M2) (pc' := 5) dX10_addArc_2 rfl cl_X10_189 mi_X10_requireNode me_X10_requireNode mr_X10_requireNode e4 ⟨⟨Nat.le_of_ble_eq_true rfl, Nat.le_of_ble_eq_true rfl⟩, Nat.le_of_ble_eq_true rfl, Nat.le_of_ble_eq_true rfl⟩ rfl (Nat.le_of_ble_eq_true rfl) (ok_X10_requireNode (G := zs G) (hz := hz) e3) ?_
  show X G t_X10_addArc [] 5 [some (.ref a0), some (.int a1), some (.int a2), some (.int a3), some (.int a4)] [] M2 1 6 _
  refine X.aload_n (x := a0) (pc' := 6) dX10_addArc_5 rfl rfl rfl ?_
  refine X.iload_n (x := a2) (pc' := 7) dX10_addArc_6 rfl rfl rfl ?_
  obtain ⟨⟨⟩, e9, h⟩ := bindE h
  rcases bdXE h with ⟨r6, M7, e8, h⟩ | ⟨E10, M7, e8, h⟩
  rotate_left
  · subst h
    exact X.callVx (b := a0) (As := [.int a2]) (st := []) (M' := M7) dX10_addArc_7 cl_X10_189 mi_X10_requireNode me_X10_requireNode mr_X10_requireNode e9 ⟨⟨Nat.le_of_ble_eq_true rfl, Nat.le_of_ble_eq_true rfl⟩, Nat.le_of_ble_eq_true rfl, Nat.le_of_ble_eq_true rfl⟩ rfl (Nat.le_of_ble_eq_true rfl) hz rfl (ok_X10_requireNode (G := zs G) (hz := hz) e8) rfl
  refine X.callVq (b := a0) (v := none) (As := [.int a2]) (st := []) (M' := M7) (pc' := 10) dX10_addArc_7 rfl cl_X10_189 mi_X10_requireNode me_X10_requireNode mr_X10_requireNode e9 ⟨⟨Nat.le_of_ble_eq_true rfl, Nat.le_of_ble_eq_true rfl⟩, Nat.le_of_ble_eq_true rfl, Nat.le_of_ble_eq_true rfl⟩ rfl (Nat.le_of_ble_eq_true rfl) (ok_X10_requireNode (G := zs G) (hz := hz) e8) ?_
  show X G t_X10_addArc [] 10 [some (.ref a0), some (.int a1), some (.int a2), some (.int a3), some (.int a4)] [] M7 2 12 _
  refine X.iload_n (x := a1) (pc' := 11) dX10_addArc_10 rfl rfl rfl ?_
  refine X.iload_n (x := a2) (pc' := 12) dX10_addArc_11 rfl rfl rfl ?_
  refine X.icmp_ne (tgt := 25) (pc' := 15) dX10_addArc_12 (by decide) rfl (fun hc => ?_) (fun hc => ?_)
  · rw [if_neg hc] at h
    refine X.iload_n (x := a3) (pc' := 26) dX10_addArc_25 rfl rfl rfl ?_
    refine X.iload (x := a4) (pc' := 28) dX10_addArc_26 rfl rfl ?_
    rcases bdXE h with ⟨r11, M12, e13, h⟩ | ⟨E15, M12, e13, h⟩
    rotate_left
    · subst h
      exact X.callSx (As := [.int a3, .int a4]) (st := []) (M' := M12) dX10_addArc_28 cl_X10_194 ms_X10_requireCosts ⟨⟨Nat.le_of_ble_eq_true rfl, Nat.le_of_ble_eq_true rfl⟩, Nat.le_of_ble_eq_true rfl, Nat.le_of_ble_eq_true rfl⟩ rfl (Nat.le_of_ble_eq_true rfl) hz rfl (ok_X10_requireCosts (G := zs G) (hz := hz) e13) rfl
    refine X.callSq (v := none) (As := [.int a3, .int a4]) (st := []) (M' := M12) (pc' := 31) dX10_addArc_28 rfl cl_X10_194 ms_X10_requireCosts ⟨⟨Nat.le_of_ble_eq_true rfl, Nat.le_of_ble_eq_true rfl⟩, Nat.le_of_ble_eq_true rfl, Nat.le_of_ble_eq_true rfl⟩ rfl (Nat.le_of_ble_eq_true rfl) (ok_X10_requireCosts (G := zs G) (hz := hz) e13) ?_
    show X G t_X10_addArc [] 31 [some (.ref a0), some (.int a1), some (.int a2), some (.int a3), some (.int a4)] [] M12 3 18 _
    refine X.aload_n (x := a0) (pc' := 32) dX10_addArc_31 rfl rfl rfl ?_
    obtain ⟨r16, e17, h⟩ := bindE h
    refine X.getf (pc' := 35) dX10_addArc_32 rfl fq_X10_10 (gP_spec e17) ?_
    obtain ⟨r18, e19, h⟩ := bindE h
    refine X.getf (pc' := 38) dX10_addArc_35 rfl fq_X10_39 (gP_spec e19) ?_
    obtain ⟨v20, e21, h⟩ := bindE h
    refine X.getf (pc' := 41) dX10_addArc_38 rfl fq_X10_115 (gI_spec e21) ?_
    refine X.bipush (v := 16) (pc' := 43) dX10_addArc_41 rfl (by decide) ?_
    refine X.icmp_lt (tgt := 56) (pc' := 46) dX10_addArc_43 (by decide) rfl (fun hc => ?_) (fun hc => ?_)
    · rw [if_pos hc] at h
      refine X.aload_n (x := a0) (pc' := 57) dX10_addArc_56 rfl rfl rfl ?_
      obtain ⟨⟨⟩, e25, h⟩ := bindE h
      obtain ⟨r22, M23, e24, h⟩ := bd2E h
      refine X.callV (b := a0) (v := none) (As := []) (st := []) (M' := M23) (pc' := 60) dX10_addArc_57 rfl cl_X10_109 mi_X10_beginChange me_X10_beginChange mr_X10_beginChange e25 ⟨⟨Nat.le_of_ble_eq_true rfl, Nat.le_of_ble_eq_true rfl⟩, Nat.le_of_ble_eq_true rfl, Nat.le_of_ble_eq_true rfl⟩ rfl (Nat.le_of_ble_eq_true rfl) (ok_X10_beginChange (G := zs G) (hz := hz) e24) ?_
      show X G t_X10_addArc [] 60 [some (.ref a0), some (.int a1), some (.int a2), some (.int a3), some (.int a4)] [] M23 3 18 _
      refine X.aload_n (x := a0) (pc' := 61) dX10_addArc_60 rfl rfl rfl ?_
      obtain ⟨r26, e27, h⟩ := bindE h
      refine X.getf (pc' := 64) dX10_addArc_61 rfl fq_X10_10 (gP_spec e27) ?_
      obtain ⟨r28, e29, h⟩ := bindE h
      refine X.getf (pc' := 67) dX10_addArc_64 rfl fq_X10_39 (gP_spec e29) ?_
      refine X.iload_n (x := a1) (pc' := 68) dX10_addArc_67 rfl rfl rfl ?_
      refine X.iload_n (x := a2) (pc' := 69) dX10_addArc_68 rfl rfl rfl ?_
      refine X.iload_n (x := a3) (pc' := 70) dX10_addArc_69 rfl rfl rfl ?_
      refine X.iload (x := a4) (pc' := 72) dX10_addArc_70 rfl rfl ?_
      obtain ⟨⟨⟩, e33, h⟩ := bindE h
      obtain ⟨r30, M31, e32, h⟩ := bd2E h
      refine X.callV (b := r28) (v := none) (As := [.int a1, .int a2, .int a3, .int a4]) (st := []) (M' := M31) (pc' := 75) dX10_addArc_72 rfl cl_X10_200 mi_X4_addLast me_X4_addLast mr_X4_addLast e33 ⟨⟨Nat.le_of_ble_eq_true rfl, Nat.le_of_ble_eq_true rfl⟩, Nat.le_of_ble_eq_true rfl, Nat.le_of_ble_eq_true rfl⟩ rfl (Nat.le_of_ble_eq_true rfl) (ok_X4_addLast (G := zs G) e32) ?_
      show X G t_X10_addArc [] 75 [some (.ref a0), some (.int a1), some (.int a2), some (.int a3), some (.int a4)] [] M31 3 18 _
      refine X.aload_n (x := a0) (pc' := 76) dX10_addArc_75 rfl rfl rfl ?_
      obtain ⟨r34, e35, h⟩ := bindE h
      refine X.getf (pc' := 79) dX10_addArc_76 rfl fq_X10_10 (gP_spec e35) ?_
      obtain ⟨r36, e37, h⟩ := bindE h
      refine X.getf (pc' := 82) dX10_addArc_79 rfl fq_X10_151 (gP_spec e37) ?_
      refine X.aload_n (x := a0) (pc' := 83) dX10_addArc_82 rfl rfl rfl ?_
      obtain ⟨r38, e39, h⟩ := bindE h
      refine X.getf (pc' := 86) dX10_addArc_83 rfl fq_X10_10 (gP_spec e39) ?_
      obtain ⟨r40, e41, h⟩ := bindE h
      refine X.getf (pc' := 89) dX10_addArc_86 rfl fq_X10_39 (gP_spec e41) ?_
      obtain ⟨⟨⟩, e45, h⟩ := bindE h
      obtain ⟨r42, M43, e44, h⟩ := bd2E h
      refine X.callV (b := r36) (v := none) (As := [.ref r40]) (st := []) (M' := M43) (pc' := 92) dX10_addArc_89 rfl cl_X10_204 mi_X2_begin me_X2_begin mr_X2_begin e45 ⟨⟨Nat.le_of_ble_eq_true rfl, Nat.le_of_ble_eq_true rfl⟩, Nat.le_of_ble_eq_true rfl, Nat.le_of_ble_eq_true rfl⟩ rfl (Nat.le_of_ble_eq_true rfl) (ok_X2_begin (G := zs G) e44) ?_
      show X G t_X10_addArc [] 92 [some (.ref a0), some (.int a1), some (.int a2), some (.int a3), some (.int a4)] [] M43 3 18 _
      refine X.aload_n (x := a0) (pc' := 93) dX10_addArc_92 rfl rfl rfl ?_
      obtain ⟨r46, e47, h⟩ := bindE h
      refine X.getf (pc' := 96) dX10_addArc_93 rfl fq_X10_10 (gP_spec e47) ?_
      obtain ⟨r48, e49, h⟩ := bindE h
      refine X.getf (pc' := 99) dX10_addArc_96 rfl fq_X10_39 (gP_spec e49) ?_
      obtain ⟨v50, e51, h⟩ := bindE h
      refine X.getf (pc' := 102) dX10_addArc_99 rfl fq_X10_115 (gI_spec e51) ?_
      refine X.iconst (v := 1) (pc' := 103) dX10_addArc_102 rfl (by decide) ?_
      refine X.isub (pc' := 104) dX10_addArc_103 rfl ?_
      cases h
      exact X.iret (ty := .int) dX10_addArc_104 rfl rfl (Nat.le_of_ble_eq_true rfl) (Nat.le_of_ble_eq_true rfl) rfl
    · rw [if_neg hc] at h
      cases h
      exact X.thr (tx := "there are 16 arcs") dX10_addArc_46 dX10_addArc_49 dX10_addArc_50 dX10_addArc_52 dX10_addArc_55 rfl th_X10_86_90 (by decide +kernel) (Nat.le_of_ble_eq_true rfl) (Nat.le_of_ble_eq_true rfl) (Nat.le_of_ble_eq_true rfl) (Nat.le_of_ble_eq_true rfl) rfl
  · rw [if_pos hc] at h
    cases h
    exact X.thr (tx := "an arc leads to another node") dX10_addArc_15 dX10_addArc_18 dX10_addArc_19 dX10_addArc_21 dX10_addArc_24 rfl th_X10_97_101 (by decide +kernel) (Nat.le_of_ble_eq_true rfl) (Nat.le_of_ble_eq_true rfl) (Nat.le_of_ble_eq_true rfl) (Nat.le_of_ble_eq_true rfl) rfl
def f_X10_removeArc (fu : Nat) (a0 : Nat) (a1 : Int32) (M : List Ob) : Option ((Except String Int32) × List Ob) :=
  (hasO M a0 10).bind fun _ =>
  bdX (f_X10_requireArc fu a0 a1 M) fun _ M2 =>
  (gP M2 a0 10 0).bind fun r6 =>
  (hasO M2 r6 8).bind fun _ =>
  bd2 (f_X8_usesArc fu r6 a1 M2) fun v8 M9 =>
  if v8 = 0 then ((hasO M9 a0 10).bind fun _ =>
  bd2 (f_X10_beginChange fu a0 M9) fun _ M13 =>
  (gP M13 a0 10 0).bind fun r16 =>
  (hasO M13 r16 8).bind fun _ =>
  bd2 (f_X8_takeArcOut fu r16 a1 M13) fun _ M19 =>
  (gP M19 a0 10 0).bind fun r22 =>
  (gP M19 r22 8 4).bind fun r24 =>
  (gP M19 a0 10 0).bind fun r26 =>
  (gP M19 r26 8 0).bind fun r28 =>
  (hasO M19 r24 2).bind fun _ =>
  bd2 (f_X2_begin fu r24 r28 M19) fun _ M31 =>
  (gP M31 a0 10 0).bind fun r34 =>
  (gP M31 r34 8 0).bind fun r36 =>
  (gI M31 r36 4 4).bind fun v38 =>
  some (.ok v38, M31))
  else (some (.error "java/lang/IllegalStateException", M9))
set_option maxHeartbeats 4000000 in
theorem ok_X10_removeArc {G : GT} (hz : gZ G = false) {fu : Nat} {a0 : Nat} {a1 : Int32} {M : List Ob} {out : (Except String Int32) × List Ob} (h : f_X10_removeArc fu a0 a1 M = some out) : Sq G t_X10_removeArc [.ref a0, .int a1] M (xI out) := by
  refine Sq.of rfl (by decide +kernel) (cat_all rfl) (Nat.le_of_ble_eq_true rfl) ?_
  show X G t_X10_removeArc [] 0 [some (.ref a0), some (.int a1)] [] M 0 0 (xI out)
  unfold f_X10_removeArc at h
  refine X.aload_n (x := a0) (pc' := 1) dX10_removeArc_0 rfl rfl rfl ?_
  refine X.iload_n (x := a1) (pc' := 2) dX10_removeArc_1 rfl rfl rfl ?_
  obtain ⟨⟨⟩, e4, h⟩ := bindE h
  rcases bdXE h with ⟨r1, M2, e3, h⟩ | ⟨E5, M2, e3, h⟩
  rotate_left
  · subst h
    exact X.callVx (b := a0) (As := [.int a1]) (st := []) (M' := M2) dX10_removeArc_2 cl_X10_171 mi_X10_requireArc me_X10_requireArc mr_X10_requireArc e4 ⟨⟨Nat.le_of_ble_eq_true rfl, Nat.le_of_ble_eq_true rfl⟩, Nat.le_of_ble_eq_true rfl, Nat.le_of_ble_eq_true rfl⟩ rfl (Nat.le_of_ble_eq_true rfl) hz rfl (ok_X10_requireArc (G := zs G) (hz := hz) e3) rfl
  refine X.callVq (b := a0) (v := none) (As := [.int a1]) (st := []) (M' := M2) (pc' := 5) dX10_removeArc_2 rfl cl_X10_171 mi_X10_requireArc me_X10_requireArc mr_X10_requireArc e4 ⟨⟨Nat.le_of_ble_eq_true rfl, Nat.le_of_ble_eq_true rfl⟩, Nat.le_of_ble_eq_true rfl, Nat.le_of_ble_eq_true rfl⟩ rfl (Nat.le_of_ble_eq_true rfl) (ok_X10_requireArc (G := zs G) (hz := hz) e3) ?_
  show X G t_X10_removeArc [] 5 [some (.ref a0), some (.int a1)] [] M2 1 6 _
  refine X.aload_n (x := a0) (pc' := 6) dX10_removeArc_5 rfl rfl rfl ?_
  obtain ⟨r6, e7, h⟩ := bindE h
  refine X.getf (pc' := 9) dX10_removeArc_6 rfl fq_X10_10 (gP_spec e7) ?_
  refine X.iload_n (x := a1) (pc' := 10) dX10_removeArc_9 rfl rfl rfl ?_
  obtain ⟨⟨⟩, e11, h⟩ := bindE h
  obtain ⟨v8, M9, e10, h⟩ := bd2E h
  refine X.callV (b := r6) (v := some (.int v8)) (As := [.int a1]) (st := []) (M' := M9) (pc' := 13) dX10_removeArc_10 rfl cl_X10_206 mi_X8_usesArc me_X8_usesArc mr_X8_usesArc e11 ⟨⟨Nat.le_of_ble_eq_true rfl, Nat.le_of_ble_eq_true rfl⟩, Nat.le_of_ble_eq_true rfl, Nat.le_of_ble_eq_true rfl⟩ rfl (Nat.le_of_ble_eq_true rfl) (ok_X8_usesArc (G := zs G) e10) ?_
  show X G t_X10_removeArc [] 13 [some (.ref a0), some (.int a1)] [.int v8] M9 1 6 _
  refine X.if_eq (tgt := 26) (pc' := 16) dX10_removeArc_13 (by decide) rfl (fun hc => ?_) (fun hc => ?_)
  · rw [if_pos hc] at h
    refine X.aload_n (x := a0) (pc' := 27) dX10_removeArc_26 rfl rfl rfl ?_
    obtain ⟨⟨⟩, e15, h⟩ := bindE h
    obtain ⟨r12, M13, e14, h⟩ := bd2E h
    refine X.callV (b := a0) (v := none) (As := []) (st := []) (M' := M13) (pc' := 30) dX10_removeArc_27 rfl cl_X10_109 mi_X10_beginChange me_X10_beginChange mr_X10_beginChange e15 ⟨⟨Nat.le_of_ble_eq_true rfl, Nat.le_of_ble_eq_true rfl⟩, Nat.le_of_ble_eq_true rfl, Nat.le_of_ble_eq_true rfl⟩ rfl (Nat.le_of_ble_eq_true rfl) (ok_X10_beginChange (G := zs G) (hz := hz) e14) ?_
    show X G t_X10_removeArc [] 30 [some (.ref a0), some (.int a1)] [] M13 1 6 _
    refine X.aload_n (x := a0) (pc' := 31) dX10_removeArc_30 rfl rfl rfl ?_
    obtain ⟨r16, e17, h⟩ := bindE h
    refine X.getf (pc' := 34) dX10_removeArc_31 rfl fq_X10_10 (gP_spec e17) ?_
    refine X.iload_n (x := a1) (pc' := 35) dX10_removeArc_34 rfl rfl rfl ?_
    obtain ⟨⟨⟩, e21, h⟩ := bindE h
    obtain ⟨r18, M19, e20, h⟩ := bd2E h
    refine X.callV (b := r16) (v := none) (As := [.int a1]) (st := []) (M' := M19) (pc' := 38) dX10_removeArc_35 rfl cl_X10_212 mi_X8_takeArcOut me_X8_takeArcOut mr_X8_takeArcOut e21 ⟨⟨Nat.le_of_ble_eq_true rfl, Nat.le_of_ble_eq_true rfl⟩, Nat.le_of_ble_eq_true rfl, Nat.le_of_ble_eq_true rfl⟩ rfl (Nat.le_of_ble_eq_true rfl) (ok_X8_takeArcOut (G := zs G) e20) ?_
    show X G t_X10_removeArc [] 38 [some (.ref a0), some (.int a1)] [] M19 1 6 _
    refine X.aload_n (x := a0) (pc' := 39) dX10_removeArc_38 rfl rfl rfl ?_
    obtain ⟨r22, e23, h⟩ := bindE h
    refine X.getf (pc' := 42) dX10_removeArc_39 rfl fq_X10_10 (gP_spec e23) ?_
    obtain ⟨r24, e25, h⟩ := bindE h
    refine X.getf (pc' := 45) dX10_removeArc_42 rfl fq_X10_151 (gP_spec e25) ?_
    refine X.aload_n (x := a0) (pc' := 46) dX10_removeArc_45 rfl rfl rfl ?_
    obtain ⟨r26, e27, h⟩ := bindE h
    refine X.getf (pc' := 49) dX10_removeArc_46 rfl fq_X10_10 (gP_spec e27) ?_
    obtain ⟨r28, e29, h⟩ := bindE h
    refine X.getf (pc' := 52) dX10_removeArc_49 rfl fq_X10_39 (gP_spec e29) ?_
    obtain ⟨⟨⟩, e33, h⟩ := bindE h
    obtain ⟨r30, M31, e32, h⟩ := bd2E h
    refine X.callV (b := r24) (v := none) (As := [.ref r28]) (st := []) (M' := M31) (pc' := 55) dX10_removeArc_52 rfl cl_X10_204 mi_X2_begin me_X2_begin mr_X2_begin e33 ⟨⟨Nat.le_of_ble_eq_true rfl, Nat.le_of_ble_eq_true rfl⟩, Nat.le_of_ble_eq_true rfl, Nat.le_of_ble_eq_true rfl⟩ rfl (Nat.le_of_ble_eq_true rfl) (ok_X2_begin (G := zs G) e32) ?_
    show X G t_X10_removeArc [] 55 [some (.ref a0), some (.int a1)] [] M31 1 6 _
    refine X.aload_n (x := a0) (pc' := 56) dX10_removeArc_55 rfl rfl rfl ?_
    obtain ⟨r34, e35, h⟩ := bindE h
    refine X.getf (pc' := 59) dX10_removeArc_56 rfl fq_X10_10 (gP_spec e35) ?_
    obtain ⟨r36, e37, h⟩ := bindE h
    refine X.getf (pc' := 62) dX10_removeArc_59 rfl fq_X10_39 (gP_spec e37) ?_
    obtain ⟨v38, e39, h⟩ := bindE h
    refine X.getf (pc' := 65) dX10_removeArc_62 rfl fq_X10_115 (gI_spec e39) ?_
    cases h
    exact X.iret (ty := .int) dX10_removeArc_65 rfl rfl (Nat.le_of_ble_eq_true rfl) (Nat.le_of_ble_eq_true rfl) rfl
  · rw [if_neg hc] at h
    cases h
    exact X.thr (tx := "the draft or a told route has the arc") dX10_removeArc_16 dX10_removeArc_19 dX10_removeArc_20 dX10_removeArc_22 dX10_removeArc_25 rfl th_X10_86_90 (by decide +kernel) (Nat.le_of_ble_eq_true rfl) (Nat.le_of_ble_eq_true rfl) (Nat.le_of_ble_eq_true rfl) (Nat.le_of_ble_eq_true rfl) rfl
def f_X10_setArc (fu : Nat) (a0 : Nat) (a1 : Int32) (a2 : Int32) (a3 : Int32) (M : List Ob) : Option ((Except String Int32) × List Ob) :=
  (hasO M a0 10).bind fun _ =>
  bdX (f_X10_requireArc fu a0 a1 M) fun _ M2 =>
  bdX (f_X10_requireCosts fu a2 a3 M2) fun _ M7 =>
  (gP M7 a0 10 0).bind fun r11 =>
  (gP M7 r11 8 0).bind fun r13 =>
  (gP M7 r13 4 7).bind fun r15 =>
  (aI M7 r15 13 a1).bind fun v18 =>
  (gP M7 a0 10 0).bind fun r19 =>
  (gP M7 r19 8 0).bind fun r21 =>
  (gP M7 r21 4 8).bind fun r23 =>
  (aI M7 r23 13 a1).bind fun v26 =>
  (hasO M7 a0 10).bind fun _ =>
  bd2 (f_X10_beginChange fu a0 M7) fun _ M28 =>
  (gP M28 a0 10 0).bind fun r31 =>
  (gP M28 r31 8 0).bind fun r33 =>
  (gP M28 r33 4 7).bind fun r35 =>
  (aSet M28 r35 13 a1 (.int a2)).bind fun M38 =>
  (gP M38 a0 10 0).bind fun r39 =>
  (gP M38 r39 8 0).bind fun r41 =>
  (gP M38 r41 4 8).bind fun r43 =>
  (aSet M38 r43 13 a1 (.int a3)).bind fun M46 =>
  (gP M46 a0 10 0).bind fun r47 =>
  (gP M46 r47 8 4).bind fun r49 =>
  (gP M46 a0 10 0).bind fun r51 =>
  (gP M46 r51 8 0).bind fun r53 =>
  (hasO M46 r49 2).bind fun _ =>
  bd2 (f_X2_begin fu r49 r53 M46) fun _ M56 =>
  some (.ok ((100 * v18) + v26), M56)
set_option maxHeartbeats 4000000 in
theorem ok_X10_setArc {G : GT} (hz : gZ G = false) {fu : Nat} {a0 : Nat} {a1 : Int32} {a2 : Int32} {a3 : Int32} {M : List Ob} {out : (Except String Int32) × List Ob} (h : f_X10_setArc fu a0 a1 a2 a3 M = some out) : Sq G t_X10_setArc [.ref a0, .int a1, .int a2, .int a3] M (xI out) := by
  refine Sq.of rfl (by decide +kernel) (cat_all rfl) (Nat.le_of_ble_eq_true rfl) ?_
  show X G t_X10_setArc [] 0 [some (.ref a0), some (.int a1), some (.int a2), some (.int a3), none] [] M 0 0 (xI out)
  unfold f_X10_setArc at h
  refine X.aload_n (x := a0) (pc' := 1) dX10_setArc_0 rfl rfl rfl ?_
  refine X.iload_n (x := a1) (pc' := 2) dX10_setArc_1 rfl rfl rfl ?_
  obtain ⟨⟨⟩, e4, h⟩ := bindE h
  rcases bdXE h with ⟨r1, M2, e3, h⟩ | ⟨E5, M2, e3, h⟩
  rotate_left
  · subst h
    exact X.callVx (b := a0) (As := [.int a1]) (st := []) (M' := M2) dX10_setArc_2 cl_X10_171 mi_X10_requireArc me_X10_requireArc mr_X10_requireArc e4 ⟨⟨Nat.le_of_ble_eq_true rfl, Nat.le_of_ble_eq_true rfl⟩, Nat.le_of_ble_eq_true rfl, Nat.le_of_ble_eq_true rfl⟩ rfl (Nat.le_of_ble_eq_true rfl) hz rfl (ok_X10_requireArc (G := zs G) (hz := hz) e3) rfl
  refine X.callVq (b := a0) (v := none) (As := [.int a1]) (st := []) (M' := M2) (pc' := 5) dX10_setArc_2 rfl cl_X10_171 mi_X10_requireArc me_X10_requireArc mr_X10_requireArc e4 ⟨⟨Nat.le_of_ble_eq_true rfl, Nat.le_of_ble_eq_true rfl⟩, Nat.le_of_ble_eq_true rfl, Nat.le_of_ble_eq_true rfl⟩ rfl (Nat.le_of_ble_eq_true rfl) (ok_X10_requireArc (G := zs G) (hz := hz) e3) ?_
  show X G t_X10_setArc [] 5 [some (.ref a0), some (.int a1), some (.int a2), some (.int a3), none] [] M2 1 6 _
  refine X.iload_n (x := a2) (pc' := 6) dX10_setArc_5 rfl rfl rfl ?_
  refine X.iload_n (x := a3) (pc' := 7) dX10_setArc_6 rfl rfl rfl ?_
  rcases bdXE h with ⟨r6, M7, e8, h⟩ | ⟨E10, M7, e8, h⟩
  rotate_left
  · subst h
    exact X.callSx (As := [.int a2, .int a3]) (st := []) (M' := M7) dX10_setArc_7 cl_X10_194 ms_X10_requireCosts ⟨⟨Nat.le_of_ble_eq_true rfl, Nat.le_of_ble_eq_true rfl⟩, Nat.le_of_ble_eq_true rfl, Nat.le_of_ble_eq_true rfl⟩ rfl (Nat.le_of_ble_eq_true rfl) hz rfl (ok_X10_requireCosts (G := zs G) (hz := hz) e8) rfl
  refine X.callSq (v := none) (As := [.int a2, .int a3]) (st := []) (M' := M7) (pc' := 10) dX10_setArc_7 rfl cl_X10_194 ms_X10_requireCosts ⟨⟨Nat.le_of_ble_eq_true rfl, Nat.le_of_ble_eq_true rfl⟩, Nat.le_of_ble_eq_true rfl, Nat.le_of_ble_eq_true rfl⟩ rfl (Nat.le_of_ble_eq_true rfl) (ok_X10_requireCosts (G := zs G) (hz := hz) e8) ?_
  show X G t_X10_setArc [] 10 [some (.ref a0), some (.int a1), some (.int a2), some (.int a3), none] [] M7 2 12 _
  refine X.bipush (v := 100) (pc' := 12) dX10_setArc_10 rfl (by decide) ?_
  refine X.aload_n (x := a0) (pc' := 13) dX10_setArc_12 rfl rfl rfl ?_
  obtain ⟨r11, e12, h⟩ := bindE h
  refine X.getf (pc' := 16) dX10_setArc_13 rfl fq_X10_10 (gP_spec e12) ?_
  obtain ⟨r13, e14, h⟩ := bindE h
  refine X.getf (pc' := 19) dX10_setArc_16 rfl fq_X10_39 (gP_spec e14) ?_
  obtain ⟨r15, e16, h⟩ := bindE h
  refine X.getf (pc' := 22) dX10_setArc_19 rfl fq_X10_181 (gP_spec e16) ?_
  refine X.iload_n (x := a1) (pc' := 23) dX10_setArc_22 rfl rfl rfl ?_
  obtain ⟨v18, e17, h⟩ := bindE h
  refine X.iald (pc' := 24) dX10_setArc_23 rfl e17 ?_
  refine X.imul (pc' := 25) dX10_setArc_24 rfl ?_
  refine X.aload_n (x := a0) (pc' := 26) dX10_setArc_25 rfl rfl rfl ?_
  obtain ⟨r19, e20, h⟩ := bindE h
  refine X.getf (pc' := 29) dX10_setArc_26 rfl fq_X10_10 (gP_spec e20) ?_
  obtain ⟨r21, e22, h⟩ := bindE h
  refine X.getf (pc' := 32) dX10_setArc_29 rfl fq_X10_39 (gP_spec e22) ?_
  obtain ⟨r23, e24, h⟩ := bindE h
  refine X.getf (pc' := 35) dX10_setArc_32 rfl fq_X10_184 (gP_spec e24) ?_
  refine X.iload_n (x := a1) (pc' := 36) dX10_setArc_35 rfl rfl rfl ?_
  obtain ⟨v26, e25, h⟩ := bindE h
  refine X.iald (pc' := 37) dX10_setArc_36 rfl e25 ?_
  refine X.iadd (pc' := 38) dX10_setArc_37 rfl ?_
  refine X.istore (L' := [some (.ref a0), some (.int a1), some (.int a2), some (.int a3), some (.int ((100 * v18) + v26))]) (pc' := 40) dX10_setArc_38 rfl (Nat.le_of_ble_eq_true rfl) rfl ?_
  refine X.aload_n (x := a0) (pc' := 41) dX10_setArc_40 rfl rfl rfl ?_
  obtain ⟨⟨⟩, e30, h⟩ := bindE h
  obtain ⟨r27, M28, e29, h⟩ := bd2E h
  refine X.callV (b := a0) (v := none) (As := []) (st := []) (M' := M28) (pc' := 44) dX10_setArc_41 rfl cl_X10_109 mi_X10_beginChange me_X10_beginChange mr_X10_beginChange e30 ⟨⟨Nat.le_of_ble_eq_true rfl, Nat.le_of_ble_eq_true rfl⟩, Nat.le_of_ble_eq_true rfl, Nat.le_of_ble_eq_true rfl⟩ rfl (Nat.le_of_ble_eq_true rfl) (ok_X10_beginChange (G := zs G) (hz := hz) e29) ?_
  show X G t_X10_setArc [] 44 [some (.ref a0), some (.int a1), some (.int a2), some (.int a3), some (.int ((100 * v18) + v26))] [] M28 2 12 _
  refine X.aload_n (x := a0) (pc' := 45) dX10_setArc_44 rfl rfl rfl ?_
  obtain ⟨r31, e32, h⟩ := bindE h
  refine X.getf (pc' := 48) dX10_setArc_45 rfl fq_X10_10 (gP_spec e32) ?_
  obtain ⟨r33, e34, h⟩ := bindE h
  refine X.getf (pc' := 51) dX10_setArc_48 rfl fq_X10_39 (gP_spec e34) ?_
  obtain ⟨r35, e36, h⟩ := bindE h
  refine X.getf (pc' := 54) dX10_setArc_51 rfl fq_X10_181 (gP_spec e36) ?_
  refine X.iload_n (x := a1) (pc' := 55) dX10_setArc_54 rfl rfl rfl ?_
  refine X.iload_n (x := a2) (pc' := 56) dX10_setArc_55 rfl rfl rfl ?_
  obtain ⟨M38, e37, h⟩ := bindE h
  refine X.iast (pc' := 57) dX10_setArc_56 rfl e37 ?_
  refine X.aload_n (x := a0) (pc' := 58) dX10_setArc_57 rfl rfl rfl ?_
  obtain ⟨r39, e40, h⟩ := bindE h
  refine X.getf (pc' := 61) dX10_setArc_58 rfl fq_X10_10 (gP_spec e40) ?_
  obtain ⟨r41, e42, h⟩ := bindE h
  refine X.getf (pc' := 64) dX10_setArc_61 rfl fq_X10_39 (gP_spec e42) ?_
  obtain ⟨r43, e44, h⟩ := bindE h
  refine X.getf (pc' := 67) dX10_setArc_64 rfl fq_X10_184 (gP_spec e44) ?_
  refine X.iload_n (x := a1) (pc' := 68) dX10_setArc_67 rfl rfl rfl ?_
  refine X.iload_n (x := a3) (pc' := 69) dX10_setArc_68 rfl rfl rfl ?_
  obtain ⟨M46, e45, h⟩ := bindE h
  refine X.iast (pc' := 70) dX10_setArc_69 rfl e45 ?_
  refine X.aload_n (x := a0) (pc' := 71) dX10_setArc_70 rfl rfl rfl ?_
  obtain ⟨r47, e48, h⟩ := bindE h
  refine X.getf (pc' := 74) dX10_setArc_71 rfl fq_X10_10 (gP_spec e48) ?_
  obtain ⟨r49, e50, h⟩ := bindE h
  refine X.getf (pc' := 77) dX10_setArc_74 rfl fq_X10_151 (gP_spec e50) ?_
  refine X.aload_n (x := a0) (pc' := 78) dX10_setArc_77 rfl rfl rfl ?_
  obtain ⟨r51, e52, h⟩ := bindE h
  refine X.getf (pc' := 81) dX10_setArc_78 rfl fq_X10_10 (gP_spec e52) ?_
  obtain ⟨r53, e54, h⟩ := bindE h
  refine X.getf (pc' := 84) dX10_setArc_81 rfl fq_X10_39 (gP_spec e54) ?_
  obtain ⟨⟨⟩, e58, h⟩ := bindE h
  obtain ⟨r55, M56, e57, h⟩ := bd2E h
  refine X.callV (b := r49) (v := none) (As := [.ref r53]) (st := []) (M' := M56) (pc' := 87) dX10_setArc_84 rfl cl_X10_204 mi_X2_begin me_X2_begin mr_X2_begin e58 ⟨⟨Nat.le_of_ble_eq_true rfl, Nat.le_of_ble_eq_true rfl⟩, Nat.le_of_ble_eq_true rfl, Nat.le_of_ble_eq_true rfl⟩ rfl (Nat.le_of_ble_eq_true rfl) (ok_X2_begin (G := zs G) e57) ?_
  show X G t_X10_setArc [] 87 [some (.ref a0), some (.int a1), some (.int a2), some (.int a3), some (.int ((100 * v18) + v26))] [] M56 2 12 _
  refine X.iload (x := ((100 * v18) + v26)) (pc' := 89) dX10_setArc_87 rfl rfl ?_
  cases h
  exact X.iret (ty := .int) dX10_setArc_89 rfl rfl (Nat.le_of_ble_eq_true rfl) (Nat.le_of_ble_eq_true rfl) rfl
def f_X10_requireBudget (fu : Nat) (a0 : Int32) (M : List Ob) : Option ((Except String Unit) × List Ob) :=
  if a0 < 0 then (some (.error "java/lang/IllegalArgumentException", M))
  else (if a0 ≤ 6 then (some (.ok (), M))
  else (some (.error "java/lang/IllegalArgumentException", M)))
set_option maxHeartbeats 4000000 in
theorem ok_X10_requireBudget {G : GT} (hz : gZ G = false) {fu : Nat} {a0 : Int32} {M : List Ob} {out : (Except String Unit) × List Ob} (h : f_X10_requireBudget fu a0 M = some out) : Sq G t_X10_requireBudget [.int a0] M (xU out) := by
  refine Sq.of rfl (by decide +kernel) (cat_all rfl) (Nat.le_of_ble_eq_true rfl) ?_
  show X G t_X10_requireBudget [] 0 [some (.int a0)] [] M 0 0 (xU out)
  unfold f_X10_requireBudget at h
  refine X.iload_n (x := a0) (pc' := 1) dX10_requireBudget_0 rfl rfl rfl ?_
  refine X.if_lt (tgt := 10) (pc' := 4) dX10_requireBudget_1 (by decide) rfl (fun hc => ?_) (fun hc => ?_)
  · rw [if_pos hc] at h
    cases h
    exact X.thrW (tx := "a budget is 0 to 6") dX10_requireBudget_10 dX10_requireBudget_13 dX10_requireBudget_14 dX10_requireBudget_17 dX10_requireBudget_20 rfl th_X10_97_101 (by decide +kernel) (Nat.le_of_ble_eq_true rfl) (Nat.le_of_ble_eq_true rfl) (Nat.le_of_ble_eq_true rfl) (Nat.le_of_ble_eq_true rfl) rfl
  · rw [if_neg hc] at h
    refine X.iload_n (x := a0) (pc' := 5) dX10_requireBudget_4 rfl rfl rfl ?_
    refine X.bipush (v := 6) (pc' := 7) dX10_requireBudget_5 rfl (by decide) ?_
    refine X.icmp_le (tgt := 21) (pc' := 10) dX10_requireBudget_7 (by decide) rfl (fun hc => ?_) (fun hc => ?_)
    · rw [if_pos hc] at h
      cases h
      exact X.vret dX10_requireBudget_21 rfl (Nat.le_of_ble_eq_true rfl) (Nat.le_of_ble_eq_true rfl) rfl
    · rw [if_neg hc] at h
      cases h
      exact X.thrW (tx := "a budget is 0 to 6") dX10_requireBudget_10 dX10_requireBudget_13 dX10_requireBudget_14 dX10_requireBudget_17 dX10_requireBudget_20 rfl th_X10_97_101 (by decide +kernel) (Nat.le_of_ble_eq_true rfl) (Nat.le_of_ble_eq_true rfl) (Nat.le_of_ble_eq_true rfl) (Nat.le_of_ble_eq_true rfl) rfl
def f_X10_setBudget (fu : Nat) (a0 : Nat) (a1 : Int32) (M : List Ob) : Option ((Except String Int32) × List Ob) :=
  bdX (f_X10_requireBudget fu a1 M) fun _ M2 =>
  (gP M2 a0 10 0).bind fun r6 =>
  (gP M2 r6 8 0).bind fun r8 =>
  (gI M2 r8 4 3).bind fun v10 =>
  (hasO M2 a0 10).bind fun _ =>
  bd2 (f_X10_beginChange fu a0 M2) fun _ M13 =>
  (gP M13 a0 10 0).bind fun r16 =>
  (gP M13 r16 8 0).bind fun r18 =>
  (pF M13 r18 4 3 (.int a1)).bind fun M20 =>
  (gP M20 a0 10 0).bind fun r22 =>
  (gP M20 r22 8 4).bind fun r24 =>
  (gP M20 a0 10 0).bind fun r26 =>
  (gP M20 r26 8 0).bind fun r28 =>
  (hasO M20 r24 2).bind fun _ =>
  bd2 (f_X2_begin fu r24 r28 M20) fun _ M31 =>
  some (.ok v10, M31)
set_option maxHeartbeats 4000000 in
theorem ok_X10_setBudget {G : GT} (hz : gZ G = false) {fu : Nat} {a0 : Nat} {a1 : Int32} {M : List Ob} {out : (Except String Int32) × List Ob} (h : f_X10_setBudget fu a0 a1 M = some out) : Sq G t_X10_setBudget [.ref a0, .int a1] M (xI out) := by
  refine Sq.of rfl (by decide +kernel) (cat_all rfl) (Nat.le_of_ble_eq_true rfl) ?_
  show X G t_X10_setBudget [] 0 [some (.ref a0), some (.int a1), none] [] M 0 0 (xI out)
  unfold f_X10_setBudget at h
  refine X.iload_n (x := a1) (pc' := 1) dX10_setBudget_0 rfl rfl rfl ?_
  rcases bdXE h with ⟨r1, M2, e3, h⟩ | ⟨E5, M2, e3, h⟩
  rotate_left
  · subst h
    exact X.callSx (As := [.int a1]) (st := []) (M' := M2) dX10_setBudget_1 cl_X10_215 ms_X10_requireBudget ⟨⟨Nat.le_of_ble_eq_true rfl, Nat.le_of_ble_eq_true rfl⟩, Nat.le_of_ble_eq_true rfl, Nat.le_of_ble_eq_true rfl⟩ rfl (Nat.le_of_ble_eq_true rfl) hz rfl (ok_X10_requireBudget (G := zs G) (hz := hz) e3) rfl
  refine X.callSq (v := none) (As := [.int a1]) (st := []) (M' := M2) (pc' := 4) dX10_setBudget_1 rfl cl_X10_215 ms_X10_requireBudget ⟨⟨Nat.le_of_ble_eq_true rfl, Nat.le_of_ble_eq_true rfl⟩, Nat.le_of_ble_eq_true rfl, Nat.le_of_ble_eq_true rfl⟩ rfl (Nat.le_of_ble_eq_true rfl) (ok_X10_requireBudget (G := zs G) (hz := hz) e3) ?_
  show X G t_X10_setBudget [] 4 [some (.ref a0), some (.int a1), none] [] M2 1 6 _
  refine X.aload_n (x := a0) (pc' := 5) dX10_setBudget_4 rfl rfl rfl ?_
  obtain ⟨r6, e7, h⟩ := bindE h
  refine X.getf (pc' := 8) dX10_setBudget_5 rfl fq_X10_10 (gP_spec e7) ?_
  obtain ⟨r8, e9, h⟩ := bindE h
  refine X.getf (pc' := 11) dX10_setBudget_8 rfl fq_X10_39 (gP_spec e9) ?_
  obtain ⟨v10, e11, h⟩ := bindE h
  refine X.getf (pc' := 14) dX10_setBudget_11 rfl fq_X10_132 (gI_spec e11) ?_
  refine X.istore_n (L' := [some (.ref a0), some (.int a1), some (.int v10)]) (pc' := 15) dX10_setBudget_14 rfl rfl (Nat.le_of_ble_eq_true rfl) rfl ?_
  refine X.aload_n (x := a0) (pc' := 16) dX10_setBudget_15 rfl rfl rfl ?_
  obtain ⟨⟨⟩, e15, h⟩ := bindE h
  obtain ⟨r12, M13, e14, h⟩ := bd2E h
  refine X.callV (b := a0) (v := none) (As := []) (st := []) (M' := M13) (pc' := 19) dX10_setBudget_16 rfl cl_X10_109 mi_X10_beginChange me_X10_beginChange mr_X10_beginChange e15 ⟨⟨Nat.le_of_ble_eq_true rfl, Nat.le_of_ble_eq_true rfl⟩, Nat.le_of_ble_eq_true rfl, Nat.le_of_ble_eq_true rfl⟩ rfl (Nat.le_of_ble_eq_true rfl) (ok_X10_beginChange (G := zs G) (hz := hz) e14) ?_
  show X G t_X10_setBudget [] 19 [some (.ref a0), some (.int a1), some (.int v10)] [] M13 1 6 _
  refine X.aload_n (x := a0) (pc' := 20) dX10_setBudget_19 rfl rfl rfl ?_
  obtain ⟨r16, e17, h⟩ := bindE h
  refine X.getf (pc' := 23) dX10_setBudget_20 rfl fq_X10_10 (gP_spec e17) ?_
  obtain ⟨r18, e19, h⟩ := bindE h
  refine X.getf (pc' := 26) dX10_setBudget_23 rfl fq_X10_39 (gP_spec e19) ?_
  refine X.iload_n (x := a1) (pc' := 27) dX10_setBudget_26 rfl rfl rfl ?_
  obtain ⟨M20, e21, h⟩ := bindE h
  refine X.putf (pc' := 30) dX10_setBudget_27 rfl fq_X10_132 rfl rfl e21 ?_
  refine X.aload_n (x := a0) (pc' := 31) dX10_setBudget_30 rfl rfl rfl ?_
  obtain ⟨r22, e23, h⟩ := bindE h
  refine X.getf (pc' := 34) dX10_setBudget_31 rfl fq_X10_10 (gP_spec e23) ?_
  obtain ⟨r24, e25, h⟩ := bindE h
  refine X.getf (pc' := 37) dX10_setBudget_34 rfl fq_X10_151 (gP_spec e25) ?_
  refine X.aload_n (x := a0) (pc' := 38) dX10_setBudget_37 rfl rfl rfl ?_
  obtain ⟨r26, e27, h⟩ := bindE h
  refine X.getf (pc' := 41) dX10_setBudget_38 rfl fq_X10_10 (gP_spec e27) ?_
  obtain ⟨r28, e29, h⟩ := bindE h
  refine X.getf (pc' := 44) dX10_setBudget_41 rfl fq_X10_39 (gP_spec e29) ?_
  obtain ⟨⟨⟩, e33, h⟩ := bindE h
  obtain ⟨r30, M31, e32, h⟩ := bd2E h
  refine X.callV (b := r24) (v := none) (As := [.ref r28]) (st := []) (M' := M31) (pc' := 47) dX10_setBudget_44 rfl cl_X10_204 mi_X2_begin me_X2_begin mr_X2_begin e33 ⟨⟨Nat.le_of_ble_eq_true rfl, Nat.le_of_ble_eq_true rfl⟩, Nat.le_of_ble_eq_true rfl, Nat.le_of_ble_eq_true rfl⟩ rfl (Nat.le_of_ble_eq_true rfl) (ok_X2_begin (G := zs G) e32) ?_
  show X G t_X10_setBudget [] 47 [some (.ref a0), some (.int a1), some (.int v10)] [] M31 1 6 _
  refine X.iload_n (x := v10) (pc' := 48) dX10_setBudget_47 rfl rfl rfl ?_
  cases h
  exact X.iret (ty := .int) dX10_setBudget_48 rfl rfl (Nat.le_of_ble_eq_true rfl) (Nat.le_of_ble_eq_true rfl) rfl
def f_X10_draft (fu : Nat) (a0 : Nat) (a1 : Int32) (M : List Ob) : Option ((Except String Int32) × List Ob) :=
  (hasO M a0 10).bind fun _ =>
  bdX (f_X10_requireArc fu a0 a1 M) fun _ M2 =>
  (gP M2 a0 10 0).bind fun r6 =>
  (gP M2 r6 8 0).bind fun r8 =>
  (gP M2 a0 10 0).bind fun r10 =>
  (gP M2 r10 8 1).bind fun r12 =>
  (hasO M2 r8 4).bind fun _ =>
  bd2 (f_X4_canFollow fu r8 r12 a1 M2) fun v14 M15 =>
  if v14 = 0 then (some (.error "java/lang/IllegalStateException", M15))
  else ((hasO M15 a0 10).bind fun _ =>
  bd2 (f_X10_beginChange fu a0 M15) fun _ M19 =>
  (gP M19 a0 10 0).bind fun r22 =>
  (gP M19 r22 8 1).bind fun r24 =>
  (hasO M19 r24 5).bind fun _ =>
  bd2 (f_X5_push fu r24 a1 M19) fun _ M27 =>
  (gP M27 a0 10 0).bind fun r30 =>
  (gP M27 r30 8 0).bind fun r32 =>
  (gP M27 a0 10 0).bind fun r34 =>
  (gP M27 r34 8 1).bind fun r36 =>
  (hasO M27 r32 4).bind fun _ =>
  bd2 (f_X4_endOf fu r32 r36 M27) fun v38 M39 =>
  some (.ok v38, M39))
set_option maxHeartbeats 4000000 in
theorem ok_X10_draft {G : GT} (hz : gZ G = false) {fu : Nat} {a0 : Nat} {a1 : Int32} {M : List Ob} {out : (Except String Int32) × List Ob} (h : f_X10_draft fu a0 a1 M = some out) : Sq G t_X10_draft [.ref a0, .int a1] M (xI out) := by
  refine Sq.of rfl (by decide +kernel) (cat_all rfl) (Nat.le_of_ble_eq_true rfl) ?_
  show X G t_X10_draft [] 0 [some (.ref a0), some (.int a1)] [] M 0 0 (xI out)
  unfold f_X10_draft at h
  refine X.aload_n (x := a0) (pc' := 1) dX10_draft_0 rfl rfl rfl ?_
  refine X.iload_n (x := a1) (pc' := 2) dX10_draft_1 rfl rfl rfl ?_
  obtain ⟨⟨⟩, e4, h⟩ := bindE h
  rcases bdXE h with ⟨r1, M2, e3, h⟩ | ⟨E5, M2, e3, h⟩
  rotate_left
  · subst h
    exact X.callVx (b := a0) (As := [.int a1]) (st := []) (M' := M2) dX10_draft_2 cl_X10_171 mi_X10_requireArc me_X10_requireArc mr_X10_requireArc e4 ⟨⟨Nat.le_of_ble_eq_true rfl, Nat.le_of_ble_eq_true rfl⟩, Nat.le_of_ble_eq_true rfl, Nat.le_of_ble_eq_true rfl⟩ rfl (Nat.le_of_ble_eq_true rfl) hz rfl (ok_X10_requireArc (G := zs G) (hz := hz) e3) rfl
  refine X.callVq (b := a0) (v := none) (As := [.int a1]) (st := []) (M' := M2) (pc' := 5) dX10_draft_2 rfl cl_X10_171 mi_X10_requireArc me_X10_requireArc mr_X10_requireArc e4 ⟨⟨Nat.le_of_ble_eq_true rfl, Nat.le_of_ble_eq_true rfl⟩, Nat.le_of_ble_eq_true rfl, Nat.le_of_ble_eq_true rfl⟩ rfl (Nat.le_of_ble_eq_true rfl) (ok_X10_requireArc (G := zs G) (hz := hz) e3) ?_
  show X G t_X10_draft [] 5 [some (.ref a0), some (.int a1)] [] M2 1 6 _
  refine X.aload_n (x := a0) (pc' := 6) dX10_draft_5 rfl rfl rfl ?_
  obtain ⟨r6, e7, h⟩ := bindE h
  refine X.getf (pc' := 9) dX10_draft_6 rfl fq_X10_10 (gP_spec e7) ?_
  obtain ⟨r8, e9, h⟩ := bindE h
  refine X.getf (pc' := 12) dX10_draft_9 rfl fq_X10_39 (gP_spec e9) ?_
  refine X.aload_n (x := a0) (pc' := 13) dX10_draft_12 rfl rfl rfl ?_
  obtain ⟨r10, e11, h⟩ := bindE h
  refine X.getf (pc' := 16) dX10_draft_13 rfl fq_X10_10 (gP_spec e11) ?_
  obtain ⟨r12, e13, h⟩ := bindE h
  refine X.getf (pc' := 19) dX10_draft_16 rfl fq_X10_138 (gP_spec e13) ?_
  refine X.iload_n (x := a1) (pc' := 20) dX10_draft_19 rfl rfl rfl ?_
  obtain ⟨⟨⟩, e17, h⟩ := bindE h
  obtain ⟨v14, M15, e16, h⟩ := bd2E h
  refine X.callV (b := r8) (v := some (.int v14)) (As := [.ref r12, .int a1]) (st := []) (M' := M15) (pc' := 23) dX10_draft_20 rfl cl_X10_218 mi_X4_canFollow me_X4_canFollow mr_X4_canFollow e17 ⟨⟨Nat.le_of_ble_eq_true rfl, Nat.le_of_ble_eq_true rfl⟩, Nat.le_of_ble_eq_true rfl, Nat.le_of_ble_eq_true rfl⟩ rfl (Nat.le_of_ble_eq_true rfl) (ok_X4_canFollow (G := zs G) e16) ?_
  show X G t_X10_draft [] 23 [some (.ref a0), some (.int a1)] [.int v14] M15 1 6 _
  refine X.if_ne (tgt := 36) (pc' := 26) dX10_draft_23 (by decide) rfl (fun hc => ?_) (fun hc => ?_)
  · rw [if_neg hc] at h
    refine X.aload_n (x := a0) (pc' := 37) dX10_draft_36 rfl rfl rfl ?_
    obtain ⟨⟨⟩, e21, h⟩ := bindE h
    obtain ⟨r18, M19, e20, h⟩ := bd2E h
    refine X.callV (b := a0) (v := none) (As := []) (st := []) (M' := M19) (pc' := 40) dX10_draft_37 rfl cl_X10_109 mi_X10_beginChange me_X10_beginChange mr_X10_beginChange e21 ⟨⟨Nat.le_of_ble_eq_true rfl, Nat.le_of_ble_eq_true rfl⟩, Nat.le_of_ble_eq_true rfl, Nat.le_of_ble_eq_true rfl⟩ rfl (Nat.le_of_ble_eq_true rfl) (ok_X10_beginChange (G := zs G) (hz := hz) e20) ?_
    show X G t_X10_draft [] 40 [some (.ref a0), some (.int a1)] [] M19 1 6 _
    refine X.aload_n (x := a0) (pc' := 41) dX10_draft_40 rfl rfl rfl ?_
    obtain ⟨r22, e23, h⟩ := bindE h
    refine X.getf (pc' := 44) dX10_draft_41 rfl fq_X10_10 (gP_spec e23) ?_
    obtain ⟨r24, e25, h⟩ := bindE h
    refine X.getf (pc' := 47) dX10_draft_44 rfl fq_X10_138 (gP_spec e25) ?_
    refine X.iload_n (x := a1) (pc' := 48) dX10_draft_47 rfl rfl rfl ?_
    obtain ⟨⟨⟩, e29, h⟩ := bindE h
    obtain ⟨r26, M27, e28, h⟩ := bd2E h
    refine X.callV (b := r24) (v := none) (As := [.int a1]) (st := []) (M' := M27) (pc' := 51) dX10_draft_48 rfl cl_X10_224 mi_X5_push me_X5_push mr_X5_push e29 ⟨⟨Nat.le_of_ble_eq_true rfl, Nat.le_of_ble_eq_true rfl⟩, Nat.le_of_ble_eq_true rfl, Nat.le_of_ble_eq_true rfl⟩ rfl (Nat.le_of_ble_eq_true rfl) (ok_X5_push (G := zs G) e28) ?_
    show X G t_X10_draft [] 51 [some (.ref a0), some (.int a1)] [] M27 1 6 _
    refine X.aload_n (x := a0) (pc' := 52) dX10_draft_51 rfl rfl rfl ?_
    obtain ⟨r30, e31, h⟩ := bindE h
    refine X.getf (pc' := 55) dX10_draft_52 rfl fq_X10_10 (gP_spec e31) ?_
    obtain ⟨r32, e33, h⟩ := bindE h
    refine X.getf (pc' := 58) dX10_draft_55 rfl fq_X10_39 (gP_spec e33) ?_
    refine X.aload_n (x := a0) (pc' := 59) dX10_draft_58 rfl rfl rfl ?_
    obtain ⟨r34, e35, h⟩ := bindE h
    refine X.getf (pc' := 62) dX10_draft_59 rfl fq_X10_10 (gP_spec e35) ?_
    obtain ⟨r36, e37, h⟩ := bindE h
    refine X.getf (pc' := 65) dX10_draft_62 rfl fq_X10_138 (gP_spec e37) ?_
    obtain ⟨⟨⟩, e41, h⟩ := bindE h
    obtain ⟨v38, M39, e40, h⟩ := bd2E h
    refine X.callV (b := r32) (v := some (.int v38)) (As := [.ref r36]) (st := []) (M' := M39) (pc' := 68) dX10_draft_65 rfl cl_X10_227 mi_X4_endOf me_X4_endOf mr_X4_endOf e41 ⟨⟨Nat.le_of_ble_eq_true rfl, Nat.le_of_ble_eq_true rfl⟩, Nat.le_of_ble_eq_true rfl, Nat.le_of_ble_eq_true rfl⟩ rfl (Nat.le_of_ble_eq_true rfl) (ok_X4_endOf (G := zs G) e40) ?_
    show X G t_X10_draft [] 68 [some (.ref a0), some (.int a1)] [.int v38] M39 1 6 _
    cases h
    exact X.iret (ty := .int) dX10_draft_68 rfl rfl (Nat.le_of_ble_eq_true rfl) (Nat.le_of_ble_eq_true rfl) rfl
  · rw [if_pos hc] at h
    cases h
    exact X.thr (tx := "the arc cannot follow in the draft") dX10_draft_26 dX10_draft_29 dX10_draft_30 dX10_draft_32 dX10_draft_35 rfl th_X10_86_90 (by decide +kernel) (Nat.le_of_ble_eq_true rfl) (Nat.le_of_ble_eq_true rfl) (Nat.le_of_ble_eq_true rfl) (Nat.le_of_ble_eq_true rfl) rfl
def f_X10_drop (fu : Nat) (a0 : Nat) (M : List Ob) : Option ((Except String Int32) × List Ob) :=
  (gP M a0 10 0).bind fun r1 =>
  (gP M r1 8 1).bind fun r3 =>
  (gI M r3 5 1).bind fun v5 =>
  if v5 = 0 then (some (.error "java/lang/IllegalStateException", M))
  else ((hasO M a0 10).bind fun _ =>
  bd2 (f_X10_beginChange fu a0 M) fun _ M8 =>
  (gP M8 a0 10 0).bind fun r11 =>
  (gP M8 r11 8 1).bind fun r13 =>
  (hasO M8 r13 5).bind fun _ =>
  bd2 (f_X5_pop fu r13 M8) fun v15 M16 =>
  (gP M16 a0 10 0).bind fun r19 =>
  (gP M16 r19 8 1).bind fun r21 =>
  (gI M16 r21 5 1).bind fun v23 =>
  some (.ok v23, M16))
set_option maxHeartbeats 4000000 in
theorem ok_X10_drop {G : GT} (hz : gZ G = false) {fu : Nat} {a0 : Nat} {M : List Ob} {out : (Except String Int32) × List Ob} (h : f_X10_drop fu a0 M = some out) : Sq G t_X10_drop [.ref a0] M (xI out) := by
  refine Sq.of rfl (by decide +kernel) (cat_all rfl) (Nat.le_of_ble_eq_true rfl) ?_
  show X G t_X10_drop [] 0 [some (.ref a0)] [] M 0 0 (xI out)
  unfold f_X10_drop at h
  refine X.aload_n (x := a0) (pc' := 1) dX10_drop_0 rfl rfl rfl ?_
  obtain ⟨r1, e2, h⟩ := bindE h
  refine X.getf (pc' := 4) dX10_drop_1 rfl fq_X10_10 (gP_spec e2) ?_
  obtain ⟨r3, e4, h⟩ := bindE h
  refine X.getf (pc' := 7) dX10_drop_4 rfl fq_X10_138 (gP_spec e4) ?_
  obtain ⟨v5, e6, h⟩ := bindE h
  refine X.getf (pc' := 10) dX10_drop_7 rfl fq_X10_142 (gI_spec e6) ?_
  refine X.if_ne (tgt := 23) (pc' := 13) dX10_drop_10 (by decide) rfl (fun hc => ?_) (fun hc => ?_)
  · rw [if_neg hc] at h
    refine X.aload_n (x := a0) (pc' := 24) dX10_drop_23 rfl rfl rfl ?_
    obtain ⟨⟨⟩, e10, h⟩ := bindE h
    obtain ⟨r7, M8, e9, h⟩ := bd2E h
    refine X.callV (b := a0) (v := none) (As := []) (st := []) (M' := M8) (pc' := 27) dX10_drop_24 rfl cl_X10_109 mi_X10_beginChange me_X10_beginChange mr_X10_beginChange e10 ⟨⟨Nat.le_of_ble_eq_true rfl, Nat.le_of_ble_eq_true rfl⟩, Nat.le_of_ble_eq_true rfl, Nat.le_of_ble_eq_true rfl⟩ rfl (Nat.le_of_ble_eq_true rfl) (ok_X10_beginChange (G := zs G) (hz := hz) e9) ?_
    show X G t_X10_drop [] 27 [some (.ref a0)] [] M8 0 0 _
    refine X.aload_n (x := a0) (pc' := 28) dX10_drop_27 rfl rfl rfl ?_
    obtain ⟨r11, e12, h⟩ := bindE h
    refine X.getf (pc' := 31) dX10_drop_28 rfl fq_X10_10 (gP_spec e12) ?_
    obtain ⟨r13, e14, h⟩ := bindE h
    refine X.getf (pc' := 34) dX10_drop_31 rfl fq_X10_138 (gP_spec e14) ?_
    obtain ⟨⟨⟩, e18, h⟩ := bindE h
    obtain ⟨v15, M16, e17, h⟩ := bd2E h
    refine X.callV (b := r13) (v := some (.int v15)) (As := []) (st := []) (M' := M16) (pc' := 37) dX10_drop_34 rfl cl_X10_233 mi_X5_pop me_X5_pop mr_X5_pop e18 ⟨⟨Nat.le_of_ble_eq_true rfl, Nat.le_of_ble_eq_true rfl⟩, Nat.le_of_ble_eq_true rfl, Nat.le_of_ble_eq_true rfl⟩ rfl (Nat.le_of_ble_eq_true rfl) (ok_X5_pop (G := zs G) e17) ?_
    show X G t_X10_drop [] 37 [some (.ref a0)] [.int v15] M16 0 0 _
    refine X.pop (pc' := 38) dX10_drop_37 rfl rfl ?_
    refine X.aload_n (x := a0) (pc' := 39) dX10_drop_38 rfl rfl rfl ?_
    obtain ⟨r19, e20, h⟩ := bindE h
    refine X.getf (pc' := 42) dX10_drop_39 rfl fq_X10_10 (gP_spec e20) ?_
    obtain ⟨r21, e22, h⟩ := bindE h
    refine X.getf (pc' := 45) dX10_drop_42 rfl fq_X10_138 (gP_spec e22) ?_
    obtain ⟨v23, e24, h⟩ := bindE h
    refine X.getf (pc' := 48) dX10_drop_45 rfl fq_X10_142 (gI_spec e24) ?_
    cases h
    exact X.iret (ty := .int) dX10_drop_48 rfl rfl (Nat.le_of_ble_eq_true rfl) (Nat.le_of_ble_eq_true rfl) rfl
  · rw [if_pos hc] at h
    cases h
    exact X.thr (tx := "the draft is empty") dX10_drop_13 dX10_drop_16 dX10_drop_17 dX10_drop_19 dX10_drop_22 rfl th_X10_86_90 (by decide +kernel) (Nat.le_of_ble_eq_true rfl) (Nat.le_of_ble_eq_true rfl) (Nat.le_of_ble_eq_true rfl) (Nat.le_of_ble_eq_true rfl) rfl
def f_X10_reason (fu : Nat) (a0 : Nat) (M : List Ob) : Option (Int32 × List Ob) :=
  (gP M a0 10 0).bind fun r1 =>
  (gP M r1 8 0).bind fun r3 =>
  (gP M a0 10 0).bind fun r5 =>
  (gP M r5 8 1).bind fun r7 =>
  (hasO M r3 4).bind fun _ =>
  bd2 (f_X4_endOf fu r3 r7 M) fun v9 M10 =>
  (gP M10 a0 10 0).bind fun r13 =>
  (gP M10 r13 8 0).bind fun r15 =>
  (gI M10 r15 4 2).bind fun v17 =>
  if v9 = v17 then ((gP M10 a0 10 0).bind fun r19 =>
  (gP M10 a0 10 0).bind fun r21 =>
  (gP M10 r21 8 1).bind fun r23 =>
  (hasO M10 r19 8).bind fun _ =>
  bd2 (f_X8_wasTold fu r19 r23 M10) fun v25 M26 =>
  if v25 = 0 then ((gP M26 a0 10 0).bind fun r29 =>
  (gI M26 r29 8 3).bind fun v31 =>
  if v31 < 6 then (some (0, M26))
  else (some (3, M26)))
  else (some (2, M26)))
  else (some (1, M10))
set_option maxHeartbeats 4000000 in
theorem ok_X10_reason {G : GT} {fu : Nat} {a0 : Nat} {M : List Ob} {out : Int32 × List Ob} (h : f_X10_reason fu a0 M = some out) : Sp G t_X10_reason [.ref a0] M (oI out) := by
  refine Sp.of rfl (by decide +kernel) (cat_all rfl) (Nat.le_of_ble_eq_true rfl) ?_
  show X G t_X10_reason [] 0 [some (.ref a0)] [] M 0 0 (oI out)
  unfold f_X10_reason at h
  refine X.aload_n (x := a0) (pc' := 1) dX10_reason_0 rfl rfl rfl ?_
  obtain ⟨r1, e2, h⟩ := bindE h
  refine X.getf (pc' := 4) dX10_reason_1 rfl fq_X10_10 (gP_spec e2) ?_
  obtain ⟨r3, e4, h⟩ := bindE h
  refine X.getf (pc' := 7) dX10_reason_4 rfl fq_X10_39 (gP_spec e4) ?_
  refine X.aload_n (x := a0) (pc' := 8) dX10_reason_7 rfl rfl rfl ?_
  obtain ⟨r5, e6, h⟩ := bindE h
  refine X.getf (pc' := 11) dX10_reason_8 rfl fq_X10_10 (gP_spec e6) ?_
  obtain ⟨r7, e8, h⟩ := bindE h
  refine X.getf (pc' := 14) dX10_reason_11 rfl fq_X10_138 (gP_spec e8) ?_
  obtain ⟨⟨⟩, e12, h⟩ := bindE h
  obtain ⟨v9, M10, e11, h⟩ := bd2E h
  refine X.callV (b := r3) (v := some (.int v9)) (As := [.ref r7]) (st := []) (M' := M10) (pc' := 17) dX10_reason_14 rfl cl_X10_227 mi_X4_endOf me_X4_endOf mr_X4_endOf e12 ⟨⟨Nat.le_of_ble_eq_true rfl, Nat.le_of_ble_eq_true rfl⟩, Nat.le_of_ble_eq_true rfl, Nat.le_of_ble_eq_true rfl⟩ rfl (Nat.le_of_ble_eq_true rfl) (ok_X4_endOf (G := zs G) e11) ?_
  show X G t_X10_reason [] 17 [some (.ref a0)] [.int v9] M10 0 0 _
  refine X.aload_n (x := a0) (pc' := 18) dX10_reason_17 rfl rfl rfl ?_
  obtain ⟨r13, e14, h⟩ := bindE h
  refine X.getf (pc' := 21) dX10_reason_18 rfl fq_X10_10 (gP_spec e14) ?_
  obtain ⟨r15, e16, h⟩ := bindE h
  refine X.getf (pc' := 24) dX10_reason_21 rfl fq_X10_39 (gP_spec e16) ?_
  obtain ⟨v17, e18, h⟩ := bindE h
  refine X.getf (pc' := 27) dX10_reason_24 rfl fq_X10_129 (gI_spec e18) ?_
  refine X.icmp_eq (tgt := 32) (pc' := 30) dX10_reason_27 (by decide) rfl (fun hc => ?_) (fun hc => ?_)
  · rw [if_pos hc] at h
    refine X.aload_n (x := a0) (pc' := 33) dX10_reason_32 rfl rfl rfl ?_
    obtain ⟨r19, e20, h⟩ := bindE h
    refine X.getf (pc' := 36) dX10_reason_33 rfl fq_X10_10 (gP_spec e20) ?_
    refine X.aload_n (x := a0) (pc' := 37) dX10_reason_36 rfl rfl rfl ?_
    obtain ⟨r21, e22, h⟩ := bindE h
    refine X.getf (pc' := 40) dX10_reason_37 rfl fq_X10_10 (gP_spec e22) ?_
    obtain ⟨r23, e24, h⟩ := bindE h
    refine X.getf (pc' := 43) dX10_reason_40 rfl fq_X10_138 (gP_spec e24) ?_
    obtain ⟨⟨⟩, e28, h⟩ := bindE h
    obtain ⟨v25, M26, e27, h⟩ := bd2E h
    refine X.callV (b := r19) (v := some (.int v25)) (As := [.ref r23]) (st := []) (M' := M26) (pc' := 46) dX10_reason_43 rfl cl_X10_236 mi_X8_wasTold me_X8_wasTold mr_X8_wasTold e28 ⟨⟨Nat.le_of_ble_eq_true rfl, Nat.le_of_ble_eq_true rfl⟩, Nat.le_of_ble_eq_true rfl, Nat.le_of_ble_eq_true rfl⟩ rfl (Nat.le_of_ble_eq_true rfl) (ok_X8_wasTold (G := zs G) e27) ?_
    show X G t_X10_reason [] 46 [some (.ref a0)] [.int v25] M26 0 0 _
    refine X.if_eq (tgt := 51) (pc' := 49) dX10_reason_46 (by decide) rfl (fun hc => ?_) (fun hc => ?_)
    · rw [if_pos hc] at h
      refine X.aload_n (x := a0) (pc' := 52) dX10_reason_51 rfl rfl rfl ?_
      obtain ⟨r29, e30, h⟩ := bindE h
      refine X.getf (pc' := 55) dX10_reason_52 rfl fq_X10_10 (gP_spec e30) ?_
      obtain ⟨v31, e32, h⟩ := bindE h
      refine X.getf (pc' := 58) dX10_reason_55 rfl fq_X10_135 (gI_spec e32) ?_
      refine X.bipush (v := 6) (pc' := 60) dX10_reason_58 rfl (by decide) ?_
      refine X.icmp_lt (tgt := 67) (pc' := 63) dX10_reason_60 (by decide) rfl (fun hc => ?_) (fun hc => ?_)
      · rw [if_pos hc] at h
        refine X.iconst (v := 0) (pc' := 68) dX10_reason_67 rfl (by decide) ?_
        cases h
        exact X.iret (ty := .int) dX10_reason_68 rfl rfl (Nat.le_of_ble_eq_true rfl) (Nat.le_of_ble_eq_true rfl) rfl
      · rw [if_neg hc] at h
        refine X.iconst (v := 3) (pc' := 64) dX10_reason_63 rfl (by decide) ?_
        refine X.goto (pc' := 68) dX10_reason_64 (by decide) ?_
        cases h
        exact X.iret (ty := .int) dX10_reason_68 rfl rfl (Nat.le_of_ble_eq_true rfl) (Nat.le_of_ble_eq_true rfl) rfl
    · rw [if_neg hc] at h
      refine X.iconst (v := 2) (pc' := 50) dX10_reason_49 rfl (by decide) ?_
      cases h
      exact X.iret (ty := .int) dX10_reason_50 rfl rfl (Nat.le_of_ble_eq_true rfl) (Nat.le_of_ble_eq_true rfl) rfl
  · rw [if_neg hc] at h
    refine X.iconst (v := 1) (pc' := 31) dX10_reason_30 rfl (by decide) ?_
    cases h
    exact X.iret (ty := .int) dX10_reason_31 rfl rfl (Nat.le_of_ble_eq_true rfl) (Nat.le_of_ble_eq_true rfl) rfl
def f_X10_tell (fu : Nat) (a0 : Nat) (M : List Ob) : Option ((Except String Int32) × List Ob) :=
  (hasO M a0 10).bind fun _ =>
  bd2 (f_X10_reason fu a0 M) fun v1 M2 =>
  if v1 = 0 then ((hasO M2 a0 10).bind fun _ =>
  bd2 (f_X10_beginChange fu a0 M2) fun _ M6 =>
  (gP M6 a0 10 0).bind fun r9 =>
  (gP M6 a0 10 0).bind fun r11 =>
  (gP M6 r11 8 1).bind fun r13 =>
  (hasO M6 r9 8).bind fun _ =>
  bd2 (f_X8_addTold fu r9 r13 M6) fun _ M16 =>
  (gP M16 a0 10 0).bind fun r19 =>
  (gP M16 r19 8 1).bind fun r21 =>
  (hasO M16 r21 5).bind fun _ =>
  bd2 (f_X5_clear fu r21 M16) fun _ M24 =>
  (gP M24 a0 10 0).bind fun r27 =>
  (gI M24 r27 8 3).bind fun v29 =>
  some (.ok (v29 - 1), M24))
  else (some (.error "java/lang/IllegalStateException", M2))
set_option maxHeartbeats 4000000 in
theorem ok_X10_tell {G : GT} (hz : gZ G = false) {fu : Nat} {a0 : Nat} {M : List Ob} {out : (Except String Int32) × List Ob} (h : f_X10_tell fu a0 M = some out) : Sq G t_X10_tell [.ref a0] M (xI out) := by
  refine Sq.of rfl (by decide +kernel) (cat_all rfl) (Nat.le_of_ble_eq_true rfl) ?_
  show X G t_X10_tell [] 0 [some (.ref a0)] [] M 0 0 (xI out)
  unfold f_X10_tell at h
  refine X.aload_n (x := a0) (pc' := 1) dX10_tell_0 rfl rfl rfl ?_
  obtain ⟨⟨⟩, e4, h⟩ := bindE h
  obtain ⟨v1, M2, e3, h⟩ := bd2E h
  refine X.callV (b := a0) (v := some (.int v1)) (As := []) (st := []) (M' := M2) (pc' := 4) dX10_tell_1 rfl cl_X10_240 mi_X10_reason me_X10_reason mr_X10_reason e4 ⟨⟨Nat.le_of_ble_eq_true rfl, Nat.le_of_ble_eq_true rfl⟩, Nat.le_of_ble_eq_true rfl, Nat.le_of_ble_eq_true rfl⟩ rfl (Nat.le_of_ble_eq_true rfl) (ok_X10_reason (G := zs G) e3) ?_
  show X G t_X10_tell [] 4 [some (.ref a0)] [.int v1] M2 0 0 _
  refine X.if_eq (tgt := 17) (pc' := 7) dX10_tell_4 (by decide) rfl (fun hc => ?_) (fun hc => ?_)
  · rw [if_pos hc] at h
    refine X.aload_n (x := a0) (pc' := 18) dX10_tell_17 rfl rfl rfl ?_
    obtain ⟨⟨⟩, e8, h⟩ := bindE h
    obtain ⟨r5, M6, e7, h⟩ := bd2E h
    refine X.callV (b := a0) (v := none) (As := []) (st := []) (M' := M6) (pc' := 21) dX10_tell_18 rfl cl_X10_109 mi_X10_beginChange me_X10_beginChange mr_X10_beginChange e8 ⟨⟨Nat.le_of_ble_eq_true rfl, Nat.le_of_ble_eq_true rfl⟩, Nat.le_of_ble_eq_true rfl, Nat.le_of_ble_eq_true rfl⟩ rfl (Nat.le_of_ble_eq_true rfl) (ok_X10_beginChange (G := zs G) (hz := hz) e7) ?_
    show X G t_X10_tell [] 21 [some (.ref a0)] [] M6 0 0 _
    refine X.aload_n (x := a0) (pc' := 22) dX10_tell_21 rfl rfl rfl ?_
    obtain ⟨r9, e10, h⟩ := bindE h
    refine X.getf (pc' := 25) dX10_tell_22 rfl fq_X10_10 (gP_spec e10) ?_
    refine X.aload_n (x := a0) (pc' := 26) dX10_tell_25 rfl rfl rfl ?_
    obtain ⟨r11, e12, h⟩ := bindE h
    refine X.getf (pc' := 29) dX10_tell_26 rfl fq_X10_10 (gP_spec e12) ?_
    obtain ⟨r13, e14, h⟩ := bindE h
    refine X.getf (pc' := 32) dX10_tell_29 rfl fq_X10_138 (gP_spec e14) ?_
    obtain ⟨⟨⟩, e18, h⟩ := bindE h
    obtain ⟨r15, M16, e17, h⟩ := bd2E h
    refine X.callV (b := r9) (v := none) (As := [.ref r13]) (st := []) (M' := M16) (pc' := 35) dX10_tell_32 rfl cl_X10_245 mi_X8_addTold me_X8_addTold mr_X8_addTold e18 ⟨⟨Nat.le_of_ble_eq_true rfl, Nat.le_of_ble_eq_true rfl⟩, Nat.le_of_ble_eq_true rfl, Nat.le_of_ble_eq_true rfl⟩ rfl (Nat.le_of_ble_eq_true rfl) (ok_X8_addTold (G := zs G) (hz := hz) e17) ?_
    show X G t_X10_tell [] 35 [some (.ref a0)] [] M16 0 0 _
    refine X.aload_n (x := a0) (pc' := 36) dX10_tell_35 rfl rfl rfl ?_
    obtain ⟨r19, e20, h⟩ := bindE h
    refine X.getf (pc' := 39) dX10_tell_36 rfl fq_X10_10 (gP_spec e20) ?_
    obtain ⟨r21, e22, h⟩ := bindE h
    refine X.getf (pc' := 42) dX10_tell_39 rfl fq_X10_138 (gP_spec e22) ?_
    obtain ⟨⟨⟩, e26, h⟩ := bindE h
    obtain ⟨r23, M24, e25, h⟩ := bd2E h
    refine X.callV (b := r21) (v := none) (As := []) (st := []) (M' := M24) (pc' := 45) dX10_tell_42 rfl cl_X10_249 mi_X5_clear me_X5_clear mr_X5_clear e26 ⟨⟨Nat.le_of_ble_eq_true rfl, Nat.le_of_ble_eq_true rfl⟩, Nat.le_of_ble_eq_true rfl, Nat.le_of_ble_eq_true rfl⟩ rfl (Nat.le_of_ble_eq_true rfl) (ok_X5_clear (G := zs G) e25) ?_
    show X G t_X10_tell [] 45 [some (.ref a0)] [] M24 0 0 _
    refine X.aload_n (x := a0) (pc' := 46) dX10_tell_45 rfl rfl rfl ?_
    obtain ⟨r27, e28, h⟩ := bindE h
    refine X.getf (pc' := 49) dX10_tell_46 rfl fq_X10_10 (gP_spec e28) ?_
    obtain ⟨v29, e30, h⟩ := bindE h
    refine X.getf (pc' := 52) dX10_tell_49 rfl fq_X10_135 (gI_spec e30) ?_
    refine X.iconst (v := 1) (pc' := 53) dX10_tell_52 rfl (by decide) ?_
    refine X.isub (pc' := 54) dX10_tell_53 rfl ?_
    cases h
    exact X.iret (ty := .int) dX10_tell_54 rfl rfl (Nat.le_of_ble_eq_true rfl) (Nat.le_of_ble_eq_true rfl) rfl
  · rw [if_neg hc] at h
    cases h
    exact X.thr (tx := "the draft cannot be told") dX10_tell_7 dX10_tell_10 dX10_tell_11 dX10_tell_13 dX10_tell_16 rfl th_X10_86_90 (by decide +kernel) (Nat.le_of_ble_eq_true rfl) (Nat.le_of_ble_eq_true rfl) (Nat.le_of_ble_eq_true rfl) (Nat.le_of_ble_eq_true rfl) rfl
def f_X10_requireRoute (fu : Nat) (a0 : Nat) (a1 : Int32) (M : List Ob) : Option ((Except String Unit) × List Ob) :=
  if a1 < 0 then (some (.error "java/lang/IndexOutOfBoundsException", M))
  else ((gP M a0 10 0).bind fun r1 =>
  (gI M r1 8 3).bind fun v3 =>
  if a1 < v3 then (some (.ok (), M))
  else (some (.error "java/lang/IndexOutOfBoundsException", M)))
set_option maxHeartbeats 4000000 in
theorem ok_X10_requireRoute {G : GT} (hz : gZ G = false) {fu : Nat} {a0 : Nat} {a1 : Int32} {M : List Ob} {out : (Except String Unit) × List Ob} (h : f_X10_requireRoute fu a0 a1 M = some out) : Sq G t_X10_requireRoute [.ref a0, .int a1] M (xU out) := by
  refine Sq.of rfl (by decide +kernel) (cat_all rfl) (Nat.le_of_ble_eq_true rfl) ?_
  show X G t_X10_requireRoute [] 0 [some (.ref a0), some (.int a1)] [] M 0 0 (xU out)
  unfold f_X10_requireRoute at h
  refine X.iload_n (x := a1) (pc' := 1) dX10_requireRoute_0 rfl rfl rfl ?_
  refine X.if_lt (tgt := 15) (pc' := 4) dX10_requireRoute_1 (by decide) rfl (fun hc => ?_) (fun hc => ?_)
  · rw [if_pos hc] at h
    cases h
    exact X.thrW (tx := "the told route does not exist") dX10_requireRoute_15 dX10_requireRoute_18 dX10_requireRoute_19 dX10_requireRoute_22 dX10_requireRoute_25 rfl th_X10_340_344 (by decide +kernel) (Nat.le_of_ble_eq_true rfl) (Nat.le_of_ble_eq_true rfl) (Nat.le_of_ble_eq_true rfl) (Nat.le_of_ble_eq_true rfl) rfl
  · rw [if_neg hc] at h
    refine X.iload_n (x := a1) (pc' := 5) dX10_requireRoute_4 rfl rfl rfl ?_
    refine X.aload_n (x := a0) (pc' := 6) dX10_requireRoute_5 rfl rfl rfl ?_
    obtain ⟨r1, e2, h⟩ := bindE h
    refine X.getf (pc' := 9) dX10_requireRoute_6 rfl fq_X10_10 (gP_spec e2) ?_
    obtain ⟨v3, e4, h⟩ := bindE h
    refine X.getf (pc' := 12) dX10_requireRoute_9 rfl fq_X10_135 (gI_spec e4) ?_
    refine X.icmp_lt (tgt := 26) (pc' := 15) dX10_requireRoute_12 (by decide) rfl (fun hc => ?_) (fun hc => ?_)
    · rw [if_pos hc] at h
      cases h
      exact X.vret dX10_requireRoute_26 rfl (Nat.le_of_ble_eq_true rfl) (Nat.le_of_ble_eq_true rfl) rfl
    · rw [if_neg hc] at h
      cases h
      exact X.thrW (tx := "the told route does not exist") dX10_requireRoute_15 dX10_requireRoute_18 dX10_requireRoute_19 dX10_requireRoute_22 dX10_requireRoute_25 rfl th_X10_340_344 (by decide +kernel) (Nat.le_of_ble_eq_true rfl) (Nat.le_of_ble_eq_true rfl) (Nat.le_of_ble_eq_true rfl) (Nat.le_of_ble_eq_true rfl) rfl
def f_X10_forget (fu : Nat) (a0 : Nat) (a1 : Int32) (M : List Ob) : Option ((Except String Int32) × List Ob) :=
  (hasO M a0 10).bind fun _ =>
  bdX (f_X10_requireRoute fu a0 a1 M) fun _ M2 =>
  (hasO M2 a0 10).bind fun _ =>
  bd2 (f_X10_beginChange fu a0 M2) fun _ M7 =>
  (gP M7 a0 10 0).bind fun r10 =>
  (hasO M7 r10 8).bind fun _ =>
  bd2 (f_X8_takeToldOut fu r10 a1 M7) fun _ M13 =>
  (gP M13 a0 10 0).bind fun r16 =>
  (gI M13 r16 8 3).bind fun v18 =>
  some (.ok v18, M13)
set_option maxHeartbeats 4000000 in
theorem ok_X10_forget {G : GT} (hz : gZ G = false) {fu : Nat} {a0 : Nat} {a1 : Int32} {M : List Ob} {out : (Except String Int32) × List Ob} (h : f_X10_forget fu a0 a1 M = some out) : Sq G t_X10_forget [.ref a0, .int a1] M (xI out) := by
  refine Sq.of rfl (by decide +kernel) (cat_all rfl) (Nat.le_of_ble_eq_true rfl) ?_
  show X G t_X10_forget [] 0 [some (.ref a0), some (.int a1)] [] M 0 0 (xI out)
  unfold f_X10_forget at h
  refine X.aload_n (x := a0) (pc' := 1) dX10_forget_0 rfl rfl rfl ?_
  refine X.iload_n (x := a1) (pc' := 2) dX10_forget_1 rfl rfl rfl ?_
  obtain ⟨⟨⟩, e4, h⟩ := bindE h
  rcases bdXE h with ⟨r1, M2, e3, h⟩ | ⟨E5, M2, e3, h⟩
  rotate_left
  · subst h
    exact X.callVx (b := a0) (As := [.int a1]) (st := []) (M' := M2) dX10_forget_2 cl_X10_252 mi_X10_requireRoute me_X10_requireRoute mr_X10_requireRoute e4 ⟨⟨Nat.le_of_ble_eq_true rfl, Nat.le_of_ble_eq_true rfl⟩, Nat.le_of_ble_eq_true rfl, Nat.le_of_ble_eq_true rfl⟩ rfl (Nat.le_of_ble_eq_true rfl) hz rfl (ok_X10_requireRoute (G := zs G) (hz := hz) e3) rfl
  refine X.callVq (b := a0) (v := none) (As := [.int a1]) (st := []) (M' := M2) (pc' := 5) dX10_forget_2 rfl cl_X10_252 mi_X10_requireRoute me_X10_requireRoute mr_X10_requireRoute e4 ⟨⟨Nat.le_of_ble_eq_true rfl, Nat.le_of_ble_eq_true rfl⟩, Nat.le_of_ble_eq_true rfl, Nat.le_of_ble_eq_true rfl⟩ rfl (Nat.le_of_ble_eq_true rfl) (ok_X10_requireRoute (G := zs G) (hz := hz) e3) ?_
  show X G t_X10_forget [] 5 [some (.ref a0), some (.int a1)] [] M2 1 6 _
  refine X.aload_n (x := a0) (pc' := 6) dX10_forget_5 rfl rfl rfl ?_
  obtain ⟨⟨⟩, e9, h⟩ := bindE h
  obtain ⟨r6, M7, e8, h⟩ := bd2E h
  refine X.callV (b := a0) (v := none) (As := []) (st := []) (M' := M7) (pc' := 9) dX10_forget_6 rfl cl_X10_109 mi_X10_beginChange me_X10_beginChange mr_X10_beginChange e9 ⟨⟨Nat.le_of_ble_eq_true rfl, Nat.le_of_ble_eq_true rfl⟩, Nat.le_of_ble_eq_true rfl, Nat.le_of_ble_eq_true rfl⟩ rfl (Nat.le_of_ble_eq_true rfl) (ok_X10_beginChange (G := zs G) (hz := hz) e8) ?_
  show X G t_X10_forget [] 9 [some (.ref a0), some (.int a1)] [] M7 1 6 _
  refine X.aload_n (x := a0) (pc' := 10) dX10_forget_9 rfl rfl rfl ?_
  obtain ⟨r10, e11, h⟩ := bindE h
  refine X.getf (pc' := 13) dX10_forget_10 rfl fq_X10_10 (gP_spec e11) ?_
  refine X.iload_n (x := a1) (pc' := 14) dX10_forget_13 rfl rfl rfl ?_
  obtain ⟨⟨⟩, e15, h⟩ := bindE h
  obtain ⟨r12, M13, e14, h⟩ := bd2E h
  refine X.callV (b := r10) (v := none) (As := [.int a1]) (st := []) (M' := M13) (pc' := 17) dX10_forget_14 rfl cl_X10_255 mi_X8_takeToldOut me_X8_takeToldOut mr_X8_takeToldOut e15 ⟨⟨Nat.le_of_ble_eq_true rfl, Nat.le_of_ble_eq_true rfl⟩, Nat.le_of_ble_eq_true rfl, Nat.le_of_ble_eq_true rfl⟩ rfl (Nat.le_of_ble_eq_true rfl) (ok_X8_takeToldOut (G := zs G) (hz := hz) e14) ?_
  show X G t_X10_forget [] 17 [some (.ref a0), some (.int a1)] [] M13 1 6 _
  refine X.aload_n (x := a0) (pc' := 18) dX10_forget_17 rfl rfl rfl ?_
  obtain ⟨r16, e17, h⟩ := bindE h
  refine X.getf (pc' := 21) dX10_forget_18 rfl fq_X10_10 (gP_spec e17) ?_
  obtain ⟨v18, e19, h⟩ := bindE h
  refine X.getf (pc' := 24) dX10_forget_21 rfl fq_X10_135 (gI_spec e19) ?_
  cases h
  exact X.iret (ty := .int) dX10_forget_24 rfl rfl (Nat.le_of_ble_eq_true rfl) (Nat.le_of_ble_eq_true rfl) rfl
def f_X10_arcAt (fu : Nat) (a0 : Nat) (a1 : Int32) (M : List Ob) : Option ((Except String Int32) × List Ob) :=
  if a1 < 0 then (some (.error "java/lang/IndexOutOfBoundsException", M))
  else ((gI M a0 5 1).bind fun v1 =>
  if a1 < v1 then ((gP M a0 5 0).bind fun r3 =>
  (aI M r3 13 a1).bind fun v6 =>
  some (.ok v6, M))
  else (some (.error "java/lang/IndexOutOfBoundsException", M)))
set_option maxHeartbeats 4000000 in
theorem ok_X10_arcAt {G : GT} (hz : gZ G = false) {fu : Nat} {a0 : Nat} {a1 : Int32} {M : List Ob} {out : (Except String Int32) × List Ob} (h : f_X10_arcAt fu a0 a1 M = some out) : Sq G t_X10_arcAt [.ref a0, .int a1] M (xI out) := by
  refine Sq.of rfl (by decide +kernel) (cat_all rfl) (Nat.le_of_ble_eq_true rfl) ?_
  show X G t_X10_arcAt [] 0 [some (.ref a0), some (.int a1)] [] M 0 0 (xI out)
  unfold f_X10_arcAt at h
  refine X.iload_n (x := a1) (pc' := 1) dX10_arcAt_0 rfl rfl rfl ?_
  refine X.if_lt (tgt := 12) (pc' := 4) dX10_arcAt_1 (by decide) rfl (fun hc => ?_) (fun hc => ?_)
  · rw [if_pos hc] at h
    cases h
    exact X.thrW (tx := "the route has not so many arcs") dX10_arcAt_12 dX10_arcAt_15 dX10_arcAt_16 dX10_arcAt_19 dX10_arcAt_22 rfl th_X10_340_344 (by decide +kernel) (Nat.le_of_ble_eq_true rfl) (Nat.le_of_ble_eq_true rfl) (Nat.le_of_ble_eq_true rfl) (Nat.le_of_ble_eq_true rfl) rfl
  · rw [if_neg hc] at h
    refine X.iload_n (x := a1) (pc' := 5) dX10_arcAt_4 rfl rfl rfl ?_
    refine X.aload_n (x := a0) (pc' := 6) dX10_arcAt_5 rfl rfl rfl ?_
    obtain ⟨v1, e2, h⟩ := bindE h
    refine X.getf (pc' := 9) dX10_arcAt_6 rfl fq_X10_142 (gI_spec e2) ?_
    refine X.icmp_lt (tgt := 23) (pc' := 12) dX10_arcAt_9 (by decide) rfl (fun hc => ?_) (fun hc => ?_)
    · rw [if_pos hc] at h
      refine X.aload_n (x := a0) (pc' := 24) dX10_arcAt_23 rfl rfl rfl ?_
      obtain ⟨r3, e4, h⟩ := bindE h
      refine X.getf (pc' := 27) dX10_arcAt_24 rfl fq_X10_351 (gP_spec e4) ?_
      refine X.iload_n (x := a1) (pc' := 28) dX10_arcAt_27 rfl rfl rfl ?_
      obtain ⟨v6, e5, h⟩ := bindE h
      refine X.iald (pc' := 29) dX10_arcAt_28 rfl e5 ?_
      cases h
      exact X.iret (ty := .int) dX10_arcAt_29 rfl rfl (Nat.le_of_ble_eq_true rfl) (Nat.le_of_ble_eq_true rfl) rfl
    · rw [if_neg hc] at h
      cases h
      exact X.thrW (tx := "the route has not so many arcs") dX10_arcAt_12 dX10_arcAt_15 dX10_arcAt_16 dX10_arcAt_19 dX10_arcAt_22 rfl th_X10_340_344 (by decide +kernel) (Nat.le_of_ble_eq_true rfl) (Nat.le_of_ble_eq_true rfl) (Nat.le_of_ble_eq_true rfl) (Nat.le_of_ble_eq_true rfl) rfl
def f_X10_routeArc (fu : Nat) (a0 : Nat) (a1 : Int32) (a2 : Int32) (M : List Ob) : Option ((Except String Int32) × List Ob) :=
  (hasO M a0 10).bind fun _ =>
  bdX (f_X10_requireRoute fu a0 a1 M) fun _ M2 =>
  (gP M2 a0 10 0).bind fun r6 =>
  (gP M2 r6 8 2).bind fun r8 =>
  (aP M2 r8 14 a1).bind fun r11 =>
  bdX (f_X10_arcAt fu r11 a2 M2) fun v12 M13 =>
  some (.ok v12, M13)
set_option maxHeartbeats 4000000 in
theorem ok_X10_routeArc {G : GT} (hz : gZ G = false) {fu : Nat} {a0 : Nat} {a1 : Int32} {a2 : Int32} {M : List Ob} {out : (Except String Int32) × List Ob} (h : f_X10_routeArc fu a0 a1 a2 M = some out) : Sq G t_X10_routeArc [.ref a0, .int a1, .int a2] M (xI out) := by
  refine Sq.of rfl (by decide +kernel) (cat_all rfl) (Nat.le_of_ble_eq_true rfl) ?_
  show X G t_X10_routeArc [] 0 [some (.ref a0), some (.int a1), some (.int a2)] [] M 0 0 (xI out)
  unfold f_X10_routeArc at h
  refine X.aload_n (x := a0) (pc' := 1) dX10_routeArc_0 rfl rfl rfl ?_
  refine X.iload_n (x := a1) (pc' := 2) dX10_routeArc_1 rfl rfl rfl ?_
  obtain ⟨⟨⟩, e4, h⟩ := bindE h
  rcases bdXE h with ⟨r1, M2, e3, h⟩ | ⟨E5, M2, e3, h⟩
  rotate_left
  · subst h
    exact X.callVx (b := a0) (As := [.int a1]) (st := []) (M' := M2) dX10_routeArc_2 cl_X10_252 mi_X10_requireRoute me_X10_requireRoute mr_X10_requireRoute e4 ⟨⟨Nat.le_of_ble_eq_true rfl, Nat.le_of_ble_eq_true rfl⟩, Nat.le_of_ble_eq_true rfl, Nat.le_of_ble_eq_true rfl⟩ rfl (Nat.le_of_ble_eq_true rfl) hz rfl (ok_X10_requireRoute (G := zs G) (hz := hz) e3) rfl
  refine X.callVq (b := a0) (v := none) (As := [.int a1]) (st := []) (M' := M2) (pc' := 5) dX10_routeArc_2 rfl cl_X10_252 mi_X10_requireRoute me_X10_requireRoute mr_X10_requireRoute e4 ⟨⟨Nat.le_of_ble_eq_true rfl, Nat.le_of_ble_eq_true rfl⟩, Nat.le_of_ble_eq_true rfl, Nat.le_of_ble_eq_true rfl⟩ rfl (Nat.le_of_ble_eq_true rfl) (ok_X10_requireRoute (G := zs G) (hz := hz) e3) ?_
  show X G t_X10_routeArc [] 5 [some (.ref a0), some (.int a1), some (.int a2)] [] M2 1 6 _
  refine X.aload_n (x := a0) (pc' := 6) dX10_routeArc_5 rfl rfl rfl ?_
  obtain ⟨r6, e7, h⟩ := bindE h
  refine X.getf (pc' := 9) dX10_routeArc_6 rfl fq_X10_10 (gP_spec e7) ?_
  obtain ⟨r8, e9, h⟩ := bindE h
  refine X.getf (pc' := 12) dX10_routeArc_9 rfl fq_X10_258 (gP_spec e9) ?_
  refine X.iload_n (x := a1) (pc' := 13) dX10_routeArc_12 rfl rfl rfl ?_
  obtain ⟨r11, e10, h⟩ := bindE h
  refine X.aald (pc' := 14) dX10_routeArc_13 rfl (by decide) e10 ?_
  refine X.iload_n (x := a2) (pc' := 15) dX10_routeArc_14 rfl rfl rfl ?_
  rcases bdXE h with ⟨v12, M13, e14, h⟩ | ⟨E16, M13, e14, h⟩
  rotate_left
  · subst h
    exact X.callSx (As := [.ref r11, .int a2]) (st := []) (M' := M13) dX10_routeArc_15 cl_X10_262 ms_X10_arcAt ⟨⟨Nat.le_of_ble_eq_true rfl, Nat.le_of_ble_eq_true rfl⟩, Nat.le_of_ble_eq_true rfl, Nat.le_of_ble_eq_true rfl⟩ rfl (Nat.le_of_ble_eq_true rfl) hz rfl (ok_X10_arcAt (G := zs G) (hz := hz) e14) rfl
  refine X.callSq (v := some (.int v12)) (As := [.ref r11, .int a2]) (st := []) (M' := M13) (pc' := 18) dX10_routeArc_15 rfl cl_X10_262 ms_X10_arcAt ⟨⟨Nat.le_of_ble_eq_true rfl, Nat.le_of_ble_eq_true rfl⟩, Nat.le_of_ble_eq_true rfl, Nat.le_of_ble_eq_true rfl⟩ rfl (Nat.le_of_ble_eq_true rfl) (ok_X10_arcAt (G := zs G) (hz := hz) e14) ?_
  show X G t_X10_routeArc [] 18 [some (.ref a0), some (.int a1), some (.int a2)] [.int v12] M13 2 12 _
  cases h
  exact X.iret (ty := .int) dX10_routeArc_18 rfl rfl (Nat.le_of_ble_eq_true rfl) (Nat.le_of_ble_eq_true rfl) rfl
def f_X10_numberOf (fu : Nat) (a0 : Nat) (a1 : Nat) (a2 : Int32) (M : List Ob) : Option (Int32 × List Ob) :=
  if a2 = 0 then ((gI M a1 5 1).bind fun v1 =>
  some (v1, M))
  else if a2 = 1 then ((gP M a0 10 0).bind fun r3 =>
  (gP M r3 8 0).bind fun r5 =>
  (hasO M r5 4).bind fun _ =>
  bd2 (f_X4_costAgainst fu r5 a1 0 M) fun v7 M8 =>
  some (v7, M8))
  else if a2 = 2 then ((gP M a0 10 0).bind fun r11 =>
  (gP M r11 8 0).bind fun r13 =>
  (hasO M r13 4).bind fun _ =>
  bd2 (f_X4_worstOf fu r13 a1 M) fun v15 M16 =>
  some (v15, M16))
  else if a2 = 3 then ((gP M a0 10 0).bind fun r19 =>
  (gP M r19 8 0).bind fun r21 =>
  (hasO M r21 4).bind fun _ =>
  bd2 (f_X4_witnessOf fu r21 a1 M) fun v23 M24 =>
  some (v23, M24))
  else if a2 = 4 then ((gP M a0 10 5).bind fun r27 =>
  (hasO M r27 3).bind fun _ =>
  bd2 (f_X3_regretOf fu r27 a1 M) fun v29 M30 =>
  some (v29, M30))
  else ((gP M a0 10 5).bind fun r33 =>
  (hasO M r33 3).bind fun _ =>
  bd2 (f_X3_regretWitnessOf fu r33 a1 M) fun v35 M36 =>
  some (v35, M36))
set_option maxHeartbeats 4000000 in
theorem ok_X10_numberOf {G : GT} {fu : Nat} {a0 : Nat} {a1 : Nat} {a2 : Int32} {M : List Ob} {out : Int32 × List Ob} (h : f_X10_numberOf fu a0 a1 a2 M = some out) : Sp G t_X10_numberOf [.ref a0, .ref a1, .int a2] M (oI out) := by
  refine Sp.of rfl (by decide +kernel) (cat_all rfl) (Nat.le_of_ble_eq_true rfl) ?_
  show X G t_X10_numberOf [] 0 [some (.ref a0), some (.ref a1), some (.int a2)] [] M 0 0 (oI out)
  unfold f_X10_numberOf at h
  refine X.iload_n (x := a2) (pc' := 1) dX10_numberOf_0 rfl rfl rfl ?_
  by_cases hc0 : a2 = 0
  · rw [if_pos hc0] at h
    refine X.tableIn (off := 35) (pc' := 36) dX10_numberOf_1 (by rw [hc0]; decide) (by rw [hc0]; decide) (by rw [hc0]; rfl) (by decide) ?_
    refine X.aload_n (x := a1) (pc' := 37) dX10_numberOf_36 rfl rfl rfl ?_
    obtain ⟨v1, e2, h⟩ := bindE h
    refine X.getf (pc' := 40) dX10_numberOf_37 rfl fq_X10_142 (gI_spec e2) ?_
    cases h
    exact X.iret (ty := .int) dX10_numberOf_40 rfl rfl (Nat.le_of_ble_eq_true rfl) (Nat.le_of_ble_eq_true rfl) rfl
  rw [if_neg hc0] at h
  by_cases hc1 : a2 = 1
  · rw [if_pos hc1] at h
    refine X.tableIn (off := 40) (pc' := 41) dX10_numberOf_1 (by rw [hc1]; decide) (by rw [hc1]; decide) (by rw [hc1]; rfl) (by decide) ?_
    refine X.aload_n (x := a0) (pc' := 42) dX10_numberOf_41 rfl rfl rfl ?_
    obtain ⟨r3, e4, h⟩ := bindE h
    refine X.getf (pc' := 45) dX10_numberOf_42 rfl fq_X10_10 (gP_spec e4) ?_
    obtain ⟨r5, e6, h⟩ := bindE h
    refine X.getf (pc' := 48) dX10_numberOf_45 rfl fq_X10_39 (gP_spec e6) ?_
    refine X.aload_n (x := a1) (pc' := 49) dX10_numberOf_48 rfl rfl rfl ?_
    refine X.iconst (v := 0) (pc' := 50) dX10_numberOf_49 rfl (by decide) ?_
    obtain ⟨⟨⟩, e10, h⟩ := bindE h
    obtain ⟨v7, M8, e9, h⟩ := bd2E h
    refine X.callV (b := r5) (v := some (.int v7)) (As := [.ref a1, .int 0]) (st := []) (M' := M8) (pc' := 53) dX10_numberOf_50 rfl cl_X10_277 mi_X4_costAgainst me_X4_costAgainst mr_X4_costAgainst e10 ⟨⟨Nat.le_of_ble_eq_true rfl, Nat.le_of_ble_eq_true rfl⟩, Nat.le_of_ble_eq_true rfl, Nat.le_of_ble_eq_true rfl⟩ rfl (Nat.le_of_ble_eq_true rfl) (ok_X4_costAgainst (G := zs G) e9) ?_
    show X G t_X10_numberOf [] 53 [some (.ref a0), some (.ref a1), some (.int a2)] [.int v7] M8 0 0 _
    cases h
    exact X.iret (ty := .int) dX10_numberOf_53 rfl rfl (Nat.le_of_ble_eq_true rfl) (Nat.le_of_ble_eq_true rfl) rfl
  rw [if_neg hc1] at h
  by_cases hc2 : a2 = 2
  · rw [if_pos hc2] at h
    refine X.tableIn (off := 53) (pc' := 54) dX10_numberOf_1 (by rw [hc2]; decide) (by rw [hc2]; decide) (by rw [hc2]; rfl) (by decide) ?_
    refine X.aload_n (x := a0) (pc' := 55) dX10_numberOf_54 rfl rfl rfl ?_
    obtain ⟨r11, e12, h⟩ := bindE h
    refine X.getf (pc' := 58) dX10_numberOf_55 rfl fq_X10_10 (gP_spec e12) ?_
    obtain ⟨r13, e14, h⟩ := bindE h
    refine X.getf (pc' := 61) dX10_numberOf_58 rfl fq_X10_39 (gP_spec e14) ?_
    refine X.aload_n (x := a1) (pc' := 62) dX10_numberOf_61 rfl rfl rfl ?_
    obtain ⟨⟨⟩, e18, h⟩ := bindE h
    obtain ⟨v15, M16, e17, h⟩ := bd2E h
    refine X.callV (b := r13) (v := some (.int v15)) (As := [.ref a1]) (st := []) (M' := M16) (pc' := 65) dX10_numberOf_62 rfl cl_X10_292 mi_X4_worstOf me_X4_worstOf mr_X4_worstOf e18 ⟨⟨Nat.le_of_ble_eq_true rfl, Nat.le_of_ble_eq_true rfl⟩, Nat.le_of_ble_eq_true rfl, Nat.le_of_ble_eq_true rfl⟩ rfl (Nat.le_of_ble_eq_true rfl) (ok_X4_worstOf (G := zs G) e17) ?_
    show X G t_X10_numberOf [] 65 [some (.ref a0), some (.ref a1), some (.int a2)] [.int v15] M16 0 0 _
    cases h
    exact X.iret (ty := .int) dX10_numberOf_65 rfl rfl (Nat.le_of_ble_eq_true rfl) (Nat.le_of_ble_eq_true rfl) rfl
  rw [if_neg hc2] at h
  by_cases hc3 : a2 = 3
  · rw [if_pos hc3] at h
    refine X.tableIn (off := 65) (pc' := 66) dX10_numberOf_1 (by rw [hc3]; decide) (by rw [hc3]; decide) (by rw [hc3]; rfl) (by decide) ?_
    refine X.aload_n (x := a0) (pc' := 67) dX10_numberOf_66 rfl rfl rfl ?_
    obtain ⟨r19, e20, h⟩ := bindE h
    refine X.getf (pc' := 70) dX10_numberOf_67 rfl fq_X10_10 (gP_spec e20) ?_
    obtain ⟨r21, e22, h⟩ := bindE h
    refine X.getf (pc' := 73) dX10_numberOf_70 rfl fq_X10_39 (gP_spec e22) ?_
    refine X.aload_n (x := a1) (pc' := 74) dX10_numberOf_73 rfl rfl rfl ?_
    obtain ⟨⟨⟩, e26, h⟩ := bindE h
    obtain ⟨v23, M24, e25, h⟩ := bd2E h
    refine X.callV (b := r21) (v := some (.int v23)) (As := [.ref a1]) (st := []) (M' := M24) (pc' := 77) dX10_numberOf_74 rfl cl_X10_345 mi_X4_witnessOf me_X4_witnessOf mr_X4_witnessOf e26 ⟨⟨Nat.le_of_ble_eq_true rfl, Nat.le_of_ble_eq_true rfl⟩, Nat.le_of_ble_eq_true rfl, Nat.le_of_ble_eq_true rfl⟩ rfl (Nat.le_of_ble_eq_true rfl) (ok_X4_witnessOf (G := zs G) e25) ?_
    show X G t_X10_numberOf [] 77 [some (.ref a0), some (.ref a1), some (.int a2)] [.int v23] M24 0 0 _
    cases h
    exact X.iret (ty := .int) dX10_numberOf_77 rfl rfl (Nat.le_of_ble_eq_true rfl) (Nat.le_of_ble_eq_true rfl) rfl
  rw [if_neg hc3] at h
  by_cases hc4 : a2 = 4
  · rw [if_pos hc4] at h
    refine X.tableIn (off := 77) (pc' := 78) dX10_numberOf_1 (by rw [hc4]; decide) (by rw [hc4]; decide) (by rw [hc4]; rfl) (by decide) ?_
    refine X.aload_n (x := a0) (pc' := 79) dX10_numberOf_78 rfl rfl rfl ?_
    obtain ⟨r27, e28, h⟩ := bindE h
    refine X.getf (pc' := 82) dX10_numberOf_79 rfl fq_X10_55 (gP_spec e28) ?_
    refine X.aload_n (x := a1) (pc' := 83) dX10_numberOf_82 rfl rfl rfl ?_
    obtain ⟨⟨⟩, e32, h⟩ := bindE h
    obtain ⟨v29, M30, e31, h⟩ := bd2E h
    refine X.callV (b := r27) (v := some (.int v29)) (As := [.ref a1]) (st := []) (M' := M30) (pc' := 86) dX10_numberOf_83 rfl cl_X10_393 mi_X3_regretOf me_X3_regretOf mr_X3_regretOf e32 ⟨⟨Nat.le_of_ble_eq_true rfl, Nat.le_of_ble_eq_true rfl⟩, Nat.le_of_ble_eq_true rfl, Nat.le_of_ble_eq_true rfl⟩ rfl (Nat.le_of_ble_eq_true rfl) (ok_X3_regretOf (G := zs G) e31) ?_
    show X G t_X10_numberOf [] 86 [some (.ref a0), some (.ref a1), some (.int a2)] [.int v29] M30 0 0 _
    cases h
    exact X.iret (ty := .int) dX10_numberOf_86 rfl rfl (Nat.le_of_ble_eq_true rfl) (Nat.le_of_ble_eq_true rfl) rfl
  rw [if_neg hc4] at h
  refine X.tableOut (pc' := 87) dX10_numberOf_1 (sw_out (n := 4) (by decide) (fun j hj => match j, hj with | 0, _ => hc0 | 1, _ => hc1 | 2, _ => hc2 | 3, _ => hc3 | 4, _ => hc4 | j + 5, hj => absurd hj (by omega))) (by decide) ?_
  refine X.aload_n (x := a0) (pc' := 88) dX10_numberOf_87 rfl rfl rfl ?_
  obtain ⟨r33, e34, h⟩ := bindE h
  refine X.getf (pc' := 91) dX10_numberOf_88 rfl fq_X10_55 (gP_spec e34) ?_
  refine X.aload_n (x := a1) (pc' := 92) dX10_numberOf_91 rfl rfl rfl ?_
  obtain ⟨⟨⟩, e38, h⟩ := bindE h
  obtain ⟨v35, M36, e37, h⟩ := bd2E h
  refine X.callV (b := r33) (v := some (.int v35)) (As := [.ref a1]) (st := []) (M' := M36) (pc' := 95) dX10_numberOf_92 rfl cl_X10_396 mi_X3_regretWitnessOf me_X3_regretWitnessOf mr_X3_regretWitnessOf e38 ⟨⟨Nat.le_of_ble_eq_true rfl, Nat.le_of_ble_eq_true rfl⟩, Nat.le_of_ble_eq_true rfl, Nat.le_of_ble_eq_true rfl⟩ rfl (Nat.le_of_ble_eq_true rfl) (ok_X3_regretWitnessOf (G := zs G) e37) ?_
  show X G t_X10_numberOf [] 95 [some (.ref a0), some (.ref a1), some (.int a2)] [.int v35] M36 0 0 _
  cases h
  exact X.iret (ty := .int) dX10_numberOf_95 rfl rfl (Nat.le_of_ble_eq_true rfl) (Nat.le_of_ble_eq_true rfl) rfl
def f_X10_route (fu : Nat) (a0 : Nat) (a1 : Int32) (a2 : Int32) (M : List Ob) : Option ((Except String Int32) × List Ob) :=
  (hasO M a0 10).bind fun _ =>
  bdX (f_X10_requireRoute fu a0 a1 M) fun _ M2 =>
  if a2 < 0 then (some (.error "java/lang/IllegalArgumentException", M2))
  else (if a2 ≤ 7 then (if a2 = 6 then ((gP M2 a0 10 5).bind fun r28 =>
  (gP M2 a0 10 0).bind fun r30 =>
  (gP M2 r30 8 2).bind fun r32 =>
  (aP M2 r32 14 a1).bind fun r35 =>
  (hasO M2 r28 3).bind fun _ =>
  bd2 (f_X3_toldRegretOf fu r28 r35 M2) fun v36 M37 =>
  some (.ok v36, M37))
  else (if a2 = 7 then ((gP M2 a0 10 5).bind fun r16 =>
  (gP M2 a0 10 0).bind fun r18 =>
  (gP M2 r18 8 2).bind fun r20 =>
  (aP M2 r20 14 a1).bind fun r23 =>
  (hasO M2 r16 3).bind fun _ =>
  bd2 (f_X3_countBeating fu r16 r23 M2) fun v24 M25 =>
  some (.ok v24, M25))
  else ((gP M2 a0 10 0).bind fun r6 =>
  (gP M2 r6 8 2).bind fun r8 =>
  (aP M2 r8 14 a1).bind fun r11 =>
  (hasO M2 a0 10).bind fun _ =>
  bd2 (f_X10_numberOf fu a0 r11 a2 M2) fun v12 M13 =>
  some (.ok v12, M13))))
  else (some (.error "java/lang/IllegalArgumentException", M2)))
set_option maxHeartbeats 4000000 in
theorem ok_X10_route {G : GT} (hz : gZ G = false) {fu : Nat} {a0 : Nat} {a1 : Int32} {a2 : Int32} {M : List Ob} {out : (Except String Int32) × List Ob} (h : f_X10_route fu a0 a1 a2 M = some out) : Sq G t_X10_route [.ref a0, .int a1, .int a2] M (xI out) := by
  refine Sq.of rfl (by decide +kernel) (cat_all rfl) (Nat.le_of_ble_eq_true rfl) ?_
  show X G t_X10_route [] 0 [some (.ref a0), some (.int a1), some (.int a2)] [] M 0 0 (xI out)
  unfold f_X10_route at h
  refine X.aload_n (x := a0) (pc' := 1) dX10_route_0 rfl rfl rfl ?_
  refine X.iload_n (x := a1) (pc' := 2) dX10_route_1 rfl rfl rfl ?_
  obtain ⟨⟨⟩, e4, h⟩ := bindE h
  rcases bdXE h with ⟨r1, M2, e3, h⟩ | ⟨E5, M2, e3, h⟩
  rotate_left
  · subst h
    exact X.callVx (b := a0) (As := [.int a1]) (st := []) (M' := M2) dX10_route_2 cl_X10_252 mi_X10_requireRoute me_X10_requireRoute mr_X10_requireRoute e4 ⟨⟨Nat.le_of_ble_eq_true rfl, Nat.le_of_ble_eq_true rfl⟩, Nat.le_of_ble_eq_true rfl, Nat.le_of_ble_eq_true rfl⟩ rfl (Nat.le_of_ble_eq_true rfl) hz rfl (ok_X10_requireRoute (G := zs G) (hz := hz) e3) rfl
  refine X.callVq (b := a0) (v := none) (As := [.int a1]) (st := []) (M' := M2) (pc' := 5) dX10_route_2 rfl cl_X10_252 mi_X10_requireRoute me_X10_requireRoute mr_X10_requireRoute e4 ⟨⟨Nat.le_of_ble_eq_true rfl, Nat.le_of_ble_eq_true rfl⟩, Nat.le_of_ble_eq_true rfl, Nat.le_of_ble_eq_true rfl⟩ rfl (Nat.le_of_ble_eq_true rfl) (ok_X10_requireRoute (G := zs G) (hz := hz) e3) ?_
  show X G t_X10_route [] 5 [some (.ref a0), some (.int a1), some (.int a2)] [] M2 1 6 _
  refine X.iload_n (x := a2) (pc' := 6) dX10_route_5 rfl rfl rfl ?_
  refine X.if_lt (tgt := 15) (pc' := 9) dX10_route_6 (by decide) rfl (fun hc => ?_) (fun hc => ?_)
  · rw [if_pos hc] at h
    cases h
    exact X.thrW (tx := "no such number of a told route") dX10_route_15 dX10_route_18 dX10_route_19 dX10_route_22 dX10_route_25 rfl th_X10_97_101 (by decide +kernel) (Nat.le_of_ble_eq_true rfl) (Nat.le_of_ble_eq_true rfl) (Nat.le_of_ble_eq_true rfl) (Nat.le_of_ble_eq_true rfl) rfl
  · rw [if_neg hc] at h
    refine X.iload_n (x := a2) (pc' := 10) dX10_route_9 rfl rfl rfl ?_
    refine X.bipush (v := 7) (pc' := 12) dX10_route_10 rfl (by decide) ?_
    refine X.icmp_le (tgt := 26) (pc' := 15) dX10_route_12 (by decide) rfl (fun hc => ?_) (fun hc => ?_)
    · rw [if_pos hc] at h
      refine X.iload_n (x := a2) (pc' := 27) dX10_route_26 rfl rfl rfl ?_
      refine X.bipush (v := 6) (pc' := 29) dX10_route_27 rfl (by decide) ?_
      refine X.icmp_ne (tgt := 49) (pc' := 32) dX10_route_29 (by decide) rfl (fun hc => ?_) (fun hc => ?_)
      · rw [if_neg hc] at h
        refine X.iload_n (x := a2) (pc' := 50) dX10_route_49 rfl rfl rfl ?_
        refine X.bipush (v := 7) (pc' := 52) dX10_route_50 rfl (by decide) ?_
        refine X.icmp_ne (tgt := 72) (pc' := 55) dX10_route_52 (by decide) rfl (fun hc => ?_) (fun hc => ?_)
        · rw [if_neg hc] at h
          refine X.aload_n (x := a0) (pc' := 73) dX10_route_72 rfl rfl rfl ?_
          refine X.aload_n (x := a0) (pc' := 74) dX10_route_73 rfl rfl rfl ?_
          obtain ⟨r6, e7, h⟩ := bindE h
          refine X.getf (pc' := 77) dX10_route_74 rfl fq_X10_10 (gP_spec e7) ?_
          obtain ⟨r8, e9, h⟩ := bindE h
          refine X.getf (pc' := 80) dX10_route_77 rfl fq_X10_258 (gP_spec e9) ?_
          refine X.iload_n (x := a1) (pc' := 81) dX10_route_80 rfl rfl rfl ?_
          obtain ⟨r11, e10, h⟩ := bindE h
          refine X.aald (pc' := 82) dX10_route_81 rfl (by decide) e10 ?_
          refine X.iload_n (x := a2) (pc' := 83) dX10_route_82 rfl rfl rfl ?_
          obtain ⟨⟨⟩, e15, h⟩ := bindE h
          obtain ⟨v12, M13, e14, h⟩ := bd2E h
          refine X.callV (b := a0) (v := some (.int v12)) (As := [.ref r11, .int a2]) (st := []) (M' := M13) (pc' := 86) dX10_route_83 rfl cl_X10_274 mi_X10_numberOf me_X10_numberOf mr_X10_numberOf e15 ⟨⟨Nat.le_of_ble_eq_true rfl, Nat.le_of_ble_eq_true rfl⟩, Nat.le_of_ble_eq_true rfl, Nat.le_of_ble_eq_true rfl⟩ rfl (Nat.le_of_ble_eq_true rfl) (ok_X10_numberOf (G := zs G) e14) ?_
          show X G t_X10_route [] 86 [some (.ref a0), some (.int a1), some (.int a2)] [.int v12] M13 1 6 _
          cases h
          exact X.iret (ty := .int) dX10_route_86 rfl rfl (Nat.le_of_ble_eq_true rfl) (Nat.le_of_ble_eq_true rfl) rfl
        · rw [if_pos hc] at h
          refine X.aload_n (x := a0) (pc' := 56) dX10_route_55 rfl rfl rfl ?_
          obtain ⟨r16, e17, h⟩ := bindE h
          refine X.getf (pc' := 59) dX10_route_56 rfl fq_X10_55 (gP_spec e17) ?_
          refine X.aload_n (x := a0) (pc' := 60) dX10_route_59 rfl rfl rfl ?_
          obtain ⟨r18, e19, h⟩ := bindE h
          refine X.getf (pc' := 63) dX10_route_60 rfl fq_X10_10 (gP_spec e19) ?_
          obtain ⟨r20, e21, h⟩ := bindE h
          refine X.getf (pc' := 66) dX10_route_63 rfl fq_X10_258 (gP_spec e21) ?_
          refine X.iload_n (x := a1) (pc' := 67) dX10_route_66 rfl rfl rfl ?_
          obtain ⟨r23, e22, h⟩ := bindE h
          refine X.aald (pc' := 68) dX10_route_67 rfl (by decide) e22 ?_
          obtain ⟨⟨⟩, e27, h⟩ := bindE h
          obtain ⟨v24, M25, e26, h⟩ := bd2E h
          refine X.callV (b := r16) (v := some (.int v24)) (As := [.ref r23]) (st := []) (M' := M25) (pc' := 71) dX10_route_68 rfl cl_X10_271 mi_X3_countBeating me_X3_countBeating mr_X3_countBeating e27 ⟨⟨Nat.le_of_ble_eq_true rfl, Nat.le_of_ble_eq_true rfl⟩, Nat.le_of_ble_eq_true rfl, Nat.le_of_ble_eq_true rfl⟩ rfl (Nat.le_of_ble_eq_true rfl) (ok_X3_countBeating (G := zs G) e26) ?_
          show X G t_X10_route [] 71 [some (.ref a0), some (.int a1), some (.int a2)] [.int v24] M25 1 6 _
          cases h
          exact X.iret (ty := .int) dX10_route_71 rfl rfl (Nat.le_of_ble_eq_true rfl) (Nat.le_of_ble_eq_true rfl) rfl
      · rw [if_pos hc] at h
        refine X.aload_n (x := a0) (pc' := 33) dX10_route_32 rfl rfl rfl ?_
        obtain ⟨r28, e29, h⟩ := bindE h
        refine X.getf (pc' := 36) dX10_route_33 rfl fq_X10_55 (gP_spec e29) ?_
        refine X.aload_n (x := a0) (pc' := 37) dX10_route_36 rfl rfl rfl ?_
        obtain ⟨r30, e31, h⟩ := bindE h
        refine X.getf (pc' := 40) dX10_route_37 rfl fq_X10_10 (gP_spec e31) ?_
        obtain ⟨r32, e33, h⟩ := bindE h
        refine X.getf (pc' := 43) dX10_route_40 rfl fq_X10_258 (gP_spec e33) ?_
        refine X.iload_n (x := a1) (pc' := 44) dX10_route_43 rfl rfl rfl ?_
        obtain ⟨r35, e34, h⟩ := bindE h
        refine X.aald (pc' := 45) dX10_route_44 rfl (by decide) e34 ?_
        obtain ⟨⟨⟩, e39, h⟩ := bindE h
        obtain ⟨v36, M37, e38, h⟩ := bd2E h
        refine X.callV (b := r28) (v := some (.int v36)) (As := [.ref r35]) (st := []) (M' := M37) (pc' := 48) dX10_route_45 rfl cl_X10_268 mi_X3_toldRegretOf me_X3_toldRegretOf mr_X3_toldRegretOf e39 ⟨⟨Nat.le_of_ble_eq_true rfl, Nat.le_of_ble_eq_true rfl⟩, Nat.le_of_ble_eq_true rfl, Nat.le_of_ble_eq_true rfl⟩ rfl (Nat.le_of_ble_eq_true rfl) (ok_X3_toldRegretOf (G := zs G) e38) ?_
        show X G t_X10_route [] 48 [some (.ref a0), some (.int a1), some (.int a2)] [.int v36] M37 1 6 _
        cases h
        exact X.iret (ty := .int) dX10_route_48 rfl rfl (Nat.le_of_ble_eq_true rfl) (Nat.le_of_ble_eq_true rfl) rfl
    · rw [if_neg hc] at h
      cases h
      exact X.thrW (tx := "no such number of a told route") dX10_route_15 dX10_route_18 dX10_route_19 dX10_route_22 dX10_route_25 rfl th_X10_97_101 (by decide +kernel) (Nat.le_of_ble_eq_true rfl) (Nat.le_of_ble_eq_true rfl) (Nat.le_of_ble_eq_true rfl) (Nat.le_of_ble_eq_true rfl) rfl
def f_X10_cost (fu : Nat) (a0 : Nat) (a1 : Int32) (a2 : Int32) (M : List Ob) : Option ((Except String Int32) × List Ob) :=
  (hasO M a0 10).bind fun _ =>
  bdX (f_X10_requireRoute fu a0 a1 M) fun _ M2 =>
  (gP M2 a0 10 0).bind fun r6 =>
  (gP M2 r6 8 0).bind fun r8 =>
  (gP M2 a0 10 0).bind fun r10 =>
  (gP M2 r10 8 2).bind fun r12 =>
  (aP M2 r12 14 a1).bind fun r15 =>
  (hasO M2 r8 4).bind fun _ =>
  bd2 (f_X4_costAgainst fu r8 r15 a2 M2) fun v16 M17 =>
  some (.ok v16, M17)
set_option maxHeartbeats 4000000 in
theorem ok_X10_cost {G : GT} (hz : gZ G = false) {fu : Nat} {a0 : Nat} {a1 : Int32} {a2 : Int32} {M : List Ob} {out : (Except String Int32) × List Ob} (h : f_X10_cost fu a0 a1 a2 M = some out) : Sq G t_X10_cost [.ref a0, .int a1, .int a2] M (xI out) := by
  refine Sq.of rfl (by decide +kernel) (cat_all rfl) (Nat.le_of_ble_eq_true rfl) ?_
  show X G t_X10_cost [] 0 [some (.ref a0), some (.int a1), some (.int a2)] [] M 0 0 (xI out)
  unfold f_X10_cost at h
  refine X.aload_n (x := a0) (pc' := 1) dX10_cost_0 rfl rfl rfl ?_
  refine X.iload_n (x := a1) (pc' := 2) dX10_cost_1 rfl rfl rfl ?_
  obtain ⟨⟨⟩, e4, h⟩ := bindE h
  rcases bdXE h with ⟨r1, M2, e3, h⟩ | ⟨E5, M2, e3, h⟩
  rotate_left
  · subst h
    exact X.callVx (b := a0) (As := [.int a1]) (st := []) (M' := M2) dX10_cost_2 cl_X10_252 mi_X10_requireRoute me_X10_requireRoute mr_X10_requireRoute e4 ⟨⟨Nat.le_of_ble_eq_true rfl, Nat.le_of_ble_eq_true rfl⟩, Nat.le_of_ble_eq_true rfl, Nat.le_of_ble_eq_true rfl⟩ rfl (Nat.le_of_ble_eq_true rfl) hz rfl (ok_X10_requireRoute (G := zs G) (hz := hz) e3) rfl
  refine X.callVq (b := a0) (v := none) (As := [.int a1]) (st := []) (M' := M2) (pc' := 5) dX10_cost_2 rfl cl_X10_252 mi_X10_requireRoute me_X10_requireRoute mr_X10_requireRoute e4 ⟨⟨Nat.le_of_ble_eq_true rfl, Nat.le_of_ble_eq_true rfl⟩, Nat.le_of_ble_eq_true rfl, Nat.le_of_ble_eq_true rfl⟩ rfl (Nat.le_of_ble_eq_true rfl) (ok_X10_requireRoute (G := zs G) (hz := hz) e3) ?_
  show X G t_X10_cost [] 5 [some (.ref a0), some (.int a1), some (.int a2)] [] M2 1 6 _
  refine X.aload_n (x := a0) (pc' := 6) dX10_cost_5 rfl rfl rfl ?_
  obtain ⟨r6, e7, h⟩ := bindE h
  refine X.getf (pc' := 9) dX10_cost_6 rfl fq_X10_10 (gP_spec e7) ?_
  obtain ⟨r8, e9, h⟩ := bindE h
  refine X.getf (pc' := 12) dX10_cost_9 rfl fq_X10_39 (gP_spec e9) ?_
  refine X.aload_n (x := a0) (pc' := 13) dX10_cost_12 rfl rfl rfl ?_
  obtain ⟨r10, e11, h⟩ := bindE h
  refine X.getf (pc' := 16) dX10_cost_13 rfl fq_X10_10 (gP_spec e11) ?_
  obtain ⟨r12, e13, h⟩ := bindE h
  refine X.getf (pc' := 19) dX10_cost_16 rfl fq_X10_258 (gP_spec e13) ?_
  refine X.iload_n (x := a1) (pc' := 20) dX10_cost_19 rfl rfl rfl ?_
  obtain ⟨r15, e14, h⟩ := bindE h
  refine X.aald (pc' := 21) dX10_cost_20 rfl (by decide) e14 ?_
  refine X.iload_n (x := a2) (pc' := 22) dX10_cost_21 rfl rfl rfl ?_
  obtain ⟨⟨⟩, e19, h⟩ := bindE h
  obtain ⟨v16, M17, e18, h⟩ := bd2E h
  refine X.callV (b := r8) (v := some (.int v16)) (As := [.ref r15, .int a2]) (st := []) (M' := M17) (pc' := 25) dX10_cost_22 rfl cl_X10_277 mi_X4_costAgainst me_X4_costAgainst mr_X4_costAgainst e19 ⟨⟨Nat.le_of_ble_eq_true rfl, Nat.le_of_ble_eq_true rfl⟩, Nat.le_of_ble_eq_true rfl, Nat.le_of_ble_eq_true rfl⟩ rfl (Nat.le_of_ble_eq_true rfl) (ok_X4_costAgainst (G := zs G) e18) ?_
  show X G t_X10_cost [] 25 [some (.ref a0), some (.int a1), some (.int a2)] [.int v16] M17 1 6 _
  cases h
  exact X.iret (ty := .int) dX10_cost_25 rfl rfl (Nat.le_of_ble_eq_true rfl) (Nat.le_of_ble_eq_true rfl) rfl
def f_X10_chosen (fu : Nat) (a0 : Nat) (M : List Ob) : Option ((Except String Int32) × List Ob) :=
  (gP M a0 10 0).bind fun r1 =>
  (gI M r1 8 3).bind fun v3 =>
  if v3 = 0 then (some (.error "java/util/NoSuchElementException", M))
  else ((gP M a0 10 5).bind fun r5 =>
  (hasO M r5 3).bind fun _ =>
  bd2 (f_X3_chooseTold fu r5 M) fun v7 M8 =>
  some (.ok v7, M8))
set_option maxHeartbeats 4000000 in
theorem ok_X10_chosen {G : GT} (hz : gZ G = false) {fu : Nat} {a0 : Nat} {M : List Ob} {out : (Except String Int32) × List Ob} (h : f_X10_chosen fu a0 M = some out) : Sq G t_X10_chosen [.ref a0] M (xI out) := by
  refine Sq.of rfl (by decide +kernel) (cat_all rfl) (Nat.le_of_ble_eq_true rfl) ?_
  show X G t_X10_chosen [] 0 [some (.ref a0)] [] M 0 0 (xI out)
  unfold f_X10_chosen at h
  refine X.aload_n (x := a0) (pc' := 1) dX10_chosen_0 rfl rfl rfl ?_
  obtain ⟨r1, e2, h⟩ := bindE h
  refine X.getf (pc' := 4) dX10_chosen_1 rfl fq_X10_10 (gP_spec e2) ?_
  obtain ⟨v3, e4, h⟩ := bindE h
  refine X.getf (pc' := 7) dX10_chosen_4 rfl fq_X10_135 (gI_spec e4) ?_
  refine X.if_ne (tgt := 21) (pc' := 10) dX10_chosen_7 (by decide) rfl (fun hc => ?_) (fun hc => ?_)
  · rw [if_neg hc] at h
    refine X.aload_n (x := a0) (pc' := 22) dX10_chosen_21 rfl rfl rfl ?_
    obtain ⟨r5, e6, h⟩ := bindE h
    refine X.getf (pc' := 25) dX10_chosen_22 rfl fq_X10_55 (gP_spec e6) ?_
    obtain ⟨⟨⟩, e10, h⟩ := bindE h
    obtain ⟨v7, M8, e9, h⟩ := bd2E h
    refine X.callV (b := r5) (v := some (.int v7)) (As := []) (st := []) (M' := M8) (pc' := 28) dX10_chosen_25 rfl cl_X10_285 mi_X3_chooseTold me_X3_chooseTold mr_X3_chooseTold e10 ⟨⟨Nat.le_of_ble_eq_true rfl, Nat.le_of_ble_eq_true rfl⟩, Nat.le_of_ble_eq_true rfl, Nat.le_of_ble_eq_true rfl⟩ rfl (Nat.le_of_ble_eq_true rfl) (ok_X3_chooseTold (G := zs G) e9) ?_
    show X G t_X10_chosen [] 28 [some (.ref a0)] [.int v7] M8 0 0 _
    cases h
    exact X.iret (ty := .int) dX10_chosen_28 rfl rfl (Nat.le_of_ble_eq_true rfl) (Nat.le_of_ble_eq_true rfl) rfl
  · rw [if_pos hc] at h
    cases h
    exact X.thrN (tx := "there are no told routes") dX10_chosen_10 dX10_chosen_13 dX10_chosen_14 dX10_chosen_17 dX10_chosen_20 rfl th_X10_280_284 (by decide +kernel) (Nat.le_of_ble_eq_true rfl) (Nat.le_of_ble_eq_true rfl) (Nat.le_of_ble_eq_true rfl) (Nat.le_of_ble_eq_true rfl) rfl
def f_X10_beats (fu : Nat) (a0 : Nat) (a1 : Int32) (a2 : Int32) (M : List Ob) : Option ((Except String Int32) × List Ob) :=
  (hasO M a0 10).bind fun _ =>
  bdX (f_X10_requireRoute fu a0 a1 M) fun _ M2 =>
  (hasO M2 a0 10).bind fun _ =>
  bdX (f_X10_requireRoute fu a0 a2 M2) fun _ M7 =>
  (gP M7 a0 10 5).bind fun r11 =>
  (gP M7 a0 10 0).bind fun r13 =>
  (gP M7 r13 8 2).bind fun r15 =>
  (aP M7 r15 14 a1).bind fun r18 =>
  (gP M7 a0 10 0).bind fun r19 =>
  (gP M7 r19 8 2).bind fun r21 =>
  (aP M7 r21 14 a2).bind fun r24 =>
  (hasO M7 r11 3).bind fun _ =>
  bd2 (f_X3_isBeating fu r11 r18 r24 M7) fun v25 M26 =>
  if v25 &&& 1 = v25 then some (.ok v25, M26) else none
set_option maxHeartbeats 4000000 in
theorem ok_X10_beats {G : GT} (hz : gZ G = false) {fu : Nat} {a0 : Nat} {a1 : Int32} {a2 : Int32} {M : List Ob} {out : (Except String Int32) × List Ob} (h : f_X10_beats fu a0 a1 a2 M = some out) : Sq G t_X10_beats [.ref a0, .int a1, .int a2] M (xI out) := by
  refine Sq.of rfl (by decide +kernel) (cat_all rfl) (Nat.le_of_ble_eq_true rfl) ?_
  show X G t_X10_beats [] 0 [some (.ref a0), some (.int a1), some (.int a2)] [] M 0 0 (xI out)
  unfold f_X10_beats at h
  refine X.aload_n (x := a0) (pc' := 1) dX10_beats_0 rfl rfl rfl ?_
  refine X.iload_n (x := a1) (pc' := 2) dX10_beats_1 rfl rfl rfl ?_
  obtain ⟨⟨⟩, e4, h⟩ := bindE h
  rcases bdXE h with ⟨r1, M2, e3, h⟩ | ⟨E5, M2, e3, h⟩
  rotate_left
  · subst h
    exact X.callVx (b := a0) (As := [.int a1]) (st := []) (M' := M2) dX10_beats_2 cl_X10_252 mi_X10_requireRoute me_X10_requireRoute mr_X10_requireRoute e4 ⟨⟨Nat.le_of_ble_eq_true rfl, Nat.le_of_ble_eq_true rfl⟩, Nat.le_of_ble_eq_true rfl, Nat.le_of_ble_eq_true rfl⟩ rfl (Nat.le_of_ble_eq_true rfl) hz rfl (ok_X10_requireRoute (G := zs G) (hz := hz) e3) rfl
  refine X.callVq (b := a0) (v := none) (As := [.int a1]) (st := []) (M' := M2) (pc' := 5) dX10_beats_2 rfl cl_X10_252 mi_X10_requireRoute me_X10_requireRoute mr_X10_requireRoute e4 ⟨⟨Nat.le_of_ble_eq_true rfl, Nat.le_of_ble_eq_true rfl⟩, Nat.le_of_ble_eq_true rfl, Nat.le_of_ble_eq_true rfl⟩ rfl (Nat.le_of_ble_eq_true rfl) (ok_X10_requireRoute (G := zs G) (hz := hz) e3) ?_
  show X G t_X10_beats [] 5 [some (.ref a0), some (.int a1), some (.int a2)] [] M2 1 6 _
  refine X.aload_n (x := a0) (pc' := 6) dX10_beats_5 rfl rfl rfl ?_
  refine X.iload_n (x := a2) (pc' := 7) dX10_beats_6 rfl rfl rfl ?_
  obtain ⟨⟨⟩, e9, h⟩ := bindE h
  rcases bdXE h with ⟨r6, M7, e8, h⟩ | ⟨E10, M7, e8, h⟩
  rotate_left
  · subst h
    exact X.callVx (b := a0) (As := [.int a2]) (st := []) (M' := M7) dX10_beats_7 cl_X10_252 mi_X10_requireRoute me_X10_requireRoute mr_X10_requireRoute e9 ⟨⟨Nat.le_of_ble_eq_true rfl, Nat.le_of_ble_eq_true rfl⟩, Nat.le_of_ble_eq_true rfl, Nat.le_of_ble_eq_true rfl⟩ rfl (Nat.le_of_ble_eq_true rfl) hz rfl (ok_X10_requireRoute (G := zs G) (hz := hz) e8) rfl
  refine X.callVq (b := a0) (v := none) (As := [.int a2]) (st := []) (M' := M7) (pc' := 10) dX10_beats_7 rfl cl_X10_252 mi_X10_requireRoute me_X10_requireRoute mr_X10_requireRoute e9 ⟨⟨Nat.le_of_ble_eq_true rfl, Nat.le_of_ble_eq_true rfl⟩, Nat.le_of_ble_eq_true rfl, Nat.le_of_ble_eq_true rfl⟩ rfl (Nat.le_of_ble_eq_true rfl) (ok_X10_requireRoute (G := zs G) (hz := hz) e8) ?_
  show X G t_X10_beats [] 10 [some (.ref a0), some (.int a1), some (.int a2)] [] M7 2 12 _
  refine X.aload_n (x := a0) (pc' := 11) dX10_beats_10 rfl rfl rfl ?_
  obtain ⟨r11, e12, h⟩ := bindE h
  refine X.getf (pc' := 14) dX10_beats_11 rfl fq_X10_55 (gP_spec e12) ?_
  refine X.aload_n (x := a0) (pc' := 15) dX10_beats_14 rfl rfl rfl ?_
  obtain ⟨r13, e14, h⟩ := bindE h
  refine X.getf (pc' := 18) dX10_beats_15 rfl fq_X10_10 (gP_spec e14) ?_
  obtain ⟨r15, e16, h⟩ := bindE h
  refine X.getf (pc' := 21) dX10_beats_18 rfl fq_X10_258 (gP_spec e16) ?_
  refine X.iload_n (x := a1) (pc' := 22) dX10_beats_21 rfl rfl rfl ?_
  obtain ⟨r18, e17, h⟩ := bindE h
  refine X.aald (pc' := 23) dX10_beats_22 rfl (by decide) e17 ?_
  refine X.aload_n (x := a0) (pc' := 24) dX10_beats_23 rfl rfl rfl ?_
  obtain ⟨r19, e20, h⟩ := bindE h
  refine X.getf (pc' := 27) dX10_beats_24 rfl fq_X10_10 (gP_spec e20) ?_
  obtain ⟨r21, e22, h⟩ := bindE h
  refine X.getf (pc' := 30) dX10_beats_27 rfl fq_X10_258 (gP_spec e22) ?_
  refine X.iload_n (x := a2) (pc' := 31) dX10_beats_30 rfl rfl rfl ?_
  obtain ⟨r24, e23, h⟩ := bindE h
  refine X.aald (pc' := 32) dX10_beats_31 rfl (by decide) e23 ?_
  obtain ⟨⟨⟩, e28, h⟩ := bindE h
  obtain ⟨v25, M26, e27, h⟩ := bd2E h
  refine X.callV (b := r11) (v := some (.int v25)) (As := [.ref r18, .ref r24]) (st := []) (M' := M26) (pc' := 35) dX10_beats_32 rfl cl_X10_288 mi_X3_isBeating me_X3_isBeating mr_X3_isBeating e28 ⟨⟨Nat.le_of_ble_eq_true rfl, Nat.le_of_ble_eq_true rfl⟩, Nat.le_of_ble_eq_true rfl, Nat.le_of_ble_eq_true rfl⟩ rfl (Nat.le_of_ble_eq_true rfl) (ok_X3_isBeating (G := zs G) e27) ?_
  show X G t_X10_beats [] 35 [some (.ref a0), some (.int a1), some (.int a2)] [.int v25] M26 2 12 _
  split at h
  rotate_left
  · cases h
  rename_i hz1
  cases h
  exact X.iret (ty := .boolean) dX10_beats_35 rfl (congrArg Value.int hz1) (Nat.le_of_ble_eq_true rfl) (Nat.le_of_ble_eq_true rfl) rfl
def f_X10_strain (fu : Nat) (a0 : Nat) (a1 : Int32) (M : List Ob) : Option ((Except String UInt32) × List Ob) :=
  (hasO M a0 10).bind fun _ =>
  bdX (f_X10_requireRoute fu a0 a1 M) fun _ M2 =>
  (gP M2 a0 10 0).bind fun r6 =>
  (gP M2 r6 8 0).bind fun r8 =>
  (gP M2 a0 10 0).bind fun r10 =>
  (gP M2 r10 8 2).bind fun r12 =>
  (aP M2 r12 14 a1).bind fun r15 =>
  (hasO M2 r8 4).bind fun _ =>
  bd2 (f_X4_costAgainst fu r8 r15 0 M2) fun v16 M17 =>
  if v16 = 0 then (some (.ok FP.fconst1, M17))
  else ((gP M17 a0 10 0).bind fun r20 =>
  (gP M17 r20 8 0).bind fun r22 =>
  (gP M17 a0 10 0).bind fun r24 =>
  (gP M17 r24 8 2).bind fun r26 =>
  (aP M17 r26 14 a1).bind fun r29 =>
  (hasO M17 r22 4).bind fun _ =>
  bd2 (f_X4_worstOf fu r22 r29 M17) fun v30 M31 =>
  if (FP.fdiv (FP.i2f v30) (FP.i2f v16)) &&& 0x7fffffff ≤ 0x7f800000 then
  (some (.ok (FP.fdiv (FP.i2f v30) (FP.i2f v16)), M31))
  else none)
set_option maxHeartbeats 4000000 in
theorem ok_X10_strain {G : GT} (hz : gZ G = false) {fu : Nat} {a0 : Nat} {a1 : Int32} {M : List Ob} {out : (Except String UInt32) × List Ob} (h : f_X10_strain fu a0 a1 M = some out) : Sq G t_X10_strain [.ref a0, .int a1] M (xF out) := by
  refine Sq.of rfl (by decide +kernel) (cat_all rfl) (Nat.le_of_ble_eq_true rfl) ?_
  show X G t_X10_strain [] 0 [some (.ref a0), some (.int a1), none] [] M 0 0 (xF out)
  unfold f_X10_strain at h
  refine X.aload_n (x := a0) (pc' := 1) dX10_strain_0 rfl rfl rfl ?_
  refine X.iload_n (x := a1) (pc' := 2) dX10_strain_1 rfl rfl rfl ?_
  obtain ⟨⟨⟩, e4, h⟩ := bindE h
  rcases bdXE h with ⟨r1, M2, e3, h⟩ | ⟨E5, M2, e3, h⟩
  rotate_left
  · subst h
    exact X.callVx (b := a0) (As := [.int a1]) (st := []) (M' := M2) dX10_strain_2 cl_X10_252 mi_X10_requireRoute me_X10_requireRoute mr_X10_requireRoute e4 ⟨⟨Nat.le_of_ble_eq_true rfl, Nat.le_of_ble_eq_true rfl⟩, Nat.le_of_ble_eq_true rfl, Nat.le_of_ble_eq_true rfl⟩ rfl (Nat.le_of_ble_eq_true rfl) hz rfl (ok_X10_requireRoute (G := zs G) (hz := hz) e3) rfl
  refine X.callVq (b := a0) (v := none) (As := [.int a1]) (st := []) (M' := M2) (pc' := 5) dX10_strain_2 rfl cl_X10_252 mi_X10_requireRoute me_X10_requireRoute mr_X10_requireRoute e4 ⟨⟨Nat.le_of_ble_eq_true rfl, Nat.le_of_ble_eq_true rfl⟩, Nat.le_of_ble_eq_true rfl, Nat.le_of_ble_eq_true rfl⟩ rfl (Nat.le_of_ble_eq_true rfl) (ok_X10_requireRoute (G := zs G) (hz := hz) e3) ?_
  show X G t_X10_strain [] 5 [some (.ref a0), some (.int a1), none] [] M2 1 6 _
  refine X.aload_n (x := a0) (pc' := 6) dX10_strain_5 rfl rfl rfl ?_
  obtain ⟨r6, e7, h⟩ := bindE h
  refine X.getf (pc' := 9) dX10_strain_6 rfl fq_X10_10 (gP_spec e7) ?_
  obtain ⟨r8, e9, h⟩ := bindE h
  refine X.getf (pc' := 12) dX10_strain_9 rfl fq_X10_39 (gP_spec e9) ?_
  refine X.aload_n (x := a0) (pc' := 13) dX10_strain_12 rfl rfl rfl ?_
  obtain ⟨r10, e11, h⟩ := bindE h
  refine X.getf (pc' := 16) dX10_strain_13 rfl fq_X10_10 (gP_spec e11) ?_
  obtain ⟨r12, e13, h⟩ := bindE h
  refine X.getf (pc' := 19) dX10_strain_16 rfl fq_X10_258 (gP_spec e13) ?_
  refine X.iload_n (x := a1) (pc' := 20) dX10_strain_19 rfl rfl rfl ?_
  obtain ⟨r15, e14, h⟩ := bindE h
  refine X.aald (pc' := 21) dX10_strain_20 rfl (by decide) e14 ?_
  refine X.iconst (v := 0) (pc' := 22) dX10_strain_21 rfl (by decide) ?_
  obtain ⟨⟨⟩, e19, h⟩ := bindE h
  obtain ⟨v16, M17, e18, h⟩ := bd2E h
  refine X.callV (b := r8) (v := some (.int v16)) (As := [.ref r15, .int 0]) (st := []) (M' := M17) (pc' := 25) dX10_strain_22 rfl cl_X10_277 mi_X4_costAgainst me_X4_costAgainst mr_X4_costAgainst e19 ⟨⟨Nat.le_of_ble_eq_true rfl, Nat.le_of_ble_eq_true rfl⟩, Nat.le_of_ble_eq_true rfl, Nat.le_of_ble_eq_true rfl⟩ rfl (Nat.le_of_ble_eq_true rfl) (ok_X4_costAgainst (G := zs G) e18) ?_
  show X G t_X10_strain [] 25 [some (.ref a0), some (.int a1), none] [.int v16] M17 1 6 _
  refine X.istore_n (L' := [some (.ref a0), some (.int a1), some (.int v16)]) (pc' := 26) dX10_strain_25 rfl rfl (Nat.le_of_ble_eq_true rfl) rfl ?_
  refine X.iload_n (x := v16) (pc' := 27) dX10_strain_26 rfl rfl rfl ?_
  refine X.if_ne (tgt := 32) (pc' := 30) dX10_strain_27 (by decide) rfl (fun hc => ?_) (fun hc => ?_)
  · rw [if_neg hc] at h
    refine X.aload_n (x := a0) (pc' := 33) dX10_strain_32 rfl rfl rfl ?_
    obtain ⟨r20, e21, h⟩ := bindE h
    refine X.getf (pc' := 36) dX10_strain_33 rfl fq_X10_10 (gP_spec e21) ?_
    obtain ⟨r22, e23, h⟩ := bindE h
    refine X.getf (pc' := 39) dX10_strain_36 rfl fq_X10_39 (gP_spec e23) ?_
    refine X.aload_n (x := a0) (pc' := 40) dX10_strain_39 rfl rfl rfl ?_
    obtain ⟨r24, e25, h⟩ := bindE h
    refine X.getf (pc' := 43) dX10_strain_40 rfl fq_X10_10 (gP_spec e25) ?_
    obtain ⟨r26, e27, h⟩ := bindE h
    refine X.getf (pc' := 46) dX10_strain_43 rfl fq_X10_258 (gP_spec e27) ?_
    refine X.iload_n (x := a1) (pc' := 47) dX10_strain_46 rfl rfl rfl ?_
    obtain ⟨r29, e28, h⟩ := bindE h
    refine X.aald (pc' := 48) dX10_strain_47 rfl (by decide) e28 ?_
    obtain ⟨⟨⟩, e33, h⟩ := bindE h
    obtain ⟨v30, M31, e32, h⟩ := bd2E h
    refine X.callV (b := r22) (v := some (.int v30)) (As := [.ref r29]) (st := []) (M' := M31) (pc' := 51) dX10_strain_48 rfl cl_X10_292 mi_X4_worstOf me_X4_worstOf mr_X4_worstOf e33 ⟨⟨Nat.le_of_ble_eq_true rfl, Nat.le_of_ble_eq_true rfl⟩, Nat.le_of_ble_eq_true rfl, Nat.le_of_ble_eq_true rfl⟩ rfl (Nat.le_of_ble_eq_true rfl) (ok_X4_worstOf (G := zs G) e32) ?_
    show X G t_X10_strain [] 51 [some (.ref a0), some (.int a1), some (.int v16)] [.int v30] M31 1 6 _
    refine X.i2f (pc' := 52) dX10_strain_51 rfl ?_
    refine X.iload_n (x := v16) (pc' := 53) dX10_strain_52 rfl rfl rfl ?_
    refine X.i2f (pc' := 54) dX10_strain_53 rfl ?_
    split at h
    rotate_left
    · cases h
    rename_i hn9
    refine X.fdiv (pc' := 55) dX10_strain_54 rfl hn9 ?_
    cases h
    exact X.fret dX10_strain_55 rfl (Nat.le_of_ble_eq_true rfl) (Nat.le_of_ble_eq_true rfl) rfl
  · rw [if_pos hc] at h
    refine X.fconst1 (pc' := 31) dX10_strain_30 rfl ?_
    cases h
    exact X.fret dX10_strain_31 rfl (Nat.le_of_ble_eq_true rfl) (Nat.le_of_ble_eq_true rfl) rfl
def f_X10_shortest (fu : Nat) (a0 : Nat) (a1 : Int32) (M : List Ob) : Option ((Except String Int32) × List Ob) :=
  (gP M a0 10 5).bind fun r1 =>
  (hasO M r1 3).bind fun _ =>
  bd2 (f_X3_shortestCost fu r1 a1 M) fun v3 M4 =>
  if v3 = (-1) then (some (.error "java/util/NoSuchElementException", M4))
  else (some (.ok v3, M4))
set_option maxHeartbeats 4000000 in
theorem ok_X10_shortest {G : GT} (hz : gZ G = false) {fu : Nat} {a0 : Nat} {a1 : Int32} {M : List Ob} {out : (Except String Int32) × List Ob} (h : f_X10_shortest fu a0 a1 M = some out) : Sq G t_X10_shortest [.ref a0, .int a1] M (xI out) := by
  refine Sq.of rfl (by decide +kernel) (cat_all rfl) (Nat.le_of_ble_eq_true rfl) ?_
  show X G t_X10_shortest [] 0 [some (.ref a0), some (.int a1), none] [] M 0 0 (xI out)
  unfold f_X10_shortest at h
  refine X.aload_n (x := a0) (pc' := 1) dX10_shortest_0 rfl rfl rfl ?_
  obtain ⟨r1, e2, h⟩ := bindE h
  refine X.getf (pc' := 4) dX10_shortest_1 rfl fq_X10_55 (gP_spec e2) ?_
  refine X.iload_n (x := a1) (pc' := 5) dX10_shortest_4 rfl rfl rfl ?_
  obtain ⟨⟨⟩, e6, h⟩ := bindE h
  obtain ⟨v3, M4, e5, h⟩ := bd2E h
  refine X.callV (b := r1) (v := some (.int v3)) (As := [.int a1]) (st := []) (M' := M4) (pc' := 8) dX10_shortest_5 rfl cl_X10_295 mi_X3_shortestCost me_X3_shortestCost mr_X3_shortestCost e6 ⟨⟨Nat.le_of_ble_eq_true rfl, Nat.le_of_ble_eq_true rfl⟩, Nat.le_of_ble_eq_true rfl, Nat.le_of_ble_eq_true rfl⟩ rfl (Nat.le_of_ble_eq_true rfl) (ok_X3_shortestCost (G := zs G) e5) ?_
  show X G t_X10_shortest [] 8 [some (.ref a0), some (.int a1), none] [.int v3] M4 0 0 _
  refine X.istore_n (L' := [some (.ref a0), some (.int a1), some (.int v3)]) (pc' := 9) dX10_shortest_8 rfl rfl (Nat.le_of_ble_eq_true rfl) rfl ?_
  refine X.iload_n (x := v3) (pc' := 10) dX10_shortest_9 rfl rfl rfl ?_
  refine X.iconst (v := (-1)) (pc' := 11) dX10_shortest_10 rfl (by decide) ?_
  refine X.icmp_ne (tgt := 25) (pc' := 14) dX10_shortest_11 (by decide) rfl (fun hc => ?_) (fun hc => ?_)
  · rw [if_neg hc] at h
    refine X.iload_n (x := v3) (pc' := 26) dX10_shortest_25 rfl rfl rfl ?_
    cases h
    exact X.iret (ty := .int) dX10_shortest_26 rfl rfl (Nat.le_of_ble_eq_true rfl) (Nat.le_of_ble_eq_true rfl) rfl
  · rw [if_pos hc] at h
    cases h
    exact X.thrN (tx := "there is no route") dX10_shortest_14 dX10_shortest_17 dX10_shortest_18 dX10_shortest_21 dX10_shortest_24 rfl th_X10_280_284 (by decide +kernel) (Nat.le_of_ble_eq_true rfl) (Nat.le_of_ble_eq_true rfl) (Nat.le_of_ble_eq_true rfl) (Nat.le_of_ble_eq_true rfl) rfl
def f_X10_requireRouteNumber (fu : Nat) (a0 : Int32) (M : List Ob) : Option ((Except String Unit) × List Ob) :=
  if a0 < 0 then (some (.error "java/lang/IllegalArgumentException", M))
  else (if a0 ≤ 5 then (some (.ok (), M))
  else (some (.error "java/lang/IllegalArgumentException", M)))
set_option maxHeartbeats 4000000 in
theorem ok_X10_requireRouteNumber {G : GT} (hz : gZ G = false) {fu : Nat} {a0 : Int32} {M : List Ob} {out : (Except String Unit) × List Ob} (h : f_X10_requireRouteNumber fu a0 M = some out) : Sq G t_X10_requireRouteNumber [.int a0] M (xU out) := by
  refine Sq.of rfl (by decide +kernel) (cat_all rfl) (Nat.le_of_ble_eq_true rfl) ?_
  show X G t_X10_requireRouteNumber [] 0 [some (.int a0)] [] M 0 0 (xU out)
  unfold f_X10_requireRouteNumber at h
  refine X.iload_n (x := a0) (pc' := 1) dX10_requireRouteNumber_0 rfl rfl rfl ?_
  refine X.if_lt (tgt := 9) (pc' := 4) dX10_requireRouteNumber_1 (by decide) rfl (fun hc => ?_) (fun hc => ?_)
  · rw [if_pos hc] at h
    cases h
    exact X.thrW (tx := "no such number of a route") dX10_requireRouteNumber_9 dX10_requireRouteNumber_12 dX10_requireRouteNumber_13 dX10_requireRouteNumber_16 dX10_requireRouteNumber_19 rfl th_X10_97_101 (by decide +kernel) (Nat.le_of_ble_eq_true rfl) (Nat.le_of_ble_eq_true rfl) (Nat.le_of_ble_eq_true rfl) (Nat.le_of_ble_eq_true rfl) rfl
  · rw [if_neg hc] at h
    refine X.iload_n (x := a0) (pc' := 5) dX10_requireRouteNumber_4 rfl rfl rfl ?_
    refine X.iconst (v := 5) (pc' := 6) dX10_requireRouteNumber_5 rfl (by decide) ?_
    refine X.icmp_le (tgt := 20) (pc' := 9) dX10_requireRouteNumber_6 (by decide) rfl (fun hc => ?_) (fun hc => ?_)
    · rw [if_pos hc] at h
      cases h
      exact X.vret dX10_requireRouteNumber_20 rfl (Nat.le_of_ble_eq_true rfl) (Nat.le_of_ble_eq_true rfl) rfl
    · rw [if_neg hc] at h
      cases h
      exact X.thrW (tx := "no such number of a route") dX10_requireRouteNumber_9 dX10_requireRouteNumber_12 dX10_requireRouteNumber_13 dX10_requireRouteNumber_16 dX10_requireRouteNumber_19 rfl th_X10_97_101 (by decide +kernel) (Nat.le_of_ble_eq_true rfl) (Nat.le_of_ble_eq_true rfl) (Nat.le_of_ble_eq_true rfl) (Nat.le_of_ble_eq_true rfl) rfl
def f_X10_requireSome (fu : Nat) (a0 : Nat) (M : List Ob) : Option ((Except String Unit) × List Ob) :=
  (gI M a0 5 1).bind fun v1 =>
  if v1 = 0 then (some (.error "java/util/NoSuchElementException", M))
  else (some (.ok (), M))
set_option maxHeartbeats 4000000 in
theorem ok_X10_requireSome {G : GT} (hz : gZ G = false) {fu : Nat} {a0 : Nat} {M : List Ob} {out : (Except String Unit) × List Ob} (h : f_X10_requireSome fu a0 M = some out) : Sq G t_X10_requireSome [.ref a0] M (xU out) := by
  refine Sq.of rfl (by decide +kernel) (cat_all rfl) (Nat.le_of_ble_eq_true rfl) ?_
  show X G t_X10_requireSome [] 0 [some (.ref a0)] [] M 0 0 (xU out)
  unfold f_X10_requireSome at h
  refine X.aload_n (x := a0) (pc' := 1) dX10_requireSome_0 rfl rfl rfl ?_
  obtain ⟨v1, e2, h⟩ := bindE h
  refine X.getf (pc' := 4) dX10_requireSome_1 rfl fq_X10_142 (gI_spec e2) ?_
  refine X.if_ne (tgt := 18) (pc' := 7) dX10_requireSome_4 (by decide) rfl (fun hc => ?_) (fun hc => ?_)
  · rw [if_neg hc] at h
    cases h
    exact X.vret dX10_requireSome_18 rfl (Nat.le_of_ble_eq_true rfl) (Nat.le_of_ble_eq_true rfl) rfl
  · rw [if_pos hc] at h
    cases h
    exact X.thrN (tx := "there is no route") dX10_requireSome_7 dX10_requireSome_10 dX10_requireSome_11 dX10_requireSome_14 dX10_requireSome_17 rfl th_X10_280_284 (by decide +kernel) (Nat.le_of_ble_eq_true rfl) (Nat.le_of_ble_eq_true rfl) (Nat.le_of_ble_eq_true rfl) (Nat.le_of_ble_eq_true rfl) rfl
def f_X10_robust (fu : Nat) (a0 : Nat) (a1 : Int32) (M : List Ob) : Option ((Except String Int32) × List Ob) :=
  bdX (f_X10_requireRouteNumber fu a1 M) fun _ M2 =>
  (gP M2 a0 10 6).bind fun r6 =>
  (hasO M2 r6 6).bind fun _ =>
  bd2 (f_X6_robustRoute fu r6 M2) fun r8 M9 =>
  bdX (f_X10_requireSome fu r8 M9) fun _ M13 =>
  (hasO M13 a0 10).bind fun _ =>
  bd2 (f_X10_numberOf fu a0 r8 a1 M13) fun v17 M18 =>
  some (.ok v17, M18)
set_option maxHeartbeats 4000000 in
theorem ok_X10_robust {G : GT} (hz : gZ G = false) {fu : Nat} {a0 : Nat} {a1 : Int32} {M : List Ob} {out : (Except String Int32) × List Ob} (h : f_X10_robust fu a0 a1 M = some out) : Sq G t_X10_robust [.ref a0, .int a1] M (xI out) := by
  refine Sq.of rfl (by decide +kernel) (cat_all rfl) (Nat.le_of_ble_eq_true rfl) ?_
  show X G t_X10_robust [] 0 [some (.ref a0), some (.int a1), none] [] M 0 0 (xI out)
  unfold f_X10_robust at h
  refine X.iload_n (x := a1) (pc' := 1) dX10_robust_0 rfl rfl rfl ?_
  rcases bdXE h with ⟨r1, M2, e3, h⟩ | ⟨E5, M2, e3, h⟩
  rotate_left
  · subst h
    exact X.callSx (As := [.int a1]) (st := []) (M' := M2) dX10_robust_1 cl_X10_301 ms_X10_requireRouteNumber ⟨⟨Nat.le_of_ble_eq_true rfl, Nat.le_of_ble_eq_true rfl⟩, Nat.le_of_ble_eq_true rfl, Nat.le_of_ble_eq_true rfl⟩ rfl (Nat.le_of_ble_eq_true rfl) hz rfl (ok_X10_requireRouteNumber (G := zs G) (hz := hz) e3) rfl
  refine X.callSq (v := none) (As := [.int a1]) (st := []) (M' := M2) (pc' := 4) dX10_robust_1 rfl cl_X10_301 ms_X10_requireRouteNumber ⟨⟨Nat.le_of_ble_eq_true rfl, Nat.le_of_ble_eq_true rfl⟩, Nat.le_of_ble_eq_true rfl, Nat.le_of_ble_eq_true rfl⟩ rfl (Nat.le_of_ble_eq_true rfl) (ok_X10_requireRouteNumber (G := zs G) (hz := hz) e3) ?_
  show X G t_X10_robust [] 4 [some (.ref a0), some (.int a1), none] [] M2 1 6 _
  refine X.aload_n (x := a0) (pc' := 5) dX10_robust_4 rfl rfl rfl ?_
  obtain ⟨r6, e7, h⟩ := bindE h
  refine X.getf (pc' := 8) dX10_robust_5 rfl fq_X10_64 (gP_spec e7) ?_
  obtain ⟨⟨⟩, e11, h⟩ := bindE h
  obtain ⟨r8, M9, e10, h⟩ := bd2E h
  refine X.callV (b := r6) (v := some (.ref r8)) (As := []) (st := []) (M' := M9) (pc' := 11) dX10_robust_8 rfl cl_X10_304 mi_X6_robustRoute me_X6_robustRoute mr_X6_robustRoute e11 ⟨⟨Nat.le_of_ble_eq_true rfl, Nat.le_of_ble_eq_true rfl⟩, Nat.le_of_ble_eq_true rfl, Nat.le_of_ble_eq_true rfl⟩ rfl (Nat.le_of_ble_eq_true rfl) (ok_X6_robustRoute (G := zs G) (hz := hz) e10) ?_
  show X G t_X10_robust [] 11 [some (.ref a0), some (.int a1), none] [.ref r8] M9 1 6 _
  refine X.astore_n (L' := [some (.ref a0), some (.int a1), some (.ref r8)]) (pc' := 12) dX10_robust_11 rfl rfl (Nat.le_of_ble_eq_true rfl) rfl ?_
  refine X.aload_n (x := r8) (pc' := 13) dX10_robust_12 rfl rfl rfl ?_
  rcases bdXE h with ⟨r12, M13, e14, h⟩ | ⟨E16, M13, e14, h⟩
  rotate_left
  · subst h
    exact X.callSx (As := [.ref r8]) (st := []) (M' := M13) dX10_robust_13 cl_X10_308 ms_X10_requireSome ⟨⟨Nat.le_of_ble_eq_true rfl, Nat.le_of_ble_eq_true rfl⟩, Nat.le_of_ble_eq_true rfl, Nat.le_of_ble_eq_true rfl⟩ rfl (Nat.le_of_ble_eq_true rfl) hz rfl (ok_X10_requireSome (G := zs G) (hz := hz) e14) rfl
  refine X.callSq (v := none) (As := [.ref r8]) (st := []) (M' := M13) (pc' := 16) dX10_robust_13 rfl cl_X10_308 ms_X10_requireSome ⟨⟨Nat.le_of_ble_eq_true rfl, Nat.le_of_ble_eq_true rfl⟩, Nat.le_of_ble_eq_true rfl, Nat.le_of_ble_eq_true rfl⟩ rfl (Nat.le_of_ble_eq_true rfl) (ok_X10_requireSome (G := zs G) (hz := hz) e14) ?_
  show X G t_X10_robust [] 16 [some (.ref a0), some (.int a1), some (.ref r8)] [] M13 2 12 _
  refine X.aload_n (x := a0) (pc' := 17) dX10_robust_16 rfl rfl rfl ?_
  refine X.aload_n (x := r8) (pc' := 18) dX10_robust_17 rfl rfl rfl ?_
  refine X.iload_n (x := a1) (pc' := 19) dX10_robust_18 rfl rfl rfl ?_
  obtain ⟨⟨⟩, e20, h⟩ := bindE h
  obtain ⟨v17, M18, e19, h⟩ := bd2E h
  refine X.callV (b := a0) (v := some (.int v17)) (As := [.ref r8, .int a1]) (st := []) (M' := M18) (pc' := 22) dX10_robust_19 rfl cl_X10_274 mi_X10_numberOf me_X10_numberOf mr_X10_numberOf e20 ⟨⟨Nat.le_of_ble_eq_true rfl, Nat.le_of_ble_eq_true rfl⟩, Nat.le_of_ble_eq_true rfl, Nat.le_of_ble_eq_true rfl⟩ rfl (Nat.le_of_ble_eq_true rfl) (ok_X10_numberOf (G := zs G) e19) ?_
  show X G t_X10_robust [] 22 [some (.ref a0), some (.int a1), some (.ref r8)] [.int v17] M18 2 12 _
  cases h
  exact X.iret (ty := .int) dX10_robust_22 rfl rfl (Nat.le_of_ble_eq_true rfl) (Nat.le_of_ble_eq_true rfl) rfl
def f_X10_calm (fu : Nat) (a0 : Nat) (a1 : Int32) (M : List Ob) : Option ((Except String Int32) × List Ob) :=
  bdX (f_X10_requireRouteNumber fu a1 M) fun _ M2 =>
  (gP M2 a0 10 6).bind fun r6 =>
  (hasO M2 r6 6).bind fun _ =>
  bd2 (f_X6_calmRoute fu r6 M2) fun r8 M9 =>
  bdX (f_X10_requireSome fu r8 M9) fun _ M13 =>
  (hasO M13 a0 10).bind fun _ =>
  bd2 (f_X10_numberOf fu a0 r8 a1 M13) fun v17 M18 =>
  some (.ok v17, M18)
set_option maxHeartbeats 4000000 in
theorem ok_X10_calm {G : GT} (hz : gZ G = false) {fu : Nat} {a0 : Nat} {a1 : Int32} {M : List Ob} {out : (Except String Int32) × List Ob} (h : f_X10_calm fu a0 a1 M = some out) : Sq G t_X10_calm [.ref a0, .int a1] M (xI out) := by
  refine Sq.of rfl (by decide +kernel) (cat_all rfl) (Nat.le_of_ble_eq_true rfl) ?_
  show X G t_X10_calm [] 0 [some (.ref a0), some (.int a1), none] [] M 0 0 (xI out)
  unfold f_X10_calm at h
  refine X.iload_n (x := a1) (pc' := 1) dX10_calm_0 rfl rfl rfl ?_
  rcases bdXE h with ⟨r1, M2, e3, h⟩ | ⟨E5, M2, e3, h⟩
  rotate_left
  · subst h
    exact X.callSx (As := [.int a1]) (st := []) (M' := M2) dX10_calm_1 cl_X10_301 ms_X10_requireRouteNumber ⟨⟨Nat.le_of_ble_eq_true rfl, Nat.le_of_ble_eq_true rfl⟩, Nat.le_of_ble_eq_true rfl, Nat.le_of_ble_eq_true rfl⟩ rfl (Nat.le_of_ble_eq_true rfl) hz rfl (ok_X10_requireRouteNumber (G := zs G) (hz := hz) e3) rfl
  refine X.callSq (v := none) (As := [.int a1]) (st := []) (M' := M2) (pc' := 4) dX10_calm_1 rfl cl_X10_301 ms_X10_requireRouteNumber ⟨⟨Nat.le_of_ble_eq_true rfl, Nat.le_of_ble_eq_true rfl⟩, Nat.le_of_ble_eq_true rfl, Nat.le_of_ble_eq_true rfl⟩ rfl (Nat.le_of_ble_eq_true rfl) (ok_X10_requireRouteNumber (G := zs G) (hz := hz) e3) ?_
  show X G t_X10_calm [] 4 [some (.ref a0), some (.int a1), none] [] M2 1 6 _
  refine X.aload_n (x := a0) (pc' := 5) dX10_calm_4 rfl rfl rfl ?_
  obtain ⟨r6, e7, h⟩ := bindE h
  refine X.getf (pc' := 8) dX10_calm_5 rfl fq_X10_64 (gP_spec e7) ?_
  obtain ⟨⟨⟩, e11, h⟩ := bindE h
  obtain ⟨r8, M9, e10, h⟩ := bd2E h
  refine X.callV (b := r6) (v := some (.ref r8)) (As := []) (st := []) (M' := M9) (pc' := 11) dX10_calm_8 rfl cl_X10_311 mi_X6_calmRoute me_X6_calmRoute mr_X6_calmRoute e11 ⟨⟨Nat.le_of_ble_eq_true rfl, Nat.le_of_ble_eq_true rfl⟩, Nat.le_of_ble_eq_true rfl, Nat.le_of_ble_eq_true rfl⟩ rfl (Nat.le_of_ble_eq_true rfl) (ok_X6_calmRoute (G := zs G) (hz := hz) e10) ?_
  show X G t_X10_calm [] 11 [some (.ref a0), some (.int a1), none] [.ref r8] M9 1 6 _
  refine X.astore_n (L' := [some (.ref a0), some (.int a1), some (.ref r8)]) (pc' := 12) dX10_calm_11 rfl rfl (Nat.le_of_ble_eq_true rfl) rfl ?_
  refine X.aload_n (x := r8) (pc' := 13) dX10_calm_12 rfl rfl rfl ?_
  rcases bdXE h with ⟨r12, M13, e14, h⟩ | ⟨E16, M13, e14, h⟩
  rotate_left
  · subst h
    exact X.callSx (As := [.ref r8]) (st := []) (M' := M13) dX10_calm_13 cl_X10_308 ms_X10_requireSome ⟨⟨Nat.le_of_ble_eq_true rfl, Nat.le_of_ble_eq_true rfl⟩, Nat.le_of_ble_eq_true rfl, Nat.le_of_ble_eq_true rfl⟩ rfl (Nat.le_of_ble_eq_true rfl) hz rfl (ok_X10_requireSome (G := zs G) (hz := hz) e14) rfl
  refine X.callSq (v := none) (As := [.ref r8]) (st := []) (M' := M13) (pc' := 16) dX10_calm_13 rfl cl_X10_308 ms_X10_requireSome ⟨⟨Nat.le_of_ble_eq_true rfl, Nat.le_of_ble_eq_true rfl⟩, Nat.le_of_ble_eq_true rfl, Nat.le_of_ble_eq_true rfl⟩ rfl (Nat.le_of_ble_eq_true rfl) (ok_X10_requireSome (G := zs G) (hz := hz) e14) ?_
  show X G t_X10_calm [] 16 [some (.ref a0), some (.int a1), some (.ref r8)] [] M13 2 12 _
  refine X.aload_n (x := a0) (pc' := 17) dX10_calm_16 rfl rfl rfl ?_
  refine X.aload_n (x := r8) (pc' := 18) dX10_calm_17 rfl rfl rfl ?_
  refine X.iload_n (x := a1) (pc' := 19) dX10_calm_18 rfl rfl rfl ?_
  obtain ⟨⟨⟩, e20, h⟩ := bindE h
  obtain ⟨v17, M18, e19, h⟩ := bd2E h
  refine X.callV (b := a0) (v := some (.int v17)) (As := [.ref r8, .int a1]) (st := []) (M' := M18) (pc' := 22) dX10_calm_19 rfl cl_X10_274 mi_X10_numberOf me_X10_numberOf mr_X10_numberOf e20 ⟨⟨Nat.le_of_ble_eq_true rfl, Nat.le_of_ble_eq_true rfl⟩, Nat.le_of_ble_eq_true rfl, Nat.le_of_ble_eq_true rfl⟩ rfl (Nat.le_of_ble_eq_true rfl) (ok_X10_numberOf (G := zs G) e19) ?_
  show X G t_X10_calm [] 22 [some (.ref a0), some (.int a1), some (.ref r8)] [.int v17] M18 2 12 _
  cases h
  exact X.iret (ty := .int) dX10_calm_22 rfl rfl (Nat.le_of_ble_eq_true rfl) (Nat.le_of_ble_eq_true rfl) rfl
def f_X10_bestArc_21 (fu : Nat) (a2 : Int32) (b0 : Nat) (M : List Ob) : Option ((Except String Int32) × List Ob) :=
  bdX (f_X10_arcAt fu b0 a2 M) fun v1 M2 =>
  some (.ok v1, M2)
set_option maxHeartbeats 4000000 in
theorem ok_X10_bestArc_21 {G : GT} {fu : Nat} {out : (Except String Int32) × List Ob} (hz : gZ G = false) {a2 : Int32} {b0 : Nat} {M : List Ob} (h : f_X10_bestArc_21 fu a2 b0 M = some out) : X G t_X10_bestArc [] 21 [none, none, some (.int a2)] [.ref b0] M 0 0 (xI out) := by
  unfold f_X10_bestArc_21 at h
  refine X.iload_n (x := a2) (pc' := 22) dX10_bestArc_21 rfl rfl rfl ?_
  rcases bdXE h with ⟨v1, M2, e3, h⟩ | ⟨E5, M2, e3, h⟩
  rotate_left
  · subst h
    exact X.callSx (As := [.ref b0, .int a2]) (st := []) (M' := M2) dX10_bestArc_22 cl_X10_262 ms_X10_arcAt ⟨⟨Nat.le_of_ble_eq_true rfl, Nat.le_of_ble_eq_true rfl⟩, Nat.le_of_ble_eq_true rfl, Nat.le_of_ble_eq_true rfl⟩ rfl (Nat.le_of_ble_eq_true rfl) hz rfl (ok_X10_arcAt (G := zs G) (hz := hz) e3) rfl
  refine X.callSq (v := some (.int v1)) (As := [.ref b0, .int a2]) (st := []) (M' := M2) (pc' := 25) dX10_bestArc_22 rfl cl_X10_262 ms_X10_arcAt ⟨⟨Nat.le_of_ble_eq_true rfl, Nat.le_of_ble_eq_true rfl⟩, Nat.le_of_ble_eq_true rfl, Nat.le_of_ble_eq_true rfl⟩ rfl (Nat.le_of_ble_eq_true rfl) (ok_X10_arcAt (G := zs G) (hz := hz) e3) ?_
  show X G t_X10_bestArc [] 25 [none, none, some (.int a2)] [.int v1] M2 1 6 _
  cases h
  exact X.iret (ty := .int) dX10_bestArc_25 rfl rfl (Nat.le_of_ble_eq_true rfl) (Nat.le_of_ble_eq_true rfl) rfl
def f_X10_bestArc (fu : Nat) (a0 : Nat) (a1 : Int32) (a2 : Int32) (M : List Ob) : Option ((Except String Int32) × List Ob) :=
  if a1 = 0 then ((gP M a0 10 6).bind fun r1 =>
  (hasO M r1 6).bind fun _ =>
  bd2 (f_X6_robustRoute fu r1 M) fun r3 M4 =>
  f_X10_bestArc_21 fu a2 r3 M4)
  else ((gP M a0 10 6).bind fun r7 =>
  (hasO M r7 6).bind fun _ =>
  bd2 (f_X6_calmRoute fu r7 M) fun r9 M10 =>
  f_X10_bestArc_21 fu a2 r9 M10)
set_option maxHeartbeats 4000000 in
theorem ok_X10_bestArc {G : GT} (hz : gZ G = false) {fu : Nat} {a0 : Nat} {a1 : Int32} {a2 : Int32} {M : List Ob} {out : (Except String Int32) × List Ob} (h : f_X10_bestArc fu a0 a1 a2 M = some out) : Sq G t_X10_bestArc [.ref a0, .int a1, .int a2] M (xI out) := by
  refine Sq.of rfl (by decide +kernel) (cat_all rfl) (Nat.le_of_ble_eq_true rfl) ?_
  show X G t_X10_bestArc [] 0 [some (.ref a0), some (.int a1), some (.int a2)] [] M 0 0 (xI out)
  unfold f_X10_bestArc at h
  refine X.iload_n (x := a1) (pc' := 1) dX10_bestArc_0 rfl rfl rfl ?_
  refine X.if_eq (tgt := 14) (pc' := 4) dX10_bestArc_1 (by decide) rfl (fun hc => ?_) (fun hc => ?_)
  · rw [if_pos hc] at h
    refine X.aload_n (x := a0) (pc' := 15) dX10_bestArc_14 rfl rfl rfl ?_
    obtain ⟨r1, e2, h⟩ := bindE h
    refine X.getf (pc' := 18) dX10_bestArc_15 rfl fq_X10_64 (gP_spec e2) ?_
    obtain ⟨⟨⟩, e6, h⟩ := bindE h
    obtain ⟨r3, M4, e5, h⟩ := bd2E h
    refine X.callV (b := r1) (v := some (.ref r3)) (As := []) (st := []) (M' := M4) (pc' := 21) dX10_bestArc_18 rfl cl_X10_304 mi_X6_robustRoute me_X6_robustRoute mr_X6_robustRoute e6 ⟨⟨Nat.le_of_ble_eq_true rfl, Nat.le_of_ble_eq_true rfl⟩, Nat.le_of_ble_eq_true rfl, Nat.le_of_ble_eq_true rfl⟩ rfl (Nat.le_of_ble_eq_true rfl) (ok_X6_robustRoute (G := zs G) (hz := hz) e5) ?_
    show X G t_X10_bestArc [] 21 [some (.ref a0), some (.int a1), some (.int a2)] [.ref r3] M4 0 0 _
    refine X.sub (L := [none, none, some (.int a2)]) ?_ (⟨rfl, trivial⟩)
    exact ok_X10_bestArc_21 hz h
  · rw [if_neg hc] at h
    refine X.aload_n (x := a0) (pc' := 5) dX10_bestArc_4 rfl rfl rfl ?_
    obtain ⟨r7, e8, h⟩ := bindE h
    refine X.getf (pc' := 8) dX10_bestArc_5 rfl fq_X10_64 (gP_spec e8) ?_
    obtain ⟨⟨⟩, e12, h⟩ := bindE h
    obtain ⟨r9, M10, e11, h⟩ := bd2E h
    refine X.callV (b := r7) (v := some (.ref r9)) (As := []) (st := []) (M' := M10) (pc' := 11) dX10_bestArc_8 rfl cl_X10_311 mi_X6_calmRoute me_X6_calmRoute mr_X6_calmRoute e12 ⟨⟨Nat.le_of_ble_eq_true rfl, Nat.le_of_ble_eq_true rfl⟩, Nat.le_of_ble_eq_true rfl, Nat.le_of_ble_eq_true rfl⟩ rfl (Nat.le_of_ble_eq_true rfl) (ok_X6_calmRoute (G := zs G) (hz := hz) e11) ?_
    show X G t_X10_bestArc [] 11 [some (.ref a0), some (.int a1), some (.int a2)] [.ref r9] M10 0 0 _
    refine X.goto (pc' := 21) dX10_bestArc_11 (by decide) ?_
    refine X.sub (L := [none, none, some (.int a2)]) ?_ (⟨rfl, trivial⟩)
    exact ok_X10_bestArc_21 hz h
def f_X10_within (fu : Nat) (a0 : Nat) (a1 : Int32) (M : List Ob) : Option (Int32 × List Ob) :=
  (gP M a0 10 4).bind fun r1 =>
  (hasO M r1 7).bind fun _ =>
  bd2 (f_X7_countWithin fu r1 a1 M) fun v3 M4 =>
  some (v3, M4)
set_option maxHeartbeats 4000000 in
theorem ok_X10_within {G : GT} {fu : Nat} {a0 : Nat} {a1 : Int32} {M : List Ob} {out : Int32 × List Ob} (h : f_X10_within fu a0 a1 M = some out) : Sp G t_X10_within [.ref a0, .int a1] M (oI out) := by
  refine Sp.of rfl (by decide +kernel) (cat_all rfl) (Nat.le_of_ble_eq_true rfl) ?_
  show X G t_X10_within [] 0 [some (.ref a0), some (.int a1)] [] M 0 0 (oI out)
  unfold f_X10_within at h
  refine X.aload_n (x := a0) (pc' := 1) dX10_within_0 rfl rfl rfl ?_
  obtain ⟨r1, e2, h⟩ := bindE h
  refine X.getf (pc' := 4) dX10_within_1 rfl fq_X10_46 (gP_spec e2) ?_
  refine X.iload_n (x := a1) (pc' := 5) dX10_within_4 rfl rfl rfl ?_
  obtain ⟨⟨⟩, e6, h⟩ := bindE h
  obtain ⟨v3, M4, e5, h⟩ := bd2E h
  refine X.callV (b := r1) (v := some (.int v3)) (As := [.int a1]) (st := []) (M' := M4) (pc' := 8) dX10_within_5 rfl cl_X10_314 mi_X7_countWithin me_X7_countWithin mr_X7_countWithin e6 ⟨⟨Nat.le_of_ble_eq_true rfl, Nat.le_of_ble_eq_true rfl⟩, Nat.le_of_ble_eq_true rfl, Nat.le_of_ble_eq_true rfl⟩ rfl (Nat.le_of_ble_eq_true rfl) (ok_X7_countWithin (G := zs G) e5) ?_
  show X G t_X10_within [] 8 [some (.ref a0), some (.int a1)] [.int v3] M4 0 0 _
  cases h
  exact X.iret (ty := .int) dX10_within_8 rfl rfl (Nat.le_of_ble_eq_true rfl) (Nat.le_of_ble_eq_true rfl) rfl
def f_X10_value (fu : Nat) (a0 : Nat) (a1 : Int32) (a2 : Int32) (M : List Ob) : Option ((Except String Int32) × List Ob) :=
  (hasO M a0 10).bind fun _ =>
  bdX (f_X10_requireNode fu a0 a1 M) fun _ M2 =>
  bdX (f_X10_requireBudget fu a2 M2) fun _ M7 =>
  (gP M7 a0 10 7).bind fun r11 =>
  (hasO M7 r11 0).bind fun _ =>
  bd2 (f_X0_solve fu r11 M7) fun _ M14 =>
  (gP M14 a0 10 7).bind fun r17 =>
  (hasO M14 r17 0).bind fun _ =>
  bd2 (f_X0_worthOf fu r17 a1 a2 M14) fun v19 M20 =>
  some (.ok v19, M20)
set_option maxHeartbeats 4000000 in
theorem ok_X10_value {G : GT} (hz : gZ G = false) {fu : Nat} {a0 : Nat} {a1 : Int32} {a2 : Int32} {M : List Ob} {out : (Except String Int32) × List Ob} (h : f_X10_value fu a0 a1 a2 M = some out) : Sq G t_X10_value [.ref a0, .int a1, .int a2] M (xI out) := by
  refine Sq.of rfl (by decide +kernel) (cat_all rfl) (Nat.le_of_ble_eq_true rfl) ?_
  show X G t_X10_value [] 0 [some (.ref a0), some (.int a1), some (.int a2)] [] M 0 0 (xI out)
  unfold f_X10_value at h
  refine X.aload_n (x := a0) (pc' := 1) dX10_value_0 rfl rfl rfl ?_
  refine X.iload_n (x := a1) (pc' := 2) dX10_value_1 rfl rfl rfl ?_
  obtain ⟨⟨⟩, e4, h⟩ := bindE h
  rcases bdXE h with ⟨r1, M2, e3, h⟩ | ⟨E5, M2, e3, h⟩
  rotate_left
  · subst h
    exact X.callVx (b := a0) (As := [.int a1]) (st := []) (M' := M2) dX10_value_2 cl_X10_189 mi_X10_requireNode me_X10_requireNode mr_X10_requireNode e4 ⟨⟨Nat.le_of_ble_eq_true rfl, Nat.le_of_ble_eq_true rfl⟩, Nat.le_of_ble_eq_true rfl, Nat.le_of_ble_eq_true rfl⟩ rfl (Nat.le_of_ble_eq_true rfl) hz rfl (ok_X10_requireNode (G := zs G) (hz := hz) e3) rfl
  refine X.callVq (b := a0) (v := none) (As := [.int a1]) (st := []) (M' := M2) (pc' := 5) dX10_value_2 rfl cl_X10_189 mi_X10_requireNode me_X10_requireNode mr_X10_requireNode e4 ⟨⟨Nat.le_of_ble_eq_true rfl, Nat.le_of_ble_eq_true rfl⟩, Nat.le_of_ble_eq_true rfl, Nat.le_of_ble_eq_true rfl⟩ rfl (Nat.le_of_ble_eq_true rfl) (ok_X10_requireNode (G := zs G) (hz := hz) e3) ?_
  show X G t_X10_value [] 5 [some (.ref a0), some (.int a1), some (.int a2)] [] M2 1 6 _
  refine X.iload_n (x := a2) (pc' := 6) dX10_value_5 rfl rfl rfl ?_
  rcases bdXE h with ⟨r6, M7, e8, h⟩ | ⟨E10, M7, e8, h⟩
  rotate_left
  · subst h
    exact X.callSx (As := [.int a2]) (st := []) (M' := M7) dX10_value_6 cl_X10_215 ms_X10_requireBudget ⟨⟨Nat.le_of_ble_eq_true rfl, Nat.le_of_ble_eq_true rfl⟩, Nat.le_of_ble_eq_true rfl, Nat.le_of_ble_eq_true rfl⟩ rfl (Nat.le_of_ble_eq_true rfl) hz rfl (ok_X10_requireBudget (G := zs G) (hz := hz) e8) rfl
  refine X.callSq (v := none) (As := [.int a2]) (st := []) (M' := M7) (pc' := 9) dX10_value_6 rfl cl_X10_215 ms_X10_requireBudget ⟨⟨Nat.le_of_ble_eq_true rfl, Nat.le_of_ble_eq_true rfl⟩, Nat.le_of_ble_eq_true rfl, Nat.le_of_ble_eq_true rfl⟩ rfl (Nat.le_of_ble_eq_true rfl) (ok_X10_requireBudget (G := zs G) (hz := hz) e8) ?_
  show X G t_X10_value [] 9 [some (.ref a0), some (.int a1), some (.int a2)] [] M7 2 12 _
  refine X.aload_n (x := a0) (pc' := 10) dX10_value_9 rfl rfl rfl ?_
  obtain ⟨r11, e12, h⟩ := bindE h
  refine X.getf (pc' := 13) dX10_value_10 rfl fq_X10_71 (gP_spec e12) ?_
  obtain ⟨⟨⟩, e16, h⟩ := bindE h
  obtain ⟨r13, M14, e15, h⟩ := bd2E h
  refine X.callV (b := r11) (v := none) (As := []) (st := []) (M' := M14) (pc' := 16) dX10_value_13 rfl cl_X10_317 mi_X0_solve me_X0_solve mr_X0_solve e16 ⟨⟨Nat.le_of_ble_eq_true rfl, Nat.le_of_ble_eq_true rfl⟩, Nat.le_of_ble_eq_true rfl, Nat.le_of_ble_eq_true rfl⟩ rfl (Nat.le_of_ble_eq_true rfl) (ok_X0_solve (G := zs G) e15) ?_
  show X G t_X10_value [] 16 [some (.ref a0), some (.int a1), some (.int a2)] [] M14 2 12 _
  refine X.aload_n (x := a0) (pc' := 17) dX10_value_16 rfl rfl rfl ?_
  obtain ⟨r17, e18, h⟩ := bindE h
  refine X.getf (pc' := 20) dX10_value_17 rfl fq_X10_71 (gP_spec e18) ?_
  refine X.iload_n (x := a1) (pc' := 21) dX10_value_20 rfl rfl rfl ?_
  refine X.iload_n (x := a2) (pc' := 22) dX10_value_21 rfl rfl rfl ?_
  obtain ⟨⟨⟩, e22, h⟩ := bindE h
  obtain ⟨v19, M20, e21, h⟩ := bd2E h
  refine X.callV (b := r17) (v := some (.int v19)) (As := [.int a1, .int a2]) (st := []) (M' := M20) (pc' := 25) dX10_value_22 rfl cl_X10_320 mi_X0_worthOf me_X0_worthOf mr_X0_worthOf e22 ⟨⟨Nat.le_of_ble_eq_true rfl, Nat.le_of_ble_eq_true rfl⟩, Nat.le_of_ble_eq_true rfl, Nat.le_of_ble_eq_true rfl⟩ rfl (Nat.le_of_ble_eq_true rfl) (ok_X0_worthOf (G := zs G) e21) ?_
  show X G t_X10_value [] 25 [some (.ref a0), some (.int a1), some (.int a2)] [.int v19] M20 2 12 _
  cases h
  exact X.iret (ty := .int) dX10_value_25 rfl rfl (Nat.le_of_ble_eq_true rfl) (Nat.le_of_ble_eq_true rfl) rfl
def f_X10_bestNext (fu : Nat) (a0 : Nat) (a1 : Int32) (a2 : Int32) (M : List Ob) : Option ((Except String Int32) × List Ob) :=
  (hasO M a0 10).bind fun _ =>
  bdX (f_X10_requireNode fu a0 a1 M) fun _ M2 =>
  bdX (f_X10_requireBudget fu a2 M2) fun _ M7 =>
  (gP M7 a0 10 7).bind fun r11 =>
  (hasO M7 r11 0).bind fun _ =>
  bd2 (f_X0_solve fu r11 M7) fun _ M14 =>
  (gP M14 a0 10 7).bind fun r17 =>
  (hasO M14 r17 0).bind fun _ =>
  bd2 (f_X0_bestArcOf fu r17 a1 a2 M14) fun v19 M20 =>
  some (.ok v19, M20)
set_option maxHeartbeats 4000000 in
theorem ok_X10_bestNext {G : GT} (hz : gZ G = false) {fu : Nat} {a0 : Nat} {a1 : Int32} {a2 : Int32} {M : List Ob} {out : (Except String Int32) × List Ob} (h : f_X10_bestNext fu a0 a1 a2 M = some out) : Sq G t_X10_bestNext [.ref a0, .int a1, .int a2] M (xI out) := by
  refine Sq.of rfl (by decide +kernel) (cat_all rfl) (Nat.le_of_ble_eq_true rfl) ?_
  show X G t_X10_bestNext [] 0 [some (.ref a0), some (.int a1), some (.int a2)] [] M 0 0 (xI out)
  unfold f_X10_bestNext at h
  refine X.aload_n (x := a0) (pc' := 1) dX10_bestNext_0 rfl rfl rfl ?_
  refine X.iload_n (x := a1) (pc' := 2) dX10_bestNext_1 rfl rfl rfl ?_
  obtain ⟨⟨⟩, e4, h⟩ := bindE h
  rcases bdXE h with ⟨r1, M2, e3, h⟩ | ⟨E5, M2, e3, h⟩
  rotate_left
  · subst h
    exact X.callVx (b := a0) (As := [.int a1]) (st := []) (M' := M2) dX10_bestNext_2 cl_X10_189 mi_X10_requireNode me_X10_requireNode mr_X10_requireNode e4 ⟨⟨Nat.le_of_ble_eq_true rfl, Nat.le_of_ble_eq_true rfl⟩, Nat.le_of_ble_eq_true rfl, Nat.le_of_ble_eq_true rfl⟩ rfl (Nat.le_of_ble_eq_true rfl) hz rfl (ok_X10_requireNode (G := zs G) (hz := hz) e3) rfl
  refine X.callVq (b := a0) (v := none) (As := [.int a1]) (st := []) (M' := M2) (pc' := 5) dX10_bestNext_2 rfl cl_X10_189 mi_X10_requireNode me_X10_requireNode mr_X10_requireNode e4 ⟨⟨Nat.le_of_ble_eq_true rfl, Nat.le_of_ble_eq_true rfl⟩, Nat.le_of_ble_eq_true rfl, Nat.le_of_ble_eq_true rfl⟩ rfl (Nat.le_of_ble_eq_true rfl) (ok_X10_requireNode (G := zs G) (hz := hz) e3) ?_
  show X G t_X10_bestNext [] 5 [some (.ref a0), some (.int a1), some (.int a2)] [] M2 1 6 _
  refine X.iload_n (x := a2) (pc' := 6) dX10_bestNext_5 rfl rfl rfl ?_
  rcases bdXE h with ⟨r6, M7, e8, h⟩ | ⟨E10, M7, e8, h⟩
  rotate_left
  · subst h
    exact X.callSx (As := [.int a2]) (st := []) (M' := M7) dX10_bestNext_6 cl_X10_215 ms_X10_requireBudget ⟨⟨Nat.le_of_ble_eq_true rfl, Nat.le_of_ble_eq_true rfl⟩, Nat.le_of_ble_eq_true rfl, Nat.le_of_ble_eq_true rfl⟩ rfl (Nat.le_of_ble_eq_true rfl) hz rfl (ok_X10_requireBudget (G := zs G) (hz := hz) e8) rfl
  refine X.callSq (v := none) (As := [.int a2]) (st := []) (M' := M7) (pc' := 9) dX10_bestNext_6 rfl cl_X10_215 ms_X10_requireBudget ⟨⟨Nat.le_of_ble_eq_true rfl, Nat.le_of_ble_eq_true rfl⟩, Nat.le_of_ble_eq_true rfl, Nat.le_of_ble_eq_true rfl⟩ rfl (Nat.le_of_ble_eq_true rfl) (ok_X10_requireBudget (G := zs G) (hz := hz) e8) ?_
  show X G t_X10_bestNext [] 9 [some (.ref a0), some (.int a1), some (.int a2)] [] M7 2 12 _
  refine X.aload_n (x := a0) (pc' := 10) dX10_bestNext_9 rfl rfl rfl ?_
  obtain ⟨r11, e12, h⟩ := bindE h
  refine X.getf (pc' := 13) dX10_bestNext_10 rfl fq_X10_71 (gP_spec e12) ?_
  obtain ⟨⟨⟩, e16, h⟩ := bindE h
  obtain ⟨r13, M14, e15, h⟩ := bd2E h
  refine X.callV (b := r11) (v := none) (As := []) (st := []) (M' := M14) (pc' := 16) dX10_bestNext_13 rfl cl_X10_317 mi_X0_solve me_X0_solve mr_X0_solve e16 ⟨⟨Nat.le_of_ble_eq_true rfl, Nat.le_of_ble_eq_true rfl⟩, Nat.le_of_ble_eq_true rfl, Nat.le_of_ble_eq_true rfl⟩ rfl (Nat.le_of_ble_eq_true rfl) (ok_X0_solve (G := zs G) e15) ?_
  show X G t_X10_bestNext [] 16 [some (.ref a0), some (.int a1), some (.int a2)] [] M14 2 12 _
  refine X.aload_n (x := a0) (pc' := 17) dX10_bestNext_16 rfl rfl rfl ?_
  obtain ⟨r17, e18, h⟩ := bindE h
  refine X.getf (pc' := 20) dX10_bestNext_17 rfl fq_X10_71 (gP_spec e18) ?_
  refine X.iload_n (x := a1) (pc' := 21) dX10_bestNext_20 rfl rfl rfl ?_
  refine X.iload_n (x := a2) (pc' := 22) dX10_bestNext_21 rfl rfl rfl ?_
  obtain ⟨⟨⟩, e22, h⟩ := bindE h
  obtain ⟨v19, M20, e21, h⟩ := bd2E h
  refine X.callV (b := r17) (v := some (.int v19)) (As := [.int a1, .int a2]) (st := []) (M' := M20) (pc' := 25) dX10_bestNext_22 rfl cl_X10_324 mi_X0_bestArcOf me_X0_bestArcOf mr_X0_bestArcOf e22 ⟨⟨Nat.le_of_ble_eq_true rfl, Nat.le_of_ble_eq_true rfl⟩, Nat.le_of_ble_eq_true rfl, Nat.le_of_ble_eq_true rfl⟩ rfl (Nat.le_of_ble_eq_true rfl) (ok_X0_bestArcOf (G := zs G) e21) ?_
  show X G t_X10_bestNext [] 25 [some (.ref a0), some (.int a1), some (.int a2)] [.int v19] M20 2 12 _
  cases h
  exact X.iret (ty := .int) dX10_bestNext_25 rfl rfl (Nat.le_of_ble_eq_true rfl) (Nat.le_of_ble_eq_true rfl) rfl
def f_X10_step (fu : Nat) (a0 : Nat) (a1 : Int32) (a2 : Int32) (M : List Ob) : Option ((Except String Int32) × List Ob) :=
  (hasO M a0 10).bind fun _ =>
  bdX (f_X10_requireArc fu a0 a1 M) fun _ M2 =>
  (gP M2 a0 10 0).bind fun r6 =>
  (gP M2 r6 8 4).bind fun r8 =>
  (gP M2 a0 10 0).bind fun r10 =>
  (gP M2 r10 8 0).bind fun r12 =>
  (hasO M2 r8 2).bind fun _ =>
  bd2 (f_X2_canGo fu r8 r12 a1 a2 M2) fun v14 M15 =>
  if v14 = 0 then (some (.error "java/lang/IllegalStateException", M15))
  else ((hasO M15 a0 10).bind fun _ =>
  bd2 (f_X10_beginChange fu a0 M15) fun _ M19 =>
  (gP M19 a0 10 0).bind fun r22 =>
  (gP M19 r22 8 4).bind fun r24 =>
  (gP M19 a0 10 0).bind fun r26 =>
  (gP M19 r26 8 0).bind fun r28 =>
  (hasO M19 r24 2).bind fun _ =>
  bd2 (f_X2_go fu r24 r28 a1 a2 M19) fun _ M31 =>
  (gP M31 a0 10 0).bind fun r34 =>
  (gP M31 r34 8 4).bind fun r36 =>
  (hasO M31 r36 2).bind fun _ =>
  bd2 (f_X2_timeNow fu r36 M31) fun v38 M39 =>
  some (.ok v38, M39))
set_option maxHeartbeats 4000000 in
theorem ok_X10_step {G : GT} (hz : gZ G = false) {fu : Nat} {a0 : Nat} {a1 : Int32} {a2 : Int32} {M : List Ob} {out : (Except String Int32) × List Ob} (h : f_X10_step fu a0 a1 a2 M = some out) : Sq G t_X10_step [.ref a0, .int a1, .int a2] M (xI out) := by
  refine Sq.of rfl (by decide +kernel) (cat_all rfl) (Nat.le_of_ble_eq_true rfl) ?_
  show X G t_X10_step [] 0 [some (.ref a0), some (.int a1), some (.int a2)] [] M 0 0 (xI out)
  unfold f_X10_step at h
  refine X.aload_n (x := a0) (pc' := 1) dX10_step_0 rfl rfl rfl ?_
  refine X.iload_n (x := a1) (pc' := 2) dX10_step_1 rfl rfl rfl ?_
  obtain ⟨⟨⟩, e4, h⟩ := bindE h
  rcases bdXE h with ⟨r1, M2, e3, h⟩ | ⟨E5, M2, e3, h⟩
  rotate_left
  · subst h
    exact X.callVx (b := a0) (As := [.int a1]) (st := []) (M' := M2) dX10_step_2 cl_X10_171 mi_X10_requireArc me_X10_requireArc mr_X10_requireArc e4 ⟨⟨Nat.le_of_ble_eq_true rfl, Nat.le_of_ble_eq_true rfl⟩, Nat.le_of_ble_eq_true rfl, Nat.le_of_ble_eq_true rfl⟩ rfl (Nat.le_of_ble_eq_true rfl) hz rfl (ok_X10_requireArc (G := zs G) (hz := hz) e3) rfl
  refine X.callVq (b := a0) (v := none) (As := [.int a1]) (st := []) (M' := M2) (pc' := 5) dX10_step_2 rfl cl_X10_171 mi_X10_requireArc me_X10_requireArc mr_X10_requireArc e4 ⟨⟨Nat.le_of_ble_eq_true rfl, Nat.le_of_ble_eq_true rfl⟩, Nat.le_of_ble_eq_true rfl, Nat.le_of_ble_eq_true rfl⟩ rfl (Nat.le_of_ble_eq_true rfl) (ok_X10_requireArc (G := zs G) (hz := hz) e3) ?_
  show X G t_X10_step [] 5 [some (.ref a0), some (.int a1), some (.int a2)] [] M2 1 6 _
  refine X.aload_n (x := a0) (pc' := 6) dX10_step_5 rfl rfl rfl ?_
  obtain ⟨r6, e7, h⟩ := bindE h
  refine X.getf (pc' := 9) dX10_step_6 rfl fq_X10_10 (gP_spec e7) ?_
  obtain ⟨r8, e9, h⟩ := bindE h
  refine X.getf (pc' := 12) dX10_step_9 rfl fq_X10_151 (gP_spec e9) ?_
  refine X.aload_n (x := a0) (pc' := 13) dX10_step_12 rfl rfl rfl ?_
  obtain ⟨r10, e11, h⟩ := bindE h
  refine X.getf (pc' := 16) dX10_step_13 rfl fq_X10_10 (gP_spec e11) ?_
  obtain ⟨r12, e13, h⟩ := bindE h
  refine X.getf (pc' := 19) dX10_step_16 rfl fq_X10_39 (gP_spec e13) ?_
  refine X.iload_n (x := a1) (pc' := 20) dX10_step_19 rfl rfl rfl ?_
  refine X.iload_n (x := a2) (pc' := 21) dX10_step_20 rfl rfl rfl ?_
  obtain ⟨⟨⟩, e17, h⟩ := bindE h
  obtain ⟨v14, M15, e16, h⟩ := bd2E h
  refine X.callV (b := r8) (v := some (.int v14)) (As := [.ref r12, .int a1, .int a2]) (st := []) (M' := M15) (pc' := 24) dX10_step_21 rfl cl_X10_327 mi_X2_canGo me_X2_canGo mr_X2_canGo e17 ⟨⟨Nat.le_of_ble_eq_true rfl, Nat.le_of_ble_eq_true rfl⟩, Nat.le_of_ble_eq_true rfl, Nat.le_of_ble_eq_true rfl⟩ rfl (Nat.le_of_ble_eq_true rfl) (ok_X2_canGo (G := zs G) e16) ?_
  show X G t_X10_step [] 24 [some (.ref a0), some (.int a1), some (.int a2)] [.int v14] M15 1 6 _
  refine X.if_ne (tgt := 38) (pc' := 27) dX10_step_24 (by decide) rfl (fun hc => ?_) (fun hc => ?_)
  · rw [if_neg hc] at h
    refine X.aload_n (x := a0) (pc' := 39) dX10_step_38 rfl rfl rfl ?_
    obtain ⟨⟨⟩, e21, h⟩ := bindE h
    obtain ⟨r18, M19, e20, h⟩ := bd2E h
    refine X.callV (b := a0) (v := none) (As := []) (st := []) (M' := M19) (pc' := 42) dX10_step_39 rfl cl_X10_109 mi_X10_beginChange me_X10_beginChange mr_X10_beginChange e21 ⟨⟨Nat.le_of_ble_eq_true rfl, Nat.le_of_ble_eq_true rfl⟩, Nat.le_of_ble_eq_true rfl, Nat.le_of_ble_eq_true rfl⟩ rfl (Nat.le_of_ble_eq_true rfl) (ok_X10_beginChange (G := zs G) (hz := hz) e20) ?_
    show X G t_X10_step [] 42 [some (.ref a0), some (.int a1), some (.int a2)] [] M19 1 6 _
    refine X.aload_n (x := a0) (pc' := 43) dX10_step_42 rfl rfl rfl ?_
    obtain ⟨r22, e23, h⟩ := bindE h
    refine X.getf (pc' := 46) dX10_step_43 rfl fq_X10_10 (gP_spec e23) ?_
    obtain ⟨r24, e25, h⟩ := bindE h
    refine X.getf (pc' := 49) dX10_step_46 rfl fq_X10_151 (gP_spec e25) ?_
    refine X.aload_n (x := a0) (pc' := 50) dX10_step_49 rfl rfl rfl ?_
    obtain ⟨r26, e27, h⟩ := bindE h
    refine X.getf (pc' := 53) dX10_step_50 rfl fq_X10_10 (gP_spec e27) ?_
    obtain ⟨r28, e29, h⟩ := bindE h
    refine X.getf (pc' := 56) dX10_step_53 rfl fq_X10_39 (gP_spec e29) ?_
    refine X.iload_n (x := a1) (pc' := 57) dX10_step_56 rfl rfl rfl ?_
    refine X.iload_n (x := a2) (pc' := 58) dX10_step_57 rfl rfl rfl ?_
    obtain ⟨⟨⟩, e33, h⟩ := bindE h
    obtain ⟨r30, M31, e32, h⟩ := bd2E h
    refine X.callV (b := r24) (v := none) (As := [.ref r28, .int a1, .int a2]) (st := []) (M' := M31) (pc' := 61) dX10_step_58 rfl cl_X10_333 mi_X2_go me_X2_go mr_X2_go e33 ⟨⟨Nat.le_of_ble_eq_true rfl, Nat.le_of_ble_eq_true rfl⟩, Nat.le_of_ble_eq_true rfl, Nat.le_of_ble_eq_true rfl⟩ rfl (Nat.le_of_ble_eq_true rfl) (ok_X2_go (G := zs G) e32) ?_
    show X G t_X10_step [] 61 [some (.ref a0), some (.int a1), some (.int a2)] [] M31 1 6 _
    refine X.aload_n (x := a0) (pc' := 62) dX10_step_61 rfl rfl rfl ?_
    obtain ⟨r34, e35, h⟩ := bindE h
    refine X.getf (pc' := 65) dX10_step_62 rfl fq_X10_10 (gP_spec e35) ?_
    obtain ⟨r36, e37, h⟩ := bindE h
    refine X.getf (pc' := 68) dX10_step_65 rfl fq_X10_151 (gP_spec e37) ?_
    obtain ⟨⟨⟩, e41, h⟩ := bindE h
    obtain ⟨v38, M39, e40, h⟩ := bd2E h
    refine X.callV (b := r36) (v := some (.int v38)) (As := []) (st := []) (M' := M39) (pc' := 71) dX10_step_68 rfl cl_X10_160 mi_X2_timeNow me_X2_timeNow mr_X2_timeNow e41 ⟨⟨Nat.le_of_ble_eq_true rfl, Nat.le_of_ble_eq_true rfl⟩, Nat.le_of_ble_eq_true rfl, Nat.le_of_ble_eq_true rfl⟩ rfl (Nat.le_of_ble_eq_true rfl) (ok_X2_timeNow (G := zs G) e40) ?_
    show X G t_X10_step [] 71 [some (.ref a0), some (.int a1), some (.int a2)] [.int v38] M39 1 6 _
    cases h
    exact X.iret (ty := .int) dX10_step_71 rfl rfl (Nat.le_of_ble_eq_true rfl) (Nat.le_of_ble_eq_true rfl) rfl
  · rw [if_pos hc] at h
    cases h
    exact X.thrW (tx := "the journey cannot make this step") dX10_step_27 dX10_step_30 dX10_step_31 dX10_step_34 dX10_step_37 rfl th_X10_86_90 (by decide +kernel) (Nat.le_of_ble_eq_true rfl) (Nat.le_of_ble_eq_true rfl) (Nat.le_of_ble_eq_true rfl) (Nat.le_of_ble_eq_true rfl) rfl
def f_X10_restart (fu : Nat) (a0 : Nat) (M : List Ob) : Option (Int32 × List Ob) :=
  (gP M a0 10 0).bind fun r1 =>
  (gP M r1 8 4).bind fun r3 =>
  (gI M r3 2 0).bind fun v5 =>
  (hasO M a0 10).bind fun _ =>
  bd2 (f_X10_beginChange fu a0 M) fun _ M8 =>
  (gP M8 a0 10 0).bind fun r11 =>
  (gP M8 r11 8 4).bind fun r13 =>
  (gP M8 a0 10 0).bind fun r15 =>
  (gP M8 r15 8 0).bind fun r17 =>
  (hasO M8 r13 2).bind fun _ =>
  bd2 (f_X2_begin fu r13 r17 M8) fun _ M20 =>
  some (v5, M20)
set_option maxHeartbeats 4000000 in
theorem ok_X10_restart {G : GT} (hz : gZ G = false) {fu : Nat} {a0 : Nat} {M : List Ob} {out : Int32 × List Ob} (h : f_X10_restart fu a0 M = some out) : Sp G t_X10_restart [.ref a0] M (oI out) := by
  refine Sp.of rfl (by decide +kernel) (cat_all rfl) (Nat.le_of_ble_eq_true rfl) ?_
  show X G t_X10_restart [] 0 [some (.ref a0), none] [] M 0 0 (oI out)
  unfold f_X10_restart at h
  refine X.aload_n (x := a0) (pc' := 1) dX10_restart_0 rfl rfl rfl ?_
  obtain ⟨r1, e2, h⟩ := bindE h
  refine X.getf (pc' := 4) dX10_restart_1 rfl fq_X10_10 (gP_spec e2) ?_
  obtain ⟨r3, e4, h⟩ := bindE h
  refine X.getf (pc' := 7) dX10_restart_4 rfl fq_X10_151 (gP_spec e4) ?_
  obtain ⟨v5, e6, h⟩ := bindE h
  refine X.getf (pc' := 10) dX10_restart_7 rfl fq_X10_166 (gI_spec e6) ?_
  refine X.istore_n (L' := [some (.ref a0), some (.int v5)]) (pc' := 11) dX10_restart_10 rfl rfl (Nat.le_of_ble_eq_true rfl) rfl ?_
  refine X.aload_n (x := a0) (pc' := 12) dX10_restart_11 rfl rfl rfl ?_
  obtain ⟨⟨⟩, e10, h⟩ := bindE h
  obtain ⟨r7, M8, e9, h⟩ := bd2E h
  refine X.callV (b := a0) (v := none) (As := []) (st := []) (M' := M8) (pc' := 15) dX10_restart_12 rfl cl_X10_109 mi_X10_beginChange me_X10_beginChange mr_X10_beginChange e10 ⟨⟨Nat.le_of_ble_eq_true rfl, Nat.le_of_ble_eq_true rfl⟩, Nat.le_of_ble_eq_true rfl, Nat.le_of_ble_eq_true rfl⟩ rfl (Nat.le_of_ble_eq_true rfl) (ok_X10_beginChange (G := zs G) (hz := hz) e9) ?_
  show X G t_X10_restart [] 15 [some (.ref a0), some (.int v5)] [] M8 0 0 _
  refine X.aload_n (x := a0) (pc' := 16) dX10_restart_15 rfl rfl rfl ?_
  obtain ⟨r11, e12, h⟩ := bindE h
  refine X.getf (pc' := 19) dX10_restart_16 rfl fq_X10_10 (gP_spec e12) ?_
  obtain ⟨r13, e14, h⟩ := bindE h
  refine X.getf (pc' := 22) dX10_restart_19 rfl fq_X10_151 (gP_spec e14) ?_
  refine X.aload_n (x := a0) (pc' := 23) dX10_restart_22 rfl rfl rfl ?_
  obtain ⟨r15, e16, h⟩ := bindE h
  refine X.getf (pc' := 26) dX10_restart_23 rfl fq_X10_10 (gP_spec e16) ?_
  obtain ⟨r17, e18, h⟩ := bindE h
  refine X.getf (pc' := 29) dX10_restart_26 rfl fq_X10_39 (gP_spec e18) ?_
  obtain ⟨⟨⟩, e22, h⟩ := bindE h
  obtain ⟨r19, M20, e21, h⟩ := bd2E h
  refine X.callV (b := r13) (v := none) (As := [.ref r17]) (st := []) (M' := M20) (pc' := 32) dX10_restart_29 rfl cl_X10_204 mi_X2_begin me_X2_begin mr_X2_begin e22 ⟨⟨Nat.le_of_ble_eq_true rfl, Nat.le_of_ble_eq_true rfl⟩, Nat.le_of_ble_eq_true rfl, Nat.le_of_ble_eq_true rfl⟩ rfl (Nat.le_of_ble_eq_true rfl) (ok_X2_begin (G := zs G) e21) ?_
  show X G t_X10_restart [] 32 [some (.ref a0), some (.int v5)] [] M20 0 0 _
  refine X.iload_n (x := v5) (pc' := 33) dX10_restart_32 rfl rfl rfl ?_
  cases h
  exact X.iret (ty := .int) dX10_restart_33 rfl rfl (Nat.le_of_ble_eq_true rfl) (Nat.le_of_ble_eq_true rfl) rfl
def f_X10_promiseBehind (fu : Nat) (a0 : Nat) (a1 : Int32) (M : List Ob) : Option ((Except String Int32) × List Ob) :=
  (gP M a0 10 0).bind fun r1 =>
  (gP M r1 8 4).bind fun r3 =>
  (gP M a0 10 7).bind fun r5 =>
  (hasO M r5 0).bind fun _ =>
  bd2 (f_X0_solve fu r5 M) fun _ M8 =>
  (gP M8 a0 10 7).bind fun r11 =>
  (gP M8 r3 2 1).bind fun r13 =>
  (aI M8 r13 13 a1).bind fun v16 =>
  (gP M8 r3 2 3).bind fun r17 =>
  (aI M8 r17 13 a1).bind fun v20 =>
  (hasO M8 r11 0).bind fun _ =>
  bd2 (f_X0_worthOf fu r11 v16 v20 M8) fun v21 M22 =>
  if v21 = (-1) then (some (.error "java/util/NoSuchElementException", M22))
  else ((gP M22 r3 2 2).bind fun r25 =>
  (aI M22 r25 13 a1).bind fun v28 =>
  some (.ok (v28 + v21), M22))
set_option maxHeartbeats 4000000 in
theorem ok_X10_promiseBehind {G : GT} (hz : gZ G = false) {fu : Nat} {a0 : Nat} {a1 : Int32} {M : List Ob} {out : (Except String Int32) × List Ob} (h : f_X10_promiseBehind fu a0 a1 M = some out) : Sq G t_X10_promiseBehind [.ref a0, .int a1] M (xI out) := by
  refine Sq.of rfl (by decide +kernel) (cat_all rfl) (Nat.le_of_ble_eq_true rfl) ?_
  show X G t_X10_promiseBehind [] 0 [some (.ref a0), some (.int a1), none, none] [] M 0 0 (xI out)
  unfold f_X10_promiseBehind at h
  refine X.aload_n (x := a0) (pc' := 1) dX10_promiseBehind_0 rfl rfl rfl ?_
  obtain ⟨r1, e2, h⟩ := bindE h
  refine X.getf (pc' := 4) dX10_promiseBehind_1 rfl fq_X10_10 (gP_spec e2) ?_
  obtain ⟨r3, e4, h⟩ := bindE h
  refine X.getf (pc' := 7) dX10_promiseBehind_4 rfl fq_X10_151 (gP_spec e4) ?_
  refine X.astore_n (L' := [some (.ref a0), some (.int a1), some (.ref r3), none]) (pc' := 8) dX10_promiseBehind_7 rfl rfl (Nat.le_of_ble_eq_true rfl) rfl ?_
  refine X.aload_n (x := a0) (pc' := 9) dX10_promiseBehind_8 rfl rfl rfl ?_
  obtain ⟨r5, e6, h⟩ := bindE h
  refine X.getf (pc' := 12) dX10_promiseBehind_9 rfl fq_X10_71 (gP_spec e6) ?_
  obtain ⟨⟨⟩, e10, h⟩ := bindE h
  obtain ⟨r7, M8, e9, h⟩ := bd2E h
  refine X.callV (b := r5) (v := none) (As := []) (st := []) (M' := M8) (pc' := 15) dX10_promiseBehind_12 rfl cl_X10_317 mi_X0_solve me_X0_solve mr_X0_solve e10 ⟨⟨Nat.le_of_ble_eq_true rfl, Nat.le_of_ble_eq_true rfl⟩, Nat.le_of_ble_eq_true rfl, Nat.le_of_ble_eq_true rfl⟩ rfl (Nat.le_of_ble_eq_true rfl) (ok_X0_solve (G := zs G) e9) ?_
  show X G t_X10_promiseBehind [] 15 [some (.ref a0), some (.int a1), some (.ref r3), none] [] M8 0 0 _
  refine X.aload_n (x := a0) (pc' := 16) dX10_promiseBehind_15 rfl rfl rfl ?_
  obtain ⟨r11, e12, h⟩ := bindE h
  refine X.getf (pc' := 19) dX10_promiseBehind_16 rfl fq_X10_71 (gP_spec e12) ?_
  refine X.aload_n (x := r3) (pc' := 20) dX10_promiseBehind_19 rfl rfl rfl ?_
  obtain ⟨r13, e14, h⟩ := bindE h
  refine X.getf (pc' := 23) dX10_promiseBehind_20 rfl fq_X10_399 (gP_spec e14) ?_
  refine X.iload_n (x := a1) (pc' := 24) dX10_promiseBehind_23 rfl rfl rfl ?_
  obtain ⟨v16, e15, h⟩ := bindE h
  refine X.iald (pc' := 25) dX10_promiseBehind_24 rfl e15 ?_
  refine X.aload_n (x := r3) (pc' := 26) dX10_promiseBehind_25 rfl rfl rfl ?_
  obtain ⟨r17, e18, h⟩ := bindE h
  refine X.getf (pc' := 29) dX10_promiseBehind_26 rfl fq_X10_402 (gP_spec e18) ?_
  refine X.iload_n (x := a1) (pc' := 30) dX10_promiseBehind_29 rfl rfl rfl ?_
  obtain ⟨v20, e19, h⟩ := bindE h
  refine X.iald (pc' := 31) dX10_promiseBehind_30 rfl e19 ?_
  obtain ⟨⟨⟩, e24, h⟩ := bindE h
  obtain ⟨v21, M22, e23, h⟩ := bd2E h
  refine X.callV (b := r11) (v := some (.int v21)) (As := [.int v16, .int v20]) (st := []) (M' := M22) (pc' := 34) dX10_promiseBehind_31 rfl cl_X10_320 mi_X0_worthOf me_X0_worthOf mr_X0_worthOf e24 ⟨⟨Nat.le_of_ble_eq_true rfl, Nat.le_of_ble_eq_true rfl⟩, Nat.le_of_ble_eq_true rfl, Nat.le_of_ble_eq_true rfl⟩ rfl (Nat.le_of_ble_eq_true rfl) (ok_X0_worthOf (G := zs G) e23) ?_
  show X G t_X10_promiseBehind [] 34 [some (.ref a0), some (.int a1), some (.ref r3), none] [.int v21] M22 0 0 _
  refine X.istore_n (L' := [some (.ref a0), some (.int a1), some (.ref r3), some (.int v21)]) (pc' := 35) dX10_promiseBehind_34 rfl rfl (Nat.le_of_ble_eq_true rfl) rfl ?_
  refine X.iload_n (x := v21) (pc' := 36) dX10_promiseBehind_35 rfl rfl rfl ?_
  refine X.iconst (v := (-1)) (pc' := 37) dX10_promiseBehind_36 rfl (by decide) ?_
  refine X.icmp_ne (tgt := 51) (pc' := 40) dX10_promiseBehind_37 (by decide) rfl (fun hc => ?_) (fun hc => ?_)
  · rw [if_neg hc] at h
    refine X.aload_n (x := r3) (pc' := 52) dX10_promiseBehind_51 rfl rfl rfl ?_
    obtain ⟨r25, e26, h⟩ := bindE h
    refine X.getf (pc' := 55) dX10_promiseBehind_52 rfl fq_X10_407 (gP_spec e26) ?_
    refine X.iload_n (x := a1) (pc' := 56) dX10_promiseBehind_55 rfl rfl rfl ?_
    obtain ⟨v28, e27, h⟩ := bindE h
    refine X.iald (pc' := 57) dX10_promiseBehind_56 rfl e27 ?_
    refine X.iload_n (x := v21) (pc' := 58) dX10_promiseBehind_57 rfl rfl rfl ?_
    refine X.iadd (pc' := 59) dX10_promiseBehind_58 rfl ?_
    cases h
    exact X.iret (ty := .int) dX10_promiseBehind_59 rfl rfl (Nat.le_of_ble_eq_true rfl) (Nat.le_of_ble_eq_true rfl) rfl
  · rw [if_pos hc] at h
    cases h
    exact X.thrN (tx := "the node has no value") dX10_promiseBehind_40 dX10_promiseBehind_43 dX10_promiseBehind_44 dX10_promiseBehind_47 dX10_promiseBehind_50 rfl th_X10_280_284 (by decide +kernel) (Nat.le_of_ble_eq_true rfl) (Nat.le_of_ble_eq_true rfl) (Nat.le_of_ble_eq_true rfl) (Nat.le_of_ble_eq_true rfl) rfl
def f_X10_promise (fu : Nat) (a0 : Nat) (M : List Ob) : Option ((Except String Int32) × List Ob) :=
  (gP M a0 10 0).bind fun r1 =>
  (gP M r1 8 4).bind fun r3 =>
  (gI M r3 2 0).bind fun v5 =>
  (hasO M a0 10).bind fun _ =>
  bdX (f_X10_promiseBehind fu a0 v5 M) fun v7 M8 =>
  some (.ok v7, M8)
set_option maxHeartbeats 4000000 in
theorem ok_X10_promise {G : GT} (hz : gZ G = false) {fu : Nat} {a0 : Nat} {M : List Ob} {out : (Except String Int32) × List Ob} (h : f_X10_promise fu a0 M = some out) : Sq G t_X10_promise [.ref a0] M (xI out) := by
  refine Sq.of rfl (by decide +kernel) (cat_all rfl) (Nat.le_of_ble_eq_true rfl) ?_
  show X G t_X10_promise [] 0 [some (.ref a0)] [] M 0 0 (xI out)
  unfold f_X10_promise at h
  refine X.aload_n (x := a0) (pc' := 1) dX10_promise_0 rfl rfl rfl ?_
  refine X.aload_n (x := a0) (pc' := 2) dX10_promise_1 rfl rfl rfl ?_
  obtain ⟨r1, e2, h⟩ := bindE h
  refine X.getf (pc' := 5) dX10_promise_2 rfl fq_X10_10 (gP_spec e2) ?_
  obtain ⟨r3, e4, h⟩ := bindE h
  refine X.getf (pc' := 8) dX10_promise_5 rfl fq_X10_151 (gP_spec e4) ?_
  obtain ⟨v5, e6, h⟩ := bindE h
  refine X.getf (pc' := 11) dX10_promise_8 rfl fq_X10_166 (gI_spec e6) ?_
  obtain ⟨⟨⟩, e10, h⟩ := bindE h
  rcases bdXE h with ⟨v7, M8, e9, h⟩ | ⟨E11, M8, e9, h⟩
  rotate_left
  · subst h
    exact X.callVx (b := a0) (As := [.int v5]) (st := []) (M' := M8) dX10_promise_11 cl_X10_337 mi_X10_promiseBehind me_X10_promiseBehind mr_X10_promiseBehind e10 ⟨⟨Nat.le_of_ble_eq_true rfl, Nat.le_of_ble_eq_true rfl⟩, Nat.le_of_ble_eq_true rfl, Nat.le_of_ble_eq_true rfl⟩ rfl (Nat.le_of_ble_eq_true rfl) hz rfl (ok_X10_promiseBehind (G := zs G) (hz := hz) e9) rfl
  refine X.callVq (b := a0) (v := some (.int v7)) (As := [.int v5]) (st := []) (M' := M8) (pc' := 14) dX10_promise_11 rfl cl_X10_337 mi_X10_promiseBehind me_X10_promiseBehind mr_X10_promiseBehind e10 ⟨⟨Nat.le_of_ble_eq_true rfl, Nat.le_of_ble_eq_true rfl⟩, Nat.le_of_ble_eq_true rfl, Nat.le_of_ble_eq_true rfl⟩ rfl (Nat.le_of_ble_eq_true rfl) (ok_X10_promiseBehind (G := zs G) (hz := hz) e9) ?_
  show X G t_X10_promise [] 14 [some (.ref a0)] [.int v7] M8 1 6 _
  cases h
  exact X.iret (ty := .int) dX10_promise_14 rfl rfl (Nat.le_of_ble_eq_true rfl) (Nat.le_of_ble_eq_true rfl) rfl
def f_X10_grief (fu : Nat) (a0 : Nat) (a1 : Int32) (M : List Ob) : Option ((Except String Int32) × List Ob) :=
  if a1 < 0 then (some (.error "java/lang/IndexOutOfBoundsException", M))
  else ((gP M a0 10 0).bind fun r1 =>
  (gP M r1 8 4).bind fun r3 =>
  (gI M r3 2 0).bind fun v5 =>
  if a1 < v5 then ((hasO M a0 10).bind fun _ =>
  bdX (f_X10_promiseBehind fu a0 a1 M) fun v7 M8 =>
  (hasO M8 a0 10).bind fun _ =>
  bdX (f_X10_promiseBehind fu a0 (a1 + 1) M8) fun v12 M13 =>
  some (.ok (v12 - v7), M13))
  else (some (.error "java/lang/IndexOutOfBoundsException", M)))
set_option maxHeartbeats 4000000 in
theorem ok_X10_grief {G : GT} (hz : gZ G = false) {fu : Nat} {a0 : Nat} {a1 : Int32} {M : List Ob} {out : (Except String Int32) × List Ob} (h : f_X10_grief fu a0 a1 M = some out) : Sq G t_X10_grief [.ref a0, .int a1] M (xI out) := by
  refine Sq.of rfl (by decide +kernel) (cat_all rfl) (Nat.le_of_ble_eq_true rfl) ?_
  show X G t_X10_grief [] 0 [some (.ref a0), some (.int a1), none] [] M 0 0 (xI out)
  unfold f_X10_grief at h
  refine X.iload_n (x := a1) (pc' := 1) dX10_grief_0 rfl rfl rfl ?_
  refine X.if_lt (tgt := 18) (pc' := 4) dX10_grief_1 (by decide) rfl (fun hc => ?_) (fun hc => ?_)
  · rw [if_pos hc] at h
    cases h
    exact X.thrW (tx := "there was no such step") dX10_grief_18 dX10_grief_21 dX10_grief_22 dX10_grief_25 dX10_grief_28 rfl th_X10_340_344 (by decide +kernel) (Nat.le_of_ble_eq_true rfl) (Nat.le_of_ble_eq_true rfl) (Nat.le_of_ble_eq_true rfl) (Nat.le_of_ble_eq_true rfl) rfl
  · rw [if_neg hc] at h
    refine X.iload_n (x := a1) (pc' := 5) dX10_grief_4 rfl rfl rfl ?_
    refine X.aload_n (x := a0) (pc' := 6) dX10_grief_5 rfl rfl rfl ?_
    obtain ⟨r1, e2, h⟩ := bindE h
    refine X.getf (pc' := 9) dX10_grief_6 rfl fq_X10_10 (gP_spec e2) ?_
    obtain ⟨r3, e4, h⟩ := bindE h
    refine X.getf (pc' := 12) dX10_grief_9 rfl fq_X10_151 (gP_spec e4) ?_
    obtain ⟨v5, e6, h⟩ := bindE h
    refine X.getf (pc' := 15) dX10_grief_12 rfl fq_X10_166 (gI_spec e6) ?_
    refine X.icmp_lt (tgt := 29) (pc' := 18) dX10_grief_15 (by decide) rfl (fun hc => ?_) (fun hc => ?_)
    · rw [if_pos hc] at h
      refine X.aload_n (x := a0) (pc' := 30) dX10_grief_29 rfl rfl rfl ?_
      refine X.iload_n (x := a1) (pc' := 31) dX10_grief_30 rfl rfl rfl ?_
      obtain ⟨⟨⟩, e10, h⟩ := bindE h
      rcases bdXE h with ⟨v7, M8, e9, h⟩ | ⟨E11, M8, e9, h⟩
      rotate_left
      · subst h
        exact X.callVx (b := a0) (As := [.int a1]) (st := []) (M' := M8) dX10_grief_31 cl_X10_337 mi_X10_promiseBehind me_X10_promiseBehind mr_X10_promiseBehind e10 ⟨⟨Nat.le_of_ble_eq_true rfl, Nat.le_of_ble_eq_true rfl⟩, Nat.le_of_ble_eq_true rfl, Nat.le_of_ble_eq_true rfl⟩ rfl (Nat.le_of_ble_eq_true rfl) hz rfl (ok_X10_promiseBehind (G := zs G) (hz := hz) e9) rfl
      refine X.callVq (b := a0) (v := some (.int v7)) (As := [.int a1]) (st := []) (M' := M8) (pc' := 34) dX10_grief_31 rfl cl_X10_337 mi_X10_promiseBehind me_X10_promiseBehind mr_X10_promiseBehind e10 ⟨⟨Nat.le_of_ble_eq_true rfl, Nat.le_of_ble_eq_true rfl⟩, Nat.le_of_ble_eq_true rfl, Nat.le_of_ble_eq_true rfl⟩ rfl (Nat.le_of_ble_eq_true rfl) (ok_X10_promiseBehind (G := zs G) (hz := hz) e9) ?_
      show X G t_X10_grief [] 34 [some (.ref a0), some (.int a1), none] [.int v7] M8 1 6 _
      refine X.istore_n (L' := [some (.ref a0), some (.int a1), some (.int v7)]) (pc' := 35) dX10_grief_34 rfl rfl (Nat.le_of_ble_eq_true rfl) rfl ?_
      refine X.aload_n (x := a0) (pc' := 36) dX10_grief_35 rfl rfl rfl ?_
      refine X.iload_n (x := a1) (pc' := 37) dX10_grief_36 rfl rfl rfl ?_
      refine X.iconst (v := 1) (pc' := 38) dX10_grief_37 rfl (by decide) ?_
      refine X.iadd (pc' := 39) dX10_grief_38 rfl ?_
      obtain ⟨⟨⟩, e15, h⟩ := bindE h
      rcases bdXE h with ⟨v12, M13, e14, h⟩ | ⟨E16, M13, e14, h⟩
      rotate_left
      · subst h
        exact X.callVx (b := a0) (As := [.int (a1 + 1)]) (st := []) (M' := M13) dX10_grief_39 cl_X10_337 mi_X10_promiseBehind me_X10_promiseBehind mr_X10_promiseBehind e15 ⟨⟨Nat.le_of_ble_eq_true rfl, Nat.le_of_ble_eq_true rfl⟩, Nat.le_of_ble_eq_true rfl, Nat.le_of_ble_eq_true rfl⟩ rfl (Nat.le_of_ble_eq_true rfl) hz rfl (ok_X10_promiseBehind (G := zs G) (hz := hz) e14) rfl
      refine X.callVq (b := a0) (v := some (.int v12)) (As := [.int (a1 + 1)]) (st := []) (M' := M13) (pc' := 42) dX10_grief_39 rfl cl_X10_337 mi_X10_promiseBehind me_X10_promiseBehind mr_X10_promiseBehind e15 ⟨⟨Nat.le_of_ble_eq_true rfl, Nat.le_of_ble_eq_true rfl⟩, Nat.le_of_ble_eq_true rfl, Nat.le_of_ble_eq_true rfl⟩ rfl (Nat.le_of_ble_eq_true rfl) (ok_X10_promiseBehind (G := zs G) (hz := hz) e14) ?_
      show X G t_X10_grief [] 42 [some (.ref a0), some (.int a1), some (.int v7)] [.int v12] M13 2 12 _
      refine X.iload_n (x := v7) (pc' := 43) dX10_grief_42 rfl rfl rfl ?_
      refine X.isub (pc' := 44) dX10_grief_43 rfl ?_
      cases h
      exact X.iret (ty := .int) dX10_grief_44 rfl rfl (Nat.le_of_ble_eq_true rfl) (Nat.le_of_ble_eq_true rfl) rfl
    · rw [if_neg hc] at h
      cases h
      exact X.thrW (tx := "there was no such step") dX10_grief_18 dX10_grief_21 dX10_grief_22 dX10_grief_25 dX10_grief_28 rfl th_X10_340_344 (by decide +kernel) (Nat.le_of_ble_eq_true rfl) (Nat.le_of_ble_eq_true rfl) (Nat.le_of_ble_eq_true rfl) (Nat.le_of_ble_eq_true rfl) rfl
def f_X10_writeByte (fu : Nat) (a0 : Nat) (a1 : Int32) (M : List Ob) : Option (Unit × List Ob) :=
  (gI M a0 10 9).bind fun v1 =>
  (gP M a0 10 8).bind fun r3 =>
  (aLen M r3 12).bind fun v5 =>
  if v5 ≤ v1 then (some ((), M))
  else ((gP M a0 10 8).bind fun r7 =>
  (gI M a0 10 9).bind fun v9 =>
  (aSet M r7 12 v9 (.int ((((a1 : Int32).toInt8.toInt32) : Int32).toInt8.toInt32))).bind fun M12 =>
  (gI M12 a0 10 9).bind fun v13 =>
  (pF M12 a0 10 9 (.int (v13 + 1))).bind fun M15 =>
  some ((), M15))
set_option maxHeartbeats 4000000 in
theorem ok_X10_writeByte {G : GT} {fu : Nat} {a0 : Nat} {a1 : Int32} {M : List Ob} {out : Unit × List Ob} (h : f_X10_writeByte fu a0 a1 M = some out) : Sp G t_X10_writeByte [.ref a0, .int a1] M (oU out) := by
  refine Sp.of rfl (by decide +kernel) (cat_all rfl) (Nat.le_of_ble_eq_true rfl) ?_
  show X G t_X10_writeByte [] 0 [some (.ref a0), some (.int a1)] [] M 0 0 (oU out)
  unfold f_X10_writeByte at h
  refine X.aload_n (x := a0) (pc' := 1) dX10_writeByte_0 rfl rfl rfl ?_
  obtain ⟨v1, e2, h⟩ := bindE h
  refine X.getf (pc' := 4) dX10_writeByte_1 rfl fq_X10_79 (gI_spec e2) ?_
  refine X.aload_n (x := a0) (pc' := 5) dX10_writeByte_4 rfl rfl rfl ?_
  obtain ⟨r3, e4, h⟩ := bindE h
  refine X.getf (pc' := 8) dX10_writeByte_5 rfl fq_X10_75 (gP_spec e4) ?_
  obtain ⟨v5, e6, h⟩ := bindE h
  refine X.alen (kd := 12) (pc' := 9) dX10_writeByte_8 rfl (Nat.le_of_ble_eq_true rfl) (Nat.le_of_ble_eq_true rfl) e6 ?_
  refine X.icmp_ge (tgt := 33) (pc' := 12) dX10_writeByte_9 (by decide) rfl (fun hc => ?_) (fun hc => ?_)
  · rw [if_pos hc] at h
    cases h
    exact X.vret dX10_writeByte_33 rfl (Nat.le_of_ble_eq_true rfl) (Nat.le_of_ble_eq_true rfl) rfl
  · rw [if_neg hc] at h
    refine X.aload_n (x := a0) (pc' := 13) dX10_writeByte_12 rfl rfl rfl ?_
    obtain ⟨r7, e8, h⟩ := bindE h
    refine X.getf (pc' := 16) dX10_writeByte_13 rfl fq_X10_75 (gP_spec e8) ?_
    refine X.aload_n (x := a0) (pc' := 17) dX10_writeByte_16 rfl rfl rfl ?_
    obtain ⟨v9, e10, h⟩ := bindE h
    refine X.getf (pc' := 20) dX10_writeByte_17 rfl fq_X10_79 (gI_spec e10) ?_
    refine X.iload_n (x := a1) (pc' := 21) dX10_writeByte_20 rfl rfl rfl ?_
    refine X.i2b (pc' := 22) dX10_writeByte_21 rfl ?_
    obtain ⟨M12, e11, h⟩ := bindE h
    refine X.bast (pc' := 23) dX10_writeByte_22 rfl e11 ?_
    refine X.aload_n (x := a0) (pc' := 24) dX10_writeByte_23 rfl rfl rfl ?_
    refine X.dup (pc' := 25) dX10_writeByte_24 rfl rfl ?_
    obtain ⟨v13, e14, h⟩ := bindE h
    refine X.getf (pc' := 28) dX10_writeByte_25 rfl fq_X10_79 (gI_spec e14) ?_
    refine X.iconst (v := 1) (pc' := 29) dX10_writeByte_28 rfl (by decide) ?_
    refine X.iadd (pc' := 30) dX10_writeByte_29 rfl ?_
    obtain ⟨M15, e16, h⟩ := bindE h
    refine X.putf (pc' := 33) dX10_writeByte_30 rfl fq_X10_79 rfl rfl e16 ?_
    cases h
    exact X.vret dX10_writeByte_33 rfl (Nat.le_of_ble_eq_true rfl) (Nat.le_of_ble_eq_true rfl) rfl
def f_X10_writeRoute_87 (fu : Nat) (a0 : Nat) (a2 : Nat) (a3 : Int32) (a4 : Int32) (a5 : Int32) (b0 : Nat) (b1 : Int32) (M : List Ob) (k52 : Nat → Nat → Int32 → Int32 → List Ob → Option ((Except String Int32) × List Ob)) (k116 : Nat → List Ob → Option ((Except String Int32) × List Ob)) : Option ((Except String Int32) × List Ob) :=
  (hasO M b0 10).bind fun _ =>
  bd2 (f_X10_writeByte fu b0 b1 M) fun _ M2 =>
  (gP M2 a0 10 0).bind fun r5 =>
  (gP M2 r5 8 0).bind fun r7 =>
  (gP M2 r7 4 6).bind fun r9 =>
  (aI M2 r9 13 a5).bind fun v12 =>
  (hasO M2 a0 10).bind fun _ =>
  bd2 (f_X10_writeByte fu a0 (48 + v12) M2) fun _ M14 =>
  k52 a0 a2 a3 (a4 + 1) M14
set_option maxHeartbeats 4000000 in
theorem ok_X10_writeRoute_87 {G : GT} {fu : Nat} {out : (Except String Int32) × List Ob} (hz : gZ G = false) {a0 : Nat} {a2 : Nat} {a3 : Int32} {a4 : Int32} {a5 : Int32} {b0 : Nat} {b1 : Int32} {M : List Ob} {k52 : Nat → Nat → Int32 → Int32 → List Ob → Option ((Except String Int32) × List Ob)} {k116 : Nat → List Ob → Option ((Except String Int32) × List Ob)} (hk52 : ∀ (a0 : Nat) (a2 : Nat) (a3 : Int32) (a4 : Int32) (M : List Ob), k52 a0 a2 a3 a4 M = some out → X G t_X10_writeRoute [] 52 [some (.ref a0), none, some (.ref a2), some (.int a3), some (.int a4), none] [] M 1 6 (xI out)) (hk116 : ∀ (a0 : Nat) (M : List Ob), k116 a0 M = some out → X G t_X10_writeRoute [] 116 [some (.ref a0), none, none, none, none, none] [] M 1 6 (xI out)) (h : f_X10_writeRoute_87 fu a0 a2 a3 a4 a5 b0 b1 M k52 k116 = some out) : X G t_X10_writeRoute [] 87 [some (.ref a0), none, some (.ref a2), some (.int a3), some (.int a4), some (.int a5)] [.int b1, .ref b0] M 1 6 (xI out) := by
  unfold f_X10_writeRoute_87 at h
  obtain ⟨⟨⟩, e4, h⟩ := bindE h
  obtain ⟨r1, M2, e3, h⟩ := bd2E h
  refine X.callV (b := b0) (v := none) (As := [.int b1]) (st := []) (M' := M2) (pc' := 90) dX10_writeRoute_87 rfl cl_X10_348 mi_X10_writeByte me_X10_writeByte mr_X10_writeByte e4 ⟨⟨Nat.le_of_ble_eq_true rfl, Nat.le_of_ble_eq_true rfl⟩, Nat.le_of_ble_eq_true rfl, Nat.le_of_ble_eq_true rfl⟩ rfl (Nat.le_of_ble_eq_true rfl) (ok_X10_writeByte (G := zs G) e3) ?_
  show X G t_X10_writeRoute [] 90 [some (.ref a0), none, some (.ref a2), some (.int a3), some (.int a4), some (.int a5)] [] M2 1 6 _
  refine X.aload_n (x := a0) (pc' := 91) dX10_writeRoute_90 rfl rfl rfl ?_
  refine X.bipush (v := 48) (pc' := 93) dX10_writeRoute_91 rfl (by decide) ?_
  refine X.aload_n (x := a0) (pc' := 94) dX10_writeRoute_93 rfl rfl rfl ?_
  obtain ⟨r5, e6, h⟩ := bindE h
  refine X.getf (pc' := 97) dX10_writeRoute_94 rfl fq_X10_10 (gP_spec e6) ?_
  obtain ⟨r7, e8, h⟩ := bindE h
  refine X.getf (pc' := 100) dX10_writeRoute_97 rfl fq_X10_39 (gP_spec e8) ?_
  obtain ⟨r9, e10, h⟩ := bindE h
  refine X.getf (pc' := 103) dX10_writeRoute_100 rfl fq_X10_178 (gP_spec e10) ?_
  refine X.iload (x := a5) (pc' := 105) dX10_writeRoute_103 rfl rfl ?_
  obtain ⟨v12, e11, h⟩ := bindE h
  refine X.iald (pc' := 106) dX10_writeRoute_105 rfl e11 ?_
  refine X.iadd (pc' := 107) dX10_writeRoute_106 rfl ?_
  obtain ⟨⟨⟩, e16, h⟩ := bindE h
  obtain ⟨r13, M14, e15, h⟩ := bd2E h
  refine X.callV (b := a0) (v := none) (As := [.int (48 + v12)]) (st := []) (M' := M14) (pc' := 110) dX10_writeRoute_107 rfl cl_X10_348 mi_X10_writeByte me_X10_writeByte mr_X10_writeByte e16 ⟨⟨Nat.le_of_ble_eq_true rfl, Nat.le_of_ble_eq_true rfl⟩, Nat.le_of_ble_eq_true rfl, Nat.le_of_ble_eq_true rfl⟩ rfl (Nat.le_of_ble_eq_true rfl) (ok_X10_writeByte (G := zs G) e15) ?_
  show X G t_X10_writeRoute [] 110 [some (.ref a0), none, some (.ref a2), some (.int a3), some (.int a4), some (.int a5)] [] M14 1 6 _
  refine X.iinc (v := (a4 + 1)) (L' := [some (.ref a0), none, some (.ref a2), some (.int a3), some (.int (a4 + 1)), some (.int a5)]) (pc' := 113) dX10_writeRoute_110 rfl rfl (congrArg (fun y => a4 + y) (show Int32.ofInt 1 = 1 by decide)) (Nat.le_of_ble_eq_true rfl) rfl ?_
  refine X.goto (pc' := 52) dX10_writeRoute_113 (by decide) ?_
  refine X.sub (L := [some (.ref a0), none, some (.ref a2), some (.int a3), some (.int (a4 + 1)), none]) ?_ (⟨rfl, ⟨rfl, ⟨rfl, ⟨rfl, trivial⟩⟩⟩⟩)
  exact hk52 _ _ _ _ _ h
def f_X10_writeRoute_52b (fu : Nat) (a0 : Nat) (a2 : Nat) (a3 : Int32) (a4 : Int32) (M : List Ob) (k52 : Nat → Nat → Int32 → Int32 → List Ob → Option ((Except String Int32) × List Ob)) (k116 : Nat → List Ob → Option ((Except String Int32) × List Ob)) : Option ((Except String Int32) × List Ob) :=
  (gI M a2 5 1).bind fun v1 =>
  if v1 ≤ a4 then (k116 a0 M)
  else ((gP M a2 5 0).bind fun r3 =>
  (aI M r3 13 a4).bind fun v6 =>
  bd2 (f_X10_isIn fu a3 v6 M) fun v7 M8 =>
  if v7 = 0 then (f_X10_writeRoute_87 fu a0 a2 a3 a4 v6 a0 45 M8 k52 k116)
  else (f_X10_writeRoute_87 fu a0 a2 a3 a4 v6 a0 43 M8 k52 k116))
set_option maxHeartbeats 4000000 in
theorem ok_X10_writeRoute_52b {G : GT} {fu : Nat} {out : (Except String Int32) × List Ob} (hz : gZ G = false) {a0 : Nat} {a2 : Nat} {a3 : Int32} {a4 : Int32} {M : List Ob} {k52 : Nat → Nat → Int32 → Int32 → List Ob → Option ((Except String Int32) × List Ob)} {k116 : Nat → List Ob → Option ((Except String Int32) × List Ob)} (hk52 : ∀ (a0 : Nat) (a2 : Nat) (a3 : Int32) (a4 : Int32) (M : List Ob), k52 a0 a2 a3 a4 M = some out → X G t_X10_writeRoute [] 52 [some (.ref a0), none, some (.ref a2), some (.int a3), some (.int a4), none] [] M 1 6 (xI out)) (hk116 : ∀ (a0 : Nat) (M : List Ob), k116 a0 M = some out → X G t_X10_writeRoute [] 116 [some (.ref a0), none, none, none, none, none] [] M 1 6 (xI out)) (h : f_X10_writeRoute_52b fu a0 a2 a3 a4 M k52 k116 = some out) : X G t_X10_writeRoute [] 52 [some (.ref a0), none, some (.ref a2), some (.int a3), some (.int a4), none] [] M 1 6 (xI out) := by
  unfold f_X10_writeRoute_52b at h
  refine X.iload (x := a4) (pc' := 54) dX10_writeRoute_52 rfl rfl ?_
  refine X.aload_n (x := a2) (pc' := 55) dX10_writeRoute_54 rfl rfl rfl ?_
  obtain ⟨v1, e2, h⟩ := bindE h
  refine X.getf (pc' := 58) dX10_writeRoute_55 rfl fq_X10_142 (gI_spec e2) ?_
  refine X.icmp_ge (tgt := 116) (pc' := 61) dX10_writeRoute_58 (by decide) rfl (fun hc => ?_) (fun hc => ?_)
  · rw [if_pos hc] at h
    refine X.sub (L := [some (.ref a0), none, none, none, none, none]) ?_ (⟨rfl, trivial⟩)
    exact hk116 _ _ h
  · rw [if_neg hc] at h
    refine X.aload_n (x := a2) (pc' := 62) dX10_writeRoute_61 rfl rfl rfl ?_
    obtain ⟨r3, e4, h⟩ := bindE h
    refine X.getf (pc' := 65) dX10_writeRoute_62 rfl fq_X10_351 (gP_spec e4) ?_
    refine X.iload (x := a4) (pc' := 67) dX10_writeRoute_65 rfl rfl ?_
    obtain ⟨v6, e5, h⟩ := bindE h
    refine X.iald (pc' := 68) dX10_writeRoute_67 rfl e5 ?_
    refine X.istore (L' := [some (.ref a0), none, some (.ref a2), some (.int a3), some (.int a4), some (.int v6)]) (pc' := 70) dX10_writeRoute_68 rfl (Nat.le_of_ble_eq_true rfl) rfl ?_
    refine X.aload_n (x := a0) (pc' := 71) dX10_writeRoute_70 rfl rfl rfl ?_
    refine X.iload_n (x := a3) (pc' := 72) dX10_writeRoute_71 rfl rfl rfl ?_
    refine X.iload (x := v6) (pc' := 74) dX10_writeRoute_72 rfl rfl ?_
    obtain ⟨v7, M8, e9, h⟩ := bd2E h
    refine X.callS (v := some (.int v7)) (As := [.int a3, .int v6]) (st := [.ref a0]) (M' := M8) (pc' := 77) dX10_writeRoute_74 rfl cl_X10_353 ms_X10_isIn ⟨⟨Nat.le_of_ble_eq_true rfl, Nat.le_of_ble_eq_true rfl⟩, Nat.le_of_ble_eq_true rfl, Nat.le_of_ble_eq_true rfl⟩ rfl (Nat.le_of_ble_eq_true rfl) (ok_X10_isIn (G := zs G) e9) ?_
    show X G t_X10_writeRoute [] 77 [some (.ref a0), none, some (.ref a2), some (.int a3), some (.int a4), some (.int v6)] [.int v7, .ref a0] M8 1 6 _
    refine X.if_eq (tgt := 85) (pc' := 80) dX10_writeRoute_77 (by decide) rfl (fun hc => ?_) (fun hc => ?_)
    · rw [if_pos hc] at h
      refine X.bipush (v := 45) (pc' := 87) dX10_writeRoute_85 rfl (by decide) ?_
      exact ok_X10_writeRoute_87 hz hk52 hk116 h
    · rw [if_neg hc] at h
      refine X.bipush (v := 43) (pc' := 82) dX10_writeRoute_80 rfl (by decide) ?_
      refine X.goto (pc' := 87) dX10_writeRoute_82 (by decide) ?_
      exact ok_X10_writeRoute_87 hz hk52 hk116 h
def f_X10_writeRoute_52 (fu : Nat) (k116 : Nat → List Ob → Option ((Except String Int32) × List Ob)) : Nat → Nat → Nat → Int32 → Int32 → List Ob → Option ((Except String Int32) × List Ob)
  | 0, _, _, _, _, _ => none
  | n + 1, a0, a2, a3, a4, M => f_X10_writeRoute_52b fu a0 a2 a3 a4 M (fun a0 a2 a3 a4 M => f_X10_writeRoute_52 fu k116 n a0 a2 a3 a4 M) k116
theorem ok_X10_writeRoute_52 {G : GT} {fu : Nat} {out : (Except String Int32) × List Ob} (hz : gZ G = false) {k116 : Nat → List Ob → Option ((Except String Int32) × List Ob)} (hk116 : ∀ (a0 : Nat) (M : List Ob), k116 a0 M = some out → X G t_X10_writeRoute [] 116 [some (.ref a0), none, none, none, none, none] [] M 1 6 (xI out)) : ∀ (n : Nat) (a0 : Nat) (a2 : Nat) (a3 : Int32) (a4 : Int32) (M : List Ob), f_X10_writeRoute_52 fu k116 n a0 a2 a3 a4 M = some out → X G t_X10_writeRoute [] 52 [some (.ref a0), none, some (.ref a2), some (.int a3), some (.int a4), none] [] M 1 6 (xI out) := by
  intro n
  induction n with
  | zero =>
    intro a0 a2 a3 a4 M h
    unfold f_X10_writeRoute_52 at h
    cases h
  | succ n ih =>
    intro a0 a2 a3 a4 M h
    unfold f_X10_writeRoute_52 at h
    exact ok_X10_writeRoute_52b hz ih hk116 h
def f_X10_writeRoute_116 (fu : Nat) (a0 : Nat) (M : List Ob) : Option ((Except String Int32) × List Ob) :=
  (gI M a0 10 9).bind fun v1 =>
  some (.ok v1, M)
set_option maxHeartbeats 4000000 in
theorem ok_X10_writeRoute_116 {G : GT} {fu : Nat} {out : (Except String Int32) × List Ob} (hz : gZ G = false) {a0 : Nat} {M : List Ob} (h : f_X10_writeRoute_116 fu a0 M = some out) : X G t_X10_writeRoute [] 116 [some (.ref a0), none, none, none, none, none] [] M 1 6 (xI out) := by
  unfold f_X10_writeRoute_116 at h
  refine X.aload_n (x := a0) (pc' := 117) dX10_writeRoute_116 rfl rfl rfl ?_
  obtain ⟨v1, e2, h⟩ := bindE h
  refine X.getf (pc' := 120) dX10_writeRoute_117 rfl fq_X10_79 (gI_spec e2) ?_
  cases h
  exact X.iret (ty := .int) dX10_writeRoute_120 rfl rfl (Nat.le_of_ble_eq_true rfl) (Nat.le_of_ble_eq_true rfl) rfl
def f_X10_writeRoute (fu : Nat) (a0 : Nat) (a1 : Int32) (M : List Ob) : Option ((Except String Int32) × List Ob) :=
  (hasO M a0 10).bind fun _ =>
  bdX (f_X10_requireRoute fu a0 a1 M) fun _ M2 =>
  (gP M2 a0 10 0).bind fun r6 =>
  (gP M2 r6 8 2).bind fun r8 =>
  (aP M2 r8 14 a1).bind fun r11 =>
  (gP M2 a0 10 0).bind fun r12 =>
  (gP M2 r12 8 0).bind fun r14 =>
  (hasO M2 r14 4).bind fun _ =>
  bd2 (f_X4_witnessOf fu r14 r11 M2) fun v16 M17 =>
  (pF M17 a0 10 9 (.int 0)).bind fun M20 =>
  (gP M20 a0 10 0).bind fun r22 =>
  (gP M20 r22 8 0).bind fun r24 =>
  (gI M20 r24 4 1).bind fun v26 =>
  (hasO M20 a0 10).bind fun _ =>
  bd2 (f_X10_writeByte fu a0 (48 + v26) M20) fun _ M29 =>
  f_X10_writeRoute_52 fu (fun x32 M33 => f_X10_writeRoute_116 fu x32 M33) fu a0 r11 v16 0 M29
set_option maxHeartbeats 4000000 in
theorem ok_X10_writeRoute {G : GT} (hz : gZ G = false) {fu : Nat} {a0 : Nat} {a1 : Int32} {M : List Ob} {out : (Except String Int32) × List Ob} (h : f_X10_writeRoute fu a0 a1 M = some out) : Sq G t_X10_writeRoute [.ref a0, .int a1] M (xI out) := by
  refine Sq.of rfl (by decide +kernel) (cat_all rfl) (Nat.le_of_ble_eq_true rfl) ?_
  show X G t_X10_writeRoute [] 0 [some (.ref a0), some (.int a1), none, none, none, none] [] M 0 0 (xI out)
  unfold f_X10_writeRoute at h
  refine X.aload_n (x := a0) (pc' := 1) dX10_writeRoute_0 rfl rfl rfl ?_
  refine X.iload_n (x := a1) (pc' := 2) dX10_writeRoute_1 rfl rfl rfl ?_
  obtain ⟨⟨⟩, e4, h⟩ := bindE h
  rcases bdXE h with ⟨r1, M2, e3, h⟩ | ⟨E5, M2, e3, h⟩
  rotate_left
  · subst h
    exact X.callVx (b := a0) (As := [.int a1]) (st := []) (M' := M2) dX10_writeRoute_2 cl_X10_252 mi_X10_requireRoute me_X10_requireRoute mr_X10_requireRoute e4 ⟨⟨Nat.le_of_ble_eq_true rfl, Nat.le_of_ble_eq_true rfl⟩, Nat.le_of_ble_eq_true rfl, Nat.le_of_ble_eq_true rfl⟩ rfl (Nat.le_of_ble_eq_true rfl) hz rfl (ok_X10_requireRoute (G := zs G) (hz := hz) e3) rfl
  refine X.callVq (b := a0) (v := none) (As := [.int a1]) (st := []) (M' := M2) (pc' := 5) dX10_writeRoute_2 rfl cl_X10_252 mi_X10_requireRoute me_X10_requireRoute mr_X10_requireRoute e4 ⟨⟨Nat.le_of_ble_eq_true rfl, Nat.le_of_ble_eq_true rfl⟩, Nat.le_of_ble_eq_true rfl, Nat.le_of_ble_eq_true rfl⟩ rfl (Nat.le_of_ble_eq_true rfl) (ok_X10_requireRoute (G := zs G) (hz := hz) e3) ?_
  show X G t_X10_writeRoute [] 5 [some (.ref a0), some (.int a1), none, none, none, none] [] M2 1 6 _
  refine X.aload_n (x := a0) (pc' := 6) dX10_writeRoute_5 rfl rfl rfl ?_
  obtain ⟨r6, e7, h⟩ := bindE h
  refine X.getf (pc' := 9) dX10_writeRoute_6 rfl fq_X10_10 (gP_spec e7) ?_
  obtain ⟨r8, e9, h⟩ := bindE h
  refine X.getf (pc' := 12) dX10_writeRoute_9 rfl fq_X10_258 (gP_spec e9) ?_
  refine X.iload_n (x := a1) (pc' := 13) dX10_writeRoute_12 rfl rfl rfl ?_
  obtain ⟨r11, e10, h⟩ := bindE h
  refine X.aald (pc' := 14) dX10_writeRoute_13 rfl (by decide) e10 ?_
  refine X.astore_n (L' := [some (.ref a0), some (.int a1), some (.ref r11), none, none, none]) (pc' := 15) dX10_writeRoute_14 rfl rfl (Nat.le_of_ble_eq_true rfl) rfl ?_
  refine X.aload_n (x := a0) (pc' := 16) dX10_writeRoute_15 rfl rfl rfl ?_
  obtain ⟨r12, e13, h⟩ := bindE h
  refine X.getf (pc' := 19) dX10_writeRoute_16 rfl fq_X10_10 (gP_spec e13) ?_
  obtain ⟨r14, e15, h⟩ := bindE h
  refine X.getf (pc' := 22) dX10_writeRoute_19 rfl fq_X10_39 (gP_spec e15) ?_
  refine X.aload_n (x := r11) (pc' := 23) dX10_writeRoute_22 rfl rfl rfl ?_
  obtain ⟨⟨⟩, e19, h⟩ := bindE h
  obtain ⟨v16, M17, e18, h⟩ := bd2E h
  refine X.callV (b := r14) (v := some (.int v16)) (As := [.ref r11]) (st := []) (M' := M17) (pc' := 26) dX10_writeRoute_23 rfl cl_X10_345 mi_X4_witnessOf me_X4_witnessOf mr_X4_witnessOf e19 ⟨⟨Nat.le_of_ble_eq_true rfl, Nat.le_of_ble_eq_true rfl⟩, Nat.le_of_ble_eq_true rfl, Nat.le_of_ble_eq_true rfl⟩ rfl (Nat.le_of_ble_eq_true rfl) (ok_X4_witnessOf (G := zs G) e18) ?_
  show X G t_X10_writeRoute [] 26 [some (.ref a0), some (.int a1), some (.ref r11), none, none, none] [.int v16] M17 1 6 _
  refine X.istore_n (L' := [some (.ref a0), some (.int a1), some (.ref r11), some (.int v16), none, none]) (pc' := 27) dX10_writeRoute_26 rfl rfl (Nat.le_of_ble_eq_true rfl) rfl ?_
  refine X.aload_n (x := a0) (pc' := 28) dX10_writeRoute_27 rfl rfl rfl ?_
  refine X.iconst (v := 0) (pc' := 29) dX10_writeRoute_28 rfl (by decide) ?_
  obtain ⟨M20, e21, h⟩ := bindE h
  refine X.putf (pc' := 32) dX10_writeRoute_29 rfl fq_X10_79 rfl rfl e21 ?_
  refine X.aload_n (x := a0) (pc' := 33) dX10_writeRoute_32 rfl rfl rfl ?_
  refine X.bipush (v := 48) (pc' := 35) dX10_writeRoute_33 rfl (by decide) ?_
  refine X.aload_n (x := a0) (pc' := 36) dX10_writeRoute_35 rfl rfl rfl ?_
  obtain ⟨r22, e23, h⟩ := bindE h
  refine X.getf (pc' := 39) dX10_writeRoute_36 rfl fq_X10_10 (gP_spec e23) ?_
  obtain ⟨r24, e25, h⟩ := bindE h
  refine X.getf (pc' := 42) dX10_writeRoute_39 rfl fq_X10_39 (gP_spec e25) ?_
  obtain ⟨v26, e27, h⟩ := bindE h
  refine X.getf (pc' := 45) dX10_writeRoute_42 rfl fq_X10_126 (gI_spec e27) ?_
  refine X.iadd (pc' := 46) dX10_writeRoute_45 rfl ?_
  obtain ⟨⟨⟩, e31, h⟩ := bindE h
  obtain ⟨r28, M29, e30, h⟩ := bd2E h
  refine X.callV (b := a0) (v := none) (As := [.int (48 + v26)]) (st := []) (M' := M29) (pc' := 49) dX10_writeRoute_46 rfl cl_X10_348 mi_X10_writeByte me_X10_writeByte mr_X10_writeByte e31 ⟨⟨Nat.le_of_ble_eq_true rfl, Nat.le_of_ble_eq_true rfl⟩, Nat.le_of_ble_eq_true rfl, Nat.le_of_ble_eq_true rfl⟩ rfl (Nat.le_of_ble_eq_true rfl) (ok_X10_writeByte (G := zs G) e30) ?_
  show X G t_X10_writeRoute [] 49 [some (.ref a0), some (.int a1), some (.ref r11), some (.int v16), none, none] [] M29 1 6 _
  refine X.iconst (v := 0) (pc' := 50) dX10_writeRoute_49 rfl (by decide) ?_
  refine X.istore (L' := [some (.ref a0), some (.int a1), some (.ref r11), some (.int v16), some (.int 0), none]) (pc' := 52) dX10_writeRoute_50 rfl (Nat.le_of_ble_eq_true rfl) rfl ?_
  refine X.sub (L := [some (.ref a0), none, some (.ref r11), some (.int v16), some (.int 0), none]) ?_ (⟨rfl, ⟨rfl, ⟨rfl, ⟨rfl, trivial⟩⟩⟩⟩)
  refine ok_X10_writeRoute_52 hz ?_ fu _ _ _ _ _ h
  · intro x32 M33 h
    exact ok_X10_writeRoute_116 hz h
def f_X10_writtenByte (fu : Nat) (a0 : Nat) (a1 : Int32) (M : List Ob) : Option ((Except String Int32) × List Ob) :=
  if a1 < 0 then (some (.error "java/lang/IndexOutOfBoundsException", M))
  else ((gI M a0 10 9).bind fun v1 =>
  if a1 < v1 then ((gP M a0 10 8).bind fun r3 =>
  (aI M r3 12 a1).bind fun v6 =>
  some (.ok v6, M))
  else (some (.error "java/lang/IndexOutOfBoundsException", M)))
set_option maxHeartbeats 4000000 in
theorem ok_X10_writtenByte {G : GT} (hz : gZ G = false) {fu : Nat} {a0 : Nat} {a1 : Int32} {M : List Ob} {out : (Except String Int32) × List Ob} (h : f_X10_writtenByte fu a0 a1 M = some out) : Sq G t_X10_writtenByte [.ref a0, .int a1] M (xI out) := by
  refine Sq.of rfl (by decide +kernel) (cat_all rfl) (Nat.le_of_ble_eq_true rfl) ?_
  show X G t_X10_writtenByte [] 0 [some (.ref a0), some (.int a1)] [] M 0 0 (xI out)
  unfold f_X10_writtenByte at h
  refine X.iload_n (x := a1) (pc' := 1) dX10_writtenByte_0 rfl rfl rfl ?_
  refine X.if_lt (tgt := 12) (pc' := 4) dX10_writtenByte_1 (by decide) rfl (fun hc => ?_) (fun hc => ?_)
  · rw [if_pos hc] at h
    cases h
    exact X.thrW (tx := "there is no such byte") dX10_writtenByte_12 dX10_writtenByte_15 dX10_writtenByte_16 dX10_writtenByte_19 dX10_writtenByte_22 rfl th_X10_340_344 (by decide +kernel) (Nat.le_of_ble_eq_true rfl) (Nat.le_of_ble_eq_true rfl) (Nat.le_of_ble_eq_true rfl) (Nat.le_of_ble_eq_true rfl) rfl
  · rw [if_neg hc] at h
    refine X.iload_n (x := a1) (pc' := 5) dX10_writtenByte_4 rfl rfl rfl ?_
    refine X.aload_n (x := a0) (pc' := 6) dX10_writtenByte_5 rfl rfl rfl ?_
    obtain ⟨v1, e2, h⟩ := bindE h
    refine X.getf (pc' := 9) dX10_writtenByte_6 rfl fq_X10_79 (gI_spec e2) ?_
    refine X.icmp_lt (tgt := 23) (pc' := 12) dX10_writtenByte_9 (by decide) rfl (fun hc => ?_) (fun hc => ?_)
    · rw [if_pos hc] at h
      refine X.aload_n (x := a0) (pc' := 24) dX10_writtenByte_23 rfl rfl rfl ?_
      obtain ⟨r3, e4, h⟩ := bindE h
      refine X.getf (pc' := 27) dX10_writtenByte_24 rfl fq_X10_75 (gP_spec e4) ?_
      refine X.iload_n (x := a1) (pc' := 28) dX10_writtenByte_27 rfl rfl rfl ?_
      obtain ⟨v6, e5, h⟩ := bindE h
      refine X.bald (pc' := 29) dX10_writtenByte_28 rfl e5 ?_
      cases h
      exact X.iret (ty := .int) dX10_writtenByte_29 rfl rfl (Nat.le_of_ble_eq_true rfl) (Nat.le_of_ble_eq_true rfl) rfl
    · rw [if_neg hc] at h
      cases h
      exact X.thrW (tx := "there is no such byte") dX10_writtenByte_12 dX10_writtenByte_15 dX10_writtenByte_16 dX10_writtenByte_19 dX10_writtenByte_22 rfl th_X10_340_344 (by decide +kernel) (Nat.le_of_ble_eq_true rfl) (Nat.le_of_ble_eq_true rfl) (Nat.le_of_ble_eq_true rfl) (Nat.le_of_ble_eq_true rfl) rfl
def f_X10_undo (fu : Nat) (a0 : Nat) (M : List Ob) : Option ((Except String Int32) × List Ob) :=
  (gP M a0 10 1).bind fun r1 =>
  (gI M r1 1 2).bind fun v3 =>
  if v3 = 0 then (some (.error "java/lang/IllegalStateException", M))
  else ((gP M a0 10 1).bind fun r5 =>
  (gP M a0 10 0).bind fun r7 =>
  (hasO M r5 1).bind fun _ =>
  bd2 (f_X1_takeBack fu r5 r7 M) fun _ M10 =>
  (hasO M10 a0 10).bind fun _ =>
  bd2 (f_X10_forgetResults fu a0 M10) fun _ M14 =>
  (gP M14 a0 10 1).bind fun r17 =>
  (gI M14 r17 1 2).bind fun v19 =>
  some (.ok v19, M14))
set_option maxHeartbeats 4000000 in
theorem ok_X10_undo {G : GT} (hz : gZ G = false) {fu : Nat} {a0 : Nat} {M : List Ob} {out : (Except String Int32) × List Ob} (h : f_X10_undo fu a0 M = some out) : Sq G t_X10_undo [.ref a0] M (xI out) := by
  refine Sq.of rfl (by decide +kernel) (cat_all rfl) (Nat.le_of_ble_eq_true rfl) ?_
  show X G t_X10_undo [] 0 [some (.ref a0)] [] M 0 0 (xI out)
  unfold f_X10_undo at h
  refine X.aload_n (x := a0) (pc' := 1) dX10_undo_0 rfl rfl rfl ?_
  obtain ⟨r1, e2, h⟩ := bindE h
  refine X.getf (pc' := 4) dX10_undo_1 rfl fq_X10_23 (gP_spec e2) ?_
  obtain ⟨v3, e4, h⟩ := bindE h
  refine X.getf (pc' := 7) dX10_undo_4 rfl fq_X10_359 (gI_spec e4) ?_
  refine X.if_ne (tgt := 21) (pc' := 10) dX10_undo_7 (by decide) rfl (fun hc => ?_) (fun hc => ?_)
  · rw [if_neg hc] at h
    refine X.aload_n (x := a0) (pc' := 22) dX10_undo_21 rfl rfl rfl ?_
    obtain ⟨r5, e6, h⟩ := bindE h
    refine X.getf (pc' := 25) dX10_undo_22 rfl fq_X10_23 (gP_spec e6) ?_
    refine X.aload_n (x := a0) (pc' := 26) dX10_undo_25 rfl rfl rfl ?_
    obtain ⟨r7, e8, h⟩ := bindE h
    refine X.getf (pc' := 29) dX10_undo_26 rfl fq_X10_10 (gP_spec e8) ?_
    obtain ⟨⟨⟩, e12, h⟩ := bindE h
    obtain ⟨r9, M10, e11, h⟩ := bd2E h
    refine X.callV (b := r5) (v := none) (As := [.ref r7]) (st := []) (M' := M10) (pc' := 32) dX10_undo_29 rfl cl_X10_364 mi_X1_takeBack me_X1_takeBack mr_X1_takeBack e12 ⟨⟨Nat.le_of_ble_eq_true rfl, Nat.le_of_ble_eq_true rfl⟩, Nat.le_of_ble_eq_true rfl, Nat.le_of_ble_eq_true rfl⟩ rfl (Nat.le_of_ble_eq_true rfl) (ok_X1_takeBack (G := zs G) (hz := hz) e11) ?_
    show X G t_X10_undo [] 32 [some (.ref a0)] [] M10 0 0 _
    refine X.aload_n (x := a0) (pc' := 33) dX10_undo_32 rfl rfl rfl ?_
    obtain ⟨⟨⟩, e16, h⟩ := bindE h
    obtain ⟨r13, M14, e15, h⟩ := bd2E h
    refine X.callV (b := a0) (v := none) (As := []) (st := []) (M' := M14) (pc' := 36) dX10_undo_33 rfl cl_X10_367 mi_X10_forgetResults me_X10_forgetResults mr_X10_forgetResults e16 ⟨⟨Nat.le_of_ble_eq_true rfl, Nat.le_of_ble_eq_true rfl⟩, Nat.le_of_ble_eq_true rfl, Nat.le_of_ble_eq_true rfl⟩ rfl (Nat.le_of_ble_eq_true rfl) (ok_X10_forgetResults (G := zs G) e15) ?_
    show X G t_X10_undo [] 36 [some (.ref a0)] [] M14 0 0 _
    refine X.aload_n (x := a0) (pc' := 37) dX10_undo_36 rfl rfl rfl ?_
    obtain ⟨r17, e18, h⟩ := bindE h
    refine X.getf (pc' := 40) dX10_undo_37 rfl fq_X10_23 (gP_spec e18) ?_
    obtain ⟨v19, e20, h⟩ := bindE h
    refine X.getf (pc' := 43) dX10_undo_40 rfl fq_X10_359 (gI_spec e20) ?_
    cases h
    exact X.iret (ty := .int) dX10_undo_43 rfl rfl (Nat.le_of_ble_eq_true rfl) (Nat.le_of_ble_eq_true rfl) rfl
  · rw [if_pos hc] at h
    cases h
    exact X.thrW (tx := "there is no change to undo") dX10_undo_10 dX10_undo_13 dX10_undo_14 dX10_undo_17 dX10_undo_20 rfl th_X10_86_90 (by decide +kernel) (Nat.le_of_ble_eq_true rfl) (Nat.le_of_ble_eq_true rfl) (Nat.le_of_ble_eq_true rfl) (Nat.le_of_ble_eq_true rfl) rfl
