def f_X8_init (fu : Nat) (a0 : Nat) (M : List Ob) : Option (Unit × List Ob) :=
  bd2 (newO M (4, [.int 0, .int 0, .int 0, .int 0, .int 0, .null, .null, .null, .null])) fun r1 M2 =>
  bd2 (f_X4_init fu r1 M2) fun _ M5 =>
  (pF M5 a0 8 0 (.ref r1)).bind fun M8 =>
  bd2 (newO M8 (5, [.null, .int 0])) fun r10 M11 =>
  bd2 (f_X5_init fu r10 M11) fun _ M14 =>
  (pF M14 a0 8 1 (.ref r10)).bind fun M17 =>
  bd2 (newO M17 (14, List.replicate 6 .null)) fun r19 M20 =>
  (pF M20 a0 8 2 (.ref r19)).bind fun M22 =>
  (gP M22 a0 8 2).bind fun r24 =>
  bd2 (newO M22 (5, [.null, .int 0])) fun r26 M27 =>
  bd2 (f_X5_init fu r26 M27) fun _ M30 =>
  (hasO M30 r26 5).bind fun _ =>
  (aSet M30 r24 14 0 (.ref r26)).bind fun M35 =>
  (gP M35 a0 8 2).bind fun r36 =>
  bd2 (newO M35 (5, [.null, .int 0])) fun r38 M39 =>
  bd2 (f_X5_init fu r38 M39) fun _ M42 =>
  (hasO M42 r38 5).bind fun _ =>
  (aSet M42 r36 14 1 (.ref r38)).bind fun M47 =>
  (gP M47 a0 8 2).bind fun r48 =>
  bd2 (newO M47 (5, [.null, .int 0])) fun r50 M51 =>
  bd2 (f_X5_init fu r50 M51) fun _ M54 =>
  (hasO M54 r50 5).bind fun _ =>
  (aSet M54 r48 14 2 (.ref r50)).bind fun M59 =>
  (gP M59 a0 8 2).bind fun r60 =>
  bd2 (newO M59 (5, [.null, .int 0])) fun r62 M63 =>
  bd2 (f_X5_init fu r62 M63) fun _ M66 =>
  (hasO M66 r62 5).bind fun _ =>
  (aSet M66 r60 14 3 (.ref r62)).bind fun M71 =>
  (gP M71 a0 8 2).bind fun r72 =>
  bd2 (newO M71 (5, [.null, .int 0])) fun r74 M75 =>
  bd2 (f_X5_init fu r74 M75) fun _ M78 =>
  (hasO M78 r74 5).bind fun _ =>
  (aSet M78 r72 14 4 (.ref r74)).bind fun M83 =>
  (gP M83 a0 8 2).bind fun r84 =>
  bd2 (newO M83 (5, [.null, .int 0])) fun r86 M87 =>
  bd2 (f_X5_init fu r86 M87) fun _ M90 =>
  (hasO M90 r86 5).bind fun _ =>
  (aSet M90 r84 14 5 (.ref r86)).bind fun M95 =>
  bd2 (newO M95 (2, [.int 0, .null, .null, .null])) fun r96 M97 =>
  bd2 (f_X2_init fu r96 M97) fun _ M100 =>
  (pF M100 a0 8 4 (.ref r96)).bind fun M103 =>
  some ((), M103)
set_option maxHeartbeats 4000000 in
theorem ok_X8_init {G : GT} (hR : Row G) {fu : Nat} {a0 : Nat} {M : List Ob} {out : Unit × List Ob} (h : f_X8_init fu a0 M = some out) : Sp G t_X8_init [.ref a0] M (oU out) := by
  refine Sp.of rfl (by decide +kernel) (cat_all rfl) (Nat.le_of_ble_eq_true rfl) ?_
  show X G t_X8_init [] 0 [some (.ref a0), none] [] M 0 0 (oU out)
  unfold f_X8_init at h
  refine X.aload_n (x := a0) (pc' := 1) dX8_init_0 rfl rfl rfl ?_
  refine X.objI (pc' := 4) dX8_init_1 rfl (TBg_of 89 (by decide +kernel) rfl) (Nat.le_of_ble_eq_true rfl) (Nat.le_of_ble_eq_true rfl) ?_
  refine X.aload_n (x := a0) (pc' := 5) dX8_init_4 rfl rfl rfl ?_
  obtain ⟨r1, M2, e3, h⟩ := bd2E h
  refine X.newo (ci := 4) (r := (RX4, TX4, 9)) (fs := [.int 0, .int 0, .int 0, .int 0, .int 0, .null, .null, .null, .null]) (pc' := 8) dX8_init_5 rfl rfl (TBg_of 90 (by decide +kernel) rfl) (TBg_of 91 (by decide +kernel) rfl) (TBg_of 51 (by decide +kernel) rfl) tyX4 tyX4_ok (df_4 _) hR (Nat.le_of_ble_eq_true rfl) (Nat.le_of_ble_eq_true rfl) e3 ?_
  show X G t_X8_init [] 8 [some (.ref a0), none] [.ref r1, .ref a0] M2 1 9 _
  refine X.dup (pc' := 9) dX8_init_8 rfl rfl ?_
  obtain ⟨r4, M5, e6, h⟩ := bd2E h
  refine X.callIN (b := r1) (As := []) (st := [.ref r1, .ref a0]) (M' := M5) (pc' := 12) dX8_init_9 rfl cl_X8_11 rfl rfl mi_X4_init ⟨⟨Nat.le_of_ble_eq_true rfl, Nat.le_of_ble_eq_true rfl⟩, Nat.le_of_ble_eq_true rfl, Nat.le_of_ble_eq_true rfl⟩ rfl (Nat.le_of_ble_eq_true rfl) (ok_X4_init (G := zs G) (hR := hR) e6) ?_
  show X G t_X8_init [] 12 [some (.ref a0), none] [.ref r1, .ref a0] M5 5 73 _
  obtain ⟨M8, e9, h⟩ := bindE h
  refine X.putF (pc' := 15) dX8_init_12 rfl fq_X8_12 rfl (fun r hr => by cases hr; rfl) rfl rfl e9 ?_
  refine X.aload_n (x := a0) (pc' := 16) dX8_init_15 rfl rfl rfl ?_
  obtain ⟨r10, M11, e12, h⟩ := bd2E h
  refine X.newo (ci := 5) (r := (RX5, TX5, 2)) (fs := [.null, .int 0]) (pc' := 19) dX8_init_16 rfl rfl (TBg_of 160 (by decide +kernel) rfl) (TBg_of 161 (by decide +kernel) rfl) (TBg_of 52 (by decide +kernel) rfl) tyX5 tyX5_ok (df_5 _) hR (Nat.le_of_ble_eq_true rfl) (Nat.le_of_ble_eq_true rfl) e12 ?_
  show X G t_X8_init [] 19 [some (.ref a0), none] [.ref r10, .ref a0] M11 6 75 _
  refine X.dup (pc' := 20) dX8_init_19 rfl rfl ?_
  obtain ⟨r13, M14, e15, h⟩ := bd2E h
  refine X.callIN (b := r10) (As := []) (st := [.ref r10, .ref a0]) (M' := M14) (pc' := 23) dX8_init_20 rfl cl_X8_20 rfl rfl mi_X5_init ⟨⟨Nat.le_of_ble_eq_true rfl, Nat.le_of_ble_eq_true rfl⟩, Nat.le_of_ble_eq_true rfl, Nat.le_of_ble_eq_true rfl⟩ rfl (Nat.le_of_ble_eq_true rfl) (ok_X5_init (G := zs G) (hR := hR) e15) ?_
  show X G t_X8_init [] 23 [some (.ref a0), none] [.ref r10, .ref a0] M14 7 82 _
  obtain ⟨M17, e18, h⟩ := bindE h
  refine X.putF (pc' := 26) dX8_init_23 rfl fq_X8_21 rfl (fun r hr => by cases hr; rfl) rfl rfl e18 ?_
  refine X.aload_n (x := a0) (pc' := 27) dX8_init_26 rfl rfl rfl ?_
  refine X.bipush (v := 6) (pc' := 29) dX8_init_27 rfl (by decide) ?_
  obtain ⟨r19, M20, e21, h⟩ := bd2E h
  refine X.newq (kd := 14) (N := 6) (nm := RX5) (pc' := 32) dX8_init_29 rfl (Or.inl ⟨rfl, rfl⟩) (TBg_of 160 (by decide +kernel) rfl) (by decide) (by decide) (Nat.le_of_ble_eq_true rfl) hR (Nat.le_of_ble_eq_true rfl) (Nat.le_of_ble_eq_true rfl) e21 ?_
  show X G t_X8_init [] 32 [some (.ref a0), none] [.ref r19, .ref a0] M20 8 88 _
  obtain ⟨M22, e23, h⟩ := bindE h
  refine X.putF (pc' := 35) dX8_init_32 rfl fq_X8_25 rfl (fun r hr => by cases hr; rfl) rfl rfl e23 ?_
  refine X.iconst (v := 0) (pc' := 36) dX8_init_35 rfl (by decide) ?_
  refine X.istore_n (L' := [some (.ref a0), some (.int 0)]) (pc' := 37) dX8_init_36 rfl rfl (Nat.le_of_ble_eq_true rfl) rfl ?_
  refine X.iload_n (x := 0) (pc' := 38) dX8_init_37 rfl rfl rfl ?_
  refine X.bipush (v := 6) (pc' := 40) dX8_init_38 rfl (by decide) ?_
  refine X.icmp_ge (tgt := 62) (pc' := 43) dX8_init_40 (by decide) rfl (fun hc => absurd hc (by decide)) (fun hc => ?_)
  refine X.aload_n (x := a0) (pc' := 44) dX8_init_43 rfl rfl rfl ?_
  obtain ⟨r24, e25, h⟩ := bindE h
  refine X.getf (pc' := 47) dX8_init_44 rfl fq_X8_25 (gP_spec e25) ?_
  refine X.iload_n (x := 0) (pc' := 48) dX8_init_47 rfl rfl rfl ?_
  obtain ⟨r26, M27, e28, h⟩ := bd2E h
  refine X.newo (ci := 5) (r := (RX5, TX5, 2)) (fs := [.null, .int 0]) (pc' := 51) dX8_init_48 rfl rfl (TBg_of 160 (by decide +kernel) rfl) (TBg_of 161 (by decide +kernel) rfl) (TBg_of 52 (by decide +kernel) rfl) tyX5 tyX5_ok (df_5 _) hR (Nat.le_of_ble_eq_true rfl) (Nat.le_of_ble_eq_true rfl) e28 ?_
  show X G t_X8_init [] 51 [some (.ref a0), some (.int 0)] [.ref r26, .int 0, .ref r24] M27 9 90 _
  refine X.dup (pc' := 52) dX8_init_51 rfl rfl ?_
  obtain ⟨r29, M30, e31, h⟩ := bd2E h
  refine X.callIN (b := r26) (As := []) (st := [.ref r26, .int 0, .ref r24]) (M' := M30) (pc' := 55) dX8_init_52 rfl cl_X8_20 rfl rfl mi_X5_init ⟨⟨Nat.le_of_ble_eq_true rfl, Nat.le_of_ble_eq_true rfl⟩, Nat.le_of_ble_eq_true rfl, Nat.le_of_ble_eq_true rfl⟩ rfl (Nat.le_of_ble_eq_true rfl) (ok_X5_init (G := zs G) (hR := hR) e31) ?_
  show X G t_X8_init [] 55 [some (.ref a0), some (.int 0)] [.ref r26, .int 0, .ref r24] M30 10 97 _
  obtain ⟨⟨⟩, e33, h⟩ := bindE h
  obtain ⟨M35, e34, h⟩ := bindE h
  refine X.aast (ci := 5) (r := (RX5, TX5, 2)) (pc' := 56) dX8_init_55 rfl (by decide) rfl rfl e33 e34 ?_
  refine X.iinc (v := 1) (L' := [some (.ref a0), some (.int 1)]) (pc' := 59) dX8_init_56 rfl rfl (by decide) (Nat.le_of_ble_eq_true rfl) rfl ?_
  refine X.goto (pc' := 37) dX8_init_59 (by decide) ?_
  refine X.iload_n (x := 1) (pc' := 38) dX8_init_37 rfl rfl rfl ?_
  refine X.bipush (v := 6) (pc' := 40) dX8_init_38 rfl (by decide) ?_
  refine X.icmp_ge (tgt := 62) (pc' := 43) dX8_init_40 (by decide) rfl (fun hc => absurd hc (by decide)) (fun hc => ?_)
  refine X.aload_n (x := a0) (pc' := 44) dX8_init_43 rfl rfl rfl ?_
  obtain ⟨r36, e37, h⟩ := bindE h
  refine X.getf (pc' := 47) dX8_init_44 rfl fq_X8_25 (gP_spec e37) ?_
  refine X.iload_n (x := 1) (pc' := 48) dX8_init_47 rfl rfl rfl ?_
  obtain ⟨r38, M39, e40, h⟩ := bd2E h
  refine X.newo (ci := 5) (r := (RX5, TX5, 2)) (fs := [.null, .int 0]) (pc' := 51) dX8_init_48 rfl rfl (TBg_of 160 (by decide +kernel) rfl) (TBg_of 161 (by decide +kernel) rfl) (TBg_of 52 (by decide +kernel) rfl) tyX5 tyX5_ok (df_5 _) hR (Nat.le_of_ble_eq_true rfl) (Nat.le_of_ble_eq_true rfl) e40 ?_
  show X G t_X8_init [] 51 [some (.ref a0), some (.int 1)] [.ref r38, .int 1, .ref r36] M39 11 99 _
  refine X.dup (pc' := 52) dX8_init_51 rfl rfl ?_
  obtain ⟨r41, M42, e43, h⟩ := bd2E h
  refine X.callIN (b := r38) (As := []) (st := [.ref r38, .int 1, .ref r36]) (M' := M42) (pc' := 55) dX8_init_52 rfl cl_X8_20 rfl rfl mi_X5_init ⟨⟨Nat.le_of_ble_eq_true rfl, Nat.le_of_ble_eq_true rfl⟩, Nat.le_of_ble_eq_true rfl, Nat.le_of_ble_eq_true rfl⟩ rfl (Nat.le_of_ble_eq_true rfl) (ok_X5_init (G := zs G) (hR := hR) e43) ?_
  show X G t_X8_init [] 55 [some (.ref a0), some (.int 1)] [.ref r38, .int 1, .ref r36] M42 12 106 _
  obtain ⟨⟨⟩, e45, h⟩ := bindE h
  obtain ⟨M47, e46, h⟩ := bindE h
  refine X.aast (ci := 5) (r := (RX5, TX5, 2)) (pc' := 56) dX8_init_55 rfl (by decide) rfl rfl e45 e46 ?_
  refine X.iinc (v := 2) (L' := [some (.ref a0), some (.int 2)]) (pc' := 59) dX8_init_56 rfl rfl (by decide) (Nat.le_of_ble_eq_true rfl) rfl ?_
  refine X.goto (pc' := 37) dX8_init_59 (by decide) ?_
  refine X.iload_n (x := 2) (pc' := 38) dX8_init_37 rfl rfl rfl ?_
  refine X.bipush (v := 6) (pc' := 40) dX8_init_38 rfl (by decide) ?_
  refine X.icmp_ge (tgt := 62) (pc' := 43) dX8_init_40 (by decide) rfl (fun hc => absurd hc (by decide)) (fun hc => ?_)
  refine X.aload_n (x := a0) (pc' := 44) dX8_init_43 rfl rfl rfl ?_
  obtain ⟨r48, e49, h⟩ := bindE h
  refine X.getf (pc' := 47) dX8_init_44 rfl fq_X8_25 (gP_spec e49) ?_
  refine X.iload_n (x := 2) (pc' := 48) dX8_init_47 rfl rfl rfl ?_
  obtain ⟨r50, M51, e52, h⟩ := bd2E h
  refine X.newo (ci := 5) (r := (RX5, TX5, 2)) (fs := [.null, .int 0]) (pc' := 51) dX8_init_48 rfl rfl (TBg_of 160 (by decide +kernel) rfl) (TBg_of 161 (by decide +kernel) rfl) (TBg_of 52 (by decide +kernel) rfl) tyX5 tyX5_ok (df_5 _) hR (Nat.le_of_ble_eq_true rfl) (Nat.le_of_ble_eq_true rfl) e52 ?_
  show X G t_X8_init [] 51 [some (.ref a0), some (.int 2)] [.ref r50, .int 2, .ref r48] M51 13 108 _
  refine X.dup (pc' := 52) dX8_init_51 rfl rfl ?_
  obtain ⟨r53, M54, e55, h⟩ := bd2E h
  refine X.callIN (b := r50) (As := []) (st := [.ref r50, .int 2, .ref r48]) (M' := M54) (pc' := 55) dX8_init_52 rfl cl_X8_20 rfl rfl mi_X5_init ⟨⟨Nat.le_of_ble_eq_true rfl, Nat.le_of_ble_eq_true rfl⟩, Nat.le_of_ble_eq_true rfl, Nat.le_of_ble_eq_true rfl⟩ rfl (Nat.le_of_ble_eq_true rfl) (ok_X5_init (G := zs G) (hR := hR) e55) ?_
  show X G t_X8_init [] 55 [some (.ref a0), some (.int 2)] [.ref r50, .int 2, .ref r48] M54 14 115 _
  obtain ⟨⟨⟩, e57, h⟩ := bindE h
  obtain ⟨M59, e58, h⟩ := bindE h
  refine X.aast (ci := 5) (r := (RX5, TX5, 2)) (pc' := 56) dX8_init_55 rfl (by decide) rfl rfl e57 e58 ?_
  refine X.iinc (v := 3) (L' := [some (.ref a0), some (.int 3)]) (pc' := 59) dX8_init_56 rfl rfl (by decide) (Nat.le_of_ble_eq_true rfl) rfl ?_
  refine X.goto (pc' := 37) dX8_init_59 (by decide) ?_
  refine X.iload_n (x := 3) (pc' := 38) dX8_init_37 rfl rfl rfl ?_
  refine X.bipush (v := 6) (pc' := 40) dX8_init_38 rfl (by decide) ?_
  refine X.icmp_ge (tgt := 62) (pc' := 43) dX8_init_40 (by decide) rfl (fun hc => absurd hc (by decide)) (fun hc => ?_)
  refine X.aload_n (x := a0) (pc' := 44) dX8_init_43 rfl rfl rfl ?_
  obtain ⟨r60, e61, h⟩ := bindE h
  refine X.getf (pc' := 47) dX8_init_44 rfl fq_X8_25 (gP_spec e61) ?_
  refine X.iload_n (x := 3) (pc' := 48) dX8_init_47 rfl rfl rfl ?_
  obtain ⟨r62, M63, e64, h⟩ := bd2E h
  refine X.newo (ci := 5) (r := (RX5, TX5, 2)) (fs := [.null, .int 0]) (pc' := 51) dX8_init_48 rfl rfl (TBg_of 160 (by decide +kernel) rfl) (TBg_of 161 (by decide +kernel) rfl) (TBg_of 52 (by decide +kernel) rfl) tyX5 tyX5_ok (df_5 _) hR (Nat.le_of_ble_eq_true rfl) (Nat.le_of_ble_eq_true rfl) e64 ?_
  show X G t_X8_init [] 51 [some (.ref a0), some (.int 3)] [.ref r62, .int 3, .ref r60] M63 15 117 _
  refine X.dup (pc' := 52) dX8_init_51 rfl rfl ?_
  obtain ⟨r65, M66, e67, h⟩ := bd2E h
  refine X.callIN (b := r62) (As := []) (st := [.ref r62, .int 3, .ref r60]) (M' := M66) (pc' := 55) dX8_init_52 rfl cl_X8_20 rfl rfl mi_X5_init ⟨⟨Nat.le_of_ble_eq_true rfl, Nat.le_of_ble_eq_true rfl⟩, Nat.le_of_ble_eq_true rfl, Nat.le_of_ble_eq_true rfl⟩ rfl (Nat.le_of_ble_eq_true rfl) (ok_X5_init (G := zs G) (hR := hR) e67) ?_
  show X G t_X8_init [] 55 [some (.ref a0), some (.int 3)] [.ref r62, .int 3, .ref r60] M66 16 124 _
  obtain ⟨⟨⟩, e69, h⟩ := bindE h
  obtain ⟨M71, e70, h⟩ := bindE h
  refine X.aast (ci := 5) (r := (RX5, TX5, 2)) (pc' := 56) dX8_init_55 rfl (by decide) rfl rfl e69 e70 ?_
  refine X.iinc (v := 4) (L' := [some (.ref a0), some (.int 4)]) (pc' := 59) dX8_init_56 rfl rfl (by decide) (Nat.le_of_ble_eq_true rfl) rfl ?_
  refine X.goto (pc' := 37) dX8_init_59 (by decide) ?_
  refine X.iload_n (x := 4) (pc' := 38) dX8_init_37 rfl rfl rfl ?_
  refine X.bipush (v := 6) (pc' := 40) dX8_init_38 rfl (by decide) ?_
  refine X.icmp_ge (tgt := 62) (pc' := 43) dX8_init_40 (by decide) rfl (fun hc => absurd hc (by decide)) (fun hc => ?_)
  refine X.aload_n (x := a0) (pc' := 44) dX8_init_43 rfl rfl rfl ?_
  obtain ⟨r72, e73, h⟩ := bindE h
  refine X.getf (pc' := 47) dX8_init_44 rfl fq_X8_25 (gP_spec e73) ?_
  refine X.iload_n (x := 4) (pc' := 48) dX8_init_47 rfl rfl rfl ?_
  obtain ⟨r74, M75, e76, h⟩ := bd2E h
  refine X.newo (ci := 5) (r := (RX5, TX5, 2)) (fs := [.null, .int 0]) (pc' := 51) dX8_init_48 rfl rfl (TBg_of 160 (by decide +kernel) rfl) (TBg_of 161 (by decide +kernel) rfl) (TBg_of 52 (by decide +kernel) rfl) tyX5 tyX5_ok (df_5 _) hR (Nat.le_of_ble_eq_true rfl) (Nat.le_of_ble_eq_true rfl) e76 ?_
  show X G t_X8_init [] 51 [some (.ref a0), some (.int 4)] [.ref r74, .int 4, .ref r72] M75 17 126 _
  refine X.dup (pc' := 52) dX8_init_51 rfl rfl ?_
  obtain ⟨r77, M78, e79, h⟩ := bd2E h
  refine X.callIN (b := r74) (As := []) (st := [.ref r74, .int 4, .ref r72]) (M' := M78) (pc' := 55) dX8_init_52 rfl cl_X8_20 rfl rfl mi_X5_init ⟨⟨Nat.le_of_ble_eq_true rfl, Nat.le_of_ble_eq_true rfl⟩, Nat.le_of_ble_eq_true rfl, Nat.le_of_ble_eq_true rfl⟩ rfl (Nat.le_of_ble_eq_true rfl) (ok_X5_init (G := zs G) (hR := hR) e79) ?_
  show X G t_X8_init [] 55 [some (.ref a0), some (.int 4)] [.ref r74, .int 4, .ref r72] M78 18 133 _
  obtain ⟨⟨⟩, e81, h⟩ := bindE h
  obtain ⟨M83, e82, h⟩ := bindE h
  refine X.aast (ci := 5) (r := (RX5, TX5, 2)) (pc' := 56) dX8_init_55 rfl (by decide) rfl rfl e81 e82 ?_
  refine X.iinc (v := 5) (L' := [some (.ref a0), some (.int 5)]) (pc' := 59) dX8_init_56 rfl rfl (by decide) (Nat.le_of_ble_eq_true rfl) rfl ?_
  refine X.goto (pc' := 37) dX8_init_59 (by decide) ?_
  refine X.iload_n (x := 5) (pc' := 38) dX8_init_37 rfl rfl rfl ?_
  refine X.bipush (v := 6) (pc' := 40) dX8_init_38 rfl (by decide) ?_
  refine X.icmp_ge (tgt := 62) (pc' := 43) dX8_init_40 (by decide) rfl (fun hc => absurd hc (by decide)) (fun hc => ?_)
  refine X.aload_n (x := a0) (pc' := 44) dX8_init_43 rfl rfl rfl ?_
  obtain ⟨r84, e85, h⟩ := bindE h
  refine X.getf (pc' := 47) dX8_init_44 rfl fq_X8_25 (gP_spec e85) ?_
  refine X.iload_n (x := 5) (pc' := 48) dX8_init_47 rfl rfl rfl ?_
  obtain ⟨r86, M87, e88, h⟩ := bd2E h
  refine X.newo (ci := 5) (r := (RX5, TX5, 2)) (fs := [.null, .int 0]) (pc' := 51) dX8_init_48 rfl rfl (TBg_of 160 (by decide +kernel) rfl) (TBg_of 161 (by decide +kernel) rfl) (TBg_of 52 (by decide +kernel) rfl) tyX5 tyX5_ok (df_5 _) hR (Nat.le_of_ble_eq_true rfl) (Nat.le_of_ble_eq_true rfl) e88 ?_
  show X G t_X8_init [] 51 [some (.ref a0), some (.int 5)] [.ref r86, .int 5, .ref r84] M87 19 135 _
  refine X.dup (pc' := 52) dX8_init_51 rfl rfl ?_
  obtain ⟨r89, M90, e91, h⟩ := bd2E h
  refine X.callIN (b := r86) (As := []) (st := [.ref r86, .int 5, .ref r84]) (M' := M90) (pc' := 55) dX8_init_52 rfl cl_X8_20 rfl rfl mi_X5_init ⟨⟨Nat.le_of_ble_eq_true rfl, Nat.le_of_ble_eq_true rfl⟩, Nat.le_of_ble_eq_true rfl, Nat.le_of_ble_eq_true rfl⟩ rfl (Nat.le_of_ble_eq_true rfl) (ok_X5_init (G := zs G) (hR := hR) e91) ?_
  show X G t_X8_init [] 55 [some (.ref a0), some (.int 5)] [.ref r86, .int 5, .ref r84] M90 20 142 _
  obtain ⟨⟨⟩, e93, h⟩ := bindE h
  obtain ⟨M95, e94, h⟩ := bindE h
  refine X.aast (ci := 5) (r := (RX5, TX5, 2)) (pc' := 56) dX8_init_55 rfl (by decide) rfl rfl e93 e94 ?_
  refine X.iinc (v := 6) (L' := [some (.ref a0), some (.int 6)]) (pc' := 59) dX8_init_56 rfl rfl (by decide) (Nat.le_of_ble_eq_true rfl) rfl ?_
  refine X.goto (pc' := 37) dX8_init_59 (by decide) ?_
  refine X.iload_n (x := 6) (pc' := 38) dX8_init_37 rfl rfl rfl ?_
  refine X.bipush (v := 6) (pc' := 40) dX8_init_38 rfl (by decide) ?_
  refine X.icmp_ge (tgt := 62) (pc' := 43) dX8_init_40 (by decide) rfl (fun hc => ?_) (fun hc => absurd (by decide) hc)
  refine X.aload_n (x := a0) (pc' := 63) dX8_init_62 rfl rfl rfl ?_
  obtain ⟨r96, M97, e98, h⟩ := bd2E h
  refine X.newo (ci := 2) (r := (RX2, TX2, 4)) (fs := [.int 0, .null, .null, .null]) (pc' := 66) dX8_init_63 rfl rfl (TBg_of 181 (by decide +kernel) rfl) (TBg_of 182 (by decide +kernel) rfl) (TBg_of 53 (by decide +kernel) rfl) tyX2 tyX2_ok (df_2 _) hR (Nat.le_of_ble_eq_true rfl) (Nat.le_of_ble_eq_true rfl) e98 ?_
  show X G t_X8_init [] 66 [some (.ref a0), some (.int 6)] [.ref r96, .ref a0] M97 21 146 _
  refine X.dup (pc' := 67) dX8_init_66 rfl rfl ?_
  obtain ⟨r99, M100, e101, h⟩ := bd2E h
  refine X.callIN (b := r96) (As := []) (st := [.ref r96, .ref a0]) (M' := M100) (pc' := 70) dX8_init_67 rfl cl_X8_31 rfl rfl mi_X2_init ⟨⟨Nat.le_of_ble_eq_true rfl, Nat.le_of_ble_eq_true rfl⟩, Nat.le_of_ble_eq_true rfl, Nat.le_of_ble_eq_true rfl⟩ rfl (Nat.le_of_ble_eq_true rfl) (ok_X2_init (G := zs G) (hR := hR) e101) ?_
  show X G t_X8_init [] 70 [some (.ref a0), some (.int 6)] [.ref r96, .ref a0] M100 24 209 _
  obtain ⟨M103, e104, h⟩ := bindE h
  refine X.putF (pc' := 73) dX8_init_70 rfl fq_X8_32 rfl (fun r hr => by cases hr; rfl) rfl rfl e104 ?_
  cases h
  exact X.vret dX8_init_73 rfl (Nat.le_of_ble_eq_true rfl) (Nat.le_of_ble_eq_true rfl) rfl
def f_X1_init (fu : Nat) (a0 : Nat) (M : List Ob) : Option (Unit × List Ob) :=
  bd2 (newO M (15, List.replicate 8 .null)) fun r1 M2 =>
  (pF M2 a0 1 0 (.ref r1)).bind fun M4 =>
  (pF M4 a0 1 1 (.int 0)).bind fun M6 =>
  (pF M6 a0 1 2 (.int 0)).bind fun M8 =>
  (gP M8 a0 1 0).bind fun r10 =>
  bd2 (newO M8 (8, [.null, .null, .null, .int 0, .null])) fun r12 M13 =>
  bd2 (f_X8_init fu r12 M13) fun _ M16 =>
  (hasO M16 r12 8).bind fun _ =>
  (aSet M16 r10 15 0 (.ref r12)).bind fun M21 =>
  (gP M21 a0 1 0).bind fun r22 =>
  bd2 (newO M21 (8, [.null, .null, .null, .int 0, .null])) fun r24 M25 =>
  bd2 (f_X8_init fu r24 M25) fun _ M28 =>
  (hasO M28 r24 8).bind fun _ =>
  (aSet M28 r22 15 1 (.ref r24)).bind fun M33 =>
  (gP M33 a0 1 0).bind fun r34 =>
  bd2 (newO M33 (8, [.null, .null, .null, .int 0, .null])) fun r36 M37 =>
  bd2 (f_X8_init fu r36 M37) fun _ M40 =>
  (hasO M40 r36 8).bind fun _ =>
  (aSet M40 r34 15 2 (.ref r36)).bind fun M45 =>
  (gP M45 a0 1 0).bind fun r46 =>
  bd2 (newO M45 (8, [.null, .null, .null, .int 0, .null])) fun r48 M49 =>
  bd2 (f_X8_init fu r48 M49) fun _ M52 =>
  (hasO M52 r48 8).bind fun _ =>
  (aSet M52 r46 15 3 (.ref r48)).bind fun M57 =>
  (gP M57 a0 1 0).bind fun r58 =>
  bd2 (newO M57 (8, [.null, .null, .null, .int 0, .null])) fun r60 M61 =>
  bd2 (f_X8_init fu r60 M61) fun _ M64 =>
  (hasO M64 r60 8).bind fun _ =>
  (aSet M64 r58 15 4 (.ref r60)).bind fun M69 =>
  (gP M69 a0 1 0).bind fun r70 =>
  bd2 (newO M69 (8, [.null, .null, .null, .int 0, .null])) fun r72 M73 =>
  bd2 (f_X8_init fu r72 M73) fun _ M76 =>
  (hasO M76 r72 8).bind fun _ =>
  (aSet M76 r70 15 5 (.ref r72)).bind fun M81 =>
  (gP M81 a0 1 0).bind fun r82 =>
  bd2 (newO M81 (8, [.null, .null, .null, .int 0, .null])) fun r84 M85 =>
  bd2 (f_X8_init fu r84 M85) fun _ M88 =>
  (hasO M88 r84 8).bind fun _ =>
  (aSet M88 r82 15 6 (.ref r84)).bind fun M93 =>
  (gP M93 a0 1 0).bind fun r94 =>
  bd2 (newO M93 (8, [.null, .null, .null, .int 0, .null])) fun r96 M97 =>
  bd2 (f_X8_init fu r96 M97) fun _ M100 =>
  (hasO M100 r96 8).bind fun _ =>
  (aSet M100 r94 15 7 (.ref r96)).bind fun M105 =>
  some ((), M105)
set_option maxHeartbeats 4000000 in
theorem ok_X1_init {G : GT} (hR : Row G) {fu : Nat} {a0 : Nat} {M : List Ob} {out : Unit × List Ob} (h : f_X1_init fu a0 M = some out) : Sp G t_X1_init [.ref a0] M (oU out) := by
  refine Sp.of rfl (by decide +kernel) (cat_all rfl) (Nat.le_of_ble_eq_true rfl) ?_
  show X G t_X1_init [] 0 [some (.ref a0), none] [] M 0 0 (oU out)
  unfold f_X1_init at h
  refine X.aload_n (x := a0) (pc' := 1) dX1_init_0 rfl rfl rfl ?_
  refine X.objI (pc' := 4) dX1_init_1 rfl (TBg_of 253 (by decide +kernel) rfl) (Nat.le_of_ble_eq_true rfl) (Nat.le_of_ble_eq_true rfl) ?_
  refine X.aload_n (x := a0) (pc' := 5) dX1_init_4 rfl rfl rfl ?_
  refine X.bipush (v := 8) (pc' := 7) dX1_init_5 rfl (by decide) ?_
  obtain ⟨r1, M2, e3, h⟩ := bd2E h
  refine X.newq (kd := 15) (N := 8) (nm := RX8) (pc' := 10) dX1_init_7 rfl (Or.inr ⟨rfl, rfl⟩) (TBg_of 254 (by decide +kernel) rfl) (by decide) (by decide) (Nat.le_of_ble_eq_true rfl) hR (Nat.le_of_ble_eq_true rfl) (Nat.le_of_ble_eq_true rfl) e3 ?_
  show X G t_X1_init [] 10 [some (.ref a0), none] [.ref r1, .ref a0] M2 1 8 _
  obtain ⟨M4, e5, h⟩ := bindE h
  refine X.putF (pc' := 13) dX1_init_10 rfl fq_X1_11 rfl (fun r hr => by cases hr; rfl) rfl rfl e5 ?_
  refine X.aload_n (x := a0) (pc' := 14) dX1_init_13 rfl rfl rfl ?_
  refine X.iconst (v := 0) (pc' := 15) dX1_init_14 rfl (by decide) ?_
  obtain ⟨M6, e7, h⟩ := bindE h
  refine X.putf (pc' := 18) dX1_init_15 rfl fq_X1_17 rfl rfl e7 ?_
  refine X.aload_n (x := a0) (pc' := 19) dX1_init_18 rfl rfl rfl ?_
  refine X.iconst (v := 0) (pc' := 20) dX1_init_19 rfl (by decide) ?_
  obtain ⟨M8, e9, h⟩ := bindE h
  refine X.putf (pc' := 23) dX1_init_20 rfl fq_X1_21 rfl rfl e9 ?_
  refine X.iconst (v := 0) (pc' := 24) dX1_init_23 rfl (by decide) ?_
  refine X.istore_n (L' := [some (.ref a0), some (.int 0)]) (pc' := 25) dX1_init_24 rfl rfl (Nat.le_of_ble_eq_true rfl) rfl ?_
  refine X.iload_n (x := 0) (pc' := 26) dX1_init_25 rfl rfl rfl ?_
  refine X.bipush (v := 8) (pc' := 28) dX1_init_26 rfl (by decide) ?_
  refine X.icmp_ge (tgt := 50) (pc' := 31) dX1_init_28 (by decide) rfl (fun hc => absurd hc (by decide)) (fun hc => ?_)
  refine X.aload_n (x := a0) (pc' := 32) dX1_init_31 rfl rfl rfl ?_
  obtain ⟨r10, e11, h⟩ := bindE h
  refine X.getf (pc' := 35) dX1_init_32 rfl fq_X1_11 (gP_spec e11) ?_
  refine X.iload_n (x := 0) (pc' := 36) dX1_init_35 rfl rfl rfl ?_
  obtain ⟨r12, M13, e14, h⟩ := bd2E h
  refine X.newo (ci := 8) (r := (RX8, TX8, 5)) (fs := [.null, .null, .null, .int 0, .null]) (pc' := 39) dX1_init_36 rfl rfl (TBg_of 254 (by decide +kernel) rfl) (TBg_of 85 (by decide +kernel) rfl) (TBg_of 50 (by decide +kernel) rfl) tyX8 tyX8_ok (df_8 _) hR (Nat.le_of_ble_eq_true rfl) (Nat.le_of_ble_eq_true rfl) e14 ?_
  show X G t_X1_init [] 39 [some (.ref a0), some (.int 0)] [.ref r12, .int 0, .ref r10] M13 2 13 _
  refine X.dup (pc' := 40) dX1_init_39 rfl rfl ?_
  obtain ⟨r15, M16, e17, h⟩ := bd2E h
  refine X.callI (b := r12) (As := []) (st := [.ref r12, .int 0, .ref r10]) (M' := M16) (pc' := 43) dX1_init_40 rfl cl_X1_24 rfl rfl mi_X8_init ⟨⟨Nat.le_of_ble_eq_true rfl, Nat.le_of_ble_eq_true rfl⟩, Nat.le_of_ble_eq_true rfl, Nat.le_of_ble_eq_true rfl⟩ rfl (Nat.le_of_ble_eq_true rfl) (ok_X8_init (G := zs G) (hR := hR) e17) ?_
  show X G t_X1_init [] 43 [some (.ref a0), some (.int 0)] [.ref r12, .int 0, .ref r10] M16 26 222 _
  obtain ⟨⟨⟩, e19, h⟩ := bindE h
  obtain ⟨M21, e20, h⟩ := bindE h
  refine X.aast (ci := 8) (r := (RX8, TX8, 5)) (pc' := 44) dX1_init_43 rfl (by decide) rfl rfl e19 e20 ?_
  refine X.iinc (v := 1) (L' := [some (.ref a0), some (.int 1)]) (pc' := 47) dX1_init_44 rfl rfl (by decide) (Nat.le_of_ble_eq_true rfl) rfl ?_
  refine X.goto (pc' := 25) dX1_init_47 (by decide) ?_
  refine X.iload_n (x := 1) (pc' := 26) dX1_init_25 rfl rfl rfl ?_
  refine X.bipush (v := 8) (pc' := 28) dX1_init_26 rfl (by decide) ?_
  refine X.icmp_ge (tgt := 50) (pc' := 31) dX1_init_28 (by decide) rfl (fun hc => absurd hc (by decide)) (fun hc => ?_)
  refine X.aload_n (x := a0) (pc' := 32) dX1_init_31 rfl rfl rfl ?_
  obtain ⟨r22, e23, h⟩ := bindE h
  refine X.getf (pc' := 35) dX1_init_32 rfl fq_X1_11 (gP_spec e23) ?_
  refine X.iload_n (x := 1) (pc' := 36) dX1_init_35 rfl rfl rfl ?_
  obtain ⟨r24, M25, e26, h⟩ := bd2E h
  refine X.newo (ci := 8) (r := (RX8, TX8, 5)) (fs := [.null, .null, .null, .int 0, .null]) (pc' := 39) dX1_init_36 rfl rfl (TBg_of 254 (by decide +kernel) rfl) (TBg_of 85 (by decide +kernel) rfl) (TBg_of 50 (by decide +kernel) rfl) tyX8 tyX8_ok (df_8 _) hR (Nat.le_of_ble_eq_true rfl) (Nat.le_of_ble_eq_true rfl) e26 ?_
  show X G t_X1_init [] 39 [some (.ref a0), some (.int 1)] [.ref r24, .int 1, .ref r22] M25 27 227 _
  refine X.dup (pc' := 40) dX1_init_39 rfl rfl ?_
  obtain ⟨r27, M28, e29, h⟩ := bd2E h
  refine X.callI (b := r24) (As := []) (st := [.ref r24, .int 1, .ref r22]) (M' := M28) (pc' := 43) dX1_init_40 rfl cl_X1_24 rfl rfl mi_X8_init ⟨⟨Nat.le_of_ble_eq_true rfl, Nat.le_of_ble_eq_true rfl⟩, Nat.le_of_ble_eq_true rfl, Nat.le_of_ble_eq_true rfl⟩ rfl (Nat.le_of_ble_eq_true rfl) (ok_X8_init (G := zs G) (hR := hR) e29) ?_
  show X G t_X1_init [] 43 [some (.ref a0), some (.int 1)] [.ref r24, .int 1, .ref r22] M28 51 436 _
  obtain ⟨⟨⟩, e31, h⟩ := bindE h
  obtain ⟨M33, e32, h⟩ := bindE h
  refine X.aast (ci := 8) (r := (RX8, TX8, 5)) (pc' := 44) dX1_init_43 rfl (by decide) rfl rfl e31 e32 ?_
  refine X.iinc (v := 2) (L' := [some (.ref a0), some (.int 2)]) (pc' := 47) dX1_init_44 rfl rfl (by decide) (Nat.le_of_ble_eq_true rfl) rfl ?_
  refine X.goto (pc' := 25) dX1_init_47 (by decide) ?_
  refine X.iload_n (x := 2) (pc' := 26) dX1_init_25 rfl rfl rfl ?_
  refine X.bipush (v := 8) (pc' := 28) dX1_init_26 rfl (by decide) ?_
  refine X.icmp_ge (tgt := 50) (pc' := 31) dX1_init_28 (by decide) rfl (fun hc => absurd hc (by decide)) (fun hc => ?_)
  refine X.aload_n (x := a0) (pc' := 32) dX1_init_31 rfl rfl rfl ?_
  obtain ⟨r34, e35, h⟩ := bindE h
  refine X.getf (pc' := 35) dX1_init_32 rfl fq_X1_11 (gP_spec e35) ?_
  refine X.iload_n (x := 2) (pc' := 36) dX1_init_35 rfl rfl rfl ?_
  obtain ⟨r36, M37, e38, h⟩ := bd2E h
  refine X.newo (ci := 8) (r := (RX8, TX8, 5)) (fs := [.null, .null, .null, .int 0, .null]) (pc' := 39) dX1_init_36 rfl rfl (TBg_of 254 (by decide +kernel) rfl) (TBg_of 85 (by decide +kernel) rfl) (TBg_of 50 (by decide +kernel) rfl) tyX8 tyX8_ok (df_8 _) hR (Nat.le_of_ble_eq_true rfl) (Nat.le_of_ble_eq_true rfl) e38 ?_
  show X G t_X1_init [] 39 [some (.ref a0), some (.int 2)] [.ref r36, .int 2, .ref r34] M37 52 441 _
  refine X.dup (pc' := 40) dX1_init_39 rfl rfl ?_
  obtain ⟨r39, M40, e41, h⟩ := bd2E h
  refine X.callI (b := r36) (As := []) (st := [.ref r36, .int 2, .ref r34]) (M' := M40) (pc' := 43) dX1_init_40 rfl cl_X1_24 rfl rfl mi_X8_init ⟨⟨Nat.le_of_ble_eq_true rfl, Nat.le_of_ble_eq_true rfl⟩, Nat.le_of_ble_eq_true rfl, Nat.le_of_ble_eq_true rfl⟩ rfl (Nat.le_of_ble_eq_true rfl) (ok_X8_init (G := zs G) (hR := hR) e41) ?_
  show X G t_X1_init [] 43 [some (.ref a0), some (.int 2)] [.ref r36, .int 2, .ref r34] M40 76 650 _
  obtain ⟨⟨⟩, e43, h⟩ := bindE h
  obtain ⟨M45, e44, h⟩ := bindE h
  refine X.aast (ci := 8) (r := (RX8, TX8, 5)) (pc' := 44) dX1_init_43 rfl (by decide) rfl rfl e43 e44 ?_
  refine X.iinc (v := 3) (L' := [some (.ref a0), some (.int 3)]) (pc' := 47) dX1_init_44 rfl rfl (by decide) (Nat.le_of_ble_eq_true rfl) rfl ?_
  refine X.goto (pc' := 25) dX1_init_47 (by decide) ?_
  refine X.iload_n (x := 3) (pc' := 26) dX1_init_25 rfl rfl rfl ?_
  refine X.bipush (v := 8) (pc' := 28) dX1_init_26 rfl (by decide) ?_
  refine X.icmp_ge (tgt := 50) (pc' := 31) dX1_init_28 (by decide) rfl (fun hc => absurd hc (by decide)) (fun hc => ?_)
  refine X.aload_n (x := a0) (pc' := 32) dX1_init_31 rfl rfl rfl ?_
  obtain ⟨r46, e47, h⟩ := bindE h
  refine X.getf (pc' := 35) dX1_init_32 rfl fq_X1_11 (gP_spec e47) ?_
  refine X.iload_n (x := 3) (pc' := 36) dX1_init_35 rfl rfl rfl ?_
  obtain ⟨r48, M49, e50, h⟩ := bd2E h
  refine X.newo (ci := 8) (r := (RX8, TX8, 5)) (fs := [.null, .null, .null, .int 0, .null]) (pc' := 39) dX1_init_36 rfl rfl (TBg_of 254 (by decide +kernel) rfl) (TBg_of 85 (by decide +kernel) rfl) (TBg_of 50 (by decide +kernel) rfl) tyX8 tyX8_ok (df_8 _) hR (Nat.le_of_ble_eq_true rfl) (Nat.le_of_ble_eq_true rfl) e50 ?_
  show X G t_X1_init [] 39 [some (.ref a0), some (.int 3)] [.ref r48, .int 3, .ref r46] M49 77 655 _
  refine X.dup (pc' := 40) dX1_init_39 rfl rfl ?_
  obtain ⟨r51, M52, e53, h⟩ := bd2E h
  refine X.callI (b := r48) (As := []) (st := [.ref r48, .int 3, .ref r46]) (M' := M52) (pc' := 43) dX1_init_40 rfl cl_X1_24 rfl rfl mi_X8_init ⟨⟨Nat.le_of_ble_eq_true rfl, Nat.le_of_ble_eq_true rfl⟩, Nat.le_of_ble_eq_true rfl, Nat.le_of_ble_eq_true rfl⟩ rfl (Nat.le_of_ble_eq_true rfl) (ok_X8_init (G := zs G) (hR := hR) e53) ?_
  show X G t_X1_init [] 43 [some (.ref a0), some (.int 3)] [.ref r48, .int 3, .ref r46] M52 101 864 _
  obtain ⟨⟨⟩, e55, h⟩ := bindE h
  obtain ⟨M57, e56, h⟩ := bindE h
  refine X.aast (ci := 8) (r := (RX8, TX8, 5)) (pc' := 44) dX1_init_43 rfl (by decide) rfl rfl e55 e56 ?_
  refine X.iinc (v := 4) (L' := [some (.ref a0), some (.int 4)]) (pc' := 47) dX1_init_44 rfl rfl (by decide) (Nat.le_of_ble_eq_true rfl) rfl ?_
  refine X.goto (pc' := 25) dX1_init_47 (by decide) ?_
  refine X.iload_n (x := 4) (pc' := 26) dX1_init_25 rfl rfl rfl ?_
  refine X.bipush (v := 8) (pc' := 28) dX1_init_26 rfl (by decide) ?_
  refine X.icmp_ge (tgt := 50) (pc' := 31) dX1_init_28 (by decide) rfl (fun hc => absurd hc (by decide)) (fun hc => ?_)
  refine X.aload_n (x := a0) (pc' := 32) dX1_init_31 rfl rfl rfl ?_
  obtain ⟨r58, e59, h⟩ := bindE h
  refine X.getf (pc' := 35) dX1_init_32 rfl fq_X1_11 (gP_spec e59) ?_
  refine X.iload_n (x := 4) (pc' := 36) dX1_init_35 rfl rfl rfl ?_
  obtain ⟨r60, M61, e62, h⟩ := bd2E h
  refine X.newo (ci := 8) (r := (RX8, TX8, 5)) (fs := [.null, .null, .null, .int 0, .null]) (pc' := 39) dX1_init_36 rfl rfl (TBg_of 254 (by decide +kernel) rfl) (TBg_of 85 (by decide +kernel) rfl) (TBg_of 50 (by decide +kernel) rfl) tyX8 tyX8_ok (df_8 _) hR (Nat.le_of_ble_eq_true rfl) (Nat.le_of_ble_eq_true rfl) e62 ?_
  show X G t_X1_init [] 39 [some (.ref a0), some (.int 4)] [.ref r60, .int 4, .ref r58] M61 102 869 _
  refine X.dup (pc' := 40) dX1_init_39 rfl rfl ?_
  obtain ⟨r63, M64, e65, h⟩ := bd2E h
  refine X.callI (b := r60) (As := []) (st := [.ref r60, .int 4, .ref r58]) (M' := M64) (pc' := 43) dX1_init_40 rfl cl_X1_24 rfl rfl mi_X8_init ⟨⟨Nat.le_of_ble_eq_true rfl, Nat.le_of_ble_eq_true rfl⟩, Nat.le_of_ble_eq_true rfl, Nat.le_of_ble_eq_true rfl⟩ rfl (Nat.le_of_ble_eq_true rfl) (ok_X8_init (G := zs G) (hR := hR) e65) ?_
  show X G t_X1_init [] 43 [some (.ref a0), some (.int 4)] [.ref r60, .int 4, .ref r58] M64 126 1078 _
  obtain ⟨⟨⟩, e67, h⟩ := bindE h
  obtain ⟨M69, e68, h⟩ := bindE h
  refine X.aast (ci := 8) (r := (RX8, TX8, 5)) (pc' := 44) dX1_init_43 rfl (by decide) rfl rfl e67 e68 ?_
  refine X.iinc (v := 5) (L' := [some (.ref a0), some (.int 5)]) (pc' := 47) dX1_init_44 rfl rfl (by decide) (Nat.le_of_ble_eq_true rfl) rfl ?_
  refine X.goto (pc' := 25) dX1_init_47 (by decide) ?_
  refine X.iload_n (x := 5) (pc' := 26) dX1_init_25 rfl rfl rfl ?_
  refine X.bipush (v := 8) (pc' := 28) dX1_init_26 rfl (by decide) ?_
  refine X.icmp_ge (tgt := 50) (pc' := 31) dX1_init_28 (by decide) rfl (fun hc => absurd hc (by decide)) (fun hc => ?_)
  refine X.aload_n (x := a0) (pc' := 32) dX1_init_31 rfl rfl rfl ?_
  obtain ⟨r70, e71, h⟩ := bindE h
  refine X.getf (pc' := 35) dX1_init_32 rfl fq_X1_11 (gP_spec e71) ?_
  refine X.iload_n (x := 5) (pc' := 36) dX1_init_35 rfl rfl rfl ?_
  obtain ⟨r72, M73, e74, h⟩ := bd2E h
  refine X.newo (ci := 8) (r := (RX8, TX8, 5)) (fs := [.null, .null, .null, .int 0, .null]) (pc' := 39) dX1_init_36 rfl rfl (TBg_of 254 (by decide +kernel) rfl) (TBg_of 85 (by decide +kernel) rfl) (TBg_of 50 (by decide +kernel) rfl) tyX8 tyX8_ok (df_8 _) hR (Nat.le_of_ble_eq_true rfl) (Nat.le_of_ble_eq_true rfl) e74 ?_
  show X G t_X1_init [] 39 [some (.ref a0), some (.int 5)] [.ref r72, .int 5, .ref r70] M73 127 1083 _
  refine X.dup (pc' := 40) dX1_init_39 rfl rfl ?_
  obtain ⟨r75, M76, e77, h⟩ := bd2E h
  refine X.callI (b := r72) (As := []) (st := [.ref r72, .int 5, .ref r70]) (M' := M76) (pc' := 43) dX1_init_40 rfl cl_X1_24 rfl rfl mi_X8_init ⟨⟨Nat.le_of_ble_eq_true rfl, Nat.le_of_ble_eq_true rfl⟩, Nat.le_of_ble_eq_true rfl, Nat.le_of_ble_eq_true rfl⟩ rfl (Nat.le_of_ble_eq_true rfl) (ok_X8_init (G := zs G) (hR := hR) e77) ?_
  show X G t_X1_init [] 43 [some (.ref a0), some (.int 5)] [.ref r72, .int 5, .ref r70] M76 151 1292 _
  obtain ⟨⟨⟩, e79, h⟩ := bindE h
  obtain ⟨M81, e80, h⟩ := bindE h
  refine X.aast (ci := 8) (r := (RX8, TX8, 5)) (pc' := 44) dX1_init_43 rfl (by decide) rfl rfl e79 e80 ?_
  refine X.iinc (v := 6) (L' := [some (.ref a0), some (.int 6)]) (pc' := 47) dX1_init_44 rfl rfl (by decide) (Nat.le_of_ble_eq_true rfl) rfl ?_
  refine X.goto (pc' := 25) dX1_init_47 (by decide) ?_
  refine X.iload_n (x := 6) (pc' := 26) dX1_init_25 rfl rfl rfl ?_
  refine X.bipush (v := 8) (pc' := 28) dX1_init_26 rfl (by decide) ?_
  refine X.icmp_ge (tgt := 50) (pc' := 31) dX1_init_28 (by decide) rfl (fun hc => absurd hc (by decide)) (fun hc => ?_)
  refine X.aload_n (x := a0) (pc' := 32) dX1_init_31 rfl rfl rfl ?_
  obtain ⟨r82, e83, h⟩ := bindE h
  refine X.getf (pc' := 35) dX1_init_32 rfl fq_X1_11 (gP_spec e83) ?_
  refine X.iload_n (x := 6) (pc' := 36) dX1_init_35 rfl rfl rfl ?_
  obtain ⟨r84, M85, e86, h⟩ := bd2E h
  refine X.newo (ci := 8) (r := (RX8, TX8, 5)) (fs := [.null, .null, .null, .int 0, .null]) (pc' := 39) dX1_init_36 rfl rfl (TBg_of 254 (by decide +kernel) rfl) (TBg_of 85 (by decide +kernel) rfl) (TBg_of 50 (by decide +kernel) rfl) tyX8 tyX8_ok (df_8 _) hR (Nat.le_of_ble_eq_true rfl) (Nat.le_of_ble_eq_true rfl) e86 ?_
  show X G t_X1_init [] 39 [some (.ref a0), some (.int 6)] [.ref r84, .int 6, .ref r82] M85 152 1297 _
  refine X.dup (pc' := 40) dX1_init_39 rfl rfl ?_
  obtain ⟨r87, M88, e89, h⟩ := bd2E h
  refine X.callI (b := r84) (As := []) (st := [.ref r84, .int 6, .ref r82]) (M' := M88) (pc' := 43) dX1_init_40 rfl cl_X1_24 rfl rfl mi_X8_init ⟨⟨Nat.le_of_ble_eq_true rfl, Nat.le_of_ble_eq_true rfl⟩, Nat.le_of_ble_eq_true rfl, Nat.le_of_ble_eq_true rfl⟩ rfl (Nat.le_of_ble_eq_true rfl) (ok_X8_init (G := zs G) (hR := hR) e89) ?_
  show X G t_X1_init [] 43 [some (.ref a0), some (.int 6)] [.ref r84, .int 6, .ref r82] M88 176 1506 _
  obtain ⟨⟨⟩, e91, h⟩ := bindE h
  obtain ⟨M93, e92, h⟩ := bindE h
  refine X.aast (ci := 8) (r := (RX8, TX8, 5)) (pc' := 44) dX1_init_43 rfl (by decide) rfl rfl e91 e92 ?_
  refine X.iinc (v := 7) (L' := [some (.ref a0), some (.int 7)]) (pc' := 47) dX1_init_44 rfl rfl (by decide) (Nat.le_of_ble_eq_true rfl) rfl ?_
  refine X.goto (pc' := 25) dX1_init_47 (by decide) ?_
  refine X.iload_n (x := 7) (pc' := 26) dX1_init_25 rfl rfl rfl ?_
  refine X.bipush (v := 8) (pc' := 28) dX1_init_26 rfl (by decide) ?_
  refine X.icmp_ge (tgt := 50) (pc' := 31) dX1_init_28 (by decide) rfl (fun hc => absurd hc (by decide)) (fun hc => ?_)
  refine X.aload_n (x := a0) (pc' := 32) dX1_init_31 rfl rfl rfl ?_
  obtain ⟨r94, e95, h⟩ := bindE h
  refine X.getf (pc' := 35) dX1_init_32 rfl fq_X1_11 (gP_spec e95) ?_
  refine X.iload_n (x := 7) (pc' := 36) dX1_init_35 rfl rfl rfl ?_
  obtain ⟨r96, M97, e98, h⟩ := bd2E h
  refine X.newo (ci := 8) (r := (RX8, TX8, 5)) (fs := [.null, .null, .null, .int 0, .null]) (pc' := 39) dX1_init_36 rfl rfl (TBg_of 254 (by decide +kernel) rfl) (TBg_of 85 (by decide +kernel) rfl) (TBg_of 50 (by decide +kernel) rfl) tyX8 tyX8_ok (df_8 _) hR (Nat.le_of_ble_eq_true rfl) (Nat.le_of_ble_eq_true rfl) e98 ?_
  show X G t_X1_init [] 39 [some (.ref a0), some (.int 7)] [.ref r96, .int 7, .ref r94] M97 177 1511 _
  refine X.dup (pc' := 40) dX1_init_39 rfl rfl ?_
  obtain ⟨r99, M100, e101, h⟩ := bd2E h
  refine X.callI (b := r96) (As := []) (st := [.ref r96, .int 7, .ref r94]) (M' := M100) (pc' := 43) dX1_init_40 rfl cl_X1_24 rfl rfl mi_X8_init ⟨⟨Nat.le_of_ble_eq_true rfl, Nat.le_of_ble_eq_true rfl⟩, Nat.le_of_ble_eq_true rfl, Nat.le_of_ble_eq_true rfl⟩ rfl (Nat.le_of_ble_eq_true rfl) (ok_X8_init (G := zs G) (hR := hR) e101) ?_
  show X G t_X1_init [] 43 [some (.ref a0), some (.int 7)] [.ref r96, .int 7, .ref r94] M100 201 1720 _
  obtain ⟨⟨⟩, e103, h⟩ := bindE h
  obtain ⟨M105, e104, h⟩ := bindE h
  refine X.aast (ci := 8) (r := (RX8, TX8, 5)) (pc' := 44) dX1_init_43 rfl (by decide) rfl rfl e103 e104 ?_
  refine X.iinc (v := 8) (L' := [some (.ref a0), some (.int 8)]) (pc' := 47) dX1_init_44 rfl rfl (by decide) (Nat.le_of_ble_eq_true rfl) rfl ?_
  refine X.goto (pc' := 25) dX1_init_47 (by decide) ?_
  refine X.iload_n (x := 8) (pc' := 26) dX1_init_25 rfl rfl rfl ?_
  refine X.bipush (v := 8) (pc' := 28) dX1_init_26 rfl (by decide) ?_
  refine X.icmp_ge (tgt := 50) (pc' := 31) dX1_init_28 (by decide) rfl (fun hc => ?_) (fun hc => absurd (by decide) hc)
  cases h
  exact X.vret dX1_init_50 rfl (Nat.le_of_ble_eq_true rfl) (Nat.le_of_ble_eq_true rfl) rfl
def f_X8_copyFrom_24b (fu : Nat) (a0 : Nat) (a1 : Nat) (a2 : Int32) (M : List Ob) (k24 : Nat → Nat → Int32 → List Ob → Option (Unit × List Ob)) (k51 : Nat → Nat → List Ob → Option (Unit × List Ob)) : Option (Unit × List Ob) :=
  if 6 ≤ a2 then (k51 a0 a1 M)
  else ((gP M a0 8 2).bind fun r1 =>
  (aP M r1 14 a2).bind fun r4 =>
  (gP M a1 8 2).bind fun r5 =>
  (aP M r5 14 a2).bind fun r8 =>
  (hasO M r4 5).bind fun _ =>
  bd2 (f_X5_copyFrom fu r4 r8 M) fun _ M10 =>
  k24 a0 a1 (a2 + 1) M10)
set_option maxHeartbeats 4000000 in
theorem ok_X8_copyFrom_24b {G : GT} {fu : Nat} {out : Unit × List Ob} (hz : gZ G = false) {a0 : Nat} {a1 : Nat} {a2 : Int32} {M : List Ob} {k24 : Nat → Nat → Int32 → List Ob → Option (Unit × List Ob)} {k51 : Nat → Nat → List Ob → Option (Unit × List Ob)} (hk24 : ∀ (a0 : Nat) (a1 : Nat) (a2 : Int32) (M : List Ob), k24 a0 a1 a2 M = some out → X G t_X8_copyFrom [] 24 [some (.ref a0), some (.ref a1), some (.int a2)] [] M 0 0 (oU out)) (hk51 : ∀ (a0 : Nat) (a1 : Nat) (M : List Ob), k51 a0 a1 M = some out → X G t_X8_copyFrom [] 51 [some (.ref a0), some (.ref a1), none] [] M 0 0 (oU out)) (h : f_X8_copyFrom_24b fu a0 a1 a2 M k24 k51 = some out) : X G t_X8_copyFrom [] 24 [some (.ref a0), some (.ref a1), some (.int a2)] [] M 0 0 (oU out) := by
  unfold f_X8_copyFrom_24b at h
  refine X.iload_n (x := a2) (pc' := 25) dX8_copyFrom_24 rfl rfl rfl ?_
  refine X.bipush (v := 6) (pc' := 27) dX8_copyFrom_25 rfl (by decide) ?_
  refine X.icmp_ge (tgt := 51) (pc' := 30) dX8_copyFrom_27 (by decide) rfl (fun hc => ?_) (fun hc => ?_)
  · rw [if_pos hc] at h
    refine X.sub (L := [some (.ref a0), some (.ref a1), none]) ?_ (⟨rfl, ⟨rfl, trivial⟩⟩)
    exact hk51 _ _ _ h
  · rw [if_neg hc] at h
    refine X.aload_n (x := a0) (pc' := 31) dX8_copyFrom_30 rfl rfl rfl ?_
    obtain ⟨r1, e2, h⟩ := bindE h
    refine X.getf (pc' := 34) dX8_copyFrom_31 rfl fq_X8_25 (gP_spec e2) ?_
    refine X.iload_n (x := a2) (pc' := 35) dX8_copyFrom_34 rfl rfl rfl ?_
    obtain ⟨r4, e3, h⟩ := bindE h
    refine X.aald (pc' := 36) dX8_copyFrom_35 rfl (by decide) e3 ?_
    refine X.aload_n (x := a1) (pc' := 37) dX8_copyFrom_36 rfl rfl rfl ?_
    obtain ⟨r5, e6, h⟩ := bindE h
    refine X.getf (pc' := 40) dX8_copyFrom_37 rfl fq_X8_25 (gP_spec e6) ?_
    refine X.iload_n (x := a2) (pc' := 41) dX8_copyFrom_40 rfl rfl rfl ?_
    obtain ⟨r8, e7, h⟩ := bindE h
    refine X.aald (pc' := 42) dX8_copyFrom_41 rfl (by decide) e7 ?_
    obtain ⟨⟨⟩, e12, h⟩ := bindE h
    obtain ⟨r9, M10, e11, h⟩ := bd2E h
    refine X.callV (b := r4) (v := none) (As := [.ref r8]) (st := []) (M' := M10) (pc' := 45) dX8_copyFrom_42 rfl cl_X8_65 mi_X5_copyFrom me_X5_copyFrom mr_X5_copyFrom e12 ⟨⟨Nat.le_of_ble_eq_true rfl, Nat.le_of_ble_eq_true rfl⟩, Nat.le_of_ble_eq_true rfl, Nat.le_of_ble_eq_true rfl⟩ rfl (Nat.le_of_ble_eq_true rfl) (ok_X5_copyFrom (G := zs G) (hz := hz) e11) ?_
    show X G t_X8_copyFrom [] 45 [some (.ref a0), some (.ref a1), some (.int a2)] [] M10 0 0 _
    refine X.iinc (v := (a2 + 1)) (L' := [some (.ref a0), some (.ref a1), some (.int (a2 + 1))]) (pc' := 48) dX8_copyFrom_45 rfl rfl (congrArg (fun y => a2 + y) (show Int32.ofInt 1 = 1 by decide)) (Nat.le_of_ble_eq_true rfl) rfl ?_
    refine X.goto (pc' := 24) dX8_copyFrom_48 (by decide) ?_
    exact hk24 _ _ _ _ h
def f_X8_copyFrom_24 (fu : Nat) (k51 : Nat → Nat → List Ob → Option (Unit × List Ob)) : Nat → Nat → Nat → Int32 → List Ob → Option (Unit × List Ob)
  | 0, _, _, _, _ => none
  | n + 1, a0, a1, a2, M => f_X8_copyFrom_24b fu a0 a1 a2 M (fun a0 a1 a2 M => f_X8_copyFrom_24 fu k51 n a0 a1 a2 M) k51
theorem ok_X8_copyFrom_24 {G : GT} {fu : Nat} {out : Unit × List Ob} (hz : gZ G = false) {k51 : Nat → Nat → List Ob → Option (Unit × List Ob)} (hk51 : ∀ (a0 : Nat) (a1 : Nat) (M : List Ob), k51 a0 a1 M = some out → X G t_X8_copyFrom [] 51 [some (.ref a0), some (.ref a1), none] [] M 0 0 (oU out)) : ∀ (n : Nat) (a0 : Nat) (a1 : Nat) (a2 : Int32) (M : List Ob), f_X8_copyFrom_24 fu k51 n a0 a1 a2 M = some out → X G t_X8_copyFrom [] 24 [some (.ref a0), some (.ref a1), some (.int a2)] [] M 0 0 (oU out) := by
  intro n
  induction n with
  | zero =>
    intro a0 a1 a2 M h
    unfold f_X8_copyFrom_24 at h
    cases h
  | succ n ih =>
    intro a0 a1 a2 M h
    unfold f_X8_copyFrom_24 at h
    exact ok_X8_copyFrom_24b hz ih hk51 h
def f_X8_copyFrom_51 (fu : Nat) (a0 : Nat) (a1 : Nat) (M : List Ob) : Option (Unit × List Ob) :=
  (gI M a1 8 3).bind fun v1 =>
  (pF M a0 8 3 (.int v1)).bind fun M3 =>
  (gP M3 a0 8 4).bind fun r5 =>
  (gP M3 a1 8 4).bind fun r7 =>
  (hasO M3 r5 2).bind fun _ =>
  bd2 (f_X2_copyFrom fu r5 r7 M3) fun _ M10 =>
  some ((), M10)
set_option maxHeartbeats 4000000 in
theorem ok_X8_copyFrom_51 {G : GT} {fu : Nat} {out : Unit × List Ob} (hz : gZ G = false) {a0 : Nat} {a1 : Nat} {M : List Ob} (h : f_X8_copyFrom_51 fu a0 a1 M = some out) : X G t_X8_copyFrom [] 51 [some (.ref a0), some (.ref a1), none] [] M 0 0 (oU out) := by
  unfold f_X8_copyFrom_51 at h
  refine X.aload_n (x := a0) (pc' := 52) dX8_copyFrom_51 rfl rfl rfl ?_
  refine X.aload_n (x := a1) (pc' := 53) dX8_copyFrom_52 rfl rfl rfl ?_
  obtain ⟨v1, e2, h⟩ := bindE h
  refine X.getf (pc' := 56) dX8_copyFrom_53 rfl fq_X8_43 (gI_spec e2) ?_
  obtain ⟨M3, e4, h⟩ := bindE h
  refine X.putf (pc' := 59) dX8_copyFrom_56 rfl fq_X8_43 rfl rfl e4 ?_
  refine X.aload_n (x := a0) (pc' := 60) dX8_copyFrom_59 rfl rfl rfl ?_
  obtain ⟨r5, e6, h⟩ := bindE h
  refine X.getf (pc' := 63) dX8_copyFrom_60 rfl fq_X8_32 (gP_spec e6) ?_
  refine X.aload_n (x := a1) (pc' := 64) dX8_copyFrom_63 rfl rfl rfl ?_
  obtain ⟨r7, e8, h⟩ := bindE h
  refine X.getf (pc' := 67) dX8_copyFrom_64 rfl fq_X8_32 (gP_spec e8) ?_
  obtain ⟨⟨⟩, e12, h⟩ := bindE h
  obtain ⟨r9, M10, e11, h⟩ := bd2E h
  refine X.callV (b := r5) (v := none) (As := [.ref r7]) (st := []) (M' := M10) (pc' := 70) dX8_copyFrom_67 rfl cl_X8_71 mi_X2_copyFrom me_X2_copyFrom mr_X2_copyFrom e12 ⟨⟨Nat.le_of_ble_eq_true rfl, Nat.le_of_ble_eq_true rfl⟩, Nat.le_of_ble_eq_true rfl, Nat.le_of_ble_eq_true rfl⟩ rfl (Nat.le_of_ble_eq_true rfl) (ok_X2_copyFrom (G := zs G) (hz := hz) e11) ?_
  show X G t_X8_copyFrom [] 70 [some (.ref a0), some (.ref a1), none] [] M10 0 0 _
  cases h
  exact X.vret dX8_copyFrom_70 rfl (Nat.le_of_ble_eq_true rfl) (Nat.le_of_ble_eq_true rfl) rfl
def f_X8_copyFrom (fu : Nat) (a0 : Nat) (a1 : Nat) (M : List Ob) : Option (Unit × List Ob) :=
  (gP M a0 8 0).bind fun r1 =>
  (gP M a1 8 0).bind fun r3 =>
  (hasO M r1 4).bind fun _ =>
  bd2 (f_X4_copyFrom fu r1 r3 M) fun _ M6 =>
  (gP M6 a0 8 1).bind fun r9 =>
  (gP M6 a1 8 1).bind fun r11 =>
  (hasO M6 r9 5).bind fun _ =>
  bd2 (f_X5_copyFrom fu r9 r11 M6) fun _ M14 =>
  f_X8_copyFrom_24 fu (fun x17 x18 M19 => f_X8_copyFrom_51 fu x17 x18 M19) fu a0 a1 0 M14
set_option maxHeartbeats 4000000 in
theorem ok_X8_copyFrom {G : GT} (hz : gZ G = false) {fu : Nat} {a0 : Nat} {a1 : Nat} {M : List Ob} {out : Unit × List Ob} (h : f_X8_copyFrom fu a0 a1 M = some out) : Sp G t_X8_copyFrom [.ref a0, .ref a1] M (oU out) := by
  refine Sp.of rfl (by decide +kernel) (cat_all rfl) (Nat.le_of_ble_eq_true rfl) ?_
  show X G t_X8_copyFrom [] 0 [some (.ref a0), some (.ref a1), none] [] M 0 0 (oU out)
  unfold f_X8_copyFrom at h
  refine X.aload_n (x := a0) (pc' := 1) dX8_copyFrom_0 rfl rfl rfl ?_
  obtain ⟨r1, e2, h⟩ := bindE h
  refine X.getf (pc' := 4) dX8_copyFrom_1 rfl fq_X8_12 (gP_spec e2) ?_
  refine X.aload_n (x := a1) (pc' := 5) dX8_copyFrom_4 rfl rfl rfl ?_
  obtain ⟨r3, e4, h⟩ := bindE h
  refine X.getf (pc' := 8) dX8_copyFrom_5 rfl fq_X8_12 (gP_spec e4) ?_
  obtain ⟨⟨⟩, e8, h⟩ := bindE h
  obtain ⟨r5, M6, e7, h⟩ := bd2E h
  refine X.callV (b := r1) (v := none) (As := [.ref r3]) (st := []) (M' := M6) (pc' := 11) dX8_copyFrom_8 rfl cl_X8_69 mi_X4_copyFrom me_X4_copyFrom mr_X4_copyFrom e8 ⟨⟨Nat.le_of_ble_eq_true rfl, Nat.le_of_ble_eq_true rfl⟩, Nat.le_of_ble_eq_true rfl, Nat.le_of_ble_eq_true rfl⟩ rfl (Nat.le_of_ble_eq_true rfl) (ok_X4_copyFrom (G := zs G) (hz := hz) e7) ?_
  show X G t_X8_copyFrom [] 11 [some (.ref a0), some (.ref a1), none] [] M6 0 0 _
  refine X.aload_n (x := a0) (pc' := 12) dX8_copyFrom_11 rfl rfl rfl ?_
  obtain ⟨r9, e10, h⟩ := bindE h
  refine X.getf (pc' := 15) dX8_copyFrom_12 rfl fq_X8_21 (gP_spec e10) ?_
  refine X.aload_n (x := a1) (pc' := 16) dX8_copyFrom_15 rfl rfl rfl ?_
  obtain ⟨r11, e12, h⟩ := bindE h
  refine X.getf (pc' := 19) dX8_copyFrom_16 rfl fq_X8_21 (gP_spec e12) ?_
  obtain ⟨⟨⟩, e16, h⟩ := bindE h
  obtain ⟨r13, M14, e15, h⟩ := bd2E h
  refine X.callV (b := r9) (v := none) (As := [.ref r11]) (st := []) (M' := M14) (pc' := 22) dX8_copyFrom_19 rfl cl_X8_65 mi_X5_copyFrom me_X5_copyFrom mr_X5_copyFrom e16 ⟨⟨Nat.le_of_ble_eq_true rfl, Nat.le_of_ble_eq_true rfl⟩, Nat.le_of_ble_eq_true rfl, Nat.le_of_ble_eq_true rfl⟩ rfl (Nat.le_of_ble_eq_true rfl) (ok_X5_copyFrom (G := zs G) (hz := hz) e15) ?_
  show X G t_X8_copyFrom [] 22 [some (.ref a0), some (.ref a1), none] [] M14 0 0 _
  refine X.iconst (v := 0) (pc' := 23) dX8_copyFrom_22 rfl (by decide) ?_
  refine X.istore_n (L' := [some (.ref a0), some (.ref a1), some (.int 0)]) (pc' := 24) dX8_copyFrom_23 rfl rfl (Nat.le_of_ble_eq_true rfl) rfl ?_
  refine ok_X8_copyFrom_24 hz ?_ fu _ _ _ _ h
  · intro x17 x18 M19 h
    exact ok_X8_copyFrom_51 hz h
def f_X1_keep_33 (fu : Nat) (a0 : Nat) (b0 : Nat) (b1 : Int32) (M : List Ob) : Option (Unit × List Ob) :=
  (pF M b0 1 1 (.int b1)).bind fun M1 =>
  (gI M1 a0 1 2).bind fun v3 =>
  (pF M1 a0 1 2 (.int (if (v3 + 1) < 8 then (v3 + 1) else 8))).bind fun M5 =>
  some ((), M5)
set_option maxHeartbeats 4000000 in
theorem ok_X1_keep_33 {G : GT} {fu : Nat} {out : Unit × List Ob} (hz : gZ G = false) {a0 : Nat} {b0 : Nat} {b1 : Int32} {M : List Ob} (h : f_X1_keep_33 fu a0 b0 b1 M = some out) : X G t_X1_keep [] 33 [some (.ref a0), none] [.int b1, .ref b0] M 0 0 (oU out) := by
  unfold f_X1_keep_33 at h
  obtain ⟨M1, e2, h⟩ := bindE h
  refine X.putf (pc' := 36) dX1_keep_33 rfl fq_X1_17 rfl rfl e2 ?_
  refine X.aload_n (x := a0) (pc' := 37) dX1_keep_36 rfl rfl rfl ?_
  refine X.bipush (v := 8) (pc' := 39) dX1_keep_37 rfl (by decide) ?_
  refine X.aload_n (x := a0) (pc' := 40) dX1_keep_39 rfl rfl rfl ?_
  obtain ⟨v3, e4, h⟩ := bindE h
  refine X.getf (pc' := 43) dX1_keep_40 rfl fq_X1_21 (gI_spec e4) ?_
  refine X.iconst (v := 1) (pc' := 44) dX1_keep_43 rfl (by decide) ?_
  refine X.iadd (pc' := 45) dX1_keep_44 rfl ?_
  refine X.mmin (pc' := 48) dX1_keep_45 rfl (TBg_of 544 (by decide +kernel) rfl) (Nat.le_of_ble_eq_true rfl) (Nat.le_of_ble_eq_true rfl) (Nat.le_of_ble_eq_true rfl) (Nat.le_of_ble_eq_true rfl) ?_
  obtain ⟨M5, e6, h⟩ := bindE h
  refine X.putf (pc' := 51) dX1_keep_48 rfl fq_X1_21 rfl rfl e6 ?_
  cases h
  exact X.vret dX1_keep_51 rfl (Nat.le_of_ble_eq_true rfl) (Nat.le_of_ble_eq_true rfl) rfl
def f_X1_keep (fu : Nat) (a0 : Nat) (a1 : Nat) (M : List Ob) : Option (Unit × List Ob) :=
  (gP M a0 1 0).bind fun r1 =>
  (gI M a0 1 1).bind fun v3 =>
  (aP M r1 15 v3).bind fun r6 =>
  (hasO M r6 8).bind fun _ =>
  bd2 (f_X8_copyFrom fu r6 a1 M) fun _ M8 =>
  (gI M8 a0 1 1).bind fun v11 =>
  if v11 = 7 then (f_X1_keep_33 fu a0 a0 0 M8)
  else ((gI M8 a0 1 1).bind fun v13 =>
  f_X1_keep_33 fu a0 a0 (v13 + 1) M8)
set_option maxHeartbeats 4000000 in
theorem ok_X1_keep {G : GT} (hz : gZ G = false) {fu : Nat} {a0 : Nat} {a1 : Nat} {M : List Ob} {out : Unit × List Ob} (h : f_X1_keep fu a0 a1 M = some out) : Sp G t_X1_keep [.ref a0, .ref a1] M (oU out) := by
  refine Sp.of rfl (by decide +kernel) (cat_all rfl) (Nat.le_of_ble_eq_true rfl) ?_
  show X G t_X1_keep [] 0 [some (.ref a0), some (.ref a1)] [] M 0 0 (oU out)
  unfold f_X1_keep at h
  refine X.aload_n (x := a0) (pc' := 1) dX1_keep_0 rfl rfl rfl ?_
  obtain ⟨r1, e2, h⟩ := bindE h
  refine X.getf (pc' := 4) dX1_keep_1 rfl fq_X1_11 (gP_spec e2) ?_
  refine X.aload_n (x := a0) (pc' := 5) dX1_keep_4 rfl rfl rfl ?_
  obtain ⟨v3, e4, h⟩ := bindE h
  refine X.getf (pc' := 8) dX1_keep_5 rfl fq_X1_17 (gI_spec e4) ?_
  obtain ⟨r6, e5, h⟩ := bindE h
  refine X.aald (pc' := 9) dX1_keep_8 rfl (by decide) e5 ?_
  refine X.aload_n (x := a1) (pc' := 10) dX1_keep_9 rfl rfl rfl ?_
  obtain ⟨⟨⟩, e10, h⟩ := bindE h
  obtain ⟨r7, M8, e9, h⟩ := bd2E h
  refine X.callV (b := r6) (v := none) (As := [.ref a1]) (st := []) (M' := M8) (pc' := 13) dX1_keep_10 rfl cl_X1_25 mi_X8_copyFrom me_X8_copyFrom mr_X8_copyFrom e10 ⟨⟨Nat.le_of_ble_eq_true rfl, Nat.le_of_ble_eq_true rfl⟩, Nat.le_of_ble_eq_true rfl, Nat.le_of_ble_eq_true rfl⟩ rfl (Nat.le_of_ble_eq_true rfl) (ok_X8_copyFrom (G := zs G) (hz := hz) e9) ?_
  show X G t_X1_keep [] 13 [some (.ref a0), some (.ref a1)] [] M8 0 0 _
  refine X.aload_n (x := a0) (pc' := 14) dX1_keep_13 rfl rfl rfl ?_
  refine X.aload_n (x := a0) (pc' := 15) dX1_keep_14 rfl rfl rfl ?_
  obtain ⟨v11, e12, h⟩ := bindE h
  refine X.getf (pc' := 18) dX1_keep_15 rfl fq_X1_17 (gI_spec e12) ?_
  refine X.bipush (v := 7) (pc' := 20) dX1_keep_18 rfl (by decide) ?_
  refine X.icmp_ne (tgt := 27) (pc' := 23) dX1_keep_20 (by decide) rfl (fun hc => ?_) (fun hc => ?_)
  · rw [if_neg hc] at h
    refine X.aload_n (x := a0) (pc' := 28) dX1_keep_27 rfl rfl rfl ?_
    obtain ⟨v13, e14, h⟩ := bindE h
    refine X.getf (pc' := 31) dX1_keep_28 rfl fq_X1_17 (gI_spec e14) ?_
    refine X.iconst (v := 1) (pc' := 32) dX1_keep_31 rfl (by decide) ?_
    refine X.iadd (pc' := 33) dX1_keep_32 rfl ?_
    refine X.sub (L := [some (.ref a0), none]) ?_ (⟨rfl, trivial⟩)
    exact ok_X1_keep_33 hz h
  · rw [if_pos hc] at h
    refine X.iconst (v := 0) (pc' := 24) dX1_keep_23 rfl (by decide) ?_
    refine X.goto (pc' := 33) dX1_keep_24 (by decide) ?_
    refine X.sub (L := [some (.ref a0), none]) ?_ (⟨rfl, trivial⟩)
    exact ok_X1_keep_33 hz h
def f_X1_takeBack_26 (fu : Nat) (a0 : Nat) (a1 : Nat) (b0 : Nat) (b1 : Int32) (M : List Ob) : Option (Unit × List Ob) :=
  (pF M b0 1 1 (.int b1)).bind fun M1 =>
  (gI M1 a0 1 2).bind fun v3 =>
  (pF M1 a0 1 2 (.int (v3 - 1))).bind fun M5 =>
  (gP M5 a0 1 0).bind fun r7 =>
  (gI M5 a0 1 1).bind fun v9 =>
  (aP M5 r7 15 v9).bind fun r12 =>
  (hasO M5 a1 8).bind fun _ =>
  bd2 (f_X8_copyFrom fu a1 r12 M5) fun _ M14 =>
  some ((), M14)
set_option maxHeartbeats 4000000 in
theorem ok_X1_takeBack_26 {G : GT} {fu : Nat} {out : Unit × List Ob} (hz : gZ G = false) {a0 : Nat} {a1 : Nat} {b0 : Nat} {b1 : Int32} {M : List Ob} (h : f_X1_takeBack_26 fu a0 a1 b0 b1 M = some out) : X G t_X1_takeBack [] 26 [some (.ref a0), some (.ref a1)] [.int b1, .ref b0] M 0 0 (oU out) := by
  unfold f_X1_takeBack_26 at h
  obtain ⟨M1, e2, h⟩ := bindE h
  refine X.putf (pc' := 29) dX1_takeBack_26 rfl fq_X1_17 rfl rfl e2 ?_
  refine X.aload_n (x := a0) (pc' := 30) dX1_takeBack_29 rfl rfl rfl ?_
  refine X.dup (pc' := 31) dX1_takeBack_30 rfl rfl ?_
  obtain ⟨v3, e4, h⟩ := bindE h
  refine X.getf (pc' := 34) dX1_takeBack_31 rfl fq_X1_21 (gI_spec e4) ?_
  refine X.iconst (v := 1) (pc' := 35) dX1_takeBack_34 rfl (by decide) ?_
  refine X.isub (pc' := 36) dX1_takeBack_35 rfl ?_
  obtain ⟨M5, e6, h⟩ := bindE h
  refine X.putf (pc' := 39) dX1_takeBack_36 rfl fq_X1_21 rfl rfl e6 ?_
  refine X.aload_n (x := a1) (pc' := 40) dX1_takeBack_39 rfl rfl rfl ?_
  refine X.aload_n (x := a0) (pc' := 41) dX1_takeBack_40 rfl rfl rfl ?_
  obtain ⟨r7, e8, h⟩ := bindE h
  refine X.getf (pc' := 44) dX1_takeBack_41 rfl fq_X1_11 (gP_spec e8) ?_
  refine X.aload_n (x := a0) (pc' := 45) dX1_takeBack_44 rfl rfl rfl ?_
  obtain ⟨v9, e10, h⟩ := bindE h
  refine X.getf (pc' := 48) dX1_takeBack_45 rfl fq_X1_17 (gI_spec e10) ?_
  obtain ⟨r12, e11, h⟩ := bindE h
  refine X.aald (pc' := 49) dX1_takeBack_48 rfl (by decide) e11 ?_
  obtain ⟨⟨⟩, e16, h⟩ := bindE h
  obtain ⟨r13, M14, e15, h⟩ := bd2E h
  refine X.callV (b := a1) (v := none) (As := [.ref r12]) (st := []) (M' := M14) (pc' := 52) dX1_takeBack_49 rfl cl_X1_25 mi_X8_copyFrom me_X8_copyFrom mr_X8_copyFrom e16 ⟨⟨Nat.le_of_ble_eq_true rfl, Nat.le_of_ble_eq_true rfl⟩, Nat.le_of_ble_eq_true rfl, Nat.le_of_ble_eq_true rfl⟩ rfl (Nat.le_of_ble_eq_true rfl) (ok_X8_copyFrom (G := zs G) (hz := hz) e15) ?_
  show X G t_X1_takeBack [] 52 [some (.ref a0), some (.ref a1)] [] M14 0 0 _
  cases h
  exact X.vret dX1_takeBack_52 rfl (Nat.le_of_ble_eq_true rfl) (Nat.le_of_ble_eq_true rfl) rfl
def f_X1_takeBack (fu : Nat) (a0 : Nat) (a1 : Nat) (M : List Ob) : Option (Unit × List Ob) :=
  (gI M a0 1 2).bind fun v1 =>
  if v1 ≤ 0 then (some ((), M))
  else ((gI M a0 1 1).bind fun v3 =>
  if v3 = 0 then (f_X1_takeBack_26 fu a0 a1 a0 7 M)
  else ((gI M a0 1 1).bind fun v5 =>
  f_X1_takeBack_26 fu a0 a1 a0 (v5 - 1) M))
set_option maxHeartbeats 4000000 in
theorem ok_X1_takeBack {G : GT} (hz : gZ G = false) {fu : Nat} {a0 : Nat} {a1 : Nat} {M : List Ob} {out : Unit × List Ob} (h : f_X1_takeBack fu a0 a1 M = some out) : Sp G t_X1_takeBack [.ref a0, .ref a1] M (oU out) := by
  refine Sp.of rfl (by decide +kernel) (cat_all rfl) (Nat.le_of_ble_eq_true rfl) ?_
  show X G t_X1_takeBack [] 0 [some (.ref a0), some (.ref a1)] [] M 0 0 (oU out)
  unfold f_X1_takeBack at h
  refine X.aload_n (x := a0) (pc' := 1) dX1_takeBack_0 rfl rfl rfl ?_
  obtain ⟨v1, e2, h⟩ := bindE h
  refine X.getf (pc' := 4) dX1_takeBack_1 rfl fq_X1_21 (gI_spec e2) ?_
  refine X.if_le (tgt := 52) (pc' := 7) dX1_takeBack_4 (by decide) rfl (fun hc => ?_) (fun hc => ?_)
  · rw [if_pos hc] at h
    cases h
    exact X.vret dX1_takeBack_52 rfl (Nat.le_of_ble_eq_true rfl) (Nat.le_of_ble_eq_true rfl) rfl
  · rw [if_neg hc] at h
    refine X.aload_n (x := a0) (pc' := 8) dX1_takeBack_7 rfl rfl rfl ?_
    refine X.aload_n (x := a0) (pc' := 9) dX1_takeBack_8 rfl rfl rfl ?_
    obtain ⟨v3, e4, h⟩ := bindE h
    refine X.getf (pc' := 12) dX1_takeBack_9 rfl fq_X1_17 (gI_spec e4) ?_
    refine X.if_ne (tgt := 20) (pc' := 15) dX1_takeBack_12 (by decide) rfl (fun hc => ?_) (fun hc => ?_)
    · rw [if_neg hc] at h
      refine X.aload_n (x := a0) (pc' := 21) dX1_takeBack_20 rfl rfl rfl ?_
      obtain ⟨v5, e6, h⟩ := bindE h
      refine X.getf (pc' := 24) dX1_takeBack_21 rfl fq_X1_17 (gI_spec e6) ?_
      refine X.iconst (v := 1) (pc' := 25) dX1_takeBack_24 rfl (by decide) ?_
      refine X.isub (pc' := 26) dX1_takeBack_25 rfl ?_
      exact ok_X1_takeBack_26 hz h
    · rw [if_pos hc] at h
      refine X.bipush (v := 7) (pc' := 17) dX1_takeBack_15 rfl (by decide) ?_
      refine X.goto (pc' := 26) dX1_takeBack_17 (by decide) ?_
      exact ok_X1_takeBack_26 hz h
def f_X8_begin (fu : Nat) (a0 : Nat) (a1 : Int32) (a2 : Int32) (a3 : Int32) (M : List Ob) : Option (Unit × List Ob) :=
  (gP M a0 8 0).bind fun r1 =>
  (hasO M r1 4).bind fun _ =>
  bd2 (f_X4_begin fu r1 a1 a2 a3 M) fun _ M4 =>
  (gP M4 a0 8 1).bind fun r7 =>
  (hasO M4 r7 5).bind fun _ =>
  bd2 (f_X5_clear fu r7 M4) fun _ M10 =>
  (pF M10 a0 8 3 (.int 0)).bind fun M13 =>
  (gP M13 a0 8 4).bind fun r15 =>
  (gP M13 a0 8 0).bind fun r17 =>
  (hasO M13 r15 2).bind fun _ =>
  bd2 (f_X2_begin fu r15 r17 M13) fun _ M20 =>
  some ((), M20)
set_option maxHeartbeats 4000000 in
theorem ok_X8_begin {G : GT} {fu : Nat} {a0 : Nat} {a1 : Int32} {a2 : Int32} {a3 : Int32} {M : List Ob} {out : Unit × List Ob} (h : f_X8_begin fu a0 a1 a2 a3 M = some out) : Sp G t_X8_begin [.ref a0, .int a1, .int a2, .int a3] M (oU out) := by
  refine Sp.of rfl (by decide +kernel) (cat_all rfl) (Nat.le_of_ble_eq_true rfl) ?_
  show X G t_X8_begin [] 0 [some (.ref a0), some (.int a1), some (.int a2), some (.int a3)] [] M 0 0 (oU out)
  unfold f_X8_begin at h
  refine X.aload_n (x := a0) (pc' := 1) dX8_begin_0 rfl rfl rfl ?_
  obtain ⟨r1, e2, h⟩ := bindE h
  refine X.getf (pc' := 4) dX8_begin_1 rfl fq_X8_12 (gP_spec e2) ?_
  refine X.iload_n (x := a1) (pc' := 5) dX8_begin_4 rfl rfl rfl ?_
  refine X.iload_n (x := a2) (pc' := 6) dX8_begin_5 rfl rfl rfl ?_
  refine X.iload_n (x := a3) (pc' := 7) dX8_begin_6 rfl rfl rfl ?_
  obtain ⟨⟨⟩, e6, h⟩ := bindE h
  obtain ⟨r3, M4, e5, h⟩ := bd2E h
  refine X.callV (b := r1) (v := none) (As := [.int a1, .int a2, .int a3]) (st := []) (M' := M4) (pc' := 10) dX8_begin_7 rfl cl_X8_36 mi_X4_begin me_X4_begin mr_X4_begin e6 ⟨⟨Nat.le_of_ble_eq_true rfl, Nat.le_of_ble_eq_true rfl⟩, Nat.le_of_ble_eq_true rfl, Nat.le_of_ble_eq_true rfl⟩ rfl (Nat.le_of_ble_eq_true rfl) (ok_X4_begin (G := zs G) e5) ?_
  show X G t_X8_begin [] 10 [some (.ref a0), some (.int a1), some (.int a2), some (.int a3)] [] M4 0 0 _
  refine X.aload_n (x := a0) (pc' := 11) dX8_begin_10 rfl rfl rfl ?_
  obtain ⟨r7, e8, h⟩ := bindE h
  refine X.getf (pc' := 14) dX8_begin_11 rfl fq_X8_21 (gP_spec e8) ?_
  obtain ⟨⟨⟩, e12, h⟩ := bindE h
  obtain ⟨r9, M10, e11, h⟩ := bd2E h
  refine X.callV (b := r7) (v := none) (As := []) (st := []) (M' := M10) (pc' := 17) dX8_begin_14 rfl cl_X8_40 mi_X5_clear me_X5_clear mr_X5_clear e12 ⟨⟨Nat.le_of_ble_eq_true rfl, Nat.le_of_ble_eq_true rfl⟩, Nat.le_of_ble_eq_true rfl, Nat.le_of_ble_eq_true rfl⟩ rfl (Nat.le_of_ble_eq_true rfl) (ok_X5_clear (G := zs G) e11) ?_
  show X G t_X8_begin [] 17 [some (.ref a0), some (.int a1), some (.int a2), some (.int a3)] [] M10 0 0 _
  refine X.aload_n (x := a0) (pc' := 18) dX8_begin_17 rfl rfl rfl ?_
  refine X.iconst (v := 0) (pc' := 19) dX8_begin_18 rfl (by decide) ?_
  obtain ⟨M13, e14, h⟩ := bindE h
  refine X.putf (pc' := 22) dX8_begin_19 rfl fq_X8_43 rfl rfl e14 ?_
  refine X.aload_n (x := a0) (pc' := 23) dX8_begin_22 rfl rfl rfl ?_
  obtain ⟨r15, e16, h⟩ := bindE h
  refine X.getf (pc' := 26) dX8_begin_23 rfl fq_X8_32 (gP_spec e16) ?_
  refine X.aload_n (x := a0) (pc' := 27) dX8_begin_26 rfl rfl rfl ?_
  obtain ⟨r17, e18, h⟩ := bindE h
  refine X.getf (pc' := 30) dX8_begin_27 rfl fq_X8_12 (gP_spec e18) ?_
  obtain ⟨⟨⟩, e22, h⟩ := bindE h
  obtain ⟨r19, M20, e21, h⟩ := bd2E h
  refine X.callV (b := r15) (v := none) (As := [.ref r17]) (st := []) (M' := M20) (pc' := 33) dX8_begin_30 rfl cl_X8_47 mi_X2_begin me_X2_begin mr_X2_begin e22 ⟨⟨Nat.le_of_ble_eq_true rfl, Nat.le_of_ble_eq_true rfl⟩, Nat.le_of_ble_eq_true rfl, Nat.le_of_ble_eq_true rfl⟩ rfl (Nat.le_of_ble_eq_true rfl) (ok_X2_begin (G := zs G) e21) ?_
  show X G t_X8_begin [] 33 [some (.ref a0), some (.int a1), some (.int a2), some (.int a3)] [] M20 0 0 _
  cases h
  exact X.vret dX8_begin_33 rfl (Nat.le_of_ble_eq_true rfl) (Nat.le_of_ble_eq_true rfl) rfl
def f_X8_wasTold_2b (fu : Nat) (a0 : Nat) (a1 : Nat) (a2 : Int32) (M : List Ob) (k2 : Nat → Nat → Int32 → List Ob → Option (Int32 × List Ob)) : Option (Int32 × List Ob) :=
  (gI M a0 8 3).bind fun v1 =>
  if v1 ≤ a2 then (some (0, M))
  else ((gP M a0 8 2).bind fun r3 =>
  (aP M r3 14 a2).bind fun r6 =>
  (hasO M r6 5).bind fun _ =>
  bd2 (f_X5_isSame fu r6 a1 M) fun v7 M8 =>
  if v7 = 0 then (k2 a0 a1 (a2 + 1) M8)
  else (some (1, M8)))
set_option maxHeartbeats 4000000 in
theorem ok_X8_wasTold_2b {G : GT} {fu : Nat} {out : Int32 × List Ob} {a0 : Nat} {a1 : Nat} {a2 : Int32} {M : List Ob} {k2 : Nat → Nat → Int32 → List Ob → Option (Int32 × List Ob)} (hk2 : ∀ (a0 : Nat) (a1 : Nat) (a2 : Int32) (M : List Ob), k2 a0 a1 a2 M = some out → X G t_X8_wasTold [] 2 [some (.ref a0), some (.ref a1), some (.int a2)] [] M 0 0 (oI out)) (h : f_X8_wasTold_2b fu a0 a1 a2 M k2 = some out) : X G t_X8_wasTold [] 2 [some (.ref a0), some (.ref a1), some (.int a2)] [] M 0 0 (oI out) := by
  unfold f_X8_wasTold_2b at h
  refine X.iload_n (x := a2) (pc' := 3) dX8_wasTold_2 rfl rfl rfl ?_
  refine X.aload_n (x := a0) (pc' := 4) dX8_wasTold_3 rfl rfl rfl ?_
  obtain ⟨v1, e2, h⟩ := bindE h
  refine X.getf (pc' := 7) dX8_wasTold_4 rfl fq_X8_43 (gI_spec e2) ?_
  refine X.icmp_ge (tgt := 31) (pc' := 10) dX8_wasTold_7 (by decide) rfl (fun hc => ?_) (fun hc => ?_)
  · rw [if_pos hc] at h
    refine X.iconst (v := 0) (pc' := 32) dX8_wasTold_31 rfl (by decide) ?_
    cases h
    exact X.iret (ty := .boolean) dX8_wasTold_32 rfl rfl (Nat.le_of_ble_eq_true rfl) (Nat.le_of_ble_eq_true rfl) rfl
  · rw [if_neg hc] at h
    refine X.aload_n (x := a0) (pc' := 11) dX8_wasTold_10 rfl rfl rfl ?_
    obtain ⟨r3, e4, h⟩ := bindE h
    refine X.getf (pc' := 14) dX8_wasTold_11 rfl fq_X8_25 (gP_spec e4) ?_
    refine X.iload_n (x := a2) (pc' := 15) dX8_wasTold_14 rfl rfl rfl ?_
    obtain ⟨r6, e5, h⟩ := bindE h
    refine X.aald (pc' := 16) dX8_wasTold_15 rfl (by decide) e5 ?_
    refine X.aload_n (x := a1) (pc' := 17) dX8_wasTold_16 rfl rfl rfl ?_
    obtain ⟨⟨⟩, e10, h⟩ := bindE h
    obtain ⟨v7, M8, e9, h⟩ := bd2E h
    refine X.callV (b := r6) (v := some (.int v7)) (As := [.ref a1]) (st := []) (M' := M8) (pc' := 20) dX8_wasTold_17 rfl cl_X8_50 mi_X5_isSame me_X5_isSame mr_X5_isSame e10 ⟨⟨Nat.le_of_ble_eq_true rfl, Nat.le_of_ble_eq_true rfl⟩, Nat.le_of_ble_eq_true rfl, Nat.le_of_ble_eq_true rfl⟩ rfl (Nat.le_of_ble_eq_true rfl) (ok_X5_isSame (G := zs G) e9) ?_
    show X G t_X8_wasTold [] 20 [some (.ref a0), some (.ref a1), some (.int a2)] [.int v7] M8 0 0 _
    refine X.if_eq (tgt := 25) (pc' := 23) dX8_wasTold_20 (by decide) rfl (fun hc => ?_) (fun hc => ?_)
    · rw [if_pos hc] at h
      refine X.iinc (v := (a2 + 1)) (L' := [some (.ref a0), some (.ref a1), some (.int (a2 + 1))]) (pc' := 28) dX8_wasTold_25 rfl rfl (congrArg (fun y => a2 + y) (show Int32.ofInt 1 = 1 by decide)) (Nat.le_of_ble_eq_true rfl) rfl ?_
      refine X.goto (pc' := 2) dX8_wasTold_28 (by decide) ?_
      exact hk2 _ _ _ _ h
    · rw [if_neg hc] at h
      refine X.iconst (v := 1) (pc' := 24) dX8_wasTold_23 rfl (by decide) ?_
      cases h
      exact X.iret (ty := .boolean) dX8_wasTold_24 rfl rfl (Nat.le_of_ble_eq_true rfl) (Nat.le_of_ble_eq_true rfl) rfl
def f_X8_wasTold_2 (fu : Nat) : Nat → Nat → Nat → Int32 → List Ob → Option (Int32 × List Ob)
  | 0, _, _, _, _ => none
  | n + 1, a0, a1, a2, M => f_X8_wasTold_2b fu a0 a1 a2 M (fun a0 a1 a2 M => f_X8_wasTold_2 fu n a0 a1 a2 M)
theorem ok_X8_wasTold_2 {G : GT} {fu : Nat} {out : Int32 × List Ob} : ∀ (n : Nat) (a0 : Nat) (a1 : Nat) (a2 : Int32) (M : List Ob), f_X8_wasTold_2 fu n a0 a1 a2 M = some out → X G t_X8_wasTold [] 2 [some (.ref a0), some (.ref a1), some (.int a2)] [] M 0 0 (oI out) := by
  intro n
  induction n with
  | zero =>
    intro a0 a1 a2 M h
    unfold f_X8_wasTold_2 at h
    cases h
  | succ n ih =>
    intro a0 a1 a2 M h
    unfold f_X8_wasTold_2 at h
    exact ok_X8_wasTold_2b ih h
def f_X8_wasTold (fu : Nat) (a0 : Nat) (a1 : Nat) (M : List Ob) : Option (Int32 × List Ob) :=
  f_X8_wasTold_2 fu  fu a0 a1 0 M
set_option maxHeartbeats 4000000 in
theorem ok_X8_wasTold {G : GT} {fu : Nat} {a0 : Nat} {a1 : Nat} {M : List Ob} {out : Int32 × List Ob} (h : f_X8_wasTold fu a0 a1 M = some out) : Sp G t_X8_wasTold [.ref a0, .ref a1] M (oI out) := by
  refine Sp.of rfl (by decide +kernel) (cat_all rfl) (Nat.le_of_ble_eq_true rfl) ?_
  show X G t_X8_wasTold [] 0 [some (.ref a0), some (.ref a1), none] [] M 0 0 (oI out)
  unfold f_X8_wasTold at h
  refine X.iconst (v := 0) (pc' := 1) dX8_wasTold_0 rfl (by decide) ?_
  refine X.istore_n (L' := [some (.ref a0), some (.ref a1), some (.int 0)]) (pc' := 2) dX8_wasTold_1 rfl rfl (Nat.le_of_ble_eq_true rfl) rfl ?_
  refine ok_X8_wasTold_2  fu _ _ _ _ h
def f_X8_usesArc_2b (fu : Nat) (a0 : Nat) (a1 : Int32) (a2 : Int32) (M : List Ob) (k2 : Nat → Int32 → Int32 → List Ob → Option (Int32 × List Ob)) (k31 : Nat → Int32 → List Ob → Option (Int32 × List Ob)) : Option (Int32 × List Ob) :=
  (gI M a0 8 3).bind fun v1 =>
  if v1 ≤ a2 then (k31 a0 a1 M)
  else ((gP M a0 8 2).bind fun r3 =>
  (aP M r3 14 a2).bind fun r6 =>
  (hasO M r6 5).bind fun _ =>
  bd2 (f_X5_hasArc fu r6 a1 M) fun v7 M8 =>
  if v7 = 0 then (k2 a0 a1 (a2 + 1) M8)
  else (some (1, M8)))
set_option maxHeartbeats 4000000 in
theorem ok_X8_usesArc_2b {G : GT} {fu : Nat} {out : Int32 × List Ob} {a0 : Nat} {a1 : Int32} {a2 : Int32} {M : List Ob} {k2 : Nat → Int32 → Int32 → List Ob → Option (Int32 × List Ob)} {k31 : Nat → Int32 → List Ob → Option (Int32 × List Ob)} (hk2 : ∀ (a0 : Nat) (a1 : Int32) (a2 : Int32) (M : List Ob), k2 a0 a1 a2 M = some out → X G t_X8_usesArc [] 2 [some (.ref a0), some (.int a1), some (.int a2)] [] M 0 0 (oI out)) (hk31 : ∀ (a0 : Nat) (a1 : Int32) (M : List Ob), k31 a0 a1 M = some out → X G t_X8_usesArc [] 31 [some (.ref a0), some (.int a1), none] [] M 0 0 (oI out)) (h : f_X8_usesArc_2b fu a0 a1 a2 M k2 k31 = some out) : X G t_X8_usesArc [] 2 [some (.ref a0), some (.int a1), some (.int a2)] [] M 0 0 (oI out) := by
  unfold f_X8_usesArc_2b at h
  refine X.iload_n (x := a2) (pc' := 3) dX8_usesArc_2 rfl rfl rfl ?_
  refine X.aload_n (x := a0) (pc' := 4) dX8_usesArc_3 rfl rfl rfl ?_
  obtain ⟨v1, e2, h⟩ := bindE h
  refine X.getf (pc' := 7) dX8_usesArc_4 rfl fq_X8_43 (gI_spec e2) ?_
  refine X.icmp_ge (tgt := 31) (pc' := 10) dX8_usesArc_7 (by decide) rfl (fun hc => ?_) (fun hc => ?_)
  · rw [if_pos hc] at h
    refine X.sub (L := [some (.ref a0), some (.int a1), none]) ?_ (⟨rfl, ⟨rfl, trivial⟩⟩)
    exact hk31 _ _ _ h
  · rw [if_neg hc] at h
    refine X.aload_n (x := a0) (pc' := 11) dX8_usesArc_10 rfl rfl rfl ?_
    obtain ⟨r3, e4, h⟩ := bindE h
    refine X.getf (pc' := 14) dX8_usesArc_11 rfl fq_X8_25 (gP_spec e4) ?_
    refine X.iload_n (x := a2) (pc' := 15) dX8_usesArc_14 rfl rfl rfl ?_
    obtain ⟨r6, e5, h⟩ := bindE h
    refine X.aald (pc' := 16) dX8_usesArc_15 rfl (by decide) e5 ?_
    refine X.iload_n (x := a1) (pc' := 17) dX8_usesArc_16 rfl rfl rfl ?_
    obtain ⟨⟨⟩, e10, h⟩ := bindE h
    obtain ⟨v7, M8, e9, h⟩ := bd2E h
    refine X.callV (b := r6) (v := some (.int v7)) (As := [.int a1]) (st := []) (M' := M8) (pc' := 20) dX8_usesArc_17 rfl cl_X8_54 mi_X5_hasArc me_X5_hasArc mr_X5_hasArc e10 ⟨⟨Nat.le_of_ble_eq_true rfl, Nat.le_of_ble_eq_true rfl⟩, Nat.le_of_ble_eq_true rfl, Nat.le_of_ble_eq_true rfl⟩ rfl (Nat.le_of_ble_eq_true rfl) (ok_X5_hasArc (G := zs G) e9) ?_
    show X G t_X8_usesArc [] 20 [some (.ref a0), some (.int a1), some (.int a2)] [.int v7] M8 0 0 _
    refine X.if_eq (tgt := 25) (pc' := 23) dX8_usesArc_20 (by decide) rfl (fun hc => ?_) (fun hc => ?_)
    · rw [if_pos hc] at h
      refine X.iinc (v := (a2 + 1)) (L' := [some (.ref a0), some (.int a1), some (.int (a2 + 1))]) (pc' := 28) dX8_usesArc_25 rfl rfl (congrArg (fun y => a2 + y) (show Int32.ofInt 1 = 1 by decide)) (Nat.le_of_ble_eq_true rfl) rfl ?_
      refine X.goto (pc' := 2) dX8_usesArc_28 (by decide) ?_
      exact hk2 _ _ _ _ h
    · rw [if_neg hc] at h
      refine X.iconst (v := 1) (pc' := 24) dX8_usesArc_23 rfl (by decide) ?_
      cases h
      exact X.iret (ty := .boolean) dX8_usesArc_24 rfl rfl (Nat.le_of_ble_eq_true rfl) (Nat.le_of_ble_eq_true rfl) rfl
def f_X8_usesArc_2 (fu : Nat) (k31 : Nat → Int32 → List Ob → Option (Int32 × List Ob)) : Nat → Nat → Int32 → Int32 → List Ob → Option (Int32 × List Ob)
  | 0, _, _, _, _ => none
  | n + 1, a0, a1, a2, M => f_X8_usesArc_2b fu a0 a1 a2 M (fun a0 a1 a2 M => f_X8_usesArc_2 fu k31 n a0 a1 a2 M) k31
theorem ok_X8_usesArc_2 {G : GT} {fu : Nat} {out : Int32 × List Ob} {k31 : Nat → Int32 → List Ob → Option (Int32 × List Ob)} (hk31 : ∀ (a0 : Nat) (a1 : Int32) (M : List Ob), k31 a0 a1 M = some out → X G t_X8_usesArc [] 31 [some (.ref a0), some (.int a1), none] [] M 0 0 (oI out)) : ∀ (n : Nat) (a0 : Nat) (a1 : Int32) (a2 : Int32) (M : List Ob), f_X8_usesArc_2 fu k31 n a0 a1 a2 M = some out → X G t_X8_usesArc [] 2 [some (.ref a0), some (.int a1), some (.int a2)] [] M 0 0 (oI out) := by
  intro n
  induction n with
  | zero =>
    intro a0 a1 a2 M h
    unfold f_X8_usesArc_2 at h
    cases h
  | succ n ih =>
    intro a0 a1 a2 M h
    unfold f_X8_usesArc_2 at h
    exact ok_X8_usesArc_2b ih hk31 h
def f_X8_usesArc_31 (fu : Nat) (a0 : Nat) (a1 : Int32) (M : List Ob) : Option (Int32 × List Ob) :=
  (gP M a0 8 1).bind fun r1 =>
  (hasO M r1 5).bind fun _ =>
  bd2 (f_X5_hasArc fu r1 a1 M) fun v3 M4 =>
  if v3 &&& 1 = v3 then some (v3, M4) else none
set_option maxHeartbeats 4000000 in
theorem ok_X8_usesArc_31 {G : GT} {fu : Nat} {out : Int32 × List Ob} {a0 : Nat} {a1 : Int32} {M : List Ob} (h : f_X8_usesArc_31 fu a0 a1 M = some out) : X G t_X8_usesArc [] 31 [some (.ref a0), some (.int a1), none] [] M 0 0 (oI out) := by
  unfold f_X8_usesArc_31 at h
  refine X.aload_n (x := a0) (pc' := 32) dX8_usesArc_31 rfl rfl rfl ?_
  obtain ⟨r1, e2, h⟩ := bindE h
  refine X.getf (pc' := 35) dX8_usesArc_32 rfl fq_X8_21 (gP_spec e2) ?_
  refine X.iload_n (x := a1) (pc' := 36) dX8_usesArc_35 rfl rfl rfl ?_
  obtain ⟨⟨⟩, e6, h⟩ := bindE h
  obtain ⟨v3, M4, e5, h⟩ := bd2E h
  refine X.callV (b := r1) (v := some (.int v3)) (As := [.int a1]) (st := []) (M' := M4) (pc' := 39) dX8_usesArc_36 rfl cl_X8_54 mi_X5_hasArc me_X5_hasArc mr_X5_hasArc e6 ⟨⟨Nat.le_of_ble_eq_true rfl, Nat.le_of_ble_eq_true rfl⟩, Nat.le_of_ble_eq_true rfl, Nat.le_of_ble_eq_true rfl⟩ rfl (Nat.le_of_ble_eq_true rfl) (ok_X5_hasArc (G := zs G) e5) ?_
  show X G t_X8_usesArc [] 39 [some (.ref a0), some (.int a1), none] [.int v3] M4 0 0 _
  split at h
  rotate_left
  · cases h
  rename_i hz1
  cases h
  exact X.iret (ty := .boolean) dX8_usesArc_39 rfl (congrArg Value.int hz1) (Nat.le_of_ble_eq_true rfl) (Nat.le_of_ble_eq_true rfl) rfl
def f_X8_usesArc (fu : Nat) (a0 : Nat) (a1 : Int32) (M : List Ob) : Option (Int32 × List Ob) :=
  f_X8_usesArc_2 fu (fun x1 x2 M3 => f_X8_usesArc_31 fu x1 x2 M3) fu a0 a1 0 M
set_option maxHeartbeats 4000000 in
theorem ok_X8_usesArc {G : GT} {fu : Nat} {a0 : Nat} {a1 : Int32} {M : List Ob} {out : Int32 × List Ob} (h : f_X8_usesArc fu a0 a1 M = some out) : Sp G t_X8_usesArc [.ref a0, .int a1] M (oI out) := by
  refine Sp.of rfl (by decide +kernel) (cat_all rfl) (Nat.le_of_ble_eq_true rfl) ?_
  show X G t_X8_usesArc [] 0 [some (.ref a0), some (.int a1), none] [] M 0 0 (oI out)
  unfold f_X8_usesArc at h
  refine X.iconst (v := 0) (pc' := 1) dX8_usesArc_0 rfl (by decide) ?_
  refine X.istore_n (L' := [some (.ref a0), some (.int a1), some (.int 0)]) (pc' := 2) dX8_usesArc_1 rfl rfl (Nat.le_of_ble_eq_true rfl) rfl ?_
  refine ok_X8_usesArc_2 ?_ fu _ _ _ _ h
  · intro x1 x2 M3 h
    exact ok_X8_usesArc_31 h
def f_X8_takeArcOut_18b (fu : Nat) (a0 : Nat) (a1 : Int32) (a2 : Int32) (M : List Ob) (k18 : Nat → Int32 → Int32 → List Ob → Option (Unit × List Ob)) : Option (Unit × List Ob) :=
  (gI M a0 8 3).bind fun v1 =>
  if v1 ≤ a2 then (some ((), M))
  else ((gP M a0 8 2).bind fun r3 =>
  (aP M r3 14 a2).bind fun r6 =>
  (hasO M r6 5).bind fun _ =>
  bd2 (f_X5_renumberBehind fu r6 a1 M) fun _ M8 =>
  k18 a0 a1 (a2 + 1) M8)
set_option maxHeartbeats 4000000 in
theorem ok_X8_takeArcOut_18b {G : GT} {fu : Nat} {out : Unit × List Ob} {a0 : Nat} {a1 : Int32} {a2 : Int32} {M : List Ob} {k18 : Nat → Int32 → Int32 → List Ob → Option (Unit × List Ob)} (hk18 : ∀ (a0 : Nat) (a1 : Int32) (a2 : Int32) (M : List Ob), k18 a0 a1 a2 M = some out → X G t_X8_takeArcOut [] 18 [some (.ref a0), some (.int a1), some (.int a2)] [] M 0 0 (oU out)) (h : f_X8_takeArcOut_18b fu a0 a1 a2 M k18 = some out) : X G t_X8_takeArcOut [] 18 [some (.ref a0), some (.int a1), some (.int a2)] [] M 0 0 (oU out) := by
  unfold f_X8_takeArcOut_18b at h
  refine X.iload_n (x := a2) (pc' := 19) dX8_takeArcOut_18 rfl rfl rfl ?_
  refine X.aload_n (x := a0) (pc' := 20) dX8_takeArcOut_19 rfl rfl rfl ?_
  obtain ⟨v1, e2, h⟩ := bindE h
  refine X.getf (pc' := 23) dX8_takeArcOut_20 rfl fq_X8_43 (gI_spec e2) ?_
  refine X.icmp_ge (tgt := 42) (pc' := 26) dX8_takeArcOut_23 (by decide) rfl (fun hc => ?_) (fun hc => ?_)
  · rw [if_pos hc] at h
    cases h
    exact X.vret dX8_takeArcOut_42 rfl (Nat.le_of_ble_eq_true rfl) (Nat.le_of_ble_eq_true rfl) rfl
  · rw [if_neg hc] at h
    refine X.aload_n (x := a0) (pc' := 27) dX8_takeArcOut_26 rfl rfl rfl ?_
    obtain ⟨r3, e4, h⟩ := bindE h
    refine X.getf (pc' := 30) dX8_takeArcOut_27 rfl fq_X8_25 (gP_spec e4) ?_
    refine X.iload_n (x := a2) (pc' := 31) dX8_takeArcOut_30 rfl rfl rfl ?_
    obtain ⟨r6, e5, h⟩ := bindE h
    refine X.aald (pc' := 32) dX8_takeArcOut_31 rfl (by decide) e5 ?_
    refine X.iload_n (x := a1) (pc' := 33) dX8_takeArcOut_32 rfl rfl rfl ?_
    obtain ⟨⟨⟩, e10, h⟩ := bindE h
    obtain ⟨r7, M8, e9, h⟩ := bd2E h
    refine X.callV (b := r6) (v := none) (As := [.int a1]) (st := []) (M' := M8) (pc' := 36) dX8_takeArcOut_33 rfl cl_X8_62 mi_X5_renumberBehind me_X5_renumberBehind mr_X5_renumberBehind e10 ⟨⟨Nat.le_of_ble_eq_true rfl, Nat.le_of_ble_eq_true rfl⟩, Nat.le_of_ble_eq_true rfl, Nat.le_of_ble_eq_true rfl⟩ rfl (Nat.le_of_ble_eq_true rfl) (ok_X5_renumberBehind (G := zs G) e9) ?_
    show X G t_X8_takeArcOut [] 36 [some (.ref a0), some (.int a1), some (.int a2)] [] M8 0 0 _
    refine X.iinc (v := (a2 + 1)) (L' := [some (.ref a0), some (.int a1), some (.int (a2 + 1))]) (pc' := 39) dX8_takeArcOut_36 rfl rfl (congrArg (fun y => a2 + y) (show Int32.ofInt 1 = 1 by decide)) (Nat.le_of_ble_eq_true rfl) rfl ?_
    refine X.goto (pc' := 18) dX8_takeArcOut_39 (by decide) ?_
    exact hk18 _ _ _ _ h
def f_X8_takeArcOut_18 (fu : Nat) : Nat → Nat → Int32 → Int32 → List Ob → Option (Unit × List Ob)
  | 0, _, _, _, _ => none
  | n + 1, a0, a1, a2, M => f_X8_takeArcOut_18b fu a0 a1 a2 M (fun a0 a1 a2 M => f_X8_takeArcOut_18 fu n a0 a1 a2 M)
theorem ok_X8_takeArcOut_18 {G : GT} {fu : Nat} {out : Unit × List Ob} : ∀ (n : Nat) (a0 : Nat) (a1 : Int32) (a2 : Int32) (M : List Ob), f_X8_takeArcOut_18 fu n a0 a1 a2 M = some out → X G t_X8_takeArcOut [] 18 [some (.ref a0), some (.int a1), some (.int a2)] [] M 0 0 (oU out) := by
  intro n
  induction n with
  | zero =>
    intro a0 a1 a2 M h
    unfold f_X8_takeArcOut_18 at h
    cases h
  | succ n ih =>
    intro a0 a1 a2 M h
    unfold f_X8_takeArcOut_18 at h
    exact ok_X8_takeArcOut_18b ih h
def f_X8_takeArcOut (fu : Nat) (a0 : Nat) (a1 : Int32) (M : List Ob) : Option (Unit × List Ob) :=
  (gP M a0 8 0).bind fun r1 =>
  (hasO M r1 4).bind fun _ =>
  bd2 (f_X4_takeOut fu r1 a1 M) fun _ M4 =>
  (gP M4 a0 8 1).bind fun r7 =>
  (hasO M4 r7 5).bind fun _ =>
  bd2 (f_X5_renumberBehind fu r7 a1 M4) fun _ M10 =>
  f_X8_takeArcOut_18 fu  fu a0 a1 0 M10
set_option maxHeartbeats 4000000 in
theorem ok_X8_takeArcOut {G : GT} {fu : Nat} {a0 : Nat} {a1 : Int32} {M : List Ob} {out : Unit × List Ob} (h : f_X8_takeArcOut fu a0 a1 M = some out) : Sp G t_X8_takeArcOut [.ref a0, .int a1] M (oU out) := by
  refine Sp.of rfl (by decide +kernel) (cat_all rfl) (Nat.le_of_ble_eq_true rfl) ?_
  show X G t_X8_takeArcOut [] 0 [some (.ref a0), some (.int a1), none] [] M 0 0 (oU out)
  unfold f_X8_takeArcOut at h
  refine X.aload_n (x := a0) (pc' := 1) dX8_takeArcOut_0 rfl rfl rfl ?_
  obtain ⟨r1, e2, h⟩ := bindE h
  refine X.getf (pc' := 4) dX8_takeArcOut_1 rfl fq_X8_12 (gP_spec e2) ?_
  refine X.iload_n (x := a1) (pc' := 5) dX8_takeArcOut_4 rfl rfl rfl ?_
  obtain ⟨⟨⟩, e6, h⟩ := bindE h
  obtain ⟨r3, M4, e5, h⟩ := bd2E h
  refine X.callV (b := r1) (v := none) (As := [.int a1]) (st := []) (M' := M4) (pc' := 8) dX8_takeArcOut_5 rfl cl_X8_58 mi_X4_takeOut me_X4_takeOut mr_X4_takeOut e6 ⟨⟨Nat.le_of_ble_eq_true rfl, Nat.le_of_ble_eq_true rfl⟩, Nat.le_of_ble_eq_true rfl, Nat.le_of_ble_eq_true rfl⟩ rfl (Nat.le_of_ble_eq_true rfl) (ok_X4_takeOut (G := zs G) e5) ?_
  show X G t_X8_takeArcOut [] 8 [some (.ref a0), some (.int a1), none] [] M4 0 0 _
  refine X.aload_n (x := a0) (pc' := 9) dX8_takeArcOut_8 rfl rfl rfl ?_
  obtain ⟨r7, e8, h⟩ := bindE h
  refine X.getf (pc' := 12) dX8_takeArcOut_9 rfl fq_X8_21 (gP_spec e8) ?_
  refine X.iload_n (x := a1) (pc' := 13) dX8_takeArcOut_12 rfl rfl rfl ?_
  obtain ⟨⟨⟩, e12, h⟩ := bindE h
  obtain ⟨r9, M10, e11, h⟩ := bd2E h
  refine X.callV (b := r7) (v := none) (As := [.int a1]) (st := []) (M' := M10) (pc' := 16) dX8_takeArcOut_13 rfl cl_X8_62 mi_X5_renumberBehind me_X5_renumberBehind mr_X5_renumberBehind e12 ⟨⟨Nat.le_of_ble_eq_true rfl, Nat.le_of_ble_eq_true rfl⟩, Nat.le_of_ble_eq_true rfl, Nat.le_of_ble_eq_true rfl⟩ rfl (Nat.le_of_ble_eq_true rfl) (ok_X5_renumberBehind (G := zs G) e11) ?_
  show X G t_X8_takeArcOut [] 16 [some (.ref a0), some (.int a1), none] [] M10 0 0 _
  refine X.iconst (v := 0) (pc' := 17) dX8_takeArcOut_16 rfl (by decide) ?_
  refine X.istore_n (L' := [some (.ref a0), some (.int a1), some (.int 0)]) (pc' := 18) dX8_takeArcOut_17 rfl rfl (Nat.le_of_ble_eq_true rfl) rfl ?_
  refine ok_X8_takeArcOut_18  fu _ _ _ _ h
def f_X8_addTold (fu : Nat) (a0 : Nat) (a1 : Nat) (M : List Ob) : Option (Unit × List Ob) :=
  (gI M a0 8 3).bind fun v1 =>
  if 6 ≤ v1 then (some ((), M))
  else ((gP M a0 8 2).bind fun r3 =>
  (gI M a0 8 3).bind fun v5 =>
  (aP M r3 14 v5).bind fun r8 =>
  (hasO M r8 5).bind fun _ =>
  bd2 (f_X5_copyFrom fu r8 a1 M) fun _ M10 =>
  (gI M10 a0 8 3).bind fun v13 =>
  (pF M10 a0 8 3 (.int (v13 + 1))).bind fun M15 =>
  some ((), M15))
set_option maxHeartbeats 4000000 in
theorem ok_X8_addTold {G : GT} (hz : gZ G = false) {fu : Nat} {a0 : Nat} {a1 : Nat} {M : List Ob} {out : Unit × List Ob} (h : f_X8_addTold fu a0 a1 M = some out) : Sp G t_X8_addTold [.ref a0, .ref a1] M (oU out) := by
  refine Sp.of rfl (by decide +kernel) (cat_all rfl) (Nat.le_of_ble_eq_true rfl) ?_
  show X G t_X8_addTold [] 0 [some (.ref a0), some (.ref a1)] [] M 0 0 (oU out)
  unfold f_X8_addTold at h
  refine X.aload_n (x := a0) (pc' := 1) dX8_addTold_0 rfl rfl rfl ?_
  obtain ⟨v1, e2, h⟩ := bindE h
  refine X.getf (pc' := 4) dX8_addTold_1 rfl fq_X8_43 (gI_spec e2) ?_
  refine X.bipush (v := 6) (pc' := 6) dX8_addTold_4 rfl (by decide) ?_
  refine X.icmp_ge (tgt := 32) (pc' := 9) dX8_addTold_6 (by decide) rfl (fun hc => ?_) (fun hc => ?_)
  · rw [if_pos hc] at h
    cases h
    exact X.vret dX8_addTold_32 rfl (Nat.le_of_ble_eq_true rfl) (Nat.le_of_ble_eq_true rfl) rfl
  · rw [if_neg hc] at h
    refine X.aload_n (x := a0) (pc' := 10) dX8_addTold_9 rfl rfl rfl ?_
    obtain ⟨r3, e4, h⟩ := bindE h
    refine X.getf (pc' := 13) dX8_addTold_10 rfl fq_X8_25 (gP_spec e4) ?_
    refine X.aload_n (x := a0) (pc' := 14) dX8_addTold_13 rfl rfl rfl ?_
    obtain ⟨v5, e6, h⟩ := bindE h
    refine X.getf (pc' := 17) dX8_addTold_14 rfl fq_X8_43 (gI_spec e6) ?_
    obtain ⟨r8, e7, h⟩ := bindE h
    refine X.aald (pc' := 18) dX8_addTold_17 rfl (by decide) e7 ?_
    refine X.aload_n (x := a1) (pc' := 19) dX8_addTold_18 rfl rfl rfl ?_
    obtain ⟨⟨⟩, e12, h⟩ := bindE h
    obtain ⟨r9, M10, e11, h⟩ := bd2E h
    refine X.callV (b := r8) (v := none) (As := [.ref a1]) (st := []) (M' := M10) (pc' := 22) dX8_addTold_19 rfl cl_X8_65 mi_X5_copyFrom me_X5_copyFrom mr_X5_copyFrom e12 ⟨⟨Nat.le_of_ble_eq_true rfl, Nat.le_of_ble_eq_true rfl⟩, Nat.le_of_ble_eq_true rfl, Nat.le_of_ble_eq_true rfl⟩ rfl (Nat.le_of_ble_eq_true rfl) (ok_X5_copyFrom (G := zs G) (hz := hz) e11) ?_
    show X G t_X8_addTold [] 22 [some (.ref a0), some (.ref a1)] [] M10 0 0 _
    refine X.aload_n (x := a0) (pc' := 23) dX8_addTold_22 rfl rfl rfl ?_
    refine X.dup (pc' := 24) dX8_addTold_23 rfl rfl ?_
    obtain ⟨v13, e14, h⟩ := bindE h
    refine X.getf (pc' := 27) dX8_addTold_24 rfl fq_X8_43 (gI_spec e14) ?_
    refine X.iconst (v := 1) (pc' := 28) dX8_addTold_27 rfl (by decide) ?_
    refine X.iadd (pc' := 29) dX8_addTold_28 rfl ?_
    obtain ⟨M15, e16, h⟩ := bindE h
    refine X.putf (pc' := 32) dX8_addTold_29 rfl fq_X8_43 rfl rfl e16 ?_
    cases h
    exact X.vret dX8_addTold_32 rfl (Nat.le_of_ble_eq_true rfl) (Nat.le_of_ble_eq_true rfl) rfl
def f_X8_takeToldOut_2b (fu : Nat) (a0 : Nat) (a2 : Int32) (M : List Ob) (k2 : Nat → Int32 → List Ob → Option (Unit × List Ob)) (k35 : Nat → List Ob → Option (Unit × List Ob)) : Option (Unit × List Ob) :=
  (gI M a0 8 3).bind fun v1 =>
  if (v1 - 1) ≤ a2 then (k35 a0 M)
  else ((gP M a0 8 2).bind fun r3 =>
  (aP M r3 14 a2).bind fun r6 =>
  (gP M a0 8 2).bind fun r7 =>
  (aP M r7 14 (a2 + 1)).bind fun r10 =>
  (hasO M r6 5).bind fun _ =>
  bd2 (f_X5_copyFrom fu r6 r10 M) fun _ M12 =>
  k2 a0 (a2 + 1) M12)
set_option maxHeartbeats 4000000 in
theorem ok_X8_takeToldOut_2b {G : GT} {fu : Nat} {out : Unit × List Ob} (hz : gZ G = false) {a0 : Nat} {a2 : Int32} {M : List Ob} {k2 : Nat → Int32 → List Ob → Option (Unit × List Ob)} {k35 : Nat → List Ob → Option (Unit × List Ob)} (hk2 : ∀ (a0 : Nat) (a2 : Int32) (M : List Ob), k2 a0 a2 M = some out → X G t_X8_takeToldOut [] 2 [some (.ref a0), none, some (.int a2)] [] M 0 0 (oU out)) (hk35 : ∀ (a0 : Nat) (M : List Ob), k35 a0 M = some out → X G t_X8_takeToldOut [] 35 [some (.ref a0), none, none] [] M 0 0 (oU out)) (h : f_X8_takeToldOut_2b fu a0 a2 M k2 k35 = some out) : X G t_X8_takeToldOut [] 2 [some (.ref a0), none, some (.int a2)] [] M 0 0 (oU out) := by
  unfold f_X8_takeToldOut_2b at h
  refine X.iload_n (x := a2) (pc' := 3) dX8_takeToldOut_2 rfl rfl rfl ?_
  refine X.aload_n (x := a0) (pc' := 4) dX8_takeToldOut_3 rfl rfl rfl ?_
  obtain ⟨v1, e2, h⟩ := bindE h
  refine X.getf (pc' := 7) dX8_takeToldOut_4 rfl fq_X8_43 (gI_spec e2) ?_
  refine X.iconst (v := 1) (pc' := 8) dX8_takeToldOut_7 rfl (by decide) ?_
  refine X.isub (pc' := 9) dX8_takeToldOut_8 rfl ?_
  refine X.icmp_ge (tgt := 35) (pc' := 12) dX8_takeToldOut_9 (by decide) rfl (fun hc => ?_) (fun hc => ?_)
  · rw [if_pos hc] at h
    refine X.sub (L := [some (.ref a0), none, none]) ?_ (⟨rfl, trivial⟩)
    exact hk35 _ _ h
  · rw [if_neg hc] at h
    refine X.aload_n (x := a0) (pc' := 13) dX8_takeToldOut_12 rfl rfl rfl ?_
    obtain ⟨r3, e4, h⟩ := bindE h
    refine X.getf (pc' := 16) dX8_takeToldOut_13 rfl fq_X8_25 (gP_spec e4) ?_
    refine X.iload_n (x := a2) (pc' := 17) dX8_takeToldOut_16 rfl rfl rfl ?_
    obtain ⟨r6, e5, h⟩ := bindE h
    refine X.aald (pc' := 18) dX8_takeToldOut_17 rfl (by decide) e5 ?_
    refine X.aload_n (x := a0) (pc' := 19) dX8_takeToldOut_18 rfl rfl rfl ?_
    obtain ⟨r7, e8, h⟩ := bindE h
    refine X.getf (pc' := 22) dX8_takeToldOut_19 rfl fq_X8_25 (gP_spec e8) ?_
    refine X.iload_n (x := a2) (pc' := 23) dX8_takeToldOut_22 rfl rfl rfl ?_
    refine X.iconst (v := 1) (pc' := 24) dX8_takeToldOut_23 rfl (by decide) ?_
    refine X.iadd (pc' := 25) dX8_takeToldOut_24 rfl ?_
    obtain ⟨r10, e9, h⟩ := bindE h
    refine X.aald (pc' := 26) dX8_takeToldOut_25 rfl (by decide) e9 ?_
    obtain ⟨⟨⟩, e14, h⟩ := bindE h
    obtain ⟨r11, M12, e13, h⟩ := bd2E h
    refine X.callV (b := r6) (v := none) (As := [.ref r10]) (st := []) (M' := M12) (pc' := 29) dX8_takeToldOut_26 rfl cl_X8_65 mi_X5_copyFrom me_X5_copyFrom mr_X5_copyFrom e14 ⟨⟨Nat.le_of_ble_eq_true rfl, Nat.le_of_ble_eq_true rfl⟩, Nat.le_of_ble_eq_true rfl, Nat.le_of_ble_eq_true rfl⟩ rfl (Nat.le_of_ble_eq_true rfl) (ok_X5_copyFrom (G := zs G) (hz := hz) e13) ?_
    show X G t_X8_takeToldOut [] 29 [some (.ref a0), none, some (.int a2)] [] M12 0 0 _
    refine X.iinc (v := (a2 + 1)) (L' := [some (.ref a0), none, some (.int (a2 + 1))]) (pc' := 32) dX8_takeToldOut_29 rfl rfl (congrArg (fun y => a2 + y) (show Int32.ofInt 1 = 1 by decide)) (Nat.le_of_ble_eq_true rfl) rfl ?_
    refine X.goto (pc' := 2) dX8_takeToldOut_32 (by decide) ?_
    exact hk2 _ _ _ h
def f_X8_takeToldOut_2 (fu : Nat) (k35 : Nat → List Ob → Option (Unit × List Ob)) : Nat → Nat → Int32 → List Ob → Option (Unit × List Ob)
  | 0, _, _, _ => none
  | n + 1, a0, a2, M => f_X8_takeToldOut_2b fu a0 a2 M (fun a0 a2 M => f_X8_takeToldOut_2 fu k35 n a0 a2 M) k35
theorem ok_X8_takeToldOut_2 {G : GT} {fu : Nat} {out : Unit × List Ob} (hz : gZ G = false) {k35 : Nat → List Ob → Option (Unit × List Ob)} (hk35 : ∀ (a0 : Nat) (M : List Ob), k35 a0 M = some out → X G t_X8_takeToldOut [] 35 [some (.ref a0), none, none] [] M 0 0 (oU out)) : ∀ (n : Nat) (a0 : Nat) (a2 : Int32) (M : List Ob), f_X8_takeToldOut_2 fu k35 n a0 a2 M = some out → X G t_X8_takeToldOut [] 2 [some (.ref a0), none, some (.int a2)] [] M 0 0 (oU out) := by
  intro n
  induction n with
  | zero =>
    intro a0 a2 M h
    unfold f_X8_takeToldOut_2 at h
    cases h
  | succ n ih =>
    intro a0 a2 M h
    unfold f_X8_takeToldOut_2 at h
    exact ok_X8_takeToldOut_2b hz ih hk35 h
def f_X8_takeToldOut_35 (fu : Nat) (a0 : Nat) (M : List Ob) : Option (Unit × List Ob) :=
  (gI M a0 8 3).bind fun v1 =>
  (pF M a0 8 3 (.int (v1 - 1))).bind fun M3 =>
  some ((), M3)
set_option maxHeartbeats 4000000 in
theorem ok_X8_takeToldOut_35 {G : GT} {fu : Nat} {out : Unit × List Ob} (hz : gZ G = false) {a0 : Nat} {M : List Ob} (h : f_X8_takeToldOut_35 fu a0 M = some out) : X G t_X8_takeToldOut [] 35 [some (.ref a0), none, none] [] M 0 0 (oU out) := by
  unfold f_X8_takeToldOut_35 at h
  refine X.aload_n (x := a0) (pc' := 36) dX8_takeToldOut_35 rfl rfl rfl ?_
  refine X.dup (pc' := 37) dX8_takeToldOut_36 rfl rfl ?_
  obtain ⟨v1, e2, h⟩ := bindE h
  refine X.getf (pc' := 40) dX8_takeToldOut_37 rfl fq_X8_43 (gI_spec e2) ?_
  refine X.iconst (v := 1) (pc' := 41) dX8_takeToldOut_40 rfl (by decide) ?_
  refine X.isub (pc' := 42) dX8_takeToldOut_41 rfl ?_
  obtain ⟨M3, e4, h⟩ := bindE h
  refine X.putf (pc' := 45) dX8_takeToldOut_42 rfl fq_X8_43 rfl rfl e4 ?_
  cases h
  exact X.vret dX8_takeToldOut_45 rfl (Nat.le_of_ble_eq_true rfl) (Nat.le_of_ble_eq_true rfl) rfl
def f_X8_takeToldOut (fu : Nat) (a0 : Nat) (a1 : Int32) (M : List Ob) : Option (Unit × List Ob) :=
  f_X8_takeToldOut_2 fu (fun x1 M2 => f_X8_takeToldOut_35 fu x1 M2) fu a0 a1 M
set_option maxHeartbeats 4000000 in
theorem ok_X8_takeToldOut {G : GT} (hz : gZ G = false) {fu : Nat} {a0 : Nat} {a1 : Int32} {M : List Ob} {out : Unit × List Ob} (h : f_X8_takeToldOut fu a0 a1 M = some out) : Sp G t_X8_takeToldOut [.ref a0, .int a1] M (oU out) := by
  refine Sp.of rfl (by decide +kernel) (cat_all rfl) (Nat.le_of_ble_eq_true rfl) ?_
  show X G t_X8_takeToldOut [] 0 [some (.ref a0), some (.int a1), none] [] M 0 0 (oU out)
  unfold f_X8_takeToldOut at h
  refine X.iload_n (x := a1) (pc' := 1) dX8_takeToldOut_0 rfl rfl rfl ?_
  refine X.istore_n (L' := [some (.ref a0), some (.int a1), some (.int a1)]) (pc' := 2) dX8_takeToldOut_1 rfl rfl (Nat.le_of_ble_eq_true rfl) rfl ?_
  refine X.sub (L := [some (.ref a0), none, some (.int a1)]) ?_ (⟨rfl, ⟨rfl, trivial⟩⟩)
  refine ok_X8_takeToldOut_2 hz ?_ fu _ _ _ h
  · intro x1 M2 h
    exact ok_X8_takeToldOut_35 hz h
def f_X9_init (fu : Nat) (a0 : Nat) (M : List Ob) : Option (Unit × List Ob) :=
  bd2 (newO M (12, List.replicate 600 (.int 0))) fun r1 M2 =>
  (pF M2 a0 9 0 (.ref r1)).bind fun M4 =>
  (pF M4 a0 9 1 (.int 0)).bind fun M6 =>
  (pF M6 a0 9 2 (.int 0)).bind fun M8 =>
  (pF M8 a0 9 3 (.int 0)).bind fun M10 =>
  (pF M10 a0 9 4 (.int 0)).bind fun M12 =>
  (pF M12 a0 9 5 (.int (-1))).bind fun M14 =>
  some ((), M14)
set_option maxHeartbeats 4000000 in
theorem ok_X9_init {G : GT} (hR : Row G) {fu : Nat} {a0 : Nat} {M : List Ob} {out : Unit × List Ob} (h : f_X9_init fu a0 M = some out) : Sp G t_X9_init [.ref a0] M (oU out) := by
  refine Sp.of rfl (by decide +kernel) (cat_all rfl) (Nat.le_of_ble_eq_true rfl) ?_
  show X G t_X9_init [] 0 [some (.ref a0)] [] M 0 0 (oU out)
  unfold f_X9_init at h
  refine X.aload_n (x := a0) (pc' := 1) dX9_init_0 rfl rfl rfl ?_
  refine X.objI (pc' := 4) dX9_init_1 rfl (TBg_of 273 (by decide +kernel) rfl) (Nat.le_of_ble_eq_true rfl) (Nat.le_of_ble_eq_true rfl) ?_
  refine X.aload_n (x := a0) (pc' := 5) dX9_init_4 rfl rfl rfl ?_
  refine X.sipush (v := 600) (pc' := 8) dX9_init_5 rfl (by decide) ?_
  obtain ⟨r1, M2, e3, h⟩ := bd2E h
  refine X.newi (kd := 12) (N := 600) (dv := .int 0) (pc' := 10) dX9_init_8 rfl (Or.inl ⟨rfl, rfl, rfl⟩) (TBg_of 296 (by decide +kernel) rfl) (by decide) (by decide) (Nat.le_of_ble_eq_true rfl) hR (Nat.le_of_ble_eq_true rfl) (Nat.le_of_ble_eq_true rfl) e3 ?_
  show X G t_X9_init [] 10 [some (.ref a0)] [.ref r1, .ref a0] M2 1 600 _
  obtain ⟨M4, e5, h⟩ := bindE h
  refine X.putF (pc' := 13) dX9_init_10 rfl fq_X9_9 rfl (fun r hr => by cases hr; rfl) rfl rfl e5 ?_
  refine X.aload_n (x := a0) (pc' := 14) dX9_init_13 rfl rfl rfl ?_
  refine X.iconst (v := 0) (pc' := 15) dX9_init_14 rfl (by decide) ?_
  obtain ⟨M6, e7, h⟩ := bindE h
  refine X.putf (pc' := 18) dX9_init_15 rfl fq_X9_15 rfl rfl e7 ?_
  refine X.aload_n (x := a0) (pc' := 19) dX9_init_18 rfl rfl rfl ?_
  refine X.iconst (v := 0) (pc' := 20) dX9_init_19 rfl (by decide) ?_
  obtain ⟨M8, e9, h⟩ := bindE h
  refine X.putf (pc' := 23) dX9_init_20 rfl fq_X9_19 rfl rfl e9 ?_
  refine X.aload_n (x := a0) (pc' := 24) dX9_init_23 rfl rfl rfl ?_
  refine X.iconst (v := 0) (pc' := 25) dX9_init_24 rfl (by decide) ?_
  obtain ⟨M10, e11, h⟩ := bindE h
  refine X.putf (pc' := 28) dX9_init_25 rfl fq_X9_22 rfl rfl e11 ?_
  refine X.aload_n (x := a0) (pc' := 29) dX9_init_28 rfl rfl rfl ?_
  refine X.iconst (v := 0) (pc' := 30) dX9_init_29 rfl (by decide) ?_
  obtain ⟨M12, e13, h⟩ := bindE h
  refine X.putf (pc' := 33) dX9_init_30 rfl fq_X9_25 rfl rfl e13 ?_
  refine X.aload_n (x := a0) (pc' := 34) dX9_init_33 rfl rfl rfl ?_
  refine X.iconst (v := (-1)) (pc' := 35) dX9_init_34 rfl (by decide) ?_
  obtain ⟨M14, e15, h⟩ := bindE h
  refine X.putf (pc' := 38) dX9_init_35 rfl fq_X9_28 rfl rfl e15 ?_
  cases h
  exact X.vret dX9_init_38 rfl (Nat.le_of_ble_eq_true rfl) (Nat.le_of_ble_eq_true rfl) rfl
def f_X9_addBytes_40 (fu : Nat) (a0 : Nat) (a1 : Int32) (a2 : Int32) (M : List Ob) (k3 : Nat → Int32 → Int32 → List Ob → Option (Unit × List Ob)) : Option (Unit × List Ob) :=
  k3 a0 a1 (a2 + (-8)) M
set_option maxHeartbeats 4000000 in
theorem ok_X9_addBytes_40 {G : GT} {fu : Nat} {out : Unit × List Ob} {a0 : Nat} {a1 : Int32} {a2 : Int32} {M : List Ob} {k3 : Nat → Int32 → Int32 → List Ob → Option (Unit × List Ob)} (hk3 : ∀ (a0 : Nat) (a1 : Int32) (a2 : Int32) (M : List Ob), k3 a0 a1 a2 M = some out → X G t_X9_addBytes [] 3 [some (.ref a0), some (.int a1), some (.int a2)] [] M 0 0 (oU out)) (h : f_X9_addBytes_40 fu a0 a1 a2 M k3 = some out) : X G t_X9_addBytes [] 40 [some (.ref a0), some (.int a1), some (.int a2)] [] M 0 0 (oU out) := by
  unfold f_X9_addBytes_40 at h
  refine X.iinc (v := (a2 + (-8))) (L' := [some (.ref a0), some (.int a1), some (.int (a2 + (-8)))]) (pc' := 43) dX9_addBytes_40 rfl rfl (congrArg (fun y => a2 + y) (show Int32.ofInt (-8) = (-8) by decide)) (Nat.le_of_ble_eq_true rfl) rfl ?_
  refine X.goto (pc' := 3) dX9_addBytes_43 (by decide) ?_
  exact hk3 _ _ _ _ h
def f_X9_addBytes_3b (fu : Nat) (a0 : Nat) (a1 : Int32) (a2 : Int32) (M : List Ob) (k3 : Nat → Int32 → Int32 → List Ob → Option (Unit × List Ob)) : Option (Unit × List Ob) :=
  if a2 < 0 then (some ((), M))
  else ((gI M a0 9 1).bind fun v1 =>
  if 600 ≤ v1 then (f_X9_addBytes_40 fu a0 a1 a2 M k3)
  else ((gP M a0 9 0).bind fun r3 =>
  (gI M a0 9 1).bind fun v5 =>
  (aSet M r3 12 v5 (.int (((((a1 >>> (a2 &&& 31)) : Int32).toInt8.toInt32) : Int32).toInt8.toInt32))).bind fun M8 =>
  (gI M8 a0 9 1).bind fun v9 =>
  (pF M8 a0 9 1 (.int (v9 + 1))).bind fun M11 =>
  f_X9_addBytes_40 fu a0 a1 a2 M11 k3))
set_option maxHeartbeats 4000000 in
theorem ok_X9_addBytes_3b {G : GT} {fu : Nat} {out : Unit × List Ob} {a0 : Nat} {a1 : Int32} {a2 : Int32} {M : List Ob} {k3 : Nat → Int32 → Int32 → List Ob → Option (Unit × List Ob)} (hk3 : ∀ (a0 : Nat) (a1 : Int32) (a2 : Int32) (M : List Ob), k3 a0 a1 a2 M = some out → X G t_X9_addBytes [] 3 [some (.ref a0), some (.int a1), some (.int a2)] [] M 0 0 (oU out)) (h : f_X9_addBytes_3b fu a0 a1 a2 M k3 = some out) : X G t_X9_addBytes [] 3 [some (.ref a0), some (.int a1), some (.int a2)] [] M 0 0 (oU out) := by
  unfold f_X9_addBytes_3b at h
  refine X.iload_n (x := a2) (pc' := 4) dX9_addBytes_3 rfl rfl rfl ?_
  refine X.if_lt (tgt := 46) (pc' := 7) dX9_addBytes_4 (by decide) rfl (fun hc => ?_) (fun hc => ?_)
  · rw [if_pos hc] at h
    cases h
    exact X.vret dX9_addBytes_46 rfl (Nat.le_of_ble_eq_true rfl) (Nat.le_of_ble_eq_true rfl) rfl
  · rw [if_neg hc] at h
    refine X.aload_n (x := a0) (pc' := 8) dX9_addBytes_7 rfl rfl rfl ?_
    obtain ⟨v1, e2, h⟩ := bindE h
    refine X.getf (pc' := 11) dX9_addBytes_8 rfl fq_X9_15 (gI_spec e2) ?_
    refine X.sipush (v := 600) (pc' := 14) dX9_addBytes_11 rfl (by decide) ?_
    refine X.icmp_ge (tgt := 40) (pc' := 17) dX9_addBytes_14 (by decide) rfl (fun hc => ?_) (fun hc => ?_)
    · rw [if_pos hc] at h
      exact ok_X9_addBytes_40 hk3 h
    · rw [if_neg hc] at h
      refine X.aload_n (x := a0) (pc' := 18) dX9_addBytes_17 rfl rfl rfl ?_
      obtain ⟨r3, e4, h⟩ := bindE h
      refine X.getf (pc' := 21) dX9_addBytes_18 rfl fq_X9_9 (gP_spec e4) ?_
      refine X.aload_n (x := a0) (pc' := 22) dX9_addBytes_21 rfl rfl rfl ?_
      obtain ⟨v5, e6, h⟩ := bindE h
      refine X.getf (pc' := 25) dX9_addBytes_22 rfl fq_X9_15 (gI_spec e6) ?_
      refine X.iload_n (x := a1) (pc' := 26) dX9_addBytes_25 rfl rfl rfl ?_
      refine X.iload_n (x := a2) (pc' := 27) dX9_addBytes_26 rfl rfl rfl ?_
      refine X.ishr (pc' := 28) dX9_addBytes_27 rfl ?_
      refine X.i2b (pc' := 29) dX9_addBytes_28 rfl ?_
      obtain ⟨M8, e7, h⟩ := bindE h
      refine X.bast (pc' := 30) dX9_addBytes_29 rfl e7 ?_
      refine X.aload_n (x := a0) (pc' := 31) dX9_addBytes_30 rfl rfl rfl ?_
      refine X.dup (pc' := 32) dX9_addBytes_31 rfl rfl ?_
      obtain ⟨v9, e10, h⟩ := bindE h
      refine X.getf (pc' := 35) dX9_addBytes_32 rfl fq_X9_15 (gI_spec e10) ?_
      refine X.iconst (v := 1) (pc' := 36) dX9_addBytes_35 rfl (by decide) ?_
      refine X.iadd (pc' := 37) dX9_addBytes_36 rfl ?_
      obtain ⟨M11, e12, h⟩ := bindE h
      refine X.putf (pc' := 40) dX9_addBytes_37 rfl fq_X9_15 rfl rfl e12 ?_
      exact ok_X9_addBytes_40 hk3 h
def f_X9_addBytes_3 (fu : Nat) : Nat → Nat → Int32 → Int32 → List Ob → Option (Unit × List Ob)
  | 0, _, _, _, _ => none
  | n + 1, a0, a1, a2, M => f_X9_addBytes_3b fu a0 a1 a2 M (fun a0 a1 a2 M => f_X9_addBytes_3 fu n a0 a1 a2 M)
theorem ok_X9_addBytes_3 {G : GT} {fu : Nat} {out : Unit × List Ob} : ∀ (n : Nat) (a0 : Nat) (a1 : Int32) (a2 : Int32) (M : List Ob), f_X9_addBytes_3 fu n a0 a1 a2 M = some out → X G t_X9_addBytes [] 3 [some (.ref a0), some (.int a1), some (.int a2)] [] M 0 0 (oU out) := by
  intro n
  induction n with
  | zero =>
    intro a0 a1 a2 M h
    unfold f_X9_addBytes_3 at h
    cases h
  | succ n ih =>
    intro a0 a1 a2 M h
    unfold f_X9_addBytes_3 at h
    exact ok_X9_addBytes_3b ih h
def f_X9_addBytes (fu : Nat) (a0 : Nat) (a1 : Int32) (M : List Ob) : Option (Unit × List Ob) :=
  f_X9_addBytes_3 fu  fu a0 a1 24 M
set_option maxHeartbeats 4000000 in
theorem ok_X9_addBytes {G : GT} {fu : Nat} {a0 : Nat} {a1 : Int32} {M : List Ob} {out : Unit × List Ob} (h : f_X9_addBytes fu a0 a1 M = some out) : Sp G t_X9_addBytes [.ref a0, .int a1] M (oU out) := by
  refine Sp.of rfl (by decide +kernel) (cat_all rfl) (Nat.le_of_ble_eq_true rfl) ?_
  show X G t_X9_addBytes [] 0 [some (.ref a0), some (.int a1), none] [] M 0 0 (oU out)
  unfold f_X9_addBytes at h
  refine X.bipush (v := 24) (pc' := 2) dX9_addBytes_0 rfl (by decide) ?_
  refine X.istore_n (L' := [some (.ref a0), some (.int a1), some (.int 24)]) (pc' := 3) dX9_addBytes_2 rfl rfl (Nat.le_of_ble_eq_true rfl) rfl ?_
  refine ok_X9_addBytes_3  fu _ _ _ _ h
def f_X9_peek (fu : Nat) (a0 : Nat) (M : List Ob) : Option (Int32 × List Ob) :=
  (gI M a0 9 3).bind fun v1 =>
  (gI M a0 9 2).bind fun v3 =>
  if v3 ≤ v1 then (some (0, M))
  else ((gP M a0 9 0).bind fun r5 =>
  (gI M a0 9 3).bind fun v7 =>
  (aI M r5 12 v7).bind fun v10 =>
  some (v10, M))
set_option maxHeartbeats 4000000 in
theorem ok_X9_peek {G : GT} {fu : Nat} {a0 : Nat} {M : List Ob} {out : Int32 × List Ob} (h : f_X9_peek fu a0 M = some out) : Sp G t_X9_peek [.ref a0] M (oI out) := by
  refine Sp.of rfl (by decide +kernel) (cat_all rfl) (Nat.le_of_ble_eq_true rfl) ?_
  show X G t_X9_peek [] 0 [some (.ref a0)] [] M 0 0 (oI out)
  unfold f_X9_peek at h
  refine X.aload_n (x := a0) (pc' := 1) dX9_peek_0 rfl rfl rfl ?_
  obtain ⟨v1, e2, h⟩ := bindE h
  refine X.getf (pc' := 4) dX9_peek_1 rfl fq_X9_22 (gI_spec e2) ?_
  refine X.aload_n (x := a0) (pc' := 5) dX9_peek_4 rfl rfl rfl ?_
  obtain ⟨v3, e4, h⟩ := bindE h
  refine X.getf (pc' := 8) dX9_peek_5 rfl fq_X9_19 (gI_spec e4) ?_
  refine X.icmp_ge (tgt := 23) (pc' := 11) dX9_peek_8 (by decide) rfl (fun hc => ?_) (fun hc => ?_)
  · rw [if_pos hc] at h
    refine X.iconst (v := 0) (pc' := 24) dX9_peek_23 rfl (by decide) ?_
    cases h
    exact X.iret (ty := .int) dX9_peek_24 rfl rfl (Nat.le_of_ble_eq_true rfl) (Nat.le_of_ble_eq_true rfl) rfl
  · rw [if_neg hc] at h
    refine X.aload_n (x := a0) (pc' := 12) dX9_peek_11 rfl rfl rfl ?_
    obtain ⟨r5, e6, h⟩ := bindE h
    refine X.getf (pc' := 15) dX9_peek_12 rfl fq_X9_9 (gP_spec e6) ?_
    refine X.aload_n (x := a0) (pc' := 16) dX9_peek_15 rfl rfl rfl ?_
    obtain ⟨v7, e8, h⟩ := bindE h
    refine X.getf (pc' := 19) dX9_peek_16 rfl fq_X9_22 (gI_spec e8) ?_
    obtain ⟨v10, e9, h⟩ := bindE h
    refine X.bald (pc' := 20) dX9_peek_19 rfl e9 ?_
    refine X.goto (pc' := 24) dX9_peek_20 (by decide) ?_
    cases h
    exact X.iret (ty := .int) dX9_peek_24 rfl rfl (Nat.le_of_ble_eq_true rfl) (Nat.le_of_ble_eq_true rfl) rfl
def f_X9_skipSpaces_2b (fu : Nat) (a0 : Nat) (a1 : Int32) (M : List Ob) (k2 : Nat → Int32 → List Ob → Option (Unit × List Ob)) : Option (Unit × List Ob) :=
  if 600 ≤ a1 then (some ((), M))
  else ((hasO M a0 9).bind fun _ =>
  bd2 (f_X9_peek fu a0 M) fun v1 M2 =>
  if v1 = 32 then ((gI M2 a0 9 3).bind fun v5 =>
  (pF M2 a0 9 3 (.int (v5 + 1))).bind fun M7 =>
  k2 a0 (a1 + 1) M7)
  else (some ((), M2)))
set_option maxHeartbeats 4000000 in
theorem ok_X9_skipSpaces_2b {G : GT} {fu : Nat} {out : Unit × List Ob} {a0 : Nat} {a1 : Int32} {M : List Ob} {k2 : Nat → Int32 → List Ob → Option (Unit × List Ob)} (hk2 : ∀ (a0 : Nat) (a1 : Int32) (M : List Ob), k2 a0 a1 M = some out → X G t_X9_skipSpaces [] 2 [some (.ref a0), some (.int a1)] [] M 0 0 (oU out)) (h : f_X9_skipSpaces_2b fu a0 a1 M k2 = some out) : X G t_X9_skipSpaces [] 2 [some (.ref a0), some (.int a1)] [] M 0 0 (oU out) := by
  unfold f_X9_skipSpaces_2b at h
  refine X.iload_n (x := a1) (pc' := 3) dX9_skipSpaces_2 rfl rfl rfl ?_
  refine X.sipush (v := 600) (pc' := 6) dX9_skipSpaces_3 rfl (by decide) ?_
  refine X.icmp_ge (tgt := 34) (pc' := 9) dX9_skipSpaces_6 (by decide) rfl (fun hc => ?_) (fun hc => ?_)
  · rw [if_pos hc] at h
    cases h
    exact X.vret dX9_skipSpaces_34 rfl (Nat.le_of_ble_eq_true rfl) (Nat.le_of_ble_eq_true rfl) rfl
  · rw [if_neg hc] at h
    refine X.aload_n (x := a0) (pc' := 10) dX9_skipSpaces_9 rfl rfl rfl ?_
    obtain ⟨⟨⟩, e4, h⟩ := bindE h
    obtain ⟨v1, M2, e3, h⟩ := bd2E h
    refine X.callV (b := a0) (v := some (.int v1)) (As := []) (st := []) (M' := M2) (pc' := 13) dX9_skipSpaces_10 rfl cl_X9_63 mi_X9_peek me_X9_peek mr_X9_peek e4 ⟨⟨Nat.le_of_ble_eq_true rfl, Nat.le_of_ble_eq_true rfl⟩, Nat.le_of_ble_eq_true rfl, Nat.le_of_ble_eq_true rfl⟩ rfl (Nat.le_of_ble_eq_true rfl) (ok_X9_peek (G := zs G) e3) ?_
    show X G t_X9_skipSpaces [] 13 [some (.ref a0), some (.int a1)] [.int v1] M2 0 0 _
    refine X.bipush (v := 32) (pc' := 15) dX9_skipSpaces_13 rfl (by decide) ?_
    refine X.icmp_ne (tgt := 34) (pc' := 18) dX9_skipSpaces_15 (by decide) rfl (fun hc => ?_) (fun hc => ?_)
    · rw [if_neg hc] at h
      cases h
      exact X.vret dX9_skipSpaces_34 rfl (Nat.le_of_ble_eq_true rfl) (Nat.le_of_ble_eq_true rfl) rfl
    · rw [if_pos hc] at h
      refine X.aload_n (x := a0) (pc' := 19) dX9_skipSpaces_18 rfl rfl rfl ?_
      refine X.dup (pc' := 20) dX9_skipSpaces_19 rfl rfl ?_
      obtain ⟨v5, e6, h⟩ := bindE h
      refine X.getf (pc' := 23) dX9_skipSpaces_20 rfl fq_X9_22 (gI_spec e6) ?_
      refine X.iconst (v := 1) (pc' := 24) dX9_skipSpaces_23 rfl (by decide) ?_
      refine X.iadd (pc' := 25) dX9_skipSpaces_24 rfl ?_
      obtain ⟨M7, e8, h⟩ := bindE h
      refine X.putf (pc' := 28) dX9_skipSpaces_25 rfl fq_X9_22 rfl rfl e8 ?_
      refine X.iinc (v := (a1 + 1)) (L' := [some (.ref a0), some (.int (a1 + 1))]) (pc' := 31) dX9_skipSpaces_28 rfl rfl (congrArg (fun y => a1 + y) (show Int32.ofInt 1 = 1 by decide)) (Nat.le_of_ble_eq_true rfl) rfl ?_
      refine X.goto (pc' := 2) dX9_skipSpaces_31 (by decide) ?_
      exact hk2 _ _ _ h
def f_X9_skipSpaces_2 (fu : Nat) : Nat → Nat → Int32 → List Ob → Option (Unit × List Ob)
  | 0, _, _, _ => none
  | n + 1, a0, a1, M => f_X9_skipSpaces_2b fu a0 a1 M (fun a0 a1 M => f_X9_skipSpaces_2 fu n a0 a1 M)
theorem ok_X9_skipSpaces_2 {G : GT} {fu : Nat} {out : Unit × List Ob} : ∀ (n : Nat) (a0 : Nat) (a1 : Int32) (M : List Ob), f_X9_skipSpaces_2 fu n a0 a1 M = some out → X G t_X9_skipSpaces [] 2 [some (.ref a0), some (.int a1)] [] M 0 0 (oU out) := by
  intro n
  induction n with
  | zero =>
    intro a0 a1 M h
    unfold f_X9_skipSpaces_2 at h
    cases h
  | succ n ih =>
    intro a0 a1 M h
    unfold f_X9_skipSpaces_2 at h
    exact ok_X9_skipSpaces_2b ih h
def f_X9_skipSpaces (fu : Nat) (a0 : Nat) (M : List Ob) : Option (Unit × List Ob) :=
  f_X9_skipSpaces_2 fu  fu a0 0 M
set_option maxHeartbeats 4000000 in
theorem ok_X9_skipSpaces {G : GT} {fu : Nat} {a0 : Nat} {M : List Ob} {out : Unit × List Ob} (h : f_X9_skipSpaces fu a0 M = some out) : Sp G t_X9_skipSpaces [.ref a0] M (oU out) := by
  refine Sp.of rfl (by decide +kernel) (cat_all rfl) (Nat.le_of_ble_eq_true rfl) ?_
  show X G t_X9_skipSpaces [] 0 [some (.ref a0), none] [] M 0 0 (oU out)
  unfold f_X9_skipSpaces at h
  refine X.iconst (v := 0) (pc' := 1) dX9_skipSpaces_0 rfl (by decide) ?_
  refine X.istore_n (L' := [some (.ref a0), some (.int 0)]) (pc' := 2) dX9_skipSpaces_1 rfl rfl (Nat.le_of_ble_eq_true rfl) rfl ?_
  refine ok_X9_skipSpaces_2  fu _ _ _ h
def f_X9_isAtLetter (fu : Nat) (a0 : Nat) (M : List Ob) : Option (Int32 × List Ob) :=
  (hasO M a0 9).bind fun _ =>
  bd2 (f_X9_peek fu a0 M) fun v1 M2 =>
  if v1 < 97 then (some (0, M2))
  else ((hasO M2 a0 9).bind fun _ =>
  bd2 (f_X9_peek fu a0 M2) fun v5 M6 =>
  if 122 < v5 then (some (0, M6))
  else (some (1, M6)))
set_option maxHeartbeats 4000000 in
theorem ok_X9_isAtLetter {G : GT} {fu : Nat} {a0 : Nat} {M : List Ob} {out : Int32 × List Ob} (h : f_X9_isAtLetter fu a0 M = some out) : Sp G t_X9_isAtLetter [.ref a0] M (oI out) := by
  refine Sp.of rfl (by decide +kernel) (cat_all rfl) (Nat.le_of_ble_eq_true rfl) ?_
  show X G t_X9_isAtLetter [] 0 [some (.ref a0)] [] M 0 0 (oI out)
  unfold f_X9_isAtLetter at h
  refine X.aload_n (x := a0) (pc' := 1) dX9_isAtLetter_0 rfl rfl rfl ?_
  obtain ⟨⟨⟩, e4, h⟩ := bindE h
  obtain ⟨v1, M2, e3, h⟩ := bd2E h
  refine X.callV (b := a0) (v := some (.int v1)) (As := []) (st := []) (M' := M2) (pc' := 4) dX9_isAtLetter_1 rfl cl_X9_63 mi_X9_peek me_X9_peek mr_X9_peek e4 ⟨⟨Nat.le_of_ble_eq_true rfl, Nat.le_of_ble_eq_true rfl⟩, Nat.le_of_ble_eq_true rfl, Nat.le_of_ble_eq_true rfl⟩ rfl (Nat.le_of_ble_eq_true rfl) (ok_X9_peek (G := zs G) e3) ?_
  show X G t_X9_isAtLetter [] 4 [some (.ref a0)] [.int v1] M2 0 0 _
  refine X.bipush (v := 97) (pc' := 6) dX9_isAtLetter_4 rfl (by decide) ?_
  refine X.icmp_lt (tgt := 22) (pc' := 9) dX9_isAtLetter_6 (by decide) rfl (fun hc => ?_) (fun hc => ?_)
  · rw [if_pos hc] at h
    refine X.iconst (v := 0) (pc' := 23) dX9_isAtLetter_22 rfl (by decide) ?_
    cases h
    exact X.iret (ty := .boolean) dX9_isAtLetter_23 rfl rfl (Nat.le_of_ble_eq_true rfl) (Nat.le_of_ble_eq_true rfl) rfl
  · rw [if_neg hc] at h
    refine X.aload_n (x := a0) (pc' := 10) dX9_isAtLetter_9 rfl rfl rfl ?_
    obtain ⟨⟨⟩, e8, h⟩ := bindE h
    obtain ⟨v5, M6, e7, h⟩ := bd2E h
    refine X.callV (b := a0) (v := some (.int v5)) (As := []) (st := []) (M' := M6) (pc' := 13) dX9_isAtLetter_10 rfl cl_X9_63 mi_X9_peek me_X9_peek mr_X9_peek e8 ⟨⟨Nat.le_of_ble_eq_true rfl, Nat.le_of_ble_eq_true rfl⟩, Nat.le_of_ble_eq_true rfl, Nat.le_of_ble_eq_true rfl⟩ rfl (Nat.le_of_ble_eq_true rfl) (ok_X9_peek (G := zs G) e7) ?_
    show X G t_X9_isAtLetter [] 13 [some (.ref a0)] [.int v5] M6 0 0 _
    refine X.bipush (v := 122) (pc' := 15) dX9_isAtLetter_13 rfl (by decide) ?_
    refine X.icmp_gt (tgt := 22) (pc' := 18) dX9_isAtLetter_15 (by decide) rfl (fun hc => ?_) (fun hc => ?_)
    · rw [if_pos hc] at h
      refine X.iconst (v := 0) (pc' := 23) dX9_isAtLetter_22 rfl (by decide) ?_
      cases h
      exact X.iret (ty := .boolean) dX9_isAtLetter_23 rfl rfl (Nat.le_of_ble_eq_true rfl) (Nat.le_of_ble_eq_true rfl) rfl
    · rw [if_neg hc] at h
      refine X.iconst (v := 1) (pc' := 19) dX9_isAtLetter_18 rfl (by decide) ?_
      refine X.goto (pc' := 23) dX9_isAtLetter_19 (by decide) ?_
      cases h
      exact X.iret (ty := .boolean) dX9_isAtLetter_23 rfl rfl (Nat.le_of_ble_eq_true rfl) (Nat.le_of_ble_eq_true rfl) rfl
def f_X9_skipWord_2b (fu : Nat) (a0 : Nat) (a1 : Int32) (M : List Ob) (k2 : Nat → Int32 → List Ob → Option (Unit × List Ob)) : Option (Unit × List Ob) :=
  if 600 ≤ a1 then (some ((), M))
  else ((hasO M a0 9).bind fun _ =>
  bd2 (f_X9_isAtLetter fu a0 M) fun v1 M2 =>
  if v1 = 0 then (some ((), M2))
  else ((gI M2 a0 9 3).bind fun v5 =>
  (pF M2 a0 9 3 (.int (v5 + 1))).bind fun M7 =>
  k2 a0 (a1 + 1) M7))
set_option maxHeartbeats 4000000 in
theorem ok_X9_skipWord_2b {G : GT} {fu : Nat} {out : Unit × List Ob} {a0 : Nat} {a1 : Int32} {M : List Ob} {k2 : Nat → Int32 → List Ob → Option (Unit × List Ob)} (hk2 : ∀ (a0 : Nat) (a1 : Int32) (M : List Ob), k2 a0 a1 M = some out → X G t_X9_skipWord [] 2 [some (.ref a0), some (.int a1)] [] M 0 0 (oU out)) (h : f_X9_skipWord_2b fu a0 a1 M k2 = some out) : X G t_X9_skipWord [] 2 [some (.ref a0), some (.int a1)] [] M 0 0 (oU out) := by
  unfold f_X9_skipWord_2b at h
  refine X.iload_n (x := a1) (pc' := 3) dX9_skipWord_2 rfl rfl rfl ?_
  refine X.sipush (v := 600) (pc' := 6) dX9_skipWord_3 rfl (by decide) ?_
  refine X.icmp_ge (tgt := 32) (pc' := 9) dX9_skipWord_6 (by decide) rfl (fun hc => ?_) (fun hc => ?_)
  · rw [if_pos hc] at h
    cases h
    exact X.vret dX9_skipWord_32 rfl (Nat.le_of_ble_eq_true rfl) (Nat.le_of_ble_eq_true rfl) rfl
  · rw [if_neg hc] at h
    refine X.aload_n (x := a0) (pc' := 10) dX9_skipWord_9 rfl rfl rfl ?_
    obtain ⟨⟨⟩, e4, h⟩ := bindE h
    obtain ⟨v1, M2, e3, h⟩ := bd2E h
    refine X.callV (b := a0) (v := some (.int v1)) (As := []) (st := []) (M' := M2) (pc' := 13) dX9_skipWord_10 rfl cl_X9_67 mi_X9_isAtLetter me_X9_isAtLetter mr_X9_isAtLetter e4 ⟨⟨Nat.le_of_ble_eq_true rfl, Nat.le_of_ble_eq_true rfl⟩, Nat.le_of_ble_eq_true rfl, Nat.le_of_ble_eq_true rfl⟩ rfl (Nat.le_of_ble_eq_true rfl) (ok_X9_isAtLetter (G := zs G) e3) ?_
    show X G t_X9_skipWord [] 13 [some (.ref a0), some (.int a1)] [.int v1] M2 0 0 _
    refine X.if_eq (tgt := 32) (pc' := 16) dX9_skipWord_13 (by decide) rfl (fun hc => ?_) (fun hc => ?_)
    · rw [if_pos hc] at h
      cases h
      exact X.vret dX9_skipWord_32 rfl (Nat.le_of_ble_eq_true rfl) (Nat.le_of_ble_eq_true rfl) rfl
    · rw [if_neg hc] at h
      refine X.aload_n (x := a0) (pc' := 17) dX9_skipWord_16 rfl rfl rfl ?_
      refine X.dup (pc' := 18) dX9_skipWord_17 rfl rfl ?_
      obtain ⟨v5, e6, h⟩ := bindE h
      refine X.getf (pc' := 21) dX9_skipWord_18 rfl fq_X9_22 (gI_spec e6) ?_
      refine X.iconst (v := 1) (pc' := 22) dX9_skipWord_21 rfl (by decide) ?_
      refine X.iadd (pc' := 23) dX9_skipWord_22 rfl ?_
      obtain ⟨M7, e8, h⟩ := bindE h
      refine X.putf (pc' := 26) dX9_skipWord_23 rfl fq_X9_22 rfl rfl e8 ?_
      refine X.iinc (v := (a1 + 1)) (L' := [some (.ref a0), some (.int (a1 + 1))]) (pc' := 29) dX9_skipWord_26 rfl rfl (congrArg (fun y => a1 + y) (show Int32.ofInt 1 = 1 by decide)) (Nat.le_of_ble_eq_true rfl) rfl ?_
      refine X.goto (pc' := 2) dX9_skipWord_29 (by decide) ?_
      exact hk2 _ _ _ h
def f_X9_skipWord_2 (fu : Nat) : Nat → Nat → Int32 → List Ob → Option (Unit × List Ob)
  | 0, _, _, _ => none
  | n + 1, a0, a1, M => f_X9_skipWord_2b fu a0 a1 M (fun a0 a1 M => f_X9_skipWord_2 fu n a0 a1 M)
theorem ok_X9_skipWord_2 {G : GT} {fu : Nat} {out : Unit × List Ob} : ∀ (n : Nat) (a0 : Nat) (a1 : Int32) (M : List Ob), f_X9_skipWord_2 fu n a0 a1 M = some out → X G t_X9_skipWord [] 2 [some (.ref a0), some (.int a1)] [] M 0 0 (oU out) := by
  intro n
  induction n with
  | zero =>
    intro a0 a1 M h
    unfold f_X9_skipWord_2 at h
    cases h
  | succ n ih =>
    intro a0 a1 M h
    unfold f_X9_skipWord_2 at h
    exact ok_X9_skipWord_2b ih h
def f_X9_skipWord (fu : Nat) (a0 : Nat) (M : List Ob) : Option (Unit × List Ob) :=
  f_X9_skipWord_2 fu  fu a0 0 M
set_option maxHeartbeats 4000000 in
theorem ok_X9_skipWord {G : GT} {fu : Nat} {a0 : Nat} {M : List Ob} {out : Unit × List Ob} (h : f_X9_skipWord fu a0 M = some out) : Sp G t_X9_skipWord [.ref a0] M (oU out) := by
  refine Sp.of rfl (by decide +kernel) (cat_all rfl) (Nat.le_of_ble_eq_true rfl) ?_
  show X G t_X9_skipWord [] 0 [some (.ref a0), none] [] M 0 0 (oU out)
  unfold f_X9_skipWord at h
  refine X.iconst (v := 0) (pc' := 1) dX9_skipWord_0 rfl (by decide) ?_
  refine X.istore_n (L' := [some (.ref a0), some (.int 0)]) (pc' := 2) dX9_skipWord_1 rfl rfl (Nat.le_of_ble_eq_true rfl) rfl ?_
  refine ok_X9_skipWord_2  fu _ _ _ h
def f_X9_isWord_17b (fu : Nat) (a0 : Nat) (a1 : Int32) (a2 : Nat) (a3 : Int32) (M : List Ob) (k17 : Nat → Int32 → Nat → Int32 → List Ob → Option (Int32 × List Ob)) : Option (Int32 × List Ob) :=
  bd2 (f_J0_length_8abf5 fu a2 M) fun v1 M2 =>
  if v1 ≤ a3 then (some (1, M2))
  else ((gP M2 a0 9 0).bind fun r5 =>
  (aI M2 r5 12 (a1 + a3)).bind fun v8 =>
  bd2 (f_J0_charAt_5068e fu a2 a3 M2) fun v9 M10 =>
  if v8 = v9 then (k17 a0 a1 a2 (a3 + 1) M10)
  else (some (0, M10)))
set_option maxHeartbeats 4000000 in
theorem ok_X9_isWord_17b {G : GT} {fu : Nat} {out : Int32 × List Ob} {a0 : Nat} {a1 : Int32} {a2 : Nat} {a3 : Int32} {M : List Ob} {k17 : Nat → Int32 → Nat → Int32 → List Ob → Option (Int32 × List Ob)} (hk17 : ∀ (a0 : Nat) (a1 : Int32) (a2 : Nat) (a3 : Int32) (M : List Ob), k17 a0 a1 a2 a3 M = some out → X G t_X9_isWord [] 17 [some (.ref a0), some (.int a1), some (.ref a2), some (.int a3)] [] M 0 0 (oI out)) (h : f_X9_isWord_17b fu a0 a1 a2 a3 M k17 = some out) : X G t_X9_isWord [] 17 [some (.ref a0), some (.int a1), some (.ref a2), some (.int a3)] [] M 0 0 (oI out) := by
  unfold f_X9_isWord_17b at h
  refine X.iload_n (x := a3) (pc' := 18) dX9_isWord_17 rfl rfl rfl ?_
  refine X.aload_n (x := a2) (pc' := 19) dX9_isWord_18 rfl rfl rfl ?_
  obtain ⟨v1, M2, e3, h⟩ := bd2E h
  refine X.callT (b := a2) (v := some (.int v1)) (As := []) (st := [.int a3]) (M' := M2) (pc' := 22) dX9_isWord_19 rfl cl_X9_71 mi_J0_length_8abf5 me_J0_length_8abf5 (str_in_J0_length_8abf5 e3) ⟨⟨Nat.le_of_ble_eq_true rfl, Nat.le_of_ble_eq_true rfl⟩, Nat.le_of_ble_eq_true rfl, Nat.le_of_ble_eq_true rfl⟩ rfl (Nat.le_of_ble_eq_true rfl) (ok_J0_length_8abf5 (G := zs G) e3) ?_
  show X G t_X9_isWord [] 22 [some (.ref a0), some (.int a1), some (.ref a2), some (.int a3)] [.int v1, .int a3] M2 0 0 _
  refine X.icmp_ge (tgt := 49) (pc' := 25) dX9_isWord_22 (by decide) rfl (fun hc => ?_) (fun hc => ?_)
  · rw [if_pos hc] at h
    refine X.iconst (v := 1) (pc' := 50) dX9_isWord_49 rfl (by decide) ?_
    cases h
    exact X.iret (ty := .boolean) dX9_isWord_50 rfl rfl (Nat.le_of_ble_eq_true rfl) (Nat.le_of_ble_eq_true rfl) rfl
  · rw [if_neg hc] at h
    refine X.aload_n (x := a0) (pc' := 26) dX9_isWord_25 rfl rfl rfl ?_
    obtain ⟨r5, e6, h⟩ := bindE h
    refine X.getf (pc' := 29) dX9_isWord_26 rfl fq_X9_9 (gP_spec e6) ?_
    refine X.iload_n (x := a1) (pc' := 30) dX9_isWord_29 rfl rfl rfl ?_
    refine X.iload_n (x := a3) (pc' := 31) dX9_isWord_30 rfl rfl rfl ?_
    refine X.iadd (pc' := 32) dX9_isWord_31 rfl ?_
    obtain ⟨v8, e7, h⟩ := bindE h
    refine X.bald (pc' := 33) dX9_isWord_32 rfl e7 ?_
    refine X.aload_n (x := a2) (pc' := 34) dX9_isWord_33 rfl rfl rfl ?_
    refine X.iload_n (x := a3) (pc' := 35) dX9_isWord_34 rfl rfl rfl ?_
    obtain ⟨v9, M10, e11, h⟩ := bd2E h
    refine X.callT (b := a2) (v := some (.int v9)) (As := [.int a3]) (st := [.int v8]) (M' := M10) (pc' := 38) dX9_isWord_35 rfl cl_X9_76 mi_J0_charAt_5068e me_J0_charAt_5068e (str_in_J0_charAt_5068e e11) ⟨⟨Nat.le_of_ble_eq_true rfl, Nat.le_of_ble_eq_true rfl⟩, Nat.le_of_ble_eq_true rfl, Nat.le_of_ble_eq_true rfl⟩ rfl (Nat.le_of_ble_eq_true rfl) (ok_J0_charAt_5068e (G := zs G) e11) ?_
    show X G t_X9_isWord [] 38 [some (.ref a0), some (.int a1), some (.ref a2), some (.int a3)] [.int v9, .int v8] M10 0 0 _
    refine X.icmp_eq (tgt := 43) (pc' := 41) dX9_isWord_38 (by decide) rfl (fun hc => ?_) (fun hc => ?_)
    · rw [if_pos hc] at h
      refine X.iinc (v := (a3 + 1)) (L' := [some (.ref a0), some (.int a1), some (.ref a2), some (.int (a3 + 1))]) (pc' := 46) dX9_isWord_43 rfl rfl (congrArg (fun y => a3 + y) (show Int32.ofInt 1 = 1 by decide)) (Nat.le_of_ble_eq_true rfl) rfl ?_
      refine X.goto (pc' := 17) dX9_isWord_46 (by decide) ?_
      exact hk17 _ _ _ _ _ h
    · rw [if_neg hc] at h
      refine X.iconst (v := 0) (pc' := 42) dX9_isWord_41 rfl (by decide) ?_
      cases h
      exact X.iret (ty := .boolean) dX9_isWord_42 rfl rfl (Nat.le_of_ble_eq_true rfl) (Nat.le_of_ble_eq_true rfl) rfl
def f_X9_isWord_17 (fu : Nat) : Nat → Nat → Int32 → Nat → Int32 → List Ob → Option (Int32 × List Ob)
  | 0, _, _, _, _, _ => none
  | n + 1, a0, a1, a2, a3, M => f_X9_isWord_17b fu a0 a1 a2 a3 M (fun a0 a1 a2 a3 M => f_X9_isWord_17 fu n a0 a1 a2 a3 M)
theorem ok_X9_isWord_17 {G : GT} {fu : Nat} {out : Int32 × List Ob} : ∀ (n : Nat) (a0 : Nat) (a1 : Int32) (a2 : Nat) (a3 : Int32) (M : List Ob), f_X9_isWord_17 fu n a0 a1 a2 a3 M = some out → X G t_X9_isWord [] 17 [some (.ref a0), some (.int a1), some (.ref a2), some (.int a3)] [] M 0 0 (oI out) := by
  intro n
  induction n with
  | zero =>
    intro a0 a1 a2 a3 M h
    unfold f_X9_isWord_17 at h
    cases h
  | succ n ih =>
    intro a0 a1 a2 a3 M h
    unfold f_X9_isWord_17 at h
    exact ok_X9_isWord_17b ih h
def f_X9_isWord (fu : Nat) (a0 : Nat) (a1 : Int32) (a2 : Nat) (M : List Ob) : Option (Int32 × List Ob) :=
  (gI M a0 9 3).bind fun v1 =>
  bd2 (f_J0_length_8abf5 fu a2 M) fun v3 M4 =>
  if (v1 - a1) = v3 then (f_X9_isWord_17 fu  fu a0 a1 a2 0 M4)
  else (some (0, M4))
set_option maxHeartbeats 4000000 in
theorem ok_X9_isWord {G : GT} {fu : Nat} {a0 : Nat} {a1 : Int32} {a2 : Nat} {M : List Ob} {out : Int32 × List Ob} (h : f_X9_isWord fu a0 a1 a2 M = some out) : Sp G t_X9_isWord [.ref a0, .int a1, .ref a2] M (oI out) := by
  refine Sp.of rfl (by decide +kernel) (cat_all rfl) (Nat.le_of_ble_eq_true rfl) ?_
  show X G t_X9_isWord [] 0 [some (.ref a0), some (.int a1), some (.ref a2), none] [] M 0 0 (oI out)
  unfold f_X9_isWord at h
  refine X.aload_n (x := a0) (pc' := 1) dX9_isWord_0 rfl rfl rfl ?_
  obtain ⟨v1, e2, h⟩ := bindE h
  refine X.getf (pc' := 4) dX9_isWord_1 rfl fq_X9_22 (gI_spec e2) ?_
  refine X.iload_n (x := a1) (pc' := 5) dX9_isWord_4 rfl rfl rfl ?_
  refine X.isub (pc' := 6) dX9_isWord_5 rfl ?_
  refine X.aload_n (x := a2) (pc' := 7) dX9_isWord_6 rfl rfl rfl ?_
  obtain ⟨v3, M4, e5, h⟩ := bd2E h
  refine X.callT (b := a2) (v := some (.int v3)) (As := []) (st := [.int (v1 - a1)]) (M' := M4) (pc' := 10) dX9_isWord_7 rfl cl_X9_71 mi_J0_length_8abf5 me_J0_length_8abf5 (str_in_J0_length_8abf5 e5) ⟨⟨Nat.le_of_ble_eq_true rfl, Nat.le_of_ble_eq_true rfl⟩, Nat.le_of_ble_eq_true rfl, Nat.le_of_ble_eq_true rfl⟩ rfl (Nat.le_of_ble_eq_true rfl) (ok_J0_length_8abf5 (G := zs G) e5) ?_
  show X G t_X9_isWord [] 10 [some (.ref a0), some (.int a1), some (.ref a2), none] [.int v3, .int (v1 - a1)] M4 0 0 _
  refine X.icmp_eq (tgt := 15) (pc' := 13) dX9_isWord_10 (by decide) rfl (fun hc => ?_) (fun hc => ?_)
  · rw [if_pos hc] at h
    refine X.iconst (v := 0) (pc' := 16) dX9_isWord_15 rfl (by decide) ?_
    refine X.istore_n (L' := [some (.ref a0), some (.int a1), some (.ref a2), some (.int 0)]) (pc' := 17) dX9_isWord_16 rfl rfl (Nat.le_of_ble_eq_true rfl) rfl ?_
    refine ok_X9_isWord_17  fu _ _ _ _ _ h
  · rw [if_neg hc] at h
    refine X.iconst (v := 0) (pc' := 14) dX9_isWord_13 rfl (by decide) ?_
    cases h
    exact X.iret (ty := .boolean) dX9_isWord_14 rfl rfl (Nat.le_of_ble_eq_true rfl) (Nat.le_of_ble_eq_true rfl) rfl
def f_X9_fail (fu : Nat) (a0 : Nat) (a1 : Int32) (a2 : Int32) (M : List Ob) : Option (Int32 × List Ob) :=
  (pF M a0 9 4 (.int a1)).bind fun M1 =>
  (pF M1 a0 9 5 (.int a2)).bind fun M3 =>
  some (0, M3)
set_option maxHeartbeats 4000000 in
theorem ok_X9_fail {G : GT} {fu : Nat} {a0 : Nat} {a1 : Int32} {a2 : Int32} {M : List Ob} {out : Int32 × List Ob} (h : f_X9_fail fu a0 a1 a2 M = some out) : Sp G t_X9_fail [.ref a0, .int a1, .int a2] M (oI out) := by
  refine Sp.of rfl (by decide +kernel) (cat_all rfl) (Nat.le_of_ble_eq_true rfl) ?_
  show X G t_X9_fail [] 0 [some (.ref a0), some (.int a1), some (.int a2)] [] M 0 0 (oI out)
  unfold f_X9_fail at h
  refine X.aload_n (x := a0) (pc' := 1) dX9_fail_0 rfl rfl rfl ?_
  refine X.iload_n (x := a1) (pc' := 2) dX9_fail_1 rfl rfl rfl ?_
  obtain ⟨M1, e2, h⟩ := bindE h
  refine X.putf (pc' := 5) dX9_fail_2 rfl fq_X9_25 rfl rfl e2 ?_
  refine X.aload_n (x := a0) (pc' := 6) dX9_fail_5 rfl rfl rfl ?_
  refine X.iload_n (x := a2) (pc' := 7) dX9_fail_6 rfl rfl rfl ?_
  obtain ⟨M3, e4, h⟩ := bindE h
  refine X.putf (pc' := 10) dX9_fail_7 rfl fq_X9_28 rfl rfl e4 ?_
  refine X.iconst (v := 0) (pc' := 11) dX9_fail_10 rfl (by decide) ?_
  cases h
  exact X.iret (ty := .boolean) dX9_fail_11 rfl rfl (Nat.le_of_ble_eq_true rfl) (Nat.le_of_ble_eq_true rfl) rfl
def f_X9_isAtDigit (fu : Nat) (a0 : Nat) (M : List Ob) : Option (Int32 × List Ob) :=
  (hasO M a0 9).bind fun _ =>
  bd2 (f_X9_peek fu a0 M) fun v1 M2 =>
  if v1 < 48 then (some (0, M2))
  else ((hasO M2 a0 9).bind fun _ =>
  bd2 (f_X9_peek fu a0 M2) fun v5 M6 =>
  if 57 < v5 then (some (0, M6))
  else (some (1, M6)))
set_option maxHeartbeats 4000000 in
theorem ok_X9_isAtDigit {G : GT} {fu : Nat} {a0 : Nat} {M : List Ob} {out : Int32 × List Ob} (h : f_X9_isAtDigit fu a0 M = some out) : Sp G t_X9_isAtDigit [.ref a0] M (oI out) := by
  refine Sp.of rfl (by decide +kernel) (cat_all rfl) (Nat.le_of_ble_eq_true rfl) ?_
  show X G t_X9_isAtDigit [] 0 [some (.ref a0)] [] M 0 0 (oI out)
  unfold f_X9_isAtDigit at h
  refine X.aload_n (x := a0) (pc' := 1) dX9_isAtDigit_0 rfl rfl rfl ?_
  obtain ⟨⟨⟩, e4, h⟩ := bindE h
  obtain ⟨v1, M2, e3, h⟩ := bd2E h
  refine X.callV (b := a0) (v := some (.int v1)) (As := []) (st := []) (M' := M2) (pc' := 4) dX9_isAtDigit_1 rfl cl_X9_63 mi_X9_peek me_X9_peek mr_X9_peek e4 ⟨⟨Nat.le_of_ble_eq_true rfl, Nat.le_of_ble_eq_true rfl⟩, Nat.le_of_ble_eq_true rfl, Nat.le_of_ble_eq_true rfl⟩ rfl (Nat.le_of_ble_eq_true rfl) (ok_X9_peek (G := zs G) e3) ?_
  show X G t_X9_isAtDigit [] 4 [some (.ref a0)] [.int v1] M2 0 0 _
  refine X.bipush (v := 48) (pc' := 6) dX9_isAtDigit_4 rfl (by decide) ?_
  refine X.icmp_lt (tgt := 22) (pc' := 9) dX9_isAtDigit_6 (by decide) rfl (fun hc => ?_) (fun hc => ?_)
  · rw [if_pos hc] at h
    refine X.iconst (v := 0) (pc' := 23) dX9_isAtDigit_22 rfl (by decide) ?_
    cases h
    exact X.iret (ty := .boolean) dX9_isAtDigit_23 rfl rfl (Nat.le_of_ble_eq_true rfl) (Nat.le_of_ble_eq_true rfl) rfl
  · rw [if_neg hc] at h
    refine X.aload_n (x := a0) (pc' := 10) dX9_isAtDigit_9 rfl rfl rfl ?_
    obtain ⟨⟨⟩, e8, h⟩ := bindE h
    obtain ⟨v5, M6, e7, h⟩ := bd2E h
    refine X.callV (b := a0) (v := some (.int v5)) (As := []) (st := []) (M' := M6) (pc' := 13) dX9_isAtDigit_10 rfl cl_X9_63 mi_X9_peek me_X9_peek mr_X9_peek e8 ⟨⟨Nat.le_of_ble_eq_true rfl, Nat.le_of_ble_eq_true rfl⟩, Nat.le_of_ble_eq_true rfl, Nat.le_of_ble_eq_true rfl⟩ rfl (Nat.le_of_ble_eq_true rfl) (ok_X9_peek (G := zs G) e7) ?_
    show X G t_X9_isAtDigit [] 13 [some (.ref a0)] [.int v5] M6 0 0 _
    refine X.bipush (v := 57) (pc' := 15) dX9_isAtDigit_13 rfl (by decide) ?_
    refine X.icmp_gt (tgt := 22) (pc' := 18) dX9_isAtDigit_15 (by decide) rfl (fun hc => ?_) (fun hc => ?_)
    · rw [if_pos hc] at h
      refine X.iconst (v := 0) (pc' := 23) dX9_isAtDigit_22 rfl (by decide) ?_
      cases h
      exact X.iret (ty := .boolean) dX9_isAtDigit_23 rfl rfl (Nat.le_of_ble_eq_true rfl) (Nat.le_of_ble_eq_true rfl) rfl
    · rw [if_neg hc] at h
      refine X.iconst (v := 1) (pc' := 19) dX9_isAtDigit_18 rfl (by decide) ?_
      refine X.goto (pc' := 23) dX9_isAtDigit_19 (by decide) ?_
      cases h
      exact X.iret (ty := .boolean) dX9_isAtDigit_23 rfl rfl (Nat.le_of_ble_eq_true rfl) (Nat.le_of_ble_eq_true rfl) rfl
def f_X9_readNumber_34b (fu : Nat) (a0 : Nat) (a1 : Int32) (a2 : Int32) (a3 : Int32) (a4 : Int32) (a5 : Int32) (a6 : Int32) (M : List Ob) (k34 : Nat → Int32 → Int32 → Int32 → Int32 → Int32 → Int32 → List Ob → Option (Int32 × List Ob)) (k85 : Nat → Int32 → Int32 → Int32 → Int32 → Int32 → List Ob → Option (Int32 × List Ob)) : Option (Int32 × List Ob) :=
  if 600 ≤ a6 then (k85 a0 a1 a2 a3 a4 a5 M)
  else ((hasO M a0 9).bind fun _ =>
  bd2 (f_X9_isAtDigit fu a0 M) fun v1 M2 =>
  if v1 = 0 then (k85 a0 a1 a2 a3 a4 a5 M2)
  else ((hasO M2 a0 9).bind fun _ =>
  bd2 (f_X9_peek fu a0 M2) fun v5 M6 =>
  nm ((if (((10 * a5) + v5) - 48) < 1000000 then (((10 * a5) + v5) - 48) else 1000000)) fun x9 =>
  (gI M6 a0 9 3).bind fun v11 =>
  (pF M6 a0 9 3 (.int (v11 + 1))).bind fun M13 =>
  k34 a0 a1 a2 a3 a4 x9 (a6 + 1) M13))
set_option maxHeartbeats 4000000 in
theorem ok_X9_readNumber_34b {G : GT} {fu : Nat} {out : Int32 × List Ob} {a0 : Nat} {a1 : Int32} {a2 : Int32} {a3 : Int32} {a4 : Int32} {a5 : Int32} {a6 : Int32} {M : List Ob} {k34 : Nat → Int32 → Int32 → Int32 → Int32 → Int32 → Int32 → List Ob → Option (Int32 × List Ob)} {k85 : Nat → Int32 → Int32 → Int32 → Int32 → Int32 → List Ob → Option (Int32 × List Ob)} (hk34 : ∀ (a0 : Nat) (a1 : Int32) (a2 : Int32) (a3 : Int32) (a4 : Int32) (a5 : Int32) (a6 : Int32) (M : List Ob), k34 a0 a1 a2 a3 a4 a5 a6 M = some out → X G t_X9_readNumber [] 34 [some (.ref a0), some (.int a1), some (.int a2), some (.int a3), some (.int a4), some (.int a5), some (.int a6)] [] M 0 0 (oI out)) (hk85 : ∀ (a0 : Nat) (a1 : Int32) (a2 : Int32) (a3 : Int32) (a4 : Int32) (a5 : Int32) (M : List Ob), k85 a0 a1 a2 a3 a4 a5 M = some out → X G t_X9_readNumber [] 85 [some (.ref a0), some (.int a1), some (.int a2), some (.int a3), some (.int a4), some (.int a5), none] [] M 0 0 (oI out)) (h : f_X9_readNumber_34b fu a0 a1 a2 a3 a4 a5 a6 M k34 k85 = some out) : X G t_X9_readNumber [] 34 [some (.ref a0), some (.int a1), some (.int a2), some (.int a3), some (.int a4), some (.int a5), some (.int a6)] [] M 0 0 (oI out) := by
  unfold f_X9_readNumber_34b at h
  refine X.iload (x := a6) (pc' := 36) dX9_readNumber_34 rfl rfl ?_
  refine X.sipush (v := 600) (pc' := 39) dX9_readNumber_36 rfl (by decide) ?_
  refine X.icmp_ge (tgt := 85) (pc' := 42) dX9_readNumber_39 (by decide) rfl (fun hc => ?_) (fun hc => ?_)
  · rw [if_pos hc] at h
    refine X.sub (L := [some (.ref a0), some (.int a1), some (.int a2), some (.int a3), some (.int a4), some (.int a5), none]) ?_ (⟨rfl, ⟨rfl, ⟨rfl, ⟨rfl, ⟨rfl, ⟨rfl, trivial⟩⟩⟩⟩⟩⟩)
    exact hk85 _ _ _ _ _ _ _ h
  · rw [if_neg hc] at h
    refine X.aload_n (x := a0) (pc' := 43) dX9_readNumber_42 rfl rfl rfl ?_
    obtain ⟨⟨⟩, e4, h⟩ := bindE h
    obtain ⟨v1, M2, e3, h⟩ := bd2E h
    refine X.callV (b := a0) (v := some (.int v1)) (As := []) (st := []) (M' := M2) (pc' := 46) dX9_readNumber_43 rfl cl_X9_80 mi_X9_isAtDigit me_X9_isAtDigit mr_X9_isAtDigit e4 ⟨⟨Nat.le_of_ble_eq_true rfl, Nat.le_of_ble_eq_true rfl⟩, Nat.le_of_ble_eq_true rfl, Nat.le_of_ble_eq_true rfl⟩ rfl (Nat.le_of_ble_eq_true rfl) (ok_X9_isAtDigit (G := zs G) e3) ?_
    show X G t_X9_readNumber [] 46 [some (.ref a0), some (.int a1), some (.int a2), some (.int a3), some (.int a4), some (.int a5), some (.int a6)] [.int v1] M2 0 0 _
    refine X.if_eq (tgt := 85) (pc' := 49) dX9_readNumber_46 (by decide) rfl (fun hc => ?_) (fun hc => ?_)
    · rw [if_pos hc] at h
      refine X.sub (L := [some (.ref a0), some (.int a1), some (.int a2), some (.int a3), some (.int a4), some (.int a5), none]) ?_ (⟨rfl, ⟨rfl, ⟨rfl, ⟨rfl, ⟨rfl, ⟨rfl, trivial⟩⟩⟩⟩⟩⟩)
      exact hk85 _ _ _ _ _ _ _ h
    · rw [if_neg hc] at h
      refine X.ldc (v := 1000000) (pc' := 51) dX9_readNumber_49 rfl (TBg_of 754 (by decide +kernel) rfl) ?_
      refine X.bipush (v := 10) (pc' := 53) dX9_readNumber_51 rfl (by decide) ?_
      refine X.iload (x := a5) (pc' := 55) dX9_readNumber_53 rfl rfl ?_
      refine X.imul (pc' := 56) dX9_readNumber_55 rfl ?_
      refine X.aload_n (x := a0) (pc' := 57) dX9_readNumber_56 rfl rfl rfl ?_
      obtain ⟨⟨⟩, e8, h⟩ := bindE h
      obtain ⟨v5, M6, e7, h⟩ := bd2E h
      refine X.callV (b := a0) (v := some (.int v5)) (As := []) (st := [.int (10 * a5), .int 1000000]) (M' := M6) (pc' := 60) dX9_readNumber_57 rfl cl_X9_63 mi_X9_peek me_X9_peek mr_X9_peek e8 ⟨⟨Nat.le_of_ble_eq_true rfl, Nat.le_of_ble_eq_true rfl⟩, Nat.le_of_ble_eq_true rfl, Nat.le_of_ble_eq_true rfl⟩ rfl (Nat.le_of_ble_eq_true rfl) (ok_X9_peek (G := zs G) e7) ?_
      show X G t_X9_readNumber [] 60 [some (.ref a0), some (.int a1), some (.int a2), some (.int a3), some (.int a4), some (.int a5), some (.int a6)] [.int v5, .int (10 * a5), .int 1000000] M6 0 0 _
      refine X.iadd (pc' := 61) dX9_readNumber_60 rfl ?_
      refine X.bipush (v := 48) (pc' := 63) dX9_readNumber_61 rfl (by decide) ?_
      refine X.isub (pc' := 64) dX9_readNumber_63 rfl ?_
      refine X.mmin (pc' := 67) dX9_readNumber_64 rfl (TBg_of 668 (by decide +kernel) rfl) (Nat.le_of_ble_eq_true rfl) (Nat.le_of_ble_eq_true rfl) (Nat.le_of_ble_eq_true rfl) (Nat.le_of_ble_eq_true rfl) ?_
      obtain ⟨x9, e10, h⟩ := nmE h
      rw [← e10]
      refine X.istore (L' := [some (.ref a0), some (.int a1), some (.int a2), some (.int a3), some (.int a4), some (.int x9), some (.int a6)]) (pc' := 69) dX9_readNumber_67 rfl (Nat.le_of_ble_eq_true rfl) rfl ?_
      refine X.aload_n (x := a0) (pc' := 70) dX9_readNumber_69 rfl rfl rfl ?_
      refine X.dup (pc' := 71) dX9_readNumber_70 rfl rfl ?_
      obtain ⟨v11, e12, h⟩ := bindE h
      refine X.getf (pc' := 74) dX9_readNumber_71 rfl fq_X9_22 (gI_spec e12) ?_
      refine X.iconst (v := 1) (pc' := 75) dX9_readNumber_74 rfl (by decide) ?_
      refine X.iadd (pc' := 76) dX9_readNumber_75 rfl ?_
      obtain ⟨M13, e14, h⟩ := bindE h
      refine X.putf (pc' := 79) dX9_readNumber_76 rfl fq_X9_22 rfl rfl e14 ?_
      refine X.iinc (v := (a6 + 1)) (L' := [some (.ref a0), some (.int a1), some (.int a2), some (.int a3), some (.int a4), some (.int x9), some (.int (a6 + 1))]) (pc' := 82) dX9_readNumber_79 rfl rfl (congrArg (fun y => a6 + y) (show Int32.ofInt 1 = 1 by decide)) (Nat.le_of_ble_eq_true rfl) rfl ?_
      refine X.goto (pc' := 34) dX9_readNumber_82 (by decide) ?_
      exact hk34 _ _ _ _ _ _ _ _ h
def f_X9_readNumber_34 (fu : Nat) (k85 : Nat → Int32 → Int32 → Int32 → Int32 → Int32 → List Ob → Option (Int32 × List Ob)) : Nat → Nat → Int32 → Int32 → Int32 → Int32 → Int32 → Int32 → List Ob → Option (Int32 × List Ob)
  | 0, _, _, _, _, _, _, _, _ => none
  | n + 1, a0, a1, a2, a3, a4, a5, a6, M => f_X9_readNumber_34b fu a0 a1 a2 a3 a4 a5 a6 M (fun a0 a1 a2 a3 a4 a5 a6 M => f_X9_readNumber_34 fu k85 n a0 a1 a2 a3 a4 a5 a6 M) k85
theorem ok_X9_readNumber_34 {G : GT} {fu : Nat} {out : Int32 × List Ob} {k85 : Nat → Int32 → Int32 → Int32 → Int32 → Int32 → List Ob → Option (Int32 × List Ob)} (hk85 : ∀ (a0 : Nat) (a1 : Int32) (a2 : Int32) (a3 : Int32) (a4 : Int32) (a5 : Int32) (M : List Ob), k85 a0 a1 a2 a3 a4 a5 M = some out → X G t_X9_readNumber [] 85 [some (.ref a0), some (.int a1), some (.int a2), some (.int a3), some (.int a4), some (.int a5), none] [] M 0 0 (oI out)) : ∀ (n : Nat) (a0 : Nat) (a1 : Int32) (a2 : Int32) (a3 : Int32) (a4 : Int32) (a5 : Int32) (a6 : Int32) (M : List Ob), f_X9_readNumber_34 fu k85 n a0 a1 a2 a3 a4 a5 a6 M = some out → X G t_X9_readNumber [] 34 [some (.ref a0), some (.int a1), some (.int a2), some (.int a3), some (.int a4), some (.int a5), some (.int a6)] [] M 0 0 (oI out) := by
  intro n
  induction n with
  | zero =>
    intro a0 a1 a2 a3 a4 a5 a6 M h
    unfold f_X9_readNumber_34 at h
    cases h
  | succ n ih =>
    intro a0 a1 a2 a3 a4 a5 a6 M h
    unfold f_X9_readNumber_34 at h
    exact ok_X9_readNumber_34b ih hk85 h
def f_X9_readNumber_103 (fu : Nat) (a0 : Nat) (a4 : Int32) (M : List Ob) : Option (Int32 × List Ob) :=
  (hasO M a0 9).bind fun _ =>
  bd2 (f_X9_fail fu a0 (-3) a4 M) fun v1 M2 =>
  some ((-1), M2)
set_option maxHeartbeats 4000000 in
theorem ok_X9_readNumber_103 {G : GT} {fu : Nat} {out : Int32 × List Ob} {a0 : Nat} {a4 : Int32} {M : List Ob} (h : f_X9_readNumber_103 fu a0 a4 M = some out) : X G t_X9_readNumber [] 103 [some (.ref a0), none, none, none, some (.int a4), none, none] [] M 0 0 (oI out) := by
  unfold f_X9_readNumber_103 at h
  refine X.aload_n (x := a0) (pc' := 104) dX9_readNumber_103 rfl rfl rfl ?_
  refine X.bipush (v := (-3)) (pc' := 106) dX9_readNumber_104 rfl (by decide) ?_
  refine X.iload (x := a4) (pc' := 108) dX9_readNumber_106 rfl rfl ?_
  obtain ⟨⟨⟩, e4, h⟩ := bindE h
  obtain ⟨v1, M2, e3, h⟩ := bd2E h
  refine X.callV (b := a0) (v := some (.int v1)) (As := [.int (-3), .int a4]) (st := []) (M' := M2) (pc' := 111) dX9_readNumber_108 rfl cl_X9_83 mi_X9_fail me_X9_fail mr_X9_fail e4 ⟨⟨Nat.le_of_ble_eq_true rfl, Nat.le_of_ble_eq_true rfl⟩, Nat.le_of_ble_eq_true rfl, Nat.le_of_ble_eq_true rfl⟩ rfl (Nat.le_of_ble_eq_true rfl) (ok_X9_fail (G := zs G) e3) ?_
  show X G t_X9_readNumber [] 111 [some (.ref a0), none, none, none, some (.int a4), none, none] [.int v1] M2 0 0 _
  refine X.pop (pc' := 112) dX9_readNumber_111 rfl rfl ?_
  refine X.iconst (v := (-1)) (pc' := 113) dX9_readNumber_112 rfl (by decide) ?_
  cases h
  exact X.iret (ty := .int) dX9_readNumber_113 rfl rfl (Nat.le_of_ble_eq_true rfl) (Nat.le_of_ble_eq_true rfl) rfl
def f_X9_readNumber_85 (fu : Nat) (a0 : Nat) (a1 : Int32) (a2 : Int32) (a3 : Int32) (a4 : Int32) (a5 : Int32) (M : List Ob) : Option (Int32 × List Ob) :=
  if a5 < a1 then (f_X9_readNumber_103 fu a0 a4 M)
  else (if a2 < a5 then (f_X9_readNumber_103 fu a0 a4 M)
  else (if a5 = a3 then (f_X9_readNumber_103 fu a0 a4 M)
  else (some (a5, M))))
set_option maxHeartbeats 4000000 in
theorem ok_X9_readNumber_85 {G : GT} {fu : Nat} {out : Int32 × List Ob} {a0 : Nat} {a1 : Int32} {a2 : Int32} {a3 : Int32} {a4 : Int32} {a5 : Int32} {M : List Ob} (h : f_X9_readNumber_85 fu a0 a1 a2 a3 a4 a5 M = some out) : X G t_X9_readNumber [] 85 [some (.ref a0), some (.int a1), some (.int a2), some (.int a3), some (.int a4), some (.int a5), none] [] M 0 0 (oI out) := by
  unfold f_X9_readNumber_85 at h
  refine X.iload (x := a5) (pc' := 87) dX9_readNumber_85 rfl rfl ?_
  refine X.iload_n (x := a1) (pc' := 88) dX9_readNumber_87 rfl rfl rfl ?_
  refine X.icmp_lt (tgt := 103) (pc' := 91) dX9_readNumber_88 (by decide) rfl (fun hc => ?_) (fun hc => ?_)
  · rw [if_pos hc] at h
    refine X.sub (L := [some (.ref a0), none, none, none, some (.int a4), none, none]) ?_ (⟨rfl, ⟨rfl, trivial⟩⟩)
    exact ok_X9_readNumber_103 h
  · rw [if_neg hc] at h
    refine X.iload (x := a5) (pc' := 93) dX9_readNumber_91 rfl rfl ?_
    refine X.iload_n (x := a2) (pc' := 94) dX9_readNumber_93 rfl rfl rfl ?_
    refine X.icmp_gt (tgt := 103) (pc' := 97) dX9_readNumber_94 (by decide) rfl (fun hc => ?_) (fun hc => ?_)
    · rw [if_pos hc] at h
      refine X.sub (L := [some (.ref a0), none, none, none, some (.int a4), none, none]) ?_ (⟨rfl, ⟨rfl, trivial⟩⟩)
      exact ok_X9_readNumber_103 h
    · rw [if_neg hc] at h
      refine X.iload (x := a5) (pc' := 99) dX9_readNumber_97 rfl rfl ?_
      refine X.iload_n (x := a3) (pc' := 100) dX9_readNumber_99 rfl rfl rfl ?_
      refine X.icmp_ne (tgt := 114) (pc' := 103) dX9_readNumber_100 (by decide) rfl (fun hc => ?_) (fun hc => ?_)
      · rw [if_neg hc] at h
        refine X.iload (x := a5) (pc' := 116) dX9_readNumber_114 rfl rfl ?_
        cases h
        exact X.iret (ty := .int) dX9_readNumber_116 rfl rfl (Nat.le_of_ble_eq_true rfl) (Nat.le_of_ble_eq_true rfl) rfl
      · rw [if_pos hc] at h
        refine X.sub (L := [some (.ref a0), none, none, none, some (.int a4), none, none]) ?_ (⟨rfl, ⟨rfl, trivial⟩⟩)
        exact ok_X9_readNumber_103 h
def f_X9_readNumber (fu : Nat) (a0 : Nat) (a1 : Int32) (a2 : Int32) (a3 : Int32) (M : List Ob) : Option (Int32 × List Ob) :=
  (hasO M a0 9).bind fun _ =>
  bd2 (f_X9_skipSpaces fu a0 M) fun _ M2 =>
  (gI M2 a0 9 3).bind fun v5 =>
  (hasO M2 a0 9).bind fun _ =>
  bd2 (f_X9_isAtDigit fu a0 M2) fun v7 M8 =>
  if v7 = 0 then ((hasO M8 a0 9).bind fun _ =>
  bd2 (f_X9_fail fu a0 (-2) v5 M8) fun v18 M19 =>
  some ((-1), M19))
  else (f_X9_readNumber_34 fu (fun x11 x12 x13 x14 x15 x16 M17 => f_X9_readNumber_85 fu x11 x12 x13 x14 x15 x16 M17) fu a0 a1 a2 a3 v5 0 0 M8)
set_option maxHeartbeats 4000000 in
theorem ok_X9_readNumber {G : GT} {fu : Nat} {a0 : Nat} {a1 : Int32} {a2 : Int32} {a3 : Int32} {M : List Ob} {out : Int32 × List Ob} (h : f_X9_readNumber fu a0 a1 a2 a3 M = some out) : Sp G t_X9_readNumber [.ref a0, .int a1, .int a2, .int a3] M (oI out) := by
  refine Sp.of rfl (by decide +kernel) (cat_all rfl) (Nat.le_of_ble_eq_true rfl) ?_
  show X G t_X9_readNumber [] 0 [some (.ref a0), some (.int a1), some (.int a2), some (.int a3), none, none, none] [] M 0 0 (oI out)
  unfold f_X9_readNumber at h
  refine X.aload_n (x := a0) (pc' := 1) dX9_readNumber_0 rfl rfl rfl ?_
  obtain ⟨⟨⟩, e4, h⟩ := bindE h
  obtain ⟨r1, M2, e3, h⟩ := bd2E h
  refine X.callV (b := a0) (v := none) (As := []) (st := []) (M' := M2) (pc' := 4) dX9_readNumber_1 rfl cl_X9_41 mi_X9_skipSpaces me_X9_skipSpaces mr_X9_skipSpaces e4 ⟨⟨Nat.le_of_ble_eq_true rfl, Nat.le_of_ble_eq_true rfl⟩, Nat.le_of_ble_eq_true rfl, Nat.le_of_ble_eq_true rfl⟩ rfl (Nat.le_of_ble_eq_true rfl) (ok_X9_skipSpaces (G := zs G) e3) ?_
  show X G t_X9_readNumber [] 4 [some (.ref a0), some (.int a1), some (.int a2), some (.int a3), none, none, none] [] M2 0 0 _
  refine X.aload_n (x := a0) (pc' := 5) dX9_readNumber_4 rfl rfl rfl ?_
  obtain ⟨v5, e6, h⟩ := bindE h
  refine X.getf (pc' := 8) dX9_readNumber_5 rfl fq_X9_22 (gI_spec e6) ?_
  refine X.istore (L' := [some (.ref a0), some (.int a1), some (.int a2), some (.int a3), some (.int v5), none, none]) (pc' := 10) dX9_readNumber_8 rfl (Nat.le_of_ble_eq_true rfl) rfl ?_
  refine X.aload_n (x := a0) (pc' := 11) dX9_readNumber_10 rfl rfl rfl ?_
  obtain ⟨⟨⟩, e10, h⟩ := bindE h
  obtain ⟨v7, M8, e9, h⟩ := bd2E h
  refine X.callV (b := a0) (v := some (.int v7)) (As := []) (st := []) (M' := M8) (pc' := 14) dX9_readNumber_11 rfl cl_X9_80 mi_X9_isAtDigit me_X9_isAtDigit mr_X9_isAtDigit e10 ⟨⟨Nat.le_of_ble_eq_true rfl, Nat.le_of_ble_eq_true rfl⟩, Nat.le_of_ble_eq_true rfl, Nat.le_of_ble_eq_true rfl⟩ rfl (Nat.le_of_ble_eq_true rfl) (ok_X9_isAtDigit (G := zs G) e9) ?_
  show X G t_X9_readNumber [] 14 [some (.ref a0), some (.int a1), some (.int a2), some (.int a3), some (.int v5), none, none] [.int v7] M8 0 0 _
  refine X.if_ne (tgt := 28) (pc' := 17) dX9_readNumber_14 (by decide) rfl (fun hc => ?_) (fun hc => ?_)
  · rw [if_neg hc] at h
    refine X.iconst (v := 0) (pc' := 29) dX9_readNumber_28 rfl (by decide) ?_
    refine X.istore (L' := [some (.ref a0), some (.int a1), some (.int a2), some (.int a3), some (.int v5), some (.int 0), none]) (pc' := 31) dX9_readNumber_29 rfl (Nat.le_of_ble_eq_true rfl) rfl ?_
    refine X.iconst (v := 0) (pc' := 32) dX9_readNumber_31 rfl (by decide) ?_
    refine X.istore (L' := [some (.ref a0), some (.int a1), some (.int a2), some (.int a3), some (.int v5), some (.int 0), some (.int 0)]) (pc' := 34) dX9_readNumber_32 rfl (Nat.le_of_ble_eq_true rfl) rfl ?_
    refine ok_X9_readNumber_34 ?_ fu _ _ _ _ _ _ _ _ h
    · intro x11 x12 x13 x14 x15 x16 M17 h
      exact ok_X9_readNumber_85 h
  · rw [if_pos hc] at h
    refine X.aload_n (x := a0) (pc' := 18) dX9_readNumber_17 rfl rfl rfl ?_
    refine X.bipush (v := (-2)) (pc' := 20) dX9_readNumber_18 rfl (by decide) ?_
    refine X.iload (x := v5) (pc' := 22) dX9_readNumber_20 rfl rfl ?_
    obtain ⟨⟨⟩, e21, h⟩ := bindE h
    obtain ⟨v18, M19, e20, h⟩ := bd2E h
    refine X.callV (b := a0) (v := some (.int v18)) (As := [.int (-2), .int v5]) (st := []) (M' := M19) (pc' := 25) dX9_readNumber_22 rfl cl_X9_83 mi_X9_fail me_X9_fail mr_X9_fail e21 ⟨⟨Nat.le_of_ble_eq_true rfl, Nat.le_of_ble_eq_true rfl⟩, Nat.le_of_ble_eq_true rfl, Nat.le_of_ble_eq_true rfl⟩ rfl (Nat.le_of_ble_eq_true rfl) (ok_X9_fail (G := zs G) e20) ?_
    show X G t_X9_readNumber [] 25 [some (.ref a0), some (.int a1), some (.int a2), some (.int a3), some (.int v5), none, none] [.int v18] M19 0 0 _
    refine X.pop (pc' := 26) dX9_readNumber_25 rfl rfl ?_
    refine X.iconst (v := (-1)) (pc' := 27) dX9_readNumber_26 rfl (by decide) ?_
    cases h
    exact X.iret (ty := .int) dX9_readNumber_27 rfl rfl (Nat.le_of_ble_eq_true rfl) (Nat.le_of_ble_eq_true rfl) rfl
def f_X9_readSemicolon (fu : Nat) (a0 : Nat) (M : List Ob) : Option (Int32 × List Ob) :=
  (hasO M a0 9).bind fun _ =>
  bd2 (f_X9_skipSpaces fu a0 M) fun _ M2 =>
  (hasO M2 a0 9).bind fun _ =>
  bd2 (f_X9_peek fu a0 M2) fun v5 M6 =>
  if v5 = 59 then ((gI M6 a0 9 3).bind fun v9 =>
  (pF M6 a0 9 3 (.int (v9 + 1))).bind fun M11 =>
  some (1, M11))
  else ((gI M6 a0 9 3).bind fun v13 =>
  (hasO M6 a0 9).bind fun _ =>
  bd2 (f_X9_fail fu a0 (-2) v13 M6) fun v15 M16 =>
  if v15 &&& 1 = v15 then some (v15, M16) else none)
set_option maxHeartbeats 4000000 in
theorem ok_X9_readSemicolon {G : GT} {fu : Nat} {a0 : Nat} {M : List Ob} {out : Int32 × List Ob} (h : f_X9_readSemicolon fu a0 M = some out) : Sp G t_X9_readSemicolon [.ref a0] M (oI out) := by
  refine Sp.of rfl (by decide +kernel) (cat_all rfl) (Nat.le_of_ble_eq_true rfl) ?_
  show X G t_X9_readSemicolon [] 0 [some (.ref a0)] [] M 0 0 (oI out)
  unfold f_X9_readSemicolon at h
  refine X.aload_n (x := a0) (pc' := 1) dX9_readSemicolon_0 rfl rfl rfl ?_
  obtain ⟨⟨⟩, e4, h⟩ := bindE h
  obtain ⟨r1, M2, e3, h⟩ := bd2E h
  refine X.callV (b := a0) (v := none) (As := []) (st := []) (M' := M2) (pc' := 4) dX9_readSemicolon_1 rfl cl_X9_41 mi_X9_skipSpaces me_X9_skipSpaces mr_X9_skipSpaces e4 ⟨⟨Nat.le_of_ble_eq_true rfl, Nat.le_of_ble_eq_true rfl⟩, Nat.le_of_ble_eq_true rfl, Nat.le_of_ble_eq_true rfl⟩ rfl (Nat.le_of_ble_eq_true rfl) (ok_X9_skipSpaces (G := zs G) e3) ?_
  show X G t_X9_readSemicolon [] 4 [some (.ref a0)] [] M2 0 0 _
  refine X.aload_n (x := a0) (pc' := 5) dX9_readSemicolon_4 rfl rfl rfl ?_
  obtain ⟨⟨⟩, e8, h⟩ := bindE h
  obtain ⟨v5, M6, e7, h⟩ := bd2E h
  refine X.callV (b := a0) (v := some (.int v5)) (As := []) (st := []) (M' := M6) (pc' := 8) dX9_readSemicolon_5 rfl cl_X9_63 mi_X9_peek me_X9_peek mr_X9_peek e8 ⟨⟨Nat.le_of_ble_eq_true rfl, Nat.le_of_ble_eq_true rfl⟩, Nat.le_of_ble_eq_true rfl, Nat.le_of_ble_eq_true rfl⟩ rfl (Nat.le_of_ble_eq_true rfl) (ok_X9_peek (G := zs G) e7) ?_
  show X G t_X9_readSemicolon [] 8 [some (.ref a0)] [.int v5] M6 0 0 _
  refine X.bipush (v := 59) (pc' := 10) dX9_readSemicolon_8 rfl (by decide) ?_
  refine X.icmp_eq (tgt := 24) (pc' := 13) dX9_readSemicolon_10 (by decide) rfl (fun hc => ?_) (fun hc => ?_)
  · rw [if_pos hc] at h
    refine X.aload_n (x := a0) (pc' := 25) dX9_readSemicolon_24 rfl rfl rfl ?_
    refine X.dup (pc' := 26) dX9_readSemicolon_25 rfl rfl ?_
    obtain ⟨v9, e10, h⟩ := bindE h
    refine X.getf (pc' := 29) dX9_readSemicolon_26 rfl fq_X9_22 (gI_spec e10) ?_
    refine X.iconst (v := 1) (pc' := 30) dX9_readSemicolon_29 rfl (by decide) ?_
    refine X.iadd (pc' := 31) dX9_readSemicolon_30 rfl ?_
    obtain ⟨M11, e12, h⟩ := bindE h
    refine X.putf (pc' := 34) dX9_readSemicolon_31 rfl fq_X9_22 rfl rfl e12 ?_
    refine X.iconst (v := 1) (pc' := 35) dX9_readSemicolon_34 rfl (by decide) ?_
    cases h
    exact X.iret (ty := .boolean) dX9_readSemicolon_35 rfl rfl (Nat.le_of_ble_eq_true rfl) (Nat.le_of_ble_eq_true rfl) rfl
  · rw [if_neg hc] at h
    refine X.aload_n (x := a0) (pc' := 14) dX9_readSemicolon_13 rfl rfl rfl ?_
    refine X.bipush (v := (-2)) (pc' := 16) dX9_readSemicolon_14 rfl (by decide) ?_
    refine X.aload_n (x := a0) (pc' := 17) dX9_readSemicolon_16 rfl rfl rfl ?_
    obtain ⟨v13, e14, h⟩ := bindE h
    refine X.getf (pc' := 20) dX9_readSemicolon_17 rfl fq_X9_22 (gI_spec e14) ?_
    obtain ⟨⟨⟩, e18, h⟩ := bindE h
    obtain ⟨v15, M16, e17, h⟩ := bd2E h
    refine X.callV (b := a0) (v := some (.int v15)) (As := [.int (-2), .int v13]) (st := []) (M' := M16) (pc' := 23) dX9_readSemicolon_20 rfl cl_X9_83 mi_X9_fail me_X9_fail mr_X9_fail e18 ⟨⟨Nat.le_of_ble_eq_true rfl, Nat.le_of_ble_eq_true rfl⟩, Nat.le_of_ble_eq_true rfl, Nat.le_of_ble_eq_true rfl⟩ rfl (Nat.le_of_ble_eq_true rfl) (ok_X9_fail (G := zs G) e17) ?_
    show X G t_X9_readSemicolon [] 23 [some (.ref a0)] [.int v15] M16 0 0 _
    split at h
    rotate_left
    · cases h
    rename_i hz1
    cases h
    exact X.iret (ty := .boolean) dX9_readSemicolon_23 rfl (congrArg Value.int hz1) (Nat.le_of_ble_eq_true rfl) (Nat.le_of_ble_eq_true rfl) rfl
def f_X9_readHead (fu : Nat) (a0 : Nat) (a1 : Nat) (M : List Ob) : Option (Int32 × List Ob) :=
  (hasO M a0 9).bind fun _ =>
  bd2 (f_X9_skipSpaces fu a0 M) fun _ M2 =>
  (gI M2 a0 9 3).bind fun v5 =>
  (hasO M2 a0 9).bind fun _ =>
  bd2 (f_X9_skipWord fu a0 M2) fun _ M8 =>
  (hasO M8 a0 9).bind fun _ =>
  bd2 (f_X9_isWord fu a0 v5 1000000 M8) fun v11 M12 =>
  if v11 = 0 then ((hasO M12 a0 9).bind fun _ =>
  bd2 (f_X9_fail fu a0 (-2) v5 M12) fun v35 M36 =>
  if v35 &&& 1 = v35 then some (v35, M36) else none)
  else ((hasO M12 a0 9).bind fun _ =>
  bd2 (f_X9_readNumber fu a0 2 8 (-1) M12) fun v15 M16 =>
  if v15 = (-1) then (some (0, M16))
  else ((hasO M16 a0 9).bind fun _ =>
  bd2 (f_X9_readNumber fu a0 0 (v15 - 1) (-1) M16) fun v19 M20 =>
  if v19 = (-1) then (some (0, M20))
  else ((hasO M20 a0 9).bind fun _ =>
  bd2 (f_X9_readNumber fu a0 0 (v15 - 1) v19 M20) fun v23 M24 =>
  if v23 = (-1) then (some (0, M24))
  else ((hasO M24 a1 8).bind fun _ =>
  bd2 (f_X8_begin fu a1 v15 v19 v23 M24) fun _ M28 =>
  (hasO M28 a0 9).bind fun _ =>
  bd2 (f_X9_readSemicolon fu a0 M28) fun v31 M32 =>
  if v31 &&& 1 = v31 then some (v31, M32) else none))))
set_option maxHeartbeats 4000000 in
theorem ok_X9_readHead {G : GT} {fu : Nat} {a0 : Nat} {a1 : Nat} {M : List Ob} {out : Int32 × List Ob} (h : f_X9_readHead fu a0 a1 M = some out) : Sp G t_X9_readHead [.ref a0, .ref a1] M (oI out) := by
  refine Sp.of rfl (by decide +kernel) (cat_all rfl) (Nat.le_of_ble_eq_true rfl) ?_
  show X G t_X9_readHead [] 0 [some (.ref a0), some (.ref a1), none, none, none, none] [] M 0 0 (oI out)
  unfold f_X9_readHead at h
  refine X.aload_n (x := a0) (pc' := 1) dX9_readHead_0 rfl rfl rfl ?_
  obtain ⟨⟨⟩, e4, h⟩ := bindE h
  obtain ⟨r1, M2, e3, h⟩ := bd2E h
  refine X.callV (b := a0) (v := none) (As := []) (st := []) (M' := M2) (pc' := 4) dX9_readHead_1 rfl cl_X9_41 mi_X9_skipSpaces me_X9_skipSpaces mr_X9_skipSpaces e4 ⟨⟨Nat.le_of_ble_eq_true rfl, Nat.le_of_ble_eq_true rfl⟩, Nat.le_of_ble_eq_true rfl, Nat.le_of_ble_eq_true rfl⟩ rfl (Nat.le_of_ble_eq_true rfl) (ok_X9_skipSpaces (G := zs G) e3) ?_
  show X G t_X9_readHead [] 4 [some (.ref a0), some (.ref a1), none, none, none, none] [] M2 0 0 _
  refine X.aload_n (x := a0) (pc' := 5) dX9_readHead_4 rfl rfl rfl ?_
  obtain ⟨v5, e6, h⟩ := bindE h
  refine X.getf (pc' := 8) dX9_readHead_5 rfl fq_X9_22 (gI_spec e6) ?_
  refine X.istore_n (L' := [some (.ref a0), some (.ref a1), some (.int v5), none, none, none]) (pc' := 9) dX9_readHead_8 rfl rfl (Nat.le_of_ble_eq_true rfl) rfl ?_
  refine X.aload_n (x := a0) (pc' := 10) dX9_readHead_9 rfl rfl rfl ?_
  obtain ⟨⟨⟩, e10, h⟩ := bindE h
  obtain ⟨r7, M8, e9, h⟩ := bd2E h
  refine X.callV (b := a0) (v := none) (As := []) (st := []) (M' := M8) (pc' := 13) dX9_readHead_10 rfl cl_X9_88 mi_X9_skipWord me_X9_skipWord mr_X9_skipWord e10 ⟨⟨Nat.le_of_ble_eq_true rfl, Nat.le_of_ble_eq_true rfl⟩, Nat.le_of_ble_eq_true rfl, Nat.le_of_ble_eq_true rfl⟩ rfl (Nat.le_of_ble_eq_true rfl) (ok_X9_skipWord (G := zs G) e9) ?_
  show X G t_X9_readHead [] 13 [some (.ref a0), some (.ref a1), some (.int v5), none, none, none] [] M8 0 0 _
  refine X.aload_n (x := a0) (pc' := 14) dX9_readHead_13 rfl rfl rfl ?_
  refine X.iload_n (x := v5) (pc' := 15) dX9_readHead_14 rfl rfl rfl ?_
  refine X.ldcS (tx := "net") (j := 0) (pc' := 17) dX9_readHead_15 rfl (by decide +kernel) ?_
  obtain ⟨⟨⟩, e14, h⟩ := bindE h
  obtain ⟨v11, M12, e13, h⟩ := bd2E h
  refine X.callV (b := a0) (v := some (.int v11)) (As := [.int v5, .ref 1000000]) (st := []) (M' := M12) (pc' := 20) dX9_readHead_17 rfl cl_X9_93 mi_X9_isWord me_X9_isWord mr_X9_isWord e14 ⟨⟨Nat.le_of_ble_eq_true rfl, Nat.le_of_ble_eq_true rfl⟩, Nat.le_of_ble_eq_true rfl, Nat.le_of_ble_eq_true rfl⟩ rfl (Nat.le_of_ble_eq_true rfl) (ok_X9_isWord (G := zs G) e13) ?_
  show X G t_X9_readHead [] 20 [some (.ref a0), some (.ref a1), some (.int v5), none, none, none] [.int v11] M12 0 0 _
  refine X.if_ne (tgt := 31) (pc' := 23) dX9_readHead_20 (by decide) rfl (fun hc => ?_) (fun hc => ?_)
  · rw [if_neg hc] at h
    refine X.aload_n (x := a0) (pc' := 32) dX9_readHead_31 rfl rfl rfl ?_
    refine X.iconst (v := 2) (pc' := 33) dX9_readHead_32 rfl (by decide) ?_
    refine X.bipush (v := 8) (pc' := 35) dX9_readHead_33 rfl (by decide) ?_
    refine X.iconst (v := (-1)) (pc' := 36) dX9_readHead_35 rfl (by decide) ?_
    obtain ⟨⟨⟩, e18, h⟩ := bindE h
    obtain ⟨v15, M16, e17, h⟩ := bd2E h
    refine X.callV (b := a0) (v := some (.int v15)) (As := [.int 2, .int 8, .int (-1)]) (st := []) (M' := M16) (pc' := 39) dX9_readHead_36 rfl cl_X9_97 mi_X9_readNumber me_X9_readNumber mr_X9_readNumber e18 ⟨⟨Nat.le_of_ble_eq_true rfl, Nat.le_of_ble_eq_true rfl⟩, Nat.le_of_ble_eq_true rfl, Nat.le_of_ble_eq_true rfl⟩ rfl (Nat.le_of_ble_eq_true rfl) (ok_X9_readNumber (G := zs G) e17) ?_
    show X G t_X9_readHead [] 39 [some (.ref a0), some (.ref a1), some (.int v5), none, none, none] [.int v15] M16 0 0 _
    refine X.istore_n (L' := [some (.ref a0), some (.ref a1), some (.int v5), some (.int v15), none, none]) (pc' := 40) dX9_readHead_39 rfl rfl (Nat.le_of_ble_eq_true rfl) rfl ?_
    refine X.iload_n (x := v15) (pc' := 41) dX9_readHead_40 rfl rfl rfl ?_
    refine X.iconst (v := (-1)) (pc' := 42) dX9_readHead_41 rfl (by decide) ?_
    refine X.icmp_ne (tgt := 47) (pc' := 45) dX9_readHead_42 (by decide) rfl (fun hc => ?_) (fun hc => ?_)
    · rw [if_neg hc] at h
      refine X.aload_n (x := a0) (pc' := 48) dX9_readHead_47 rfl rfl rfl ?_
      refine X.iconst (v := 0) (pc' := 49) dX9_readHead_48 rfl (by decide) ?_
      refine X.iload_n (x := v15) (pc' := 50) dX9_readHead_49 rfl rfl rfl ?_
      refine X.iconst (v := 1) (pc' := 51) dX9_readHead_50 rfl (by decide) ?_
      refine X.isub (pc' := 52) dX9_readHead_51 rfl ?_
      refine X.iconst (v := (-1)) (pc' := 53) dX9_readHead_52 rfl (by decide) ?_
      obtain ⟨⟨⟩, e22, h⟩ := bindE h
      obtain ⟨v19, M20, e21, h⟩ := bd2E h
      refine X.callV (b := a0) (v := some (.int v19)) (As := [.int 0, .int (v15 - 1), .int (-1)]) (st := []) (M' := M20) (pc' := 56) dX9_readHead_53 rfl cl_X9_97 mi_X9_readNumber me_X9_readNumber mr_X9_readNumber e22 ⟨⟨Nat.le_of_ble_eq_true rfl, Nat.le_of_ble_eq_true rfl⟩, Nat.le_of_ble_eq_true rfl, Nat.le_of_ble_eq_true rfl⟩ rfl (Nat.le_of_ble_eq_true rfl) (ok_X9_readNumber (G := zs G) e21) ?_
      show X G t_X9_readHead [] 56 [some (.ref a0), some (.ref a1), some (.int v5), some (.int v15), none, none] [.int v19] M20 0 0 _
      refine X.istore (L' := [some (.ref a0), some (.ref a1), some (.int v5), some (.int v15), some (.int v19), none]) (pc' := 58) dX9_readHead_56 rfl (Nat.le_of_ble_eq_true rfl) rfl ?_
      refine X.iload (x := v19) (pc' := 60) dX9_readHead_58 rfl rfl ?_
      refine X.iconst (v := (-1)) (pc' := 61) dX9_readHead_60 rfl (by decide) ?_
      refine X.icmp_ne (tgt := 66) (pc' := 64) dX9_readHead_61 (by decide) rfl (fun hc => ?_) (fun hc => ?_)
      · rw [if_neg hc] at h
        refine X.aload_n (x := a0) (pc' := 67) dX9_readHead_66 rfl rfl rfl ?_
        refine X.iconst (v := 0) (pc' := 68) dX9_readHead_67 rfl (by decide) ?_
        refine X.iload_n (x := v15) (pc' := 69) dX9_readHead_68 rfl rfl rfl ?_
        refine X.iconst (v := 1) (pc' := 70) dX9_readHead_69 rfl (by decide) ?_
        refine X.isub (pc' := 71) dX9_readHead_70 rfl ?_
        refine X.iload (x := v19) (pc' := 73) dX9_readHead_71 rfl rfl ?_
        obtain ⟨⟨⟩, e26, h⟩ := bindE h
        obtain ⟨v23, M24, e25, h⟩ := bd2E h
        refine X.callV (b := a0) (v := some (.int v23)) (As := [.int 0, .int (v15 - 1), .int v19]) (st := []) (M' := M24) (pc' := 76) dX9_readHead_73 rfl cl_X9_97 mi_X9_readNumber me_X9_readNumber mr_X9_readNumber e26 ⟨⟨Nat.le_of_ble_eq_true rfl, Nat.le_of_ble_eq_true rfl⟩, Nat.le_of_ble_eq_true rfl, Nat.le_of_ble_eq_true rfl⟩ rfl (Nat.le_of_ble_eq_true rfl) (ok_X9_readNumber (G := zs G) e25) ?_
        show X G t_X9_readHead [] 76 [some (.ref a0), some (.ref a1), some (.int v5), some (.int v15), some (.int v19), none] [.int v23] M24 0 0 _
        refine X.istore (L' := [some (.ref a0), some (.ref a1), some (.int v5), some (.int v15), some (.int v19), some (.int v23)]) (pc' := 78) dX9_readHead_76 rfl (Nat.le_of_ble_eq_true rfl) rfl ?_
        refine X.iload (x := v23) (pc' := 80) dX9_readHead_78 rfl rfl ?_
        refine X.iconst (v := (-1)) (pc' := 81) dX9_readHead_80 rfl (by decide) ?_
        refine X.icmp_ne (tgt := 86) (pc' := 84) dX9_readHead_81 (by decide) rfl (fun hc => ?_) (fun hc => ?_)
        · rw [if_neg hc] at h
          refine X.aload_n (x := a1) (pc' := 87) dX9_readHead_86 rfl rfl rfl ?_
          refine X.iload_n (x := v15) (pc' := 88) dX9_readHead_87 rfl rfl rfl ?_
          refine X.iload (x := v19) (pc' := 90) dX9_readHead_88 rfl rfl ?_
          refine X.iload (x := v23) (pc' := 92) dX9_readHead_90 rfl rfl ?_
          obtain ⟨⟨⟩, e30, h⟩ := bindE h
          obtain ⟨r27, M28, e29, h⟩ := bd2E h
          refine X.callV (b := a1) (v := none) (As := [.int v15, .int v19, .int v23]) (st := []) (M' := M28) (pc' := 95) dX9_readHead_92 rfl cl_X9_101 mi_X8_begin me_X8_begin mr_X8_begin e30 ⟨⟨Nat.le_of_ble_eq_true rfl, Nat.le_of_ble_eq_true rfl⟩, Nat.le_of_ble_eq_true rfl, Nat.le_of_ble_eq_true rfl⟩ rfl (Nat.le_of_ble_eq_true rfl) (ok_X8_begin (G := zs G) e29) ?_
          show X G t_X9_readHead [] 95 [some (.ref a0), some (.ref a1), some (.int v5), some (.int v15), some (.int v19), some (.int v23)] [] M28 0 0 _
          refine X.aload_n (x := a0) (pc' := 96) dX9_readHead_95 rfl rfl rfl ?_
          obtain ⟨⟨⟩, e34, h⟩ := bindE h
          obtain ⟨v31, M32, e33, h⟩ := bd2E h
          refine X.callV (b := a0) (v := some (.int v31)) (As := []) (st := []) (M' := M32) (pc' := 99) dX9_readHead_96 rfl cl_X9_104 mi_X9_readSemicolon me_X9_readSemicolon mr_X9_readSemicolon e34 ⟨⟨Nat.le_of_ble_eq_true rfl, Nat.le_of_ble_eq_true rfl⟩, Nat.le_of_ble_eq_true rfl, Nat.le_of_ble_eq_true rfl⟩ rfl (Nat.le_of_ble_eq_true rfl) (ok_X9_readSemicolon (G := zs G) e33) ?_
          show X G t_X9_readHead [] 99 [some (.ref a0), some (.ref a1), some (.int v5), some (.int v15), some (.int v19), some (.int v23)] [.int v31] M32 0 0 _
          split at h
          rotate_left
          · cases h
          rename_i hz1
          cases h
          exact X.iret (ty := .boolean) dX9_readHead_99 rfl (congrArg Value.int hz1) (Nat.le_of_ble_eq_true rfl) (Nat.le_of_ble_eq_true rfl) rfl
        · rw [if_pos hc] at h
          refine X.iconst (v := 0) (pc' := 85) dX9_readHead_84 rfl (by decide) ?_
          cases h
          exact X.iret (ty := .boolean) dX9_readHead_85 rfl rfl (Nat.le_of_ble_eq_true rfl) (Nat.le_of_ble_eq_true rfl) rfl
      · rw [if_pos hc] at h
        refine X.iconst (v := 0) (pc' := 65) dX9_readHead_64 rfl (by decide) ?_
        cases h
        exact X.iret (ty := .boolean) dX9_readHead_65 rfl rfl (Nat.le_of_ble_eq_true rfl) (Nat.le_of_ble_eq_true rfl) rfl
    · rw [if_pos hc] at h
      refine X.iconst (v := 0) (pc' := 46) dX9_readHead_45 rfl (by decide) ?_
      cases h
      exact X.iret (ty := .boolean) dX9_readHead_46 rfl rfl (Nat.le_of_ble_eq_true rfl) (Nat.le_of_ble_eq_true rfl) rfl
  · rw [if_pos hc] at h
    refine X.aload_n (x := a0) (pc' := 24) dX9_readHead_23 rfl rfl rfl ?_
    refine X.bipush (v := (-2)) (pc' := 26) dX9_readHead_24 rfl (by decide) ?_
    refine X.iload_n (x := v5) (pc' := 27) dX9_readHead_26 rfl rfl rfl ?_
    obtain ⟨⟨⟩, e38, h⟩ := bindE h
    obtain ⟨v35, M36, e37, h⟩ := bd2E h
    refine X.callV (b := a0) (v := some (.int v35)) (As := [.int (-2), .int v5]) (st := []) (M' := M36) (pc' := 30) dX9_readHead_27 rfl cl_X9_83 mi_X9_fail me_X9_fail mr_X9_fail e38 ⟨⟨Nat.le_of_ble_eq_true rfl, Nat.le_of_ble_eq_true rfl⟩, Nat.le_of_ble_eq_true rfl, Nat.le_of_ble_eq_true rfl⟩ rfl (Nat.le_of_ble_eq_true rfl) (ok_X9_fail (G := zs G) e37) ?_
    show X G t_X9_readHead [] 30 [some (.ref a0), some (.ref a1), some (.int v5), none, none, none] [.int v35] M36 0 0 _
    split at h
    rotate_left
    · cases h
    rename_i hz1
    cases h
    exact X.iret (ty := .boolean) dX9_readHead_30 rfl (congrArg Value.int hz1) (Nat.le_of_ble_eq_true rfl) (Nat.le_of_ble_eq_true rfl) rfl
def f_X9_readBudget (fu : Nat) (a0 : Nat) (a1 : Nat) (M : List Ob) : Option (Int32 × List Ob) :=
  (hasO M a0 9).bind fun _ =>
  bd2 (f_X9_readNumber fu a0 0 6 (-1) M) fun v1 M2 =>
  if v1 = (-1) then (some (0, M2))
  else ((pF M2 a1 4 3 (.int v1)).bind fun M5 =>
  (hasO M5 a0 9).bind fun _ =>
  bd2 (f_X9_readSemicolon fu a0 M5) fun v7 M8 =>
  if v7 &&& 1 = v7 then some (v7, M8) else none)
set_option maxHeartbeats 4000000 in
theorem ok_X9_readBudget {G : GT} {fu : Nat} {a0 : Nat} {a1 : Nat} {M : List Ob} {out : Int32 × List Ob} (h : f_X9_readBudget fu a0 a1 M = some out) : Sp G t_X9_readBudget [.ref a0, .ref a1] M (oI out) := by
  refine Sp.of rfl (by decide +kernel) (cat_all rfl) (Nat.le_of_ble_eq_true rfl) ?_
  show X G t_X9_readBudget [] 0 [some (.ref a0), some (.ref a1), none] [] M 0 0 (oI out)
  unfold f_X9_readBudget at h
  refine X.aload_n (x := a0) (pc' := 1) dX9_readBudget_0 rfl rfl rfl ?_
  refine X.iconst (v := 0) (pc' := 2) dX9_readBudget_1 rfl (by decide) ?_
  refine X.bipush (v := 6) (pc' := 4) dX9_readBudget_2 rfl (by decide) ?_
  refine X.iconst (v := (-1)) (pc' := 5) dX9_readBudget_4 rfl (by decide) ?_
  obtain ⟨⟨⟩, e4, h⟩ := bindE h
  obtain ⟨v1, M2, e3, h⟩ := bd2E h
  refine X.callV (b := a0) (v := some (.int v1)) (As := [.int 0, .int 6, .int (-1)]) (st := []) (M' := M2) (pc' := 8) dX9_readBudget_5 rfl cl_X9_97 mi_X9_readNumber me_X9_readNumber mr_X9_readNumber e4 ⟨⟨Nat.le_of_ble_eq_true rfl, Nat.le_of_ble_eq_true rfl⟩, Nat.le_of_ble_eq_true rfl, Nat.le_of_ble_eq_true rfl⟩ rfl (Nat.le_of_ble_eq_true rfl) (ok_X9_readNumber (G := zs G) e3) ?_
  show X G t_X9_readBudget [] 8 [some (.ref a0), some (.ref a1), none] [.int v1] M2 0 0 _
  refine X.istore_n (L' := [some (.ref a0), some (.ref a1), some (.int v1)]) (pc' := 9) dX9_readBudget_8 rfl rfl (Nat.le_of_ble_eq_true rfl) rfl ?_
  refine X.iload_n (x := v1) (pc' := 10) dX9_readBudget_9 rfl rfl rfl ?_
  refine X.iconst (v := (-1)) (pc' := 11) dX9_readBudget_10 rfl (by decide) ?_
  refine X.icmp_ne (tgt := 16) (pc' := 14) dX9_readBudget_11 (by decide) rfl (fun hc => ?_) (fun hc => ?_)
  · rw [if_neg hc] at h
    refine X.aload_n (x := a1) (pc' := 17) dX9_readBudget_16 rfl rfl rfl ?_
    refine X.iload_n (x := v1) (pc' := 18) dX9_readBudget_17 rfl rfl rfl ?_
    obtain ⟨M5, e6, h⟩ := bindE h
    refine X.putf (pc' := 21) dX9_readBudget_18 rfl fq_X9_131 rfl rfl e6 ?_
    refine X.aload_n (x := a0) (pc' := 22) dX9_readBudget_21 rfl rfl rfl ?_
    obtain ⟨⟨⟩, e10, h⟩ := bindE h
    obtain ⟨v7, M8, e9, h⟩ := bd2E h
    refine X.callV (b := a0) (v := some (.int v7)) (As := []) (st := []) (M' := M8) (pc' := 25) dX9_readBudget_22 rfl cl_X9_104 mi_X9_readSemicolon me_X9_readSemicolon mr_X9_readSemicolon e10 ⟨⟨Nat.le_of_ble_eq_true rfl, Nat.le_of_ble_eq_true rfl⟩, Nat.le_of_ble_eq_true rfl, Nat.le_of_ble_eq_true rfl⟩ rfl (Nat.le_of_ble_eq_true rfl) (ok_X9_readSemicolon (G := zs G) e9) ?_
    show X G t_X9_readBudget [] 25 [some (.ref a0), some (.ref a1), some (.int v1)] [.int v7] M8 0 0 _
    split at h
    rotate_left
    · cases h
    rename_i hz1
    cases h
    exact X.iret (ty := .boolean) dX9_readBudget_25 rfl (congrArg Value.int hz1) (Nat.le_of_ble_eq_true rfl) (Nat.le_of_ble_eq_true rfl) rfl
  · rw [if_pos hc] at h
    refine X.iconst (v := 0) (pc' := 15) dX9_readBudget_14 rfl (by decide) ?_
    cases h
    exact X.iret (ty := .boolean) dX9_readBudget_15 rfl rfl (Nat.le_of_ble_eq_true rfl) (Nat.le_of_ble_eq_true rfl) rfl
def f_X9_readArc (fu : Nat) (a0 : Nat) (a1 : Nat) (M : List Ob) : Option (Int32 × List Ob) :=
  (gI M a1 4 0).bind fun v1 =>
  (hasO M a0 9).bind fun _ =>
  bd2 (f_X9_readNumber fu a0 0 (v1 - 1) (-1) M) fun v3 M4 =>
  if v3 = (-1) then (some (0, M4))
  else ((gI M4 a1 4 0).bind fun v7 =>
  (hasO M4 a0 9).bind fun _ =>
  bd2 (f_X9_readNumber fu a0 0 (v7 - 1) v3 M4) fun v9 M10 =>
  if v9 = (-1) then (some (0, M10))
  else ((hasO M10 a0 9).bind fun _ =>
  bd2 (f_X9_readNumber fu a0 0 99 (-1) M10) fun v13 M14 =>
  if v13 = (-1) then (some (0, M14))
  else ((hasO M14 a0 9).bind fun _ =>
  bd2 (f_X9_readNumber fu a0 0 99 (-1) M14) fun v17 M18 =>
  if v17 = (-1) then (some (0, M18))
  else ((hasO M18 a1 4).bind fun _ =>
  bd2 (f_X4_addLast fu a1 v3 v9 v13 v17 M18) fun _ M22 =>
  (hasO M22 a0 9).bind fun _ =>
  bd2 (f_X9_readSemicolon fu a0 M22) fun v25 M26 =>
  if v25 &&& 1 = v25 then some (v25, M26) else none))))
set_option maxHeartbeats 4000000 in
theorem ok_X9_readArc {G : GT} {fu : Nat} {a0 : Nat} {a1 : Nat} {M : List Ob} {out : Int32 × List Ob} (h : f_X9_readArc fu a0 a1 M = some out) : Sp G t_X9_readArc [.ref a0, .ref a1] M (oI out) := by
  refine Sp.of rfl (by decide +kernel) (cat_all rfl) (Nat.le_of_ble_eq_true rfl) ?_
  show X G t_X9_readArc [] 0 [some (.ref a0), some (.ref a1), none, none, none, none] [] M 0 0 (oI out)
  unfold f_X9_readArc at h
  refine X.aload_n (x := a0) (pc' := 1) dX9_readArc_0 rfl rfl rfl ?_
  refine X.iconst (v := 0) (pc' := 2) dX9_readArc_1 rfl (by decide) ?_
  refine X.aload_n (x := a1) (pc' := 3) dX9_readArc_2 rfl rfl rfl ?_
  obtain ⟨v1, e2, h⟩ := bindE h
  refine X.getf (pc' := 6) dX9_readArc_3 rfl fq_X9_133 (gI_spec e2) ?_
  refine X.iconst (v := 1) (pc' := 7) dX9_readArc_6 rfl (by decide) ?_
  refine X.isub (pc' := 8) dX9_readArc_7 rfl ?_
  refine X.iconst (v := (-1)) (pc' := 9) dX9_readArc_8 rfl (by decide) ?_
  obtain ⟨⟨⟩, e6, h⟩ := bindE h
  obtain ⟨v3, M4, e5, h⟩ := bd2E h
  refine X.callV (b := a0) (v := some (.int v3)) (As := [.int 0, .int (v1 - 1), .int (-1)]) (st := []) (M' := M4) (pc' := 12) dX9_readArc_9 rfl cl_X9_97 mi_X9_readNumber me_X9_readNumber mr_X9_readNumber e6 ⟨⟨Nat.le_of_ble_eq_true rfl, Nat.le_of_ble_eq_true rfl⟩, Nat.le_of_ble_eq_true rfl, Nat.le_of_ble_eq_true rfl⟩ rfl (Nat.le_of_ble_eq_true rfl) (ok_X9_readNumber (G := zs G) e5) ?_
  show X G t_X9_readArc [] 12 [some (.ref a0), some (.ref a1), none, none, none, none] [.int v3] M4 0 0 _
  refine X.istore_n (L' := [some (.ref a0), some (.ref a1), some (.int v3), none, none, none]) (pc' := 13) dX9_readArc_12 rfl rfl (Nat.le_of_ble_eq_true rfl) rfl ?_
  refine X.iload_n (x := v3) (pc' := 14) dX9_readArc_13 rfl rfl rfl ?_
  refine X.iconst (v := (-1)) (pc' := 15) dX9_readArc_14 rfl (by decide) ?_
  refine X.icmp_ne (tgt := 20) (pc' := 18) dX9_readArc_15 (by decide) rfl (fun hc => ?_) (fun hc => ?_)
  · rw [if_neg hc] at h
    refine X.aload_n (x := a0) (pc' := 21) dX9_readArc_20 rfl rfl rfl ?_
    refine X.iconst (v := 0) (pc' := 22) dX9_readArc_21 rfl (by decide) ?_
    refine X.aload_n (x := a1) (pc' := 23) dX9_readArc_22 rfl rfl rfl ?_
    obtain ⟨v7, e8, h⟩ := bindE h
    refine X.getf (pc' := 26) dX9_readArc_23 rfl fq_X9_133 (gI_spec e8) ?_
    refine X.iconst (v := 1) (pc' := 27) dX9_readArc_26 rfl (by decide) ?_
    refine X.isub (pc' := 28) dX9_readArc_27 rfl ?_
    refine X.iload_n (x := v3) (pc' := 29) dX9_readArc_28 rfl rfl rfl ?_
    obtain ⟨⟨⟩, e12, h⟩ := bindE h
    obtain ⟨v9, M10, e11, h⟩ := bd2E h
    refine X.callV (b := a0) (v := some (.int v9)) (As := [.int 0, .int (v7 - 1), .int v3]) (st := []) (M' := M10) (pc' := 32) dX9_readArc_29 rfl cl_X9_97 mi_X9_readNumber me_X9_readNumber mr_X9_readNumber e12 ⟨⟨Nat.le_of_ble_eq_true rfl, Nat.le_of_ble_eq_true rfl⟩, Nat.le_of_ble_eq_true rfl, Nat.le_of_ble_eq_true rfl⟩ rfl (Nat.le_of_ble_eq_true rfl) (ok_X9_readNumber (G := zs G) e11) ?_
    show X G t_X9_readArc [] 32 [some (.ref a0), some (.ref a1), some (.int v3), none, none, none] [.int v9] M10 0 0 _
    refine X.istore_n (L' := [some (.ref a0), some (.ref a1), some (.int v3), some (.int v9), none, none]) (pc' := 33) dX9_readArc_32 rfl rfl (Nat.le_of_ble_eq_true rfl) rfl ?_
    refine X.iload_n (x := v9) (pc' := 34) dX9_readArc_33 rfl rfl rfl ?_
    refine X.iconst (v := (-1)) (pc' := 35) dX9_readArc_34 rfl (by decide) ?_
    refine X.icmp_ne (tgt := 40) (pc' := 38) dX9_readArc_35 (by decide) rfl (fun hc => ?_) (fun hc => ?_)
    · rw [if_neg hc] at h
      refine X.aload_n (x := a0) (pc' := 41) dX9_readArc_40 rfl rfl rfl ?_
      refine X.iconst (v := 0) (pc' := 42) dX9_readArc_41 rfl (by decide) ?_
      refine X.bipush (v := 99) (pc' := 44) dX9_readArc_42 rfl (by decide) ?_
      refine X.iconst (v := (-1)) (pc' := 45) dX9_readArc_44 rfl (by decide) ?_
      obtain ⟨⟨⟩, e16, h⟩ := bindE h
      obtain ⟨v13, M14, e15, h⟩ := bd2E h
      refine X.callV (b := a0) (v := some (.int v13)) (As := [.int 0, .int 99, .int (-1)]) (st := []) (M' := M14) (pc' := 48) dX9_readArc_45 rfl cl_X9_97 mi_X9_readNumber me_X9_readNumber mr_X9_readNumber e16 ⟨⟨Nat.le_of_ble_eq_true rfl, Nat.le_of_ble_eq_true rfl⟩, Nat.le_of_ble_eq_true rfl, Nat.le_of_ble_eq_true rfl⟩ rfl (Nat.le_of_ble_eq_true rfl) (ok_X9_readNumber (G := zs G) e15) ?_
      show X G t_X9_readArc [] 48 [some (.ref a0), some (.ref a1), some (.int v3), some (.int v9), none, none] [.int v13] M14 0 0 _
      refine X.istore (L' := [some (.ref a0), some (.ref a1), some (.int v3), some (.int v9), some (.int v13), none]) (pc' := 50) dX9_readArc_48 rfl (Nat.le_of_ble_eq_true rfl) rfl ?_
      refine X.iload (x := v13) (pc' := 52) dX9_readArc_50 rfl rfl ?_
      refine X.iconst (v := (-1)) (pc' := 53) dX9_readArc_52 rfl (by decide) ?_
      refine X.icmp_ne (tgt := 58) (pc' := 56) dX9_readArc_53 (by decide) rfl (fun hc => ?_) (fun hc => ?_)
      · rw [if_neg hc] at h
        refine X.aload_n (x := a0) (pc' := 59) dX9_readArc_58 rfl rfl rfl ?_
        refine X.iconst (v := 0) (pc' := 60) dX9_readArc_59 rfl (by decide) ?_
        refine X.bipush (v := 99) (pc' := 62) dX9_readArc_60 rfl (by decide) ?_
        refine X.iconst (v := (-1)) (pc' := 63) dX9_readArc_62 rfl (by decide) ?_
        obtain ⟨⟨⟩, e20, h⟩ := bindE h
        obtain ⟨v17, M18, e19, h⟩ := bd2E h
        refine X.callV (b := a0) (v := some (.int v17)) (As := [.int 0, .int 99, .int (-1)]) (st := []) (M' := M18) (pc' := 66) dX9_readArc_63 rfl cl_X9_97 mi_X9_readNumber me_X9_readNumber mr_X9_readNumber e20 ⟨⟨Nat.le_of_ble_eq_true rfl, Nat.le_of_ble_eq_true rfl⟩, Nat.le_of_ble_eq_true rfl, Nat.le_of_ble_eq_true rfl⟩ rfl (Nat.le_of_ble_eq_true rfl) (ok_X9_readNumber (G := zs G) e19) ?_
        show X G t_X9_readArc [] 66 [some (.ref a0), some (.ref a1), some (.int v3), some (.int v9), some (.int v13), none] [.int v17] M18 0 0 _
        refine X.istore (L' := [some (.ref a0), some (.ref a1), some (.int v3), some (.int v9), some (.int v13), some (.int v17)]) (pc' := 68) dX9_readArc_66 rfl (Nat.le_of_ble_eq_true rfl) rfl ?_
        refine X.iload (x := v17) (pc' := 70) dX9_readArc_68 rfl rfl ?_
        refine X.iconst (v := (-1)) (pc' := 71) dX9_readArc_70 rfl (by decide) ?_
        refine X.icmp_ne (tgt := 76) (pc' := 74) dX9_readArc_71 (by decide) rfl (fun hc => ?_) (fun hc => ?_)
        · rw [if_neg hc] at h
          refine X.aload_n (x := a1) (pc' := 77) dX9_readArc_76 rfl rfl rfl ?_
          refine X.iload_n (x := v3) (pc' := 78) dX9_readArc_77 rfl rfl rfl ?_
          refine X.iload_n (x := v9) (pc' := 79) dX9_readArc_78 rfl rfl rfl ?_
          refine X.iload (x := v13) (pc' := 81) dX9_readArc_79 rfl rfl ?_
          refine X.iload (x := v17) (pc' := 83) dX9_readArc_81 rfl rfl ?_
          obtain ⟨⟨⟩, e24, h⟩ := bindE h
          obtain ⟨r21, M22, e23, h⟩ := bd2E h
          refine X.callV (b := a1) (v := none) (As := [.int v3, .int v9, .int v13, .int v17]) (st := []) (M' := M22) (pc' := 86) dX9_readArc_83 rfl cl_X9_136 mi_X4_addLast me_X4_addLast mr_X4_addLast e24 ⟨⟨Nat.le_of_ble_eq_true rfl, Nat.le_of_ble_eq_true rfl⟩, Nat.le_of_ble_eq_true rfl, Nat.le_of_ble_eq_true rfl⟩ rfl (Nat.le_of_ble_eq_true rfl) (ok_X4_addLast (G := zs G) e23) ?_
          show X G t_X9_readArc [] 86 [some (.ref a0), some (.ref a1), some (.int v3), some (.int v9), some (.int v13), some (.int v17)] [] M22 0 0 _
          refine X.aload_n (x := a0) (pc' := 87) dX9_readArc_86 rfl rfl rfl ?_
          obtain ⟨⟨⟩, e28, h⟩ := bindE h
          obtain ⟨v25, M26, e27, h⟩ := bd2E h
          refine X.callV (b := a0) (v := some (.int v25)) (As := []) (st := []) (M' := M26) (pc' := 90) dX9_readArc_87 rfl cl_X9_104 mi_X9_readSemicolon me_X9_readSemicolon mr_X9_readSemicolon e28 ⟨⟨Nat.le_of_ble_eq_true rfl, Nat.le_of_ble_eq_true rfl⟩, Nat.le_of_ble_eq_true rfl, Nat.le_of_ble_eq_true rfl⟩ rfl (Nat.le_of_ble_eq_true rfl) (ok_X9_readSemicolon (G := zs G) e27) ?_
          show X G t_X9_readArc [] 90 [some (.ref a0), some (.ref a1), some (.int v3), some (.int v9), some (.int v13), some (.int v17)] [.int v25] M26 0 0 _
          split at h
          rotate_left
          · cases h
          rename_i hz1
          cases h
          exact X.iret (ty := .boolean) dX9_readArc_90 rfl (congrArg Value.int hz1) (Nat.le_of_ble_eq_true rfl) (Nat.le_of_ble_eq_true rfl) rfl
        · rw [if_pos hc] at h
          refine X.iconst (v := 0) (pc' := 75) dX9_readArc_74 rfl (by decide) ?_
          cases h
          exact X.iret (ty := .boolean) dX9_readArc_75 rfl rfl (Nat.le_of_ble_eq_true rfl) (Nat.le_of_ble_eq_true rfl) rfl
      · rw [if_pos hc] at h
        refine X.iconst (v := 0) (pc' := 57) dX9_readArc_56 rfl (by decide) ?_
        cases h
        exact X.iret (ty := .boolean) dX9_readArc_57 rfl rfl (Nat.le_of_ble_eq_true rfl) (Nat.le_of_ble_eq_true rfl) rfl
    · rw [if_pos hc] at h
      refine X.iconst (v := 0) (pc' := 39) dX9_readArc_38 rfl (by decide) ?_
      cases h
      exact X.iret (ty := .boolean) dX9_readArc_39 rfl rfl (Nat.le_of_ble_eq_true rfl) (Nat.le_of_ble_eq_true rfl) rfl
  · rw [if_pos hc] at h
    refine X.iconst (v := 0) (pc' := 19) dX9_readArc_18 rfl (by decide) ?_
    cases h
    exact X.iret (ty := .boolean) dX9_readArc_19 rfl rfl (Nat.le_of_ble_eq_true rfl) (Nat.le_of_ble_eq_true rfl) rfl
def f_X9_readRouteEnd_27 (fu : Nat) (a0 : Nat) (M : List Ob) : Option (Int32 × List Ob) :=
  (gI M a0 9 3).bind fun v1 =>
  (hasO M a0 9).bind fun _ =>
  bd2 (f_X9_fail fu a0 (-2) v1 M) fun v3 M4 =>
  if v3 &&& 1 = v3 then some (v3, M4) else none
set_option maxHeartbeats 4000000 in
theorem ok_X9_readRouteEnd_27 {G : GT} {fu : Nat} {out : Int32 × List Ob} (hz : gZ G = false) {a0 : Nat} {M : List Ob} (h : f_X9_readRouteEnd_27 fu a0 M = some out) : X G t_X9_readRouteEnd [] 27 [some (.ref a0), none, none] [] M 0 0 (oI out) := by
  unfold f_X9_readRouteEnd_27 at h
  refine X.aload_n (x := a0) (pc' := 28) dX9_readRouteEnd_27 rfl rfl rfl ?_
  refine X.bipush (v := (-2)) (pc' := 30) dX9_readRouteEnd_28 rfl (by decide) ?_
  refine X.aload_n (x := a0) (pc' := 31) dX9_readRouteEnd_30 rfl rfl rfl ?_
  obtain ⟨v1, e2, h⟩ := bindE h
  refine X.getf (pc' := 34) dX9_readRouteEnd_31 rfl fq_X9_22 (gI_spec e2) ?_
  obtain ⟨⟨⟩, e6, h⟩ := bindE h
  obtain ⟨v3, M4, e5, h⟩ := bd2E h
  refine X.callV (b := a0) (v := some (.int v3)) (As := [.int (-2), .int v1]) (st := []) (M' := M4) (pc' := 37) dX9_readRouteEnd_34 rfl cl_X9_83 mi_X9_fail me_X9_fail mr_X9_fail e6 ⟨⟨Nat.le_of_ble_eq_true rfl, Nat.le_of_ble_eq_true rfl⟩, Nat.le_of_ble_eq_true rfl, Nat.le_of_ble_eq_true rfl⟩ rfl (Nat.le_of_ble_eq_true rfl) (ok_X9_fail (G := zs G) e5) ?_
  show X G t_X9_readRouteEnd [] 37 [some (.ref a0), none, none] [.int v3] M4 0 0 _
  split at h
  rotate_left
  · cases h
  rename_i hz1
  cases h
  exact X.iret (ty := .boolean) dX9_readRouteEnd_37 rfl (congrArg Value.int hz1) (Nat.le_of_ble_eq_true rfl) (Nat.le_of_ble_eq_true rfl) rfl
def f_X9_readRouteEnd (fu : Nat) (a0 : Nat) (a1 : Nat) (a2 : Nat) (M : List Ob) : Option (Int32 × List Ob) :=
  (hasO M a0 9).bind fun _ =>
  bd2 (f_X9_peek fu a0 M) fun v1 M2 =>
  if v1 = 59 then ((gP M2 a1 8 0).bind fun r5 =>
  (hasO M2 r5 4).bind fun _ =>
  bd2 (f_X4_endOf fu r5 a2 M2) fun v7 M8 =>
  (gP M8 a1 8 0).bind fun r11 =>
  (gI M8 r11 4 2).bind fun v13 =>
  if v7 = v13 then ((hasO M8 a1 8).bind fun _ =>
  bd2 (f_X8_wasTold fu a1 a2 M8) fun v15 M16 =>
  if v15 = 0 then ((gI M16 a0 9 3).bind fun v19 =>
  (pF M16 a0 9 3 (.int (v19 + 1))).bind fun M21 =>
  (hasO M21 a1 8).bind fun _ =>
  bd2 (f_X8_addTold fu a1 a2 M21) fun _ M24 =>
  (hasO M24 a2 5).bind fun _ =>
  bd2 (f_X5_clear fu a2 M24) fun _ M28 =>
  some (1, M28))
  else ((gI M16 a0 9 3).bind fun v31 =>
  (hasO M16 a0 9).bind fun _ =>
  bd2 (f_X9_fail fu a0 (-3) v31 M16) fun v33 M34 =>
  if v33 &&& 1 = v33 then some (v33, M34) else none))
  else (f_X9_readRouteEnd_27 fu a0 M8))
  else (f_X9_readRouteEnd_27 fu a0 M2)
set_option maxHeartbeats 4000000 in
theorem ok_X9_readRouteEnd {G : GT} (hz : gZ G = false) {fu : Nat} {a0 : Nat} {a1 : Nat} {a2 : Nat} {M : List Ob} {out : Int32 × List Ob} (h : f_X9_readRouteEnd fu a0 a1 a2 M = some out) : Sp G t_X9_readRouteEnd [.ref a0, .ref a1, .ref a2] M (oI out) := by
  refine Sp.of rfl (by decide +kernel) (cat_all rfl) (Nat.le_of_ble_eq_true rfl) ?_
  show X G t_X9_readRouteEnd [] 0 [some (.ref a0), some (.ref a1), some (.ref a2)] [] M 0 0 (oI out)
  unfold f_X9_readRouteEnd at h
  refine X.aload_n (x := a0) (pc' := 1) dX9_readRouteEnd_0 rfl rfl rfl ?_
  obtain ⟨⟨⟩, e4, h⟩ := bindE h
  obtain ⟨v1, M2, e3, h⟩ := bd2E h
  refine X.callV (b := a0) (v := some (.int v1)) (As := []) (st := []) (M' := M2) (pc' := 4) dX9_readRouteEnd_1 rfl cl_X9_63 mi_X9_peek me_X9_peek mr_X9_peek e4 ⟨⟨Nat.le_of_ble_eq_true rfl, Nat.le_of_ble_eq_true rfl⟩, Nat.le_of_ble_eq_true rfl, Nat.le_of_ble_eq_true rfl⟩ rfl (Nat.le_of_ble_eq_true rfl) (ok_X9_peek (G := zs G) e3) ?_
  show X G t_X9_readRouteEnd [] 4 [some (.ref a0), some (.ref a1), some (.ref a2)] [.int v1] M2 0 0 _
  refine X.bipush (v := 59) (pc' := 6) dX9_readRouteEnd_4 rfl (by decide) ?_
  refine X.icmp_ne (tgt := 27) (pc' := 9) dX9_readRouteEnd_6 (by decide) rfl (fun hc => ?_) (fun hc => ?_)
  · rw [if_neg hc] at h
    refine X.sub (L := [some (.ref a0), none, none]) ?_ (⟨rfl, trivial⟩)
    exact ok_X9_readRouteEnd_27 hz h
  · rw [if_pos hc] at h
    refine X.aload_n (x := a1) (pc' := 10) dX9_readRouteEnd_9 rfl rfl rfl ?_
    obtain ⟨r5, e6, h⟩ := bindE h
    refine X.getf (pc' := 13) dX9_readRouteEnd_10 rfl fq_X9_53 (gP_spec e6) ?_
    refine X.aload_n (x := a2) (pc' := 14) dX9_readRouteEnd_13 rfl rfl rfl ?_
    obtain ⟨⟨⟩, e10, h⟩ := bindE h
    obtain ⟨v7, M8, e9, h⟩ := bd2E h
    refine X.callV (b := r5) (v := some (.int v7)) (As := [.ref a2]) (st := []) (M' := M8) (pc' := 17) dX9_readRouteEnd_14 rfl cl_X9_158 mi_X4_endOf me_X4_endOf mr_X4_endOf e10 ⟨⟨Nat.le_of_ble_eq_true rfl, Nat.le_of_ble_eq_true rfl⟩, Nat.le_of_ble_eq_true rfl, Nat.le_of_ble_eq_true rfl⟩ rfl (Nat.le_of_ble_eq_true rfl) (ok_X4_endOf (G := zs G) e9) ?_
    show X G t_X9_readRouteEnd [] 17 [some (.ref a0), some (.ref a1), some (.ref a2)] [.int v7] M8 0 0 _
    refine X.aload_n (x := a1) (pc' := 18) dX9_readRouteEnd_17 rfl rfl rfl ?_
    obtain ⟨r11, e12, h⟩ := bindE h
    refine X.getf (pc' := 21) dX9_readRouteEnd_18 rfl fq_X9_53 (gP_spec e12) ?_
    obtain ⟨v13, e14, h⟩ := bindE h
    refine X.getf (pc' := 24) dX9_readRouteEnd_21 rfl fq_X9_162 (gI_spec e14) ?_
    refine X.icmp_eq (tgt := 38) (pc' := 27) dX9_readRouteEnd_24 (by decide) rfl (fun hc => ?_) (fun hc => ?_)
    · rw [if_pos hc] at h
      refine X.aload_n (x := a1) (pc' := 39) dX9_readRouteEnd_38 rfl rfl rfl ?_
      refine X.aload_n (x := a2) (pc' := 40) dX9_readRouteEnd_39 rfl rfl rfl ?_
      obtain ⟨⟨⟩, e18, h⟩ := bindE h
      obtain ⟨v15, M16, e17, h⟩ := bd2E h
      refine X.callV (b := a1) (v := some (.int v15)) (As := [.ref a2]) (st := []) (M' := M16) (pc' := 43) dX9_readRouteEnd_40 rfl cl_X9_165 mi_X8_wasTold me_X8_wasTold mr_X8_wasTold e18 ⟨⟨Nat.le_of_ble_eq_true rfl, Nat.le_of_ble_eq_true rfl⟩, Nat.le_of_ble_eq_true rfl, Nat.le_of_ble_eq_true rfl⟩ rfl (Nat.le_of_ble_eq_true rfl) (ok_X8_wasTold (G := zs G) e17) ?_
      show X G t_X9_readRouteEnd [] 43 [some (.ref a0), some (.ref a1), some (.ref a2)] [.int v15] M16 0 0 _
      refine X.if_eq (tgt := 57) (pc' := 46) dX9_readRouteEnd_43 (by decide) rfl (fun hc => ?_) (fun hc => ?_)
      · rw [if_pos hc] at h
        refine X.aload_n (x := a0) (pc' := 58) dX9_readRouteEnd_57 rfl rfl rfl ?_
        refine X.dup (pc' := 59) dX9_readRouteEnd_58 rfl rfl ?_
        obtain ⟨v19, e20, h⟩ := bindE h
        refine X.getf (pc' := 62) dX9_readRouteEnd_59 rfl fq_X9_22 (gI_spec e20) ?_
        refine X.iconst (v := 1) (pc' := 63) dX9_readRouteEnd_62 rfl (by decide) ?_
        refine X.iadd (pc' := 64) dX9_readRouteEnd_63 rfl ?_
        obtain ⟨M21, e22, h⟩ := bindE h
        refine X.putf (pc' := 67) dX9_readRouteEnd_64 rfl fq_X9_22 rfl rfl e22 ?_
        refine X.aload_n (x := a1) (pc' := 68) dX9_readRouteEnd_67 rfl rfl rfl ?_
        refine X.aload_n (x := a2) (pc' := 69) dX9_readRouteEnd_68 rfl rfl rfl ?_
        obtain ⟨⟨⟩, e26, h⟩ := bindE h
        obtain ⟨r23, M24, e25, h⟩ := bd2E h
        refine X.callV (b := a1) (v := none) (As := [.ref a2]) (st := []) (M' := M24) (pc' := 72) dX9_readRouteEnd_69 rfl cl_X9_169 mi_X8_addTold me_X8_addTold mr_X8_addTold e26 ⟨⟨Nat.le_of_ble_eq_true rfl, Nat.le_of_ble_eq_true rfl⟩, Nat.le_of_ble_eq_true rfl, Nat.le_of_ble_eq_true rfl⟩ rfl (Nat.le_of_ble_eq_true rfl) (ok_X8_addTold (G := zs G) (hz := hz) e25) ?_
        show X G t_X9_readRouteEnd [] 72 [some (.ref a0), some (.ref a1), some (.ref a2)] [] M24 0 0 _
        refine X.aload_n (x := a2) (pc' := 73) dX9_readRouteEnd_72 rfl rfl rfl ?_
        obtain ⟨⟨⟩, e30, h⟩ := bindE h
        obtain ⟨r27, M28, e29, h⟩ := bd2E h
        refine X.callV (b := a2) (v := none) (As := []) (st := []) (M' := M28) (pc' := 76) dX9_readRouteEnd_73 rfl cl_X9_173 mi_X5_clear me_X5_clear mr_X5_clear e30 ⟨⟨Nat.le_of_ble_eq_true rfl, Nat.le_of_ble_eq_true rfl⟩, Nat.le_of_ble_eq_true rfl, Nat.le_of_ble_eq_true rfl⟩ rfl (Nat.le_of_ble_eq_true rfl) (ok_X5_clear (G := zs G) e29) ?_
        show X G t_X9_readRouteEnd [] 76 [some (.ref a0), some (.ref a1), some (.ref a2)] [] M28 0 0 _
        refine X.iconst (v := 1) (pc' := 77) dX9_readRouteEnd_76 rfl (by decide) ?_
        cases h
        exact X.iret (ty := .boolean) dX9_readRouteEnd_77 rfl rfl (Nat.le_of_ble_eq_true rfl) (Nat.le_of_ble_eq_true rfl) rfl
      · rw [if_neg hc] at h
        refine X.aload_n (x := a0) (pc' := 47) dX9_readRouteEnd_46 rfl rfl rfl ?_
        refine X.bipush (v := (-3)) (pc' := 49) dX9_readRouteEnd_47 rfl (by decide) ?_
        refine X.aload_n (x := a0) (pc' := 50) dX9_readRouteEnd_49 rfl rfl rfl ?_
        obtain ⟨v31, e32, h⟩ := bindE h
        refine X.getf (pc' := 53) dX9_readRouteEnd_50 rfl fq_X9_22 (gI_spec e32) ?_
        obtain ⟨⟨⟩, e36, h⟩ := bindE h
        obtain ⟨v33, M34, e35, h⟩ := bd2E h
        refine X.callV (b := a0) (v := some (.int v33)) (As := [.int (-3), .int v31]) (st := []) (M' := M34) (pc' := 56) dX9_readRouteEnd_53 rfl cl_X9_83 mi_X9_fail me_X9_fail mr_X9_fail e36 ⟨⟨Nat.le_of_ble_eq_true rfl, Nat.le_of_ble_eq_true rfl⟩, Nat.le_of_ble_eq_true rfl, Nat.le_of_ble_eq_true rfl⟩ rfl (Nat.le_of_ble_eq_true rfl) (ok_X9_fail (G := zs G) e35) ?_
        show X G t_X9_readRouteEnd [] 56 [some (.ref a0), some (.ref a1), some (.ref a2)] [.int v33] M34 0 0 _
        split at h
        rotate_left
        · cases h
        rename_i hz1
        cases h
        exact X.iret (ty := .boolean) dX9_readRouteEnd_56 rfl (congrArg Value.int hz1) (Nat.le_of_ble_eq_true rfl) (Nat.le_of_ble_eq_true rfl) rfl
    · rw [if_neg hc] at h
      refine X.sub (L := [some (.ref a0), none, none]) ?_ (⟨rfl, trivial⟩)
      exact ok_X9_readRouteEnd_27 hz h
def f_X9_readRoute_29 (fu : Nat) (a0 : Nat) (a1 : Nat) (a2 : Nat) (a3 : Int32) (M : List Ob) (k11 : Nat → Nat → Nat → Int32 → List Ob → Option (Int32 × List Ob)) (k73 : Nat → Int32 → List Ob → Option (Int32 × List Ob)) (k98 : Nat → Nat → Nat → List Ob → Option (Int32 × List Ob)) : Option (Int32 × List Ob) :=
  (gI M a0 9 3).bind fun v1 =>
  (gP M a1 8 0).bind fun r3 =>
  (gI M r3 4 4).bind fun v5 =>
  (hasO M a0 9).bind fun _ =>
  bd2 (f_X9_readNumber fu a0 0 (v5 - 1) (-1) M) fun v7 M8 =>
  if v7 = (-1) then (some (0, M8))
  else ((gP M8 a1 8 0).bind fun r11 =>
  (hasO M8 r11 4).bind fun _ =>
  bd2 (f_X4_canFollow fu r11 a2 v7 M8) fun v13 M14 =>
  if v13 = 0 then (k73 a0 v1 M14)
  else ((hasO M14 a2 5).bind fun _ =>
  bd2 (f_X5_push fu a2 v7 M14) fun _ M18 =>
  (hasO M18 a0 9).bind fun _ =>
  bd2 (f_X9_skipSpaces fu a0 M18) fun _ M22 =>
  k11 a0 a1 a2 (a3 + 1) M22))
set_option maxHeartbeats 4000000 in
theorem ok_X9_readRoute_29 {G : GT} {fu : Nat} {out : Int32 × List Ob} (hz : gZ G = false) {a0 : Nat} {a1 : Nat} {a2 : Nat} {a3 : Int32} {M : List Ob} {k11 : Nat → Nat → Nat → Int32 → List Ob → Option (Int32 × List Ob)} {k73 : Nat → Int32 → List Ob → Option (Int32 × List Ob)} {k98 : Nat → Nat → Nat → List Ob → Option (Int32 × List Ob)} (hk11 : ∀ (a0 : Nat) (a1 : Nat) (a2 : Nat) (a3 : Int32) (M : List Ob), k11 a0 a1 a2 a3 M = some out → X G t_X9_readRoute [] 11 [some (.ref a0), some (.ref a1), some (.ref a2), some (.int a3), none, none] [] M 0 0 (oI out)) (hk73 : ∀ (a0 : Nat) (a4 : Int32) (M : List Ob), k73 a0 a4 M = some out → X G t_X9_readRoute [] 73 [some (.ref a0), none, none, none, some (.int a4), none] [] M 0 0 (oI out)) (hk98 : ∀ (a0 : Nat) (a1 : Nat) (a2 : Nat) (M : List Ob), k98 a0 a1 a2 M = some out → X G t_X9_readRoute [] 98 [some (.ref a0), some (.ref a1), some (.ref a2), none, none, none] [] M 0 0 (oI out)) (h : f_X9_readRoute_29 fu a0 a1 a2 a3 M k11 k73 k98 = some out) : X G t_X9_readRoute [] 29 [some (.ref a0), some (.ref a1), some (.ref a2), some (.int a3), none, none] [] M 0 0 (oI out) := by
  unfold f_X9_readRoute_29 at h
  refine X.aload_n (x := a0) (pc' := 30) dX9_readRoute_29 rfl rfl rfl ?_
  obtain ⟨v1, e2, h⟩ := bindE h
  refine X.getf (pc' := 33) dX9_readRoute_30 rfl fq_X9_22 (gI_spec e2) ?_
  refine X.istore (L' := [some (.ref a0), some (.ref a1), some (.ref a2), some (.int a3), some (.int v1), none]) (pc' := 35) dX9_readRoute_33 rfl (Nat.le_of_ble_eq_true rfl) rfl ?_
  refine X.aload_n (x := a0) (pc' := 36) dX9_readRoute_35 rfl rfl rfl ?_
  refine X.iconst (v := 0) (pc' := 37) dX9_readRoute_36 rfl (by decide) ?_
  refine X.aload_n (x := a1) (pc' := 38) dX9_readRoute_37 rfl rfl rfl ?_
  obtain ⟨r3, e4, h⟩ := bindE h
  refine X.getf (pc' := 41) dX9_readRoute_38 rfl fq_X9_53 (gP_spec e4) ?_
  obtain ⟨v5, e6, h⟩ := bindE h
  refine X.getf (pc' := 44) dX9_readRoute_41 rfl fq_X9_115 (gI_spec e6) ?_
  refine X.iconst (v := 1) (pc' := 45) dX9_readRoute_44 rfl (by decide) ?_
  refine X.isub (pc' := 46) dX9_readRoute_45 rfl ?_
  refine X.iconst (v := (-1)) (pc' := 47) dX9_readRoute_46 rfl (by decide) ?_
  obtain ⟨⟨⟩, e10, h⟩ := bindE h
  obtain ⟨v7, M8, e9, h⟩ := bd2E h
  refine X.callV (b := a0) (v := some (.int v7)) (As := [.int 0, .int (v5 - 1), .int (-1)]) (st := []) (M' := M8) (pc' := 50) dX9_readRoute_47 rfl cl_X9_97 mi_X9_readNumber me_X9_readNumber mr_X9_readNumber e10 ⟨⟨Nat.le_of_ble_eq_true rfl, Nat.le_of_ble_eq_true rfl⟩, Nat.le_of_ble_eq_true rfl, Nat.le_of_ble_eq_true rfl⟩ rfl (Nat.le_of_ble_eq_true rfl) (ok_X9_readNumber (G := zs G) e9) ?_
  show X G t_X9_readRoute [] 50 [some (.ref a0), some (.ref a1), some (.ref a2), some (.int a3), some (.int v1), none] [.int v7] M8 0 0 _
  refine X.istore (L' := [some (.ref a0), some (.ref a1), some (.ref a2), some (.int a3), some (.int v1), some (.int v7)]) (pc' := 52) dX9_readRoute_50 rfl (Nat.le_of_ble_eq_true rfl) rfl ?_
  refine X.iload (x := v7) (pc' := 54) dX9_readRoute_52 rfl rfl ?_
  refine X.iconst (v := (-1)) (pc' := 55) dX9_readRoute_54 rfl (by decide) ?_
  refine X.icmp_ne (tgt := 60) (pc' := 58) dX9_readRoute_55 (by decide) rfl (fun hc => ?_) (fun hc => ?_)
  · rw [if_neg hc] at h
    refine X.aload_n (x := a1) (pc' := 61) dX9_readRoute_60 rfl rfl rfl ?_
    obtain ⟨r11, e12, h⟩ := bindE h
    refine X.getf (pc' := 64) dX9_readRoute_61 rfl fq_X9_53 (gP_spec e12) ?_
    refine X.aload_n (x := a2) (pc' := 65) dX9_readRoute_64 rfl rfl rfl ?_
    refine X.iload (x := v7) (pc' := 67) dX9_readRoute_65 rfl rfl ?_
    obtain ⟨⟨⟩, e16, h⟩ := bindE h
    obtain ⟨v13, M14, e15, h⟩ := bd2E h
    refine X.callV (b := r11) (v := some (.int v13)) (As := [.ref a2, .int v7]) (st := []) (M' := M14) (pc' := 70) dX9_readRoute_67 rfl cl_X9_144 mi_X4_canFollow me_X4_canFollow mr_X4_canFollow e16 ⟨⟨Nat.le_of_ble_eq_true rfl, Nat.le_of_ble_eq_true rfl⟩, Nat.le_of_ble_eq_true rfl, Nat.le_of_ble_eq_true rfl⟩ rfl (Nat.le_of_ble_eq_true rfl) (ok_X4_canFollow (G := zs G) e15) ?_
    show X G t_X9_readRoute [] 70 [some (.ref a0), some (.ref a1), some (.ref a2), some (.int a3), some (.int v1), some (.int v7)] [.int v13] M14 0 0 _
    refine X.if_ne (tgt := 82) (pc' := 73) dX9_readRoute_70 (by decide) rfl (fun hc => ?_) (fun hc => ?_)
    · rw [if_neg hc] at h
      refine X.aload_n (x := a2) (pc' := 83) dX9_readRoute_82 rfl rfl rfl ?_
      refine X.iload (x := v7) (pc' := 85) dX9_readRoute_83 rfl rfl ?_
      obtain ⟨⟨⟩, e20, h⟩ := bindE h
      obtain ⟨r17, M18, e19, h⟩ := bd2E h
      refine X.callV (b := a2) (v := none) (As := [.int v7]) (st := []) (M' := M18) (pc' := 88) dX9_readRoute_85 rfl cl_X9_148 mi_X5_push me_X5_push mr_X5_push e20 ⟨⟨Nat.le_of_ble_eq_true rfl, Nat.le_of_ble_eq_true rfl⟩, Nat.le_of_ble_eq_true rfl, Nat.le_of_ble_eq_true rfl⟩ rfl (Nat.le_of_ble_eq_true rfl) (ok_X5_push (G := zs G) e19) ?_
      show X G t_X9_readRoute [] 88 [some (.ref a0), some (.ref a1), some (.ref a2), some (.int a3), some (.int v1), some (.int v7)] [] M18 0 0 _
      refine X.aload_n (x := a0) (pc' := 89) dX9_readRoute_88 rfl rfl rfl ?_
      obtain ⟨⟨⟩, e24, h⟩ := bindE h
      obtain ⟨r21, M22, e23, h⟩ := bd2E h
      refine X.callV (b := a0) (v := none) (As := []) (st := []) (M' := M22) (pc' := 92) dX9_readRoute_89 rfl cl_X9_41 mi_X9_skipSpaces me_X9_skipSpaces mr_X9_skipSpaces e24 ⟨⟨Nat.le_of_ble_eq_true rfl, Nat.le_of_ble_eq_true rfl⟩, Nat.le_of_ble_eq_true rfl, Nat.le_of_ble_eq_true rfl⟩ rfl (Nat.le_of_ble_eq_true rfl) (ok_X9_skipSpaces (G := zs G) e23) ?_
      show X G t_X9_readRoute [] 92 [some (.ref a0), some (.ref a1), some (.ref a2), some (.int a3), some (.int v1), some (.int v7)] [] M22 0 0 _
      refine X.iinc (v := (a3 + 1)) (L' := [some (.ref a0), some (.ref a1), some (.ref a2), some (.int (a3 + 1)), some (.int v1), some (.int v7)]) (pc' := 95) dX9_readRoute_92 rfl rfl (congrArg (fun y => a3 + y) (show Int32.ofInt 1 = 1 by decide)) (Nat.le_of_ble_eq_true rfl) rfl ?_
      refine X.goto (pc' := 11) dX9_readRoute_95 (by decide) ?_
      refine X.sub (L := [some (.ref a0), some (.ref a1), some (.ref a2), some (.int (a3 + 1)), none, none]) ?_ (⟨rfl, ⟨rfl, ⟨rfl, ⟨rfl, trivial⟩⟩⟩⟩)
      exact hk11 _ _ _ _ _ h
    · rw [if_pos hc] at h
      refine X.sub (L := [some (.ref a0), none, none, none, some (.int v1), none]) ?_ (⟨rfl, ⟨rfl, trivial⟩⟩)
      exact hk73 _ _ _ h
  · rw [if_pos hc] at h
    refine X.iconst (v := 0) (pc' := 59) dX9_readRoute_58 rfl (by decide) ?_
    cases h
    exact X.iret (ty := .boolean) dX9_readRoute_59 rfl rfl (Nat.le_of_ble_eq_true rfl) (Nat.le_of_ble_eq_true rfl) rfl
def f_X9_readRoute_11b (fu : Nat) (a0 : Nat) (a1 : Nat) (a2 : Nat) (a3 : Int32) (M : List Ob) (k11 : Nat → Nat → Nat → Int32 → List Ob → Option (Int32 × List Ob)) (k73 : Nat → Int32 → List Ob → Option (Int32 × List Ob)) (k98 : Nat → Nat → Nat → List Ob → Option (Int32 × List Ob)) : Option (Int32 × List Ob) :=
  if 600 ≤ a3 then (k98 a0 a1 a2 M)
  else (if a3 = 0 then (f_X9_readRoute_29 fu a0 a1 a2 a3 M k11 k73 k98)
  else ((hasO M a0 9).bind fun _ =>
  bd2 (f_X9_isAtDigit fu a0 M) fun v1 M2 =>
  if v1 = 0 then (k98 a0 a1 a2 M2)
  else (f_X9_readRoute_29 fu a0 a1 a2 a3 M2 k11 k73 k98)))
set_option maxHeartbeats 4000000 in
theorem ok_X9_readRoute_11b {G : GT} {fu : Nat} {out : Int32 × List Ob} (hz : gZ G = false) {a0 : Nat} {a1 : Nat} {a2 : Nat} {a3 : Int32} {M : List Ob} {k11 : Nat → Nat → Nat → Int32 → List Ob → Option (Int32 × List Ob)} {k73 : Nat → Int32 → List Ob → Option (Int32 × List Ob)} {k98 : Nat → Nat → Nat → List Ob → Option (Int32 × List Ob)} (hk11 : ∀ (a0 : Nat) (a1 : Nat) (a2 : Nat) (a3 : Int32) (M : List Ob), k11 a0 a1 a2 a3 M = some out → X G t_X9_readRoute [] 11 [some (.ref a0), some (.ref a1), some (.ref a2), some (.int a3), none, none] [] M 0 0 (oI out)) (hk73 : ∀ (a0 : Nat) (a4 : Int32) (M : List Ob), k73 a0 a4 M = some out → X G t_X9_readRoute [] 73 [some (.ref a0), none, none, none, some (.int a4), none] [] M 0 0 (oI out)) (hk98 : ∀ (a0 : Nat) (a1 : Nat) (a2 : Nat) (M : List Ob), k98 a0 a1 a2 M = some out → X G t_X9_readRoute [] 98 [some (.ref a0), some (.ref a1), some (.ref a2), none, none, none] [] M 0 0 (oI out)) (h : f_X9_readRoute_11b fu a0 a1 a2 a3 M k11 k73 k98 = some out) : X G t_X9_readRoute [] 11 [some (.ref a0), some (.ref a1), some (.ref a2), some (.int a3), none, none] [] M 0 0 (oI out) := by
  unfold f_X9_readRoute_11b at h
  refine X.iload_n (x := a3) (pc' := 12) dX9_readRoute_11 rfl rfl rfl ?_
  refine X.sipush (v := 600) (pc' := 15) dX9_readRoute_12 rfl (by decide) ?_
  refine X.icmp_ge (tgt := 98) (pc' := 18) dX9_readRoute_15 (by decide) rfl (fun hc => ?_) (fun hc => ?_)
  · rw [if_pos hc] at h
    refine X.sub (L := [some (.ref a0), some (.ref a1), some (.ref a2), none, none, none]) ?_ (⟨rfl, ⟨rfl, ⟨rfl, trivial⟩⟩⟩)
    exact hk98 _ _ _ _ h
  · rw [if_neg hc] at h
    refine X.iload_n (x := a3) (pc' := 19) dX9_readRoute_18 rfl rfl rfl ?_
    refine X.if_eq (tgt := 29) (pc' := 22) dX9_readRoute_19 (by decide) rfl (fun hc => ?_) (fun hc => ?_)
    · rw [if_pos hc] at h
      exact ok_X9_readRoute_29 hz hk11 hk73 hk98 h
    · rw [if_neg hc] at h
      refine X.aload_n (x := a0) (pc' := 23) dX9_readRoute_22 rfl rfl rfl ?_
      obtain ⟨⟨⟩, e4, h⟩ := bindE h
      obtain ⟨v1, M2, e3, h⟩ := bd2E h
      refine X.callV (b := a0) (v := some (.int v1)) (As := []) (st := []) (M' := M2) (pc' := 26) dX9_readRoute_23 rfl cl_X9_80 mi_X9_isAtDigit me_X9_isAtDigit mr_X9_isAtDigit e4 ⟨⟨Nat.le_of_ble_eq_true rfl, Nat.le_of_ble_eq_true rfl⟩, Nat.le_of_ble_eq_true rfl, Nat.le_of_ble_eq_true rfl⟩ rfl (Nat.le_of_ble_eq_true rfl) (ok_X9_isAtDigit (G := zs G) e3) ?_
      show X G t_X9_readRoute [] 26 [some (.ref a0), some (.ref a1), some (.ref a2), some (.int a3), none, none] [.int v1] M2 0 0 _
      refine X.if_eq (tgt := 98) (pc' := 29) dX9_readRoute_26 (by decide) rfl (fun hc => ?_) (fun hc => ?_)
      · rw [if_pos hc] at h
        refine X.sub (L := [some (.ref a0), some (.ref a1), some (.ref a2), none, none, none]) ?_ (⟨rfl, ⟨rfl, ⟨rfl, trivial⟩⟩⟩)
        exact hk98 _ _ _ _ h
      · rw [if_neg hc] at h
        exact ok_X9_readRoute_29 hz hk11 hk73 hk98 h
def f_X9_readRoute_11 (fu : Nat) (k73 : Nat → Int32 → List Ob → Option (Int32 × List Ob)) (k98 : Nat → Nat → Nat → List Ob → Option (Int32 × List Ob)) : Nat → Nat → Nat → Nat → Int32 → List Ob → Option (Int32 × List Ob)
  | 0, _, _, _, _, _ => none
  | n + 1, a0, a1, a2, a3, M => f_X9_readRoute_11b fu a0 a1 a2 a3 M (fun a0 a1 a2 a3 M => f_X9_readRoute_11 fu k73 k98 n a0 a1 a2 a3 M) k73 k98
theorem ok_X9_readRoute_11 {G : GT} {fu : Nat} {out : Int32 × List Ob} (hz : gZ G = false) {k73 : Nat → Int32 → List Ob → Option (Int32 × List Ob)} {k98 : Nat → Nat → Nat → List Ob → Option (Int32 × List Ob)} (hk73 : ∀ (a0 : Nat) (a4 : Int32) (M : List Ob), k73 a0 a4 M = some out → X G t_X9_readRoute [] 73 [some (.ref a0), none, none, none, some (.int a4), none] [] M 0 0 (oI out)) (hk98 : ∀ (a0 : Nat) (a1 : Nat) (a2 : Nat) (M : List Ob), k98 a0 a1 a2 M = some out → X G t_X9_readRoute [] 98 [some (.ref a0), some (.ref a1), some (.ref a2), none, none, none] [] M 0 0 (oI out)) : ∀ (n : Nat) (a0 : Nat) (a1 : Nat) (a2 : Nat) (a3 : Int32) (M : List Ob), f_X9_readRoute_11 fu k73 k98 n a0 a1 a2 a3 M = some out → X G t_X9_readRoute [] 11 [some (.ref a0), some (.ref a1), some (.ref a2), some (.int a3), none, none] [] M 0 0 (oI out) := by
  intro n
  induction n with
  | zero =>
    intro a0 a1 a2 a3 M h
    unfold f_X9_readRoute_11 at h
    cases h
  | succ n ih =>
    intro a0 a1 a2 a3 M h
    unfold f_X9_readRoute_11 at h
    exact ok_X9_readRoute_11b hz ih hk73 hk98 h
def f_X9_readRoute_73 (fu : Nat) (a0 : Nat) (a4 : Int32) (M : List Ob) : Option (Int32 × List Ob) :=
  (hasO M a0 9).bind fun _ =>
  bd2 (f_X9_fail fu a0 (-3) a4 M) fun v1 M2 =>
  if v1 &&& 1 = v1 then some (v1, M2) else none
set_option maxHeartbeats 4000000 in
theorem ok_X9_readRoute_73 {G : GT} {fu : Nat} {out : Int32 × List Ob} (hz : gZ G = false) {a0 : Nat} {a4 : Int32} {M : List Ob} (h : f_X9_readRoute_73 fu a0 a4 M = some out) : X G t_X9_readRoute [] 73 [some (.ref a0), none, none, none, some (.int a4), none] [] M 0 0 (oI out) := by
  unfold f_X9_readRoute_73 at h
  refine X.aload_n (x := a0) (pc' := 74) dX9_readRoute_73 rfl rfl rfl ?_
  refine X.bipush (v := (-3)) (pc' := 76) dX9_readRoute_74 rfl (by decide) ?_
  refine X.iload (x := a4) (pc' := 78) dX9_readRoute_76 rfl rfl ?_
  obtain ⟨⟨⟩, e4, h⟩ := bindE h
  obtain ⟨v1, M2, e3, h⟩ := bd2E h
  refine X.callV (b := a0) (v := some (.int v1)) (As := [.int (-3), .int a4]) (st := []) (M' := M2) (pc' := 81) dX9_readRoute_78 rfl cl_X9_83 mi_X9_fail me_X9_fail mr_X9_fail e4 ⟨⟨Nat.le_of_ble_eq_true rfl, Nat.le_of_ble_eq_true rfl⟩, Nat.le_of_ble_eq_true rfl, Nat.le_of_ble_eq_true rfl⟩ rfl (Nat.le_of_ble_eq_true rfl) (ok_X9_fail (G := zs G) e3) ?_
  show X G t_X9_readRoute [] 81 [some (.ref a0), none, none, none, some (.int a4), none] [.int v1] M2 0 0 _
  split at h
  rotate_left
  · cases h
  rename_i hz1
  cases h
  exact X.iret (ty := .boolean) dX9_readRoute_81 rfl (congrArg Value.int hz1) (Nat.le_of_ble_eq_true rfl) (Nat.le_of_ble_eq_true rfl) rfl
def f_X9_readRoute_98 (fu : Nat) (a0 : Nat) (a1 : Nat) (a2 : Nat) (M : List Ob) : Option (Int32 × List Ob) :=
  (hasO M a0 9).bind fun _ =>
  bd2 (f_X9_readRouteEnd fu a0 a1 a2 M) fun v1 M2 =>
  if v1 &&& 1 = v1 then some (v1, M2) else none
set_option maxHeartbeats 4000000 in
theorem ok_X9_readRoute_98 {G : GT} {fu : Nat} {out : Int32 × List Ob} (hz : gZ G = false) {a0 : Nat} {a1 : Nat} {a2 : Nat} {M : List Ob} (h : f_X9_readRoute_98 fu a0 a1 a2 M = some out) : X G t_X9_readRoute [] 98 [some (.ref a0), some (.ref a1), some (.ref a2), none, none, none] [] M 0 0 (oI out) := by
  unfold f_X9_readRoute_98 at h
  refine X.aload_n (x := a0) (pc' := 99) dX9_readRoute_98 rfl rfl rfl ?_
  refine X.aload_n (x := a1) (pc' := 100) dX9_readRoute_99 rfl rfl rfl ?_
  refine X.aload_n (x := a2) (pc' := 101) dX9_readRoute_100 rfl rfl rfl ?_
  obtain ⟨⟨⟩, e4, h⟩ := bindE h
  obtain ⟨v1, M2, e3, h⟩ := bd2E h
  refine X.callV (b := a0) (v := some (.int v1)) (As := [.ref a1, .ref a2]) (st := []) (M' := M2) (pc' := 104) dX9_readRoute_101 rfl cl_X9_154 mi_X9_readRouteEnd me_X9_readRouteEnd mr_X9_readRouteEnd e4 ⟨⟨Nat.le_of_ble_eq_true rfl, Nat.le_of_ble_eq_true rfl⟩, Nat.le_of_ble_eq_true rfl, Nat.le_of_ble_eq_true rfl⟩ rfl (Nat.le_of_ble_eq_true rfl) (ok_X9_readRouteEnd (G := zs G) (hz := hz) e3) ?_
  show X G t_X9_readRoute [] 104 [some (.ref a0), some (.ref a1), some (.ref a2), none, none, none] [.int v1] M2 0 0 _
  split at h
  rotate_left
  · cases h
  rename_i hz1
  cases h
  exact X.iret (ty := .boolean) dX9_readRoute_104 rfl (congrArg Value.int hz1) (Nat.le_of_ble_eq_true rfl) (Nat.le_of_ble_eq_true rfl) rfl
def f_X9_readRoute (fu : Nat) (a0 : Nat) (a1 : Nat) (M : List Ob) : Option (Int32 × List Ob) :=
  (gP M a1 8 1).bind fun r1 =>
  (hasO M a0 9).bind fun _ =>
  bd2 (f_X9_skipSpaces fu a0 M) fun _ M4 =>
  f_X9_readRoute_11 fu (fun x7 x8 M9 => f_X9_readRoute_73 fu x7 x8 M9) (fun x10 x11 x12 M13 => f_X9_readRoute_98 fu x10 x11 x12 M13) fu a0 a1 r1 0 M4
set_option maxHeartbeats 4000000 in
theorem ok_X9_readRoute {G : GT} (hz : gZ G = false) {fu : Nat} {a0 : Nat} {a1 : Nat} {M : List Ob} {out : Int32 × List Ob} (h : f_X9_readRoute fu a0 a1 M = some out) : Sp G t_X9_readRoute [.ref a0, .ref a1] M (oI out) := by
  refine Sp.of rfl (by decide +kernel) (cat_all rfl) (Nat.le_of_ble_eq_true rfl) ?_
  show X G t_X9_readRoute [] 0 [some (.ref a0), some (.ref a1), none, none, none, none] [] M 0 0 (oI out)
  unfold f_X9_readRoute at h
  refine X.aload_n (x := a1) (pc' := 1) dX9_readRoute_0 rfl rfl rfl ?_
  obtain ⟨r1, e2, h⟩ := bindE h
  refine X.getf (pc' := 4) dX9_readRoute_1 rfl fq_X9_140 (gP_spec e2) ?_
  refine X.astore_n (L' := [some (.ref a0), some (.ref a1), some (.ref r1), none, none, none]) (pc' := 5) dX9_readRoute_4 rfl rfl (Nat.le_of_ble_eq_true rfl) rfl ?_
  refine X.aload_n (x := a0) (pc' := 6) dX9_readRoute_5 rfl rfl rfl ?_
  obtain ⟨⟨⟩, e6, h⟩ := bindE h
  obtain ⟨r3, M4, e5, h⟩ := bd2E h
  refine X.callV (b := a0) (v := none) (As := []) (st := []) (M' := M4) (pc' := 9) dX9_readRoute_6 rfl cl_X9_41 mi_X9_skipSpaces me_X9_skipSpaces mr_X9_skipSpaces e6 ⟨⟨Nat.le_of_ble_eq_true rfl, Nat.le_of_ble_eq_true rfl⟩, Nat.le_of_ble_eq_true rfl, Nat.le_of_ble_eq_true rfl⟩ rfl (Nat.le_of_ble_eq_true rfl) (ok_X9_skipSpaces (G := zs G) e5) ?_
  show X G t_X9_readRoute [] 9 [some (.ref a0), some (.ref a1), some (.ref r1), none, none, none] [] M4 0 0 _
  refine X.iconst (v := 0) (pc' := 10) dX9_readRoute_9 rfl (by decide) ?_
  refine X.istore_n (L' := [some (.ref a0), some (.ref a1), some (.ref r1), some (.int 0), none, none]) (pc' := 11) dX9_readRoute_10 rfl rfl (Nat.le_of_ble_eq_true rfl) rfl ?_
  refine ok_X9_readRoute_11 hz ?_ ?_ fu _ _ _ _ _ h
  · intro x7 x8 M9 h
    exact ok_X9_readRoute_73 hz h
  · intro x10 x11 x12 M13 h
    exact ok_X9_readRoute_98 hz h
def f_X9_readStatement (fu : Nat) (a0 : Nat) (a1 : Nat) (M : List Ob) : Option (Int32 × List Ob) :=
  (gI M a0 9 3).bind fun v1 =>
  (hasO M a0 9).bind fun _ =>
  bd2 (f_X9_skipWord fu a0 M) fun _ M4 =>
  (hasO M4 a0 9).bind fun _ =>
  bd2 (f_X9_isWord fu a0 v1 1000001 M4) fun v7 M8 =>
  if v7 = 0 then ((hasO M8 a0 9).bind fun _ =>
  bd2 (f_X9_isWord fu a0 v1 1000002 M8) fun v11 M12 =>
  if v11 = 0 then ((hasO M12 a0 9).bind fun _ =>
  bd2 (f_X9_isWord fu a0 v1 1000003 M12) fun v15 M16 =>
  if v15 = 0 then ((hasO M16 a0 9).bind fun _ =>
  bd2 (f_X9_fail fu a0 (-2) v1 M16) fun v19 M20 =>
  if v19 &&& 1 = v19 then some (v19, M20) else none)
  else ((gI M16 a1 8 3).bind fun v23 =>
  if 6 ≤ v23 then ((hasO M16 a0 9).bind fun _ =>
  bd2 (f_X9_fail fu a0 (-4) v1 M16) fun v25 M26 =>
  if v25 &&& 1 = v25 then some (v25, M26) else none)
  else ((hasO M16 a0 9).bind fun _ =>
  bd2 (f_X9_readRoute fu a0 a1 M16) fun v29 M30 =>
  if v29 &&& 1 = v29 then some (v29, M30) else none)))
  else ((gP M12 a1 8 0).bind fun r33 =>
  (gI M12 r33 4 4).bind fun v35 =>
  if 16 ≤ v35 then ((hasO M12 a0 9).bind fun _ =>
  bd2 (f_X9_fail fu a0 (-4) v1 M12) fun v37 M38 =>
  if v37 &&& 1 = v37 then some (v37, M38) else none)
  else ((gP M12 a1 8 0).bind fun r41 =>
  (hasO M12 a0 9).bind fun _ =>
  bd2 (f_X9_readArc fu a0 r41 M12) fun v43 M44 =>
  if v43 &&& 1 = v43 then some (v43, M44) else none)))
  else ((gP M8 a1 8 0).bind fun r47 =>
  (hasO M8 a0 9).bind fun _ =>
  bd2 (f_X9_readBudget fu a0 r47 M8) fun v49 M50 =>
  if v49 &&& 1 = v49 then some (v49, M50) else none)
set_option maxHeartbeats 4000000 in
theorem ok_X9_readStatement {G : GT} (hz : gZ G = false) {fu : Nat} {a0 : Nat} {a1 : Nat} {M : List Ob} {out : Int32 × List Ob} (h : f_X9_readStatement fu a0 a1 M = some out) : Sp G t_X9_readStatement [.ref a0, .ref a1] M (oI out) := by
  refine Sp.of rfl (by decide +kernel) (cat_all rfl) (Nat.le_of_ble_eq_true rfl) ?_
  show X G t_X9_readStatement [] 0 [some (.ref a0), some (.ref a1), none] [] M 0 0 (oI out)
  unfold f_X9_readStatement at h
  refine X.aload_n (x := a0) (pc' := 1) dX9_readStatement_0 rfl rfl rfl ?_
  obtain ⟨v1, e2, h⟩ := bindE h
  refine X.getf (pc' := 4) dX9_readStatement_1 rfl fq_X9_22 (gI_spec e2) ?_
  refine X.istore_n (L' := [some (.ref a0), some (.ref a1), some (.int v1)]) (pc' := 5) dX9_readStatement_4 rfl rfl (Nat.le_of_ble_eq_true rfl) rfl ?_
  refine X.aload_n (x := a0) (pc' := 6) dX9_readStatement_5 rfl rfl rfl ?_
  obtain ⟨⟨⟩, e6, h⟩ := bindE h
  obtain ⟨r3, M4, e5, h⟩ := bd2E h
  refine X.callV (b := a0) (v := none) (As := []) (st := []) (M' := M4) (pc' := 9) dX9_readStatement_6 rfl cl_X9_88 mi_X9_skipWord me_X9_skipWord mr_X9_skipWord e6 ⟨⟨Nat.le_of_ble_eq_true rfl, Nat.le_of_ble_eq_true rfl⟩, Nat.le_of_ble_eq_true rfl, Nat.le_of_ble_eq_true rfl⟩ rfl (Nat.le_of_ble_eq_true rfl) (ok_X9_skipWord (G := zs G) e5) ?_
  show X G t_X9_readStatement [] 9 [some (.ref a0), some (.ref a1), some (.int v1)] [] M4 0 0 _
  refine X.aload_n (x := a0) (pc' := 10) dX9_readStatement_9 rfl rfl rfl ?_
  refine X.iload_n (x := v1) (pc' := 11) dX9_readStatement_10 rfl rfl rfl ?_
  refine X.ldcS (tx := "budget") (j := 1) (pc' := 13) dX9_readStatement_11 rfl (by decide +kernel) ?_
  obtain ⟨⟨⟩, e10, h⟩ := bindE h
  obtain ⟨v7, M8, e9, h⟩ := bd2E h
  refine X.callV (b := a0) (v := some (.int v7)) (As := [.int v1, .ref 1000001]) (st := []) (M' := M8) (pc' := 16) dX9_readStatement_13 rfl cl_X9_93 mi_X9_isWord me_X9_isWord mr_X9_isWord e10 ⟨⟨Nat.le_of_ble_eq_true rfl, Nat.le_of_ble_eq_true rfl⟩, Nat.le_of_ble_eq_true rfl, Nat.le_of_ble_eq_true rfl⟩ rfl (Nat.le_of_ble_eq_true rfl) (ok_X9_isWord (G := zs G) e9) ?_
  show X G t_X9_readStatement [] 16 [some (.ref a0), some (.ref a1), some (.int v1)] [.int v7] M8 0 0 _
  refine X.if_eq (tgt := 28) (pc' := 19) dX9_readStatement_16 (by decide) rfl (fun hc => ?_) (fun hc => ?_)
  · rw [if_pos hc] at h
    refine X.aload_n (x := a0) (pc' := 29) dX9_readStatement_28 rfl rfl rfl ?_
    refine X.iload_n (x := v1) (pc' := 30) dX9_readStatement_29 rfl rfl rfl ?_
    refine X.ldcS (tx := "arc") (j := 2) (pc' := 32) dX9_readStatement_30 rfl (by decide +kernel) ?_
    obtain ⟨⟨⟩, e14, h⟩ := bindE h
    obtain ⟨v11, M12, e13, h⟩ := bd2E h
    refine X.callV (b := a0) (v := some (.int v11)) (As := [.int v1, .ref 1000002]) (st := []) (M' := M12) (pc' := 35) dX9_readStatement_32 rfl cl_X9_93 mi_X9_isWord me_X9_isWord mr_X9_isWord e14 ⟨⟨Nat.le_of_ble_eq_true rfl, Nat.le_of_ble_eq_true rfl⟩, Nat.le_of_ble_eq_true rfl, Nat.le_of_ble_eq_true rfl⟩ rfl (Nat.le_of_ble_eq_true rfl) (ok_X9_isWord (G := zs G) e13) ?_
    show X G t_X9_readStatement [] 35 [some (.ref a0), some (.ref a1), some (.int v1)] [.int v11] M12 0 0 _
    refine X.if_eq (tgt := 69) (pc' := 38) dX9_readStatement_35 (by decide) rfl (fun hc => ?_) (fun hc => ?_)
    · rw [if_pos hc] at h
      refine X.aload_n (x := a0) (pc' := 70) dX9_readStatement_69 rfl rfl rfl ?_
      refine X.iload_n (x := v1) (pc' := 71) dX9_readStatement_70 rfl rfl rfl ?_
      refine X.ldcS (tx := "route") (j := 3) (pc' := 73) dX9_readStatement_71 rfl (by decide +kernel) ?_
      obtain ⟨⟨⟩, e18, h⟩ := bindE h
      obtain ⟨v15, M16, e17, h⟩ := bd2E h
      refine X.callV (b := a0) (v := some (.int v15)) (As := [.int v1, .ref 1000003]) (st := []) (M' := M16) (pc' := 76) dX9_readStatement_73 rfl cl_X9_93 mi_X9_isWord me_X9_isWord mr_X9_isWord e18 ⟨⟨Nat.le_of_ble_eq_true rfl, Nat.le_of_ble_eq_true rfl⟩, Nat.le_of_ble_eq_true rfl, Nat.le_of_ble_eq_true rfl⟩ rfl (Nat.le_of_ble_eq_true rfl) (ok_X9_isWord (G := zs G) e17) ?_
      show X G t_X9_readStatement [] 76 [some (.ref a0), some (.ref a1), some (.int v1)] [.int v15] M16 0 0 _
      refine X.if_eq (tgt := 104) (pc' := 79) dX9_readStatement_76 (by decide) rfl (fun hc => ?_) (fun hc => ?_)
      · rw [if_pos hc] at h
        refine X.aload_n (x := a0) (pc' := 105) dX9_readStatement_104 rfl rfl rfl ?_
        refine X.bipush (v := (-2)) (pc' := 107) dX9_readStatement_105 rfl (by decide) ?_
        refine X.iload_n (x := v1) (pc' := 108) dX9_readStatement_107 rfl rfl rfl ?_
        obtain ⟨⟨⟩, e22, h⟩ := bindE h
        obtain ⟨v19, M20, e21, h⟩ := bd2E h
        refine X.callV (b := a0) (v := some (.int v19)) (As := [.int (-2), .int v1]) (st := []) (M' := M20) (pc' := 111) dX9_readStatement_108 rfl cl_X9_83 mi_X9_fail me_X9_fail mr_X9_fail e22 ⟨⟨Nat.le_of_ble_eq_true rfl, Nat.le_of_ble_eq_true rfl⟩, Nat.le_of_ble_eq_true rfl, Nat.le_of_ble_eq_true rfl⟩ rfl (Nat.le_of_ble_eq_true rfl) (ok_X9_fail (G := zs G) e21) ?_
        show X G t_X9_readStatement [] 111 [some (.ref a0), some (.ref a1), some (.int v1)] [.int v19] M20 0 0 _
        split at h
        rotate_left
        · cases h
        rename_i hz1
        cases h
        exact X.iret (ty := .boolean) dX9_readStatement_111 rfl (congrArg Value.int hz1) (Nat.le_of_ble_eq_true rfl) (Nat.le_of_ble_eq_true rfl) rfl
      · rw [if_neg hc] at h
        refine X.aload_n (x := a1) (pc' := 80) dX9_readStatement_79 rfl rfl rfl ?_
        obtain ⟨v23, e24, h⟩ := bindE h
        refine X.getf (pc' := 83) dX9_readStatement_80 rfl fq_X9_125 (gI_spec e24) ?_
        refine X.bipush (v := 6) (pc' := 85) dX9_readStatement_83 rfl (by decide) ?_
        refine X.icmp_ge (tgt := 96) (pc' := 88) dX9_readStatement_85 (by decide) rfl (fun hc => ?_) (fun hc => ?_)
        · rw [if_pos hc] at h
          refine X.aload_n (x := a0) (pc' := 97) dX9_readStatement_96 rfl rfl rfl ?_
          refine X.bipush (v := (-4)) (pc' := 99) dX9_readStatement_97 rfl (by decide) ?_
          refine X.iload_n (x := v1) (pc' := 100) dX9_readStatement_99 rfl rfl rfl ?_
          obtain ⟨⟨⟩, e28, h⟩ := bindE h
          obtain ⟨v25, M26, e27, h⟩ := bd2E h
          refine X.callV (b := a0) (v := some (.int v25)) (As := [.int (-4), .int v1]) (st := []) (M' := M26) (pc' := 103) dX9_readStatement_100 rfl cl_X9_83 mi_X9_fail me_X9_fail mr_X9_fail e28 ⟨⟨Nat.le_of_ble_eq_true rfl, Nat.le_of_ble_eq_true rfl⟩, Nat.le_of_ble_eq_true rfl, Nat.le_of_ble_eq_true rfl⟩ rfl (Nat.le_of_ble_eq_true rfl) (ok_X9_fail (G := zs G) e27) ?_
          show X G t_X9_readStatement [] 103 [some (.ref a0), some (.ref a1), some (.int v1)] [.int v25] M26 0 0 _
          split at h
          rotate_left
          · cases h
          rename_i hz1
          cases h
          exact X.iret (ty := .boolean) dX9_readStatement_103 rfl (congrArg Value.int hz1) (Nat.le_of_ble_eq_true rfl) (Nat.le_of_ble_eq_true rfl) rfl
        · rw [if_neg hc] at h
          refine X.aload_n (x := a0) (pc' := 89) dX9_readStatement_88 rfl rfl rfl ?_
          refine X.aload_n (x := a1) (pc' := 90) dX9_readStatement_89 rfl rfl rfl ?_
          obtain ⟨⟨⟩, e32, h⟩ := bindE h
          obtain ⟨v29, M30, e31, h⟩ := bd2E h
          refine X.callV (b := a0) (v := some (.int v29)) (As := [.ref a1]) (st := []) (M' := M30) (pc' := 93) dX9_readStatement_90 rfl cl_X9_128 mi_X9_readRoute me_X9_readRoute mr_X9_readRoute e32 ⟨⟨Nat.le_of_ble_eq_true rfl, Nat.le_of_ble_eq_true rfl⟩, Nat.le_of_ble_eq_true rfl, Nat.le_of_ble_eq_true rfl⟩ rfl (Nat.le_of_ble_eq_true rfl) (ok_X9_readRoute (G := zs G) (hz := hz) e31) ?_
          show X G t_X9_readStatement [] 93 [some (.ref a0), some (.ref a1), some (.int v1)] [.int v29] M30 0 0 _
          refine X.goto (pc' := 103) dX9_readStatement_93 (by decide) ?_
          split at h
          rotate_left
          · cases h
          rename_i hz1
          cases h
          exact X.iret (ty := .boolean) dX9_readStatement_103 rfl (congrArg Value.int hz1) (Nat.le_of_ble_eq_true rfl) (Nat.le_of_ble_eq_true rfl) rfl
    · rw [if_neg hc] at h
      refine X.aload_n (x := a1) (pc' := 39) dX9_readStatement_38 rfl rfl rfl ?_
      obtain ⟨r33, e34, h⟩ := bindE h
      refine X.getf (pc' := 42) dX9_readStatement_39 rfl fq_X9_53 (gP_spec e34) ?_
      obtain ⟨v35, e36, h⟩ := bindE h
      refine X.getf (pc' := 45) dX9_readStatement_42 rfl fq_X9_115 (gI_spec e36) ?_
      refine X.bipush (v := 16) (pc' := 47) dX9_readStatement_45 rfl (by decide) ?_
      refine X.icmp_ge (tgt := 61) (pc' := 50) dX9_readStatement_47 (by decide) rfl (fun hc => ?_) (fun hc => ?_)
      · rw [if_pos hc] at h
        refine X.aload_n (x := a0) (pc' := 62) dX9_readStatement_61 rfl rfl rfl ?_
        refine X.bipush (v := (-4)) (pc' := 64) dX9_readStatement_62 rfl (by decide) ?_
        refine X.iload_n (x := v1) (pc' := 65) dX9_readStatement_64 rfl rfl rfl ?_
        obtain ⟨⟨⟩, e40, h⟩ := bindE h
        obtain ⟨v37, M38, e39, h⟩ := bd2E h
        refine X.callV (b := a0) (v := some (.int v37)) (As := [.int (-4), .int v1]) (st := []) (M' := M38) (pc' := 68) dX9_readStatement_65 rfl cl_X9_83 mi_X9_fail me_X9_fail mr_X9_fail e40 ⟨⟨Nat.le_of_ble_eq_true rfl, Nat.le_of_ble_eq_true rfl⟩, Nat.le_of_ble_eq_true rfl, Nat.le_of_ble_eq_true rfl⟩ rfl (Nat.le_of_ble_eq_true rfl) (ok_X9_fail (G := zs G) e39) ?_
        show X G t_X9_readStatement [] 68 [some (.ref a0), some (.ref a1), some (.int v1)] [.int v37] M38 0 0 _
        split at h
        rotate_left
        · cases h
        rename_i hz1
        cases h
        exact X.iret (ty := .boolean) dX9_readStatement_68 rfl (congrArg Value.int hz1) (Nat.le_of_ble_eq_true rfl) (Nat.le_of_ble_eq_true rfl) rfl
      · rw [if_neg hc] at h
        refine X.aload_n (x := a0) (pc' := 51) dX9_readStatement_50 rfl rfl rfl ?_
        refine X.aload_n (x := a1) (pc' := 52) dX9_readStatement_51 rfl rfl rfl ?_
        obtain ⟨r41, e42, h⟩ := bindE h
        refine X.getf (pc' := 55) dX9_readStatement_52 rfl fq_X9_53 (gP_spec e42) ?_
        obtain ⟨⟨⟩, e46, h⟩ := bindE h
        obtain ⟨v43, M44, e45, h⟩ := bd2E h
        refine X.callV (b := a0) (v := some (.int v43)) (As := [.ref r41]) (st := []) (M' := M44) (pc' := 58) dX9_readStatement_55 rfl cl_X9_120 mi_X9_readArc me_X9_readArc mr_X9_readArc e46 ⟨⟨Nat.le_of_ble_eq_true rfl, Nat.le_of_ble_eq_true rfl⟩, Nat.le_of_ble_eq_true rfl, Nat.le_of_ble_eq_true rfl⟩ rfl (Nat.le_of_ble_eq_true rfl) (ok_X9_readArc (G := zs G) e45) ?_
        show X G t_X9_readStatement [] 58 [some (.ref a0), some (.ref a1), some (.int v1)] [.int v43] M44 0 0 _
        refine X.goto (pc' := 68) dX9_readStatement_58 (by decide) ?_
        split at h
        rotate_left
        · cases h
        rename_i hz1
        cases h
        exact X.iret (ty := .boolean) dX9_readStatement_68 rfl (congrArg Value.int hz1) (Nat.le_of_ble_eq_true rfl) (Nat.le_of_ble_eq_true rfl) rfl
  · rw [if_neg hc] at h
    refine X.aload_n (x := a0) (pc' := 20) dX9_readStatement_19 rfl rfl rfl ?_
    refine X.aload_n (x := a1) (pc' := 21) dX9_readStatement_20 rfl rfl rfl ?_
    obtain ⟨r47, e48, h⟩ := bindE h
    refine X.getf (pc' := 24) dX9_readStatement_21 rfl fq_X9_53 (gP_spec e48) ?_
    obtain ⟨⟨⟩, e52, h⟩ := bindE h
    obtain ⟨v49, M50, e51, h⟩ := bd2E h
    refine X.callV (b := a0) (v := some (.int v49)) (As := [.ref r47]) (st := []) (M' := M50) (pc' := 27) dX9_readStatement_24 rfl cl_X9_109 mi_X9_readBudget me_X9_readBudget mr_X9_readBudget e52 ⟨⟨Nat.le_of_ble_eq_true rfl, Nat.le_of_ble_eq_true rfl⟩, Nat.le_of_ble_eq_true rfl, Nat.le_of_ble_eq_true rfl⟩ rfl (Nat.le_of_ble_eq_true rfl) (ok_X9_readBudget (G := zs G) e51) ?_
    show X G t_X9_readStatement [] 27 [some (.ref a0), some (.ref a1), some (.int v1)] [.int v49] M50 0 0 _
    split at h
    rotate_left
    · cases h
    rename_i hz1
    cases h
    exact X.iret (ty := .boolean) dX9_readStatement_27 rfl (congrArg Value.int hz1) (Nat.le_of_ble_eq_true rfl) (Nat.le_of_ble_eq_true rfl) rfl
def f_X9_readNetwork_38b (fu : Nat) (a0 : Nat) (a2 : Nat) (a3 : Int32) (M : List Ob) (k38 : Nat → Nat → Int32 → List Ob → Option (Int32 × List Ob)) (k76 : Nat → List Ob → Option (Int32 × List Ob)) : Option (Int32 × List Ob) :=
  if 600 ≤ a3 then (k76 a2 M)
  else ((gI M a0 9 3).bind fun v1 =>
  (gI M a0 9 2).bind fun v3 =>
  if v3 ≤ v1 then (k76 a2 M)
  else ((hasO M a0 9).bind fun _ =>
  bd2 (f_X9_readStatement fu a0 a2 M) fun v5 M6 =>
  if v5 = 0 then (some (0, M6))
  else ((hasO M6 a0 9).bind fun _ =>
  bd2 (f_X9_skipSpaces fu a0 M6) fun _ M10 =>
  k38 a0 a2 (a3 + 1) M10)))
set_option maxHeartbeats 4000000 in
theorem ok_X9_readNetwork_38b {G : GT} {fu : Nat} {out : Int32 × List Ob} (hz : gZ G = false) {a0 : Nat} {a2 : Nat} {a3 : Int32} {M : List Ob} {k38 : Nat → Nat → Int32 → List Ob → Option (Int32 × List Ob)} {k76 : Nat → List Ob → Option (Int32 × List Ob)} (hk38 : ∀ (a0 : Nat) (a2 : Nat) (a3 : Int32) (M : List Ob), k38 a0 a2 a3 M = some out → X G t_X9_readNetwork [] 38 [some (.ref a0), none, some (.ref a2), some (.int a3)] [] M 0 0 (oI out)) (hk76 : ∀ (a2 : Nat) (M : List Ob), k76 a2 M = some out → X G t_X9_readNetwork [] 76 [none, none, some (.ref a2), none] [] M 0 0 (oI out)) (h : f_X9_readNetwork_38b fu a0 a2 a3 M k38 k76 = some out) : X G t_X9_readNetwork [] 38 [some (.ref a0), none, some (.ref a2), some (.int a3)] [] M 0 0 (oI out) := by
  unfold f_X9_readNetwork_38b at h
  refine X.iload_n (x := a3) (pc' := 39) dX9_readNetwork_38 rfl rfl rfl ?_
  refine X.sipush (v := 600) (pc' := 42) dX9_readNetwork_39 rfl (by decide) ?_
  refine X.icmp_ge (tgt := 76) (pc' := 45) dX9_readNetwork_42 (by decide) rfl (fun hc => ?_) (fun hc => ?_)
  · rw [if_pos hc] at h
    refine X.sub (L := [none, none, some (.ref a2), none]) ?_ (⟨rfl, trivial⟩)
    exact hk76 _ _ h
  · rw [if_neg hc] at h
    refine X.aload_n (x := a0) (pc' := 46) dX9_readNetwork_45 rfl rfl rfl ?_
    obtain ⟨v1, e2, h⟩ := bindE h
    refine X.getf (pc' := 49) dX9_readNetwork_46 rfl fq_X9_22 (gI_spec e2) ?_
    refine X.aload_n (x := a0) (pc' := 50) dX9_readNetwork_49 rfl rfl rfl ?_
    obtain ⟨v3, e4, h⟩ := bindE h
    refine X.getf (pc' := 53) dX9_readNetwork_50 rfl fq_X9_19 (gI_spec e4) ?_
    refine X.icmp_ge (tgt := 76) (pc' := 56) dX9_readNetwork_53 (by decide) rfl (fun hc => ?_) (fun hc => ?_)
    · rw [if_pos hc] at h
      refine X.sub (L := [none, none, some (.ref a2), none]) ?_ (⟨rfl, trivial⟩)
      exact hk76 _ _ h
    · rw [if_neg hc] at h
      refine X.aload_n (x := a0) (pc' := 57) dX9_readNetwork_56 rfl rfl rfl ?_
      refine X.aload_n (x := a2) (pc' := 58) dX9_readNetwork_57 rfl rfl rfl ?_
      obtain ⟨⟨⟩, e8, h⟩ := bindE h
      obtain ⟨v5, M6, e7, h⟩ := bd2E h
      refine X.callV (b := a0) (v := some (.int v5)) (As := [.ref a2]) (st := []) (M' := M6) (pc' := 61) dX9_readNetwork_58 rfl cl_X9_44 mi_X9_readStatement me_X9_readStatement mr_X9_readStatement e8 ⟨⟨Nat.le_of_ble_eq_true rfl, Nat.le_of_ble_eq_true rfl⟩, Nat.le_of_ble_eq_true rfl, Nat.le_of_ble_eq_true rfl⟩ rfl (Nat.le_of_ble_eq_true rfl) (ok_X9_readStatement (G := zs G) (hz := hz) e7) ?_
      show X G t_X9_readNetwork [] 61 [some (.ref a0), none, some (.ref a2), some (.int a3)] [.int v5] M6 0 0 _
      refine X.if_ne (tgt := 66) (pc' := 64) dX9_readNetwork_61 (by decide) rfl (fun hc => ?_) (fun hc => ?_)
      · rw [if_neg hc] at h
        refine X.aload_n (x := a0) (pc' := 67) dX9_readNetwork_66 rfl rfl rfl ?_
        obtain ⟨⟨⟩, e12, h⟩ := bindE h
        obtain ⟨r9, M10, e11, h⟩ := bd2E h
        refine X.callV (b := a0) (v := none) (As := []) (st := []) (M' := M10) (pc' := 70) dX9_readNetwork_67 rfl cl_X9_41 mi_X9_skipSpaces me_X9_skipSpaces mr_X9_skipSpaces e12 ⟨⟨Nat.le_of_ble_eq_true rfl, Nat.le_of_ble_eq_true rfl⟩, Nat.le_of_ble_eq_true rfl, Nat.le_of_ble_eq_true rfl⟩ rfl (Nat.le_of_ble_eq_true rfl) (ok_X9_skipSpaces (G := zs G) e11) ?_
        show X G t_X9_readNetwork [] 70 [some (.ref a0), none, some (.ref a2), some (.int a3)] [] M10 0 0 _
        refine X.iinc (v := (a3 + 1)) (L' := [some (.ref a0), none, some (.ref a2), some (.int (a3 + 1))]) (pc' := 73) dX9_readNetwork_70 rfl rfl (congrArg (fun y => a3 + y) (show Int32.ofInt 1 = 1 by decide)) (Nat.le_of_ble_eq_true rfl) rfl ?_
        refine X.goto (pc' := 38) dX9_readNetwork_73 (by decide) ?_
        exact hk38 _ _ _ _ h
      · rw [if_pos hc] at h
        refine X.iconst (v := 0) (pc' := 65) dX9_readNetwork_64 rfl (by decide) ?_
        cases h
        exact X.iret (ty := .boolean) dX9_readNetwork_65 rfl rfl (Nat.le_of_ble_eq_true rfl) (Nat.le_of_ble_eq_true rfl) rfl
def f_X9_readNetwork_38 (fu : Nat) (k76 : Nat → List Ob → Option (Int32 × List Ob)) : Nat → Nat → Nat → Int32 → List Ob → Option (Int32 × List Ob)
  | 0, _, _, _, _ => none
  | n + 1, a0, a2, a3, M => f_X9_readNetwork_38b fu a0 a2 a3 M (fun a0 a2 a3 M => f_X9_readNetwork_38 fu k76 n a0 a2 a3 M) k76
theorem ok_X9_readNetwork_38 {G : GT} {fu : Nat} {out : Int32 × List Ob} (hz : gZ G = false) {k76 : Nat → List Ob → Option (Int32 × List Ob)} (hk76 : ∀ (a2 : Nat) (M : List Ob), k76 a2 M = some out → X G t_X9_readNetwork [] 76 [none, none, some (.ref a2), none] [] M 0 0 (oI out)) : ∀ (n : Nat) (a0 : Nat) (a2 : Nat) (a3 : Int32) (M : List Ob), f_X9_readNetwork_38 fu k76 n a0 a2 a3 M = some out → X G t_X9_readNetwork [] 38 [some (.ref a0), none, some (.ref a2), some (.int a3)] [] M 0 0 (oI out) := by
  intro n
  induction n with
  | zero =>
    intro a0 a2 a3 M h
    unfold f_X9_readNetwork_38 at h
    cases h
  | succ n ih =>
    intro a0 a2 a3 M h
    unfold f_X9_readNetwork_38 at h
    exact ok_X9_readNetwork_38b hz ih hk76 h
def f_X9_readNetwork_76 (fu : Nat) (a2 : Nat) (M : List Ob) : Option (Int32 × List Ob) :=
  (gP M a2 8 4).bind fun r1 =>
  (gP M a2 8 0).bind fun r3 =>
  (hasO M r1 2).bind fun _ =>
  bd2 (f_X2_begin fu r1 r3 M) fun _ M6 =>
  some (1, M6)
set_option maxHeartbeats 4000000 in
theorem ok_X9_readNetwork_76 {G : GT} {fu : Nat} {out : Int32 × List Ob} (hz : gZ G = false) {a2 : Nat} {M : List Ob} (h : f_X9_readNetwork_76 fu a2 M = some out) : X G t_X9_readNetwork [] 76 [none, none, some (.ref a2), none] [] M 0 0 (oI out) := by
  unfold f_X9_readNetwork_76 at h
  refine X.aload_n (x := a2) (pc' := 77) dX9_readNetwork_76 rfl rfl rfl ?_
  obtain ⟨r1, e2, h⟩ := bindE h
  refine X.getf (pc' := 80) dX9_readNetwork_77 rfl fq_X9_47 (gP_spec e2) ?_
  refine X.aload_n (x := a2) (pc' := 81) dX9_readNetwork_80 rfl rfl rfl ?_
  obtain ⟨r3, e4, h⟩ := bindE h
  refine X.getf (pc' := 84) dX9_readNetwork_81 rfl fq_X9_53 (gP_spec e4) ?_
  obtain ⟨⟨⟩, e8, h⟩ := bindE h
  obtain ⟨r5, M6, e7, h⟩ := bd2E h
  refine X.callV (b := r1) (v := none) (As := [.ref r3]) (st := []) (M' := M6) (pc' := 87) dX9_readNetwork_84 rfl cl_X9_57 mi_X2_begin me_X2_begin mr_X2_begin e8 ⟨⟨Nat.le_of_ble_eq_true rfl, Nat.le_of_ble_eq_true rfl⟩, Nat.le_of_ble_eq_true rfl, Nat.le_of_ble_eq_true rfl⟩ rfl (Nat.le_of_ble_eq_true rfl) (ok_X2_begin (G := zs G) e7) ?_
  show X G t_X9_readNetwork [] 87 [none, none, some (.ref a2), none] [] M6 0 0 _
  refine X.iconst (v := 1) (pc' := 88) dX9_readNetwork_87 rfl (by decide) ?_
  cases h
  exact X.iret (ty := .boolean) dX9_readNetwork_88 rfl rfl (Nat.le_of_ble_eq_true rfl) (Nat.le_of_ble_eq_true rfl) rfl
def f_X9_readNetwork (fu : Nat) (a0 : Nat) (a1 : Int32) (a2 : Nat) (M : List Ob) : Option (Int32 × List Ob) :=
  (gI M a0 9 1).bind fun v1 =>
  (pF M a0 9 2 (.int (if v1 < a1 then v1 else a1))).bind fun M3 =>
  (pF M3 a0 9 3 (.int 0)).bind fun M5 =>
  (pF M5 a0 9 5 (.int (-1))).bind fun M7 =>
  (hasO M7 a0 9).bind fun _ =>
  bd2 (f_X9_readHead fu a0 a2 M7) fun v9 M10 =>
  if v9 = 0 then (some (0, M10))
  else ((hasO M10 a0 9).bind fun _ =>
  bd2 (f_X9_skipSpaces fu a0 M10) fun _ M14 =>
  f_X9_readNetwork_38 fu (fun x17 M18 => f_X9_readNetwork_76 fu x17 M18) fu a0 a2 0 M14)
set_option maxHeartbeats 4000000 in
theorem ok_X9_readNetwork {G : GT} (hz : gZ G = false) {fu : Nat} {a0 : Nat} {a1 : Int32} {a2 : Nat} {M : List Ob} {out : Int32 × List Ob} (h : f_X9_readNetwork fu a0 a1 a2 M = some out) : Sp G t_X9_readNetwork [.ref a0, .int a1, .ref a2] M (oI out) := by
  refine Sp.of rfl (by decide +kernel) (cat_all rfl) (Nat.le_of_ble_eq_true rfl) ?_
  show X G t_X9_readNetwork [] 0 [some (.ref a0), some (.int a1), some (.ref a2), none] [] M 0 0 (oI out)
  unfold f_X9_readNetwork at h
  refine X.aload_n (x := a0) (pc' := 1) dX9_readNetwork_0 rfl rfl rfl ?_
  refine X.iload_n (x := a1) (pc' := 2) dX9_readNetwork_1 rfl rfl rfl ?_
  refine X.aload_n (x := a0) (pc' := 3) dX9_readNetwork_2 rfl rfl rfl ?_
  obtain ⟨v1, e2, h⟩ := bindE h
  refine X.getf (pc' := 6) dX9_readNetwork_3 rfl fq_X9_15 (gI_spec e2) ?_
  refine X.mmin (pc' := 9) dX9_readNetwork_6 rfl (TBg_of 668 (by decide +kernel) rfl) (Nat.le_of_ble_eq_true rfl) (Nat.le_of_ble_eq_true rfl) (Nat.le_of_ble_eq_true rfl) (Nat.le_of_ble_eq_true rfl) ?_
  obtain ⟨M3, e4, h⟩ := bindE h
  refine X.putf (pc' := 12) dX9_readNetwork_9 rfl fq_X9_19 rfl rfl e4 ?_
  refine X.aload_n (x := a0) (pc' := 13) dX9_readNetwork_12 rfl rfl rfl ?_
  refine X.iconst (v := 0) (pc' := 14) dX9_readNetwork_13 rfl (by decide) ?_
  obtain ⟨M5, e6, h⟩ := bindE h
  refine X.putf (pc' := 17) dX9_readNetwork_14 rfl fq_X9_22 rfl rfl e6 ?_
  refine X.aload_n (x := a0) (pc' := 18) dX9_readNetwork_17 rfl rfl rfl ?_
  refine X.iconst (v := (-1)) (pc' := 19) dX9_readNetwork_18 rfl (by decide) ?_
  obtain ⟨M7, e8, h⟩ := bindE h
  refine X.putf (pc' := 22) dX9_readNetwork_19 rfl fq_X9_28 rfl rfl e8 ?_
  refine X.aload_n (x := a0) (pc' := 23) dX9_readNetwork_22 rfl rfl rfl ?_
  refine X.aload_n (x := a2) (pc' := 24) dX9_readNetwork_23 rfl rfl rfl ?_
  obtain ⟨⟨⟩, e12, h⟩ := bindE h
  obtain ⟨v9, M10, e11, h⟩ := bd2E h
  refine X.callV (b := a0) (v := some (.int v9)) (As := [.ref a2]) (st := []) (M' := M10) (pc' := 27) dX9_readNetwork_24 rfl cl_X9_37 mi_X9_readHead me_X9_readHead mr_X9_readHead e12 ⟨⟨Nat.le_of_ble_eq_true rfl, Nat.le_of_ble_eq_true rfl⟩, Nat.le_of_ble_eq_true rfl, Nat.le_of_ble_eq_true rfl⟩ rfl (Nat.le_of_ble_eq_true rfl) (ok_X9_readHead (G := zs G) e11) ?_
  show X G t_X9_readNetwork [] 27 [some (.ref a0), some (.int a1), some (.ref a2), none] [.int v9] M10 0 0 _
  refine X.if_ne (tgt := 32) (pc' := 30) dX9_readNetwork_27 (by decide) rfl (fun hc => ?_) (fun hc => ?_)
  · rw [if_neg hc] at h
    refine X.aload_n (x := a0) (pc' := 33) dX9_readNetwork_32 rfl rfl rfl ?_
    obtain ⟨⟨⟩, e16, h⟩ := bindE h
    obtain ⟨r13, M14, e15, h⟩ := bd2E h
    refine X.callV (b := a0) (v := none) (As := []) (st := []) (M' := M14) (pc' := 36) dX9_readNetwork_33 rfl cl_X9_41 mi_X9_skipSpaces me_X9_skipSpaces mr_X9_skipSpaces e16 ⟨⟨Nat.le_of_ble_eq_true rfl, Nat.le_of_ble_eq_true rfl⟩, Nat.le_of_ble_eq_true rfl, Nat.le_of_ble_eq_true rfl⟩ rfl (Nat.le_of_ble_eq_true rfl) (ok_X9_skipSpaces (G := zs G) e15) ?_
    show X G t_X9_readNetwork [] 36 [some (.ref a0), some (.int a1), some (.ref a2), none] [] M14 0 0 _
    refine X.iconst (v := 0) (pc' := 37) dX9_readNetwork_36 rfl (by decide) ?_
    refine X.istore_n (L' := [some (.ref a0), some (.int a1), some (.ref a2), some (.int 0)]) (pc' := 38) dX9_readNetwork_37 rfl rfl (Nat.le_of_ble_eq_true rfl) rfl ?_
    refine X.sub (L := [some (.ref a0), none, some (.ref a2), some (.int 0)]) ?_ (⟨rfl, ⟨rfl, ⟨rfl, trivial⟩⟩⟩)
    refine ok_X9_readNetwork_38 hz ?_ fu _ _ _ _ h
    · intro x17 M18 h
      exact ok_X9_readNetwork_76 hz h
  · rw [if_pos hc] at h
    refine X.iconst (v := 0) (pc' := 31) dX9_readNetwork_30 rfl (by decide) ?_
    cases h
    exact X.iret (ty := .boolean) dX9_readNetwork_31 rfl rfl (Nat.le_of_ble_eq_true rfl) (Nat.le_of_ble_eq_true rfl) rfl
