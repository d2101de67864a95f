def f_X0_init (fu : Nat) (a0 : Nat) (a1 : Nat) (M : List Ob) : Option (Unit × List Ob) :=
  bd2 (newG M 7 8) fun r1 M2 =>
  (pF M2 a0 0 1 (.ref r1)).bind fun M4 =>
  bd2 (newG M4 7 8) fun r6 M7 =>
  (pF M7 a0 0 2 (.ref r6)).bind fun M9 =>
  (pF M9 a0 0 3 (.int 0)).bind fun M11 =>
  (pF M11 a0 0 0 (.ref a1)).bind fun M13 =>
  some ((), M13)
set_option maxHeartbeats 4000000 in
theorem ok_X0_init {G : GT} (hR : Row G) {fu : Nat} {a0 : Nat} {a1 : Nat} {M : List Ob} {out : Unit × List Ob} (h : f_X0_init fu a0 a1 M = some out) : Sp G t_X0_init [.ref a0, .ref a1] M (oU out) := by
  refine Sp.of rfl (by decide +kernel) (cat_all rfl) (Nat.le_of_ble_eq_true rfl) ?_
  show X G t_X0_init [] 0 [some (.ref a0), some (.ref a1)] [] M 0 0 (oU out)
  unfold f_X0_init at h
  refine X.aload_n (x := a0) (pc' := 1) dX0_init_0 rfl rfl rfl ?_
  refine X.objI (pc' := 4) dX0_init_1 rfl (TBg_of 381 (by decide +kernel) rfl) (Nat.le_of_ble_eq_true rfl) (Nat.le_of_ble_eq_true rfl) ?_
  refine X.aload_n (x := a0) (pc' := 5) dX0_init_4 rfl rfl rfl ?_
  refine X.bipush (v := 7) (pc' := 7) dX0_init_5 rfl (by decide) ?_
  refine X.bipush (v := 8) (pc' := 9) dX0_init_7 rfl (by decide) ?_
  obtain ⟨r1, M2, e3, h⟩ := bd2E h
  refine X.newg (N := 7) (K := 8) (pc' := 13) dX0_init_9 rfl (TBg_of 382 (by decide +kernel) rfl) (TBg_of 159 (by decide +kernel) rfl) (by decide) (by decide) (by decide) (by decide) (Nat.le_of_ble_eq_true rfl) (Nat.le_of_ble_eq_true rfl) hR (Nat.le_of_ble_eq_true rfl) (Nat.le_of_ble_eq_true rfl) e3 ?_
  show X G t_X0_init [] 13 [some (.ref a0), some (.ref a1)] [.ref r1, .ref a0] M2 8 63 _
  obtain ⟨M4, e5, h⟩ := bindE h
  refine X.putF (pc' := 16) dX0_init_13 rfl fq_X0_11 rfl (fun r hr => by cases hr; rfl) rfl rfl e5 ?_
  refine X.aload_n (x := a0) (pc' := 17) dX0_init_16 rfl rfl rfl ?_
  refine X.bipush (v := 7) (pc' := 19) dX0_init_17 rfl (by decide) ?_
  refine X.bipush (v := 8) (pc' := 21) dX0_init_19 rfl (by decide) ?_
  obtain ⟨r6, M7, e8, h⟩ := bd2E h
  refine X.newg (N := 7) (K := 8) (pc' := 25) dX0_init_21 rfl (TBg_of 382 (by decide +kernel) rfl) (TBg_of 159 (by decide +kernel) rfl) (by decide) (by decide) (by decide) (by decide) (Nat.le_of_ble_eq_true rfl) (Nat.le_of_ble_eq_true rfl) hR (Nat.le_of_ble_eq_true rfl) (Nat.le_of_ble_eq_true rfl) e8 ?_
  show X G t_X0_init [] 25 [some (.ref a0), some (.ref a1)] [.ref r6, .ref a0] M7 16 126 _
  obtain ⟨M9, e10, h⟩ := bindE h
  refine X.putF (pc' := 28) dX0_init_25 rfl fq_X0_16 rfl (fun r hr => by cases hr; rfl) rfl rfl e10 ?_
  refine X.aload_n (x := a0) (pc' := 29) dX0_init_28 rfl rfl rfl ?_
  refine X.iconst (v := 0) (pc' := 30) dX0_init_29 rfl (by decide) ?_
  obtain ⟨M11, e12, h⟩ := bindE h
  refine X.putf (pc' := 33) dX0_init_30 rfl fq_X0_19 rfl rfl e12 ?_
  refine X.aload_n (x := a0) (pc' := 34) dX0_init_33 rfl rfl rfl ?_
  refine X.aload_n (x := a1) (pc' := 35) dX0_init_34 rfl rfl rfl ?_
  obtain ⟨M13, e14, h⟩ := bindE h
  refine X.putF (pc' := 38) dX0_init_35 rfl fq_X0_23 rfl (fun r hr => by cases hr; rfl) rfl rfl e14 ?_
  cases h
  exact X.vret dX0_init_38 rfl (Nat.le_of_ble_eq_true rfl) (Nat.le_of_ble_eq_true rfl) rfl
def f_X0_forgetValues (fu : Nat) (a0 : Nat) (M : List Ob) : Option (Unit × List Ob) :=
  (pF M a0 0 3 (.int 0)).bind fun M1 =>
  some ((), M1)
set_option maxHeartbeats 4000000 in
theorem ok_X0_forgetValues {G : GT} {fu : Nat} {a0 : Nat} {M : List Ob} {out : Unit × List Ob} (h : f_X0_forgetValues fu a0 M = some out) : Sp G t_X0_forgetValues [.ref a0] M (oU out) := by
  refine Sp.of rfl (by decide +kernel) (cat_all rfl) (Nat.le_of_ble_eq_true rfl) ?_
  show X G t_X0_forgetValues [] 0 [some (.ref a0)] [] M 0 0 (oU out)
  unfold f_X0_forgetValues at h
  refine X.aload_n (x := a0) (pc' := 1) dX0_forgetValues_0 rfl rfl rfl ?_
  refine X.iconst (v := 0) (pc' := 2) dX0_forgetValues_1 rfl (by decide) ?_
  obtain ⟨M1, e2, h⟩ := bindE h
  refine X.putf (pc' := 5) dX0_forgetValues_2 rfl fq_X0_19 rfl rfl e2 ?_
  cases h
  exact X.vret dX0_forgetValues_5 rfl (Nat.le_of_ble_eq_true rfl) (Nat.le_of_ble_eq_true rfl) rfl
def f_X0_worthOf (fu : Nat) (a0 : Nat) (a1 : Int32) (a2 : Int32) (M : List Ob) : Option (Int32 × List Ob) :=
  (gP M a0 0 1).bind fun r1 =>
  (aP M r1 16 a2).bind fun r4 =>
  (aI M r4 13 a1).bind fun v6 =>
  some (v6, M)
set_option maxHeartbeats 4000000 in
theorem ok_X0_worthOf {G : GT} {fu : Nat} {a0 : Nat} {a1 : Int32} {a2 : Int32} {M : List Ob} {out : Int32 × List Ob} (h : f_X0_worthOf fu a0 a1 a2 M = some out) : Sp G t_X0_worthOf [.ref a0, .int a1, .int a2] M (oI out) := by
  refine Sp.of rfl (by decide +kernel) (cat_all rfl) (Nat.le_of_ble_eq_true rfl) ?_
  show X G t_X0_worthOf [] 0 [some (.ref a0), some (.int a1), some (.int a2)] [] M 0 0 (oI out)
  unfold f_X0_worthOf at h
  refine X.aload_n (x := a0) (pc' := 1) dX0_worthOf_0 rfl rfl rfl ?_
  obtain ⟨r1, e2, h⟩ := bindE h
  refine X.getf (pc' := 4) dX0_worthOf_1 rfl fq_X0_11 (gP_spec e2) ?_
  refine X.iload_n (x := a2) (pc' := 5) dX0_worthOf_4 rfl rfl rfl ?_
  obtain ⟨r4, e3, h⟩ := bindE h
  refine X.aald (pc' := 6) dX0_worthOf_5 rfl (by decide) e3 ?_
  refine X.iload_n (x := a1) (pc' := 7) dX0_worthOf_6 rfl rfl rfl ?_
  obtain ⟨v6, e5, h⟩ := bindE h
  refine X.iald (pc' := 8) dX0_worthOf_7 rfl e5 ?_
  cases h
  exact X.iret (ty := .int) dX0_worthOf_8 rfl rfl (Nat.le_of_ble_eq_true rfl) (Nat.le_of_ble_eq_true rfl) rfl
def f_X0_arcNumber (fu : Nat) (a0 : Nat) (a1 : Int32) (a2 : Int32) (M : List Ob) : Option (Int32 × List Ob) :=
  (gP M a0 0 0).bind fun r1 =>
  (gP M r1 4 6).bind fun r3 =>
  (aI M r3 13 a1).bind fun v6 =>
  (gP M a0 0 0).bind fun r7 =>
  (gP M r7 4 7).bind fun r9 =>
  (aI M r9 13 a1).bind fun v12 =>
  (gP M a0 0 1).bind fun r13 =>
  (aP M r13 16 a2).bind fun r16 =>
  (aI M r16 13 v6).bind fun v18 =>
  if v18 = (-1) then (some ((-1), M))
  else ((gP M a0 0 1).bind fun r19 =>
  (aP M r19 16 a2).bind fun r22 =>
  (aI M r22 13 v6).bind fun v24 =>
  if a2 = 0 then (some ((v12 + v24), M))
  else ((gP M a0 0 0).bind fun r25 =>
  (gP M r25 4 8).bind fun r27 =>
  (aI M r27 13 a1).bind fun v30 =>
  (gP M a0 0 1).bind fun r31 =>
  (aP M r31 16 (a2 - 1)).bind fun r34 =>
  (aI M r34 13 v6).bind fun v36 =>
  if ((v12 + v30) + v36) ≤ (v12 + v24) then (some ((v12 + v24), M))
  else (some (((v12 + v30) + v36), M))))
set_option maxHeartbeats 4000000 in
theorem ok_X0_arcNumber {G : GT} {fu : Nat} {a0 : Nat} {a1 : Int32} {a2 : Int32} {M : List Ob} {out : Int32 × List Ob} (h : f_X0_arcNumber fu a0 a1 a2 M = some out) : Sp G t_X0_arcNumber [.ref a0, .int a1, .int a2] M (oI out) := by
  refine Sp.of rfl (by decide +kernel) (cat_all rfl) (Nat.le_of_ble_eq_true rfl) ?_
  show X G t_X0_arcNumber [] 0 [some (.ref a0), some (.int a1), some (.int a2), none, none, none, none] [] M 0 0 (oI out)
  unfold f_X0_arcNumber at h
  refine X.aload_n (x := a0) (pc' := 1) dX0_arcNumber_0 rfl rfl rfl ?_
  obtain ⟨r1, e2, h⟩ := bindE h
  refine X.getf (pc' := 4) dX0_arcNumber_1 rfl fq_X0_23 (gP_spec e2) ?_
  obtain ⟨r3, e4, h⟩ := bindE h
  refine X.getf (pc' := 7) dX0_arcNumber_4 rfl fq_X0_64 (gP_spec e4) ?_
  refine X.iload_n (x := a1) (pc' := 8) dX0_arcNumber_7 rfl rfl rfl ?_
  obtain ⟨v6, e5, h⟩ := bindE h
  refine X.iald (pc' := 9) dX0_arcNumber_8 rfl e5 ?_
  refine X.istore_n (L' := [some (.ref a0), some (.int a1), some (.int a2), some (.int v6), none, none, none]) (pc' := 10) dX0_arcNumber_9 rfl rfl (Nat.le_of_ble_eq_true rfl) rfl ?_
  refine X.aload_n (x := a0) (pc' := 11) dX0_arcNumber_10 rfl rfl rfl ?_
  obtain ⟨r7, e8, h⟩ := bindE h
  refine X.getf (pc' := 14) dX0_arcNumber_11 rfl fq_X0_23 (gP_spec e8) ?_
  obtain ⟨r9, e10, h⟩ := bindE h
  refine X.getf (pc' := 17) dX0_arcNumber_14 rfl fq_X0_67 (gP_spec e10) ?_
  refine X.iload_n (x := a1) (pc' := 18) dX0_arcNumber_17 rfl rfl rfl ?_
  obtain ⟨v12, e11, h⟩ := bindE h
  refine X.iald (pc' := 19) dX0_arcNumber_18 rfl e11 ?_
  refine X.istore (L' := [some (.ref a0), some (.int a1), some (.int a2), some (.int v6), some (.int v12), none, none]) (pc' := 21) dX0_arcNumber_19 rfl (Nat.le_of_ble_eq_true rfl) rfl ?_
  refine X.aload_n (x := a0) (pc' := 22) dX0_arcNumber_21 rfl rfl rfl ?_
  obtain ⟨r13, e14, h⟩ := bindE h
  refine X.getf (pc' := 25) dX0_arcNumber_22 rfl fq_X0_11 (gP_spec e14) ?_
  refine X.iload_n (x := a2) (pc' := 26) dX0_arcNumber_25 rfl rfl rfl ?_
  obtain ⟨r16, e15, h⟩ := bindE h
  refine X.aald (pc' := 27) dX0_arcNumber_26 rfl (by decide) e15 ?_
  refine X.iload_n (x := v6) (pc' := 28) dX0_arcNumber_27 rfl rfl rfl ?_
  obtain ⟨v18, e17, h⟩ := bindE h
  refine X.iald (pc' := 29) dX0_arcNumber_28 rfl e17 ?_
  refine X.iconst (v := (-1)) (pc' := 30) dX0_arcNumber_29 rfl (by decide) ?_
  refine X.icmp_ne (tgt := 35) (pc' := 33) dX0_arcNumber_30 (by decide) rfl (fun hc => ?_) (fun hc => ?_)
  · rw [if_neg hc] at h
    refine X.iload (x := v12) (pc' := 37) dX0_arcNumber_35 rfl rfl ?_
    refine X.aload_n (x := a0) (pc' := 38) dX0_arcNumber_37 rfl rfl rfl ?_
    obtain ⟨r19, e20, h⟩ := bindE h
    refine X.getf (pc' := 41) dX0_arcNumber_38 rfl fq_X0_11 (gP_spec e20) ?_
    refine X.iload_n (x := a2) (pc' := 42) dX0_arcNumber_41 rfl rfl rfl ?_
    obtain ⟨r22, e21, h⟩ := bindE h
    refine X.aald (pc' := 43) dX0_arcNumber_42 rfl (by decide) e21 ?_
    refine X.iload_n (x := v6) (pc' := 44) dX0_arcNumber_43 rfl rfl rfl ?_
    obtain ⟨v24, e23, h⟩ := bindE h
    refine X.iald (pc' := 45) dX0_arcNumber_44 rfl e23 ?_
    refine X.iadd (pc' := 46) dX0_arcNumber_45 rfl ?_
    refine X.istore (L' := [some (.ref a0), some (.int a1), some (.int a2), some (.int v6), some (.int v12), some (.int (v12 + v24)), none]) (pc' := 48) dX0_arcNumber_46 rfl (Nat.le_of_ble_eq_true rfl) rfl ?_
    refine X.iload_n (x := a2) (pc' := 49) dX0_arcNumber_48 rfl rfl rfl ?_
    refine X.if_ne (tgt := 55) (pc' := 52) dX0_arcNumber_49 (by decide) rfl (fun hc => ?_) (fun hc => ?_)
    · rw [if_neg hc] at h
      refine X.iload (x := v12) (pc' := 57) dX0_arcNumber_55 rfl rfl ?_
      refine X.aload_n (x := a0) (pc' := 58) dX0_arcNumber_57 rfl rfl rfl ?_
      obtain ⟨r25, e26, h⟩ := bindE h
      refine X.getf (pc' := 61) dX0_arcNumber_58 rfl fq_X0_23 (gP_spec e26) ?_
      obtain ⟨r27, e28, h⟩ := bindE h
      refine X.getf (pc' := 64) dX0_arcNumber_61 rfl fq_X0_70 (gP_spec e28) ?_
      refine X.iload_n (x := a1) (pc' := 65) dX0_arcNumber_64 rfl rfl rfl ?_
      obtain ⟨v30, e29, h⟩ := bindE h
      refine X.iald (pc' := 66) dX0_arcNumber_65 rfl e29 ?_
      refine X.iadd (pc' := 67) dX0_arcNumber_66 rfl ?_
      refine X.aload_n (x := a0) (pc' := 68) dX0_arcNumber_67 rfl rfl rfl ?_
      obtain ⟨r31, e32, h⟩ := bindE h
      refine X.getf (pc' := 71) dX0_arcNumber_68 rfl fq_X0_11 (gP_spec e32) ?_
      refine X.iload_n (x := a2) (pc' := 72) dX0_arcNumber_71 rfl rfl rfl ?_
      refine X.iconst (v := 1) (pc' := 73) dX0_arcNumber_72 rfl (by decide) ?_
      refine X.isub (pc' := 74) dX0_arcNumber_73 rfl ?_
      obtain ⟨r34, e33, h⟩ := bindE h
      refine X.aald (pc' := 75) dX0_arcNumber_74 rfl (by decide) e33 ?_
      refine X.iload_n (x := v6) (pc' := 76) dX0_arcNumber_75 rfl rfl rfl ?_
      obtain ⟨v36, e35, h⟩ := bindE h
      refine X.iald (pc' := 77) dX0_arcNumber_76 rfl e35 ?_
      refine X.iadd (pc' := 78) dX0_arcNumber_77 rfl ?_
      refine X.istore (L' := [some (.ref a0), some (.int a1), some (.int a2), some (.int v6), some (.int v12), some (.int (v12 + v24)), some (.int ((v12 + v30) + v36))]) (pc' := 80) dX0_arcNumber_78 rfl (Nat.le_of_ble_eq_true rfl) rfl ?_
      refine X.iload (x := ((v12 + v30) + v36)) (pc' := 82) dX0_arcNumber_80 rfl rfl ?_
      refine X.iload (x := (v12 + v24)) (pc' := 84) dX0_arcNumber_82 rfl rfl ?_
      refine X.icmp_le (tgt := 92) (pc' := 87) dX0_arcNumber_84 (by decide) rfl (fun hc => ?_) (fun hc => ?_)
      · rw [if_pos hc] at h
        refine X.iload (x := (v12 + v24)) (pc' := 94) dX0_arcNumber_92 rfl rfl ?_
        cases h
        exact X.iret (ty := .int) dX0_arcNumber_94 rfl rfl (Nat.le_of_ble_eq_true rfl) (Nat.le_of_ble_eq_true rfl) rfl
      · rw [if_neg hc] at h
        refine X.iload (x := ((v12 + v30) + v36)) (pc' := 89) dX0_arcNumber_87 rfl rfl ?_
        refine X.goto (pc' := 94) dX0_arcNumber_89 (by decide) ?_
        cases h
        exact X.iret (ty := .int) dX0_arcNumber_94 rfl rfl (Nat.le_of_ble_eq_true rfl) (Nat.le_of_ble_eq_true rfl) rfl
    · rw [if_pos hc] at h
      refine X.iload (x := (v12 + v24)) (pc' := 54) dX0_arcNumber_52 rfl rfl ?_
      cases h
      exact X.iret (ty := .int) dX0_arcNumber_54 rfl rfl (Nat.le_of_ble_eq_true rfl) (Nat.le_of_ble_eq_true rfl) rfl
  · rw [if_pos hc] at h
    refine X.iconst (v := (-1)) (pc' := 34) dX0_arcNumber_33 rfl (by decide) ?_
    cases h
    exact X.iret (ty := .int) dX0_arcNumber_34 rfl rfl (Nat.le_of_ble_eq_true rfl) (Nat.le_of_ble_eq_true rfl) rfl
def f_X0_bestArcOf_75 (fu : Nat) (a0 : Nat) (a1 : Int32) (a2 : Int32) (a3 : Int32) (a4 : Int32) (a5 : Int32) (M : List Ob) (k9 : Nat → Int32 → Int32 → Int32 → Int32 → Int32 → List Ob → Option (Int32 × List Ob)) : Option (Int32 × List Ob) :=
  k9 a0 a1 a2 a3 a4 (a5 + 1) M
set_option maxHeartbeats 4000000 in
theorem ok_X0_bestArcOf_75 {G : GT} {fu : Nat} {out : Int32 × List Ob} {a0 : Nat} {a1 : Int32} {a2 : Int32} {a3 : Int32} {a4 : Int32} {a5 : Int32} {M : List Ob} {k9 : Nat → Int32 → Int32 → Int32 → Int32 → Int32 → List Ob → Option (Int32 × List Ob)} (hk9 : ∀ (a0 : Nat) (a1 : Int32) (a2 : Int32) (a3 : Int32) (a4 : Int32) (a5 : Int32) (M : List Ob), k9 a0 a1 a2 a3 a4 a5 M = some out → X G t_X0_bestArcOf [] 9 [some (.ref a0), some (.int a1), some (.int a2), some (.int a3), some (.int a4), some (.int a5), none] [] M 0 0 (oI out)) (h : f_X0_bestArcOf_75 fu a0 a1 a2 a3 a4 a5 M k9 = some out) : X G t_X0_bestArcOf [] 75 [some (.ref a0), some (.int a1), some (.int a2), some (.int a3), some (.int a4), some (.int a5), none] [] M 0 0 (oI out) := by
  unfold f_X0_bestArcOf_75 at h
  refine X.iinc (v := (a5 + 1)) (L' := [some (.ref a0), some (.int a1), some (.int a2), some (.int a3), some (.int a4), some (.int (a5 + 1)), none]) (pc' := 78) dX0_bestArcOf_75 rfl rfl (congrArg (fun y => a5 + y) (show Int32.ofInt 1 = 1 by decide)) (Nat.le_of_ble_eq_true rfl) rfl ?_
  refine X.goto (pc' := 9) dX0_bestArcOf_78 (by decide) ?_
  exact hk9 _ _ _ _ _ _ _ h
def f_X0_bestArcOf_9b (fu : Nat) (a0 : Nat) (a1 : Int32) (a2 : Int32) (a3 : Int32) (a4 : Int32) (a5 : Int32) (M : List Ob) (k9 : Nat → Int32 → Int32 → Int32 → Int32 → Int32 → List Ob → Option (Int32 × List Ob)) : Option (Int32 × List Ob) :=
  (gP M a0 0 0).bind fun r1 =>
  (gI M r1 4 4).bind fun v3 =>
  if v3 ≤ a5 then (some (a3, M))
  else ((gP M a0 0 0).bind fun r5 =>
  (gI M r5 4 2).bind fun v7 =>
  if a1 = v7 then (some (a3, M))
  else ((gP M a0 0 0).bind fun r9 =>
  (gP M r9 4 5).bind fun r11 =>
  (aI M r11 13 a5).bind fun v14 =>
  if v14 = a1 then ((hasO M a0 0).bind fun _ =>
  bd2 (f_X0_arcNumber fu a0 a5 a2 M) fun v15 M16 =>
  if v15 = (-1) then (f_X0_bestArcOf_75 fu a0 a1 a2 a3 a4 a5 M16 k9)
  else (if a4 ≤ v15 then (f_X0_bestArcOf_75 fu a0 a1 a2 a3 a4 a5 M16 k9)
  else (f_X0_bestArcOf_75 fu a0 a1 a2 a5 v15 a5 M16 k9)))
  else (f_X0_bestArcOf_75 fu a0 a1 a2 a3 a4 a5 M k9)))
set_option maxHeartbeats 4000000 in
theorem ok_X0_bestArcOf_9b {G : GT} {fu : Nat} {out : Int32 × List Ob} {a0 : Nat} {a1 : Int32} {a2 : Int32} {a3 : Int32} {a4 : Int32} {a5 : Int32} {M : List Ob} {k9 : Nat → Int32 → Int32 → Int32 → Int32 → Int32 → List Ob → Option (Int32 × List Ob)} (hk9 : ∀ (a0 : Nat) (a1 : Int32) (a2 : Int32) (a3 : Int32) (a4 : Int32) (a5 : Int32) (M : List Ob), k9 a0 a1 a2 a3 a4 a5 M = some out → X G t_X0_bestArcOf [] 9 [some (.ref a0), some (.int a1), some (.int a2), some (.int a3), some (.int a4), some (.int a5), none] [] M 0 0 (oI out)) (h : f_X0_bestArcOf_9b fu a0 a1 a2 a3 a4 a5 M k9 = some out) : X G t_X0_bestArcOf [] 9 [some (.ref a0), some (.int a1), some (.int a2), some (.int a3), some (.int a4), some (.int a5), none] [] M 0 0 (oI out) := by
  unfold f_X0_bestArcOf_9b at h
  refine X.iload (x := a5) (pc' := 11) dX0_bestArcOf_9 rfl rfl ?_
  refine X.aload_n (x := a0) (pc' := 12) dX0_bestArcOf_11 rfl rfl rfl ?_
  obtain ⟨r1, e2, h⟩ := bindE h
  refine X.getf (pc' := 15) dX0_bestArcOf_12 rfl fq_X0_23 (gP_spec e2) ?_
  obtain ⟨v3, e4, h⟩ := bindE h
  refine X.getf (pc' := 18) dX0_bestArcOf_15 rfl fq_X0_57 (gI_spec e4) ?_
  refine X.icmp_ge (tgt := 81) (pc' := 21) dX0_bestArcOf_18 (by decide) rfl (fun hc => ?_) (fun hc => ?_)
  · rw [if_pos hc] at h
    refine X.iload_n (x := a3) (pc' := 82) dX0_bestArcOf_81 rfl rfl rfl ?_
    cases h
    exact X.iret (ty := .int) dX0_bestArcOf_82 rfl rfl (Nat.le_of_ble_eq_true rfl) (Nat.le_of_ble_eq_true rfl) rfl
  · rw [if_neg hc] at h
    refine X.iload_n (x := a1) (pc' := 22) dX0_bestArcOf_21 rfl rfl rfl ?_
    refine X.aload_n (x := a0) (pc' := 23) dX0_bestArcOf_22 rfl rfl rfl ?_
    obtain ⟨r5, e6, h⟩ := bindE h
    refine X.getf (pc' := 26) dX0_bestArcOf_23 rfl fq_X0_23 (gP_spec e6) ?_
    obtain ⟨v7, e8, h⟩ := bindE h
    refine X.getf (pc' := 29) dX0_bestArcOf_26 rfl fq_X0_33 (gI_spec e8) ?_
    refine X.icmp_eq (tgt := 81) (pc' := 32) dX0_bestArcOf_29 (by decide) rfl (fun hc => ?_) (fun hc => ?_)
    · rw [if_pos hc] at h
      refine X.iload_n (x := a3) (pc' := 82) dX0_bestArcOf_81 rfl rfl rfl ?_
      cases h
      exact X.iret (ty := .int) dX0_bestArcOf_82 rfl rfl (Nat.le_of_ble_eq_true rfl) (Nat.le_of_ble_eq_true rfl) rfl
    · rw [if_neg hc] at h
      refine X.aload_n (x := a0) (pc' := 33) dX0_bestArcOf_32 rfl rfl rfl ?_
      obtain ⟨r9, e10, h⟩ := bindE h
      refine X.getf (pc' := 36) dX0_bestArcOf_33 rfl fq_X0_23 (gP_spec e10) ?_
      obtain ⟨r11, e12, h⟩ := bindE h
      refine X.getf (pc' := 39) dX0_bestArcOf_36 rfl fq_X0_60 (gP_spec e12) ?_
      refine X.iload (x := a5) (pc' := 41) dX0_bestArcOf_39 rfl rfl ?_
      obtain ⟨v14, e13, h⟩ := bindE h
      refine X.iald (pc' := 42) dX0_bestArcOf_41 rfl e13 ?_
      refine X.iload_n (x := a1) (pc' := 43) dX0_bestArcOf_42 rfl rfl rfl ?_
      refine X.icmp_ne (tgt := 75) (pc' := 46) dX0_bestArcOf_43 (by decide) rfl (fun hc => ?_) (fun hc => ?_)
      · rw [if_neg hc] at h
        exact ok_X0_bestArcOf_75 hk9 h
      · rw [if_pos hc] at h
        refine X.aload_n (x := a0) (pc' := 47) dX0_bestArcOf_46 rfl rfl rfl ?_
        refine X.iload (x := a5) (pc' := 49) dX0_bestArcOf_47 rfl rfl ?_
        refine X.iload_n (x := a2) (pc' := 50) dX0_bestArcOf_49 rfl rfl rfl ?_
        obtain ⟨⟨⟩, e18, h⟩ := bindE h
        obtain ⟨v15, M16, e17, h⟩ := bd2E h
        refine X.callV (b := a0) (v := some (.int v15)) (As := [.int a5, .int a2]) (st := []) (M' := M16) (pc' := 53) dX0_bestArcOf_50 rfl cl_X0_53 mi_X0_arcNumber me_X0_arcNumber mr_X0_arcNumber e18 ⟨⟨Nat.le_of_ble_eq_true rfl, Nat.le_of_ble_eq_true rfl⟩, Nat.le_of_ble_eq_true rfl, Nat.le_of_ble_eq_true rfl⟩ rfl (Nat.le_of_ble_eq_true rfl) (ok_X0_arcNumber (G := zs G) e17) ?_
        show X G t_X0_bestArcOf [] 53 [some (.ref a0), some (.int a1), some (.int a2), some (.int a3), some (.int a4), some (.int a5), none] [.int v15] M16 0 0 _
        refine X.istore (L' := [some (.ref a0), some (.int a1), some (.int a2), some (.int a3), some (.int a4), some (.int a5), some (.int v15)]) (pc' := 55) dX0_bestArcOf_53 rfl (Nat.le_of_ble_eq_true rfl) rfl ?_
        refine X.iload (x := v15) (pc' := 57) dX0_bestArcOf_55 rfl rfl ?_
        refine X.iconst (v := (-1)) (pc' := 58) dX0_bestArcOf_57 rfl (by decide) ?_
        refine X.icmp_eq (tgt := 75) (pc' := 61) dX0_bestArcOf_58 (by decide) rfl (fun hc => ?_) (fun hc => ?_)
        · rw [if_pos hc] at h
          refine X.sub (L := [some (.ref a0), some (.int a1), some (.int a2), some (.int a3), some (.int a4), some (.int a5), none]) ?_ (⟨rfl, ⟨rfl, ⟨rfl, ⟨rfl, ⟨rfl, ⟨rfl, trivial⟩⟩⟩⟩⟩⟩)
          exact ok_X0_bestArcOf_75 hk9 h
        · rw [if_neg hc] at h
          refine X.iload (x := v15) (pc' := 63) dX0_bestArcOf_61 rfl rfl ?_
          refine X.iload (x := a4) (pc' := 65) dX0_bestArcOf_63 rfl rfl ?_
          refine X.icmp_ge (tgt := 75) (pc' := 68) dX0_bestArcOf_65 (by decide) rfl (fun hc => ?_) (fun hc => ?_)
          · rw [if_pos hc] at h
            refine X.sub (L := [some (.ref a0), some (.int a1), some (.int a2), some (.int a3), some (.int a4), some (.int a5), none]) ?_ (⟨rfl, ⟨rfl, ⟨rfl, ⟨rfl, ⟨rfl, ⟨rfl, trivial⟩⟩⟩⟩⟩⟩)
            exact ok_X0_bestArcOf_75 hk9 h
          · rw [if_neg hc] at h
            refine X.iload (x := a5) (pc' := 70) dX0_bestArcOf_68 rfl rfl ?_
            refine X.istore_n (L' := [some (.ref a0), some (.int a1), some (.int a2), some (.int a5), some (.int a4), some (.int a5), some (.int v15)]) (pc' := 71) dX0_bestArcOf_70 rfl rfl (Nat.le_of_ble_eq_true rfl) rfl ?_
            refine X.iload (x := v15) (pc' := 73) dX0_bestArcOf_71 rfl rfl ?_
            refine X.istore (L' := [some (.ref a0), some (.int a1), some (.int a2), some (.int a5), some (.int v15), some (.int a5), some (.int v15)]) (pc' := 75) dX0_bestArcOf_73 rfl (Nat.le_of_ble_eq_true rfl) rfl ?_
            refine X.sub (L := [some (.ref a0), some (.int a1), some (.int a2), some (.int a5), some (.int v15), some (.int a5), none]) ?_ (⟨rfl, ⟨rfl, ⟨rfl, ⟨rfl, ⟨rfl, ⟨rfl, trivial⟩⟩⟩⟩⟩⟩)
            exact ok_X0_bestArcOf_75 hk9 h
def f_X0_bestArcOf_9 (fu : Nat) : Nat → Nat → Int32 → Int32 → Int32 → Int32 → Int32 → List Ob → Option (Int32 × List Ob)
  | 0, _, _, _, _, _, _, _ => none
  | n + 1, a0, a1, a2, a3, a4, a5, M => f_X0_bestArcOf_9b fu a0 a1 a2 a3 a4 a5 M (fun a0 a1 a2 a3 a4 a5 M => f_X0_bestArcOf_9 fu n a0 a1 a2 a3 a4 a5 M)
theorem ok_X0_bestArcOf_9 {G : GT} {fu : Nat} {out : Int32 × List Ob} : ∀ (n : Nat) (a0 : Nat) (a1 : Int32) (a2 : Int32) (a3 : Int32) (a4 : Int32) (a5 : Int32) (M : List Ob), f_X0_bestArcOf_9 fu n a0 a1 a2 a3 a4 a5 M = some out → X G t_X0_bestArcOf [] 9 [some (.ref a0), some (.int a1), some (.int a2), some (.int a3), some (.int a4), some (.int a5), none] [] M 0 0 (oI out) := by
  intro n
  induction n with
  | zero =>
    intro a0 a1 a2 a3 a4 a5 M h
    unfold f_X0_bestArcOf_9 at h
    cases h
  | succ n ih =>
    intro a0 a1 a2 a3 a4 a5 M h
    unfold f_X0_bestArcOf_9 at h
    exact ok_X0_bestArcOf_9b ih h
def f_X0_bestArcOf (fu : Nat) (a0 : Nat) (a1 : Int32) (a2 : Int32) (M : List Ob) : Option (Int32 × List Ob) :=
  f_X0_bestArcOf_9 fu  fu a0 a1 a2 (-1) 1000000 0 M
set_option maxHeartbeats 4000000 in
theorem ok_X0_bestArcOf {G : GT} {fu : Nat} {a0 : Nat} {a1 : Int32} {a2 : Int32} {M : List Ob} {out : Int32 × List Ob} (h : f_X0_bestArcOf fu a0 a1 a2 M = some out) : Sp G t_X0_bestArcOf [.ref a0, .int a1, .int a2] M (oI out) := by
  refine Sp.of rfl (by decide +kernel) (cat_all rfl) (Nat.le_of_ble_eq_true rfl) ?_
  show X G t_X0_bestArcOf [] 0 [some (.ref a0), some (.int a1), some (.int a2), none, none, none, none] [] M 0 0 (oI out)
  unfold f_X0_bestArcOf at h
  refine X.iconst (v := (-1)) (pc' := 1) dX0_bestArcOf_0 rfl (by decide) ?_
  refine X.istore_n (L' := [some (.ref a0), some (.int a1), some (.int a2), some (.int (-1)), none, none, none]) (pc' := 2) dX0_bestArcOf_1 rfl rfl (Nat.le_of_ble_eq_true rfl) rfl ?_
  refine X.ldc (v := 1000000) (pc' := 4) dX0_bestArcOf_2 rfl (TBg_of 1184 (by decide +kernel) rfl) ?_
  refine X.istore (L' := [some (.ref a0), some (.int a1), some (.int a2), some (.int (-1)), some (.int 1000000), none, none]) (pc' := 6) dX0_bestArcOf_4 rfl (Nat.le_of_ble_eq_true rfl) rfl ?_
  refine X.iconst (v := 0) (pc' := 7) dX0_bestArcOf_6 rfl (by decide) ?_
  refine X.istore (L' := [some (.ref a0), some (.int a1), some (.int a2), some (.int (-1)), some (.int 1000000), some (.int 0), none]) (pc' := 9) dX0_bestArcOf_7 rfl (Nat.le_of_ble_eq_true rfl) rfl ?_
  refine ok_X0_bestArcOf_9  fu _ _ _ _ _ _ _ h
def f_X0_leastNumber (fu : Nat) (a0 : Nat) (a1 : Int32) (a2 : Int32) (M : List Ob) : Option (Int32 × List Ob) :=
  (gP M a0 0 0).bind fun r1 =>
  (gI M r1 4 2).bind fun v3 =>
  if a1 = v3 then (some (0, M))
  else ((hasO M a0 0).bind fun _ =>
  bd2 (f_X0_bestArcOf fu a0 a1 a2 M) fun v5 M6 =>
  if v5 = (-1) then (some ((-1), M6))
  else ((hasO M6 a0 0).bind fun _ =>
  bd2 (f_X0_arcNumber fu a0 v5 a2 M6) fun v9 M10 =>
  some (v9, M10)))
set_option maxHeartbeats 4000000 in
theorem ok_X0_leastNumber {G : GT} {fu : Nat} {a0 : Nat} {a1 : Int32} {a2 : Int32} {M : List Ob} {out : Int32 × List Ob} (h : f_X0_leastNumber fu a0 a1 a2 M = some out) : Sp G t_X0_leastNumber [.ref a0, .int a1, .int a2] M (oI out) := by
  refine Sp.of rfl (by decide +kernel) (cat_all rfl) (Nat.le_of_ble_eq_true rfl) ?_
  show X G t_X0_leastNumber [] 0 [some (.ref a0), some (.int a1), some (.int a2), none] [] M 0 0 (oI out)
  unfold f_X0_leastNumber at h
  refine X.iload_n (x := a1) (pc' := 1) dX0_leastNumber_0 rfl rfl rfl ?_
  refine X.aload_n (x := a0) (pc' := 2) dX0_leastNumber_1 rfl rfl rfl ?_
  obtain ⟨r1, e2, h⟩ := bindE h
  refine X.getf (pc' := 5) dX0_leastNumber_2 rfl fq_X0_23 (gP_spec e2) ?_
  obtain ⟨v3, e4, h⟩ := bindE h
  refine X.getf (pc' := 8) dX0_leastNumber_5 rfl fq_X0_33 (gI_spec e4) ?_
  refine X.icmp_ne (tgt := 13) (pc' := 11) dX0_leastNumber_8 (by decide) rfl (fun hc => ?_) (fun hc => ?_)
  · rw [if_neg hc] at h
    refine X.aload_n (x := a0) (pc' := 14) dX0_leastNumber_13 rfl rfl rfl ?_
    refine X.iload_n (x := a1) (pc' := 15) dX0_leastNumber_14 rfl rfl rfl ?_
    refine X.iload_n (x := a2) (pc' := 16) dX0_leastNumber_15 rfl rfl rfl ?_
    obtain ⟨⟨⟩, e8, h⟩ := bindE h
    obtain ⟨v5, M6, e7, h⟩ := bd2E h
    refine X.callV (b := a0) (v := some (.int v5)) (As := [.int a1, .int a2]) (st := []) (M' := M6) (pc' := 19) dX0_leastNumber_16 rfl cl_X0_50 mi_X0_bestArcOf me_X0_bestArcOf mr_X0_bestArcOf e8 ⟨⟨Nat.le_of_ble_eq_true rfl, Nat.le_of_ble_eq_true rfl⟩, Nat.le_of_ble_eq_true rfl, Nat.le_of_ble_eq_true rfl⟩ rfl (Nat.le_of_ble_eq_true rfl) (ok_X0_bestArcOf (G := zs G) e7) ?_
    show X G t_X0_leastNumber [] 19 [some (.ref a0), some (.int a1), some (.int a2), none] [.int v5] M6 0 0 _
    refine X.istore_n (L' := [some (.ref a0), some (.int a1), some (.int a2), some (.int v5)]) (pc' := 20) dX0_leastNumber_19 rfl rfl (Nat.le_of_ble_eq_true rfl) rfl ?_
    refine X.iload_n (x := v5) (pc' := 21) dX0_leastNumber_20 rfl rfl rfl ?_
    refine X.iconst (v := (-1)) (pc' := 22) dX0_leastNumber_21 rfl (by decide) ?_
    refine X.icmp_ne (tgt := 29) (pc' := 25) dX0_leastNumber_22 (by decide) rfl (fun hc => ?_) (fun hc => ?_)
    · rw [if_neg hc] at h
      refine X.aload_n (x := a0) (pc' := 30) dX0_leastNumber_29 rfl rfl rfl ?_
      refine X.iload_n (x := v5) (pc' := 31) dX0_leastNumber_30 rfl rfl rfl ?_
      refine X.iload_n (x := a2) (pc' := 32) dX0_leastNumber_31 rfl rfl rfl ?_
      obtain ⟨⟨⟩, e12, h⟩ := bindE h
      obtain ⟨v9, M10, e11, h⟩ := bd2E h
      refine X.callV (b := a0) (v := some (.int v9)) (As := [.int v5, .int a2]) (st := []) (M' := M10) (pc' := 35) dX0_leastNumber_32 rfl cl_X0_53 mi_X0_arcNumber me_X0_arcNumber mr_X0_arcNumber e12 ⟨⟨Nat.le_of_ble_eq_true rfl, Nat.le_of_ble_eq_true rfl⟩, Nat.le_of_ble_eq_true rfl, Nat.le_of_ble_eq_true rfl⟩ rfl (Nat.le_of_ble_eq_true rfl) (ok_X0_arcNumber (G := zs G) e11) ?_
      show X G t_X0_leastNumber [] 35 [some (.ref a0), some (.int a1), some (.int a2), some (.int v5)] [.int v9] M10 0 0 _
      cases h
      exact X.iret (ty := .int) dX0_leastNumber_35 rfl rfl (Nat.le_of_ble_eq_true rfl) (Nat.le_of_ble_eq_true rfl) rfl
    · rw [if_pos hc] at h
      refine X.iconst (v := (-1)) (pc' := 26) dX0_leastNumber_25 rfl (by decide) ?_
      refine X.goto (pc' := 35) dX0_leastNumber_26 (by decide) ?_
      cases h
      exact X.iret (ty := .int) dX0_leastNumber_35 rfl rfl (Nat.le_of_ble_eq_true rfl) (Nat.le_of_ble_eq_true rfl) rfl
  · rw [if_pos hc] at h
    refine X.iconst (v := 0) (pc' := 12) dX0_leastNumber_11 rfl (by decide) ?_
    cases h
    exact X.iret (ty := .int) dX0_leastNumber_12 rfl rfl (Nat.le_of_ble_eq_true rfl) (Nat.le_of_ble_eq_true rfl) rfl
def f_X0_allowOneMoreStep_10b (fu : Nat) (a0 : Nat) (a1 : Int32) (a2 : Int32) (M : List Ob) (k10 : Nat → Int32 → Int32 → List Ob → Option (Int32 × List Ob)) (k41 : Nat → Int32 → List Ob → Option (Int32 × List Ob)) : Option (Int32 × List Ob) :=
  (gP M a0 0 0).bind fun r1 =>
  (gI M r1 4 0).bind fun v3 =>
  if v3 ≤ a2 then (k41 a0 a1 M)
  else ((gP M a0 0 2).bind fun r5 =>
  (aP M r5 16 a1).bind fun r8 =>
  (hasO M a0 0).bind fun _ =>
  bd2 (f_X0_leastNumber fu a0 a2 a1 M) fun v9 M10 =>
  (aSet M10 r8 13 a2 (.int v9)).bind fun M14 =>
  k10 a0 a1 (a2 + 1) M14)
set_option maxHeartbeats 4000000 in
theorem ok_X0_allowOneMoreStep_10b {G : GT} {fu : Nat} {out : Int32 × List Ob} {a0 : Nat} {a1 : Int32} {a2 : Int32} {M : List Ob} {k10 : Nat → Int32 → Int32 → List Ob → Option (Int32 × List Ob)} {k41 : Nat → Int32 → List Ob → Option (Int32 × List Ob)} (hk10 : ∀ (a0 : Nat) (a1 : Int32) (a2 : Int32) (M : List Ob), k10 a0 a1 a2 M = some out → X G t_X0_allowOneMoreStep [] 10 [some (.ref a0), some (.int a1), some (.int a2), none] [] M 0 0 (oI out)) (hk41 : ∀ (a0 : Nat) (a1 : Int32) (M : List Ob), k41 a0 a1 M = some out → X G t_X0_allowOneMoreStep [] 41 [some (.ref a0), some (.int a1), none, none] [] M 0 0 (oI out)) (h : f_X0_allowOneMoreStep_10b fu a0 a1 a2 M k10 k41 = some out) : X G t_X0_allowOneMoreStep [] 10 [some (.ref a0), some (.int a1), some (.int a2), none] [] M 0 0 (oI out) := by
  unfold f_X0_allowOneMoreStep_10b at h
  refine X.iload_n (x := a2) (pc' := 11) dX0_allowOneMoreStep_10 rfl rfl rfl ?_
  refine X.aload_n (x := a0) (pc' := 12) dX0_allowOneMoreStep_11 rfl rfl rfl ?_
  obtain ⟨r1, e2, h⟩ := bindE h
  refine X.getf (pc' := 15) dX0_allowOneMoreStep_12 rfl fq_X0_23 (gP_spec e2) ?_
  obtain ⟨v3, e4, h⟩ := bindE h
  refine X.getf (pc' := 18) dX0_allowOneMoreStep_15 rfl fq_X0_43 (gI_spec e4) ?_
  refine X.icmp_ge (tgt := 41) (pc' := 21) dX0_allowOneMoreStep_18 (by decide) rfl (fun hc => ?_) (fun hc => ?_)
  · rw [if_pos hc] at h
    refine X.sub (L := [some (.ref a0), some (.int a1), none, none]) ?_ (⟨rfl, ⟨rfl, trivial⟩⟩)
    exact hk41 _ _ _ h
  · rw [if_neg hc] at h
    refine X.aload_n (x := a0) (pc' := 22) dX0_allowOneMoreStep_21 rfl rfl rfl ?_
    obtain ⟨r5, e6, h⟩ := bindE h
    refine X.getf (pc' := 25) dX0_allowOneMoreStep_22 rfl fq_X0_16 (gP_spec e6) ?_
    refine X.iload_n (x := a1) (pc' := 26) dX0_allowOneMoreStep_25 rfl rfl rfl ?_
    obtain ⟨r8, e7, h⟩ := bindE h
    refine X.aald (pc' := 27) dX0_allowOneMoreStep_26 rfl (by decide) e7 ?_
    refine X.iload_n (x := a2) (pc' := 28) dX0_allowOneMoreStep_27 rfl rfl rfl ?_
    refine X.aload_n (x := a0) (pc' := 29) dX0_allowOneMoreStep_28 rfl rfl rfl ?_
    refine X.iload_n (x := a2) (pc' := 30) dX0_allowOneMoreStep_29 rfl rfl rfl ?_
    refine X.iload_n (x := a1) (pc' := 31) dX0_allowOneMoreStep_30 rfl rfl rfl ?_
    obtain ⟨⟨⟩, e12, h⟩ := bindE h
    obtain ⟨v9, M10, e11, h⟩ := bd2E h
    refine X.callV (b := a0) (v := some (.int v9)) (As := [.int a2, .int a1]) (st := [.int a2, .ref r8]) (M' := M10) (pc' := 34) dX0_allowOneMoreStep_31 rfl cl_X0_46 mi_X0_leastNumber me_X0_leastNumber mr_X0_leastNumber e12 ⟨⟨Nat.le_of_ble_eq_true rfl, Nat.le_of_ble_eq_true rfl⟩, Nat.le_of_ble_eq_true rfl, Nat.le_of_ble_eq_true rfl⟩ rfl (Nat.le_of_ble_eq_true rfl) (ok_X0_leastNumber (G := zs G) e11) ?_
    show X G t_X0_allowOneMoreStep [] 34 [some (.ref a0), some (.int a1), some (.int a2), none] [.int v9, .int a2, .ref r8] M10 0 0 _
    obtain ⟨M14, e13, h⟩ := bindE h
    refine X.iast (pc' := 35) dX0_allowOneMoreStep_34 rfl e13 ?_
    refine X.iinc (v := (a2 + 1)) (L' := [some (.ref a0), some (.int a1), some (.int (a2 + 1)), none]) (pc' := 38) dX0_allowOneMoreStep_35 rfl rfl (congrArg (fun y => a2 + y) (show Int32.ofInt 1 = 1 by decide)) (Nat.le_of_ble_eq_true rfl) rfl ?_
    refine X.goto (pc' := 10) dX0_allowOneMoreStep_38 (by decide) ?_
    exact hk10 _ _ _ _ h
def f_X0_allowOneMoreStep_10 (fu : Nat) (k41 : Nat → Int32 → List Ob → Option (Int32 × List Ob)) : Nat → Nat → Int32 → Int32 → List Ob → Option (Int32 × List Ob)
  | 0, _, _, _, _ => none
  | n + 1, a0, a1, a2, M => f_X0_allowOneMoreStep_10b fu a0 a1 a2 M (fun a0 a1 a2 M => f_X0_allowOneMoreStep_10 fu k41 n a0 a1 a2 M) k41
theorem ok_X0_allowOneMoreStep_10 {G : GT} {fu : Nat} {out : Int32 × List Ob} {k41 : Nat → Int32 → List Ob → Option (Int32 × List Ob)} (hk41 : ∀ (a0 : Nat) (a1 : Int32) (M : List Ob), k41 a0 a1 M = some out → X G t_X0_allowOneMoreStep [] 41 [some (.ref a0), some (.int a1), none, none] [] M 0 0 (oI out)) : ∀ (n : Nat) (a0 : Nat) (a1 : Int32) (a2 : Int32) (M : List Ob), f_X0_allowOneMoreStep_10 fu k41 n a0 a1 a2 M = some out → X G t_X0_allowOneMoreStep [] 10 [some (.ref a0), some (.int a1), some (.int a2), none] [] M 0 0 (oI out) := by
  intro n
  induction n with
  | zero =>
    intro a0 a1 a2 M h
    unfold f_X0_allowOneMoreStep_10 at h
    cases h
  | succ n ih =>
    intro a0 a1 a2 M h
    unfold f_X0_allowOneMoreStep_10 at h
    exact ok_X0_allowOneMoreStep_10b ih hk41 h
def f_X0_allowOneMoreStep_41 (fu : Nat) (a0 : Nat) (a1 : Int32) (M : List Ob) (k2 : Nat → Int32 → List Ob → Option (Int32 × List Ob)) (k47 : Nat → List Ob → Option (Int32 × List Ob)) : Option (Int32 × List Ob) :=
  k2 a0 (a1 + 1) M
set_option maxHeartbeats 4000000 in
theorem ok_X0_allowOneMoreStep_41 {G : GT} {fu : Nat} {out : Int32 × List Ob} {a0 : Nat} {a1 : Int32} {M : List Ob} {k2 : Nat → Int32 → List Ob → Option (Int32 × List Ob)} {k47 : Nat → List Ob → Option (Int32 × List Ob)} (hk2 : ∀ (a0 : Nat) (a1 : Int32) (M : List Ob), k2 a0 a1 M = some out → X G t_X0_allowOneMoreStep [] 2 [some (.ref a0), some (.int a1), none, none] [] M 0 0 (oI out)) (hk47 : ∀ (a0 : Nat) (M : List Ob), k47 a0 M = some out → X G t_X0_allowOneMoreStep [] 47 [some (.ref a0), none, none, none] [] M 0 0 (oI out)) (h : f_X0_allowOneMoreStep_41 fu a0 a1 M k2 k47 = some out) : X G t_X0_allowOneMoreStep [] 41 [some (.ref a0), some (.int a1), none, none] [] M 0 0 (oI out) := by
  unfold f_X0_allowOneMoreStep_41 at h
  refine X.iinc (v := (a1 + 1)) (L' := [some (.ref a0), some (.int (a1 + 1)), none, none]) (pc' := 44) dX0_allowOneMoreStep_41 rfl rfl (congrArg (fun y => a1 + y) (show Int32.ofInt 1 = 1 by decide)) (Nat.le_of_ble_eq_true rfl) rfl ?_
  refine X.goto (pc' := 2) dX0_allowOneMoreStep_44 (by decide) ?_
  exact hk2 _ _ _ h
def f_X0_allowOneMoreStep_2b (fu : Nat) (a0 : Nat) (a1 : Int32) (M : List Ob) (k2 : Nat → Int32 → List Ob → Option (Int32 × List Ob)) (k47 : Nat → List Ob → Option (Int32 × List Ob)) : Option (Int32 × List Ob) :=
  if 6 < a1 then (k47 a0 M)
  else (f_X0_allowOneMoreStep_10 fu (fun x1 x2 M3 => f_X0_allowOneMoreStep_41 fu x1 x2 M3 k2 k47) fu a0 a1 0 M)
set_option maxHeartbeats 4000000 in
theorem ok_X0_allowOneMoreStep_2b {G : GT} {fu : Nat} {out : Int32 × List Ob} {a0 : Nat} {a1 : Int32} {M : List Ob} {k2 : Nat → Int32 → List Ob → Option (Int32 × List Ob)} {k47 : Nat → List Ob → Option (Int32 × List Ob)} (hk2 : ∀ (a0 : Nat) (a1 : Int32) (M : List Ob), k2 a0 a1 M = some out → X G t_X0_allowOneMoreStep [] 2 [some (.ref a0), some (.int a1), none, none] [] M 0 0 (oI out)) (hk47 : ∀ (a0 : Nat) (M : List Ob), k47 a0 M = some out → X G t_X0_allowOneMoreStep [] 47 [some (.ref a0), none, none, none] [] M 0 0 (oI out)) (h : f_X0_allowOneMoreStep_2b fu a0 a1 M k2 k47 = some out) : X G t_X0_allowOneMoreStep [] 2 [some (.ref a0), some (.int a1), none, none] [] M 0 0 (oI out) := by
  unfold f_X0_allowOneMoreStep_2b at h
  refine X.iload_n (x := a1) (pc' := 3) dX0_allowOneMoreStep_2 rfl rfl rfl ?_
  refine X.bipush (v := 6) (pc' := 5) dX0_allowOneMoreStep_3 rfl (by decide) ?_
  refine X.icmp_gt (tgt := 47) (pc' := 8) dX0_allowOneMoreStep_5 (by decide) rfl (fun hc => ?_) (fun hc => ?_)
  · rw [if_pos hc] at h
    refine X.sub (L := [some (.ref a0), none, none, none]) ?_ (⟨rfl, trivial⟩)
    exact hk47 _ _ h
  · rw [if_neg hc] at h
    refine X.iconst (v := 0) (pc' := 9) dX0_allowOneMoreStep_8 rfl (by decide) ?_
    refine X.istore_n (L' := [some (.ref a0), some (.int a1), some (.int 0), none]) (pc' := 10) dX0_allowOneMoreStep_9 rfl rfl (Nat.le_of_ble_eq_true rfl) rfl ?_
    refine ok_X0_allowOneMoreStep_10 ?_ fu _ _ _ _ h
    · intro x1 x2 M3 h
      exact ok_X0_allowOneMoreStep_41 hk2 hk47 h
def f_X0_allowOneMoreStep_2 (fu : Nat) (k47 : Nat → List Ob → Option (Int32 × List Ob)) : Nat → Nat → Int32 → List Ob → Option (Int32 × List Ob)
  | 0, _, _, _ => none
  | n + 1, a0, a1, M => f_X0_allowOneMoreStep_2b fu a0 a1 M (fun a0 a1 M => f_X0_allowOneMoreStep_2 fu k47 n a0 a1 M) k47
theorem ok_X0_allowOneMoreStep_2 {G : GT} {fu : Nat} {out : Int32 × List Ob} {k47 : Nat → List Ob → Option (Int32 × List Ob)} (hk47 : ∀ (a0 : Nat) (M : List Ob), k47 a0 M = some out → X G t_X0_allowOneMoreStep [] 47 [some (.ref a0), none, none, none] [] M 0 0 (oI out)) : ∀ (n : Nat) (a0 : Nat) (a1 : Int32) (M : List Ob), f_X0_allowOneMoreStep_2 fu k47 n a0 a1 M = some out → X G t_X0_allowOneMoreStep [] 2 [some (.ref a0), some (.int a1), none, none] [] M 0 0 (oI out) := by
  intro n
  induction n with
  | zero =>
    intro a0 a1 M h
    unfold f_X0_allowOneMoreStep_2 at h
    cases h
  | succ n ih =>
    intro a0 a1 M h
    unfold f_X0_allowOneMoreStep_2 at h
    exact ok_X0_allowOneMoreStep_2b ih hk47 h
def f_X0_allowOneMoreStep_98 (fu : Nat) (a0 : Nat) (a2 : Int32) (a3 : Int32) (b0 : Int32) (M : List Ob) (k59 : Nat → Int32 → Int32 → Int32 → List Ob → Option (Int32 × List Ob)) (k121 : Nat → Int32 → Int32 → List Ob → Option (Int32 × List Ob)) : Option (Int32 × List Ob) :=
  (gP M a0 0 1).bind fun r1 =>
  (aP M r1 16 a2).bind fun r4 =>
  (gP M a0 0 2).bind fun r5 =>
  (aP M r5 16 a2).bind fun r8 =>
  (aI M r8 13 a3).bind fun v10 =>
  (aSet M r4 13 a3 (.int v10)).bind fun M12 =>
  k59 a0 b0 a2 (a3 + 1) M12
set_option maxHeartbeats 4000000 in
theorem ok_X0_allowOneMoreStep_98 {G : GT} {fu : Nat} {out : Int32 × List Ob} {a0 : Nat} {a2 : Int32} {a3 : Int32} {b0 : Int32} {M : List Ob} {k59 : Nat → Int32 → Int32 → Int32 → List Ob → Option (Int32 × List Ob)} {k121 : Nat → Int32 → Int32 → List Ob → Option (Int32 × List Ob)} (hk59 : ∀ (a0 : Nat) (a1 : Int32) (a2 : Int32) (a3 : Int32) (M : List Ob), k59 a0 a1 a2 a3 M = some out → X G t_X0_allowOneMoreStep [] 59 [some (.ref a0), some (.int a1), some (.int a2), some (.int a3)] [] M 0 0 (oI out)) (hk121 : ∀ (a0 : Nat) (a1 : Int32) (a2 : Int32) (M : List Ob), k121 a0 a1 a2 M = some out → X G t_X0_allowOneMoreStep [] 121 [some (.ref a0), some (.int a1), some (.int a2), none] [] M 0 0 (oI out)) (h : f_X0_allowOneMoreStep_98 fu a0 a2 a3 b0 M k59 k121 = some out) : X G t_X0_allowOneMoreStep [] 98 [some (.ref a0), none, some (.int a2), some (.int a3)] [.int b0] M 0 0 (oI out) := by
  unfold f_X0_allowOneMoreStep_98 at h
  refine X.istore_n (L' := [some (.ref a0), some (.int b0), some (.int a2), some (.int a3)]) (pc' := 99) dX0_allowOneMoreStep_98 rfl rfl (Nat.le_of_ble_eq_true rfl) rfl ?_
  refine X.aload_n (x := a0) (pc' := 100) dX0_allowOneMoreStep_99 rfl rfl rfl ?_
  obtain ⟨r1, e2, h⟩ := bindE h
  refine X.getf (pc' := 103) dX0_allowOneMoreStep_100 rfl fq_X0_11 (gP_spec e2) ?_
  refine X.iload_n (x := a2) (pc' := 104) dX0_allowOneMoreStep_103 rfl rfl rfl ?_
  obtain ⟨r4, e3, h⟩ := bindE h
  refine X.aald (pc' := 105) dX0_allowOneMoreStep_104 rfl (by decide) e3 ?_
  refine X.iload_n (x := a3) (pc' := 106) dX0_allowOneMoreStep_105 rfl rfl rfl ?_
  refine X.aload_n (x := a0) (pc' := 107) dX0_allowOneMoreStep_106 rfl rfl rfl ?_
  obtain ⟨r5, e6, h⟩ := bindE h
  refine X.getf (pc' := 110) dX0_allowOneMoreStep_107 rfl fq_X0_16 (gP_spec e6) ?_
  refine X.iload_n (x := a2) (pc' := 111) dX0_allowOneMoreStep_110 rfl rfl rfl ?_
  obtain ⟨r8, e7, h⟩ := bindE h
  refine X.aald (pc' := 112) dX0_allowOneMoreStep_111 rfl (by decide) e7 ?_
  refine X.iload_n (x := a3) (pc' := 113) dX0_allowOneMoreStep_112 rfl rfl rfl ?_
  obtain ⟨v10, e9, h⟩ := bindE h
  refine X.iald (pc' := 114) dX0_allowOneMoreStep_113 rfl e9 ?_
  obtain ⟨M12, e11, h⟩ := bindE h
  refine X.iast (pc' := 115) dX0_allowOneMoreStep_114 rfl e11 ?_
  refine X.iinc (v := (a3 + 1)) (L' := [some (.ref a0), some (.int b0), some (.int a2), some (.int (a3 + 1))]) (pc' := 118) dX0_allowOneMoreStep_115 rfl rfl (congrArg (fun y => a3 + y) (show Int32.ofInt 1 = 1 by decide)) (Nat.le_of_ble_eq_true rfl) rfl ?_
  refine X.goto (pc' := 59) dX0_allowOneMoreStep_118 (by decide) ?_
  exact hk59 _ _ _ _ _ h
def f_X0_allowOneMoreStep_93 (fu : Nat) (a0 : Nat) (a2 : Int32) (a3 : Int32) (M : List Ob) (k59 : Nat → Int32 → Int32 → Int32 → List Ob → Option (Int32 × List Ob)) (k121 : Nat → Int32 → Int32 → List Ob → Option (Int32 × List Ob)) : Option (Int32 × List Ob) :=
  f_X0_allowOneMoreStep_98 fu a0 a2 a3 1 M k59 k121
set_option maxHeartbeats 4000000 in
theorem ok_X0_allowOneMoreStep_93 {G : GT} {fu : Nat} {out : Int32 × List Ob} {a0 : Nat} {a2 : Int32} {a3 : Int32} {M : List Ob} {k59 : Nat → Int32 → Int32 → Int32 → List Ob → Option (Int32 × List Ob)} {k121 : Nat → Int32 → Int32 → List Ob → Option (Int32 × List Ob)} (hk59 : ∀ (a0 : Nat) (a1 : Int32) (a2 : Int32) (a3 : Int32) (M : List Ob), k59 a0 a1 a2 a3 M = some out → X G t_X0_allowOneMoreStep [] 59 [some (.ref a0), some (.int a1), some (.int a2), some (.int a3)] [] M 0 0 (oI out)) (hk121 : ∀ (a0 : Nat) (a1 : Int32) (a2 : Int32) (M : List Ob), k121 a0 a1 a2 M = some out → X G t_X0_allowOneMoreStep [] 121 [some (.ref a0), some (.int a1), some (.int a2), none] [] M 0 0 (oI out)) (h : f_X0_allowOneMoreStep_93 fu a0 a2 a3 M k59 k121 = some out) : X G t_X0_allowOneMoreStep [] 93 [some (.ref a0), none, some (.int a2), some (.int a3)] [] M 0 0 (oI out) := by
  unfold f_X0_allowOneMoreStep_93 at h
  refine X.iconst (v := 1) (pc' := 94) dX0_allowOneMoreStep_93 rfl (by decide) ?_
  refine X.goto (pc' := 98) dX0_allowOneMoreStep_94 (by decide) ?_
  exact ok_X0_allowOneMoreStep_98 hk59 hk121 h
def f_X0_allowOneMoreStep_59b (fu : Nat) (a0 : Nat) (a1 : Int32) (a2 : Int32) (a3 : Int32) (M : List Ob) (k59 : Nat → Int32 → Int32 → Int32 → List Ob → Option (Int32 × List Ob)) (k121 : Nat → Int32 → Int32 → List Ob → Option (Int32 × List Ob)) : Option (Int32 × List Ob) :=
  (gP M a0 0 0).bind fun r1 =>
  (gI M r1 4 0).bind fun v3 =>
  if v3 ≤ a3 then (k121 a0 a1 a2 M)
  else (if a1 = 0 then ((gP M a0 0 1).bind fun r5 =>
  (aP M r5 16 a2).bind fun r8 =>
  (aI M r8 13 a3).bind fun v10 =>
  (gP M a0 0 2).bind fun r11 =>
  (aP M r11 16 a2).bind fun r14 =>
  (aI M r14 13 a3).bind fun v16 =>
  if v10 = v16 then (f_X0_allowOneMoreStep_98 fu a0 a2 a3 0 M k59 k121)
  else (f_X0_allowOneMoreStep_93 fu a0 a2 a3 M k59 k121))
  else (f_X0_allowOneMoreStep_93 fu a0 a2 a3 M k59 k121))
set_option maxHeartbeats 4000000 in
theorem ok_X0_allowOneMoreStep_59b {G : GT} {fu : Nat} {out : Int32 × List Ob} {a0 : Nat} {a1 : Int32} {a2 : Int32} {a3 : Int32} {M : List Ob} {k59 : Nat → Int32 → Int32 → Int32 → List Ob → Option (Int32 × List Ob)} {k121 : Nat → Int32 → Int32 → List Ob → Option (Int32 × List Ob)} (hk59 : ∀ (a0 : Nat) (a1 : Int32) (a2 : Int32) (a3 : Int32) (M : List Ob), k59 a0 a1 a2 a3 M = some out → X G t_X0_allowOneMoreStep [] 59 [some (.ref a0), some (.int a1), some (.int a2), some (.int a3)] [] M 0 0 (oI out)) (hk121 : ∀ (a0 : Nat) (a1 : Int32) (a2 : Int32) (M : List Ob), k121 a0 a1 a2 M = some out → X G t_X0_allowOneMoreStep [] 121 [some (.ref a0), some (.int a1), some (.int a2), none] [] M 0 0 (oI out)) (h : f_X0_allowOneMoreStep_59b fu a0 a1 a2 a3 M k59 k121 = some out) : X G t_X0_allowOneMoreStep [] 59 [some (.ref a0), some (.int a1), some (.int a2), some (.int a3)] [] M 0 0 (oI out) := by
  unfold f_X0_allowOneMoreStep_59b at h
  refine X.iload_n (x := a3) (pc' := 60) dX0_allowOneMoreStep_59 rfl rfl rfl ?_
  refine X.aload_n (x := a0) (pc' := 61) dX0_allowOneMoreStep_60 rfl rfl rfl ?_
  obtain ⟨r1, e2, h⟩ := bindE h
  refine X.getf (pc' := 64) dX0_allowOneMoreStep_61 rfl fq_X0_23 (gP_spec e2) ?_
  obtain ⟨v3, e4, h⟩ := bindE h
  refine X.getf (pc' := 67) dX0_allowOneMoreStep_64 rfl fq_X0_43 (gI_spec e4) ?_
  refine X.icmp_ge (tgt := 121) (pc' := 70) dX0_allowOneMoreStep_67 (by decide) rfl (fun hc => ?_) (fun hc => ?_)
  · rw [if_pos hc] at h
    refine X.sub (L := [some (.ref a0), some (.int a1), some (.int a2), none]) ?_ (⟨rfl, ⟨rfl, ⟨rfl, trivial⟩⟩⟩)
    exact hk121 _ _ _ _ h
  · rw [if_neg hc] at h
    refine X.iload_n (x := a1) (pc' := 71) dX0_allowOneMoreStep_70 rfl rfl rfl ?_
    refine X.if_ne (tgt := 93) (pc' := 74) dX0_allowOneMoreStep_71 (by decide) rfl (fun hc => ?_) (fun hc => ?_)
    · rw [if_neg hc] at h
      refine X.sub (L := [some (.ref a0), none, some (.int a2), some (.int a3)]) ?_ (⟨rfl, ⟨rfl, ⟨rfl, trivial⟩⟩⟩)
      exact ok_X0_allowOneMoreStep_93 hk59 hk121 h
    · rw [if_pos hc] at h
      refine X.aload_n (x := a0) (pc' := 75) dX0_allowOneMoreStep_74 rfl rfl rfl ?_
      obtain ⟨r5, e6, h⟩ := bindE h
      refine X.getf (pc' := 78) dX0_allowOneMoreStep_75 rfl fq_X0_11 (gP_spec e6) ?_
      refine X.iload_n (x := a2) (pc' := 79) dX0_allowOneMoreStep_78 rfl rfl rfl ?_
      obtain ⟨r8, e7, h⟩ := bindE h
      refine X.aald (pc' := 80) dX0_allowOneMoreStep_79 rfl (by decide) e7 ?_
      refine X.iload_n (x := a3) (pc' := 81) dX0_allowOneMoreStep_80 rfl rfl rfl ?_
      obtain ⟨v10, e9, h⟩ := bindE h
      refine X.iald (pc' := 82) dX0_allowOneMoreStep_81 rfl e9 ?_
      refine X.aload_n (x := a0) (pc' := 83) dX0_allowOneMoreStep_82 rfl rfl rfl ?_
      obtain ⟨r11, e12, h⟩ := bindE h
      refine X.getf (pc' := 86) dX0_allowOneMoreStep_83 rfl fq_X0_16 (gP_spec e12) ?_
      refine X.iload_n (x := a2) (pc' := 87) dX0_allowOneMoreStep_86 rfl rfl rfl ?_
      obtain ⟨r14, e13, h⟩ := bindE h
      refine X.aald (pc' := 88) dX0_allowOneMoreStep_87 rfl (by decide) e13 ?_
      refine X.iload_n (x := a3) (pc' := 89) dX0_allowOneMoreStep_88 rfl rfl rfl ?_
      obtain ⟨v16, e15, h⟩ := bindE h
      refine X.iald (pc' := 90) dX0_allowOneMoreStep_89 rfl e15 ?_
      refine X.icmp_eq (tgt := 97) (pc' := 93) dX0_allowOneMoreStep_90 (by decide) rfl (fun hc => ?_) (fun hc => ?_)
      · rw [if_pos hc] at h
        refine X.iconst (v := 0) (pc' := 98) dX0_allowOneMoreStep_97 rfl (by decide) ?_
        refine X.sub (L := [some (.ref a0), none, some (.int a2), some (.int a3)]) ?_ (⟨rfl, ⟨rfl, ⟨rfl, trivial⟩⟩⟩)
        exact ok_X0_allowOneMoreStep_98 hk59 hk121 h
      · rw [if_neg hc] at h
        refine X.sub (L := [some (.ref a0), none, some (.int a2), some (.int a3)]) ?_ (⟨rfl, ⟨rfl, ⟨rfl, trivial⟩⟩⟩)
        exact ok_X0_allowOneMoreStep_93 hk59 hk121 h
def f_X0_allowOneMoreStep_59 (fu : Nat) (k121 : Nat → Int32 → Int32 → List Ob → Option (Int32 × List Ob)) : Nat → Nat → Int32 → Int32 → Int32 → List Ob → Option (Int32 × List Ob)
  | 0, _, _, _, _, _ => none
  | n + 1, a0, a1, a2, a3, M => f_X0_allowOneMoreStep_59b fu a0 a1 a2 a3 M (fun a0 a1 a2 a3 M => f_X0_allowOneMoreStep_59 fu k121 n a0 a1 a2 a3 M) k121
theorem ok_X0_allowOneMoreStep_59 {G : GT} {fu : Nat} {out : Int32 × List Ob} {k121 : Nat → Int32 → Int32 → List Ob → Option (Int32 × List Ob)} (hk121 : ∀ (a0 : Nat) (a1 : Int32) (a2 : Int32) (M : List Ob), k121 a0 a1 a2 M = some out → X G t_X0_allowOneMoreStep [] 121 [some (.ref a0), some (.int a1), some (.int a2), none] [] M 0 0 (oI out)) : ∀ (n : Nat) (a0 : Nat) (a1 : Int32) (a2 : Int32) (a3 : Int32) (M : List Ob), f_X0_allowOneMoreStep_59 fu k121 n a0 a1 a2 a3 M = some out → X G t_X0_allowOneMoreStep [] 59 [some (.ref a0), some (.int a1), some (.int a2), some (.int a3)] [] M 0 0 (oI out) := by
  intro n
  induction n with
  | zero =>
    intro a0 a1 a2 a3 M h
    unfold f_X0_allowOneMoreStep_59 at h
    cases h
  | succ n ih =>
    intro a0 a1 a2 a3 M h
    unfold f_X0_allowOneMoreStep_59 at h
    exact ok_X0_allowOneMoreStep_59b ih hk121 h
def f_X0_allowOneMoreStep_121 (fu : Nat) (a0 : Nat) (a1 : Int32) (a2 : Int32) (M : List Ob) (k51 : Nat → Int32 → Int32 → List Ob → Option (Int32 × List Ob)) : Option (Int32 × List Ob) :=
  k51 a0 a1 (a2 + 1) M
set_option maxHeartbeats 4000000 in
theorem ok_X0_allowOneMoreStep_121 {G : GT} {fu : Nat} {out : Int32 × List Ob} {a0 : Nat} {a1 : Int32} {a2 : Int32} {M : List Ob} {k51 : Nat → Int32 → Int32 → List Ob → Option (Int32 × List Ob)} (hk51 : ∀ (a0 : Nat) (a1 : Int32) (a2 : Int32) (M : List Ob), k51 a0 a1 a2 M = some out → X G t_X0_allowOneMoreStep [] 51 [some (.ref a0), some (.int a1), some (.int a2), none] [] M 0 0 (oI out)) (h : f_X0_allowOneMoreStep_121 fu a0 a1 a2 M k51 = some out) : X G t_X0_allowOneMoreStep [] 121 [some (.ref a0), some (.int a1), some (.int a2), none] [] M 0 0 (oI out) := by
  unfold f_X0_allowOneMoreStep_121 at h
  refine X.iinc (v := (a2 + 1)) (L' := [some (.ref a0), some (.int a1), some (.int (a2 + 1)), none]) (pc' := 124) dX0_allowOneMoreStep_121 rfl rfl (congrArg (fun y => a2 + y) (show Int32.ofInt 1 = 1 by decide)) (Nat.le_of_ble_eq_true rfl) rfl ?_
  refine X.goto (pc' := 51) dX0_allowOneMoreStep_124 (by decide) ?_
  exact hk51 _ _ _ _ h
def f_X0_allowOneMoreStep_51b (fu : Nat) (a0 : Nat) (a1 : Int32) (a2 : Int32) (M : List Ob) (k51 : Nat → Int32 → Int32 → List Ob → Option (Int32 × List Ob)) : Option (Int32 × List Ob) :=
  if 6 < a2 then (if a1 &&& 1 = a1 then some (a1, M) else none)
  else (f_X0_allowOneMoreStep_59 fu (fun x1 x2 x3 M4 => f_X0_allowOneMoreStep_121 fu x1 x2 x3 M4 k51) fu a0 a1 a2 0 M)
set_option maxHeartbeats 4000000 in
theorem ok_X0_allowOneMoreStep_51b {G : GT} {fu : Nat} {out : Int32 × List Ob} {a0 : Nat} {a1 : Int32} {a2 : Int32} {M : List Ob} {k51 : Nat → Int32 → Int32 → List Ob → Option (Int32 × List Ob)} (hk51 : ∀ (a0 : Nat) (a1 : Int32) (a2 : Int32) (M : List Ob), k51 a0 a1 a2 M = some out → X G t_X0_allowOneMoreStep [] 51 [some (.ref a0), some (.int a1), some (.int a2), none] [] M 0 0 (oI out)) (h : f_X0_allowOneMoreStep_51b fu a0 a1 a2 M k51 = some out) : X G t_X0_allowOneMoreStep [] 51 [some (.ref a0), some (.int a1), some (.int a2), none] [] M 0 0 (oI out) := by
  unfold f_X0_allowOneMoreStep_51b at h
  refine X.iload_n (x := a2) (pc' := 52) dX0_allowOneMoreStep_51 rfl rfl rfl ?_
  refine X.bipush (v := 6) (pc' := 54) dX0_allowOneMoreStep_52 rfl (by decide) ?_
  refine X.icmp_gt (tgt := 127) (pc' := 57) dX0_allowOneMoreStep_54 (by decide) rfl (fun hc => ?_) (fun hc => ?_)
  · rw [if_pos hc] at h
    refine X.iload_n (x := a1) (pc' := 128) dX0_allowOneMoreStep_127 rfl rfl rfl ?_
    split at h
    rotate_left
    · cases h
    rename_i hz1
    cases h
    exact X.iret (ty := .boolean) dX0_allowOneMoreStep_128 rfl (congrArg Value.int hz1) (Nat.le_of_ble_eq_true rfl) (Nat.le_of_ble_eq_true rfl) rfl
  · rw [if_neg hc] at h
    refine X.iconst (v := 0) (pc' := 58) dX0_allowOneMoreStep_57 rfl (by decide) ?_
    refine X.istore_n (L' := [some (.ref a0), some (.int a1), some (.int a2), some (.int 0)]) (pc' := 59) dX0_allowOneMoreStep_58 rfl rfl (Nat.le_of_ble_eq_true rfl) rfl ?_
    refine ok_X0_allowOneMoreStep_59 ?_ fu _ _ _ _ _ h
    · intro x1 x2 x3 M4 h
      exact ok_X0_allowOneMoreStep_121 hk51 h
def f_X0_allowOneMoreStep_51 (fu : Nat) : Nat → Nat → Int32 → Int32 → List Ob → Option (Int32 × List Ob)
  | 0, _, _, _, _ => none
  | n + 1, a0, a1, a2, M => f_X0_allowOneMoreStep_51b fu a0 a1 a2 M (fun a0 a1 a2 M => f_X0_allowOneMoreStep_51 fu n a0 a1 a2 M)
theorem ok_X0_allowOneMoreStep_51 {G : GT} {fu : Nat} {out : Int32 × List Ob} : ∀ (n : Nat) (a0 : Nat) (a1 : Int32) (a2 : Int32) (M : List Ob), f_X0_allowOneMoreStep_51 fu n a0 a1 a2 M = some out → X G t_X0_allowOneMoreStep [] 51 [some (.ref a0), some (.int a1), some (.int a2), none] [] M 0 0 (oI out) := by
  intro n
  induction n with
  | zero =>
    intro a0 a1 a2 M h
    unfold f_X0_allowOneMoreStep_51 at h
    cases h
  | succ n ih =>
    intro a0 a1 a2 M h
    unfold f_X0_allowOneMoreStep_51 at h
    exact ok_X0_allowOneMoreStep_51b ih h
def f_X0_allowOneMoreStep_47 (fu : Nat) (a0 : Nat) (M : List Ob) : Option (Int32 × List Ob) :=
  f_X0_allowOneMoreStep_51 fu  fu a0 0 0 M
set_option maxHeartbeats 4000000 in
theorem ok_X0_allowOneMoreStep_47 {G : GT} {fu : Nat} {out : Int32 × List Ob} {a0 : Nat} {M : List Ob} (h : f_X0_allowOneMoreStep_47 fu a0 M = some out) : X G t_X0_allowOneMoreStep [] 47 [some (.ref a0), none, none, none] [] M 0 0 (oI out) := by
  unfold f_X0_allowOneMoreStep_47 at h
  refine X.iconst (v := 0) (pc' := 48) dX0_allowOneMoreStep_47 rfl (by decide) ?_
  refine X.istore_n (L' := [some (.ref a0), some (.int 0), none, none]) (pc' := 49) dX0_allowOneMoreStep_48 rfl rfl (Nat.le_of_ble_eq_true rfl) rfl ?_
  refine X.iconst (v := 0) (pc' := 50) dX0_allowOneMoreStep_49 rfl (by decide) ?_
  refine X.istore_n (L' := [some (.ref a0), some (.int 0), some (.int 0), none]) (pc' := 51) dX0_allowOneMoreStep_50 rfl rfl (Nat.le_of_ble_eq_true rfl) rfl ?_
  refine ok_X0_allowOneMoreStep_51  fu _ _ _ _ h
def f_X0_allowOneMoreStep (fu : Nat) (a0 : Nat) (M : List Ob) : Option (Int32 × List Ob) :=
  f_X0_allowOneMoreStep_2 fu (fun x1 M2 => f_X0_allowOneMoreStep_47 fu x1 M2) fu a0 0 M
set_option maxHeartbeats 4000000 in
theorem ok_X0_allowOneMoreStep {G : GT} {fu : Nat} {a0 : Nat} {M : List Ob} {out : Int32 × List Ob} (h : f_X0_allowOneMoreStep fu a0 M = some out) : Sp G t_X0_allowOneMoreStep [.ref a0] M (oI out) := by
  refine Sp.of rfl (by decide +kernel) (cat_all rfl) (Nat.le_of_ble_eq_true rfl) ?_
  show X G t_X0_allowOneMoreStep [] 0 [some (.ref a0), none, none, none] [] M 0 0 (oI out)
  unfold f_X0_allowOneMoreStep at h
  refine X.iconst (v := 0) (pc' := 1) dX0_allowOneMoreStep_0 rfl (by decide) ?_
  refine X.istore_n (L' := [some (.ref a0), some (.int 0), none, none]) (pc' := 2) dX0_allowOneMoreStep_1 rfl rfl (Nat.le_of_ble_eq_true rfl) rfl ?_
  refine ok_X0_allowOneMoreStep_2 ?_ fu _ _ _ h
  · intro x1 M2 h
    exact ok_X0_allowOneMoreStep_47 h
def f_X0_solve_15b (fu : Nat) (a0 : Nat) (a1 : Int32) (M : List Ob) (k15 : Nat → Int32 → List Ob → Option (Unit × List Ob)) (k52 : Nat → List Ob → Option (Unit × List Ob)) : Option (Unit × List Ob) :=
  if 6 < a1 then (k52 a0 M)
  else ((gP M a0 0 1).bind fun r1 =>
  (aP M r1 16 a1).bind fun r4 =>
  bd2 (f_J7_fill_53178 fu r4 (-1) M) fun _ M6 =>
  (gP M6 a0 0 1).bind fun r9 =>
  (aP M6 r9 16 a1).bind fun r12 =>
  (gP M6 a0 0 0).bind fun r13 =>
  (gI M6 r13 4 2).bind fun v15 =>
  (aSet M6 r12 13 v15 (.int 0)).bind fun M18 =>
  k15 a0 (a1 + 1) M18)
set_option maxHeartbeats 4000000 in
theorem ok_X0_solve_15b {G : GT} {fu : Nat} {out : Unit × List Ob} {a0 : Nat} {a1 : Int32} {M : List Ob} {k15 : Nat → Int32 → List Ob → Option (Unit × List Ob)} {k52 : Nat → List Ob → Option (Unit × List Ob)} (hk15 : ∀ (a0 : Nat) (a1 : Int32) (M : List Ob), k15 a0 a1 M = some out → X G t_X0_solve [] 15 [some (.ref a0), some (.int a1), none] [] M 0 0 (oU out)) (hk52 : ∀ (a0 : Nat) (M : List Ob), k52 a0 M = some out → X G t_X0_solve [] 52 [some (.ref a0), none, none] [] M 0 0 (oU out)) (h : f_X0_solve_15b fu a0 a1 M k15 k52 = some out) : X G t_X0_solve [] 15 [some (.ref a0), some (.int a1), none] [] M 0 0 (oU out) := by
  unfold f_X0_solve_15b at h
  refine X.iload_n (x := a1) (pc' := 16) dX0_solve_15 rfl rfl rfl ?_
  refine X.bipush (v := 6) (pc' := 18) dX0_solve_16 rfl (by decide) ?_
  refine X.icmp_gt (tgt := 52) (pc' := 21) dX0_solve_18 (by decide) rfl (fun hc => ?_) (fun hc => ?_)
  · rw [if_pos hc] at h
    refine X.sub (L := [some (.ref a0), none, none]) ?_ (⟨rfl, trivial⟩)
    exact hk52 _ _ h
  · rw [if_neg hc] at h
    refine X.aload_n (x := a0) (pc' := 22) dX0_solve_21 rfl rfl rfl ?_
    obtain ⟨r1, e2, h⟩ := bindE h
    refine X.getf (pc' := 25) dX0_solve_22 rfl fq_X0_11 (gP_spec e2) ?_
    refine X.iload_n (x := a1) (pc' := 26) dX0_solve_25 rfl rfl rfl ?_
    obtain ⟨r4, e3, h⟩ := bindE h
    refine X.aald (pc' := 27) dX0_solve_26 rfl (by decide) e3 ?_
    refine X.iconst (v := (-1)) (pc' := 28) dX0_solve_27 rfl (by decide) ?_
    obtain ⟨r5, M6, e7, h⟩ := bd2E h
    refine X.callS (v := none) (As := [.ref r4, .int (-1)]) (st := []) (M' := M6) (pc' := 31) dX0_solve_28 rfl cl_X0_27 ms_J7_fill_53178 ⟨⟨Nat.le_of_ble_eq_true rfl, Nat.le_of_ble_eq_true rfl⟩, Nat.le_of_ble_eq_true rfl, Nat.le_of_ble_eq_true rfl⟩ rfl (Nat.le_of_ble_eq_true rfl) (ok_J7_fill_53178 (G := zs G) e7) ?_
    show X G t_X0_solve [] 31 [some (.ref a0), some (.int a1), none] [] M6 0 0 _
    refine X.aload_n (x := a0) (pc' := 32) dX0_solve_31 rfl rfl rfl ?_
    obtain ⟨r9, e10, h⟩ := bindE h
    refine X.getf (pc' := 35) dX0_solve_32 rfl fq_X0_11 (gP_spec e10) ?_
    refine X.iload_n (x := a1) (pc' := 36) dX0_solve_35 rfl rfl rfl ?_
    obtain ⟨r12, e11, h⟩ := bindE h
    refine X.aald (pc' := 37) dX0_solve_36 rfl (by decide) e11 ?_
    refine X.aload_n (x := a0) (pc' := 38) dX0_solve_37 rfl rfl rfl ?_
    obtain ⟨r13, e14, h⟩ := bindE h
    refine X.getf (pc' := 41) dX0_solve_38 rfl fq_X0_23 (gP_spec e14) ?_
    obtain ⟨v15, e16, h⟩ := bindE h
    refine X.getf (pc' := 44) dX0_solve_41 rfl fq_X0_33 (gI_spec e16) ?_
    refine X.iconst (v := 0) (pc' := 45) dX0_solve_44 rfl (by decide) ?_
    obtain ⟨M18, e17, h⟩ := bindE h
    refine X.iast (pc' := 46) dX0_solve_45 rfl e17 ?_
    refine X.iinc (v := (a1 + 1)) (L' := [some (.ref a0), some (.int (a1 + 1)), none]) (pc' := 49) dX0_solve_46 rfl rfl (congrArg (fun y => a1 + y) (show Int32.ofInt 1 = 1 by decide)) (Nat.le_of_ble_eq_true rfl) rfl ?_
    refine X.goto (pc' := 15) dX0_solve_49 (by decide) ?_
    exact hk15 _ _ _ h
def f_X0_solve_15 (fu : Nat) (k52 : Nat → List Ob → Option (Unit × List Ob)) : Nat → Nat → Int32 → List Ob → Option (Unit × List Ob)
  | 0, _, _, _ => none
  | n + 1, a0, a1, M => f_X0_solve_15b fu a0 a1 M (fun a0 a1 M => f_X0_solve_15 fu k52 n a0 a1 M) k52
theorem ok_X0_solve_15 {G : GT} {fu : Nat} {out : Unit × List Ob} {k52 : Nat → List Ob → Option (Unit × List Ob)} (hk52 : ∀ (a0 : Nat) (M : List Ob), k52 a0 M = some out → X G t_X0_solve [] 52 [some (.ref a0), none, none] [] M 0 0 (oU out)) : ∀ (n : Nat) (a0 : Nat) (a1 : Int32) (M : List Ob), f_X0_solve_15 fu k52 n a0 a1 M = some out → X G t_X0_solve [] 15 [some (.ref a0), some (.int a1), none] [] M 0 0 (oU out) := by
  intro n
  induction n with
  | zero =>
    intro a0 a1 M h
    unfold f_X0_solve_15 at h
    cases h
  | succ n ih =>
    intro a0 a1 M h
    unfold f_X0_solve_15 at h
    exact ok_X0_solve_15b ih hk52 h
def f_X0_solve_56b (fu : Nat) (a0 : Nat) (a1 : Int32) (a2 : Int32) (M : List Ob) (k56 : Nat → Int32 → Int32 → List Ob → Option (Unit × List Ob)) : Option (Unit × List Ob) :=
  if 64 < a2 then (some ((), M))
  else (if a1 = 0 then (some ((), M))
  else ((hasO M a0 0).bind fun _ =>
  bd2 (f_X0_allowOneMoreStep fu a0 M) fun v1 M2 =>
  k56 a0 v1 (a2 + 1) M2))
set_option maxHeartbeats 4000000 in
theorem ok_X0_solve_56b {G : GT} {fu : Nat} {out : Unit × List Ob} {a0 : Nat} {a1 : Int32} {a2 : Int32} {M : List Ob} {k56 : Nat → Int32 → Int32 → List Ob → Option (Unit × List Ob)} (hk56 : ∀ (a0 : Nat) (a1 : Int32) (a2 : Int32) (M : List Ob), k56 a0 a1 a2 M = some out → X G t_X0_solve [] 56 [some (.ref a0), some (.int a1), some (.int a2)] [] M 0 0 (oU out)) (h : f_X0_solve_56b fu a0 a1 a2 M k56 = some out) : X G t_X0_solve [] 56 [some (.ref a0), some (.int a1), some (.int a2)] [] M 0 0 (oU out) := by
  unfold f_X0_solve_56b at h
  refine X.iload_n (x := a2) (pc' := 57) dX0_solve_56 rfl rfl rfl ?_
  refine X.bipush (v := 64) (pc' := 59) dX0_solve_57 rfl (by decide) ?_
  refine X.icmp_gt (tgt := 77) (pc' := 62) dX0_solve_59 (by decide) rfl (fun hc => ?_) (fun hc => ?_)
  · rw [if_pos hc] at h
    cases h
    exact X.vret dX0_solve_77 rfl (Nat.le_of_ble_eq_true rfl) (Nat.le_of_ble_eq_true rfl) rfl
  · rw [if_neg hc] at h
    refine X.iload_n (x := a1) (pc' := 63) dX0_solve_62 rfl rfl rfl ?_
    refine X.if_eq (tgt := 77) (pc' := 66) dX0_solve_63 (by decide) rfl (fun hc => ?_) (fun hc => ?_)
    · rw [if_pos hc] at h
      cases h
      exact X.vret dX0_solve_77 rfl (Nat.le_of_ble_eq_true rfl) (Nat.le_of_ble_eq_true rfl) rfl
    · rw [if_neg hc] at h
      refine X.aload_n (x := a0) (pc' := 67) dX0_solve_66 rfl rfl rfl ?_
      obtain ⟨⟨⟩, e4, h⟩ := bindE h
      obtain ⟨v1, M2, e3, h⟩ := bd2E h
      refine X.callV (b := a0) (v := some (.int v1)) (As := []) (st := []) (M' := M2) (pc' := 70) dX0_solve_67 rfl cl_X0_39 mi_X0_allowOneMoreStep me_X0_allowOneMoreStep mr_X0_allowOneMoreStep e4 ⟨⟨Nat.le_of_ble_eq_true rfl, Nat.le_of_ble_eq_true rfl⟩, Nat.le_of_ble_eq_true rfl, Nat.le_of_ble_eq_true rfl⟩ rfl (Nat.le_of_ble_eq_true rfl) (ok_X0_allowOneMoreStep (G := zs G) e3) ?_
      show X G t_X0_solve [] 70 [some (.ref a0), some (.int a1), some (.int a2)] [.int v1] M2 0 0 _
      refine X.istore_n (L' := [some (.ref a0), some (.int v1), some (.int a2)]) (pc' := 71) dX0_solve_70 rfl rfl (Nat.le_of_ble_eq_true rfl) rfl ?_
      refine X.iinc (v := (a2 + 1)) (L' := [some (.ref a0), some (.int v1), some (.int (a2 + 1))]) (pc' := 74) dX0_solve_71 rfl rfl (congrArg (fun y => a2 + y) (show Int32.ofInt 1 = 1 by decide)) (Nat.le_of_ble_eq_true rfl) rfl ?_
      refine X.goto (pc' := 56) dX0_solve_74 (by decide) ?_
      exact hk56 _ _ _ _ h
def f_X0_solve_56 (fu : Nat) : Nat → Nat → Int32 → Int32 → List Ob → Option (Unit × List Ob)
  | 0, _, _, _, _ => none
  | n + 1, a0, a1, a2, M => f_X0_solve_56b fu a0 a1 a2 M (fun a0 a1 a2 M => f_X0_solve_56 fu n a0 a1 a2 M)
theorem ok_X0_solve_56 {G : GT} {fu : Nat} {out : Unit × List Ob} : ∀ (n : Nat) (a0 : Nat) (a1 : Int32) (a2 : Int32) (M : List Ob), f_X0_solve_56 fu n a0 a1 a2 M = some out → X G t_X0_solve [] 56 [some (.ref a0), some (.int a1), some (.int a2)] [] M 0 0 (oU out) := by
  intro n
  induction n with
  | zero =>
    intro a0 a1 a2 M h
    unfold f_X0_solve_56 at h
    cases h
  | succ n ih =>
    intro a0 a1 a2 M h
    unfold f_X0_solve_56 at h
    exact ok_X0_solve_56b ih h
def f_X0_solve_52 (fu : Nat) (a0 : Nat) (M : List Ob) : Option (Unit × List Ob) :=
  f_X0_solve_56 fu  fu a0 1 1 M
set_option maxHeartbeats 4000000 in
theorem ok_X0_solve_52 {G : GT} {fu : Nat} {out : Unit × List Ob} {a0 : Nat} {M : List Ob} (h : f_X0_solve_52 fu a0 M = some out) : X G t_X0_solve [] 52 [some (.ref a0), none, none] [] M 0 0 (oU out) := by
  unfold f_X0_solve_52 at h
  refine X.iconst (v := 1) (pc' := 53) dX0_solve_52 rfl (by decide) ?_
  refine X.istore_n (L' := [some (.ref a0), some (.int 1), none]) (pc' := 54) dX0_solve_53 rfl rfl (Nat.le_of_ble_eq_true rfl) rfl ?_
  refine X.iconst (v := 1) (pc' := 55) dX0_solve_54 rfl (by decide) ?_
  refine X.istore_n (L' := [some (.ref a0), some (.int 1), some (.int 1)]) (pc' := 56) dX0_solve_55 rfl rfl (Nat.le_of_ble_eq_true rfl) rfl ?_
  refine ok_X0_solve_56  fu _ _ _ _ h
def f_X0_solve (fu : Nat) (a0 : Nat) (M : List Ob) : Option (Unit × List Ob) :=
  (gI M a0 0 3).bind fun v1 =>
  if v1 = 0 then ((pF M a0 0 3 (.int 1)).bind fun M3 =>
  f_X0_solve_15 fu (fun x5 M6 => f_X0_solve_52 fu x5 M6) fu a0 0 M3)
  else (some ((), M))
set_option maxHeartbeats 4000000 in
theorem ok_X0_solve {G : GT} {fu : Nat} {a0 : Nat} {M : List Ob} {out : Unit × List Ob} (h : f_X0_solve fu a0 M = some out) : Sp G t_X0_solve [.ref a0] M (oU out) := by
  refine Sp.of rfl (by decide +kernel) (cat_all rfl) (Nat.le_of_ble_eq_true rfl) ?_
  show X G t_X0_solve [] 0 [some (.ref a0), none, none] [] M 0 0 (oU out)
  unfold f_X0_solve at h
  refine X.aload_n (x := a0) (pc' := 1) dX0_solve_0 rfl rfl rfl ?_
  obtain ⟨v1, e2, h⟩ := bindE h
  refine X.getf (pc' := 4) dX0_solve_1 rfl fq_X0_19 (gI_spec e2) ?_
  refine X.if_eq (tgt := 8) (pc' := 7) dX0_solve_4 (by decide) rfl (fun hc => ?_) (fun hc => ?_)
  · rw [if_pos hc] at h
    refine X.aload_n (x := a0) (pc' := 9) dX0_solve_8 rfl rfl rfl ?_
    refine X.iconst (v := 1) (pc' := 10) dX0_solve_9 rfl (by decide) ?_
    obtain ⟨M3, e4, h⟩ := bindE h
    refine X.putf (pc' := 13) dX0_solve_10 rfl fq_X0_19 rfl rfl e4 ?_
    refine X.iconst (v := 0) (pc' := 14) dX0_solve_13 rfl (by decide) ?_
    refine X.istore_n (L' := [some (.ref a0), some (.int 0), none]) (pc' := 15) dX0_solve_14 rfl rfl (Nat.le_of_ble_eq_true rfl) rfl ?_
    refine ok_X0_solve_15 ?_ fu _ _ _ h
    · intro x5 M6 h
      exact ok_X0_solve_52 h
  · rw [if_neg hc] at h
    cases h
    exact X.vret dX0_solve_7 rfl (Nat.le_of_ble_eq_true rfl) (Nat.le_of_ble_eq_true rfl) rfl
def f_X3_init (fu : Nat) (a0 : Nat) (a1 : Nat) (M : List Ob) : Option (Unit × List Ob) :=
  bd2 (newO M (13, List.replicate 8 (.int 0))) fun r1 M2 =>
  (pF M2 a0 3 2 (.ref r1)).bind fun M4 =>
  (pF M4 a0 3 3 (.int (-1))).bind fun M6 =>
  (pF M6 a0 3 4 (.int 0)).bind fun M8 =>
  (pF M8 a0 3 0 (.ref a1)).bind fun M10 =>
  (gP M10 a1 8 0).bind fun r12 =>
  (pF M10 a0 3 1 (.ref r12)).bind fun M14 =>
  some ((), M14)
set_option maxHeartbeats 4000000 in
theorem ok_X3_init {G : GT} (hR : Row G) {fu : Nat} {a0 : Nat} {a1 : Nat} {M : List Ob} {out : Unit × List Ob} (h : f_X3_init fu a0 a1 M = some out) : Sp G t_X3_init [.ref a0, .ref a1] M (oU out) := by
  refine Sp.of rfl (by decide +kernel) (cat_all rfl) (Nat.le_of_ble_eq_true rfl) ?_
  show X G t_X3_init [] 0 [some (.ref a0), some (.ref a1)] [] M 0 0 (oU out)
  unfold f_X3_init at h
  refine X.aload_n (x := a0) (pc' := 1) dX3_init_0 rfl rfl rfl ?_
  refine X.objI (pc' := 4) dX3_init_1 rfl (TBg_of 318 (by decide +kernel) rfl) (Nat.le_of_ble_eq_true rfl) (Nat.le_of_ble_eq_true rfl) ?_
  refine X.aload_n (x := a0) (pc' := 5) dX3_init_4 rfl rfl rfl ?_
  refine X.bipush (v := 8) (pc' := 7) dX3_init_5 rfl (by decide) ?_
  obtain ⟨r1, M2, e3, h⟩ := bd2E h
  refine X.newi (kd := 13) (N := 8) (dv := .int 0) (pc' := 9) dX3_init_7 rfl (Or.inr (Or.inl ⟨rfl, rfl, rfl⟩)) (TBg_of 159 (by decide +kernel) rfl) (by decide) (by decide) (Nat.le_of_ble_eq_true rfl) hR (Nat.le_of_ble_eq_true rfl) (Nat.le_of_ble_eq_true rfl) e3 ?_
  show X G t_X3_init [] 9 [some (.ref a0), some (.ref a1)] [.ref r1, .ref a0] M2 1 8 _
  obtain ⟨M4, e5, h⟩ := bindE h
  refine X.putF (pc' := 12) dX3_init_9 rfl fq_X3_9 rfl (fun r hr => by cases hr; rfl) rfl rfl e5 ?_
  refine X.aload_n (x := a0) (pc' := 13) dX3_init_12 rfl rfl rfl ?_
  refine X.iconst (v := (-1)) (pc' := 14) dX3_init_13 rfl (by decide) ?_
  obtain ⟨M6, e7, h⟩ := bindE h
  refine X.putf (pc' := 17) dX3_init_14 rfl fq_X3_15 rfl rfl e7 ?_
  refine X.aload_n (x := a0) (pc' := 18) dX3_init_17 rfl rfl rfl ?_
  refine X.iconst (v := 0) (pc' := 19) dX3_init_18 rfl (by decide) ?_
  obtain ⟨M8, e9, h⟩ := bindE h
  refine X.putf (pc' := 22) dX3_init_19 rfl fq_X3_19 rfl rfl e9 ?_
  refine X.aload_n (x := a0) (pc' := 23) dX3_init_22 rfl rfl rfl ?_
  refine X.aload_n (x := a1) (pc' := 24) dX3_init_23 rfl rfl rfl ?_
  obtain ⟨M10, e11, h⟩ := bindE h
  refine X.putF (pc' := 27) dX3_init_24 rfl fq_X3_22 rfl (fun r hr => by cases hr; rfl) rfl rfl e11 ?_
  refine X.aload_n (x := a0) (pc' := 28) dX3_init_27 rfl rfl rfl ?_
  refine X.aload_n (x := a1) (pc' := 29) dX3_init_28 rfl rfl rfl ?_
  obtain ⟨r12, e13, h⟩ := bindE h
  refine X.getf (pc' := 32) dX3_init_29 rfl fq_X3_26 (gP_spec e13) ?_
  obtain ⟨M14, e15, h⟩ := bindE h
  refine X.putF (pc' := 35) dX3_init_32 rfl fq_X3_32 rfl (fun r hr => by cases hr; rfl) rfl rfl e15 ?_
  cases h
  exact X.vret dX3_init_35 rfl (Nat.le_of_ble_eq_true rfl) (Nat.le_of_ble_eq_true rfl) rfl
def f_X3_shortestCost_116 (fu : Nat) (a0 : Nat) (a1 : Int32) (a2 : Int32) (a3 : Int32) (a4 : Int32) (M : List Ob) (k41 : Nat → Int32 → Int32 → Int32 → Int32 → List Ob → Option (Int32 × List Ob)) (k122 : Nat → Int32 → Int32 → Int32 → List Ob → Option (Int32 × List Ob)) : Option (Int32 × List Ob) :=
  k41 a0 a1 a2 a3 (a4 + 1) M
set_option maxHeartbeats 4000000 in
theorem ok_X3_shortestCost_116 {G : GT} {fu : Nat} {out : Int32 × List Ob} {a0 : Nat} {a1 : Int32} {a2 : Int32} {a3 : Int32} {a4 : Int32} {M : List Ob} {k41 : Nat → Int32 → Int32 → Int32 → Int32 → List Ob → Option (Int32 × List Ob)} {k122 : Nat → Int32 → Int32 → Int32 → List Ob → Option (Int32 × List Ob)} (hk41 : ∀ (a0 : Nat) (a1 : Int32) (a2 : Int32) (a3 : Int32) (a4 : Int32) (M : List Ob), k41 a0 a1 a2 a3 a4 M = some out → X G t_X3_shortestCost [] 41 [some (.ref a0), some (.int a1), some (.int a2), some (.int a3), some (.int a4), none, none] [] M 0 0 (oI out)) (hk122 : ∀ (a0 : Nat) (a1 : Int32) (a2 : Int32) (a3 : Int32) (M : List Ob), k122 a0 a1 a2 a3 M = some out → X G t_X3_shortestCost [] 122 [some (.ref a0), some (.int a1), some (.int a2), some (.int a3), none, none, none] [] M 0 0 (oI out)) (h : f_X3_shortestCost_116 fu a0 a1 a2 a3 a4 M k41 k122 = some out) : X G t_X3_shortestCost [] 116 [some (.ref a0), some (.int a1), some (.int a2), some (.int a3), some (.int a4), none, none] [] M 0 0 (oI out) := by
  unfold f_X3_shortestCost_116 at h
  refine X.iinc (v := (a4 + 1)) (L' := [some (.ref a0), some (.int a1), some (.int a2), some (.int a3), some (.int (a4 + 1)), none, none]) (pc' := 119) dX3_shortestCost_116 rfl rfl (congrArg (fun y => a4 + y) (show Int32.ofInt 1 = 1 by decide)) (Nat.le_of_ble_eq_true rfl) rfl ?_
  refine X.goto (pc' := 41) dX3_shortestCost_119 (by decide) ?_
  exact hk41 _ _ _ _ _ _ h
def f_X3_shortestCost_41b (fu : Nat) (a0 : Nat) (a1 : Int32) (a2 : Int32) (a3 : Int32) (a4 : Int32) (M : List Ob) (k41 : Nat → Int32 → Int32 → Int32 → Int32 → List Ob → Option (Int32 × List Ob)) (k122 : Nat → Int32 → Int32 → Int32 → List Ob → Option (Int32 × List Ob)) : Option (Int32 × List Ob) :=
  (gP M a0 3 1).bind fun r1 =>
  (gI M r1 4 4).bind fun v3 =>
  if v3 ≤ a4 then (k122 a0 a1 a2 a3 M)
  else ((gP M a0 3 1).bind fun r5 =>
  (gP M r5 4 6).bind fun r7 =>
  (aI M r7 13 a4).bind fun v10 =>
  (gP M a0 3 2).bind fun r11 =>
  (gP M a0 3 1).bind fun r13 =>
  (gP M r13 4 5).bind fun r15 =>
  (aI M r15 13 a4).bind fun v18 =>
  (aI M r11 13 v18).bind fun v20 =>
  (gP M a0 3 1).bind fun r21 =>
  (hasO M r21 4).bind fun _ =>
  bd2 (f_X4_arcCost fu r21 a4 a1 M) fun v23 M24 =>
  (gP M24 a0 3 2).bind fun r27 =>
  (aI M24 r27 13 v10).bind fun v30 =>
  if v30 ≤ (v20 + v23) then (f_X3_shortestCost_116 fu a0 a1 a2 a3 a4 M24 k41 k122)
  else ((gP M24 a0 3 2).bind fun r31 =>
  (aSet M24 r31 13 v10 (.int (v20 + v23))).bind fun M34 =>
  f_X3_shortestCost_116 fu a0 a1 1 a3 a4 M34 k41 k122))
set_option maxHeartbeats 4000000 in
theorem ok_X3_shortestCost_41b {G : GT} {fu : Nat} {out : Int32 × List Ob} {a0 : Nat} {a1 : Int32} {a2 : Int32} {a3 : Int32} {a4 : Int32} {M : List Ob} {k41 : Nat → Int32 → Int32 → Int32 → Int32 → List Ob → Option (Int32 × List Ob)} {k122 : Nat → Int32 → Int32 → Int32 → List Ob → Option (Int32 × List Ob)} (hk41 : ∀ (a0 : Nat) (a1 : Int32) (a2 : Int32) (a3 : Int32) (a4 : Int32) (M : List Ob), k41 a0 a1 a2 a3 a4 M = some out → X G t_X3_shortestCost [] 41 [some (.ref a0), some (.int a1), some (.int a2), some (.int a3), some (.int a4), none, none] [] M 0 0 (oI out)) (hk122 : ∀ (a0 : Nat) (a1 : Int32) (a2 : Int32) (a3 : Int32) (M : List Ob), k122 a0 a1 a2 a3 M = some out → X G t_X3_shortestCost [] 122 [some (.ref a0), some (.int a1), some (.int a2), some (.int a3), none, none, none] [] M 0 0 (oI out)) (h : f_X3_shortestCost_41b fu a0 a1 a2 a3 a4 M k41 k122 = some out) : X G t_X3_shortestCost [] 41 [some (.ref a0), some (.int a1), some (.int a2), some (.int a3), some (.int a4), none, none] [] M 0 0 (oI out) := by
  unfold f_X3_shortestCost_41b at h
  refine X.iload (x := a4) (pc' := 43) dX3_shortestCost_41 rfl rfl ?_
  refine X.aload_n (x := a0) (pc' := 44) dX3_shortestCost_43 rfl rfl rfl ?_
  obtain ⟨r1, e2, h⟩ := bindE h
  refine X.getf (pc' := 47) dX3_shortestCost_44 rfl fq_X3_32 (gP_spec e2) ?_
  obtain ⟨v3, e4, h⟩ := bindE h
  refine X.getf (pc' := 50) dX3_shortestCost_47 rfl fq_X3_45 (gI_spec e4) ?_
  refine X.icmp_ge (tgt := 122) (pc' := 53) dX3_shortestCost_50 (by decide) rfl (fun hc => ?_) (fun hc => ?_)
  · rw [if_pos hc] at h
    refine X.sub (L := [some (.ref a0), some (.int a1), some (.int a2), some (.int a3), none, none, none]) ?_ (⟨rfl, ⟨rfl, ⟨rfl, ⟨rfl, trivial⟩⟩⟩⟩)
    exact hk122 _ _ _ _ _ h
  · rw [if_neg hc] at h
    refine X.aload_n (x := a0) (pc' := 54) dX3_shortestCost_53 rfl rfl rfl ?_
    obtain ⟨r5, e6, h⟩ := bindE h
    refine X.getf (pc' := 57) dX3_shortestCost_54 rfl fq_X3_32 (gP_spec e6) ?_
    obtain ⟨r7, e8, h⟩ := bindE h
    refine X.getf (pc' := 60) dX3_shortestCost_57 rfl fq_X3_48 (gP_spec e8) ?_
    refine X.iload (x := a4) (pc' := 62) dX3_shortestCost_60 rfl rfl ?_
    obtain ⟨v10, e9, h⟩ := bindE h
    refine X.iald (pc' := 63) dX3_shortestCost_62 rfl e9 ?_
    refine X.istore (L' := [some (.ref a0), some (.int a1), some (.int a2), some (.int a3), some (.int a4), some (.int v10), none]) (pc' := 65) dX3_shortestCost_63 rfl (Nat.le_of_ble_eq_true rfl) rfl ?_
    refine X.aload_n (x := a0) (pc' := 66) dX3_shortestCost_65 rfl rfl rfl ?_
    obtain ⟨r11, e12, h⟩ := bindE h
    refine X.getf (pc' := 69) dX3_shortestCost_66 rfl fq_X3_9 (gP_spec e12) ?_
    refine X.aload_n (x := a0) (pc' := 70) dX3_shortestCost_69 rfl rfl rfl ?_
    obtain ⟨r13, e14, h⟩ := bindE h
    refine X.getf (pc' := 73) dX3_shortestCost_70 rfl fq_X3_32 (gP_spec e14) ?_
    obtain ⟨r15, e16, h⟩ := bindE h
    refine X.getf (pc' := 76) dX3_shortestCost_73 rfl fq_X3_51 (gP_spec e16) ?_
    refine X.iload (x := a4) (pc' := 78) dX3_shortestCost_76 rfl rfl ?_
    obtain ⟨v18, e17, h⟩ := bindE h
    refine X.iald (pc' := 79) dX3_shortestCost_78 rfl e17 ?_
    obtain ⟨v20, e19, h⟩ := bindE h
    refine X.iald (pc' := 80) dX3_shortestCost_79 rfl e19 ?_
    refine X.aload_n (x := a0) (pc' := 81) dX3_shortestCost_80 rfl rfl rfl ?_
    obtain ⟨r21, e22, h⟩ := bindE h
    refine X.getf (pc' := 84) dX3_shortestCost_81 rfl fq_X3_32 (gP_spec e22) ?_
    refine X.iload (x := a4) (pc' := 86) dX3_shortestCost_84 rfl rfl ?_
    refine X.iload_n (x := a1) (pc' := 87) dX3_shortestCost_86 rfl rfl rfl ?_
    obtain ⟨⟨⟩, e26, h⟩ := bindE h
    obtain ⟨v23, M24, e25, h⟩ := bd2E h
    refine X.callV (b := r21) (v := some (.int v23)) (As := [.int a4, .int a1]) (st := [.int v20]) (M' := M24) (pc' := 90) dX3_shortestCost_87 rfl cl_X3_54 mi_X4_arcCost me_X4_arcCost mr_X4_arcCost e26 ⟨⟨Nat.le_of_ble_eq_true rfl, Nat.le_of_ble_eq_true rfl⟩, Nat.le_of_ble_eq_true rfl, Nat.le_of_ble_eq_true rfl⟩ rfl (Nat.le_of_ble_eq_true rfl) (ok_X4_arcCost (G := zs G) e25) ?_
    show X G t_X3_shortestCost [] 90 [some (.ref a0), some (.int a1), some (.int a2), some (.int a3), some (.int a4), some (.int v10), none] [.int v23, .int v20] M24 0 0 _
    refine X.iadd (pc' := 91) dX3_shortestCost_90 rfl ?_
    refine X.istore (L' := [some (.ref a0), some (.int a1), some (.int a2), some (.int a3), some (.int a4), some (.int v10), some (.int (v20 + v23))]) (pc' := 93) dX3_shortestCost_91 rfl (Nat.le_of_ble_eq_true rfl) rfl ?_
    refine X.iload (x := (v20 + v23)) (pc' := 95) dX3_shortestCost_93 rfl rfl ?_
    refine X.aload_n (x := a0) (pc' := 96) dX3_shortestCost_95 rfl rfl rfl ?_
    obtain ⟨r27, e28, h⟩ := bindE h
    refine X.getf (pc' := 99) dX3_shortestCost_96 rfl fq_X3_9 (gP_spec e28) ?_
    refine X.iload (x := v10) (pc' := 101) dX3_shortestCost_99 rfl rfl ?_
    obtain ⟨v30, e29, h⟩ := bindE h
    refine X.iald (pc' := 102) dX3_shortestCost_101 rfl e29 ?_
    refine X.icmp_ge (tgt := 116) (pc' := 105) dX3_shortestCost_102 (by decide) rfl (fun hc => ?_) (fun hc => ?_)
    · rw [if_pos hc] at h
      refine X.sub (L := [some (.ref a0), some (.int a1), some (.int a2), some (.int a3), some (.int a4), none, none]) ?_ (⟨rfl, ⟨rfl, ⟨rfl, ⟨rfl, ⟨rfl, trivial⟩⟩⟩⟩⟩)
      exact ok_X3_shortestCost_116 hk41 hk122 h
    · rw [if_neg hc] at h
      refine X.aload_n (x := a0) (pc' := 106) dX3_shortestCost_105 rfl rfl rfl ?_
      obtain ⟨r31, e32, h⟩ := bindE h
      refine X.getf (pc' := 109) dX3_shortestCost_106 rfl fq_X3_9 (gP_spec e32) ?_
      refine X.iload (x := v10) (pc' := 111) dX3_shortestCost_109 rfl rfl ?_
      refine X.iload (x := (v20 + v23)) (pc' := 113) dX3_shortestCost_111 rfl rfl ?_
      obtain ⟨M34, e33, h⟩ := bindE h
      refine X.iast (pc' := 114) dX3_shortestCost_113 rfl e33 ?_
      refine X.iconst (v := 1) (pc' := 115) dX3_shortestCost_114 rfl (by decide) ?_
      refine X.istore_n (L' := [some (.ref a0), some (.int a1), some (.int 1), some (.int a3), some (.int a4), some (.int v10), some (.int (v20 + v23))]) (pc' := 116) dX3_shortestCost_115 rfl rfl (Nat.le_of_ble_eq_true rfl) rfl ?_
      refine X.sub (L := [some (.ref a0), some (.int a1), some (.int 1), some (.int a3), some (.int a4), none, none]) ?_ (⟨rfl, ⟨rfl, ⟨rfl, ⟨rfl, ⟨rfl, trivial⟩⟩⟩⟩⟩)
      exact ok_X3_shortestCost_116 hk41 hk122 h
def f_X3_shortestCost_41 (fu : Nat) (k122 : Nat → Int32 → Int32 → Int32 → List Ob → Option (Int32 × List Ob)) : Nat → Nat → Int32 → Int32 → Int32 → Int32 → List Ob → Option (Int32 × List Ob)
  | 0, _, _, _, _, _, _ => none
  | n + 1, a0, a1, a2, a3, a4, M => f_X3_shortestCost_41b fu a0 a1 a2 a3 a4 M (fun a0 a1 a2 a3 a4 M => f_X3_shortestCost_41 fu k122 n a0 a1 a2 a3 a4 M) k122
theorem ok_X3_shortestCost_41 {G : GT} {fu : Nat} {out : Int32 × List Ob} {k122 : Nat → Int32 → Int32 → Int32 → List Ob → Option (Int32 × List Ob)} (hk122 : ∀ (a0 : Nat) (a1 : Int32) (a2 : Int32) (a3 : Int32) (M : List Ob), k122 a0 a1 a2 a3 M = some out → X G t_X3_shortestCost [] 122 [some (.ref a0), some (.int a1), some (.int a2), some (.int a3), none, none, none] [] M 0 0 (oI out)) : ∀ (n : Nat) (a0 : Nat) (a1 : Int32) (a2 : Int32) (a3 : Int32) (a4 : Int32) (M : List Ob), f_X3_shortestCost_41 fu k122 n a0 a1 a2 a3 a4 M = some out → X G t_X3_shortestCost [] 41 [some (.ref a0), some (.int a1), some (.int a2), some (.int a3), some (.int a4), none, none] [] M 0 0 (oI out) := by
  intro n
  induction n with
  | zero =>
    intro a0 a1 a2 a3 a4 M h
    unfold f_X3_shortestCost_41 at h
    cases h
  | succ n ih =>
    intro a0 a1 a2 a3 a4 M h
    unfold f_X3_shortestCost_41 at h
    exact ok_X3_shortestCost_41b ih hk122 h
def f_X3_shortestCost_122 (fu : Nat) (a0 : Nat) (a1 : Int32) (a2 : Int32) (a3 : Int32) (M : List Ob) (k26 : Nat → Int32 → Int32 → Int32 → List Ob → Option (Int32 × List Ob)) (k128 : Nat → List Ob → Option (Int32 × List Ob)) : Option (Int32 × List Ob) :=
  k26 a0 a1 a2 (a3 + 1) M
set_option maxHeartbeats 4000000 in
theorem ok_X3_shortestCost_122 {G : GT} {fu : Nat} {out : Int32 × List Ob} {a0 : Nat} {a1 : Int32} {a2 : Int32} {a3 : Int32} {M : List Ob} {k26 : Nat → Int32 → Int32 → Int32 → List Ob → Option (Int32 × List Ob)} {k128 : Nat → List Ob → Option (Int32 × List Ob)} (hk26 : ∀ (a0 : Nat) (a1 : Int32) (a2 : Int32) (a3 : Int32) (M : List Ob), k26 a0 a1 a2 a3 M = some out → X G t_X3_shortestCost [] 26 [some (.ref a0), some (.int a1), some (.int a2), some (.int a3), none, none, none] [] M 0 0 (oI out)) (hk128 : ∀ (a0 : Nat) (M : List Ob), k128 a0 M = some out → X G t_X3_shortestCost [] 128 [some (.ref a0), none, none, none, none, none, none] [] M 0 0 (oI out)) (h : f_X3_shortestCost_122 fu a0 a1 a2 a3 M k26 k128 = some out) : X G t_X3_shortestCost [] 122 [some (.ref a0), some (.int a1), some (.int a2), some (.int a3), none, none, none] [] M 0 0 (oI out) := by
  unfold f_X3_shortestCost_122 at h
  refine X.iinc (v := (a3 + 1)) (L' := [some (.ref a0), some (.int a1), some (.int a2), some (.int (a3 + 1)), none, none, none]) (pc' := 125) dX3_shortestCost_122 rfl rfl (congrArg (fun y => a3 + y) (show Int32.ofInt 1 = 1 by decide)) (Nat.le_of_ble_eq_true rfl) rfl ?_
  refine X.goto (pc' := 26) dX3_shortestCost_125 (by decide) ?_
  exact hk26 _ _ _ _ _ h
def f_X3_shortestCost_26b (fu : Nat) (a0 : Nat) (a1 : Int32) (a2 : Int32) (a3 : Int32) (M : List Ob) (k26 : Nat → Int32 → Int32 → Int32 → List Ob → Option (Int32 × List Ob)) (k128 : Nat → List Ob → Option (Int32 × List Ob)) : Option (Int32 × List Ob) :=
  if 8 ≤ a3 then (k128 a0 M)
  else (if a2 = 0 then (k128 a0 M)
  else (f_X3_shortestCost_41 fu (fun x1 x2 x3 x4 M5 => f_X3_shortestCost_122 fu x1 x2 x3 x4 M5 k26 k128) fu a0 a1 0 a3 0 M))
set_option maxHeartbeats 4000000 in
theorem ok_X3_shortestCost_26b {G : GT} {fu : Nat} {out : Int32 × List Ob} {a0 : Nat} {a1 : Int32} {a2 : Int32} {a3 : Int32} {M : List Ob} {k26 : Nat → Int32 → Int32 → Int32 → List Ob → Option (Int32 × List Ob)} {k128 : Nat → List Ob → Option (Int32 × List Ob)} (hk26 : ∀ (a0 : Nat) (a1 : Int32) (a2 : Int32) (a3 : Int32) (M : List Ob), k26 a0 a1 a2 a3 M = some out → X G t_X3_shortestCost [] 26 [some (.ref a0), some (.int a1), some (.int a2), some (.int a3), none, none, none] [] M 0 0 (oI out)) (hk128 : ∀ (a0 : Nat) (M : List Ob), k128 a0 M = some out → X G t_X3_shortestCost [] 128 [some (.ref a0), none, none, none, none, none, none] [] M 0 0 (oI out)) (h : f_X3_shortestCost_26b fu a0 a1 a2 a3 M k26 k128 = some out) : X G t_X3_shortestCost [] 26 [some (.ref a0), some (.int a1), some (.int a2), some (.int a3), none, none, none] [] M 0 0 (oI out) := by
  unfold f_X3_shortestCost_26b at h
  refine X.iload_n (x := a3) (pc' := 27) dX3_shortestCost_26 rfl rfl rfl ?_
  refine X.bipush (v := 8) (pc' := 29) dX3_shortestCost_27 rfl (by decide) ?_
  refine X.icmp_ge (tgt := 128) (pc' := 32) dX3_shortestCost_29 (by decide) rfl (fun hc => ?_) (fun hc => ?_)
  · rw [if_pos hc] at h
    refine X.sub (L := [some (.ref a0), none, none, none, none, none, none]) ?_ (⟨rfl, trivial⟩)
    exact hk128 _ _ h
  · rw [if_neg hc] at h
    refine X.iload_n (x := a2) (pc' := 33) dX3_shortestCost_32 rfl rfl rfl ?_
    refine X.if_eq (tgt := 128) (pc' := 36) dX3_shortestCost_33 (by decide) rfl (fun hc => ?_) (fun hc => ?_)
    · rw [if_pos hc] at h
      refine X.sub (L := [some (.ref a0), none, none, none, none, none, none]) ?_ (⟨rfl, trivial⟩)
      exact hk128 _ _ h
    · rw [if_neg hc] at h
      refine X.iconst (v := 0) (pc' := 37) dX3_shortestCost_36 rfl (by decide) ?_
      refine X.istore_n (L' := [some (.ref a0), some (.int a1), some (.int 0), some (.int a3), none, none, none]) (pc' := 38) dX3_shortestCost_37 rfl rfl (Nat.le_of_ble_eq_true rfl) rfl ?_
      refine X.iconst (v := 0) (pc' := 39) dX3_shortestCost_38 rfl (by decide) ?_
      refine X.istore (L' := [some (.ref a0), some (.int a1), some (.int 0), some (.int a3), some (.int 0), none, none]) (pc' := 41) dX3_shortestCost_39 rfl (Nat.le_of_ble_eq_true rfl) rfl ?_
      refine ok_X3_shortestCost_41 ?_ fu _ _ _ _ _ _ h
      · intro x1 x2 x3 x4 M5 h
        exact ok_X3_shortestCost_122 hk26 hk128 h
def f_X3_shortestCost_26 (fu : Nat) (k128 : Nat → List Ob → Option (Int32 × List Ob)) : Nat → Nat → Int32 → Int32 → Int32 → List Ob → Option (Int32 × List Ob)
  | 0, _, _, _, _, _ => none
  | n + 1, a0, a1, a2, a3, M => f_X3_shortestCost_26b fu a0 a1 a2 a3 M (fun a0 a1 a2 a3 M => f_X3_shortestCost_26 fu k128 n a0 a1 a2 a3 M) k128
theorem ok_X3_shortestCost_26 {G : GT} {fu : Nat} {out : Int32 × List Ob} {k128 : Nat → List Ob → Option (Int32 × List Ob)} (hk128 : ∀ (a0 : Nat) (M : List Ob), k128 a0 M = some out → X G t_X3_shortestCost [] 128 [some (.ref a0), none, none, none, none, none, none] [] M 0 0 (oI out)) : ∀ (n : Nat) (a0 : Nat) (a1 : Int32) (a2 : Int32) (a3 : Int32) (M : List Ob), f_X3_shortestCost_26 fu k128 n a0 a1 a2 a3 M = some out → X G t_X3_shortestCost [] 26 [some (.ref a0), some (.int a1), some (.int a2), some (.int a3), none, none, none] [] M 0 0 (oI out) := by
  intro n
  induction n with
  | zero =>
    intro a0 a1 a2 a3 M h
    unfold f_X3_shortestCost_26 at h
    cases h
  | succ n ih =>
    intro a0 a1 a2 a3 M h
    unfold f_X3_shortestCost_26 at h
    exact ok_X3_shortestCost_26b ih hk128 h
def f_X3_shortestCost_128 (fu : Nat) (a0 : Nat) (M : List Ob) : Option (Int32 × List Ob) :=
  (gP M a0 3 2).bind fun r1 =>
  (gP M a0 3 1).bind fun r3 =>
  (gI M r3 4 2).bind fun v5 =>
  (aI M r1 13 v5).bind fun v8 =>
  if 1000000 ≤ v8 then (some ((-1), M))
  else (some (v8, M))
set_option maxHeartbeats 4000000 in
theorem ok_X3_shortestCost_128 {G : GT} {fu : Nat} {out : Int32 × List Ob} {a0 : Nat} {M : List Ob} (h : f_X3_shortestCost_128 fu a0 M = some out) : X G t_X3_shortestCost [] 128 [some (.ref a0), none, none, none, none, none, none] [] M 0 0 (oI out) := by
  unfold f_X3_shortestCost_128 at h
  refine X.aload_n (x := a0) (pc' := 129) dX3_shortestCost_128 rfl rfl rfl ?_
  obtain ⟨r1, e2, h⟩ := bindE h
  refine X.getf (pc' := 132) dX3_shortestCost_129 rfl fq_X3_9 (gP_spec e2) ?_
  refine X.aload_n (x := a0) (pc' := 133) dX3_shortestCost_132 rfl rfl rfl ?_
  obtain ⟨r3, e4, h⟩ := bindE h
  refine X.getf (pc' := 136) dX3_shortestCost_133 rfl fq_X3_32 (gP_spec e4) ?_
  obtain ⟨v5, e6, h⟩ := bindE h
  refine X.getf (pc' := 139) dX3_shortestCost_136 rfl fq_X3_58 (gI_spec e6) ?_
  obtain ⟨v8, e7, h⟩ := bindE h
  refine X.iald (pc' := 140) dX3_shortestCost_139 rfl e7 ?_
  refine X.istore_n (L' := [some (.ref a0), none, none, some (.int v8), none, none, none]) (pc' := 141) dX3_shortestCost_140 rfl rfl (Nat.le_of_ble_eq_true rfl) rfl ?_
  refine X.iload_n (x := v8) (pc' := 142) dX3_shortestCost_141 rfl rfl rfl ?_
  refine X.ldc (v := 1000000) (pc' := 144) dX3_shortestCost_142 rfl (TBg_of 985 (by decide +kernel) rfl) ?_
  refine X.icmp_ge (tgt := 151) (pc' := 147) dX3_shortestCost_144 (by decide) rfl (fun hc => ?_) (fun hc => ?_)
  · rw [if_pos hc] at h
    refine X.iconst (v := (-1)) (pc' := 152) dX3_shortestCost_151 rfl (by decide) ?_
    cases h
    exact X.iret (ty := .int) dX3_shortestCost_152 rfl rfl (Nat.le_of_ble_eq_true rfl) (Nat.le_of_ble_eq_true rfl) rfl
  · rw [if_neg hc] at h
    refine X.iload_n (x := v8) (pc' := 148) dX3_shortestCost_147 rfl rfl rfl ?_
    refine X.goto (pc' := 152) dX3_shortestCost_148 (by decide) ?_
    cases h
    exact X.iret (ty := .int) dX3_shortestCost_152 rfl rfl (Nat.le_of_ble_eq_true rfl) (Nat.le_of_ble_eq_true rfl) rfl
def f_X3_shortestCost (fu : Nat) (a0 : Nat) (a1 : Int32) (M : List Ob) : Option (Int32 × List Ob) :=
  (gP M a0 3 2).bind fun r1 =>
  bd2 (f_J7_fill_53178 fu r1 1000000 M) fun _ M4 =>
  (gP M4 a0 3 2).bind fun r7 =>
  (gP M4 a0 3 1).bind fun r9 =>
  (gI M4 r9 4 1).bind fun v11 =>
  (aSet M4 r7 13 v11 (.int 0)).bind fun M14 =>
  f_X3_shortestCost_26 fu (fun x15 M16 => f_X3_shortestCost_128 fu x15 M16) fu a0 a1 1 0 M14
set_option maxHeartbeats 4000000 in
theorem ok_X3_shortestCost {G : GT} {fu : Nat} {a0 : Nat} {a1 : Int32} {M : List Ob} {out : Int32 × List Ob} (h : f_X3_shortestCost fu a0 a1 M = some out) : Sp G t_X3_shortestCost [.ref a0, .int a1] M (oI out) := by
  refine Sp.of rfl (by decide +kernel) (cat_all rfl) (Nat.le_of_ble_eq_true rfl) ?_
  show X G t_X3_shortestCost [] 0 [some (.ref a0), some (.int a1), none, none, none, none, none] [] M 0 0 (oI out)
  unfold f_X3_shortestCost at h
  refine X.aload_n (x := a0) (pc' := 1) dX3_shortestCost_0 rfl rfl rfl ?_
  obtain ⟨r1, e2, h⟩ := bindE h
  refine X.getf (pc' := 4) dX3_shortestCost_1 rfl fq_X3_9 (gP_spec e2) ?_
  refine X.ldc (v := 1000000) (pc' := 6) dX3_shortestCost_4 rfl (TBg_of 985 (by decide +kernel) rfl) ?_
  obtain ⟨r3, M4, e5, h⟩ := bd2E h
  refine X.callS (v := none) (As := [.ref r1, .int 1000000]) (st := []) (M' := M4) (pc' := 9) dX3_shortestCost_6 rfl cl_X3_34 ms_J7_fill_53178 ⟨⟨Nat.le_of_ble_eq_true rfl, Nat.le_of_ble_eq_true rfl⟩, Nat.le_of_ble_eq_true rfl, Nat.le_of_ble_eq_true rfl⟩ rfl (Nat.le_of_ble_eq_true rfl) (ok_J7_fill_53178 (G := zs G) e5) ?_
  show X G t_X3_shortestCost [] 9 [some (.ref a0), some (.int a1), none, none, none, none, none] [] M4 0 0 _
  refine X.aload_n (x := a0) (pc' := 10) dX3_shortestCost_9 rfl rfl rfl ?_
  obtain ⟨r7, e8, h⟩ := bindE h
  refine X.getf (pc' := 13) dX3_shortestCost_10 rfl fq_X3_9 (gP_spec e8) ?_
  refine X.aload_n (x := a0) (pc' := 14) dX3_shortestCost_13 rfl rfl rfl ?_
  obtain ⟨r9, e10, h⟩ := bindE h
  refine X.getf (pc' := 17) dX3_shortestCost_14 rfl fq_X3_32 (gP_spec e10) ?_
  obtain ⟨v11, e12, h⟩ := bindE h
  refine X.getf (pc' := 20) dX3_shortestCost_17 rfl fq_X3_40 (gI_spec e12) ?_
  refine X.iconst (v := 0) (pc' := 21) dX3_shortestCost_20 rfl (by decide) ?_
  obtain ⟨M14, e13, h⟩ := bindE h
  refine X.iast (pc' := 22) dX3_shortestCost_21 rfl e13 ?_
  refine X.iconst (v := 1) (pc' := 23) dX3_shortestCost_22 rfl (by decide) ?_
  refine X.istore_n (L' := [some (.ref a0), some (.int a1), some (.int 1), none, none, none, none]) (pc' := 24) dX3_shortestCost_23 rfl rfl (Nat.le_of_ble_eq_true rfl) rfl ?_
  refine X.iconst (v := 0) (pc' := 25) dX3_shortestCost_24 rfl (by decide) ?_
  refine X.istore_n (L' := [some (.ref a0), some (.int a1), some (.int 1), some (.int 0), none, none, none]) (pc' := 26) dX3_shortestCost_25 rfl rfl (Nat.le_of_ble_eq_true rfl) rfl ?_
  refine ok_X3_shortestCost_26 ?_ fu _ _ _ _ _ h
  · intro x15 M16 h
    exact ok_X3_shortestCost_128 h
def f_X3_leastToldCost_5b (fu : Nat) (a0 : Nat) (a1 : Int32) (a2 : Int32) (a3 : Int32) (M : List Ob) (k5 : Nat → Int32 → Int32 → Int32 → List Ob → Option (Int32 × List Ob)) : Option (Int32 × List Ob) :=
  (gP M a0 3 0).bind fun r1 =>
  (gI M r1 8 3).bind fun v3 =>
  if v3 ≤ a3 then (some (a2, M))
  else ((gP M a0 3 1).bind fun r5 =>
  (gP M a0 3 0).bind fun r7 =>
  (gP M r7 8 2).bind fun r9 =>
  (aP M r9 14 a3).bind fun r12 =>
  (hasO M r5 4).bind fun _ =>
  bd2 (f_X4_costAgainst fu r5 r12 a1 M) fun v13 M14 =>
  k5 a0 a1 (if v13 < a2 then v13 else a2) (a3 + 1) M14)
set_option maxHeartbeats 4000000 in
theorem ok_X3_leastToldCost_5b {G : GT} {fu : Nat} {out : Int32 × List Ob} {a0 : Nat} {a1 : Int32} {a2 : Int32} {a3 : Int32} {M : List Ob} {k5 : Nat → Int32 → Int32 → Int32 → List Ob → Option (Int32 × List Ob)} (hk5 : ∀ (a0 : Nat) (a1 : Int32) (a2 : Int32) (a3 : Int32) (M : List Ob), k5 a0 a1 a2 a3 M = some out → X G t_X3_leastToldCost [] 5 [some (.ref a0), some (.int a1), some (.int a2), some (.int a3)] [] M 0 0 (oI out)) (h : f_X3_leastToldCost_5b fu a0 a1 a2 a3 M k5 = some out) : X G t_X3_leastToldCost [] 5 [some (.ref a0), some (.int a1), some (.int a2), some (.int a3)] [] M 0 0 (oI out) := by
  unfold f_X3_leastToldCost_5b at h
  refine X.iload_n (x := a3) (pc' := 6) dX3_leastToldCost_5 rfl rfl rfl ?_
  refine X.aload_n (x := a0) (pc' := 7) dX3_leastToldCost_6 rfl rfl rfl ?_
  obtain ⟨r1, e2, h⟩ := bindE h
  refine X.getf (pc' := 10) dX3_leastToldCost_7 rfl fq_X3_22 (gP_spec e2) ?_
  obtain ⟨v3, e4, h⟩ := bindE h
  refine X.getf (pc' := 13) dX3_leastToldCost_10 rfl fq_X3_61 (gI_spec e4) ?_
  refine X.icmp_ge (tgt := 44) (pc' := 16) dX3_leastToldCost_13 (by decide) rfl (fun hc => ?_) (fun hc => ?_)
  · rw [if_pos hc] at h
    refine X.iload_n (x := a2) (pc' := 45) dX3_leastToldCost_44 rfl rfl rfl ?_
    cases h
    exact X.iret (ty := .int) dX3_leastToldCost_45 rfl rfl (Nat.le_of_ble_eq_true rfl) (Nat.le_of_ble_eq_true rfl) rfl
  · rw [if_neg hc] at h
    refine X.iload_n (x := a2) (pc' := 17) dX3_leastToldCost_16 rfl rfl rfl ?_
    refine X.aload_n (x := a0) (pc' := 18) dX3_leastToldCost_17 rfl rfl rfl ?_
    obtain ⟨r5, e6, h⟩ := bindE h
    refine X.getf (pc' := 21) dX3_leastToldCost_18 rfl fq_X3_32 (gP_spec e6) ?_
    refine X.aload_n (x := a0) (pc' := 22) dX3_leastToldCost_21 rfl rfl rfl ?_
    obtain ⟨r7, e8, h⟩ := bindE h
    refine X.getf (pc' := 25) dX3_leastToldCost_22 rfl fq_X3_22 (gP_spec e8) ?_
    obtain ⟨r9, e10, h⟩ := bindE h
    refine X.getf (pc' := 28) dX3_leastToldCost_25 rfl fq_X3_64 (gP_spec e10) ?_
    refine X.iload_n (x := a3) (pc' := 29) dX3_leastToldCost_28 rfl rfl rfl ?_
    obtain ⟨r12, e11, h⟩ := bindE h
    refine X.aald (pc' := 30) dX3_leastToldCost_29 rfl (by decide) e11 ?_
    refine X.iload_n (x := a1) (pc' := 31) dX3_leastToldCost_30 rfl rfl rfl ?_
    obtain ⟨⟨⟩, e16, h⟩ := bindE h
    obtain ⟨v13, M14, e15, h⟩ := bd2E h
    refine X.callV (b := r5) (v := some (.int v13)) (As := [.ref r12, .int a1]) (st := [.int a2]) (M' := M14) (pc' := 34) dX3_leastToldCost_31 rfl cl_X3_68 mi_X4_costAgainst me_X4_costAgainst mr_X4_costAgainst e16 ⟨⟨Nat.le_of_ble_eq_true rfl, Nat.le_of_ble_eq_true rfl⟩, Nat.le_of_ble_eq_true rfl, Nat.le_of_ble_eq_true rfl⟩ rfl (Nat.le_of_ble_eq_true rfl) (ok_X4_costAgainst (G := zs G) e15) ?_
    show X G t_X3_leastToldCost [] 34 [some (.ref a0), some (.int a1), some (.int a2), some (.int a3)] [.int v13, .int a2] M14 0 0 _
    refine X.mmin (pc' := 37) dX3_leastToldCost_34 rfl (TBg_of 1006 (by decide +kernel) rfl) (Nat.le_of_ble_eq_true rfl) (Nat.le_of_ble_eq_true rfl) (Nat.le_of_ble_eq_true rfl) (Nat.le_of_ble_eq_true rfl) ?_
    refine X.istore_n (L' := [some (.ref a0), some (.int a1), some (.int (if v13 < a2 then v13 else a2)), some (.int a3)]) (pc' := 38) dX3_leastToldCost_37 rfl rfl (Nat.le_of_ble_eq_true rfl) rfl ?_
    refine X.iinc (v := (a3 + 1)) (L' := [some (.ref a0), some (.int a1), some (.int (if v13 < a2 then v13 else a2)), some (.int (a3 + 1))]) (pc' := 41) dX3_leastToldCost_38 rfl rfl (congrArg (fun y => a3 + y) (show Int32.ofInt 1 = 1 by decide)) (Nat.le_of_ble_eq_true rfl) rfl ?_
    refine X.goto (pc' := 5) dX3_leastToldCost_41 (by decide) ?_
    exact hk5 _ _ _ _ _ h
def f_X3_leastToldCost_5 (fu : Nat) : Nat → Nat → Int32 → Int32 → Int32 → List Ob → Option (Int32 × List Ob)
  | 0, _, _, _, _, _ => none
  | n + 1, a0, a1, a2, a3, M => f_X3_leastToldCost_5b fu a0 a1 a2 a3 M (fun a0 a1 a2 a3 M => f_X3_leastToldCost_5 fu n a0 a1 a2 a3 M)
theorem ok_X3_leastToldCost_5 {G : GT} {fu : Nat} {out : Int32 × List Ob} : ∀ (n : Nat) (a0 : Nat) (a1 : Int32) (a2 : Int32) (a3 : Int32) (M : List Ob), f_X3_leastToldCost_5 fu n a0 a1 a2 a3 M = some out → X G t_X3_leastToldCost [] 5 [some (.ref a0), some (.int a1), some (.int a2), some (.int a3)] [] M 0 0 (oI out) := by
  intro n
  induction n with
  | zero =>
    intro a0 a1 a2 a3 M h
    unfold f_X3_leastToldCost_5 at h
    cases h
  | succ n ih =>
    intro a0 a1 a2 a3 M h
    unfold f_X3_leastToldCost_5 at h
    exact ok_X3_leastToldCost_5b ih h
def f_X3_leastToldCost (fu : Nat) (a0 : Nat) (a1 : Int32) (M : List Ob) : Option (Int32 × List Ob) :=
  f_X3_leastToldCost_5 fu  fu a0 a1 1000000 0 M
set_option maxHeartbeats 4000000 in
theorem ok_X3_leastToldCost {G : GT} {fu : Nat} {a0 : Nat} {a1 : Int32} {M : List Ob} {out : Int32 × List Ob} (h : f_X3_leastToldCost fu a0 a1 M = some out) : Sp G t_X3_leastToldCost [.ref a0, .int a1] M (oI out) := by
  refine Sp.of rfl (by decide +kernel) (cat_all rfl) (Nat.le_of_ble_eq_true rfl) ?_
  show X G t_X3_leastToldCost [] 0 [some (.ref a0), some (.int a1), none, none] [] M 0 0 (oI out)
  unfold f_X3_leastToldCost at h
  refine X.ldc (v := 1000000) (pc' := 2) dX3_leastToldCost_0 rfl (TBg_of 985 (by decide +kernel) rfl) ?_
  refine X.istore_n (L' := [some (.ref a0), some (.int a1), some (.int 1000000), none]) (pc' := 3) dX3_leastToldCost_2 rfl rfl (Nat.le_of_ble_eq_true rfl) rfl ?_
  refine X.iconst (v := 0) (pc' := 4) dX3_leastToldCost_3 rfl (by decide) ?_
  refine X.istore_n (L' := [some (.ref a0), some (.int a1), some (.int 1000000), some (.int 0)]) (pc' := 5) dX3_leastToldCost_4 rfl rfl (Nat.le_of_ble_eq_true rfl) rfl ?_
  refine ok_X3_leastToldCost_5  fu _ _ _ _ _ h
def f_X3_isFirstOf_25 (fu : Nat) (M : List Ob) : Option (Int32 × List Ob) :=
  some (1, M)
set_option maxHeartbeats 4000000 in
theorem ok_X3_isFirstOf_25 {G : GT} {fu : Nat} {out : Int32 × List Ob} {M : List Ob} (h : f_X3_isFirstOf_25 fu  M = some out) : X G t_X3_isFirstOf [] 25 [none, none, none, none] [] M 0 0 (oI out) := by
  unfold f_X3_isFirstOf_25 at h
  refine X.iconst (v := 1) (pc' := 26) dX3_isFirstOf_25 rfl (by decide) ?_
  refine X.goto (pc' := 30) dX3_isFirstOf_26 (by decide) ?_
  cases h
  exact X.iret (ty := .boolean) dX3_isFirstOf_30 rfl rfl (Nat.le_of_ble_eq_true rfl) (Nat.le_of_ble_eq_true rfl) rfl
def f_X3_isFirstOf (fu : Nat) (a0 : Int32) (a1 : Int32) (M : List Ob) : Option (Int32 × List Ob) :=
  bd2 (f_J6_bitCount_0f7a4 fu a0 M) fun v1 M2 =>
  bd2 (f_J6_bitCount_0f7a4 fu a1 M2) fun v5 M6 =>
  if v1 < v5 then (f_X3_isFirstOf_25 fu M6)
  else (if v1 = v5 then (if a1 ≤ a0 then (some (0, M6))
  else (f_X3_isFirstOf_25 fu M6))
  else (some (0, M6)))
set_option maxHeartbeats 4000000 in
theorem ok_X3_isFirstOf {G : GT} {fu : Nat} {a0 : Int32} {a1 : Int32} {M : List Ob} {out : Int32 × List Ob} (h : f_X3_isFirstOf fu a0 a1 M = some out) : Sp G t_X3_isFirstOf [.int a0, .int a1] M (oI out) := by
  refine Sp.of rfl (by decide +kernel) (cat_all rfl) (Nat.le_of_ble_eq_true rfl) ?_
  show X G t_X3_isFirstOf [] 0 [some (.int a0), some (.int a1), none, none] [] M 0 0 (oI out)
  unfold f_X3_isFirstOf at h
  refine X.iload_n (x := a0) (pc' := 1) dX3_isFirstOf_0 rfl rfl rfl ?_
  obtain ⟨v1, M2, e3, h⟩ := bd2E h
  refine X.callS (v := some (.int v1)) (As := [.int a0]) (st := []) (M' := M2) (pc' := 4) dX3_isFirstOf_1 rfl cl_X3_86 ms_J6_bitCount_0f7a4 ⟨⟨Nat.le_of_ble_eq_true rfl, Nat.le_of_ble_eq_true rfl⟩, Nat.le_of_ble_eq_true rfl, Nat.le_of_ble_eq_true rfl⟩ rfl (Nat.le_of_ble_eq_true rfl) (ok_J6_bitCount_0f7a4 (G := zs G) e3) ?_
  show X G t_X3_isFirstOf [] 4 [some (.int a0), some (.int a1), none, none] [.int v1] M2 0 0 _
  refine X.istore_n (L' := [some (.int a0), some (.int a1), some (.int v1), none]) (pc' := 5) dX3_isFirstOf_4 rfl rfl (Nat.le_of_ble_eq_true rfl) rfl ?_
  refine X.iload_n (x := a1) (pc' := 6) dX3_isFirstOf_5 rfl rfl rfl ?_
  obtain ⟨v5, M6, e7, h⟩ := bd2E h
  refine X.callS (v := some (.int v5)) (As := [.int a1]) (st := []) (M' := M6) (pc' := 9) dX3_isFirstOf_6 rfl cl_X3_86 ms_J6_bitCount_0f7a4 ⟨⟨Nat.le_of_ble_eq_true rfl, Nat.le_of_ble_eq_true rfl⟩, Nat.le_of_ble_eq_true rfl, Nat.le_of_ble_eq_true rfl⟩ rfl (Nat.le_of_ble_eq_true rfl) (ok_J6_bitCount_0f7a4 (G := zs G) e7) ?_
  show X G t_X3_isFirstOf [] 9 [some (.int a0), some (.int a1), some (.int v1), none] [.int v5] M6 0 0 _
  refine X.istore_n (L' := [some (.int a0), some (.int a1), some (.int v1), some (.int v5)]) (pc' := 10) dX3_isFirstOf_9 rfl rfl (Nat.le_of_ble_eq_true rfl) rfl ?_
  refine X.iload_n (x := v1) (pc' := 11) dX3_isFirstOf_10 rfl rfl rfl ?_
  refine X.iload_n (x := v5) (pc' := 12) dX3_isFirstOf_11 rfl rfl rfl ?_
  refine X.icmp_lt (tgt := 25) (pc' := 15) dX3_isFirstOf_12 (by decide) rfl (fun hc => ?_) (fun hc => ?_)
  · rw [if_pos hc] at h
    refine X.sub (L := [none, none, none, none]) ?_ (trivial)
    exact ok_X3_isFirstOf_25 h
  · rw [if_neg hc] at h
    refine X.iload_n (x := v1) (pc' := 16) dX3_isFirstOf_15 rfl rfl rfl ?_
    refine X.iload_n (x := v5) (pc' := 17) dX3_isFirstOf_16 rfl rfl rfl ?_
    refine X.icmp_ne (tgt := 29) (pc' := 20) dX3_isFirstOf_17 (by decide) rfl (fun hc => ?_) (fun hc => ?_)
    · rw [if_neg hc] at h
      refine X.iconst (v := 0) (pc' := 30) dX3_isFirstOf_29 rfl (by decide) ?_
      cases h
      exact X.iret (ty := .boolean) dX3_isFirstOf_30 rfl rfl (Nat.le_of_ble_eq_true rfl) (Nat.le_of_ble_eq_true rfl) rfl
    · rw [if_pos hc] at h
      refine X.iload_n (x := a0) (pc' := 21) dX3_isFirstOf_20 rfl rfl rfl ?_
      refine X.iload_n (x := a1) (pc' := 22) dX3_isFirstOf_21 rfl rfl rfl ?_
      refine X.icmp_ge (tgt := 29) (pc' := 25) dX3_isFirstOf_22 (by decide) rfl (fun hc => ?_) (fun hc => ?_)
      · rw [if_pos hc] at h
        refine X.iconst (v := 0) (pc' := 30) dX3_isFirstOf_29 rfl (by decide) ?_
        cases h
        exact X.iret (ty := .boolean) dX3_isFirstOf_30 rfl rfl (Nat.le_of_ble_eq_true rfl) (Nat.le_of_ble_eq_true rfl) rfl
      · rw [if_neg hc] at h
        refine X.sub (L := [none, none, none, none]) ?_ (trivial)
        exact ok_X3_isFirstOf_25 h
def f_X3_keepGreater_27 (fu : Nat) (a0 : Nat) (a1 : Int32) (a2 : Int32) (M : List Ob) : Option (Unit × List Ob) :=
  (pF M a0 3 3 (.int a1)).bind fun M1 =>
  (pF M1 a0 3 4 (.int a2)).bind fun M3 =>
  some ((), M3)
set_option maxHeartbeats 4000000 in
theorem ok_X3_keepGreater_27 {G : GT} {fu : Nat} {out : Unit × List Ob} {a0 : Nat} {a1 : Int32} {a2 : Int32} {M : List Ob} (h : f_X3_keepGreater_27 fu a0 a1 a2 M = some out) : X G t_X3_keepGreater [] 27 [some (.ref a0), some (.int a1), some (.int a2)] [] M 0 0 (oU out) := by
  unfold f_X3_keepGreater_27 at h
  refine X.aload_n (x := a0) (pc' := 28) dX3_keepGreater_27 rfl rfl rfl ?_
  refine X.iload_n (x := a1) (pc' := 29) dX3_keepGreater_28 rfl rfl rfl ?_
  obtain ⟨M1, e2, h⟩ := bindE h
  refine X.putf (pc' := 32) dX3_keepGreater_29 rfl fq_X3_15 rfl rfl e2 ?_
  refine X.aload_n (x := a0) (pc' := 33) dX3_keepGreater_32 rfl rfl rfl ?_
  refine X.iload_n (x := a2) (pc' := 34) dX3_keepGreater_33 rfl rfl rfl ?_
  obtain ⟨M3, e4, h⟩ := bindE h
  refine X.putf (pc' := 37) dX3_keepGreater_34 rfl fq_X3_19 rfl rfl e4 ?_
  cases h
  exact X.vret dX3_keepGreater_37 rfl (Nat.le_of_ble_eq_true rfl) (Nat.le_of_ble_eq_true rfl) rfl
def f_X3_keepGreater (fu : Nat) (a0 : Nat) (a1 : Int32) (a2 : Int32) (M : List Ob) : Option (Unit × List Ob) :=
  (gI M a0 3 3).bind fun v1 =>
  if v1 < a1 then (f_X3_keepGreater_27 fu a0 a1 a2 M)
  else ((gI M a0 3 3).bind fun v3 =>
  if a1 = v3 then ((gI M a0 3 4).bind fun v5 =>
  bd2 (f_X3_isFirstOf fu a2 v5 M) fun v7 M8 =>
  if v7 = 0 then (some ((), M8))
  else (f_X3_keepGreater_27 fu a0 a1 a2 M8))
  else (some ((), M)))
set_option maxHeartbeats 4000000 in
theorem ok_X3_keepGreater {G : GT} {fu : Nat} {a0 : Nat} {a1 : Int32} {a2 : Int32} {M : List Ob} {out : Unit × List Ob} (h : f_X3_keepGreater fu a0 a1 a2 M = some out) : Sp G t_X3_keepGreater [.ref a0, .int a1, .int a2] M (oU out) := by
  refine Sp.of rfl (by decide +kernel) (cat_all rfl) (Nat.le_of_ble_eq_true rfl) ?_
  show X G t_X3_keepGreater [] 0 [some (.ref a0), some (.int a1), some (.int a2)] [] M 0 0 (oU out)
  unfold f_X3_keepGreater at h
  refine X.iload_n (x := a1) (pc' := 1) dX3_keepGreater_0 rfl rfl rfl ?_
  refine X.aload_n (x := a0) (pc' := 2) dX3_keepGreater_1 rfl rfl rfl ?_
  obtain ⟨v1, e2, h⟩ := bindE h
  refine X.getf (pc' := 5) dX3_keepGreater_2 rfl fq_X3_15 (gI_spec e2) ?_
  refine X.icmp_gt (tgt := 27) (pc' := 8) dX3_keepGreater_5 (by decide) rfl (fun hc => ?_) (fun hc => ?_)
  · rw [if_pos hc] at h
    exact ok_X3_keepGreater_27 h
  · rw [if_neg hc] at h
    refine X.iload_n (x := a1) (pc' := 9) dX3_keepGreater_8 rfl rfl rfl ?_
    refine X.aload_n (x := a0) (pc' := 10) dX3_keepGreater_9 rfl rfl rfl ?_
    obtain ⟨v3, e4, h⟩ := bindE h
    refine X.getf (pc' := 13) dX3_keepGreater_10 rfl fq_X3_15 (gI_spec e4) ?_
    refine X.icmp_ne (tgt := 37) (pc' := 16) dX3_keepGreater_13 (by decide) rfl (fun hc => ?_) (fun hc => ?_)
    · rw [if_neg hc] at h
      cases h
      exact X.vret dX3_keepGreater_37 rfl (Nat.le_of_ble_eq_true rfl) (Nat.le_of_ble_eq_true rfl) rfl
    · rw [if_pos hc] at h
      refine X.iload_n (x := a2) (pc' := 17) dX3_keepGreater_16 rfl rfl rfl ?_
      refine X.aload_n (x := a0) (pc' := 18) dX3_keepGreater_17 rfl rfl rfl ?_
      obtain ⟨v5, e6, h⟩ := bindE h
      refine X.getf (pc' := 21) dX3_keepGreater_18 rfl fq_X3_19 (gI_spec e6) ?_
      obtain ⟨v7, M8, e9, h⟩ := bd2E h
      refine X.callS (v := some (.int v7)) (As := [.int a2, .int v5]) (st := []) (M' := M8) (pc' := 24) dX3_keepGreater_21 rfl cl_X3_108 ms_X3_isFirstOf ⟨⟨Nat.le_of_ble_eq_true rfl, Nat.le_of_ble_eq_true rfl⟩, Nat.le_of_ble_eq_true rfl, Nat.le_of_ble_eq_true rfl⟩ rfl (Nat.le_of_ble_eq_true rfl) (ok_X3_isFirstOf (G := zs G) e9) ?_
      show X G t_X3_keepGreater [] 24 [some (.ref a0), some (.int a1), some (.int a2)] [.int v7] M8 0 0 _
      refine X.if_eq (tgt := 37) (pc' := 27) dX3_keepGreater_24 (by decide) rfl (fun hc => ?_) (fun hc => ?_)
      · rw [if_pos hc] at h
        cases h
        exact X.vret dX3_keepGreater_37 rfl (Nat.le_of_ble_eq_true rfl) (Nat.le_of_ble_eq_true rfl) rfl
      · rw [if_neg hc] at h
        exact ok_X3_keepGreater_27 h
def f_X3_findGreatest_96 (fu : Nat) (a0 : Nat) (a1 : Nat) (a2 : Int32) (a3 : Int32) (a4 : Int32) (M : List Ob) (k20 : Nat → Nat → Int32 → Int32 → Int32 → List Ob → Option (Unit × List Ob)) : Option (Unit × List Ob) :=
  k20 a0 a1 a2 a3 (a4 + (-1)) M
set_option maxHeartbeats 4000000 in
theorem ok_X3_findGreatest_96 {G : GT} {fu : Nat} {out : Unit × List Ob} {a0 : Nat} {a1 : Nat} {a2 : Int32} {a3 : Int32} {a4 : Int32} {M : List Ob} {k20 : Nat → Nat → Int32 → Int32 → Int32 → List Ob → Option (Unit × List Ob)} (hk20 : ∀ (a0 : Nat) (a1 : Nat) (a2 : Int32) (a3 : Int32) (a4 : Int32) (M : List Ob), k20 a0 a1 a2 a3 a4 M = some out → X G t_X3_findGreatest [] 20 [some (.ref a0), some (.ref a1), some (.int a2), some (.int a3), some (.int a4), none, none] [] M 0 0 (oU out)) (h : f_X3_findGreatest_96 fu a0 a1 a2 a3 a4 M k20 = some out) : X G t_X3_findGreatest [] 96 [some (.ref a0), some (.ref a1), some (.int a2), some (.int a3), some (.int a4), none, none] [] M 0 0 (oU out) := by
  unfold f_X3_findGreatest_96 at h
  refine X.iinc (v := (a4 + (-1))) (L' := [some (.ref a0), some (.ref a1), some (.int a2), some (.int a3), some (.int (a4 + (-1))), none, none]) (pc' := 99) dX3_findGreatest_96 rfl rfl (congrArg (fun y => a4 + y) (show Int32.ofInt (-1) = (-1) by decide)) (Nat.le_of_ble_eq_true rfl) rfl ?_
  refine X.goto (pc' := 20) dX3_findGreatest_99 (by decide) ?_
  exact hk20 _ _ _ _ _ _ h
def f_X3_findGreatest_75 (fu : Nat) (a0 : Nat) (a1 : Nat) (a2 : Int32) (a3 : Int32) (a4 : Int32) (a5 : Int32) (b0 : Int32) (M : List Ob) (k20 : Nat → Nat → Int32 → Int32 → Int32 → List Ob → Option (Unit × List Ob)) : Option (Unit × List Ob) :=
  (gP M a0 3 1).bind fun r1 =>
  (hasO M r1 4).bind fun _ =>
  bd2 (f_X4_costAgainst fu r1 a1 a5 M) fun v3 M4 =>
  (hasO M4 a0 3).bind fun _ =>
  bd2 (f_X3_keepGreater fu a0 (v3 - b0) a5 M4) fun _ M8 =>
  f_X3_findGreatest_96 fu a0 a1 a2 a3 a4 M8 k20
set_option maxHeartbeats 4000000 in
theorem ok_X3_findGreatest_75 {G : GT} {fu : Nat} {out : Unit × List Ob} {a0 : Nat} {a1 : Nat} {a2 : Int32} {a3 : Int32} {a4 : Int32} {a5 : Int32} {b0 : Int32} {M : List Ob} {k20 : Nat → Nat → Int32 → Int32 → Int32 → List Ob → Option (Unit × List Ob)} (hk20 : ∀ (a0 : Nat) (a1 : Nat) (a2 : Int32) (a3 : Int32) (a4 : Int32) (M : List Ob), k20 a0 a1 a2 a3 a4 M = some out → X G t_X3_findGreatest [] 20 [some (.ref a0), some (.ref a1), some (.int a2), some (.int a3), some (.int a4), none, none] [] M 0 0 (oU out)) (h : f_X3_findGreatest_75 fu a0 a1 a2 a3 a4 a5 b0 M k20 = some out) : X G t_X3_findGreatest [] 75 [some (.ref a0), some (.ref a1), some (.int a2), some (.int a3), some (.int a4), some (.int a5), none] [.int b0] M 0 0 (oU out) := by
  unfold f_X3_findGreatest_75 at h
  refine X.istore (L' := [some (.ref a0), some (.ref a1), some (.int a2), some (.int a3), some (.int a4), some (.int a5), some (.int b0)]) (pc' := 77) dX3_findGreatest_75 rfl (Nat.le_of_ble_eq_true rfl) rfl ?_
  refine X.aload_n (x := a0) (pc' := 78) dX3_findGreatest_77 rfl rfl rfl ?_
  refine X.aload_n (x := a0) (pc' := 79) dX3_findGreatest_78 rfl rfl rfl ?_
  obtain ⟨r1, e2, h⟩ := bindE h
  refine X.getf (pc' := 82) dX3_findGreatest_79 rfl fq_X3_32 (gP_spec e2) ?_
  refine X.aload_n (x := a1) (pc' := 83) dX3_findGreatest_82 rfl rfl rfl ?_
  refine X.iload (x := a5) (pc' := 85) dX3_findGreatest_83 rfl rfl ?_
  obtain ⟨⟨⟩, e6, h⟩ := bindE h
  obtain ⟨v3, M4, e5, h⟩ := bd2E h
  refine X.callV (b := r1) (v := some (.int v3)) (As := [.ref a1, .int a5]) (st := [.ref a0]) (M' := M4) (pc' := 88) dX3_findGreatest_85 rfl cl_X3_68 mi_X4_costAgainst me_X4_costAgainst mr_X4_costAgainst e6 ⟨⟨Nat.le_of_ble_eq_true rfl, Nat.le_of_ble_eq_true rfl⟩, Nat.le_of_ble_eq_true rfl, Nat.le_of_ble_eq_true rfl⟩ rfl (Nat.le_of_ble_eq_true rfl) (ok_X4_costAgainst (G := zs G) e5) ?_
  show X G t_X3_findGreatest [] 88 [some (.ref a0), some (.ref a1), some (.int a2), some (.int a3), some (.int a4), some (.int a5), some (.int b0)] [.int v3, .ref a0] M4 0 0 _
  refine X.iload (x := b0) (pc' := 90) dX3_findGreatest_88 rfl rfl ?_
  refine X.isub (pc' := 91) dX3_findGreatest_90 rfl ?_
  refine X.iload (x := a5) (pc' := 93) dX3_findGreatest_91 rfl rfl ?_
  obtain ⟨⟨⟩, e10, h⟩ := bindE h
  obtain ⟨r7, M8, e9, h⟩ := bd2E h
  refine X.callV (b := a0) (v := none) (As := [.int (v3 - b0), .int a5]) (st := []) (M' := M8) (pc' := 96) dX3_findGreatest_93 rfl cl_X3_104 mi_X3_keepGreater me_X3_keepGreater mr_X3_keepGreater e10 ⟨⟨Nat.le_of_ble_eq_true rfl, Nat.le_of_ble_eq_true rfl⟩, Nat.le_of_ble_eq_true rfl, Nat.le_of_ble_eq_true rfl⟩ rfl (Nat.le_of_ble_eq_true rfl) (ok_X3_keepGreater (G := zs G) e9) ?_
  show X G t_X3_findGreatest [] 96 [some (.ref a0), some (.ref a1), some (.int a2), some (.int a3), some (.int a4), some (.int a5), some (.int b0)] [] M8 0 0 _
  refine X.sub (L := [some (.ref a0), some (.ref a1), some (.int a2), some (.int a3), some (.int a4), none, none]) ?_ (⟨rfl, ⟨rfl, ⟨rfl, ⟨rfl, ⟨rfl, trivial⟩⟩⟩⟩⟩)
  exact ok_X3_findGreatest_96 hk20 h
def f_X3_findGreatest_20b (fu : Nat) (a0 : Nat) (a1 : Nat) (a2 : Int32) (a3 : Int32) (a4 : Int32) (M : List Ob) (k20 : Nat → Nat → Int32 → Int32 → Int32 → List Ob → Option (Unit × List Ob)) : Option (Unit × List Ob) :=
  if a4 < 0 then (some ((), M))
  else ((gI M a0 3 3).bind fun v1 =>
  if a3 < v1 then (some ((), M))
  else (bd2 (f_J6_bitCount_0f7a4 fu a4 M) fun v3 M4 =>
  (gP M4 a0 3 1).bind fun r7 =>
  (gI M4 r7 4 3).bind fun v9 =>
  if v9 < v3 then (f_X3_findGreatest_96 fu a0 a1 a2 a3 a4 M4 k20)
  else ((hasO M4 a1 5).bind fun _ =>
  bd2 (f_X5_delayAt fu a1 a4 M4) fun v11 M12 =>
  if a2 = 0 then ((hasO M12 a0 3).bind fun _ =>
  bd2 (f_X3_shortestCost fu a0 v11 M12) fun v15 M16 =>
  f_X3_findGreatest_75 fu a0 a1 a2 a3 a4 v11 v15 M16 k20)
  else ((hasO M12 a0 3).bind fun _ =>
  bd2 (f_X3_leastToldCost fu a0 v11 M12) fun v19 M20 =>
  f_X3_findGreatest_75 fu a0 a1 a2 a3 a4 v11 v19 M20 k20))))
set_option maxHeartbeats 4000000 in
theorem ok_X3_findGreatest_20b {G : GT} {fu : Nat} {out : Unit × List Ob} {a0 : Nat} {a1 : Nat} {a2 : Int32} {a3 : Int32} {a4 : Int32} {M : List Ob} {k20 : Nat → Nat → Int32 → Int32 → Int32 → List Ob → Option (Unit × List Ob)} (hk20 : ∀ (a0 : Nat) (a1 : Nat) (a2 : Int32) (a3 : Int32) (a4 : Int32) (M : List Ob), k20 a0 a1 a2 a3 a4 M = some out → X G t_X3_findGreatest [] 20 [some (.ref a0), some (.ref a1), some (.int a2), some (.int a3), some (.int a4), none, none] [] M 0 0 (oU out)) (h : f_X3_findGreatest_20b fu a0 a1 a2 a3 a4 M k20 = some out) : X G t_X3_findGreatest [] 20 [some (.ref a0), some (.ref a1), some (.int a2), some (.int a3), some (.int a4), none, none] [] M 0 0 (oU out) := by
  unfold f_X3_findGreatest_20b at h
  refine X.iload (x := a4) (pc' := 22) dX3_findGreatest_20 rfl rfl ?_
  refine X.if_lt (tgt := 102) (pc' := 25) dX3_findGreatest_22 (by decide) rfl (fun hc => ?_) (fun hc => ?_)
  · rw [if_pos hc] at h
    cases h
    exact X.vret dX3_findGreatest_102 rfl (Nat.le_of_ble_eq_true rfl) (Nat.le_of_ble_eq_true rfl) rfl
  · rw [if_neg hc] at h
    refine X.aload_n (x := a0) (pc' := 26) dX3_findGreatest_25 rfl rfl rfl ?_
    obtain ⟨v1, e2, h⟩ := bindE h
    refine X.getf (pc' := 29) dX3_findGreatest_26 rfl fq_X3_15 (gI_spec e2) ?_
    refine X.iload_n (x := a3) (pc' := 30) dX3_findGreatest_29 rfl rfl rfl ?_
    refine X.icmp_gt (tgt := 102) (pc' := 33) dX3_findGreatest_30 (by decide) rfl (fun hc => ?_) (fun hc => ?_)
    · rw [if_pos hc] at h
      cases h
      exact X.vret dX3_findGreatest_102 rfl (Nat.le_of_ble_eq_true rfl) (Nat.le_of_ble_eq_true rfl) rfl
    · rw [if_neg hc] at h
      refine X.iload (x := a4) (pc' := 35) dX3_findGreatest_33 rfl rfl ?_
      obtain ⟨v3, M4, e5, h⟩ := bd2E h
      refine X.callS (v := some (.int v3)) (As := [.int a4]) (st := []) (M' := M4) (pc' := 38) dX3_findGreatest_35 rfl cl_X3_86 ms_J6_bitCount_0f7a4 ⟨⟨Nat.le_of_ble_eq_true rfl, Nat.le_of_ble_eq_true rfl⟩, Nat.le_of_ble_eq_true rfl, Nat.le_of_ble_eq_true rfl⟩ rfl (Nat.le_of_ble_eq_true rfl) (ok_J6_bitCount_0f7a4 (G := zs G) e5) ?_
      show X G t_X3_findGreatest [] 38 [some (.ref a0), some (.ref a1), some (.int a2), some (.int a3), some (.int a4), none, none] [.int v3] M4 0 0 _
      refine X.aload_n (x := a0) (pc' := 39) dX3_findGreatest_38 rfl rfl rfl ?_
      obtain ⟨r7, e8, h⟩ := bindE h
      refine X.getf (pc' := 42) dX3_findGreatest_39 rfl fq_X3_32 (gP_spec e8) ?_
      obtain ⟨v9, e10, h⟩ := bindE h
      refine X.getf (pc' := 45) dX3_findGreatest_42 rfl fq_X3_92 (gI_spec e10) ?_
      refine X.icmp_gt (tgt := 96) (pc' := 48) dX3_findGreatest_45 (by decide) rfl (fun hc => ?_) (fun hc => ?_)
      · rw [if_pos hc] at h
        exact ok_X3_findGreatest_96 hk20 h
      · rw [if_neg hc] at h
        refine X.aload_n (x := a1) (pc' := 49) dX3_findGreatest_48 rfl rfl rfl ?_
        refine X.iload (x := a4) (pc' := 51) dX3_findGreatest_49 rfl rfl ?_
        obtain ⟨⟨⟩, e14, h⟩ := bindE h
        obtain ⟨v11, M12, e13, h⟩ := bd2E h
        refine X.callV (b := a1) (v := some (.int v11)) (As := [.int a4]) (st := []) (M' := M12) (pc' := 54) dX3_findGreatest_51 rfl cl_X3_95 mi_X5_delayAt me_X5_delayAt mr_X5_delayAt e14 ⟨⟨Nat.le_of_ble_eq_true rfl, Nat.le_of_ble_eq_true rfl⟩, Nat.le_of_ble_eq_true rfl, Nat.le_of_ble_eq_true rfl⟩ rfl (Nat.le_of_ble_eq_true rfl) (ok_X5_delayAt (G := zs G) e13) ?_
        show X G t_X3_findGreatest [] 54 [some (.ref a0), some (.ref a1), some (.int a2), some (.int a3), some (.int a4), none, none] [.int v11] M12 0 0 _
        refine X.istore (L' := [some (.ref a0), some (.ref a1), some (.int a2), some (.int a3), some (.int a4), some (.int v11), none]) (pc' := 56) dX3_findGreatest_54 rfl (Nat.le_of_ble_eq_true rfl) rfl ?_
        refine X.iload_n (x := a2) (pc' := 57) dX3_findGreatest_56 rfl rfl rfl ?_
        refine X.if_eq (tgt := 69) (pc' := 60) dX3_findGreatest_57 (by decide) rfl (fun hc => ?_) (fun hc => ?_)
        · rw [if_pos hc] at h
          refine X.aload_n (x := a0) (pc' := 70) dX3_findGreatest_69 rfl rfl rfl ?_
          refine X.iload (x := v11) (pc' := 72) dX3_findGreatest_70 rfl rfl ?_
          obtain ⟨⟨⟩, e18, h⟩ := bindE h
          obtain ⟨v15, M16, e17, h⟩ := bd2E h
          refine X.callV (b := a0) (v := some (.int v15)) (As := [.int v11]) (st := []) (M' := M16) (pc' := 75) dX3_findGreatest_72 rfl cl_X3_101 mi_X3_shortestCost me_X3_shortestCost mr_X3_shortestCost e18 ⟨⟨Nat.le_of_ble_eq_true rfl, Nat.le_of_ble_eq_true rfl⟩, Nat.le_of_ble_eq_true rfl, Nat.le_of_ble_eq_true rfl⟩ rfl (Nat.le_of_ble_eq_true rfl) (ok_X3_shortestCost (G := zs G) e17) ?_
          show X G t_X3_findGreatest [] 75 [some (.ref a0), some (.ref a1), some (.int a2), some (.int a3), some (.int a4), some (.int v11), none] [.int v15] M16 0 0 _
          exact ok_X3_findGreatest_75 hk20 h
        · rw [if_neg hc] at h
          refine X.aload_n (x := a0) (pc' := 61) dX3_findGreatest_60 rfl rfl rfl ?_
          refine X.iload (x := v11) (pc' := 63) dX3_findGreatest_61 rfl rfl ?_
          obtain ⟨⟨⟩, e22, h⟩ := bindE h
          obtain ⟨v19, M20, e21, h⟩ := bd2E h
          refine X.callV (b := a0) (v := some (.int v19)) (As := [.int v11]) (st := []) (M' := M20) (pc' := 66) dX3_findGreatest_63 rfl cl_X3_98 mi_X3_leastToldCost me_X3_leastToldCost mr_X3_leastToldCost e22 ⟨⟨Nat.le_of_ble_eq_true rfl, Nat.le_of_ble_eq_true rfl⟩, Nat.le_of_ble_eq_true rfl, Nat.le_of_ble_eq_true rfl⟩ rfl (Nat.le_of_ble_eq_true rfl) (ok_X3_leastToldCost (G := zs G) e21) ?_
          show X G t_X3_findGreatest [] 66 [some (.ref a0), some (.ref a1), some (.int a2), some (.int a3), some (.int a4), some (.int v11), none] [.int v19] M20 0 0 _
          refine X.goto (pc' := 75) dX3_findGreatest_66 (by decide) ?_
          exact ok_X3_findGreatest_75 hk20 h
def f_X3_findGreatest_20 (fu : Nat) : Nat → Nat → Nat → Int32 → Int32 → Int32 → List Ob → Option (Unit × List Ob)
  | 0, _, _, _, _, _, _ => none
  | n + 1, a0, a1, a2, a3, a4, M => f_X3_findGreatest_20b fu a0 a1 a2 a3 a4 M (fun a0 a1 a2 a3 a4 M => f_X3_findGreatest_20 fu n a0 a1 a2 a3 a4 M)
theorem ok_X3_findGreatest_20 {G : GT} {fu : Nat} {out : Unit × List Ob} : ∀ (n : Nat) (a0 : Nat) (a1 : Nat) (a2 : Int32) (a3 : Int32) (a4 : Int32) (M : List Ob), f_X3_findGreatest_20 fu n a0 a1 a2 a3 a4 M = some out → X G t_X3_findGreatest [] 20 [some (.ref a0), some (.ref a1), some (.int a2), some (.int a3), some (.int a4), none, none] [] M 0 0 (oU out) := by
  intro n
  induction n with
  | zero =>
    intro a0 a1 a2 a3 a4 M h
    unfold f_X3_findGreatest_20 at h
    cases h
  | succ n ih =>
    intro a0 a1 a2 a3 a4 M h
    unfold f_X3_findGreatest_20 at h
    exact ok_X3_findGreatest_20b ih h
def f_X3_findGreatest (fu : Nat) (a0 : Nat) (a1 : Nat) (a2 : Int32) (a3 : Int32) (M : List Ob) : Option (Unit × List Ob) :=
  (pF M a0 3 3 (.int (-1))).bind fun M1 =>
  (pF M1 a0 3 4 (.int 0)).bind fun M3 =>
  (gI M3 a1 5 1).bind fun v5 =>
  f_X3_findGreatest_20 fu  fu a0 a1 a2 a3 ((1 <<< (v5 &&& 31)) - 1) M3
set_option maxHeartbeats 4000000 in
theorem ok_X3_findGreatest {G : GT} {fu : Nat} {a0 : Nat} {a1 : Nat} {a2 : Int32} {a3 : Int32} {M : List Ob} {out : Unit × List Ob} (h : f_X3_findGreatest fu a0 a1 a2 a3 M = some out) : Sp G t_X3_findGreatest [.ref a0, .ref a1, .int a2, .int a3] M (oU out) := by
  refine Sp.of rfl (by decide +kernel) (cat_all rfl) (Nat.le_of_ble_eq_true rfl) ?_
  show X G t_X3_findGreatest [] 0 [some (.ref a0), some (.ref a1), some (.int a2), some (.int a3), none, none, none] [] M 0 0 (oU out)
  unfold f_X3_findGreatest at h
  refine X.aload_n (x := a0) (pc' := 1) dX3_findGreatest_0 rfl rfl rfl ?_
  refine X.iconst (v := (-1)) (pc' := 2) dX3_findGreatest_1 rfl (by decide) ?_
  obtain ⟨M1, e2, h⟩ := bindE h
  refine X.putf (pc' := 5) dX3_findGreatest_2 rfl fq_X3_15 rfl rfl e2 ?_
  refine X.aload_n (x := a0) (pc' := 6) dX3_findGreatest_5 rfl rfl rfl ?_
  refine X.iconst (v := 0) (pc' := 7) dX3_findGreatest_6 rfl (by decide) ?_
  obtain ⟨M3, e4, h⟩ := bindE h
  refine X.putf (pc' := 10) dX3_findGreatest_7 rfl fq_X3_19 rfl rfl e4 ?_
  refine X.iconst (v := 1) (pc' := 11) dX3_findGreatest_10 rfl (by decide) ?_
  refine X.aload_n (x := a1) (pc' := 12) dX3_findGreatest_11 rfl rfl rfl ?_
  obtain ⟨v5, e6, h⟩ := bindE h
  refine X.getf (pc' := 15) dX3_findGreatest_12 rfl fq_X3_81 (gI_spec e6) ?_
  refine X.ishl (pc' := 16) dX3_findGreatest_15 rfl ?_
  refine X.iconst (v := 1) (pc' := 17) dX3_findGreatest_16 rfl (by decide) ?_
  refine X.isub (pc' := 18) dX3_findGreatest_17 rfl ?_
  refine X.istore (L' := [some (.ref a0), some (.ref a1), some (.int a2), some (.int a3), some (.int ((1 <<< (v5 &&& 31)) - 1)), none, none]) (pc' := 20) dX3_findGreatest_18 rfl (Nat.le_of_ble_eq_true rfl) rfl ?_
  refine ok_X3_findGreatest_20  fu _ _ _ _ _ _ h
def f_X3_regretOf (fu : Nat) (a0 : Nat) (a1 : Nat) (M : List Ob) : Option (Int32 × List Ob) :=
  (hasO M a0 3).bind fun _ =>
  bd2 (f_X3_findGreatest fu a0 a1 0 1000000 M) fun _ M2 =>
  (gI M2 a0 3 3).bind fun v5 =>
  some (v5, M2)
set_option maxHeartbeats 4000000 in
theorem ok_X3_regretOf {G : GT} {fu : Nat} {a0 : Nat} {a1 : Nat} {M : List Ob} {out : Int32 × List Ob} (h : f_X3_regretOf fu a0 a1 M = some out) : Sp G t_X3_regretOf [.ref a0, .ref a1] M (oI out) := by
  refine Sp.of rfl (by decide +kernel) (cat_all rfl) (Nat.le_of_ble_eq_true rfl) ?_
  show X G t_X3_regretOf [] 0 [some (.ref a0), some (.ref a1)] [] M 0 0 (oI out)
  unfold f_X3_regretOf at h
  refine X.aload_n (x := a0) (pc' := 1) dX3_regretOf_0 rfl rfl rfl ?_
  refine X.aload_n (x := a1) (pc' := 2) dX3_regretOf_1 rfl rfl rfl ?_
  refine X.iconst (v := 0) (pc' := 3) dX3_regretOf_2 rfl (by decide) ?_
  refine X.ldc (v := 1000000) (pc' := 5) dX3_regretOf_3 rfl (TBg_of 985 (by decide +kernel) rfl) ?_
  obtain ⟨⟨⟩, e4, h⟩ := bindE h
  obtain ⟨r1, M2, e3, h⟩ := bd2E h
  refine X.callV (b := a0) (v := none) (As := [.ref a1, .int 0, .int 1000000]) (st := []) (M' := M2) (pc' := 8) dX3_regretOf_5 rfl cl_X3_77 mi_X3_findGreatest me_X3_findGreatest mr_X3_findGreatest e4 ⟨⟨Nat.le_of_ble_eq_true rfl, Nat.le_of_ble_eq_true rfl⟩, Nat.le_of_ble_eq_true rfl, Nat.le_of_ble_eq_true rfl⟩ rfl (Nat.le_of_ble_eq_true rfl) (ok_X3_findGreatest (G := zs G) e3) ?_
  show X G t_X3_regretOf [] 8 [some (.ref a0), some (.ref a1)] [] M2 0 0 _
  refine X.aload_n (x := a0) (pc' := 9) dX3_regretOf_8 rfl rfl rfl ?_
  obtain ⟨v5, e6, h⟩ := bindE h
  refine X.getf (pc' := 12) dX3_regretOf_9 rfl fq_X3_15 (gI_spec e6) ?_
  cases h
  exact X.iret (ty := .int) dX3_regretOf_12 rfl rfl (Nat.le_of_ble_eq_true rfl) (Nat.le_of_ble_eq_true rfl) rfl
def f_X3_regretWitnessOf (fu : Nat) (a0 : Nat) (a1 : Nat) (M : List Ob) : Option (Int32 × List Ob) :=
  (hasO M a0 3).bind fun _ =>
  bd2 (f_X3_findGreatest fu a0 a1 0 1000000 M) fun _ M2 =>
  (gI M2 a0 3 4).bind fun v5 =>
  some (v5, M2)
set_option maxHeartbeats 4000000 in
theorem ok_X3_regretWitnessOf {G : GT} {fu : Nat} {a0 : Nat} {a1 : Nat} {M : List Ob} {out : Int32 × List Ob} (h : f_X3_regretWitnessOf fu a0 a1 M = some out) : Sp G t_X3_regretWitnessOf [.ref a0, .ref a1] M (oI out) := by
  refine Sp.of rfl (by decide +kernel) (cat_all rfl) (Nat.le_of_ble_eq_true rfl) ?_
  show X G t_X3_regretWitnessOf [] 0 [some (.ref a0), some (.ref a1)] [] M 0 0 (oI out)
  unfold f_X3_regretWitnessOf at h
  refine X.aload_n (x := a0) (pc' := 1) dX3_regretWitnessOf_0 rfl rfl rfl ?_
  refine X.aload_n (x := a1) (pc' := 2) dX3_regretWitnessOf_1 rfl rfl rfl ?_
  refine X.iconst (v := 0) (pc' := 3) dX3_regretWitnessOf_2 rfl (by decide) ?_
  refine X.ldc (v := 1000000) (pc' := 5) dX3_regretWitnessOf_3 rfl (TBg_of 985 (by decide +kernel) rfl) ?_
  obtain ⟨⟨⟩, e4, h⟩ := bindE h
  obtain ⟨r1, M2, e3, h⟩ := bd2E h
  refine X.callV (b := a0) (v := none) (As := [.ref a1, .int 0, .int 1000000]) (st := []) (M' := M2) (pc' := 8) dX3_regretWitnessOf_5 rfl cl_X3_77 mi_X3_findGreatest me_X3_findGreatest mr_X3_findGreatest e4 ⟨⟨Nat.le_of_ble_eq_true rfl, Nat.le_of_ble_eq_true rfl⟩, Nat.le_of_ble_eq_true rfl, Nat.le_of_ble_eq_true rfl⟩ rfl (Nat.le_of_ble_eq_true rfl) (ok_X3_findGreatest (G := zs G) e3) ?_
  show X G t_X3_regretWitnessOf [] 8 [some (.ref a0), some (.ref a1)] [] M2 0 0 _
  refine X.aload_n (x := a0) (pc' := 9) dX3_regretWitnessOf_8 rfl rfl rfl ?_
  obtain ⟨v5, e6, h⟩ := bindE h
  refine X.getf (pc' := 12) dX3_regretWitnessOf_9 rfl fq_X3_19 (gI_spec e6) ?_
  cases h
  exact X.iret (ty := .int) dX3_regretWitnessOf_12 rfl rfl (Nat.le_of_ble_eq_true rfl) (Nat.le_of_ble_eq_true rfl) rfl
def f_X3_toldRegretOf (fu : Nat) (a0 : Nat) (a1 : Nat) (M : List Ob) : Option (Int32 × List Ob) :=
  (hasO M a0 3).bind fun _ =>
  bd2 (f_X3_findGreatest fu a0 a1 1 1000000 M) fun _ M2 =>
  (gI M2 a0 3 3).bind fun v5 =>
  some (v5, M2)
set_option maxHeartbeats 4000000 in
theorem ok_X3_toldRegretOf {G : GT} {fu : Nat} {a0 : Nat} {a1 : Nat} {M : List Ob} {out : Int32 × List Ob} (h : f_X3_toldRegretOf fu a0 a1 M = some out) : Sp G t_X3_toldRegretOf [.ref a0, .ref a1] M (oI out) := by
  refine Sp.of rfl (by decide +kernel) (cat_all rfl) (Nat.le_of_ble_eq_true rfl) ?_
  show X G t_X3_toldRegretOf [] 0 [some (.ref a0), some (.ref a1)] [] M 0 0 (oI out)
  unfold f_X3_toldRegretOf at h
  refine X.aload_n (x := a0) (pc' := 1) dX3_toldRegretOf_0 rfl rfl rfl ?_
  refine X.aload_n (x := a1) (pc' := 2) dX3_toldRegretOf_1 rfl rfl rfl ?_
  refine X.iconst (v := 1) (pc' := 3) dX3_toldRegretOf_2 rfl (by decide) ?_
  refine X.ldc (v := 1000000) (pc' := 5) dX3_toldRegretOf_3 rfl (TBg_of 985 (by decide +kernel) rfl) ?_
  obtain ⟨⟨⟩, e4, h⟩ := bindE h
  obtain ⟨r1, M2, e3, h⟩ := bd2E h
  refine X.callV (b := a0) (v := none) (As := [.ref a1, .int 1, .int 1000000]) (st := []) (M' := M2) (pc' := 8) dX3_toldRegretOf_5 rfl cl_X3_77 mi_X3_findGreatest me_X3_findGreatest mr_X3_findGreatest e4 ⟨⟨Nat.le_of_ble_eq_true rfl, Nat.le_of_ble_eq_true rfl⟩, Nat.le_of_ble_eq_true rfl, Nat.le_of_ble_eq_true rfl⟩ rfl (Nat.le_of_ble_eq_true rfl) (ok_X3_findGreatest (G := zs G) e3) ?_
  show X G t_X3_toldRegretOf [] 8 [some (.ref a0), some (.ref a1)] [] M2 0 0 _
  refine X.aload_n (x := a0) (pc' := 9) dX3_toldRegretOf_8 rfl rfl rfl ?_
  obtain ⟨v5, e6, h⟩ := bindE h
  refine X.getf (pc' := 12) dX3_toldRegretOf_9 rfl fq_X3_15 (gI_spec e6) ?_
  cases h
  exact X.iret (ty := .int) dX3_toldRegretOf_12 rfl rfl (Nat.le_of_ble_eq_true rfl) (Nat.le_of_ble_eq_true rfl) rfl
def f_X3_chooseTold_48 (fu : Nat) (a0 : Nat) (a1 : Int32) (a2 : Int32) (a3 : Int32) (M : List Ob) (k7 : Nat → Int32 → Int32 → Int32 → List Ob → Option (Int32 × List Ob)) : Option (Int32 × List Ob) :=
  k7 a0 a1 a2 (a3 + 1) M
set_option maxHeartbeats 4000000 in
theorem ok_X3_chooseTold_48 {G : GT} {fu : Nat} {out : Int32 × List Ob} {a0 : Nat} {a1 : Int32} {a2 : Int32} {a3 : Int32} {M : List Ob} {k7 : Nat → Int32 → Int32 → Int32 → List Ob → Option (Int32 × List Ob)} (hk7 : ∀ (a0 : Nat) (a1 : Int32) (a2 : Int32) (a3 : Int32) (M : List Ob), k7 a0 a1 a2 a3 M = some out → X G t_X3_chooseTold [] 7 [some (.ref a0), some (.int a1), some (.int a2), some (.int a3)] [] M 0 0 (oI out)) (h : f_X3_chooseTold_48 fu a0 a1 a2 a3 M k7 = some out) : X G t_X3_chooseTold [] 48 [some (.ref a0), some (.int a1), some (.int a2), some (.int a3)] [] M 0 0 (oI out) := by
  unfold f_X3_chooseTold_48 at h
  refine X.iinc (v := (a3 + 1)) (L' := [some (.ref a0), some (.int a1), some (.int a2), some (.int (a3 + 1))]) (pc' := 51) dX3_chooseTold_48 rfl rfl (congrArg (fun y => a3 + y) (show Int32.ofInt 1 = 1 by decide)) (Nat.le_of_ble_eq_true rfl) rfl ?_
  refine X.goto (pc' := 7) dX3_chooseTold_51 (by decide) ?_
  exact hk7 _ _ _ _ _ h
def f_X3_chooseTold_7b (fu : Nat) (a0 : Nat) (a1 : Int32) (a2 : Int32) (a3 : Int32) (M : List Ob) (k7 : Nat → Int32 → Int32 → Int32 → List Ob → Option (Int32 × List Ob)) : Option (Int32 × List Ob) :=
  (gP M a0 3 0).bind fun r1 =>
  (gI M r1 8 3).bind fun v3 =>
  if v3 ≤ a3 then (some (a1, M))
  else ((gP M a0 3 0).bind fun r5 =>
  (gP M r5 8 2).bind fun r7 =>
  (aP M r7 14 a3).bind fun r10 =>
  (hasO M a0 3).bind fun _ =>
  bd2 (f_X3_findGreatest fu a0 r10 1 a2 M) fun _ M12 =>
  (gI M12 a0 3 3).bind fun v15 =>
  if a2 ≤ v15 then (f_X3_chooseTold_48 fu a0 a1 a2 a3 M12 k7)
  else ((gI M12 a0 3 3).bind fun v17 =>
  f_X3_chooseTold_48 fu a0 a3 v17 a3 M12 k7))
set_option maxHeartbeats 4000000 in
theorem ok_X3_chooseTold_7b {G : GT} {fu : Nat} {out : Int32 × List Ob} {a0 : Nat} {a1 : Int32} {a2 : Int32} {a3 : Int32} {M : List Ob} {k7 : Nat → Int32 → Int32 → Int32 → List Ob → Option (Int32 × List Ob)} (hk7 : ∀ (a0 : Nat) (a1 : Int32) (a2 : Int32) (a3 : Int32) (M : List Ob), k7 a0 a1 a2 a3 M = some out → X G t_X3_chooseTold [] 7 [some (.ref a0), some (.int a1), some (.int a2), some (.int a3)] [] M 0 0 (oI out)) (h : f_X3_chooseTold_7b fu a0 a1 a2 a3 M k7 = some out) : X G t_X3_chooseTold [] 7 [some (.ref a0), some (.int a1), some (.int a2), some (.int a3)] [] M 0 0 (oI out) := by
  unfold f_X3_chooseTold_7b at h
  refine X.iload_n (x := a3) (pc' := 8) dX3_chooseTold_7 rfl rfl rfl ?_
  refine X.aload_n (x := a0) (pc' := 9) dX3_chooseTold_8 rfl rfl rfl ?_
  obtain ⟨r1, e2, h⟩ := bindE h
  refine X.getf (pc' := 12) dX3_chooseTold_9 rfl fq_X3_22 (gP_spec e2) ?_
  obtain ⟨v3, e4, h⟩ := bindE h
  refine X.getf (pc' := 15) dX3_chooseTold_12 rfl fq_X3_61 (gI_spec e4) ?_
  refine X.icmp_ge (tgt := 54) (pc' := 18) dX3_chooseTold_15 (by decide) rfl (fun hc => ?_) (fun hc => ?_)
  · rw [if_pos hc] at h
    refine X.iload_n (x := a1) (pc' := 55) dX3_chooseTold_54 rfl rfl rfl ?_
    cases h
    exact X.iret (ty := .int) dX3_chooseTold_55 rfl rfl (Nat.le_of_ble_eq_true rfl) (Nat.le_of_ble_eq_true rfl) rfl
  · rw [if_neg hc] at h
    refine X.aload_n (x := a0) (pc' := 19) dX3_chooseTold_18 rfl rfl rfl ?_
    refine X.aload_n (x := a0) (pc' := 20) dX3_chooseTold_19 rfl rfl rfl ?_
    obtain ⟨r5, e6, h⟩ := bindE h
    refine X.getf (pc' := 23) dX3_chooseTold_20 rfl fq_X3_22 (gP_spec e6) ?_
    obtain ⟨r7, e8, h⟩ := bindE h
    refine X.getf (pc' := 26) dX3_chooseTold_23 rfl fq_X3_64 (gP_spec e8) ?_
    refine X.iload_n (x := a3) (pc' := 27) dX3_chooseTold_26 rfl rfl rfl ?_
    obtain ⟨r10, e9, h⟩ := bindE h
    refine X.aald (pc' := 28) dX3_chooseTold_27 rfl (by decide) e9 ?_
    refine X.iconst (v := 1) (pc' := 29) dX3_chooseTold_28 rfl (by decide) ?_
    refine X.iload_n (x := a2) (pc' := 30) dX3_chooseTold_29 rfl rfl rfl ?_
    obtain ⟨⟨⟩, e14, h⟩ := bindE h
    obtain ⟨r11, M12, e13, h⟩ := bd2E h
    refine X.callV (b := a0) (v := none) (As := [.ref r10, .int 1, .int a2]) (st := []) (M' := M12) (pc' := 33) dX3_chooseTold_30 rfl cl_X3_77 mi_X3_findGreatest me_X3_findGreatest mr_X3_findGreatest e14 ⟨⟨Nat.le_of_ble_eq_true rfl, Nat.le_of_ble_eq_true rfl⟩, Nat.le_of_ble_eq_true rfl, Nat.le_of_ble_eq_true rfl⟩ rfl (Nat.le_of_ble_eq_true rfl) (ok_X3_findGreatest (G := zs G) e13) ?_
    show X G t_X3_chooseTold [] 33 [some (.ref a0), some (.int a1), some (.int a2), some (.int a3)] [] M12 0 0 _
    refine X.aload_n (x := a0) (pc' := 34) dX3_chooseTold_33 rfl rfl rfl ?_
    obtain ⟨v15, e16, h⟩ := bindE h
    refine X.getf (pc' := 37) dX3_chooseTold_34 rfl fq_X3_15 (gI_spec e16) ?_
    refine X.iload_n (x := a2) (pc' := 38) dX3_chooseTold_37 rfl rfl rfl ?_
    refine X.icmp_ge (tgt := 48) (pc' := 41) dX3_chooseTold_38 (by decide) rfl (fun hc => ?_) (fun hc => ?_)
    · rw [if_pos hc] at h
      exact ok_X3_chooseTold_48 hk7 h
    · rw [if_neg hc] at h
      refine X.iload_n (x := a3) (pc' := 42) dX3_chooseTold_41 rfl rfl rfl ?_
      refine X.istore_n (L' := [some (.ref a0), some (.int a3), some (.int a2), some (.int a3)]) (pc' := 43) dX3_chooseTold_42 rfl rfl (Nat.le_of_ble_eq_true rfl) rfl ?_
      refine X.aload_n (x := a0) (pc' := 44) dX3_chooseTold_43 rfl rfl rfl ?_
      obtain ⟨v17, e18, h⟩ := bindE h
      refine X.getf (pc' := 47) dX3_chooseTold_44 rfl fq_X3_15 (gI_spec e18) ?_
      refine X.istore_n (L' := [some (.ref a0), some (.int a3), some (.int v17), some (.int a3)]) (pc' := 48) dX3_chooseTold_47 rfl rfl (Nat.le_of_ble_eq_true rfl) rfl ?_
      exact ok_X3_chooseTold_48 hk7 h
def f_X3_chooseTold_7 (fu : Nat) : Nat → Nat → Int32 → Int32 → Int32 → List Ob → Option (Int32 × List Ob)
  | 0, _, _, _, _, _ => none
  | n + 1, a0, a1, a2, a3, M => f_X3_chooseTold_7b fu a0 a1 a2 a3 M (fun a0 a1 a2 a3 M => f_X3_chooseTold_7 fu n a0 a1 a2 a3 M)
theorem ok_X3_chooseTold_7 {G : GT} {fu : Nat} {out : Int32 × List Ob} : ∀ (n : Nat) (a0 : Nat) (a1 : Int32) (a2 : Int32) (a3 : Int32) (M : List Ob), f_X3_chooseTold_7 fu n a0 a1 a2 a3 M = some out → X G t_X3_chooseTold [] 7 [some (.ref a0), some (.int a1), some (.int a2), some (.int a3)] [] M 0 0 (oI out) := by
  intro n
  induction n with
  | zero =>
    intro a0 a1 a2 a3 M h
    unfold f_X3_chooseTold_7 at h
    cases h
  | succ n ih =>
    intro a0 a1 a2 a3 M h
    unfold f_X3_chooseTold_7 at h
    exact ok_X3_chooseTold_7b ih h
def f_X3_chooseTold (fu : Nat) (a0 : Nat) (M : List Ob) : Option (Int32 × List Ob) :=
  f_X3_chooseTold_7 fu  fu a0 (-1) 1000000 0 M
set_option maxHeartbeats 4000000 in
theorem ok_X3_chooseTold {G : GT} {fu : Nat} {a0 : Nat} {M : List Ob} {out : Int32 × List Ob} (h : f_X3_chooseTold fu a0 M = some out) : Sp G t_X3_chooseTold [.ref a0] M (oI out) := by
  refine Sp.of rfl (by decide +kernel) (cat_all rfl) (Nat.le_of_ble_eq_true rfl) ?_
  show X G t_X3_chooseTold [] 0 [some (.ref a0), none, none, none] [] M 0 0 (oI out)
  unfold f_X3_chooseTold at h
  refine X.iconst (v := (-1)) (pc' := 1) dX3_chooseTold_0 rfl (by decide) ?_
  refine X.istore_n (L' := [some (.ref a0), some (.int (-1)), none, none]) (pc' := 2) dX3_chooseTold_1 rfl rfl (Nat.le_of_ble_eq_true rfl) rfl ?_
  refine X.ldc (v := 1000000) (pc' := 4) dX3_chooseTold_2 rfl (TBg_of 985 (by decide +kernel) rfl) ?_
  refine X.istore_n (L' := [some (.ref a0), some (.int (-1)), some (.int 1000000), none]) (pc' := 5) dX3_chooseTold_4 rfl rfl (Nat.le_of_ble_eq_true rfl) rfl ?_
  refine X.iconst (v := 0) (pc' := 6) dX3_chooseTold_5 rfl (by decide) ?_
  refine X.istore_n (L' := [some (.ref a0), some (.int (-1)), some (.int 1000000), some (.int 0)]) (pc' := 7) dX3_chooseTold_6 rfl rfl (Nat.le_of_ble_eq_true rfl) rfl ?_
  refine ok_X3_chooseTold_7  fu _ _ _ _ _ h
def f_X3_isBeating (fu : Nat) (a0 : Nat) (a1 : Nat) (a2 : Nat) (M : List Ob) : Option (Int32 × List Ob) :=
  (gP M a0 3 1).bind fun r1 =>
  (hasO M r1 4).bind fun _ =>
  bd2 (f_X4_witnessOf fu r1 a2 M) fun v3 M4 =>
  (gP M4 a0 3 1).bind fun r7 =>
  (hasO M4 r7 4).bind fun _ =>
  bd2 (f_X4_costAgainst fu r7 a1 v3 M4) fun v9 M10 =>
  (gP M10 a0 3 1).bind fun r13 =>
  (hasO M10 r13 4).bind fun _ =>
  bd2 (f_X4_costAgainst fu r13 a2 v3 M10) fun v15 M16 =>
  if v15 ≤ v9 then (some (0, M16))
  else (some (1, M16))
set_option maxHeartbeats 4000000 in
theorem ok_X3_isBeating {G : GT} {fu : Nat} {a0 : Nat} {a1 : Nat} {a2 : Nat} {M : List Ob} {out : Int32 × List Ob} (h : f_X3_isBeating fu a0 a1 a2 M = some out) : Sp G t_X3_isBeating [.ref a0, .ref a1, .ref a2] M (oI out) := by
  refine Sp.of rfl (by decide +kernel) (cat_all rfl) (Nat.le_of_ble_eq_true rfl) ?_
  show X G t_X3_isBeating [] 0 [some (.ref a0), some (.ref a1), some (.ref a2), none] [] M 0 0 (oI out)
  unfold f_X3_isBeating at h
  refine X.aload_n (x := a0) (pc' := 1) dX3_isBeating_0 rfl rfl rfl ?_
  obtain ⟨r1, e2, h⟩ := bindE h
  refine X.getf (pc' := 4) dX3_isBeating_1 rfl fq_X3_32 (gP_spec e2) ?_
  refine X.aload_n (x := a2) (pc' := 5) dX3_isBeating_4 rfl rfl rfl ?_
  obtain ⟨⟨⟩, e6, h⟩ := bindE h
  obtain ⟨v3, M4, e5, h⟩ := bd2E h
  refine X.callV (b := r1) (v := some (.int v3)) (As := [.ref a2]) (st := []) (M' := M4) (pc' := 8) dX3_isBeating_5 rfl cl_X3_112 mi_X4_witnessOf me_X4_witnessOf mr_X4_witnessOf e6 ⟨⟨Nat.le_of_ble_eq_true rfl, Nat.le_of_ble_eq_true rfl⟩, Nat.le_of_ble_eq_true rfl, Nat.le_of_ble_eq_true rfl⟩ rfl (Nat.le_of_ble_eq_true rfl) (ok_X4_witnessOf (G := zs G) e5) ?_
  show X G t_X3_isBeating [] 8 [some (.ref a0), some (.ref a1), some (.ref a2), none] [.int v3] M4 0 0 _
  refine X.istore_n (L' := [some (.ref a0), some (.ref a1), some (.ref a2), some (.int v3)]) (pc' := 9) dX3_isBeating_8 rfl rfl (Nat.le_of_ble_eq_true rfl) rfl ?_
  refine X.aload_n (x := a0) (pc' := 10) dX3_isBeating_9 rfl rfl rfl ?_
  obtain ⟨r7, e8, h⟩ := bindE h
  refine X.getf (pc' := 13) dX3_isBeating_10 rfl fq_X3_32 (gP_spec e8) ?_
  refine X.aload_n (x := a1) (pc' := 14) dX3_isBeating_13 rfl rfl rfl ?_
  refine X.iload_n (x := v3) (pc' := 15) dX3_isBeating_14 rfl rfl rfl ?_
  obtain ⟨⟨⟩, e12, h⟩ := bindE h
  obtain ⟨v9, M10, e11, h⟩ := bd2E h
  refine X.callV (b := r7) (v := some (.int v9)) (As := [.ref a1, .int v3]) (st := []) (M' := M10) (pc' := 18) dX3_isBeating_15 rfl cl_X3_68 mi_X4_costAgainst me_X4_costAgainst mr_X4_costAgainst e12 ⟨⟨Nat.le_of_ble_eq_true rfl, Nat.le_of_ble_eq_true rfl⟩, Nat.le_of_ble_eq_true rfl, Nat.le_of_ble_eq_true rfl⟩ rfl (Nat.le_of_ble_eq_true rfl) (ok_X4_costAgainst (G := zs G) e11) ?_
  show X G t_X3_isBeating [] 18 [some (.ref a0), some (.ref a1), some (.ref a2), some (.int v3)] [.int v9] M10 0 0 _
  refine X.aload_n (x := a0) (pc' := 19) dX3_isBeating_18 rfl rfl rfl ?_
  obtain ⟨r13, e14, h⟩ := bindE h
  refine X.getf (pc' := 22) dX3_isBeating_19 rfl fq_X3_32 (gP_spec e14) ?_
  refine X.aload_n (x := a2) (pc' := 23) dX3_isBeating_22 rfl rfl rfl ?_
  refine X.iload_n (x := v3) (pc' := 24) dX3_isBeating_23 rfl rfl rfl ?_
  obtain ⟨⟨⟩, e18, h⟩ := bindE h
  obtain ⟨v15, M16, e17, h⟩ := bd2E h
  refine X.callV (b := r13) (v := some (.int v15)) (As := [.ref a2, .int v3]) (st := [.int v9]) (M' := M16) (pc' := 27) dX3_isBeating_24 rfl cl_X3_68 mi_X4_costAgainst me_X4_costAgainst mr_X4_costAgainst e18 ⟨⟨Nat.le_of_ble_eq_true rfl, Nat.le_of_ble_eq_true rfl⟩, Nat.le_of_ble_eq_true rfl, Nat.le_of_ble_eq_true rfl⟩ rfl (Nat.le_of_ble_eq_true rfl) (ok_X4_costAgainst (G := zs G) e17) ?_
  show X G t_X3_isBeating [] 27 [some (.ref a0), some (.ref a1), some (.ref a2), some (.int v3)] [.int v15, .int v9] M16 0 0 _
  refine X.icmp_ge (tgt := 34) (pc' := 30) dX3_isBeating_27 (by decide) rfl (fun hc => ?_) (fun hc => ?_)
  · rw [if_pos hc] at h
    refine X.iconst (v := 0) (pc' := 35) dX3_isBeating_34 rfl (by decide) ?_
    cases h
    exact X.iret (ty := .boolean) dX3_isBeating_35 rfl rfl (Nat.le_of_ble_eq_true rfl) (Nat.le_of_ble_eq_true rfl) rfl
  · rw [if_neg hc] at h
    refine X.iconst (v := 1) (pc' := 31) dX3_isBeating_30 rfl (by decide) ?_
    refine X.goto (pc' := 35) dX3_isBeating_31 (by decide) ?_
    cases h
    exact X.iret (ty := .boolean) dX3_isBeating_35 rfl rfl (Nat.le_of_ble_eq_true rfl) (Nat.le_of_ble_eq_true rfl) rfl
def f_X3_countBeating_35 (fu : Nat) (a0 : Nat) (a1 : Nat) (a2 : Int32) (a3 : Int32) (M : List Ob) (k4 : Nat → Nat → Int32 → Int32 → List Ob → Option (Int32 × List Ob)) : Option (Int32 × List Ob) :=
  k4 a0 a1 a2 (a3 + 1) M
set_option maxHeartbeats 4000000 in
theorem ok_X3_countBeating_35 {G : GT} {fu : Nat} {out : Int32 × List Ob} {a0 : Nat} {a1 : Nat} {a2 : Int32} {a3 : Int32} {M : List Ob} {k4 : Nat → Nat → Int32 → Int32 → List Ob → Option (Int32 × List Ob)} (hk4 : ∀ (a0 : Nat) (a1 : Nat) (a2 : Int32) (a3 : Int32) (M : List Ob), k4 a0 a1 a2 a3 M = some out → X G t_X3_countBeating [] 4 [some (.ref a0), some (.ref a1), some (.int a2), some (.int a3)] [] M 0 0 (oI out)) (h : f_X3_countBeating_35 fu a0 a1 a2 a3 M k4 = some out) : X G t_X3_countBeating [] 35 [some (.ref a0), some (.ref a1), some (.int a2), some (.int a3)] [] M 0 0 (oI out) := by
  unfold f_X3_countBeating_35 at h
  refine X.iinc (v := (a3 + 1)) (L' := [some (.ref a0), some (.ref a1), some (.int a2), some (.int (a3 + 1))]) (pc' := 38) dX3_countBeating_35 rfl rfl (congrArg (fun y => a3 + y) (show Int32.ofInt 1 = 1 by decide)) (Nat.le_of_ble_eq_true rfl) rfl ?_
  refine X.goto (pc' := 4) dX3_countBeating_38 (by decide) ?_
  exact hk4 _ _ _ _ _ h
def f_X3_countBeating_4b (fu : Nat) (a0 : Nat) (a1 : Nat) (a2 : Int32) (a3 : Int32) (M : List Ob) (k4 : Nat → Nat → Int32 → Int32 → List Ob → Option (Int32 × List Ob)) : Option (Int32 × List Ob) :=
  (gP M a0 3 0).bind fun r1 =>
  (gI M r1 8 3).bind fun v3 =>
  if v3 ≤ a3 then (some (a2, M))
  else ((gP M a0 3 0).bind fun r5 =>
  (gP M r5 8 2).bind fun r7 =>
  (aP M r7 14 a3).bind fun r10 =>
  (hasO M a0 3).bind fun _ =>
  bd2 (f_X3_isBeating fu a0 r10 a1 M) fun v11 M12 =>
  if v11 = 0 then (f_X3_countBeating_35 fu a0 a1 a2 a3 M12 k4)
  else (f_X3_countBeating_35 fu a0 a1 (a2 + 1) a3 M12 k4))
set_option maxHeartbeats 4000000 in
theorem ok_X3_countBeating_4b {G : GT} {fu : Nat} {out : Int32 × List Ob} {a0 : Nat} {a1 : Nat} {a2 : Int32} {a3 : Int32} {M : List Ob} {k4 : Nat → Nat → Int32 → Int32 → List Ob → Option (Int32 × List Ob)} (hk4 : ∀ (a0 : Nat) (a1 : Nat) (a2 : Int32) (a3 : Int32) (M : List Ob), k4 a0 a1 a2 a3 M = some out → X G t_X3_countBeating [] 4 [some (.ref a0), some (.ref a1), some (.int a2), some (.int a3)] [] M 0 0 (oI out)) (h : f_X3_countBeating_4b fu a0 a1 a2 a3 M k4 = some out) : X G t_X3_countBeating [] 4 [some (.ref a0), some (.ref a1), some (.int a2), some (.int a3)] [] M 0 0 (oI out) := by
  unfold f_X3_countBeating_4b at h
  refine X.iload_n (x := a3) (pc' := 5) dX3_countBeating_4 rfl rfl rfl ?_
  refine X.aload_n (x := a0) (pc' := 6) dX3_countBeating_5 rfl rfl rfl ?_
  obtain ⟨r1, e2, h⟩ := bindE h
  refine X.getf (pc' := 9) dX3_countBeating_6 rfl fq_X3_22 (gP_spec e2) ?_
  obtain ⟨v3, e4, h⟩ := bindE h
  refine X.getf (pc' := 12) dX3_countBeating_9 rfl fq_X3_61 (gI_spec e4) ?_
  refine X.icmp_ge (tgt := 41) (pc' := 15) dX3_countBeating_12 (by decide) rfl (fun hc => ?_) (fun hc => ?_)
  · rw [if_pos hc] at h
    refine X.iload_n (x := a2) (pc' := 42) dX3_countBeating_41 rfl rfl rfl ?_
    cases h
    exact X.iret (ty := .int) dX3_countBeating_42 rfl rfl (Nat.le_of_ble_eq_true rfl) (Nat.le_of_ble_eq_true rfl) rfl
  · rw [if_neg hc] at h
    refine X.aload_n (x := a0) (pc' := 16) dX3_countBeating_15 rfl rfl rfl ?_
    refine X.aload_n (x := a0) (pc' := 17) dX3_countBeating_16 rfl rfl rfl ?_
    obtain ⟨r5, e6, h⟩ := bindE h
    refine X.getf (pc' := 20) dX3_countBeating_17 rfl fq_X3_22 (gP_spec e6) ?_
    obtain ⟨r7, e8, h⟩ := bindE h
    refine X.getf (pc' := 23) dX3_countBeating_20 rfl fq_X3_64 (gP_spec e8) ?_
    refine X.iload_n (x := a3) (pc' := 24) dX3_countBeating_23 rfl rfl rfl ?_
    obtain ⟨r10, e9, h⟩ := bindE h
    refine X.aald (pc' := 25) dX3_countBeating_24 rfl (by decide) e9 ?_
    refine X.aload_n (x := a1) (pc' := 26) dX3_countBeating_25 rfl rfl rfl ?_
    obtain ⟨⟨⟩, e14, h⟩ := bindE h
    obtain ⟨v11, M12, e13, h⟩ := bd2E h
    refine X.callV (b := a0) (v := some (.int v11)) (As := [.ref r10, .ref a1]) (st := []) (M' := M12) (pc' := 29) dX3_countBeating_26 rfl cl_X3_116 mi_X3_isBeating me_X3_isBeating mr_X3_isBeating e14 ⟨⟨Nat.le_of_ble_eq_true rfl, Nat.le_of_ble_eq_true rfl⟩, Nat.le_of_ble_eq_true rfl, Nat.le_of_ble_eq_true rfl⟩ rfl (Nat.le_of_ble_eq_true rfl) (ok_X3_isBeating (G := zs G) e13) ?_
    show X G t_X3_countBeating [] 29 [some (.ref a0), some (.ref a1), some (.int a2), some (.int a3)] [.int v11] M12 0 0 _
    refine X.if_eq (tgt := 35) (pc' := 32) dX3_countBeating_29 (by decide) rfl (fun hc => ?_) (fun hc => ?_)
    · rw [if_pos hc] at h
      exact ok_X3_countBeating_35 hk4 h
    · rw [if_neg hc] at h
      refine X.iinc (v := (a2 + 1)) (L' := [some (.ref a0), some (.ref a1), some (.int (a2 + 1)), some (.int a3)]) (pc' := 35) dX3_countBeating_32 rfl rfl (congrArg (fun y => a2 + y) (show Int32.ofInt 1 = 1 by decide)) (Nat.le_of_ble_eq_true rfl) rfl ?_
      exact ok_X3_countBeating_35 hk4 h
def f_X3_countBeating_4 (fu : Nat) : Nat → Nat → Nat → Int32 → Int32 → List Ob → Option (Int32 × List Ob)
  | 0, _, _, _, _, _ => none
  | n + 1, a0, a1, a2, a3, M => f_X3_countBeating_4b fu a0 a1 a2 a3 M (fun a0 a1 a2 a3 M => f_X3_countBeating_4 fu n a0 a1 a2 a3 M)
theorem ok_X3_countBeating_4 {G : GT} {fu : Nat} {out : Int32 × List Ob} : ∀ (n : Nat) (a0 : Nat) (a1 : Nat) (a2 : Int32) (a3 : Int32) (M : List Ob), f_X3_countBeating_4 fu n a0 a1 a2 a3 M = some out → X G t_X3_countBeating [] 4 [some (.ref a0), some (.ref a1), some (.int a2), some (.int a3)] [] M 0 0 (oI out) := by
  intro n
  induction n with
  | zero =>
    intro a0 a1 a2 a3 M h
    unfold f_X3_countBeating_4 at h
    cases h
  | succ n ih =>
    intro a0 a1 a2 a3 M h
    unfold f_X3_countBeating_4 at h
    exact ok_X3_countBeating_4b ih h
def f_X3_countBeating (fu : Nat) (a0 : Nat) (a1 : Nat) (M : List Ob) : Option (Int32 × List Ob) :=
  f_X3_countBeating_4 fu  fu a0 a1 0 0 M
set_option maxHeartbeats 4000000 in
theorem ok_X3_countBeating {G : GT} {fu : Nat} {a0 : Nat} {a1 : Nat} {M : List Ob} {out : Int32 × List Ob} (h : f_X3_countBeating fu a0 a1 M = some out) : Sp G t_X3_countBeating [.ref a0, .ref a1] M (oI out) := by
  refine Sp.of rfl (by decide +kernel) (cat_all rfl) (Nat.le_of_ble_eq_true rfl) ?_
  show X G t_X3_countBeating [] 0 [some (.ref a0), some (.ref a1), none, none] [] M 0 0 (oI out)
  unfold f_X3_countBeating at h
  refine X.iconst (v := 0) (pc' := 1) dX3_countBeating_0 rfl (by decide) ?_
  refine X.istore_n (L' := [some (.ref a0), some (.ref a1), some (.int 0), none]) (pc' := 2) dX3_countBeating_1 rfl rfl (Nat.le_of_ble_eq_true rfl) rfl ?_
  refine X.iconst (v := 0) (pc' := 3) dX3_countBeating_2 rfl (by decide) ?_
  refine X.istore_n (L' := [some (.ref a0), some (.ref a1), some (.int 0), some (.int 0)]) (pc' := 4) dX3_countBeating_3 rfl rfl (Nat.le_of_ble_eq_true rfl) rfl ?_
  refine ok_X3_countBeating_4  fu _ _ _ _ _ h
def f_X6_init (fu : Nat) (a0 : Nat) (a1 : Nat) (a2 : Nat) (a3 : Nat) (M : List Ob) : Option (Unit × List Ob) :=
  bd2 (newO M (5, [.null, .int 0])) fun r1 M2 =>
  bd2 (f_X5_init fu r1 M2) fun _ M5 =>
  (pF M5 a0 6 3 (.ref r1)).bind fun M8 =>
  bd2 (newO M8 (5, [.null, .int 0])) fun r10 M11 =>
  bd2 (f_X5_init fu r10 M11) fun _ M14 =>
  (pF M14 a0 6 4 (.ref r10)).bind fun M17 =>
  (pF M17 a0 6 5 (.int 0)).bind fun M19 =>
  (pF M19 a0 6 6 (.int 0)).bind fun M21 =>
  (pF M21 a0 6 7 (.int 1000000)).bind fun M23 =>
  (pF M23 a0 6 8 (.int 1000000)).bind fun M25 =>
  (pF M25 a0 6 9 (.int 1000000)).bind fun M27 =>
  (pF M27 a0 6 0 (.ref a1)).bind fun M29 =>
  (pF M29 a0 6 1 (.ref a2)).bind fun M31 =>
  (pF M31 a0 6 2 (.ref a3)).bind fun M33 =>
  some ((), M33)
set_option maxHeartbeats 4000000 in
theorem ok_X6_init {G : GT} (hR : Row G) {fu : Nat} {a0 : Nat} {a1 : Nat} {a2 : Nat} {a3 : Nat} {M : List Ob} {out : Unit × List Ob} (h : f_X6_init fu a0 a1 a2 a3 M = some out) : Sp G t_X6_init [.ref a0, .ref a1, .ref a2, .ref a3] M (oU out) := by
  refine Sp.of rfl (by decide +kernel) (cat_all rfl) (Nat.le_of_ble_eq_true rfl) ?_
  show X G t_X6_init [] 0 [some (.ref a0), some (.ref a1), some (.ref a2), some (.ref a3)] [] M 0 0 (oU out)
  unfold f_X6_init at h
  refine X.aload_n (x := a0) (pc' := 1) dX6_init_0 rfl rfl rfl ?_
  refine X.objI (pc' := 4) dX6_init_1 rfl (TBg_of 341 (by decide +kernel) rfl) (Nat.le_of_ble_eq_true rfl) (Nat.le_of_ble_eq_true rfl) ?_
  refine X.aload_n (x := a0) (pc' := 5) dX6_init_4 rfl rfl rfl ?_
  obtain ⟨r1, M2, e3, h⟩ := bd2E h
  refine X.newo (ci := 5) (r := (RX5, TX5, 2)) (fs := [.null, .int 0]) (pc' := 8) dX6_init_5 rfl rfl (TBg_of 342 (by decide +kernel) rfl) (TBg_of 161 (by decide +kernel) rfl) (TBg_of 52 (by decide +kernel) rfl) tyX5 tyX5_ok (df_5 _) hR (Nat.le_of_ble_eq_true rfl) (Nat.le_of_ble_eq_true rfl) e3 ?_
  show X G t_X6_init [] 8 [some (.ref a0), some (.ref a1), some (.ref a2), some (.ref a3)] [.ref r1, .ref a0] M2 1 2 _
  refine X.dup (pc' := 9) dX6_init_8 rfl rfl ?_
  obtain ⟨r4, M5, e6, h⟩ := bd2E h
  refine X.callIN (b := r1) (As := []) (st := [.ref r1, .ref a0]) (M' := M5) (pc' := 12) dX6_init_9 rfl cl_X6_11 rfl rfl mi_X5_init ⟨⟨Nat.le_of_ble_eq_true rfl, Nat.le_of_ble_eq_true rfl⟩, Nat.le_of_ble_eq_true rfl, Nat.le_of_ble_eq_true rfl⟩ rfl (Nat.le_of_ble_eq_true rfl) (ok_X5_init (G := zs G) (hR := hR) e6) ?_
  show X G t_X6_init [] 12 [some (.ref a0), some (.ref a1), some (.ref a2), some (.ref a3)] [.ref r1, .ref a0] M5 2 9 _
  obtain ⟨M8, e9, h⟩ := bindE h
  refine X.putF (pc' := 15) dX6_init_12 rfl fq_X6_12 rfl (fun r hr => by cases hr; rfl) rfl rfl e9 ?_
  refine X.aload_n (x := a0) (pc' := 16) dX6_init_15 rfl rfl rfl ?_
  obtain ⟨r10, M11, e12, h⟩ := bd2E h
  refine X.newo (ci := 5) (r := (RX5, TX5, 2)) (fs := [.null, .int 0]) (pc' := 19) dX6_init_16 rfl rfl (TBg_of 342 (by decide +kernel) rfl) (TBg_of 161 (by decide +kernel) rfl) (TBg_of 52 (by decide +kernel) rfl) tyX5 tyX5_ok (df_5 _) hR (Nat.le_of_ble_eq_true rfl) (Nat.le_of_ble_eq_true rfl) e12 ?_
  show X G t_X6_init [] 19 [some (.ref a0), some (.ref a1), some (.ref a2), some (.ref a3)] [.ref r10, .ref a0] M11 3 11 _
  refine X.dup (pc' := 20) dX6_init_19 rfl rfl ?_
  obtain ⟨r13, M14, e15, h⟩ := bd2E h
  refine X.callIN (b := r10) (As := []) (st := [.ref r10, .ref a0]) (M' := M14) (pc' := 23) dX6_init_20 rfl cl_X6_11 rfl rfl mi_X5_init ⟨⟨Nat.le_of_ble_eq_true rfl, Nat.le_of_ble_eq_true rfl⟩, Nat.le_of_ble_eq_true rfl, Nat.le_of_ble_eq_true rfl⟩ rfl (Nat.le_of_ble_eq_true rfl) (ok_X5_init (G := zs G) (hR := hR) e15) ?_
  show X G t_X6_init [] 23 [some (.ref a0), some (.ref a1), some (.ref a2), some (.ref a3)] [.ref r10, .ref a0] M14 4 18 _
  obtain ⟨M17, e18, h⟩ := bindE h
  refine X.putF (pc' := 26) dX6_init_23 rfl fq_X6_18 rfl (fun r hr => by cases hr; rfl) rfl rfl e18 ?_
  refine X.aload_n (x := a0) (pc' := 27) dX6_init_26 rfl rfl rfl ?_
  refine X.iconst (v := 0) (pc' := 28) dX6_init_27 rfl (by decide) ?_
  obtain ⟨M19, e20, h⟩ := bindE h
  refine X.putf (pc' := 31) dX6_init_28 rfl fq_X6_21 rfl rfl e20 ?_
  refine X.aload_n (x := a0) (pc' := 32) dX6_init_31 rfl rfl rfl ?_
  refine X.iconst (v := 0) (pc' := 33) dX6_init_32 rfl (by decide) ?_
  obtain ⟨M21, e22, h⟩ := bindE h
  refine X.putf (pc' := 36) dX6_init_33 rfl fq_X6_25 rfl rfl e22 ?_
  refine X.aload_n (x := a0) (pc' := 37) dX6_init_36 rfl rfl rfl ?_
  refine X.ldc (v := 1000000) (pc' := 39) dX6_init_37 rfl (TBg_of 344 (by decide +kernel) rfl) ?_
  obtain ⟨M23, e24, h⟩ := bindE h
  refine X.putf (pc' := 42) dX6_init_39 rfl fq_X6_29 rfl rfl e24 ?_
  refine X.aload_n (x := a0) (pc' := 43) dX6_init_42 rfl rfl rfl ?_
  refine X.ldc (v := 1000000) (pc' := 45) dX6_init_43 rfl (TBg_of 344 (by decide +kernel) rfl) ?_
  obtain ⟨M25, e26, h⟩ := bindE h
  refine X.putf (pc' := 48) dX6_init_45 rfl fq_X6_33 rfl rfl e26 ?_
  refine X.aload_n (x := a0) (pc' := 49) dX6_init_48 rfl rfl rfl ?_
  refine X.ldc (v := 1000000) (pc' := 51) dX6_init_49 rfl (TBg_of 344 (by decide +kernel) rfl) ?_
  obtain ⟨M27, e28, h⟩ := bindE h
  refine X.putf (pc' := 54) dX6_init_51 rfl fq_X6_36 rfl rfl e28 ?_
  refine X.aload_n (x := a0) (pc' := 55) dX6_init_54 rfl rfl rfl ?_
  refine X.aload_n (x := a1) (pc' := 56) dX6_init_55 rfl rfl rfl ?_
  obtain ⟨M29, e30, h⟩ := bindE h
  refine X.putF (pc' := 59) dX6_init_56 rfl fq_X6_39 rfl (fun r hr => by cases hr; rfl) rfl rfl e30 ?_
  refine X.aload_n (x := a0) (pc' := 60) dX6_init_59 rfl rfl rfl ?_
  refine X.aload_n (x := a2) (pc' := 61) dX6_init_60 rfl rfl rfl ?_
  obtain ⟨M31, e32, h⟩ := bindE h
  refine X.putF (pc' := 64) dX6_init_61 rfl fq_X6_43 rfl (fun r hr => by cases hr; rfl) rfl rfl e32 ?_
  refine X.aload_n (x := a0) (pc' := 65) dX6_init_64 rfl rfl rfl ?_
  refine X.aload_n (x := a3) (pc' := 66) dX6_init_65 rfl rfl rfl ?_
  obtain ⟨M33, e34, h⟩ := bindE h
  refine X.putF (pc' := 69) dX6_init_66 rfl fq_X6_47 rfl (fun r hr => by cases hr; rfl) rfl rfl e34 ?_
  cases h
  exact X.vret dX6_init_69 rfl (Nat.le_of_ble_eq_true rfl) (Nat.le_of_ble_eq_true rfl) rfl
def f_X6_forgetBest (fu : Nat) (a0 : Nat) (M : List Ob) : Option (Unit × List Ob) :=
  (pF M a0 6 5 (.int 0)).bind fun M1 =>
  (pF M1 a0 6 6 (.int 0)).bind fun M3 =>
  some ((), M3)
set_option maxHeartbeats 4000000 in
theorem ok_X6_forgetBest {G : GT} {fu : Nat} {a0 : Nat} {M : List Ob} {out : Unit × List Ob} (h : f_X6_forgetBest fu a0 M = some out) : Sp G t_X6_forgetBest [.ref a0] M (oU out) := by
  refine Sp.of rfl (by decide +kernel) (cat_all rfl) (Nat.le_of_ble_eq_true rfl) ?_
  show X G t_X6_forgetBest [] 0 [some (.ref a0)] [] M 0 0 (oU out)
  unfold f_X6_forgetBest at h
  refine X.aload_n (x := a0) (pc' := 1) dX6_forgetBest_0 rfl rfl rfl ?_
  refine X.iconst (v := 0) (pc' := 2) dX6_forgetBest_1 rfl (by decide) ?_
  obtain ⟨M1, e2, h⟩ := bindE h
  refine X.putf (pc' := 5) dX6_forgetBest_2 rfl fq_X6_21 rfl rfl e2 ?_
  refine X.aload_n (x := a0) (pc' := 6) dX6_forgetBest_5 rfl rfl rfl ?_
  refine X.iconst (v := 0) (pc' := 7) dX6_forgetBest_6 rfl (by decide) ?_
  obtain ⟨M3, e4, h⟩ := bindE h
  refine X.putf (pc' := 10) dX6_forgetBest_7 rfl fq_X6_25 rfl rfl e4 ?_
  cases h
  exact X.vret dX6_forgetBest_10 rfl (Nat.le_of_ble_eq_true rfl) (Nat.le_of_ble_eq_true rfl) rfl
def f_X7_begin (fu : Nat) (a0 : Nat) (M : List Ob) : Option (Unit × List Ob) :=
  (gP M a0 7 1).bind fun r1 =>
  (hasO M r1 5).bind fun _ =>
  bd2 (f_X5_clear fu r1 M) fun _ M4 =>
  some ((), M4)
set_option maxHeartbeats 4000000 in
theorem ok_X7_begin {G : GT} {fu : Nat} {a0 : Nat} {M : List Ob} {out : Unit × List Ob} (h : f_X7_begin fu a0 M = some out) : Sp G t_X7_begin [.ref a0] M (oU out) := by
  refine Sp.of rfl (by decide +kernel) (cat_all rfl) (Nat.le_of_ble_eq_true rfl) ?_
  show X G t_X7_begin [] 0 [some (.ref a0)] [] M 0 0 (oU out)
  unfold f_X7_begin at h
  refine X.aload_n (x := a0) (pc' := 1) dX7_begin_0 rfl rfl rfl ?_
  obtain ⟨r1, e2, h⟩ := bindE h
  refine X.getf (pc' := 4) dX7_begin_1 rfl fq_X7_12 (gP_spec e2) ?_
  obtain ⟨⟨⟩, e6, h⟩ := bindE h
  obtain ⟨r3, M4, e5, h⟩ := bd2E h
  refine X.callV (b := r1) (v := none) (As := []) (st := []) (M' := M4) (pc' := 7) dX7_begin_4 rfl cl_X7_22 mi_X5_clear me_X5_clear mr_X5_clear e6 ⟨⟨Nat.le_of_ble_eq_true rfl, Nat.le_of_ble_eq_true rfl⟩, Nat.le_of_ble_eq_true rfl, Nat.le_of_ble_eq_true rfl⟩ rfl (Nat.le_of_ble_eq_true rfl) (ok_X5_clear (G := zs G) e5) ?_
  show X G t_X7_begin [] 7 [some (.ref a0)] [] M4 0 0 _
  cases h
  exact X.vret dX7_begin_7 rfl (Nat.le_of_ble_eq_true rfl) (Nat.le_of_ble_eq_true rfl) rfl
def f_X7_followerFrom_2b (fu : Nat) (a0 : Nat) (a2 : Int32) (M : List Ob) (k2 : Nat → Int32 → List Ob → Option (Int32 × List Ob)) : Option (Int32 × List Ob) :=
  (gP M a0 7 0).bind fun r1 =>
  (gI M r1 4 4).bind fun v3 =>
  if v3 ≤ a2 then (some ((-1), M))
  else ((gP M a0 7 0).bind fun r5 =>
  (gP M a0 7 1).bind fun r7 =>
  (hasO M r5 4).bind fun _ =>
  bd2 (f_X4_canFollow fu r5 r7 a2 M) fun v9 M10 =>
  if v9 = 0 then (k2 a0 (a2 + 1) M10)
  else (some (a2, M10)))
set_option maxHeartbeats 4000000 in
theorem ok_X7_followerFrom_2b {G : GT} {fu : Nat} {out : Int32 × List Ob} {a0 : Nat} {a2 : Int32} {M : List Ob} {k2 : Nat → Int32 → List Ob → Option (Int32 × List Ob)} (hk2 : ∀ (a0 : Nat) (a2 : Int32) (M : List Ob), k2 a0 a2 M = some out → X G t_X7_followerFrom [] 2 [some (.ref a0), none, some (.int a2)] [] M 0 0 (oI out)) (h : f_X7_followerFrom_2b fu a0 a2 M k2 = some out) : X G t_X7_followerFrom [] 2 [some (.ref a0), none, some (.int a2)] [] M 0 0 (oI out) := by
  unfold f_X7_followerFrom_2b at h
  refine X.iload_n (x := a2) (pc' := 3) dX7_followerFrom_2 rfl rfl rfl ?_
  refine X.aload_n (x := a0) (pc' := 4) dX7_followerFrom_3 rfl rfl rfl ?_
  obtain ⟨r1, e2, h⟩ := bindE h
  refine X.getf (pc' := 7) dX7_followerFrom_4 rfl fq_X7_18 (gP_spec e2) ?_
  obtain ⟨v3, e4, h⟩ := bindE h
  refine X.getf (pc' := 10) dX7_followerFrom_7 rfl fq_X7_51 (gI_spec e4) ?_
  refine X.icmp_ge (tgt := 36) (pc' := 13) dX7_followerFrom_10 (by decide) rfl (fun hc => ?_) (fun hc => ?_)
  · rw [if_pos hc] at h
    refine X.iconst (v := (-1)) (pc' := 37) dX7_followerFrom_36 rfl (by decide) ?_
    cases h
    exact X.iret (ty := .int) dX7_followerFrom_37 rfl rfl (Nat.le_of_ble_eq_true rfl) (Nat.le_of_ble_eq_true rfl) rfl
  · rw [if_neg hc] at h
    refine X.aload_n (x := a0) (pc' := 14) dX7_followerFrom_13 rfl rfl rfl ?_
    obtain ⟨r5, e6, h⟩ := bindE h
    refine X.getf (pc' := 17) dX7_followerFrom_14 rfl fq_X7_18 (gP_spec e6) ?_
    refine X.aload_n (x := a0) (pc' := 18) dX7_followerFrom_17 rfl rfl rfl ?_
    obtain ⟨r7, e8, h⟩ := bindE h
    refine X.getf (pc' := 21) dX7_followerFrom_18 rfl fq_X7_12 (gP_spec e8) ?_
    refine X.iload_n (x := a2) (pc' := 22) dX7_followerFrom_21 rfl rfl rfl ?_
    obtain ⟨⟨⟩, e12, h⟩ := bindE h
    obtain ⟨v9, M10, e11, h⟩ := bd2E h
    refine X.callV (b := r5) (v := some (.int v9)) (As := [.ref r7, .int a2]) (st := []) (M' := M10) (pc' := 25) dX7_followerFrom_22 rfl cl_X7_54 mi_X4_canFollow me_X4_canFollow mr_X4_canFollow e12 ⟨⟨Nat.le_of_ble_eq_true rfl, Nat.le_of_ble_eq_true rfl⟩, Nat.le_of_ble_eq_true rfl, Nat.le_of_ble_eq_true rfl⟩ rfl (Nat.le_of_ble_eq_true rfl) (ok_X4_canFollow (G := zs G) e11) ?_
    show X G t_X7_followerFrom [] 25 [some (.ref a0), none, some (.int a2)] [.int v9] M10 0 0 _
    refine X.if_eq (tgt := 30) (pc' := 28) dX7_followerFrom_25 (by decide) rfl (fun hc => ?_) (fun hc => ?_)
    · rw [if_pos hc] at h
      refine X.iinc (v := (a2 + 1)) (L' := [some (.ref a0), none, some (.int (a2 + 1))]) (pc' := 33) dX7_followerFrom_30 rfl rfl (congrArg (fun y => a2 + y) (show Int32.ofInt 1 = 1 by decide)) (Nat.le_of_ble_eq_true rfl) rfl ?_
      refine X.goto (pc' := 2) dX7_followerFrom_33 (by decide) ?_
      exact hk2 _ _ _ h
    · rw [if_neg hc] at h
      refine X.iload_n (x := a2) (pc' := 29) dX7_followerFrom_28 rfl rfl rfl ?_
      cases h
      exact X.iret (ty := .int) dX7_followerFrom_29 rfl rfl (Nat.le_of_ble_eq_true rfl) (Nat.le_of_ble_eq_true rfl) rfl
def f_X7_followerFrom_2 (fu : Nat) : Nat → Nat → Int32 → List Ob → Option (Int32 × List Ob)
  | 0, _, _, _ => none
  | n + 1, a0, a2, M => f_X7_followerFrom_2b fu a0 a2 M (fun a0 a2 M => f_X7_followerFrom_2 fu n a0 a2 M)
theorem ok_X7_followerFrom_2 {G : GT} {fu : Nat} {out : Int32 × List Ob} : ∀ (n : Nat) (a0 : Nat) (a2 : Int32) (M : List Ob), f_X7_followerFrom_2 fu n a0 a2 M = some out → X G t_X7_followerFrom [] 2 [some (.ref a0), none, some (.int a2)] [] M 0 0 (oI out) := by
  intro n
  induction n with
  | zero =>
    intro a0 a2 M h
    unfold f_X7_followerFrom_2 at h
    cases h
  | succ n ih =>
    intro a0 a2 M h
    unfold f_X7_followerFrom_2 at h
    exact ok_X7_followerFrom_2b ih h
def f_X7_followerFrom (fu : Nat) (a0 : Nat) (a1 : Int32) (M : List Ob) : Option (Int32 × List Ob) :=
  f_X7_followerFrom_2 fu  fu a0 a1 M
set_option maxHeartbeats 4000000 in
theorem ok_X7_followerFrom {G : GT} {fu : Nat} {a0 : Nat} {a1 : Int32} {M : List Ob} {out : Int32 × List Ob} (h : f_X7_followerFrom fu a0 a1 M = some out) : Sp G t_X7_followerFrom [.ref a0, .int a1] M (oI out) := by
  refine Sp.of rfl (by decide +kernel) (cat_all rfl) (Nat.le_of_ble_eq_true rfl) ?_
  show X G t_X7_followerFrom [] 0 [some (.ref a0), some (.int a1), none] [] M 0 0 (oI out)
  unfold f_X7_followerFrom at h
  refine X.iload_n (x := a1) (pc' := 1) dX7_followerFrom_0 rfl rfl rfl ?_
  refine X.istore_n (L' := [some (.ref a0), some (.int a1), some (.int a1)]) (pc' := 2) dX7_followerFrom_1 rfl rfl (Nat.le_of_ble_eq_true rfl) rfl ?_
  refine X.sub (L := [some (.ref a0), none, some (.int a1)]) ?_ (⟨rfl, ⟨rfl, trivial⟩⟩)
  refine ok_X7_followerFrom_2  fu _ _ _ h
def f_X7_advance_87 (fu : Nat) (a0 : Nat) (a1 : Int32) (a2 : Int32) (M : List Ob) (k12 : Nat → Int32 → Int32 → List Ob → Option (Int32 × List Ob)) : Option (Int32 × List Ob) :=
  k12 a0 a1 (a2 + 1) M
set_option maxHeartbeats 4000000 in
theorem ok_X7_advance_87 {G : GT} {fu : Nat} {out : Int32 × List Ob} {a0 : Nat} {a1 : Int32} {a2 : Int32} {M : List Ob} {k12 : Nat → Int32 → Int32 → List Ob → Option (Int32 × List Ob)} (hk12 : ∀ (a0 : Nat) (a1 : Int32) (a2 : Int32) (M : List Ob), k12 a0 a1 a2 M = some out → X G t_X7_advance [] 12 [some (.ref a0), some (.int a1), some (.int a2), none] [] M 0 0 (oI out)) (h : f_X7_advance_87 fu a0 a1 a2 M k12 = some out) : X G t_X7_advance [] 87 [some (.ref a0), some (.int a1), some (.int a2), none] [] M 0 0 (oI out) := by
  unfold f_X7_advance_87 at h
  refine X.iinc (v := (a2 + 1)) (L' := [some (.ref a0), some (.int a1), some (.int (a2 + 1)), none]) (pc' := 90) dX7_advance_87 rfl rfl (congrArg (fun y => a2 + y) (show Int32.ofInt 1 = 1 by decide)) (Nat.le_of_ble_eq_true rfl) rfl ?_
  refine X.goto (pc' := 12) dX7_advance_90 (by decide) ?_
  exact hk12 _ _ _ _ h
def f_X7_advance_12b (fu : Nat) (a0 : Nat) (a1 : Int32) (a2 : Int32) (M : List Ob) (k12 : Nat → Int32 → Int32 → List Ob → Option (Int32 × List Ob)) : Option (Int32 × List Ob) :=
  if 1000000 ≤ a2 then (some (0, M))
  else ((hasO M a0 7).bind fun _ =>
  bd2 (f_X7_followerFrom fu a0 a1 M) fun v1 M2 =>
  if v1 = (-1) then ((gP M2 a0 7 1).bind fun r5 =>
  (gI M2 r5 5 1).bind fun v7 =>
  if v7 = 0 then (some (0, M2))
  else ((gP M2 a0 7 1).bind fun r9 =>
  (hasO M2 r9 5).bind fun _ =>
  bd2 (f_X5_pop fu r9 M2) fun v11 M12 =>
  f_X7_advance_87 fu a0 (v11 + 1) a2 M12 k12))
  else ((gP M2 a0 7 1).bind fun r15 =>
  (hasO M2 r15 5).bind fun _ =>
  bd2 (f_X5_push fu r15 v1 M2) fun _ M18 =>
  (gP M18 a0 7 0).bind fun r21 =>
  (gP M18 a0 7 1).bind fun r23 =>
  (hasO M18 r21 4).bind fun _ =>
  bd2 (f_X4_endOf fu r21 r23 M18) fun v25 M26 =>
  (gP M26 a0 7 0).bind fun r29 =>
  (gI M26 r29 4 2).bind fun v31 =>
  if v25 = v31 then (some (1, M26))
  else (f_X7_advance_87 fu a0 0 a2 M26 k12)))
set_option maxHeartbeats 4000000 in
theorem ok_X7_advance_12b {G : GT} {fu : Nat} {out : Int32 × List Ob} {a0 : Nat} {a1 : Int32} {a2 : Int32} {M : List Ob} {k12 : Nat → Int32 → Int32 → List Ob → Option (Int32 × List Ob)} (hk12 : ∀ (a0 : Nat) (a1 : Int32) (a2 : Int32) (M : List Ob), k12 a0 a1 a2 M = some out → X G t_X7_advance [] 12 [some (.ref a0), some (.int a1), some (.int a2), none] [] M 0 0 (oI out)) (h : f_X7_advance_12b fu a0 a1 a2 M k12 = some out) : X G t_X7_advance [] 12 [some (.ref a0), some (.int a1), some (.int a2), none] [] M 0 0 (oI out) := by
  unfold f_X7_advance_12b at h
  refine X.iload_n (x := a2) (pc' := 13) dX7_advance_12 rfl rfl rfl ?_
  refine X.ldc (v := 1000000) (pc' := 15) dX7_advance_13 rfl (TBg_of 461 (by decide +kernel) rfl) ?_
  refine X.icmp_ge (tgt := 93) (pc' := 18) dX7_advance_15 (by decide) rfl (fun hc => ?_) (fun hc => ?_)
  · rw [if_pos hc] at h
    refine X.iconst (v := 0) (pc' := 94) dX7_advance_93 rfl (by decide) ?_
    cases h
    exact X.iret (ty := .boolean) dX7_advance_94 rfl rfl (Nat.le_of_ble_eq_true rfl) (Nat.le_of_ble_eq_true rfl) rfl
  · rw [if_neg hc] at h
    refine X.aload_n (x := a0) (pc' := 19) dX7_advance_18 rfl rfl rfl ?_
    refine X.iload_n (x := a1) (pc' := 20) dX7_advance_19 rfl rfl rfl ?_
    obtain ⟨⟨⟩, e4, h⟩ := bindE h
    obtain ⟨v1, M2, e3, h⟩ := bd2E h
    refine X.callV (b := a0) (v := some (.int v1)) (As := [.int a1]) (st := []) (M' := M2) (pc' := 23) dX7_advance_20 rfl cl_X7_30 mi_X7_followerFrom me_X7_followerFrom mr_X7_followerFrom e4 ⟨⟨Nat.le_of_ble_eq_true rfl, Nat.le_of_ble_eq_true rfl⟩, Nat.le_of_ble_eq_true rfl, Nat.le_of_ble_eq_true rfl⟩ rfl (Nat.le_of_ble_eq_true rfl) (ok_X7_followerFrom (G := zs G) e3) ?_
    show X G t_X7_advance [] 23 [some (.ref a0), some (.int a1), some (.int a2), none] [.int v1] M2 0 0 _
    refine X.istore_n (L' := [some (.ref a0), some (.int a1), some (.int a2), some (.int v1)]) (pc' := 24) dX7_advance_23 rfl rfl (Nat.le_of_ble_eq_true rfl) rfl ?_
    refine X.iload_n (x := v1) (pc' := 25) dX7_advance_24 rfl rfl rfl ?_
    refine X.iconst (v := (-1)) (pc' := 26) dX7_advance_25 rfl (by decide) ?_
    refine X.icmp_eq (tgt := 65) (pc' := 29) dX7_advance_26 (by decide) rfl (fun hc => ?_) (fun hc => ?_)
    · rw [if_pos hc] at h
      refine X.aload_n (x := a0) (pc' := 66) dX7_advance_65 rfl rfl rfl ?_
      obtain ⟨r5, e6, h⟩ := bindE h
      refine X.getf (pc' := 69) dX7_advance_66 rfl fq_X7_12 (gP_spec e6) ?_
      obtain ⟨v7, e8, h⟩ := bindE h
      refine X.getf (pc' := 72) dX7_advance_69 rfl fq_X7_48 (gI_spec e8) ?_
      refine X.if_ne (tgt := 77) (pc' := 75) dX7_advance_72 (by decide) rfl (fun hc => ?_) (fun hc => ?_)
      · rw [if_neg hc] at h
        refine X.aload_n (x := a0) (pc' := 78) dX7_advance_77 rfl rfl rfl ?_
        obtain ⟨r9, e10, h⟩ := bindE h
        refine X.getf (pc' := 81) dX7_advance_78 rfl fq_X7_12 (gP_spec e10) ?_
        obtain ⟨⟨⟩, e14, h⟩ := bindE h
        obtain ⟨v11, M12, e13, h⟩ := bd2E h
        refine X.callV (b := r9) (v := some (.int v11)) (As := []) (st := []) (M' := M12) (pc' := 84) dX7_advance_81 rfl cl_X7_25 mi_X5_pop me_X5_pop mr_X5_pop e14 ⟨⟨Nat.le_of_ble_eq_true rfl, Nat.le_of_ble_eq_true rfl⟩, Nat.le_of_ble_eq_true rfl, Nat.le_of_ble_eq_true rfl⟩ rfl (Nat.le_of_ble_eq_true rfl) (ok_X5_pop (G := zs G) e13) ?_
        show X G t_X7_advance [] 84 [some (.ref a0), some (.int a1), some (.int a2), some (.int v1)] [.int v11] M12 0 0 _
        refine X.iconst (v := 1) (pc' := 85) dX7_advance_84 rfl (by decide) ?_
        refine X.iadd (pc' := 86) dX7_advance_85 rfl ?_
        refine X.istore_n (L' := [some (.ref a0), some (.int (v11 + 1)), some (.int a2), some (.int v1)]) (pc' := 87) dX7_advance_86 rfl rfl (Nat.le_of_ble_eq_true rfl) rfl ?_
        refine X.sub (L := [some (.ref a0), some (.int (v11 + 1)), some (.int a2), none]) ?_ (⟨rfl, ⟨rfl, ⟨rfl, trivial⟩⟩⟩)
        exact ok_X7_advance_87 hk12 h
      · rw [if_pos hc] at h
        refine X.iconst (v := 0) (pc' := 76) dX7_advance_75 rfl (by decide) ?_
        cases h
        exact X.iret (ty := .boolean) dX7_advance_76 rfl rfl (Nat.le_of_ble_eq_true rfl) (Nat.le_of_ble_eq_true rfl) rfl
    · rw [if_neg hc] at h
      refine X.aload_n (x := a0) (pc' := 30) dX7_advance_29 rfl rfl rfl ?_
      obtain ⟨r15, e16, h⟩ := bindE h
      refine X.getf (pc' := 33) dX7_advance_30 rfl fq_X7_12 (gP_spec e16) ?_
      refine X.iload_n (x := v1) (pc' := 34) dX7_advance_33 rfl rfl rfl ?_
      obtain ⟨⟨⟩, e20, h⟩ := bindE h
      obtain ⟨r17, M18, e19, h⟩ := bd2E h
      refine X.callV (b := r15) (v := none) (As := [.int v1]) (st := []) (M' := M18) (pc' := 37) dX7_advance_34 rfl cl_X7_34 mi_X5_push me_X5_push mr_X5_push e20 ⟨⟨Nat.le_of_ble_eq_true rfl, Nat.le_of_ble_eq_true rfl⟩, Nat.le_of_ble_eq_true rfl, Nat.le_of_ble_eq_true rfl⟩ rfl (Nat.le_of_ble_eq_true rfl) (ok_X5_push (G := zs G) e19) ?_
      show X G t_X7_advance [] 37 [some (.ref a0), some (.int a1), some (.int a2), some (.int v1)] [] M18 0 0 _
      refine X.aload_n (x := a0) (pc' := 38) dX7_advance_37 rfl rfl rfl ?_
      obtain ⟨r21, e22, h⟩ := bindE h
      refine X.getf (pc' := 41) dX7_advance_38 rfl fq_X7_18 (gP_spec e22) ?_
      refine X.aload_n (x := a0) (pc' := 42) dX7_advance_41 rfl rfl rfl ?_
      obtain ⟨r23, e24, h⟩ := bindE h
      refine X.getf (pc' := 45) dX7_advance_42 rfl fq_X7_12 (gP_spec e24) ?_
      obtain ⟨⟨⟩, e28, h⟩ := bindE h
      obtain ⟨v25, M26, e27, h⟩ := bd2E h
      refine X.callV (b := r21) (v := some (.int v25)) (As := [.ref r23]) (st := []) (M' := M26) (pc' := 48) dX7_advance_45 rfl cl_X7_38 mi_X4_endOf me_X4_endOf mr_X4_endOf e28 ⟨⟨Nat.le_of_ble_eq_true rfl, Nat.le_of_ble_eq_true rfl⟩, Nat.le_of_ble_eq_true rfl, Nat.le_of_ble_eq_true rfl⟩ rfl (Nat.le_of_ble_eq_true rfl) (ok_X4_endOf (G := zs G) e27) ?_
      show X G t_X7_advance [] 48 [some (.ref a0), some (.int a1), some (.int a2), some (.int v1)] [.int v25] M26 0 0 _
      refine X.aload_n (x := a0) (pc' := 49) dX7_advance_48 rfl rfl rfl ?_
      obtain ⟨r29, e30, h⟩ := bindE h
      refine X.getf (pc' := 52) dX7_advance_49 rfl fq_X7_18 (gP_spec e30) ?_
      obtain ⟨v31, e32, h⟩ := bindE h
      refine X.getf (pc' := 55) dX7_advance_52 rfl fq_X7_44 (gI_spec e32) ?_
      refine X.icmp_ne (tgt := 60) (pc' := 58) dX7_advance_55 (by decide) rfl (fun hc => ?_) (fun hc => ?_)
      · rw [if_neg hc] at h
        refine X.iconst (v := 0) (pc' := 61) dX7_advance_60 rfl (by decide) ?_
        refine X.istore_n (L' := [some (.ref a0), some (.int 0), some (.int a2), some (.int v1)]) (pc' := 62) dX7_advance_61 rfl rfl (Nat.le_of_ble_eq_true rfl) rfl ?_
        refine X.goto (pc' := 87) dX7_advance_62 (by decide) ?_
        refine X.sub (L := [some (.ref a0), some (.int 0), some (.int a2), none]) ?_ (⟨rfl, ⟨rfl, ⟨rfl, trivial⟩⟩⟩)
        exact ok_X7_advance_87 hk12 h
      · rw [if_pos hc] at h
        refine X.iconst (v := 1) (pc' := 59) dX7_advance_58 rfl (by decide) ?_
        cases h
        exact X.iret (ty := .boolean) dX7_advance_59 rfl rfl (Nat.le_of_ble_eq_true rfl) (Nat.le_of_ble_eq_true rfl) rfl
def f_X7_advance_12 (fu : Nat) : Nat → Nat → Int32 → Int32 → List Ob → Option (Int32 × List Ob)
  | 0, _, _, _, _ => none
  | n + 1, a0, a1, a2, M => f_X7_advance_12b fu a0 a1 a2 M (fun a0 a1 a2 M => f_X7_advance_12 fu n a0 a1 a2 M)
theorem ok_X7_advance_12 {G : GT} {fu : Nat} {out : Int32 × List Ob} : ∀ (n : Nat) (a0 : Nat) (a1 : Int32) (a2 : Int32) (M : List Ob), f_X7_advance_12 fu n a0 a1 a2 M = some out → X G t_X7_advance [] 12 [some (.ref a0), some (.int a1), some (.int a2), none] [] M 0 0 (oI out) := by
  intro n
  induction n with
  | zero =>
    intro a0 a1 a2 M h
    unfold f_X7_advance_12 at h
    cases h
  | succ n ih =>
    intro a0 a1 a2 M h
    unfold f_X7_advance_12 at h
    exact ok_X7_advance_12b ih h
def f_X7_advance (fu : Nat) (a0 : Nat) (M : List Ob) : Option (Int32 × List Ob) :=
  (gP M a0 7 1).bind fun r1 =>
  (hasO M r1 5).bind fun _ =>
  bd2 (f_X5_pop fu r1 M) fun v3 M4 =>
  f_X7_advance_12 fu  fu a0 (v3 + 1) 0 M4
set_option maxHeartbeats 4000000 in
theorem ok_X7_advance {G : GT} {fu : Nat} {a0 : Nat} {M : List Ob} {out : Int32 × List Ob} (h : f_X7_advance fu a0 M = some out) : Sp G t_X7_advance [.ref a0] M (oI out) := by
  refine Sp.of rfl (by decide +kernel) (cat_all rfl) (Nat.le_of_ble_eq_true rfl) ?_
  show X G t_X7_advance [] 0 [some (.ref a0), none, none, none] [] M 0 0 (oI out)
  unfold f_X7_advance at h
  refine X.aload_n (x := a0) (pc' := 1) dX7_advance_0 rfl rfl rfl ?_
  obtain ⟨r1, e2, h⟩ := bindE h
  refine X.getf (pc' := 4) dX7_advance_1 rfl fq_X7_12 (gP_spec e2) ?_
  obtain ⟨⟨⟩, e6, h⟩ := bindE h
  obtain ⟨v3, M4, e5, h⟩ := bd2E h
  refine X.callV (b := r1) (v := some (.int v3)) (As := []) (st := []) (M' := M4) (pc' := 7) dX7_advance_4 rfl cl_X7_25 mi_X5_pop me_X5_pop mr_X5_pop e6 ⟨⟨Nat.le_of_ble_eq_true rfl, Nat.le_of_ble_eq_true rfl⟩, Nat.le_of_ble_eq_true rfl, Nat.le_of_ble_eq_true rfl⟩ rfl (Nat.le_of_ble_eq_true rfl) (ok_X5_pop (G := zs G) e5) ?_
  show X G t_X7_advance [] 7 [some (.ref a0), none, none, none] [.int v3] M4 0 0 _
  refine X.iconst (v := 1) (pc' := 8) dX7_advance_7 rfl (by decide) ?_
  refine X.iadd (pc' := 9) dX7_advance_8 rfl ?_
  refine X.istore_n (L' := [some (.ref a0), some (.int (v3 + 1)), none, none]) (pc' := 10) dX7_advance_9 rfl rfl (Nat.le_of_ble_eq_true rfl) rfl ?_
  refine X.iconst (v := 0) (pc' := 11) dX7_advance_10 rfl (by decide) ?_
  refine X.istore_n (L' := [some (.ref a0), some (.int (v3 + 1)), some (.int 0), none]) (pc' := 12) dX7_advance_11 rfl rfl (Nat.le_of_ble_eq_true rfl) rfl ?_
  refine ok_X7_advance_12  fu _ _ _ _ h
def f_X6_isBetter (fu : Nat) (a0 : Nat) (a1 : Nat) (a2 : Int32) (a3 : Int32) (a4 : Int32) (M : List Ob) : Option (Int32 × List Ob) :=
  (gI M a0 6 7).bind fun v1 =>
  if a2 = v1 then ((gI M a0 6 8).bind fun v3 =>
  if a3 = v3 then ((gI M a0 6 9).bind fun v5 =>
  if a4 = v5 then ((gP M a0 6 1).bind fun r7 =>
  (gP M r7 7 1).bind fun r9 =>
  (gI M r9 5 1).bind fun v11 =>
  (gI M a1 5 1).bind fun v13 =>
  if v13 ≤ v11 then (some (0, M))
  else (some (1, M)))
  else ((gI M a0 6 9).bind fun v15 =>
  if v15 ≤ a4 then (some (0, M))
  else (some (1, M))))
  else ((gI M a0 6 8).bind fun v17 =>
  if v17 ≤ a3 then (some (0, M))
  else (some (1, M))))
  else ((gI M a0 6 7).bind fun v19 =>
  if v19 ≤ a2 then (some (0, M))
  else (some (1, M)))
set_option maxHeartbeats 4000000 in
theorem ok_X6_isBetter {G : GT} {fu : Nat} {a0 : Nat} {a1 : Nat} {a2 : Int32} {a3 : Int32} {a4 : Int32} {M : List Ob} {out : Int32 × List Ob} (h : f_X6_isBetter fu a0 a1 a2 a3 a4 M = some out) : Sp G t_X6_isBetter [.ref a0, .ref a1, .int a2, .int a3, .int a4] M (oI out) := by
  refine Sp.of rfl (by decide +kernel) (cat_all rfl) (Nat.le_of_ble_eq_true rfl) ?_
  show X G t_X6_isBetter [] 0 [some (.ref a0), some (.ref a1), some (.int a2), some (.int a3), some (.int a4)] [] M 0 0 (oI out)
  unfold f_X6_isBetter at h
  refine X.iload_n (x := a2) (pc' := 1) dX6_isBetter_0 rfl rfl rfl ?_
  refine X.aload_n (x := a0) (pc' := 2) dX6_isBetter_1 rfl rfl rfl ?_
  obtain ⟨v1, e2, h⟩ := bindE h
  refine X.getf (pc' := 5) dX6_isBetter_2 rfl fq_X6_29 (gI_spec e2) ?_
  refine X.icmp_eq (tgt := 22) (pc' := 8) dX6_isBetter_5 (by decide) rfl (fun hc => ?_) (fun hc => ?_)
  · rw [if_pos hc] at h
    refine X.iload_n (x := a3) (pc' := 23) dX6_isBetter_22 rfl rfl rfl ?_
    refine X.aload_n (x := a0) (pc' := 24) dX6_isBetter_23 rfl rfl rfl ?_
    obtain ⟨v3, e4, h⟩ := bindE h
    refine X.getf (pc' := 27) dX6_isBetter_24 rfl fq_X6_33 (gI_spec e4) ?_
    refine X.icmp_eq (tgt := 44) (pc' := 30) dX6_isBetter_27 (by decide) rfl (fun hc => ?_) (fun hc => ?_)
    · rw [if_pos hc] at h
      refine X.iload (x := a4) (pc' := 46) dX6_isBetter_44 rfl rfl ?_
      refine X.aload_n (x := a0) (pc' := 47) dX6_isBetter_46 rfl rfl rfl ?_
      obtain ⟨v5, e6, h⟩ := bindE h
      refine X.getf (pc' := 50) dX6_isBetter_47 rfl fq_X6_36 (gI_spec e6) ?_
      refine X.icmp_eq (tgt := 68) (pc' := 53) dX6_isBetter_50 (by decide) rfl (fun hc => ?_) (fun hc => ?_)
      · rw [if_pos hc] at h
        refine X.aload_n (x := a0) (pc' := 69) dX6_isBetter_68 rfl rfl rfl ?_
        obtain ⟨r7, e8, h⟩ := bindE h
        refine X.getf (pc' := 72) dX6_isBetter_69 rfl fq_X6_43 (gP_spec e8) ?_
        obtain ⟨r9, e10, h⟩ := bindE h
        refine X.getf (pc' := 75) dX6_isBetter_72 rfl fq_X6_67 (gP_spec e10) ?_
        obtain ⟨v11, e12, h⟩ := bindE h
        refine X.getf (pc' := 78) dX6_isBetter_75 rfl fq_X6_93 (gI_spec e12) ?_
        refine X.aload_n (x := a1) (pc' := 79) dX6_isBetter_78 rfl rfl rfl ?_
        obtain ⟨v13, e14, h⟩ := bindE h
        refine X.getf (pc' := 82) dX6_isBetter_79 rfl fq_X6_93 (gI_spec e14) ?_
        refine X.icmp_ge (tgt := 89) (pc' := 85) dX6_isBetter_82 (by decide) rfl (fun hc => ?_) (fun hc => ?_)
        · rw [if_pos hc] at h
          refine X.iconst (v := 0) (pc' := 90) dX6_isBetter_89 rfl (by decide) ?_
          cases h
          exact X.iret (ty := .boolean) dX6_isBetter_90 rfl rfl (Nat.le_of_ble_eq_true rfl) (Nat.le_of_ble_eq_true rfl) rfl
        · rw [if_neg hc] at h
          refine X.iconst (v := 1) (pc' := 86) dX6_isBetter_85 rfl (by decide) ?_
          refine X.goto (pc' := 90) dX6_isBetter_86 (by decide) ?_
          cases h
          exact X.iret (ty := .boolean) dX6_isBetter_90 rfl rfl (Nat.le_of_ble_eq_true rfl) (Nat.le_of_ble_eq_true rfl) rfl
      · rw [if_neg hc] at h
        refine X.iload (x := a4) (pc' := 55) dX6_isBetter_53 rfl rfl ?_
        refine X.aload_n (x := a0) (pc' := 56) dX6_isBetter_55 rfl rfl rfl ?_
        obtain ⟨v15, e16, h⟩ := bindE h
        refine X.getf (pc' := 59) dX6_isBetter_56 rfl fq_X6_36 (gI_spec e16) ?_
        refine X.icmp_ge (tgt := 66) (pc' := 62) dX6_isBetter_59 (by decide) rfl (fun hc => ?_) (fun hc => ?_)
        · rw [if_pos hc] at h
          refine X.iconst (v := 0) (pc' := 67) dX6_isBetter_66 rfl (by decide) ?_
          cases h
          exact X.iret (ty := .boolean) dX6_isBetter_67 rfl rfl (Nat.le_of_ble_eq_true rfl) (Nat.le_of_ble_eq_true rfl) rfl
        · rw [if_neg hc] at h
          refine X.iconst (v := 1) (pc' := 63) dX6_isBetter_62 rfl (by decide) ?_
          refine X.goto (pc' := 67) dX6_isBetter_63 (by decide) ?_
          cases h
          exact X.iret (ty := .boolean) dX6_isBetter_67 rfl rfl (Nat.le_of_ble_eq_true rfl) (Nat.le_of_ble_eq_true rfl) rfl
    · rw [if_neg hc] at h
      refine X.iload_n (x := a3) (pc' := 31) dX6_isBetter_30 rfl rfl rfl ?_
      refine X.aload_n (x := a0) (pc' := 32) dX6_isBetter_31 rfl rfl rfl ?_
      obtain ⟨v17, e18, h⟩ := bindE h
      refine X.getf (pc' := 35) dX6_isBetter_32 rfl fq_X6_33 (gI_spec e18) ?_
      refine X.icmp_ge (tgt := 42) (pc' := 38) dX6_isBetter_35 (by decide) rfl (fun hc => ?_) (fun hc => ?_)
      · rw [if_pos hc] at h
        refine X.iconst (v := 0) (pc' := 43) dX6_isBetter_42 rfl (by decide) ?_
        cases h
        exact X.iret (ty := .boolean) dX6_isBetter_43 rfl rfl (Nat.le_of_ble_eq_true rfl) (Nat.le_of_ble_eq_true rfl) rfl
      · rw [if_neg hc] at h
        refine X.iconst (v := 1) (pc' := 39) dX6_isBetter_38 rfl (by decide) ?_
        refine X.goto (pc' := 43) dX6_isBetter_39 (by decide) ?_
        cases h
        exact X.iret (ty := .boolean) dX6_isBetter_43 rfl rfl (Nat.le_of_ble_eq_true rfl) (Nat.le_of_ble_eq_true rfl) rfl
  · rw [if_neg hc] at h
    refine X.iload_n (x := a2) (pc' := 9) dX6_isBetter_8 rfl rfl rfl ?_
    refine X.aload_n (x := a0) (pc' := 10) dX6_isBetter_9 rfl rfl rfl ?_
    obtain ⟨v19, e20, h⟩ := bindE h
    refine X.getf (pc' := 13) dX6_isBetter_10 rfl fq_X6_29 (gI_spec e20) ?_
    refine X.icmp_ge (tgt := 20) (pc' := 16) dX6_isBetter_13 (by decide) rfl (fun hc => ?_) (fun hc => ?_)
    · rw [if_pos hc] at h
      refine X.iconst (v := 0) (pc' := 21) dX6_isBetter_20 rfl (by decide) ?_
      cases h
      exact X.iret (ty := .boolean) dX6_isBetter_21 rfl rfl (Nat.le_of_ble_eq_true rfl) (Nat.le_of_ble_eq_true rfl) rfl
    · rw [if_neg hc] at h
      refine X.iconst (v := 1) (pc' := 17) dX6_isBetter_16 rfl (by decide) ?_
      refine X.goto (pc' := 21) dX6_isBetter_17 (by decide) ?_
      cases h
      exact X.iret (ty := .boolean) dX6_isBetter_21 rfl rfl (Nat.le_of_ble_eq_true rfl) (Nat.le_of_ble_eq_true rfl) rfl
def f_X6_keepBetter_19 (fu : Nat) (a0 : Nat) (a1 : Nat) (a2 : Int32) (a3 : Int32) (a4 : Int32) (M : List Ob) : Option (Unit × List Ob) :=
  (gP M a0 6 1).bind fun r1 =>
  (gP M r1 7 1).bind fun r3 =>
  (hasO M a1 5).bind fun _ =>
  bd2 (f_X5_copyFrom fu a1 r3 M) fun _ M6 =>
  (pF M6 a0 6 7 (.int a2)).bind fun M9 =>
  (pF M9 a0 6 8 (.int a3)).bind fun M11 =>
  (pF M11 a0 6 9 (.int a4)).bind fun M13 =>
  some ((), M13)
set_option maxHeartbeats 4000000 in
theorem ok_X6_keepBetter_19 {G : GT} {fu : Nat} {out : Unit × List Ob} (hz : gZ G = false) {a0 : Nat} {a1 : Nat} {a2 : Int32} {a3 : Int32} {a4 : Int32} {M : List Ob} (h : f_X6_keepBetter_19 fu a0 a1 a2 a3 a4 M = some out) : X G t_X6_keepBetter [] 19 [some (.ref a0), some (.ref a1), some (.int a2), some (.int a3), some (.int a4)] [] M 0 0 (oU out) := by
  unfold f_X6_keepBetter_19 at h
  refine X.aload_n (x := a1) (pc' := 20) dX6_keepBetter_19 rfl rfl rfl ?_
  refine X.aload_n (x := a0) (pc' := 21) dX6_keepBetter_20 rfl rfl rfl ?_
  obtain ⟨r1, e2, h⟩ := bindE h
  refine X.getf (pc' := 24) dX6_keepBetter_21 rfl fq_X6_43 (gP_spec e2) ?_
  obtain ⟨r3, e4, h⟩ := bindE h
  refine X.getf (pc' := 27) dX6_keepBetter_24 rfl fq_X6_67 (gP_spec e4) ?_
  obtain ⟨⟨⟩, e8, h⟩ := bindE h
  obtain ⟨r5, M6, e7, h⟩ := bd2E h
  refine X.callV (b := a1) (v := none) (As := [.ref r3]) (st := []) (M' := M6) (pc' := 30) dX6_keepBetter_27 rfl cl_X6_100 mi_X5_copyFrom me_X5_copyFrom mr_X5_copyFrom e8 ⟨⟨Nat.le_of_ble_eq_true rfl, Nat.le_of_ble_eq_true rfl⟩, Nat.le_of_ble_eq_true rfl, Nat.le_of_ble_eq_true rfl⟩ rfl (Nat.le_of_ble_eq_true rfl) (ok_X5_copyFrom (G := zs G) (hz := hz) e7) ?_
  show X G t_X6_keepBetter [] 30 [some (.ref a0), some (.ref a1), some (.int a2), some (.int a3), some (.int a4)] [] M6 0 0 _
  refine X.aload_n (x := a0) (pc' := 31) dX6_keepBetter_30 rfl rfl rfl ?_
  refine X.iload_n (x := a2) (pc' := 32) dX6_keepBetter_31 rfl rfl rfl ?_
  obtain ⟨M9, e10, h⟩ := bindE h
  refine X.putf (pc' := 35) dX6_keepBetter_32 rfl fq_X6_29 rfl rfl e10 ?_
  refine X.aload_n (x := a0) (pc' := 36) dX6_keepBetter_35 rfl rfl rfl ?_
  refine X.iload_n (x := a3) (pc' := 37) dX6_keepBetter_36 rfl rfl rfl ?_
  obtain ⟨M11, e12, h⟩ := bindE h
  refine X.putf (pc' := 40) dX6_keepBetter_37 rfl fq_X6_33 rfl rfl e12 ?_
  refine X.aload_n (x := a0) (pc' := 41) dX6_keepBetter_40 rfl rfl rfl ?_
  refine X.iload (x := a4) (pc' := 43) dX6_keepBetter_41 rfl rfl ?_
  obtain ⟨M13, e14, h⟩ := bindE h
  refine X.putf (pc' := 46) dX6_keepBetter_43 rfl fq_X6_36 rfl rfl e14 ?_
  cases h
  exact X.vret dX6_keepBetter_46 rfl (Nat.le_of_ble_eq_true rfl) (Nat.le_of_ble_eq_true rfl) rfl
def f_X6_keepBetter (fu : Nat) (a0 : Nat) (a1 : Nat) (a2 : Int32) (a3 : Int32) (a4 : Int32) (M : List Ob) : Option (Unit × List Ob) :=
  (gI M a1 5 1).bind fun v1 =>
  if v1 = 0 then (f_X6_keepBetter_19 fu a0 a1 a2 a3 a4 M)
  else ((hasO M a0 6).bind fun _ =>
  bd2 (f_X6_isBetter fu a0 a1 a2 a3 a4 M) fun v3 M4 =>
  if v3 = 0 then (some ((), M4))
  else (f_X6_keepBetter_19 fu a0 a1 a2 a3 a4 M4))
set_option maxHeartbeats 4000000 in
theorem ok_X6_keepBetter {G : GT} (hz : gZ G = false) {fu : Nat} {a0 : Nat} {a1 : Nat} {a2 : Int32} {a3 : Int32} {a4 : Int32} {M : List Ob} {out : Unit × List Ob} (h : f_X6_keepBetter fu a0 a1 a2 a3 a4 M = some out) : Sp G t_X6_keepBetter [.ref a0, .ref a1, .int a2, .int a3, .int a4] M (oU out) := by
  refine Sp.of rfl (by decide +kernel) (cat_all rfl) (Nat.le_of_ble_eq_true rfl) ?_
  show X G t_X6_keepBetter [] 0 [some (.ref a0), some (.ref a1), some (.int a2), some (.int a3), some (.int a4)] [] M 0 0 (oU out)
  unfold f_X6_keepBetter at h
  refine X.aload_n (x := a1) (pc' := 1) dX6_keepBetter_0 rfl rfl rfl ?_
  obtain ⟨v1, e2, h⟩ := bindE h
  refine X.getf (pc' := 4) dX6_keepBetter_1 rfl fq_X6_93 (gI_spec e2) ?_
  refine X.if_eq (tgt := 19) (pc' := 7) dX6_keepBetter_4 (by decide) rfl (fun hc => ?_) (fun hc => ?_)
  · rw [if_pos hc] at h
    exact ok_X6_keepBetter_19 hz h
  · rw [if_neg hc] at h
    refine X.aload_n (x := a0) (pc' := 8) dX6_keepBetter_7 rfl rfl rfl ?_
    refine X.aload_n (x := a1) (pc' := 9) dX6_keepBetter_8 rfl rfl rfl ?_
    refine X.iload_n (x := a2) (pc' := 10) dX6_keepBetter_9 rfl rfl rfl ?_
    refine X.iload_n (x := a3) (pc' := 11) dX6_keepBetter_10 rfl rfl rfl ?_
    refine X.iload (x := a4) (pc' := 13) dX6_keepBetter_11 rfl rfl ?_
    obtain ⟨⟨⟩, e6, h⟩ := bindE h
    obtain ⟨v3, M4, e5, h⟩ := bd2E h
    refine X.callV (b := a0) (v := some (.int v3)) (As := [.ref a1, .int a2, .int a3, .int a4]) (st := []) (M' := M4) (pc' := 16) dX6_keepBetter_13 rfl cl_X6_96 mi_X6_isBetter me_X6_isBetter mr_X6_isBetter e6 ⟨⟨Nat.le_of_ble_eq_true rfl, Nat.le_of_ble_eq_true rfl⟩, Nat.le_of_ble_eq_true rfl, Nat.le_of_ble_eq_true rfl⟩ rfl (Nat.le_of_ble_eq_true rfl) (ok_X6_isBetter (G := zs G) e5) ?_
    show X G t_X6_keepBetter [] 16 [some (.ref a0), some (.ref a1), some (.int a2), some (.int a3), some (.int a4)] [.int v3] M4 0 0 _
    refine X.if_eq (tgt := 46) (pc' := 19) dX6_keepBetter_16 (by decide) rfl (fun hc => ?_) (fun hc => ?_)
    · rw [if_pos hc] at h
      cases h
      exact X.vret dX6_keepBetter_46 rfl (Nat.le_of_ble_eq_true rfl) (Nat.le_of_ble_eq_true rfl) rfl
    · rw [if_neg hc] at h
      exact ok_X6_keepBetter_19 hz h
def f_X6_findBest_82 (fu : Nat) (a0 : Nat) (a1 : Nat) (a2 : Int32) (a3 : Int32) (a4 : Int32) (M : List Ob) (k31 : Nat → Nat → Int32 → Int32 → List Ob → Option (Unit × List Ob)) : Option (Unit × List Ob) :=
  (gP M a0 6 0).bind fun r1 =>
  (gP M a0 6 1).bind fun r3 =>
  (gP M r3 7 1).bind fun r5 =>
  (hasO M r1 4).bind fun _ =>
  bd2 (f_X4_worstOf fu r1 r5 M) fun v7 M8 =>
  (gP M8 a0 6 0).bind fun r11 =>
  (gP M8 a0 6 1).bind fun r13 =>
  (gP M8 r13 7 1).bind fun r15 =>
  (hasO M8 r11 4).bind fun _ =>
  bd2 (f_X4_costAgainst fu r11 r15 0 M8) fun v17 M18 =>
  (hasO M18 a0 6).bind fun _ =>
  bd2 (f_X6_keepBetter fu a0 a1 a4 v7 v17 M18) fun _ M22 =>
  k31 a0 a1 a2 (a3 + 1) M22
set_option maxHeartbeats 4000000 in
theorem ok_X6_findBest_82 {G : GT} {fu : Nat} {out : Unit × List Ob} (hz : gZ G = false) {a0 : Nat} {a1 : Nat} {a2 : Int32} {a3 : Int32} {a4 : Int32} {M : List Ob} {k31 : Nat → Nat → Int32 → Int32 → List Ob → Option (Unit × List Ob)} (hk31 : ∀ (a0 : Nat) (a1 : Nat) (a2 : Int32) (a3 : Int32) (M : List Ob), k31 a0 a1 a2 a3 M = some out → X G t_X6_findBest [] 31 [some (.ref a0), some (.ref a1), some (.int a2), some (.int a3), none] [] M 0 0 (oU out)) (h : f_X6_findBest_82 fu a0 a1 a2 a3 a4 M k31 = some out) : X G t_X6_findBest [] 82 [some (.ref a0), some (.ref a1), some (.int a2), some (.int a3), some (.int a4)] [] M 0 0 (oU out) := by
  unfold f_X6_findBest_82 at h
  refine X.aload_n (x := a0) (pc' := 83) dX6_findBest_82 rfl rfl rfl ?_
  refine X.aload_n (x := a1) (pc' := 84) dX6_findBest_83 rfl rfl rfl ?_
  refine X.iload (x := a4) (pc' := 86) dX6_findBest_84 rfl rfl ?_
  refine X.aload_n (x := a0) (pc' := 87) dX6_findBest_86 rfl rfl rfl ?_
  obtain ⟨r1, e2, h⟩ := bindE h
  refine X.getf (pc' := 90) dX6_findBest_87 rfl fq_X6_39 (gP_spec e2) ?_
  refine X.aload_n (x := a0) (pc' := 91) dX6_findBest_90 rfl rfl rfl ?_
  obtain ⟨r3, e4, h⟩ := bindE h
  refine X.getf (pc' := 94) dX6_findBest_91 rfl fq_X6_43 (gP_spec e4) ?_
  obtain ⟨r5, e6, h⟩ := bindE h
  refine X.getf (pc' := 97) dX6_findBest_94 rfl fq_X6_67 (gP_spec e6) ?_
  obtain ⟨⟨⟩, e10, h⟩ := bindE h
  obtain ⟨v7, M8, e9, h⟩ := bd2E h
  refine X.callV (b := r1) (v := some (.int v7)) (As := [.ref r5]) (st := [.int a4, .ref a1, .ref a0]) (M' := M8) (pc' := 100) dX6_findBest_97 rfl cl_X6_79 mi_X4_worstOf me_X4_worstOf mr_X4_worstOf e10 ⟨⟨Nat.le_of_ble_eq_true rfl, Nat.le_of_ble_eq_true rfl⟩, Nat.le_of_ble_eq_true rfl, Nat.le_of_ble_eq_true rfl⟩ rfl (Nat.le_of_ble_eq_true rfl) (ok_X4_worstOf (G := zs G) e9) ?_
  show X G t_X6_findBest [] 100 [some (.ref a0), some (.ref a1), some (.int a2), some (.int a3), some (.int a4)] [.int v7, .int a4, .ref a1, .ref a0] M8 0 0 _
  refine X.aload_n (x := a0) (pc' := 101) dX6_findBest_100 rfl rfl rfl ?_
  obtain ⟨r11, e12, h⟩ := bindE h
  refine X.getf (pc' := 104) dX6_findBest_101 rfl fq_X6_39 (gP_spec e12) ?_
  refine X.aload_n (x := a0) (pc' := 105) dX6_findBest_104 rfl rfl rfl ?_
  obtain ⟨r13, e14, h⟩ := bindE h
  refine X.getf (pc' := 108) dX6_findBest_105 rfl fq_X6_43 (gP_spec e14) ?_
  obtain ⟨r15, e16, h⟩ := bindE h
  refine X.getf (pc' := 111) dX6_findBest_108 rfl fq_X6_67 (gP_spec e16) ?_
  refine X.iconst (v := 0) (pc' := 112) dX6_findBest_111 rfl (by decide) ?_
  obtain ⟨⟨⟩, e20, h⟩ := bindE h
  obtain ⟨v17, M18, e19, h⟩ := bd2E h
  refine X.callV (b := r11) (v := some (.int v17)) (As := [.ref r15, .int 0]) (st := [.int v7, .int a4, .ref a1, .ref a0]) (M' := M18) (pc' := 115) dX6_findBest_112 rfl cl_X6_85 mi_X4_costAgainst me_X4_costAgainst mr_X4_costAgainst e20 ⟨⟨Nat.le_of_ble_eq_true rfl, Nat.le_of_ble_eq_true rfl⟩, Nat.le_of_ble_eq_true rfl, Nat.le_of_ble_eq_true rfl⟩ rfl (Nat.le_of_ble_eq_true rfl) (ok_X4_costAgainst (G := zs G) e19) ?_
  show X G t_X6_findBest [] 115 [some (.ref a0), some (.ref a1), some (.int a2), some (.int a3), some (.int a4)] [.int v17, .int v7, .int a4, .ref a1, .ref a0] M18 0 0 _
  obtain ⟨⟨⟩, e24, h⟩ := bindE h
  obtain ⟨r21, M22, e23, h⟩ := bd2E h
  refine X.callV (b := a0) (v := none) (As := [.ref a1, .int a4, .int v7, .int v17]) (st := []) (M' := M22) (pc' := 118) dX6_findBest_115 rfl cl_X6_89 mi_X6_keepBetter me_X6_keepBetter mr_X6_keepBetter e24 ⟨⟨Nat.le_of_ble_eq_true rfl, Nat.le_of_ble_eq_true rfl⟩, Nat.le_of_ble_eq_true rfl, Nat.le_of_ble_eq_true rfl⟩ rfl (Nat.le_of_ble_eq_true rfl) (ok_X6_keepBetter (G := zs G) (hz := hz) e23) ?_
  show X G t_X6_findBest [] 118 [some (.ref a0), some (.ref a1), some (.int a2), some (.int a3), some (.int a4)] [] M22 0 0 _
  refine X.iinc (v := (a3 + 1)) (L' := [some (.ref a0), some (.ref a1), some (.int a2), some (.int (a3 + 1)), some (.int a4)]) (pc' := 121) dX6_findBest_118 rfl rfl (congrArg (fun y => a3 + y) (show Int32.ofInt 1 = 1 by decide)) (Nat.le_of_ble_eq_true rfl) rfl ?_
  refine X.goto (pc' := 31) dX6_findBest_121 (by decide) ?_
  refine X.sub (L := [some (.ref a0), some (.ref a1), some (.int a2), some (.int (a3 + 1)), none]) ?_ (⟨rfl, ⟨rfl, ⟨rfl, ⟨rfl, trivial⟩⟩⟩⟩)
  exact hk31 _ _ _ _ _ h
def f_X6_findBest_31b (fu : Nat) (a0 : Nat) (a1 : Nat) (a2 : Int32) (a3 : Int32) (M : List Ob) (k31 : Nat → Nat → Int32 → Int32 → List Ob → Option (Unit × List Ob)) : Option (Unit × List Ob) :=
  if 1000000 ≤ a3 then (some ((), M))
  else ((gP M a0 6 1).bind fun r1 =>
  (hasO M r1 7).bind fun _ =>
  bd2 (f_X7_advance fu r1 M) fun v3 M4 =>
  if v3 = 0 then (some ((), M4))
  else (if a2 = 0 then (f_X6_findBest_82 fu a0 a1 a2 a3 0 M4 k31)
  else ((gP M4 a0 6 2).bind fun r7 =>
  (gP M4 a0 6 1).bind fun r9 =>
  (gP M4 r9 7 1).bind fun r11 =>
  (gI M4 a0 6 7).bind fun v13 =>
  (hasO M4 r7 3).bind fun _ =>
  bd2 (f_X3_findGreatest fu r7 r11 0 v13 M4) fun _ M16 =>
  (gP M16 a0 6 2).bind fun r19 =>
  (gI M16 r19 3 3).bind fun v21 =>
  f_X6_findBest_82 fu a0 a1 a2 a3 v21 M16 k31)))
set_option maxHeartbeats 4000000 in
theorem ok_X6_findBest_31b {G : GT} {fu : Nat} {out : Unit × List Ob} (hz : gZ G = false) {a0 : Nat} {a1 : Nat} {a2 : Int32} {a3 : Int32} {M : List Ob} {k31 : Nat → Nat → Int32 → Int32 → List Ob → Option (Unit × List Ob)} (hk31 : ∀ (a0 : Nat) (a1 : Nat) (a2 : Int32) (a3 : Int32) (M : List Ob), k31 a0 a1 a2 a3 M = some out → X G t_X6_findBest [] 31 [some (.ref a0), some (.ref a1), some (.int a2), some (.int a3), none] [] M 0 0 (oU out)) (h : f_X6_findBest_31b fu a0 a1 a2 a3 M k31 = some out) : X G t_X6_findBest [] 31 [some (.ref a0), some (.ref a1), some (.int a2), some (.int a3), none] [] M 0 0 (oU out) := by
  unfold f_X6_findBest_31b at h
  refine X.iload_n (x := a3) (pc' := 32) dX6_findBest_31 rfl rfl rfl ?_
  refine X.ldc (v := 1000000) (pc' := 34) dX6_findBest_32 rfl (TBg_of 344 (by decide +kernel) rfl) ?_
  refine X.icmp_ge (tgt := 124) (pc' := 37) dX6_findBest_34 (by decide) rfl (fun hc => ?_) (fun hc => ?_)
  · rw [if_pos hc] at h
    cases h
    exact X.vret dX6_findBest_124 rfl (Nat.le_of_ble_eq_true rfl) (Nat.le_of_ble_eq_true rfl) rfl
  · rw [if_neg hc] at h
    refine X.aload_n (x := a0) (pc' := 38) dX6_findBest_37 rfl rfl rfl ?_
    obtain ⟨r1, e2, h⟩ := bindE h
    refine X.getf (pc' := 41) dX6_findBest_38 rfl fq_X6_43 (gP_spec e2) ?_
    obtain ⟨⟨⟩, e6, h⟩ := bindE h
    obtain ⟨v3, M4, e5, h⟩ := bd2E h
    refine X.callV (b := r1) (v := some (.int v3)) (As := []) (st := []) (M' := M4) (pc' := 44) dX6_findBest_41 rfl cl_X6_63 mi_X7_advance me_X7_advance mr_X7_advance e6 ⟨⟨Nat.le_of_ble_eq_true rfl, Nat.le_of_ble_eq_true rfl⟩, Nat.le_of_ble_eq_true rfl, Nat.le_of_ble_eq_true rfl⟩ rfl (Nat.le_of_ble_eq_true rfl) (ok_X7_advance (G := zs G) e5) ?_
    show X G t_X6_findBest [] 44 [some (.ref a0), some (.ref a1), some (.int a2), some (.int a3), none] [.int v3] M4 0 0 _
    refine X.if_eq (tgt := 124) (pc' := 47) dX6_findBest_44 (by decide) rfl (fun hc => ?_) (fun hc => ?_)
    · rw [if_pos hc] at h
      cases h
      exact X.vret dX6_findBest_124 rfl (Nat.le_of_ble_eq_true rfl) (Nat.le_of_ble_eq_true rfl) rfl
    · rw [if_neg hc] at h
      refine X.iconst (v := 0) (pc' := 48) dX6_findBest_47 rfl (by decide) ?_
      refine X.istore (L' := [some (.ref a0), some (.ref a1), some (.int a2), some (.int a3), some (.int 0)]) (pc' := 50) dX6_findBest_48 rfl (Nat.le_of_ble_eq_true rfl) rfl ?_
      refine X.iload_n (x := a2) (pc' := 51) dX6_findBest_50 rfl rfl rfl ?_
      refine X.if_eq (tgt := 82) (pc' := 54) dX6_findBest_51 (by decide) rfl (fun hc => ?_) (fun hc => ?_)
      · rw [if_pos hc] at h
        exact ok_X6_findBest_82 hz hk31 h
      · rw [if_neg hc] at h
        refine X.aload_n (x := a0) (pc' := 55) dX6_findBest_54 rfl rfl rfl ?_
        obtain ⟨r7, e8, h⟩ := bindE h
        refine X.getf (pc' := 58) dX6_findBest_55 rfl fq_X6_47 (gP_spec e8) ?_
        refine X.aload_n (x := a0) (pc' := 59) dX6_findBest_58 rfl rfl rfl ?_
        obtain ⟨r9, e10, h⟩ := bindE h
        refine X.getf (pc' := 62) dX6_findBest_59 rfl fq_X6_43 (gP_spec e10) ?_
        obtain ⟨r11, e12, h⟩ := bindE h
        refine X.getf (pc' := 65) dX6_findBest_62 rfl fq_X6_67 (gP_spec e12) ?_
        refine X.iconst (v := 0) (pc' := 66) dX6_findBest_65 rfl (by decide) ?_
        refine X.aload_n (x := a0) (pc' := 67) dX6_findBest_66 rfl rfl rfl ?_
        obtain ⟨v13, e14, h⟩ := bindE h
        refine X.getf (pc' := 70) dX6_findBest_67 rfl fq_X6_29 (gI_spec e14) ?_
        obtain ⟨⟨⟩, e18, h⟩ := bindE h
        obtain ⟨r15, M16, e17, h⟩ := bd2E h
        refine X.callV (b := r7) (v := none) (As := [.ref r11, .int 0, .int v13]) (st := []) (M' := M16) (pc' := 73) dX6_findBest_70 rfl cl_X6_70 mi_X3_findGreatest me_X3_findGreatest mr_X3_findGreatest e18 ⟨⟨Nat.le_of_ble_eq_true rfl, Nat.le_of_ble_eq_true rfl⟩, Nat.le_of_ble_eq_true rfl, Nat.le_of_ble_eq_true rfl⟩ rfl (Nat.le_of_ble_eq_true rfl) (ok_X3_findGreatest (G := zs G) e17) ?_
        show X G t_X6_findBest [] 73 [some (.ref a0), some (.ref a1), some (.int a2), some (.int a3), some (.int 0)] [] M16 0 0 _
        refine X.aload_n (x := a0) (pc' := 74) dX6_findBest_73 rfl rfl rfl ?_
        obtain ⟨r19, e20, h⟩ := bindE h
        refine X.getf (pc' := 77) dX6_findBest_74 rfl fq_X6_47 (gP_spec e20) ?_
        obtain ⟨v21, e22, h⟩ := bindE h
        refine X.getf (pc' := 80) dX6_findBest_77 rfl fq_X6_76 (gI_spec e22) ?_
        refine X.istore (L' := [some (.ref a0), some (.ref a1), some (.int a2), some (.int a3), some (.int v21)]) (pc' := 82) dX6_findBest_80 rfl (Nat.le_of_ble_eq_true rfl) rfl ?_
        exact ok_X6_findBest_82 hz hk31 h
def f_X6_findBest_31 (fu : Nat) : Nat → Nat → Nat → Int32 → Int32 → List Ob → Option (Unit × List Ob)
  | 0, _, _, _, _, _ => none
  | n + 1, a0, a1, a2, a3, M => f_X6_findBest_31b fu a0 a1 a2 a3 M (fun a0 a1 a2 a3 M => f_X6_findBest_31 fu n a0 a1 a2 a3 M)
theorem ok_X6_findBest_31 {G : GT} {fu : Nat} {out : Unit × List Ob} (hz : gZ G = false) : ∀ (n : Nat) (a0 : Nat) (a1 : Nat) (a2 : Int32) (a3 : Int32) (M : List Ob), f_X6_findBest_31 fu n a0 a1 a2 a3 M = some out → X G t_X6_findBest [] 31 [some (.ref a0), some (.ref a1), some (.int a2), some (.int a3), none] [] M 0 0 (oU out) := by
  intro n
  induction n with
  | zero =>
    intro a0 a1 a2 a3 M h
    unfold f_X6_findBest_31 at h
    cases h
  | succ n ih =>
    intro a0 a1 a2 a3 M h
    unfold f_X6_findBest_31 at h
    exact ok_X6_findBest_31b hz ih h
def f_X6_findBest (fu : Nat) (a0 : Nat) (a1 : Nat) (a2 : Int32) (M : List Ob) : Option (Unit × List Ob) :=
  (hasO M a1 5).bind fun _ =>
  bd2 (f_X5_clear fu a1 M) fun _ M2 =>
  (pF M2 a0 6 7 (.int 1000000)).bind fun M5 =>
  (pF M5 a0 6 8 (.int 1000000)).bind fun M7 =>
  (pF M7 a0 6 9 (.int 1000000)).bind fun M9 =>
  (gP M9 a0 6 1).bind fun r11 =>
  (hasO M9 r11 7).bind fun _ =>
  bd2 (f_X7_begin fu r11 M9) fun _ M14 =>
  f_X6_findBest_31 fu  fu a0 a1 a2 0 M14
set_option maxHeartbeats 4000000 in
theorem ok_X6_findBest {G : GT} (hz : gZ G = false) {fu : Nat} {a0 : Nat} {a1 : Nat} {a2 : Int32} {M : List Ob} {out : Unit × List Ob} (h : f_X6_findBest fu a0 a1 a2 M = some out) : Sp G t_X6_findBest [.ref a0, .ref a1, .int a2] M (oU out) := by
  refine Sp.of rfl (by decide +kernel) (cat_all rfl) (Nat.le_of_ble_eq_true rfl) ?_
  show X G t_X6_findBest [] 0 [some (.ref a0), some (.ref a1), some (.int a2), none, none] [] M 0 0 (oU out)
  unfold f_X6_findBest at h
  refine X.aload_n (x := a1) (pc' := 1) dX6_findBest_0 rfl rfl rfl ?_
  obtain ⟨⟨⟩, e4, h⟩ := bindE h
  obtain ⟨r1, M2, e3, h⟩ := bd2E h
  refine X.callV (b := a1) (v := none) (As := []) (st := []) (M' := M2) (pc' := 4) dX6_findBest_1 rfl cl_X6_55 mi_X5_clear me_X5_clear mr_X5_clear e4 ⟨⟨Nat.le_of_ble_eq_true rfl, Nat.le_of_ble_eq_true rfl⟩, Nat.le_of_ble_eq_true rfl, Nat.le_of_ble_eq_true rfl⟩ rfl (Nat.le_of_ble_eq_true rfl) (ok_X5_clear (G := zs G) e3) ?_
  show X G t_X6_findBest [] 4 [some (.ref a0), some (.ref a1), some (.int a2), none, none] [] M2 0 0 _
  refine X.aload_n (x := a0) (pc' := 5) dX6_findBest_4 rfl rfl rfl ?_
  refine X.ldc (v := 1000000) (pc' := 7) dX6_findBest_5 rfl (TBg_of 344 (by decide +kernel) rfl) ?_
  obtain ⟨M5, e6, h⟩ := bindE h
  refine X.putf (pc' := 10) dX6_findBest_7 rfl fq_X6_29 rfl rfl e6 ?_
  refine X.aload_n (x := a0) (pc' := 11) dX6_findBest_10 rfl rfl rfl ?_
  refine X.ldc (v := 1000000) (pc' := 13) dX6_findBest_11 rfl (TBg_of 344 (by decide +kernel) rfl) ?_
  obtain ⟨M7, e8, h⟩ := bindE h
  refine X.putf (pc' := 16) dX6_findBest_13 rfl fq_X6_33 rfl rfl e8 ?_
  refine X.aload_n (x := a0) (pc' := 17) dX6_findBest_16 rfl rfl rfl ?_
  refine X.ldc (v := 1000000) (pc' := 19) dX6_findBest_17 rfl (TBg_of 344 (by decide +kernel) rfl) ?_
  obtain ⟨M9, e10, h⟩ := bindE h
  refine X.putf (pc' := 22) dX6_findBest_19 rfl fq_X6_36 rfl rfl e10 ?_
  refine X.aload_n (x := a0) (pc' := 23) dX6_findBest_22 rfl rfl rfl ?_
  obtain ⟨r11, e12, h⟩ := bindE h
  refine X.getf (pc' := 26) dX6_findBest_23 rfl fq_X6_43 (gP_spec e12) ?_
  obtain ⟨⟨⟩, e16, h⟩ := bindE h
  obtain ⟨r13, M14, e15, h⟩ := bd2E h
  refine X.callV (b := r11) (v := none) (As := []) (st := []) (M' := M14) (pc' := 29) dX6_findBest_26 rfl cl_X6_58 mi_X7_begin me_X7_begin mr_X7_begin e16 ⟨⟨Nat.le_of_ble_eq_true rfl, Nat.le_of_ble_eq_true rfl⟩, Nat.le_of_ble_eq_true rfl, Nat.le_of_ble_eq_true rfl⟩ rfl (Nat.le_of_ble_eq_true rfl) (ok_X7_begin (G := zs G) e15) ?_
  show X G t_X6_findBest [] 29 [some (.ref a0), some (.ref a1), some (.int a2), none, none] [] M14 0 0 _
  refine X.iconst (v := 0) (pc' := 30) dX6_findBest_29 rfl (by decide) ?_
  refine X.istore_n (L' := [some (.ref a0), some (.ref a1), some (.int a2), some (.int 0), none]) (pc' := 31) dX6_findBest_30 rfl rfl (Nat.le_of_ble_eq_true rfl) rfl ?_
  refine ok_X6_findBest_31 hz  fu _ _ _ _ _ h
def f_X6_robustRoute_21 (fu : Nat) (a0 : Nat) (M : List Ob) : Option (Nat × List Ob) :=
  (gP M a0 6 3).bind fun r1 =>
  some (r1, M)
set_option maxHeartbeats 4000000 in
theorem ok_X6_robustRoute_21 {G : GT} {fu : Nat} {out : Nat × List Ob} (hz : gZ G = false) {a0 : Nat} {M : List Ob} (h : f_X6_robustRoute_21 fu a0 M = some out) : X G t_X6_robustRoute [] 21 [some (.ref a0)] [] M 0 0 (oP out) := by
  unfold f_X6_robustRoute_21 at h
  refine X.aload_n (x := a0) (pc' := 22) dX6_robustRoute_21 rfl rfl rfl ?_
  obtain ⟨r1, e2, h⟩ := bindE h
  refine X.getf (pc' := 25) dX6_robustRoute_22 rfl fq_X6_12 (gP_spec e2) ?_
  cases h
  exact X.aret (nm := "RouteBudget$Path") dX6_robustRoute_25 rfl (Nat.le_of_ble_eq_true rfl) (Nat.le_of_ble_eq_true rfl) rfl
def f_X6_robustRoute (fu : Nat) (a0 : Nat) (M : List Ob) : Option (Nat × List Ob) :=
  (gI M a0 6 5).bind fun v1 =>
  if v1 = 0 then ((gP M a0 6 3).bind fun r3 =>
  (hasO M a0 6).bind fun _ =>
  bd2 (f_X6_findBest fu a0 r3 0 M) fun _ M6 =>
  (pF M6 a0 6 5 (.int 1)).bind fun M9 =>
  f_X6_robustRoute_21 fu a0 M9)
  else (f_X6_robustRoute_21 fu a0 M)
set_option maxHeartbeats 4000000 in
theorem ok_X6_robustRoute {G : GT} (hz : gZ G = false) {fu : Nat} {a0 : Nat} {M : List Ob} {out : Nat × List Ob} (h : f_X6_robustRoute fu a0 M = some out) : Sp G t_X6_robustRoute [.ref a0] M (oP out) := by
  refine Sp.of rfl (by decide +kernel) (cat_all rfl) (Nat.le_of_ble_eq_true rfl) ?_
  show X G t_X6_robustRoute [] 0 [some (.ref a0)] [] M 0 0 (oP out)
  unfold f_X6_robustRoute at h
  refine X.aload_n (x := a0) (pc' := 1) dX6_robustRoute_0 rfl rfl rfl ?_
  obtain ⟨v1, e2, h⟩ := bindE h
  refine X.getf (pc' := 4) dX6_robustRoute_1 rfl fq_X6_21 (gI_spec e2) ?_
  refine X.if_ne (tgt := 21) (pc' := 7) dX6_robustRoute_4 (by decide) rfl (fun hc => ?_) (fun hc => ?_)
  · rw [if_neg hc] at h
    exact ok_X6_robustRoute_21 hz h
  · rw [if_pos hc] at h
    refine X.aload_n (x := a0) (pc' := 8) dX6_robustRoute_7 rfl rfl rfl ?_
    refine X.aload_n (x := a0) (pc' := 9) dX6_robustRoute_8 rfl rfl rfl ?_
    obtain ⟨r3, e4, h⟩ := bindE h
    refine X.getf (pc' := 12) dX6_robustRoute_9 rfl fq_X6_12 (gP_spec e4) ?_
    refine X.iconst (v := 0) (pc' := 13) dX6_robustRoute_12 rfl (by decide) ?_
    obtain ⟨⟨⟩, e8, h⟩ := bindE h
    obtain ⟨r5, M6, e7, h⟩ := bd2E h
    refine X.callV (b := a0) (v := none) (As := [.ref r3, .int 0]) (st := []) (M' := M6) (pc' := 16) dX6_robustRoute_13 rfl cl_X6_51 mi_X6_findBest me_X6_findBest mr_X6_findBest e8 ⟨⟨Nat.le_of_ble_eq_true rfl, Nat.le_of_ble_eq_true rfl⟩, Nat.le_of_ble_eq_true rfl, Nat.le_of_ble_eq_true rfl⟩ rfl (Nat.le_of_ble_eq_true rfl) (ok_X6_findBest (G := zs G) (hz := hz) e7) ?_
    show X G t_X6_robustRoute [] 16 [some (.ref a0)] [] M6 0 0 _
    refine X.aload_n (x := a0) (pc' := 17) dX6_robustRoute_16 rfl rfl rfl ?_
    refine X.iconst (v := 1) (pc' := 18) dX6_robustRoute_17 rfl (by decide) ?_
    obtain ⟨M9, e10, h⟩ := bindE h
    refine X.putf (pc' := 21) dX6_robustRoute_18 rfl fq_X6_21 rfl rfl e10 ?_
    exact ok_X6_robustRoute_21 hz h
def f_X6_calmRoute_21 (fu : Nat) (a0 : Nat) (M : List Ob) : Option (Nat × List Ob) :=
  (gP M a0 6 4).bind fun r1 =>
  some (r1, M)
set_option maxHeartbeats 4000000 in
theorem ok_X6_calmRoute_21 {G : GT} {fu : Nat} {out : Nat × List Ob} (hz : gZ G = false) {a0 : Nat} {M : List Ob} (h : f_X6_calmRoute_21 fu a0 M = some out) : X G t_X6_calmRoute [] 21 [some (.ref a0)] [] M 0 0 (oP out) := by
  unfold f_X6_calmRoute_21 at h
  refine X.aload_n (x := a0) (pc' := 22) dX6_calmRoute_21 rfl rfl rfl ?_
  obtain ⟨r1, e2, h⟩ := bindE h
  refine X.getf (pc' := 25) dX6_calmRoute_22 rfl fq_X6_18 (gP_spec e2) ?_
  cases h
  exact X.aret (nm := "RouteBudget$Path") dX6_calmRoute_25 rfl (Nat.le_of_ble_eq_true rfl) (Nat.le_of_ble_eq_true rfl) rfl
def f_X6_calmRoute (fu : Nat) (a0 : Nat) (M : List Ob) : Option (Nat × List Ob) :=
  (gI M a0 6 6).bind fun v1 =>
  if v1 = 0 then ((gP M a0 6 4).bind fun r3 =>
  (hasO M a0 6).bind fun _ =>
  bd2 (f_X6_findBest fu a0 r3 1 M) fun _ M6 =>
  (pF M6 a0 6 6 (.int 1)).bind fun M9 =>
  f_X6_calmRoute_21 fu a0 M9)
  else (f_X6_calmRoute_21 fu a0 M)
set_option maxHeartbeats 4000000 in
theorem ok_X6_calmRoute {G : GT} (hz : gZ G = false) {fu : Nat} {a0 : Nat} {M : List Ob} {out : Nat × List Ob} (h : f_X6_calmRoute fu a0 M = some out) : Sp G t_X6_calmRoute [.ref a0] M (oP out) := by
  refine Sp.of rfl (by decide +kernel) (cat_all rfl) (Nat.le_of_ble_eq_true rfl) ?_
  show X G t_X6_calmRoute [] 0 [some (.ref a0)] [] M 0 0 (oP out)
  unfold f_X6_calmRoute at h
  refine X.aload_n (x := a0) (pc' := 1) dX6_calmRoute_0 rfl rfl rfl ?_
  obtain ⟨v1, e2, h⟩ := bindE h
  refine X.getf (pc' := 4) dX6_calmRoute_1 rfl fq_X6_25 (gI_spec e2) ?_
  refine X.if_ne (tgt := 21) (pc' := 7) dX6_calmRoute_4 (by decide) rfl (fun hc => ?_) (fun hc => ?_)
  · rw [if_neg hc] at h
    exact ok_X6_calmRoute_21 hz h
  · rw [if_pos hc] at h
    refine X.aload_n (x := a0) (pc' := 8) dX6_calmRoute_7 rfl rfl rfl ?_
    refine X.aload_n (x := a0) (pc' := 9) dX6_calmRoute_8 rfl rfl rfl ?_
    obtain ⟨r3, e4, h⟩ := bindE h
    refine X.getf (pc' := 12) dX6_calmRoute_9 rfl fq_X6_18 (gP_spec e4) ?_
    refine X.iconst (v := 1) (pc' := 13) dX6_calmRoute_12 rfl (by decide) ?_
    obtain ⟨⟨⟩, e8, h⟩ := bindE h
    obtain ⟨r5, M6, e7, h⟩ := bd2E h
    refine X.callV (b := a0) (v := none) (As := [.ref r3, .int 1]) (st := []) (M' := M6) (pc' := 16) dX6_calmRoute_13 rfl cl_X6_51 mi_X6_findBest me_X6_findBest mr_X6_findBest e8 ⟨⟨Nat.le_of_ble_eq_true rfl, Nat.le_of_ble_eq_true rfl⟩, Nat.le_of_ble_eq_true rfl, Nat.le_of_ble_eq_true rfl⟩ rfl (Nat.le_of_ble_eq_true rfl) (ok_X6_findBest (G := zs G) (hz := hz) e7) ?_
    show X G t_X6_calmRoute [] 16 [some (.ref a0)] [] M6 0 0 _
    refine X.aload_n (x := a0) (pc' := 17) dX6_calmRoute_16 rfl rfl rfl ?_
    refine X.iconst (v := 1) (pc' := 18) dX6_calmRoute_17 rfl (by decide) ?_
    obtain ⟨M9, e10, h⟩ := bindE h
    refine X.putf (pc' := 21) dX6_calmRoute_18 rfl fq_X6_25 rfl rfl e10 ?_
    exact ok_X6_calmRoute_21 hz h
def f_X7_init (fu : Nat) (a0 : Nat) (a1 : Nat) (M : List Ob) : Option (Unit × List Ob) :=
  bd2 (newO M (5, [.null, .int 0])) fun r1 M2 =>
  bd2 (f_X5_init fu r1 M2) fun _ M5 =>
  (pF M5 a0 7 1 (.ref r1)).bind fun M8 =>
  (pF M8 a0 7 0 (.ref a1)).bind fun M10 =>
  some ((), M10)
set_option maxHeartbeats 4000000 in
theorem ok_X7_init {G : GT} (hR : Row G) {fu : Nat} {a0 : Nat} {a1 : Nat} {M : List Ob} {out : Unit × List Ob} (h : f_X7_init fu a0 a1 M = some out) : Sp G t_X7_init [.ref a0, .ref a1] M (oU out) := by
  refine Sp.of rfl (by decide +kernel) (cat_all rfl) (Nat.le_of_ble_eq_true rfl) ?_
  show X G t_X7_init [] 0 [some (.ref a0), some (.ref a1)] [] M 0 0 (oU out)
  unfold f_X7_init at h
  refine X.aload_n (x := a0) (pc' := 1) dX7_init_0 rfl rfl rfl ?_
  refine X.objI (pc' := 4) dX7_init_1 rfl (TBg_of 302 (by decide +kernel) rfl) (Nat.le_of_ble_eq_true rfl) (Nat.le_of_ble_eq_true rfl) ?_
  refine X.aload_n (x := a0) (pc' := 5) dX7_init_4 rfl rfl rfl ?_
  obtain ⟨r1, M2, e3, h⟩ := bd2E h
  refine X.newo (ci := 5) (r := (RX5, TX5, 2)) (fs := [.null, .int 0]) (pc' := 8) dX7_init_5 rfl rfl (TBg_of 303 (by decide +kernel) rfl) (TBg_of 161 (by decide +kernel) rfl) (TBg_of 52 (by decide +kernel) rfl) tyX5 tyX5_ok (df_5 _) hR (Nat.le_of_ble_eq_true rfl) (Nat.le_of_ble_eq_true rfl) e3 ?_
  show X G t_X7_init [] 8 [some (.ref a0), some (.ref a1)] [.ref r1, .ref a0] M2 1 2 _
  refine X.dup (pc' := 9) dX7_init_8 rfl rfl ?_
  obtain ⟨r4, M5, e6, h⟩ := bd2E h
  refine X.callIN (b := r1) (As := []) (st := [.ref r1, .ref a0]) (M' := M5) (pc' := 12) dX7_init_9 rfl cl_X7_11 rfl rfl mi_X5_init ⟨⟨Nat.le_of_ble_eq_true rfl, Nat.le_of_ble_eq_true rfl⟩, Nat.le_of_ble_eq_true rfl, Nat.le_of_ble_eq_true rfl⟩ rfl (Nat.le_of_ble_eq_true rfl) (ok_X5_init (G := zs G) (hR := hR) e6) ?_
  show X G t_X7_init [] 12 [some (.ref a0), some (.ref a1)] [.ref r1, .ref a0] M5 2 9 _
  obtain ⟨M8, e9, h⟩ := bindE h
  refine X.putF (pc' := 15) dX7_init_12 rfl fq_X7_12 rfl (fun r hr => by cases hr; rfl) rfl rfl e9 ?_
  refine X.aload_n (x := a0) (pc' := 16) dX7_init_15 rfl rfl rfl ?_
  refine X.aload_n (x := a1) (pc' := 17) dX7_init_16 rfl rfl rfl ?_
  obtain ⟨M10, e11, h⟩ := bindE h
  refine X.putF (pc' := 20) dX7_init_17 rfl fq_X7_18 rfl (fun r hr => by cases hr; rfl) rfl rfl e11 ?_
  cases h
  exact X.vret dX7_init_20 rfl (Nat.le_of_ble_eq_true rfl) (Nat.le_of_ble_eq_true rfl) rfl
def f_X7_countRoutes_6b (fu : Nat) (a0 : Nat) (a1 : Int32) (M : List Ob) (k6 : Nat → Int32 → List Ob → Option (Int32 × List Ob)) : Option (Int32 × List Ob) :=
  if 1000000 ≤ a1 then (some (a1, M))
  else ((hasO M a0 7).bind fun _ =>
  bd2 (f_X7_advance fu a0 M) fun v1 M2 =>
  if v1 = 0 then (some (a1, M2))
  else (k6 a0 (a1 + 1) M2))
set_option maxHeartbeats 4000000 in
theorem ok_X7_countRoutes_6b {G : GT} {fu : Nat} {out : Int32 × List Ob} {a0 : Nat} {a1 : Int32} {M : List Ob} {k6 : Nat → Int32 → List Ob → Option (Int32 × List Ob)} (hk6 : ∀ (a0 : Nat) (a1 : Int32) (M : List Ob), k6 a0 a1 M = some out → X G t_X7_countRoutes [] 6 [some (.ref a0), some (.int a1)] [] M 0 0 (oI out)) (h : f_X7_countRoutes_6b fu a0 a1 M k6 = some out) : X G t_X7_countRoutes [] 6 [some (.ref a0), some (.int a1)] [] M 0 0 (oI out) := by
  unfold f_X7_countRoutes_6b at h
  refine X.iload_n (x := a1) (pc' := 7) dX7_countRoutes_6 rfl rfl rfl ?_
  refine X.ldc (v := 1000000) (pc' := 9) dX7_countRoutes_7 rfl (TBg_of 461 (by decide +kernel) rfl) ?_
  refine X.icmp_ge (tgt := 25) (pc' := 12) dX7_countRoutes_9 (by decide) rfl (fun hc => ?_) (fun hc => ?_)
  · rw [if_pos hc] at h
    refine X.iload_n (x := a1) (pc' := 26) dX7_countRoutes_25 rfl rfl rfl ?_
    cases h
    exact X.iret (ty := .int) dX7_countRoutes_26 rfl rfl (Nat.le_of_ble_eq_true rfl) (Nat.le_of_ble_eq_true rfl) rfl
  · rw [if_neg hc] at h
    refine X.aload_n (x := a0) (pc' := 13) dX7_countRoutes_12 rfl rfl rfl ?_
    obtain ⟨⟨⟩, e4, h⟩ := bindE h
    obtain ⟨v1, M2, e3, h⟩ := bd2E h
    refine X.callV (b := a0) (v := some (.int v1)) (As := []) (st := []) (M' := M2) (pc' := 16) dX7_countRoutes_13 rfl cl_X7_61 mi_X7_advance me_X7_advance mr_X7_advance e4 ⟨⟨Nat.le_of_ble_eq_true rfl, Nat.le_of_ble_eq_true rfl⟩, Nat.le_of_ble_eq_true rfl, Nat.le_of_ble_eq_true rfl⟩ rfl (Nat.le_of_ble_eq_true rfl) (ok_X7_advance (G := zs G) e3) ?_
    show X G t_X7_countRoutes [] 16 [some (.ref a0), some (.int a1)] [.int v1] M2 0 0 _
    refine X.if_eq (tgt := 25) (pc' := 19) dX7_countRoutes_16 (by decide) rfl (fun hc => ?_) (fun hc => ?_)
    · rw [if_pos hc] at h
      refine X.iload_n (x := a1) (pc' := 26) dX7_countRoutes_25 rfl rfl rfl ?_
      cases h
      exact X.iret (ty := .int) dX7_countRoutes_26 rfl rfl (Nat.le_of_ble_eq_true rfl) (Nat.le_of_ble_eq_true rfl) rfl
    · rw [if_neg hc] at h
      refine X.iinc (v := (a1 + 1)) (L' := [some (.ref a0), some (.int (a1 + 1))]) (pc' := 22) dX7_countRoutes_19 rfl rfl (congrArg (fun y => a1 + y) (show Int32.ofInt 1 = 1 by decide)) (Nat.le_of_ble_eq_true rfl) rfl ?_
      refine X.goto (pc' := 6) dX7_countRoutes_22 (by decide) ?_
      exact hk6 _ _ _ h
def f_X7_countRoutes_6 (fu : Nat) : Nat → Nat → Int32 → List Ob → Option (Int32 × List Ob)
  | 0, _, _, _ => none
  | n + 1, a0, a1, M => f_X7_countRoutes_6b fu a0 a1 M (fun a0 a1 M => f_X7_countRoutes_6 fu n a0 a1 M)
theorem ok_X7_countRoutes_6 {G : GT} {fu : Nat} {out : Int32 × List Ob} : ∀ (n : Nat) (a0 : Nat) (a1 : Int32) (M : List Ob), f_X7_countRoutes_6 fu n a0 a1 M = some out → X G t_X7_countRoutes [] 6 [some (.ref a0), some (.int a1)] [] M 0 0 (oI out) := by
  intro n
  induction n with
  | zero =>
    intro a0 a1 M h
    unfold f_X7_countRoutes_6 at h
    cases h
  | succ n ih =>
    intro a0 a1 M h
    unfold f_X7_countRoutes_6 at h
    exact ok_X7_countRoutes_6b ih h
def f_X7_countRoutes (fu : Nat) (a0 : Nat) (M : List Ob) : Option (Int32 × List Ob) :=
  (hasO M a0 7).bind fun _ =>
  bd2 (f_X7_begin fu a0 M) fun _ M2 =>
  f_X7_countRoutes_6 fu  fu a0 0 M2
set_option maxHeartbeats 4000000 in
theorem ok_X7_countRoutes {G : GT} {fu : Nat} {a0 : Nat} {M : List Ob} {out : Int32 × List Ob} (h : f_X7_countRoutes fu a0 M = some out) : Sp G t_X7_countRoutes [.ref a0] M (oI out) := by
  refine Sp.of rfl (by decide +kernel) (cat_all rfl) (Nat.le_of_ble_eq_true rfl) ?_
  show X G t_X7_countRoutes [] 0 [some (.ref a0), none] [] M 0 0 (oI out)
  unfold f_X7_countRoutes at h
  refine X.iconst (v := 0) (pc' := 1) dX7_countRoutes_0 rfl (by decide) ?_
  refine X.istore_n (L' := [some (.ref a0), some (.int 0)]) (pc' := 2) dX7_countRoutes_1 rfl rfl (Nat.le_of_ble_eq_true rfl) rfl ?_
  refine X.aload_n (x := a0) (pc' := 3) dX7_countRoutes_2 rfl rfl rfl ?_
  obtain ⟨⟨⟩, e4, h⟩ := bindE h
  obtain ⟨r1, M2, e3, h⟩ := bd2E h
  refine X.callV (b := a0) (v := none) (As := []) (st := []) (M' := M2) (pc' := 6) dX7_countRoutes_3 rfl cl_X7_58 mi_X7_begin me_X7_begin mr_X7_begin e4 ⟨⟨Nat.le_of_ble_eq_true rfl, Nat.le_of_ble_eq_true rfl⟩, Nat.le_of_ble_eq_true rfl, Nat.le_of_ble_eq_true rfl⟩ rfl (Nat.le_of_ble_eq_true rfl) (ok_X7_begin (G := zs G) e3) ?_
  show X G t_X7_countRoutes [] 6 [some (.ref a0), some (.int 0)] [] M2 0 0 _
  refine ok_X7_countRoutes_6  fu _ _ _ h
def f_X7_countWithin_39 (fu : Nat) (a0 : Nat) (a1 : Int32) (a2 : Int32) (a3 : Int32) (M : List Ob) (k8 : Nat → Int32 → Int32 → Int32 → List Ob → Option (Int32 × List Ob)) : Option (Int32 × List Ob) :=
  k8 a0 a1 a2 (a3 + 1) M
set_option maxHeartbeats 4000000 in
theorem ok_X7_countWithin_39 {G : GT} {fu : Nat} {out : Int32 × List Ob} {a0 : Nat} {a1 : Int32} {a2 : Int32} {a3 : Int32} {M : List Ob} {k8 : Nat → Int32 → Int32 → Int32 → List Ob → Option (Int32 × List Ob)} (hk8 : ∀ (a0 : Nat) (a1 : Int32) (a2 : Int32) (a3 : Int32) (M : List Ob), k8 a0 a1 a2 a3 M = some out → X G t_X7_countWithin [] 8 [some (.ref a0), some (.int a1), some (.int a2), some (.int a3)] [] M 0 0 (oI out)) (h : f_X7_countWithin_39 fu a0 a1 a2 a3 M k8 = some out) : X G t_X7_countWithin [] 39 [some (.ref a0), some (.int a1), some (.int a2), some (.int a3)] [] M 0 0 (oI out) := by
  unfold f_X7_countWithin_39 at h
  refine X.iinc (v := (a3 + 1)) (L' := [some (.ref a0), some (.int a1), some (.int a2), some (.int (a3 + 1))]) (pc' := 42) dX7_countWithin_39 rfl rfl (congrArg (fun y => a3 + y) (show Int32.ofInt 1 = 1 by decide)) (Nat.le_of_ble_eq_true rfl) rfl ?_
  refine X.goto (pc' := 8) dX7_countWithin_42 (by decide) ?_
  exact hk8 _ _ _ _ _ h
def f_X7_countWithin_8b (fu : Nat) (a0 : Nat) (a1 : Int32) (a2 : Int32) (a3 : Int32) (M : List Ob) (k8 : Nat → Int32 → Int32 → Int32 → List Ob → Option (Int32 × List Ob)) : Option (Int32 × List Ob) :=
  if 1000000 ≤ a3 then (some (a2, M))
  else ((hasO M a0 7).bind fun _ =>
  bd2 (f_X7_advance fu a0 M) fun v1 M2 =>
  if v1 = 0 then (some (a2, M2))
  else ((gP M2 a0 7 0).bind fun r5 =>
  (gP M2 a0 7 1).bind fun r7 =>
  (hasO M2 r5 4).bind fun _ =>
  bd2 (f_X4_worstOf fu r5 r7 M2) fun v9 M10 =>
  if a1 < v9 then (f_X7_countWithin_39 fu a0 a1 a2 a3 M10 k8)
  else (f_X7_countWithin_39 fu a0 a1 (a2 + 1) a3 M10 k8)))
set_option maxHeartbeats 4000000 in
theorem ok_X7_countWithin_8b {G : GT} {fu : Nat} {out : Int32 × List Ob} {a0 : Nat} {a1 : Int32} {a2 : Int32} {a3 : Int32} {M : List Ob} {k8 : Nat → Int32 → Int32 → Int32 → List Ob → Option (Int32 × List Ob)} (hk8 : ∀ (a0 : Nat) (a1 : Int32) (a2 : Int32) (a3 : Int32) (M : List Ob), k8 a0 a1 a2 a3 M = some out → X G t_X7_countWithin [] 8 [some (.ref a0), some (.int a1), some (.int a2), some (.int a3)] [] M 0 0 (oI out)) (h : f_X7_countWithin_8b fu a0 a1 a2 a3 M k8 = some out) : X G t_X7_countWithin [] 8 [some (.ref a0), some (.int a1), some (.int a2), some (.int a3)] [] M 0 0 (oI out) := by
  unfold f_X7_countWithin_8b at h
  refine X.iload_n (x := a3) (pc' := 9) dX7_countWithin_8 rfl rfl rfl ?_
  refine X.ldc (v := 1000000) (pc' := 11) dX7_countWithin_9 rfl (TBg_of 461 (by decide +kernel) rfl) ?_
  refine X.icmp_ge (tgt := 45) (pc' := 14) dX7_countWithin_11 (by decide) rfl (fun hc => ?_) (fun hc => ?_)
  · rw [if_pos hc] at h
    refine X.iload_n (x := a2) (pc' := 46) dX7_countWithin_45 rfl rfl rfl ?_
    cases h
    exact X.iret (ty := .int) dX7_countWithin_46 rfl rfl (Nat.le_of_ble_eq_true rfl) (Nat.le_of_ble_eq_true rfl) rfl
  · rw [if_neg hc] at h
    refine X.aload_n (x := a0) (pc' := 15) dX7_countWithin_14 rfl rfl rfl ?_
    obtain ⟨⟨⟩, e4, h⟩ := bindE h
    obtain ⟨v1, M2, e3, h⟩ := bd2E h
    refine X.callV (b := a0) (v := some (.int v1)) (As := []) (st := []) (M' := M2) (pc' := 18) dX7_countWithin_15 rfl cl_X7_61 mi_X7_advance me_X7_advance mr_X7_advance e4 ⟨⟨Nat.le_of_ble_eq_true rfl, Nat.le_of_ble_eq_true rfl⟩, Nat.le_of_ble_eq_true rfl, Nat.le_of_ble_eq_true rfl⟩ rfl (Nat.le_of_ble_eq_true rfl) (ok_X7_advance (G := zs G) e3) ?_
    show X G t_X7_countWithin [] 18 [some (.ref a0), some (.int a1), some (.int a2), some (.int a3)] [.int v1] M2 0 0 _
    refine X.if_eq (tgt := 45) (pc' := 21) dX7_countWithin_18 (by decide) rfl (fun hc => ?_) (fun hc => ?_)
    · rw [if_pos hc] at h
      refine X.iload_n (x := a2) (pc' := 46) dX7_countWithin_45 rfl rfl rfl ?_
      cases h
      exact X.iret (ty := .int) dX7_countWithin_46 rfl rfl (Nat.le_of_ble_eq_true rfl) (Nat.le_of_ble_eq_true rfl) rfl
    · rw [if_neg hc] at h
      refine X.aload_n (x := a0) (pc' := 22) dX7_countWithin_21 rfl rfl rfl ?_
      obtain ⟨r5, e6, h⟩ := bindE h
      refine X.getf (pc' := 25) dX7_countWithin_22 rfl fq_X7_18 (gP_spec e6) ?_
      refine X.aload_n (x := a0) (pc' := 26) dX7_countWithin_25 rfl rfl rfl ?_
      obtain ⟨r7, e8, h⟩ := bindE h
      refine X.getf (pc' := 29) dX7_countWithin_26 rfl fq_X7_12 (gP_spec e8) ?_
      obtain ⟨⟨⟩, e12, h⟩ := bindE h
      obtain ⟨v9, M10, e11, h⟩ := bd2E h
      refine X.callV (b := r5) (v := some (.int v9)) (As := [.ref r7]) (st := []) (M' := M10) (pc' := 32) dX7_countWithin_29 rfl cl_X7_65 mi_X4_worstOf me_X4_worstOf mr_X4_worstOf e12 ⟨⟨Nat.le_of_ble_eq_true rfl, Nat.le_of_ble_eq_true rfl⟩, Nat.le_of_ble_eq_true rfl, Nat.le_of_ble_eq_true rfl⟩ rfl (Nat.le_of_ble_eq_true rfl) (ok_X4_worstOf (G := zs G) e11) ?_
      show X G t_X7_countWithin [] 32 [some (.ref a0), some (.int a1), some (.int a2), some (.int a3)] [.int v9] M10 0 0 _
      refine X.iload_n (x := a1) (pc' := 33) dX7_countWithin_32 rfl rfl rfl ?_
      refine X.icmp_gt (tgt := 39) (pc' := 36) dX7_countWithin_33 (by decide) rfl (fun hc => ?_) (fun hc => ?_)
      · rw [if_pos hc] at h
        exact ok_X7_countWithin_39 hk8 h
      · rw [if_neg hc] at h
        refine X.iinc (v := (a2 + 1)) (L' := [some (.ref a0), some (.int a1), some (.int (a2 + 1)), some (.int a3)]) (pc' := 39) dX7_countWithin_36 rfl rfl (congrArg (fun y => a2 + y) (show Int32.ofInt 1 = 1 by decide)) (Nat.le_of_ble_eq_true rfl) rfl ?_
        exact ok_X7_countWithin_39 hk8 h
def f_X7_countWithin_8 (fu : Nat) : Nat → Nat → Int32 → Int32 → Int32 → List Ob → Option (Int32 × List Ob)
  | 0, _, _, _, _, _ => none
  | n + 1, a0, a1, a2, a3, M => f_X7_countWithin_8b fu a0 a1 a2 a3 M (fun a0 a1 a2 a3 M => f_X7_countWithin_8 fu n a0 a1 a2 a3 M)
theorem ok_X7_countWithin_8 {G : GT} {fu : Nat} {out : Int32 × List Ob} : ∀ (n : Nat) (a0 : Nat) (a1 : Int32) (a2 : Int32) (a3 : Int32) (M : List Ob), f_X7_countWithin_8 fu n a0 a1 a2 a3 M = some out → X G t_X7_countWithin [] 8 [some (.ref a0), some (.int a1), some (.int a2), some (.int a3)] [] M 0 0 (oI out) := by
  intro n
  induction n with
  | zero =>
    intro a0 a1 a2 a3 M h
    unfold f_X7_countWithin_8 at h
    cases h
  | succ n ih =>
    intro a0 a1 a2 a3 M h
    unfold f_X7_countWithin_8 at h
    exact ok_X7_countWithin_8b ih h
def f_X7_countWithin (fu : Nat) (a0 : Nat) (a1 : Int32) (M : List Ob) : Option (Int32 × List Ob) :=
  (hasO M a0 7).bind fun _ =>
  bd2 (f_X7_begin fu a0 M) fun _ M2 =>
  f_X7_countWithin_8 fu  fu a0 a1 0 0 M2
set_option maxHeartbeats 4000000 in
theorem ok_X7_countWithin {G : GT} {fu : Nat} {a0 : Nat} {a1 : Int32} {M : List Ob} {out : Int32 × List Ob} (h : f_X7_countWithin fu a0 a1 M = some out) : Sp G t_X7_countWithin [.ref a0, .int a1] M (oI out) := by
  refine Sp.of rfl (by decide +kernel) (cat_all rfl) (Nat.le_of_ble_eq_true rfl) ?_
  show X G t_X7_countWithin [] 0 [some (.ref a0), some (.int a1), none, none] [] M 0 0 (oI out)
  unfold f_X7_countWithin at h
  refine X.iconst (v := 0) (pc' := 1) dX7_countWithin_0 rfl (by decide) ?_
  refine X.istore_n (L' := [some (.ref a0), some (.int a1), some (.int 0), none]) (pc' := 2) dX7_countWithin_1 rfl rfl (Nat.le_of_ble_eq_true rfl) rfl ?_
  refine X.aload_n (x := a0) (pc' := 3) dX7_countWithin_2 rfl rfl rfl ?_
  obtain ⟨⟨⟩, e4, h⟩ := bindE h
  obtain ⟨r1, M2, e3, h⟩ := bd2E h
  refine X.callV (b := a0) (v := none) (As := []) (st := []) (M' := M2) (pc' := 6) dX7_countWithin_3 rfl cl_X7_58 mi_X7_begin me_X7_begin mr_X7_begin e4 ⟨⟨Nat.le_of_ble_eq_true rfl, Nat.le_of_ble_eq_true rfl⟩, Nat.le_of_ble_eq_true rfl, Nat.le_of_ble_eq_true rfl⟩ rfl (Nat.le_of_ble_eq_true rfl) (ok_X7_begin (G := zs G) e3) ?_
  show X G t_X7_countWithin [] 6 [some (.ref a0), some (.int a1), some (.int 0), none] [] M2 0 0 _
  refine X.iconst (v := 0) (pc' := 7) dX7_countWithin_6 rfl (by decide) ?_
  refine X.istore_n (L' := [some (.ref a0), some (.int a1), some (.int 0), some (.int 0)]) (pc' := 8) dX7_countWithin_7 rfl rfl (Nat.le_of_ble_eq_true rfl) rfl ?_
  refine ok_X7_countWithin_8  fu _ _ _ _ _ h
