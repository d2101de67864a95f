def f_J6_bitCount_0f7a4 (fu : Nat) (a0 : Int32) (M : List Ob) : Option (Int32 × List Ob) :=
  nm ((a0 - ((((a0 : Int32).toUInt32 >>> ((1 : Int32).toUInt32 &&& Int32.toUInt32 31)).toInt32) &&& 1431655765))) fun x1 =>
  nm (((x1 &&& 858993459) + ((((x1 : Int32).toUInt32 >>> ((2 : Int32).toUInt32 &&& Int32.toUInt32 31)).toInt32) &&& 858993459))) fun x3 =>
  nm (((x3 + (((x3 : Int32).toUInt32 >>> ((4 : Int32).toUInt32 &&& Int32.toUInt32 31)).toInt32)) &&& 252645135)) fun x5 =>
  nm ((x5 + (((x5 : Int32).toUInt32 >>> ((8 : Int32).toUInt32 &&& Int32.toUInt32 31)).toInt32))) fun x7 =>
  nm ((x7 + (((x7 : Int32).toUInt32 >>> ((16 : Int32).toUInt32 &&& Int32.toUInt32 31)).toInt32))) fun x9 =>
  some ((x9 &&& 63), M)
set_option maxHeartbeats 4000000 in
theorem ok_J6_bitCount_0f7a4 {G : GT} {fu : Nat} {a0 : Int32} {M : List Ob} {out : Int32 × List Ob} (h : f_J6_bitCount_0f7a4 fu a0 M = some out) : Sp G t_J6_bitCount_0f7a4 [.int a0] M (oI out) := by
  refine Sp.of rfl (by decide +kernel) (cat_all rfl) (Nat.le_of_ble_eq_true rfl) ?_
  show X G t_J6_bitCount_0f7a4 [] 0 [some (.int a0)] [] M 0 0 (oI out)
  unfold f_J6_bitCount_0f7a4 at h
  refine X.iload_n (x := a0) (pc' := 1) dJ6_bitCount_0f7a4_0 rfl rfl rfl ?_
  refine X.iload_n (x := a0) (pc' := 2) dJ6_bitCount_0f7a4_1 rfl rfl rfl ?_
  refine X.iconst (v := 1) (pc' := 3) dJ6_bitCount_0f7a4_2 rfl (by decide) ?_
  refine X.iushr (pc' := 4) dJ6_bitCount_0f7a4_3 rfl ?_
  refine X.ldcw (v := 1431655765) (pc' := 7) dJ6_bitCount_0f7a4_4 rfl (TBg_of 993 (by decide +kernel) rfl) ?_
  refine X.iand (pc' := 8) dJ6_bitCount_0f7a4_7 rfl ?_
  refine X.isub (pc' := 9) dJ6_bitCount_0f7a4_8 rfl ?_
  obtain ⟨x1, e2, h⟩ := nmE h
  rw [← e2]
  refine X.istore_n (L' := [some (.int x1)]) (pc' := 10) dJ6_bitCount_0f7a4_9 rfl rfl (Nat.le_of_ble_eq_true rfl) rfl ?_
  refine X.iload_n (x := x1) (pc' := 11) dJ6_bitCount_0f7a4_10 rfl rfl rfl ?_
  refine X.ldcw (v := 858993459) (pc' := 14) dJ6_bitCount_0f7a4_11 rfl (TBg_of 994 (by decide +kernel) rfl) ?_
  refine X.iand (pc' := 15) dJ6_bitCount_0f7a4_14 rfl ?_
  refine X.iload_n (x := x1) (pc' := 16) dJ6_bitCount_0f7a4_15 rfl rfl rfl ?_
  refine X.iconst (v := 2) (pc' := 17) dJ6_bitCount_0f7a4_16 rfl (by decide) ?_
  refine X.iushr (pc' := 18) dJ6_bitCount_0f7a4_17 rfl ?_
  refine X.ldcw (v := 858993459) (pc' := 21) dJ6_bitCount_0f7a4_18 rfl (TBg_of 994 (by decide +kernel) rfl) ?_
  refine X.iand (pc' := 22) dJ6_bitCount_0f7a4_21 rfl ?_
  refine X.iadd (pc' := 23) dJ6_bitCount_0f7a4_22 rfl ?_
  obtain ⟨x3, e4, h⟩ := nmE h
  rw [← e4]
  refine X.istore_n (L' := [some (.int x3)]) (pc' := 24) dJ6_bitCount_0f7a4_23 rfl rfl (Nat.le_of_ble_eq_true rfl) rfl ?_
  refine X.iload_n (x := x3) (pc' := 25) dJ6_bitCount_0f7a4_24 rfl rfl rfl ?_
  refine X.iload_n (x := x3) (pc' := 26) dJ6_bitCount_0f7a4_25 rfl rfl rfl ?_
  refine X.iconst (v := 4) (pc' := 27) dJ6_bitCount_0f7a4_26 rfl (by decide) ?_
  refine X.iushr (pc' := 28) dJ6_bitCount_0f7a4_27 rfl ?_
  refine X.iadd (pc' := 29) dJ6_bitCount_0f7a4_28 rfl ?_
  refine X.ldcw (v := 252645135) (pc' := 32) dJ6_bitCount_0f7a4_29 rfl (TBg_of 995 (by decide +kernel) rfl) ?_
  refine X.iand (pc' := 33) dJ6_bitCount_0f7a4_32 rfl ?_
  obtain ⟨x5, e6, h⟩ := nmE h
  rw [← e6]
  refine X.istore_n (L' := [some (.int x5)]) (pc' := 34) dJ6_bitCount_0f7a4_33 rfl rfl (Nat.le_of_ble_eq_true rfl) rfl ?_
  refine X.iload_n (x := x5) (pc' := 35) dJ6_bitCount_0f7a4_34 rfl rfl rfl ?_
  refine X.iload_n (x := x5) (pc' := 36) dJ6_bitCount_0f7a4_35 rfl rfl rfl ?_
  refine X.bipush (v := 8) (pc' := 38) dJ6_bitCount_0f7a4_36 rfl (by decide) ?_
  refine X.iushr (pc' := 39) dJ6_bitCount_0f7a4_38 rfl ?_
  refine X.iadd (pc' := 40) dJ6_bitCount_0f7a4_39 rfl ?_
  obtain ⟨x7, e8, h⟩ := nmE h
  rw [← e8]
  refine X.istore_n (L' := [some (.int x7)]) (pc' := 41) dJ6_bitCount_0f7a4_40 rfl rfl (Nat.le_of_ble_eq_true rfl) rfl ?_
  refine X.iload_n (x := x7) (pc' := 42) dJ6_bitCount_0f7a4_41 rfl rfl rfl ?_
  refine X.iload_n (x := x7) (pc' := 43) dJ6_bitCount_0f7a4_42 rfl rfl rfl ?_
  refine X.bipush (v := 16) (pc' := 45) dJ6_bitCount_0f7a4_43 rfl (by decide) ?_
  refine X.iushr (pc' := 46) dJ6_bitCount_0f7a4_45 rfl ?_
  refine X.iadd (pc' := 47) dJ6_bitCount_0f7a4_46 rfl ?_
  obtain ⟨x9, e10, h⟩ := nmE h
  rw [← e10]
  refine X.istore_n (L' := [some (.int x9)]) (pc' := 48) dJ6_bitCount_0f7a4_47 rfl rfl (Nat.le_of_ble_eq_true rfl) rfl ?_
  refine X.iload_n (x := x9) (pc' := 49) dJ6_bitCount_0f7a4_48 rfl rfl rfl ?_
  refine X.bipush (v := 63) (pc' := 51) dJ6_bitCount_0f7a4_49 rfl (by decide) ?_
  refine X.iand (pc' := 52) dJ6_bitCount_0f7a4_51 rfl ?_
  cases h
  exact X.iret (ty := .int) dJ6_bitCount_0f7a4_52 rfl rfl (Nat.le_of_ble_eq_true rfl) (Nat.le_of_ble_eq_true rfl) rfl
def f_J7_fill_53178_5b (fu : Nat) (a0 : Nat) (a1 : Int32) (a2 : Int32) (a3 : Int32) (M : List Ob) (k5 : Nat → Int32 → Int32 → Int32 → List Ob → Option (Unit × List Ob)) : Option (Unit × List Ob) :=
  if a3 ≤ a2 then (some ((), M))
  else ((aSet M a0 13 a2 (.int a1)).bind fun M2 =>
  k5 a0 a1 (a2 + 1) a3 M2)
set_option maxHeartbeats 4000000 in
theorem ok_J7_fill_53178_5b {G : GT} {fu : Nat} {out : Unit × List Ob} {a0 : Nat} {a1 : Int32} {a2 : Int32} {a3 : Int32} {M : List Ob} {k5 : Nat → Int32 → Int32 → Int32 → List Ob → Option (Unit × List Ob)} (hk5 : ∀ (a0 : Nat) (a1 : Int32) (a2 : Int32) (a3 : Int32) (M : List Ob), k5 a0 a1 a2 a3 M = some out → X G t_J7_fill_53178 [] 5 [some (.ref a0), some (.int a1), some (.int a2), some (.int a3)] [] M 0 0 (oU out)) (h : f_J7_fill_53178_5b fu a0 a1 a2 a3 M k5 = some out) : X G t_J7_fill_53178 [] 5 [some (.ref a0), some (.int a1), some (.int a2), some (.int a3)] [] M 0 0 (oU out) := by
  unfold f_J7_fill_53178_5b at h
  refine X.iload_n (x := a2) (pc' := 6) dJ7_fill_53178_5 rfl rfl rfl ?_
  refine X.iload_n (x := a3) (pc' := 7) dJ7_fill_53178_6 rfl rfl rfl ?_
  refine X.icmp_ge (tgt := 20) (pc' := 10) dJ7_fill_53178_7 (by decide) rfl (fun hc => ?_) (fun hc => ?_)
  · rw [if_pos hc] at h
    cases h
    exact X.vret dJ7_fill_53178_20 rfl (Nat.le_of_ble_eq_true rfl) (Nat.le_of_ble_eq_true rfl) rfl
  · rw [if_neg hc] at h
    refine X.aload_n (x := a0) (pc' := 11) dJ7_fill_53178_10 rfl rfl rfl ?_
    refine X.iload_n (x := a2) (pc' := 12) dJ7_fill_53178_11 rfl rfl rfl ?_
    refine X.iload_n (x := a1) (pc' := 13) dJ7_fill_53178_12 rfl rfl rfl ?_
    obtain ⟨M2, e1, h⟩ := bindE h
    refine X.iast (pc' := 14) dJ7_fill_53178_13 rfl e1 ?_
    refine X.iinc (v := (a2 + 1)) (L' := [some (.ref a0), some (.int a1), some (.int (a2 + 1)), some (.int a3)]) (pc' := 17) dJ7_fill_53178_14 rfl rfl (congrArg (fun y => a2 + y) (show Int32.ofInt 1 = 1 by decide)) (Nat.le_of_ble_eq_true rfl) rfl ?_
    refine X.goto (pc' := 5) dJ7_fill_53178_17 (by decide) ?_
    exact hk5 _ _ _ _ _ h
def f_J7_fill_53178_5 (fu : Nat) : Nat → Nat → Int32 → Int32 → Int32 → List Ob → Option (Unit × List Ob)
  | 0, _, _, _, _, _ => none
  | n + 1, a0, a1, a2, a3, M => f_J7_fill_53178_5b fu a0 a1 a2 a3 M (fun a0 a1 a2 a3 M => f_J7_fill_53178_5 fu n a0 a1 a2 a3 M)
theorem ok_J7_fill_53178_5 {G : GT} {fu : Nat} {out : Unit × List Ob} : ∀ (n : Nat) (a0 : Nat) (a1 : Int32) (a2 : Int32) (a3 : Int32) (M : List Ob), f_J7_fill_53178_5 fu n a0 a1 a2 a3 M = some out → X G t_J7_fill_53178 [] 5 [some (.ref a0), some (.int a1), some (.int a2), some (.int a3)] [] M 0 0 (oU out) := by
  intro n
  induction n with
  | zero =>
    intro a0 a1 a2 a3 M h
    unfold f_J7_fill_53178_5 at h
    cases h
  | succ n ih =>
    intro a0 a1 a2 a3 M h
    unfold f_J7_fill_53178_5 at h
    exact ok_J7_fill_53178_5b ih h
def f_J7_fill_53178 (fu : Nat) (a0 : Nat) (a1 : Int32) (M : List Ob) : Option (Unit × List Ob) :=
  (aLen M a0 13).bind fun v1 =>
  f_J7_fill_53178_5 fu  fu a0 a1 0 v1 M
set_option maxHeartbeats 4000000 in
theorem ok_J7_fill_53178 {G : GT} {fu : Nat} {a0 : Nat} {a1 : Int32} {M : List Ob} {out : Unit × List Ob} (h : f_J7_fill_53178 fu a0 a1 M = some out) : Sp G t_J7_fill_53178 [.ref a0, .int a1] M (oU out) := by
  refine Sp.of rfl (by decide +kernel) (cat_all rfl) (Nat.le_of_ble_eq_true rfl) ?_
  show X G t_J7_fill_53178 [] 0 [some (.ref a0), some (.int a1), none, none] [] M 0 0 (oU out)
  unfold f_J7_fill_53178 at h
  refine X.iconst (v := 0) (pc' := 1) dJ7_fill_53178_0 rfl (by decide) ?_
  refine X.istore_n (L' := [some (.ref a0), some (.int a1), some (.int 0), none]) (pc' := 2) dJ7_fill_53178_1 rfl rfl (Nat.le_of_ble_eq_true rfl) rfl ?_
  refine X.aload_n (x := a0) (pc' := 3) dJ7_fill_53178_2 rfl rfl rfl ?_
  obtain ⟨v1, e2, h⟩ := bindE h
  refine X.alen (kd := 13) (pc' := 4) dJ7_fill_53178_3 rfl (Nat.le_of_ble_eq_true rfl) (Nat.le_of_ble_eq_true rfl) e2 ?_
  refine X.istore_n (L' := [some (.ref a0), some (.int a1), some (.int 0), some (.int v1)]) (pc' := 5) dJ7_fill_53178_4 rfl rfl (Nat.le_of_ble_eq_true rfl) rfl ?_
  refine ok_J7_fill_53178_5  fu _ _ _ _ _ h
def f_X4_init (fu : Nat) (a0 : Nat) (M : List Ob) : Option (Unit × List Ob) :=
  bd2 (newO M (13, List.replicate 16 (.int 0))) fun r1 M2 =>
  (pF M2 a0 4 5 (.ref r1)).bind fun M4 =>
  bd2 (newO M4 (13, List.replicate 16 (.int 0))) fun r6 M7 =>
  (pF M7 a0 4 6 (.ref r6)).bind fun M9 =>
  bd2 (newO M9 (13, List.replicate 16 (.int 0))) fun r11 M12 =>
  (pF M12 a0 4 7 (.ref r11)).bind fun M14 =>
  bd2 (newO M14 (13, List.replicate 16 (.int 0))) fun r16 M17 =>
  (pF M17 a0 4 8 (.ref r16)).bind fun M19 =>
  some ((), M19)
set_option maxHeartbeats 4000000 in
theorem ok_X4_init {G : GT} (hR : Row G) {fu : Nat} {a0 : Nat} {M : List Ob} {out : Unit × List Ob} (h : f_X4_init fu a0 M = some out) : Sp G t_X4_init [.ref a0] M (oU out) := by
  refine Sp.of rfl (by decide +kernel) (cat_all rfl) (Nat.le_of_ble_eq_true rfl) ?_
  show X G t_X4_init [] 0 [some (.ref a0)] [] M 0 0 (oU out)
  unfold f_X4_init at h
  refine X.aload_n (x := a0) (pc' := 1) dX4_init_0 rfl rfl rfl ?_
  refine X.objI (pc' := 4) dX4_init_1 rfl (TBg_of 95 (by decide +kernel) rfl) (Nat.le_of_ble_eq_true rfl) (Nat.le_of_ble_eq_true rfl) ?_
  refine X.aload_n (x := a0) (pc' := 5) dX4_init_4 rfl rfl rfl ?_
  refine X.bipush (v := 16) (pc' := 7) dX4_init_5 rfl (by decide) ?_
  obtain ⟨r1, M2, e3, h⟩ := bd2E h
  refine X.newi (kd := 13) (N := 16) (dv := .int 0) (pc' := 9) dX4_init_7 rfl (Or.inr (Or.inl ⟨rfl, rfl, rfl⟩)) (TBg_of 159 (by decide +kernel) rfl) (by decide) (by decide) (Nat.le_of_ble_eq_true rfl) hR (Nat.le_of_ble_eq_true rfl) (Nat.le_of_ble_eq_true rfl) e3 ?_
  show X G t_X4_init [] 9 [some (.ref a0)] [.ref r1, .ref a0] M2 1 16 _
  obtain ⟨M4, e5, h⟩ := bindE h
  refine X.putF (pc' := 12) dX4_init_9 rfl fq_X4_9 rfl (fun r hr => by cases hr; rfl) rfl rfl e5 ?_
  refine X.aload_n (x := a0) (pc' := 13) dX4_init_12 rfl rfl rfl ?_
  refine X.bipush (v := 16) (pc' := 15) dX4_init_13 rfl (by decide) ?_
  obtain ⟨r6, M7, e8, h⟩ := bd2E h
  refine X.newi (kd := 13) (N := 16) (dv := .int 0) (pc' := 17) dX4_init_15 rfl (Or.inr (Or.inl ⟨rfl, rfl, rfl⟩)) (TBg_of 159 (by decide +kernel) rfl) (by decide) (by decide) (Nat.le_of_ble_eq_true rfl) hR (Nat.le_of_ble_eq_true rfl) (Nat.le_of_ble_eq_true rfl) e8 ?_
  show X G t_X4_init [] 17 [some (.ref a0)] [.ref r6, .ref a0] M7 2 32 _
  obtain ⟨M9, e10, h⟩ := bindE h
  refine X.putF (pc' := 20) dX4_init_17 rfl fq_X4_15 rfl (fun r hr => by cases hr; rfl) rfl rfl e10 ?_
  refine X.aload_n (x := a0) (pc' := 21) dX4_init_20 rfl rfl rfl ?_
  refine X.bipush (v := 16) (pc' := 23) dX4_init_21 rfl (by decide) ?_
  obtain ⟨r11, M12, e13, h⟩ := bd2E h
  refine X.newi (kd := 13) (N := 16) (dv := .int 0) (pc' := 25) dX4_init_23 rfl (Or.inr (Or.inl ⟨rfl, rfl, rfl⟩)) (TBg_of 159 (by decide +kernel) rfl) (by decide) (by decide) (Nat.le_of_ble_eq_true rfl) hR (Nat.le_of_ble_eq_true rfl) (Nat.le_of_ble_eq_true rfl) e13 ?_
  show X G t_X4_init [] 25 [some (.ref a0)] [.ref r11, .ref a0] M12 3 48 _
  obtain ⟨M14, e15, h⟩ := bindE h
  refine X.putF (pc' := 28) dX4_init_25 rfl fq_X4_18 rfl (fun r hr => by cases hr; rfl) rfl rfl e15 ?_
  refine X.aload_n (x := a0) (pc' := 29) dX4_init_28 rfl rfl rfl ?_
  refine X.bipush (v := 16) (pc' := 31) dX4_init_29 rfl (by decide) ?_
  obtain ⟨r16, M17, e18, h⟩ := bd2E h
  refine X.newi (kd := 13) (N := 16) (dv := .int 0) (pc' := 33) dX4_init_31 rfl (Or.inr (Or.inl ⟨rfl, rfl, rfl⟩)) (TBg_of 159 (by decide +kernel) rfl) (by decide) (by decide) (Nat.le_of_ble_eq_true rfl) hR (Nat.le_of_ble_eq_true rfl) (Nat.le_of_ble_eq_true rfl) e18 ?_
  show X G t_X4_init [] 33 [some (.ref a0)] [.ref r16, .ref a0] M17 4 64 _
  obtain ⟨M19, e20, h⟩ := bindE h
  refine X.putF (pc' := 36) dX4_init_33 rfl fq_X4_21 rfl (fun r hr => by cases hr; rfl) rfl rfl e20 ?_
  cases h
  exact X.vret dX4_init_36 rfl (Nat.le_of_ble_eq_true rfl) (Nat.le_of_ble_eq_true rfl) rfl
def f_X5_init (fu : Nat) (a0 : Nat) (M : List Ob) : Option (Unit × List Ob) :=
  bd2 (newO M (13, List.replicate 7 (.int 0))) fun r1 M2 =>
  (pF M2 a0 5 0 (.ref r1)).bind fun M4 =>
  (pF M4 a0 5 1 (.int 0)).bind fun M6 =>
  some ((), M6)
set_option maxHeartbeats 4000000 in
theorem ok_X5_init {G : GT} (hR : Row G) {fu : Nat} {a0 : Nat} {M : List Ob} {out : Unit × List Ob} (h : f_X5_init fu a0 M = some out) : Sp G t_X5_init [.ref a0] M (oU out) := by
  refine Sp.of rfl (by decide +kernel) (cat_all rfl) (Nat.le_of_ble_eq_true rfl) ?_
  show X G t_X5_init [] 0 [some (.ref a0)] [] M 0 0 (oU out)
  unfold f_X5_init at h
  refine X.aload_n (x := a0) (pc' := 1) dX5_init_0 rfl rfl rfl ?_
  refine X.objI (pc' := 4) dX5_init_1 rfl (TBg_of 165 (by decide +kernel) rfl) (Nat.le_of_ble_eq_true rfl) (Nat.le_of_ble_eq_true rfl) ?_
  refine X.aload_n (x := a0) (pc' := 5) dX5_init_4 rfl rfl rfl ?_
  refine X.bipush (v := 7) (pc' := 7) dX5_init_5 rfl (by decide) ?_
  obtain ⟨r1, M2, e3, h⟩ := bd2E h
  refine X.newi (kd := 13) (N := 7) (dv := .int 0) (pc' := 9) dX5_init_7 rfl (Or.inr (Or.inl ⟨rfl, rfl, rfl⟩)) (TBg_of 159 (by decide +kernel) rfl) (by decide) (by decide) (Nat.le_of_ble_eq_true rfl) hR (Nat.le_of_ble_eq_true rfl) (Nat.le_of_ble_eq_true rfl) e3 ?_
  show X G t_X5_init [] 9 [some (.ref a0)] [.ref r1, .ref a0] M2 1 7 _
  obtain ⟨M4, e5, h⟩ := bindE h
  refine X.putF (pc' := 12) dX5_init_9 rfl fq_X5_9 rfl (fun r hr => by cases hr; rfl) rfl rfl e5 ?_
  refine X.aload_n (x := a0) (pc' := 13) dX5_init_12 rfl rfl rfl ?_
  refine X.iconst (v := 0) (pc' := 14) dX5_init_13 rfl (by decide) ?_
  obtain ⟨M6, e7, h⟩ := bindE h
  refine X.putf (pc' := 17) dX5_init_14 rfl fq_X5_15 rfl rfl e7 ?_
  cases h
  exact X.vret dX5_init_17 rfl (Nat.le_of_ble_eq_true rfl) (Nat.le_of_ble_eq_true rfl) rfl
def f_X2_init (fu : Nat) (a0 : Nat) (M : List Ob) : Option (Unit × List Ob) :=
  bd2 (newO M (13, List.replicate 21 (.int 0))) fun r1 M2 =>
  (pF M2 a0 2 1 (.ref r1)).bind fun M4 =>
  bd2 (newO M4 (13, List.replicate 21 (.int 0))) fun r6 M7 =>
  (pF M7 a0 2 2 (.ref r6)).bind fun M9 =>
  bd2 (newO M9 (13, List.replicate 21 (.int 0))) fun r11 M12 =>
  (pF M12 a0 2 3 (.ref r11)).bind fun M14 =>
  some ((), M14)
set_option maxHeartbeats 4000000 in
theorem ok_X2_init {G : GT} (hR : Row G) {fu : Nat} {a0 : Nat} {M : List Ob} {out : Unit × List Ob} (h : f_X2_init fu a0 M = some out) : Sp G t_X2_init [.ref a0] M (oU out) := by
  refine Sp.of rfl (by decide +kernel) (cat_all rfl) (Nat.le_of_ble_eq_true rfl) ?_
  show X G t_X2_init [] 0 [some (.ref a0)] [] M 0 0 (oU out)
  unfold f_X2_init at h
  refine X.aload_n (x := a0) (pc' := 1) dX2_init_0 rfl rfl rfl ?_
  refine X.objI (pc' := 4) dX2_init_1 rfl (TBg_of 186 (by decide +kernel) rfl) (Nat.le_of_ble_eq_true rfl) (Nat.le_of_ble_eq_true rfl) ?_
  refine X.aload_n (x := a0) (pc' := 5) dX2_init_4 rfl rfl rfl ?_
  refine X.bipush (v := 21) (pc' := 7) dX2_init_5 rfl (by decide) ?_
  obtain ⟨r1, M2, e3, h⟩ := bd2E h
  refine X.newi (kd := 13) (N := 21) (dv := .int 0) (pc' := 9) dX2_init_7 rfl (Or.inr (Or.inl ⟨rfl, rfl, rfl⟩)) (TBg_of 159 (by decide +kernel) rfl) (by decide) (by decide) (Nat.le_of_ble_eq_true rfl) hR (Nat.le_of_ble_eq_true rfl) (Nat.le_of_ble_eq_true rfl) e3 ?_
  show X G t_X2_init [] 9 [some (.ref a0)] [.ref r1, .ref a0] M2 1 21 _
  obtain ⟨M4, e5, h⟩ := bindE h
  refine X.putF (pc' := 12) dX2_init_9 rfl fq_X2_9 rfl (fun r hr => by cases hr; rfl) rfl rfl e5 ?_
  refine X.aload_n (x := a0) (pc' := 13) dX2_init_12 rfl rfl rfl ?_
  refine X.bipush (v := 21) (pc' := 15) dX2_init_13 rfl (by decide) ?_
  obtain ⟨r6, M7, e8, h⟩ := bd2E h
  refine X.newi (kd := 13) (N := 21) (dv := .int 0) (pc' := 17) dX2_init_15 rfl (Or.inr (Or.inl ⟨rfl, rfl, rfl⟩)) (TBg_of 159 (by decide +kernel) rfl) (by decide) (by decide) (Nat.le_of_ble_eq_true rfl) hR (Nat.le_of_ble_eq_true rfl) (Nat.le_of_ble_eq_true rfl) e8 ?_
  show X G t_X2_init [] 17 [some (.ref a0)] [.ref r6, .ref a0] M7 2 42 _
  obtain ⟨M9, e10, h⟩ := bindE h
  refine X.putF (pc' := 20) dX2_init_17 rfl fq_X2_15 rfl (fun r hr => by cases hr; rfl) rfl rfl e10 ?_
  refine X.aload_n (x := a0) (pc' := 21) dX2_init_20 rfl rfl rfl ?_
  refine X.bipush (v := 21) (pc' := 23) dX2_init_21 rfl (by decide) ?_
  obtain ⟨r11, M12, e13, h⟩ := bd2E h
  refine X.newi (kd := 13) (N := 21) (dv := .int 0) (pc' := 25) dX2_init_23 rfl (Or.inr (Or.inl ⟨rfl, rfl, rfl⟩)) (TBg_of 159 (by decide +kernel) rfl) (by decide) (by decide) (Nat.le_of_ble_eq_true rfl) hR (Nat.le_of_ble_eq_true rfl) (Nat.le_of_ble_eq_true rfl) e13 ?_
  show X G t_X2_init [] 25 [some (.ref a0)] [.ref r11, .ref a0] M12 3 63 _
  obtain ⟨M14, e15, h⟩ := bindE h
  refine X.putF (pc' := 28) dX2_init_25 rfl fq_X2_18 rfl (fun r hr => by cases hr; rfl) rfl rfl e15 ?_
  cases h
  exact X.vret dX2_init_28 rfl (Nat.le_of_ble_eq_true rfl) (Nat.le_of_ble_eq_true rfl) rfl
def f_X4_copyFrom (fu : Nat) (a0 : Nat) (a1 : Nat) (M : List Ob) : Option (Unit × List Ob) :=
  (gI M a1 4 0).bind fun v1 =>
  (pF M a0 4 0 (.int v1)).bind fun M3 =>
  (gI M3 a1 4 1).bind fun v5 =>
  (pF M3 a0 4 1 (.int v5)).bind fun M7 =>
  (gI M7 a1 4 2).bind fun v9 =>
  (pF M7 a0 4 2 (.int v9)).bind fun M11 =>
  (gI M11 a1 4 3).bind fun v13 =>
  (pF M11 a0 4 3 (.int v13)).bind fun M15 =>
  (gI M15 a1 4 4).bind fun v17 =>
  (pF M15 a0 4 4 (.int v17)).bind fun M19 =>
  (gP M19 a1 4 5).bind fun r21 =>
  (gP M19 a0 4 5).bind fun r23 =>
  (aCopy M19 r21 0 r23 0 16).bind fun M25 =>
  (gP M25 a1 4 6).bind fun r27 =>
  (gP M25 a0 4 6).bind fun r29 =>
  (aCopy M25 r27 0 r29 0 16).bind fun M31 =>
  (gP M31 a1 4 7).bind fun r33 =>
  (gP M31 a0 4 7).bind fun r35 =>
  (aCopy M31 r33 0 r35 0 16).bind fun M37 =>
  (gP M37 a1 4 8).bind fun r39 =>
  (gP M37 a0 4 8).bind fun r41 =>
  (aCopy M37 r39 0 r41 0 16).bind fun M43 =>
  some ((), M43)
set_option maxHeartbeats 4000000 in
theorem ok_X4_copyFrom {G : GT} (hz : gZ G = false) {fu : Nat} {a0 : Nat} {a1 : Nat} {M : List Ob} {out : Unit × List Ob} (h : f_X4_copyFrom fu a0 a1 M = some out) : Sp G t_X4_copyFrom [.ref a0, .ref a1] M (oU out) := by
  refine Sp.of rfl (by decide +kernel) (cat_all rfl) (Nat.le_of_ble_eq_true rfl) ?_
  show X G t_X4_copyFrom [] 0 [some (.ref a0), some (.ref a1)] [] M 0 0 (oU out)
  unfold f_X4_copyFrom at h
  refine X.aload_n (x := a0) (pc' := 1) dX4_copyFrom_0 rfl rfl rfl ?_
  refine X.aload_n (x := a1) (pc' := 2) dX4_copyFrom_1 rfl rfl rfl ?_
  obtain ⟨v1, e2, h⟩ := bindE h
  refine X.getf (pc' := 5) dX4_copyFrom_2 rfl fq_X4_24 (gI_spec e2) ?_
  obtain ⟨M3, e4, h⟩ := bindE h
  refine X.putf (pc' := 8) dX4_copyFrom_5 rfl fq_X4_24 rfl rfl e4 ?_
  refine X.aload_n (x := a0) (pc' := 9) dX4_copyFrom_8 rfl rfl rfl ?_
  refine X.aload_n (x := a1) (pc' := 10) dX4_copyFrom_9 rfl rfl rfl ?_
  obtain ⟨v5, e6, h⟩ := bindE h
  refine X.getf (pc' := 13) dX4_copyFrom_10 rfl fq_X4_28 (gI_spec e6) ?_
  obtain ⟨M7, e8, h⟩ := bindE h
  refine X.putf (pc' := 16) dX4_copyFrom_13 rfl fq_X4_28 rfl rfl e8 ?_
  refine X.aload_n (x := a0) (pc' := 17) dX4_copyFrom_16 rfl rfl rfl ?_
  refine X.aload_n (x := a1) (pc' := 18) dX4_copyFrom_17 rfl rfl rfl ?_
  obtain ⟨v9, e10, h⟩ := bindE h
  refine X.getf (pc' := 21) dX4_copyFrom_18 rfl fq_X4_31 (gI_spec e10) ?_
  obtain ⟨M11, e12, h⟩ := bindE h
  refine X.putf (pc' := 24) dX4_copyFrom_21 rfl fq_X4_31 rfl rfl e12 ?_
  refine X.aload_n (x := a0) (pc' := 25) dX4_copyFrom_24 rfl rfl rfl ?_
  refine X.aload_n (x := a1) (pc' := 26) dX4_copyFrom_25 rfl rfl rfl ?_
  obtain ⟨v13, e14, h⟩ := bindE h
  refine X.getf (pc' := 29) dX4_copyFrom_26 rfl fq_X4_34 (gI_spec e14) ?_
  obtain ⟨M15, e16, h⟩ := bindE h
  refine X.putf (pc' := 32) dX4_copyFrom_29 rfl fq_X4_34 rfl rfl e16 ?_
  refine X.aload_n (x := a0) (pc' := 33) dX4_copyFrom_32 rfl rfl rfl ?_
  refine X.aload_n (x := a1) (pc' := 34) dX4_copyFrom_33 rfl rfl rfl ?_
  obtain ⟨v17, e18, h⟩ := bindE h
  refine X.getf (pc' := 37) dX4_copyFrom_34 rfl fq_X4_37 (gI_spec e18) ?_
  obtain ⟨M19, e20, h⟩ := bindE h
  refine X.putf (pc' := 40) dX4_copyFrom_37 rfl fq_X4_37 rfl rfl e20 ?_
  refine X.aload_n (x := a1) (pc' := 41) dX4_copyFrom_40 rfl rfl rfl ?_
  obtain ⟨r21, e22, h⟩ := bindE h
  refine X.getf (pc' := 44) dX4_copyFrom_41 rfl fq_X4_9 (gP_spec e22) ?_
  refine X.iconst (v := 0) (pc' := 45) dX4_copyFrom_44 rfl (by decide) ?_
  refine X.aload_n (x := a0) (pc' := 46) dX4_copyFrom_45 rfl rfl rfl ?_
  obtain ⟨r23, e24, h⟩ := bindE h
  refine X.getf (pc' := 49) dX4_copyFrom_46 rfl fq_X4_9 (gP_spec e24) ?_
  refine X.iconst (v := 0) (pc' := 50) dX4_copyFrom_49 rfl (by decide) ?_
  refine X.bipush (v := 16) (pc' := 52) dX4_copyFrom_50 rfl (by decide) ?_
  obtain ⟨M25, e26, h⟩ := bindE h
  refine X.acopy (pc' := 55) dX4_copyFrom_52 rfl (TBg_of 531 (by decide +kernel) rfl) hz (Nat.le_of_ble_eq_true rfl) (by decide +kernel) e26 ?_
  refine X.aload_n (x := a1) (pc' := 56) dX4_copyFrom_55 rfl rfl rfl ?_
  obtain ⟨r27, e28, h⟩ := bindE h
  refine X.getf (pc' := 59) dX4_copyFrom_56 rfl fq_X4_15 (gP_spec e28) ?_
  refine X.iconst (v := 0) (pc' := 60) dX4_copyFrom_59 rfl (by decide) ?_
  refine X.aload_n (x := a0) (pc' := 61) dX4_copyFrom_60 rfl rfl rfl ?_
  obtain ⟨r29, e30, h⟩ := bindE h
  refine X.getf (pc' := 64) dX4_copyFrom_61 rfl fq_X4_15 (gP_spec e30) ?_
  refine X.iconst (v := 0) (pc' := 65) dX4_copyFrom_64 rfl (by decide) ?_
  refine X.bipush (v := 16) (pc' := 67) dX4_copyFrom_65 rfl (by decide) ?_
  obtain ⟨M31, e32, h⟩ := bindE h
  refine X.acopy (pc' := 70) dX4_copyFrom_67 rfl (TBg_of 531 (by decide +kernel) rfl) hz (Nat.le_of_ble_eq_true rfl) (by decide +kernel) e32 ?_
  refine X.aload_n (x := a1) (pc' := 71) dX4_copyFrom_70 rfl rfl rfl ?_
  obtain ⟨r33, e34, h⟩ := bindE h
  refine X.getf (pc' := 74) dX4_copyFrom_71 rfl fq_X4_18 (gP_spec e34) ?_
  refine X.iconst (v := 0) (pc' := 75) dX4_copyFrom_74 rfl (by decide) ?_
  refine X.aload_n (x := a0) (pc' := 76) dX4_copyFrom_75 rfl rfl rfl ?_
  obtain ⟨r35, e36, h⟩ := bindE h
  refine X.getf (pc' := 79) dX4_copyFrom_76 rfl fq_X4_18 (gP_spec e36) ?_
  refine X.iconst (v := 0) (pc' := 80) dX4_copyFrom_79 rfl (by decide) ?_
  refine X.bipush (v := 16) (pc' := 82) dX4_copyFrom_80 rfl (by decide) ?_
  obtain ⟨M37, e38, h⟩ := bindE h
  refine X.acopy (pc' := 85) dX4_copyFrom_82 rfl (TBg_of 531 (by decide +kernel) rfl) hz (Nat.le_of_ble_eq_true rfl) (by decide +kernel) e38 ?_
  refine X.aload_n (x := a1) (pc' := 86) dX4_copyFrom_85 rfl rfl rfl ?_
  obtain ⟨r39, e40, h⟩ := bindE h
  refine X.getf (pc' := 89) dX4_copyFrom_86 rfl fq_X4_21 (gP_spec e40) ?_
  refine X.iconst (v := 0) (pc' := 90) dX4_copyFrom_89 rfl (by decide) ?_
  refine X.aload_n (x := a0) (pc' := 91) dX4_copyFrom_90 rfl rfl rfl ?_
  obtain ⟨r41, e42, h⟩ := bindE h
  refine X.getf (pc' := 94) dX4_copyFrom_91 rfl fq_X4_21 (gP_spec e42) ?_
  refine X.iconst (v := 0) (pc' := 95) dX4_copyFrom_94 rfl (by decide) ?_
  refine X.bipush (v := 16) (pc' := 97) dX4_copyFrom_95 rfl (by decide) ?_
  obtain ⟨M43, e44, h⟩ := bindE h
  refine X.acopy (pc' := 100) dX4_copyFrom_97 rfl (TBg_of 531 (by decide +kernel) rfl) hz (Nat.le_of_ble_eq_true rfl) (by decide +kernel) e44 ?_
  cases h
  exact X.vret dX4_copyFrom_100 rfl (Nat.le_of_ble_eq_true rfl) (Nat.le_of_ble_eq_true rfl) rfl
def f_X5_copyFrom (fu : Nat) (a0 : Nat) (a1 : Nat) (M : List Ob) : Option (Unit × List Ob) :=
  (gP M a1 5 0).bind fun r1 =>
  (gP M a0 5 0).bind fun r3 =>
  (aCopy M r1 0 r3 0 7).bind fun M5 =>
  (gI M5 a1 5 1).bind fun v7 =>
  (pF M5 a0 5 1 (.int v7)).bind fun M9 =>
  some ((), M9)
set_option maxHeartbeats 4000000 in
theorem ok_X5_copyFrom {G : GT} (hz : gZ G = false) {fu : Nat} {a0 : Nat} {a1 : Nat} {M : List Ob} {out : Unit × List Ob} (h : f_X5_copyFrom fu a0 a1 M = some out) : Sp G t_X5_copyFrom [.ref a0, .ref a1] M (oU out) := by
  refine Sp.of rfl (by decide +kernel) (cat_all rfl) (Nat.le_of_ble_eq_true rfl) ?_
  show X G t_X5_copyFrom [] 0 [some (.ref a0), some (.ref a1)] [] M 0 0 (oU out)
  unfold f_X5_copyFrom at h
  refine X.aload_n (x := a1) (pc' := 1) dX5_copyFrom_0 rfl rfl rfl ?_
  obtain ⟨r1, e2, h⟩ := bindE h
  refine X.getf (pc' := 4) dX5_copyFrom_1 rfl fq_X5_9 (gP_spec e2) ?_
  refine X.iconst (v := 0) (pc' := 5) dX5_copyFrom_4 rfl (by decide) ?_
  refine X.aload_n (x := a0) (pc' := 6) dX5_copyFrom_5 rfl rfl rfl ?_
  obtain ⟨r3, e4, h⟩ := bindE h
  refine X.getf (pc' := 9) dX5_copyFrom_6 rfl fq_X5_9 (gP_spec e4) ?_
  refine X.iconst (v := 0) (pc' := 10) dX5_copyFrom_9 rfl (by decide) ?_
  refine X.bipush (v := 7) (pc' := 12) dX5_copyFrom_10 rfl (by decide) ?_
  obtain ⟨M5, e6, h⟩ := bindE h
  refine X.acopy (pc' := 15) dX5_copyFrom_12 rfl (TBg_of 538 (by decide +kernel) rfl) hz (Nat.le_of_ble_eq_true rfl) (by decide +kernel) e6 ?_
  refine X.aload_n (x := a0) (pc' := 16) dX5_copyFrom_15 rfl rfl rfl ?_
  refine X.aload_n (x := a1) (pc' := 17) dX5_copyFrom_16 rfl rfl rfl ?_
  obtain ⟨v7, e8, h⟩ := bindE h
  refine X.getf (pc' := 20) dX5_copyFrom_17 rfl fq_X5_15 (gI_spec e8) ?_
  obtain ⟨M9, e10, h⟩ := bindE h
  refine X.putf (pc' := 23) dX5_copyFrom_20 rfl fq_X5_15 rfl rfl e10 ?_
  cases h
  exact X.vret dX5_copyFrom_23 rfl (Nat.le_of_ble_eq_true rfl) (Nat.le_of_ble_eq_true rfl) rfl
def f_X2_copyFrom (fu : Nat) (a0 : Nat) (a1 : Nat) (M : List Ob) : Option (Unit × List Ob) :=
  (gI M a1 2 0).bind fun v1 =>
  (pF M a0 2 0 (.int v1)).bind fun M3 =>
  (gP M3 a1 2 1).bind fun r5 =>
  (gP M3 a0 2 1).bind fun r7 =>
  (aCopy M3 r5 0 r7 0 21).bind fun M9 =>
  (gP M9 a1 2 2).bind fun r11 =>
  (gP M9 a0 2 2).bind fun r13 =>
  (aCopy M9 r11 0 r13 0 21).bind fun M15 =>
  (gP M15 a1 2 3).bind fun r17 =>
  (gP M15 a0 2 3).bind fun r19 =>
  (aCopy M15 r17 0 r19 0 21).bind fun M21 =>
  some ((), M21)
set_option maxHeartbeats 4000000 in
theorem ok_X2_copyFrom {G : GT} (hz : gZ G = false) {fu : Nat} {a0 : Nat} {a1 : Nat} {M : List Ob} {out : Unit × List Ob} (h : f_X2_copyFrom fu a0 a1 M = some out) : Sp G t_X2_copyFrom [.ref a0, .ref a1] M (oU out) := by
  refine Sp.of rfl (by decide +kernel) (cat_all rfl) (Nat.le_of_ble_eq_true rfl) ?_
  show X G t_X2_copyFrom [] 0 [some (.ref a0), some (.ref a1)] [] M 0 0 (oU out)
  unfold f_X2_copyFrom at h
  refine X.aload_n (x := a0) (pc' := 1) dX2_copyFrom_0 rfl rfl rfl ?_
  refine X.aload_n (x := a1) (pc' := 2) dX2_copyFrom_1 rfl rfl rfl ?_
  obtain ⟨v1, e2, h⟩ := bindE h
  refine X.getf (pc' := 5) dX2_copyFrom_2 rfl fq_X2_21 (gI_spec e2) ?_
  obtain ⟨M3, e4, h⟩ := bindE h
  refine X.putf (pc' := 8) dX2_copyFrom_5 rfl fq_X2_21 rfl rfl e4 ?_
  refine X.aload_n (x := a1) (pc' := 9) dX2_copyFrom_8 rfl rfl rfl ?_
  obtain ⟨r5, e6, h⟩ := bindE h
  refine X.getf (pc' := 12) dX2_copyFrom_9 rfl fq_X2_9 (gP_spec e6) ?_
  refine X.iconst (v := 0) (pc' := 13) dX2_copyFrom_12 rfl (by decide) ?_
  refine X.aload_n (x := a0) (pc' := 14) dX2_copyFrom_13 rfl rfl rfl ?_
  obtain ⟨r7, e8, h⟩ := bindE h
  refine X.getf (pc' := 17) dX2_copyFrom_14 rfl fq_X2_9 (gP_spec e8) ?_
  refine X.iconst (v := 0) (pc' := 18) dX2_copyFrom_17 rfl (by decide) ?_
  refine X.bipush (v := 21) (pc' := 20) dX2_copyFrom_18 rfl (by decide) ?_
  obtain ⟨M9, e10, h⟩ := bindE h
  refine X.acopy (pc' := 23) dX2_copyFrom_20 rfl (TBg_of 543 (by decide +kernel) rfl) hz (Nat.le_of_ble_eq_true rfl) (by decide +kernel) e10 ?_
  refine X.aload_n (x := a1) (pc' := 24) dX2_copyFrom_23 rfl rfl rfl ?_
  obtain ⟨r11, e12, h⟩ := bindE h
  refine X.getf (pc' := 27) dX2_copyFrom_24 rfl fq_X2_15 (gP_spec e12) ?_
  refine X.iconst (v := 0) (pc' := 28) dX2_copyFrom_27 rfl (by decide) ?_
  refine X.aload_n (x := a0) (pc' := 29) dX2_copyFrom_28 rfl rfl rfl ?_
  obtain ⟨r13, e14, h⟩ := bindE h
  refine X.getf (pc' := 32) dX2_copyFrom_29 rfl fq_X2_15 (gP_spec e14) ?_
  refine X.iconst (v := 0) (pc' := 33) dX2_copyFrom_32 rfl (by decide) ?_
  refine X.bipush (v := 21) (pc' := 35) dX2_copyFrom_33 rfl (by decide) ?_
  obtain ⟨M15, e16, h⟩ := bindE h
  refine X.acopy (pc' := 38) dX2_copyFrom_35 rfl (TBg_of 543 (by decide +kernel) rfl) hz (Nat.le_of_ble_eq_true rfl) (by decide +kernel) e16 ?_
  refine X.aload_n (x := a1) (pc' := 39) dX2_copyFrom_38 rfl rfl rfl ?_
  obtain ⟨r17, e18, h⟩ := bindE h
  refine X.getf (pc' := 42) dX2_copyFrom_39 rfl fq_X2_18 (gP_spec e18) ?_
  refine X.iconst (v := 0) (pc' := 43) dX2_copyFrom_42 rfl (by decide) ?_
  refine X.aload_n (x := a0) (pc' := 44) dX2_copyFrom_43 rfl rfl rfl ?_
  obtain ⟨r19, e20, h⟩ := bindE h
  refine X.getf (pc' := 47) dX2_copyFrom_44 rfl fq_X2_18 (gP_spec e20) ?_
  refine X.iconst (v := 0) (pc' := 48) dX2_copyFrom_47 rfl (by decide) ?_
  refine X.bipush (v := 21) (pc' := 50) dX2_copyFrom_48 rfl (by decide) ?_
  obtain ⟨M21, e22, h⟩ := bindE h
  refine X.acopy (pc' := 53) dX2_copyFrom_50 rfl (TBg_of 543 (by decide +kernel) rfl) hz (Nat.le_of_ble_eq_true rfl) (by decide +kernel) e22 ?_
  cases h
  exact X.vret dX2_copyFrom_53 rfl (Nat.le_of_ble_eq_true rfl) (Nat.le_of_ble_eq_true rfl) rfl
def f_X2_begin (fu : Nat) (a0 : Nat) (a1 : Nat) (M : List Ob) : Option (Unit × List Ob) :=
  (pF M a0 2 0 (.int 0)).bind fun M1 =>
  (gP M1 a0 2 1).bind fun r3 =>
  (gI M1 a1 4 1).bind fun v5 =>
  (aSet M1 r3 13 0 (.int v5)).bind fun M8 =>
  (gP M8 a0 2 2).bind fun r9 =>
  (aSet M8 r9 13 0 (.int 0)).bind fun M12 =>
  (gP M12 a0 2 3).bind fun r13 =>
  (gI M12 a1 4 3).bind fun v15 =>
  (aSet M12 r13 13 0 (.int v15)).bind fun M18 =>
  some ((), M18)
set_option maxHeartbeats 4000000 in
theorem ok_X2_begin {G : GT} {fu : Nat} {a0 : Nat} {a1 : Nat} {M : List Ob} {out : Unit × List Ob} (h : f_X2_begin fu a0 a1 M = some out) : Sp G t_X2_begin [.ref a0, .ref a1] M (oU out) := by
  refine Sp.of rfl (by decide +kernel) (cat_all rfl) (Nat.le_of_ble_eq_true rfl) ?_
  show X G t_X2_begin [] 0 [some (.ref a0), some (.ref a1)] [] M 0 0 (oU out)
  unfold f_X2_begin at h
  refine X.aload_n (x := a0) (pc' := 1) dX2_begin_0 rfl rfl rfl ?_
  refine X.iconst (v := 0) (pc' := 2) dX2_begin_1 rfl (by decide) ?_
  obtain ⟨M1, e2, h⟩ := bindE h
  refine X.putf (pc' := 5) dX2_begin_2 rfl fq_X2_21 rfl rfl e2 ?_
  refine X.aload_n (x := a0) (pc' := 6) dX2_begin_5 rfl rfl rfl ?_
  obtain ⟨r3, e4, h⟩ := bindE h
  refine X.getf (pc' := 9) dX2_begin_6 rfl fq_X2_9 (gP_spec e4) ?_
  refine X.iconst (v := 0) (pc' := 10) dX2_begin_9 rfl (by decide) ?_
  refine X.aload_n (x := a1) (pc' := 11) dX2_begin_10 rfl rfl rfl ?_
  obtain ⟨v5, e6, h⟩ := bindE h
  refine X.getf (pc' := 14) dX2_begin_11 rfl fq_X2_25 (gI_spec e6) ?_
  obtain ⟨M8, e7, h⟩ := bindE h
  refine X.iast (pc' := 15) dX2_begin_14 rfl e7 ?_
  refine X.aload_n (x := a0) (pc' := 16) dX2_begin_15 rfl rfl rfl ?_
  obtain ⟨r9, e10, h⟩ := bindE h
  refine X.getf (pc' := 19) dX2_begin_16 rfl fq_X2_15 (gP_spec e10) ?_
  refine X.iconst (v := 0) (pc' := 20) dX2_begin_19 rfl (by decide) ?_
  refine X.iconst (v := 0) (pc' := 21) dX2_begin_20 rfl (by decide) ?_
  obtain ⟨M12, e11, h⟩ := bindE h
  refine X.iast (pc' := 22) dX2_begin_21 rfl e11 ?_
  refine X.aload_n (x := a0) (pc' := 23) dX2_begin_22 rfl rfl rfl ?_
  obtain ⟨r13, e14, h⟩ := bindE h
  refine X.getf (pc' := 26) dX2_begin_23 rfl fq_X2_18 (gP_spec e14) ?_
  refine X.iconst (v := 0) (pc' := 27) dX2_begin_26 rfl (by decide) ?_
  refine X.aload_n (x := a1) (pc' := 28) dX2_begin_27 rfl rfl rfl ?_
  obtain ⟨v15, e16, h⟩ := bindE h
  refine X.getf (pc' := 31) dX2_begin_28 rfl fq_X2_30 (gI_spec e16) ?_
  obtain ⟨M18, e17, h⟩ := bindE h
  refine X.iast (pc' := 32) dX2_begin_31 rfl e17 ?_
  cases h
  exact X.vret dX2_begin_32 rfl (Nat.le_of_ble_eq_true rfl) (Nat.le_of_ble_eq_true rfl) rfl
def f_X2_nodeNow (fu : Nat) (a0 : Nat) (M : List Ob) : Option (Int32 × List Ob) :=
  (gP M a0 2 1).bind fun r1 =>
  (gI M a0 2 0).bind fun v3 =>
  (aI M r1 13 v3).bind fun v6 =>
  some (v6, M)
set_option maxHeartbeats 4000000 in
theorem ok_X2_nodeNow {G : GT} {fu : Nat} {a0 : Nat} {M : List Ob} {out : Int32 × List Ob} (h : f_X2_nodeNow fu a0 M = some out) : Sp G t_X2_nodeNow [.ref a0] M (oI out) := by
  refine Sp.of rfl (by decide +kernel) (cat_all rfl) (Nat.le_of_ble_eq_true rfl) ?_
  show X G t_X2_nodeNow [] 0 [some (.ref a0)] [] M 0 0 (oI out)
  unfold f_X2_nodeNow at h
  refine X.aload_n (x := a0) (pc' := 1) dX2_nodeNow_0 rfl rfl rfl ?_
  obtain ⟨r1, e2, h⟩ := bindE h
  refine X.getf (pc' := 4) dX2_nodeNow_1 rfl fq_X2_9 (gP_spec e2) ?_
  refine X.aload_n (x := a0) (pc' := 5) dX2_nodeNow_4 rfl rfl rfl ?_
  obtain ⟨v3, e4, h⟩ := bindE h
  refine X.getf (pc' := 8) dX2_nodeNow_5 rfl fq_X2_21 (gI_spec e4) ?_
  obtain ⟨v6, e5, h⟩ := bindE h
  refine X.iald (pc' := 9) dX2_nodeNow_8 rfl e5 ?_
  cases h
  exact X.iret (ty := .int) dX2_nodeNow_9 rfl rfl (Nat.le_of_ble_eq_true rfl) (Nat.le_of_ble_eq_true rfl) rfl
def f_X2_timeNow (fu : Nat) (a0 : Nat) (M : List Ob) : Option (Int32 × List Ob) :=
  (gP M a0 2 2).bind fun r1 =>
  (gI M a0 2 0).bind fun v3 =>
  (aI M r1 13 v3).bind fun v6 =>
  some (v6, M)
set_option maxHeartbeats 4000000 in
theorem ok_X2_timeNow {G : GT} {fu : Nat} {a0 : Nat} {M : List Ob} {out : Int32 × List Ob} (h : f_X2_timeNow fu a0 M = some out) : Sp G t_X2_timeNow [.ref a0] M (oI out) := by
  refine Sp.of rfl (by decide +kernel) (cat_all rfl) (Nat.le_of_ble_eq_true rfl) ?_
  show X G t_X2_timeNow [] 0 [some (.ref a0)] [] M 0 0 (oI out)
  unfold f_X2_timeNow at h
  refine X.aload_n (x := a0) (pc' := 1) dX2_timeNow_0 rfl rfl rfl ?_
  obtain ⟨r1, e2, h⟩ := bindE h
  refine X.getf (pc' := 4) dX2_timeNow_1 rfl fq_X2_15 (gP_spec e2) ?_
  refine X.aload_n (x := a0) (pc' := 5) dX2_timeNow_4 rfl rfl rfl ?_
  obtain ⟨v3, e4, h⟩ := bindE h
  refine X.getf (pc' := 8) dX2_timeNow_5 rfl fq_X2_21 (gI_spec e4) ?_
  obtain ⟨v6, e5, h⟩ := bindE h
  refine X.iald (pc' := 9) dX2_timeNow_8 rfl e5 ?_
  cases h
  exact X.iret (ty := .int) dX2_timeNow_9 rfl rfl (Nat.le_of_ble_eq_true rfl) (Nat.le_of_ble_eq_true rfl) rfl
def f_X2_leftNow (fu : Nat) (a0 : Nat) (M : List Ob) : Option (Int32 × List Ob) :=
  (gP M a0 2 3).bind fun r1 =>
  (gI M a0 2 0).bind fun v3 =>
  (aI M r1 13 v3).bind fun v6 =>
  some (v6, M)
set_option maxHeartbeats 4000000 in
theorem ok_X2_leftNow {G : GT} {fu : Nat} {a0 : Nat} {M : List Ob} {out : Int32 × List Ob} (h : f_X2_leftNow fu a0 M = some out) : Sp G t_X2_leftNow [.ref a0] M (oI out) := by
  refine Sp.of rfl (by decide +kernel) (cat_all rfl) (Nat.le_of_ble_eq_true rfl) ?_
  show X G t_X2_leftNow [] 0 [some (.ref a0)] [] M 0 0 (oI out)
  unfold f_X2_leftNow at h
  refine X.aload_n (x := a0) (pc' := 1) dX2_leftNow_0 rfl rfl rfl ?_
  obtain ⟨r1, e2, h⟩ := bindE h
  refine X.getf (pc' := 4) dX2_leftNow_1 rfl fq_X2_18 (gP_spec e2) ?_
  refine X.aload_n (x := a0) (pc' := 5) dX2_leftNow_4 rfl rfl rfl ?_
  obtain ⟨v3, e4, h⟩ := bindE h
  refine X.getf (pc' := 8) dX2_leftNow_5 rfl fq_X2_21 (gI_spec e4) ?_
  obtain ⟨v6, e5, h⟩ := bindE h
  refine X.iald (pc' := 9) dX2_leftNow_8 rfl e5 ?_
  cases h
  exact X.iret (ty := .int) dX2_leftNow_9 rfl rfl (Nat.le_of_ble_eq_true rfl) (Nat.le_of_ble_eq_true rfl) rfl
def f_X2_canGo_46 (fu : Nat) (M : List Ob) : Option (Int32 × List Ob) :=
  some (1, M)
set_option maxHeartbeats 4000000 in
theorem ok_X2_canGo_46 {G : GT} {fu : Nat} {out : Int32 × List Ob} {M : List Ob} (h : f_X2_canGo_46 fu  M = some out) : X G t_X2_canGo [] 46 [none, none, none, none] [] M 0 0 (oI out) := by
  unfold f_X2_canGo_46 at h
  refine X.iconst (v := 1) (pc' := 47) dX2_canGo_46 rfl (by decide) ?_
  refine X.goto (pc' := 51) dX2_canGo_47 (by decide) ?_
  cases h
  exact X.iret (ty := .boolean) dX2_canGo_51 rfl rfl (Nat.le_of_ble_eq_true rfl) (Nat.le_of_ble_eq_true rfl) rfl
def f_X2_canGo (fu : Nat) (a0 : Nat) (a1 : Nat) (a2 : Int32) (a3 : Int32) (M : List Ob) : Option (Int32 × List Ob) :=
  (gI M a0 2 0).bind fun v1 =>
  if 20 ≤ v1 then (some (0, M))
  else ((hasO M a0 2).bind fun _ =>
  bd2 (f_X2_nodeNow fu a0 M) fun v3 M4 =>
  (gI M4 a1 4 2).bind fun v7 =>
  if v3 = v7 then (some (0, M4))
  else ((gP M4 a1 4 5).bind fun r9 =>
  (aI M4 r9 13 a2).bind fun v12 =>
  (hasO M4 a0 2).bind fun _ =>
  bd2 (f_X2_nodeNow fu a0 M4) fun v13 M14 =>
  if v12 = v13 then (if a3 = 0 then (f_X2_canGo_46 fu M14)
  else ((hasO M14 a0 2).bind fun _ =>
  bd2 (f_X2_leftNow fu a0 M14) fun v17 M18 =>
  if v17 ≤ 0 then (some (0, M18))
  else (f_X2_canGo_46 fu M18)))
  else (some (0, M14))))
set_option maxHeartbeats 4000000 in
theorem ok_X2_canGo {G : GT} {fu : Nat} {a0 : Nat} {a1 : Nat} {a2 : Int32} {a3 : Int32} {M : List Ob} {out : Int32 × List Ob} (h : f_X2_canGo fu a0 a1 a2 a3 M = some out) : Sp G t_X2_canGo [.ref a0, .ref a1, .int a2, .int a3] M (oI out) := by
  refine Sp.of rfl (by decide +kernel) (cat_all rfl) (Nat.le_of_ble_eq_true rfl) ?_
  show X G t_X2_canGo [] 0 [some (.ref a0), some (.ref a1), some (.int a2), some (.int a3)] [] M 0 0 (oI out)
  unfold f_X2_canGo at h
  refine X.aload_n (x := a0) (pc' := 1) dX2_canGo_0 rfl rfl rfl ?_
  obtain ⟨v1, e2, h⟩ := bindE h
  refine X.getf (pc' := 4) dX2_canGo_1 rfl fq_X2_21 (gI_spec e2) ?_
  refine X.bipush (v := 20) (pc' := 6) dX2_canGo_4 rfl (by decide) ?_
  refine X.icmp_ge (tgt := 20) (pc' := 9) dX2_canGo_6 (by decide) rfl (fun hc => ?_) (fun hc => ?_)
  · rw [if_pos hc] at h
    refine X.iconst (v := 0) (pc' := 21) dX2_canGo_20 rfl (by decide) ?_
    cases h
    exact X.iret (ty := .boolean) dX2_canGo_21 rfl rfl (Nat.le_of_ble_eq_true rfl) (Nat.le_of_ble_eq_true rfl) rfl
  · rw [if_neg hc] at h
    refine X.aload_n (x := a0) (pc' := 10) dX2_canGo_9 rfl rfl rfl ?_
    obtain ⟨⟨⟩, e6, h⟩ := bindE h
    obtain ⟨v3, M4, e5, h⟩ := bd2E h
    refine X.callV (b := a0) (v := some (.int v3)) (As := []) (st := []) (M' := M4) (pc' := 13) dX2_canGo_10 rfl cl_X2_33 mi_X2_nodeNow me_X2_nodeNow mr_X2_nodeNow e6 ⟨⟨Nat.le_of_ble_eq_true rfl, Nat.le_of_ble_eq_true rfl⟩, Nat.le_of_ble_eq_true rfl, Nat.le_of_ble_eq_true rfl⟩ rfl (Nat.le_of_ble_eq_true rfl) (ok_X2_nodeNow (G := zs G) e5) ?_
    show X G t_X2_canGo [] 13 [some (.ref a0), some (.ref a1), some (.int a2), some (.int a3)] [.int v3] M4 0 0 _
    refine X.aload_n (x := a1) (pc' := 14) dX2_canGo_13 rfl rfl rfl ?_
    obtain ⟨v7, e8, h⟩ := bindE h
    refine X.getf (pc' := 17) dX2_canGo_14 rfl fq_X2_37 (gI_spec e8) ?_
    refine X.icmp_ne (tgt := 22) (pc' := 20) dX2_canGo_17 (by decide) rfl (fun hc => ?_) (fun hc => ?_)
    · rw [if_neg hc] at h
      refine X.aload_n (x := a1) (pc' := 23) dX2_canGo_22 rfl rfl rfl ?_
      obtain ⟨r9, e10, h⟩ := bindE h
      refine X.getf (pc' := 26) dX2_canGo_23 rfl fq_X2_40 (gP_spec e10) ?_
      refine X.iload_n (x := a2) (pc' := 27) dX2_canGo_26 rfl rfl rfl ?_
      obtain ⟨v12, e11, h⟩ := bindE h
      refine X.iald (pc' := 28) dX2_canGo_27 rfl e11 ?_
      refine X.aload_n (x := a0) (pc' := 29) dX2_canGo_28 rfl rfl rfl ?_
      obtain ⟨⟨⟩, e16, h⟩ := bindE h
      obtain ⟨v13, M14, e15, h⟩ := bd2E h
      refine X.callV (b := a0) (v := some (.int v13)) (As := []) (st := [.int v12]) (M' := M14) (pc' := 32) dX2_canGo_29 rfl cl_X2_33 mi_X2_nodeNow me_X2_nodeNow mr_X2_nodeNow e16 ⟨⟨Nat.le_of_ble_eq_true rfl, Nat.le_of_ble_eq_true rfl⟩, Nat.le_of_ble_eq_true rfl, Nat.le_of_ble_eq_true rfl⟩ rfl (Nat.le_of_ble_eq_true rfl) (ok_X2_nodeNow (G := zs G) e15) ?_
      show X G t_X2_canGo [] 32 [some (.ref a0), some (.ref a1), some (.int a2), some (.int a3)] [.int v13, .int v12] M14 0 0 _
      refine X.icmp_ne (tgt := 50) (pc' := 35) dX2_canGo_32 (by decide) rfl (fun hc => ?_) (fun hc => ?_)
      · rw [if_neg hc] at h
        refine X.iconst (v := 0) (pc' := 51) dX2_canGo_50 rfl (by decide) ?_
        cases h
        exact X.iret (ty := .boolean) dX2_canGo_51 rfl rfl (Nat.le_of_ble_eq_true rfl) (Nat.le_of_ble_eq_true rfl) rfl
      · rw [if_pos hc] at h
        refine X.iload_n (x := a3) (pc' := 36) dX2_canGo_35 rfl rfl rfl ?_
        refine X.if_eq (tgt := 46) (pc' := 39) dX2_canGo_36 (by decide) rfl (fun hc => ?_) (fun hc => ?_)
        · rw [if_pos hc] at h
          refine X.sub (L := [none, none, none, none]) ?_ (trivial)
          exact ok_X2_canGo_46 h
        · rw [if_neg hc] at h
          refine X.aload_n (x := a0) (pc' := 40) dX2_canGo_39 rfl rfl rfl ?_
          obtain ⟨⟨⟩, e20, h⟩ := bindE h
          obtain ⟨v17, M18, e19, h⟩ := bd2E h
          refine X.callV (b := a0) (v := some (.int v17)) (As := []) (st := []) (M' := M18) (pc' := 43) dX2_canGo_40 rfl cl_X2_43 mi_X2_leftNow me_X2_leftNow mr_X2_leftNow e20 ⟨⟨Nat.le_of_ble_eq_true rfl, Nat.le_of_ble_eq_true rfl⟩, Nat.le_of_ble_eq_true rfl, Nat.le_of_ble_eq_true rfl⟩ rfl (Nat.le_of_ble_eq_true rfl) (ok_X2_leftNow (G := zs G) e19) ?_
          show X G t_X2_canGo [] 43 [some (.ref a0), some (.ref a1), some (.int a2), some (.int a3)] [.int v17] M18 0 0 _
          refine X.if_le (tgt := 50) (pc' := 46) dX2_canGo_43 (by decide) rfl (fun hc => ?_) (fun hc => ?_)
          · rw [if_pos hc] at h
            refine X.iconst (v := 0) (pc' := 51) dX2_canGo_50 rfl (by decide) ?_
            cases h
            exact X.iret (ty := .boolean) dX2_canGo_51 rfl rfl (Nat.le_of_ble_eq_true rfl) (Nat.le_of_ble_eq_true rfl) rfl
          · rw [if_neg hc] at h
            refine X.sub (L := [none, none, none, none]) ?_ (trivial)
            exact ok_X2_canGo_46 h
    · rw [if_pos hc] at h
      refine X.iconst (v := 0) (pc' := 21) dX2_canGo_20 rfl (by decide) ?_
      cases h
      exact X.iret (ty := .boolean) dX2_canGo_21 rfl rfl (Nat.le_of_ble_eq_true rfl) (Nat.le_of_ble_eq_true rfl) rfl
def f_X2_go_94 (fu : Nat) (a0 : Nat) (b0 : Nat) (b1 : Int32) (b2 : Int32) (M : List Ob) : Option (Unit × List Ob) :=
  (aSet M b0 13 b1 (.int b2)).bind fun M2 =>
  (gI M2 a0 2 0).bind fun v3 =>
  (pF M2 a0 2 0 (.int (v3 + 1))).bind fun M5 =>
  some ((), M5)
set_option maxHeartbeats 4000000 in
theorem ok_X2_go_94 {G : GT} {fu : Nat} {out : Unit × List Ob} {a0 : Nat} {b0 : Nat} {b1 : Int32} {b2 : Int32} {M : List Ob} (h : f_X2_go_94 fu a0 b0 b1 b2 M = some out) : X G t_X2_go [] 94 [some (.ref a0), none, none, none, none] [.int b2, .int b1, .ref b0] M 0 0 (oU out) := by
  unfold f_X2_go_94 at h
  obtain ⟨M2, e1, h⟩ := bindE h
  refine X.iast (pc' := 95) dX2_go_94 rfl e1 ?_
  refine X.aload_n (x := a0) (pc' := 96) dX2_go_95 rfl rfl rfl ?_
  refine X.dup (pc' := 97) dX2_go_96 rfl rfl ?_
  obtain ⟨v3, e4, h⟩ := bindE h
  refine X.getf (pc' := 100) dX2_go_97 rfl fq_X2_21 (gI_spec e4) ?_
  refine X.iconst (v := 1) (pc' := 101) dX2_go_100 rfl (by decide) ?_
  refine X.iadd (pc' := 102) dX2_go_101 rfl ?_
  obtain ⟨M5, e6, h⟩ := bindE h
  refine X.putf (pc' := 105) dX2_go_102 rfl fq_X2_21 rfl rfl e6 ?_
  cases h
  exact X.vret dX2_go_105 rfl (Nat.le_of_ble_eq_true rfl) (Nat.le_of_ble_eq_true rfl) rfl
def f_X2_go_23 (fu : Nat) (a0 : Nat) (a1 : Nat) (a2 : Int32) (a3 : Int32) (b0 : Int32) (M : List Ob) : Option (Unit × List Ob) :=
  (gP M a0 2 1).bind fun r1 =>
  (gI M a0 2 0).bind fun v3 =>
  (gP M a1 4 6).bind fun r5 =>
  (aI M r5 13 a2).bind fun v8 =>
  (aSet M r1 13 (v3 + 1) (.int v8)).bind fun M10 =>
  (gP M10 a0 2 2).bind fun r11 =>
  (gI M10 a0 2 0).bind fun v13 =>
  (hasO M10 a0 2).bind fun _ =>
  bd2 (f_X2_timeNow fu a0 M10) fun v15 M16 =>
  (gP M16 a1 4 7).bind fun r19 =>
  (aI M16 r19 13 a2).bind fun v22 =>
  (aSet M16 r11 13 (v13 + 1) (.int ((v15 + v22) + b0))).bind fun M24 =>
  (gP M24 a0 2 3).bind fun r25 =>
  (gI M24 a0 2 0).bind fun v27 =>
  if a3 = 0 then ((hasO M24 a0 2).bind fun _ =>
  bd2 (f_X2_leftNow fu a0 M24) fun v29 M30 =>
  f_X2_go_94 fu a0 r25 (v27 + 1) v29 M30)
  else ((hasO M24 a0 2).bind fun _ =>
  bd2 (f_X2_leftNow fu a0 M24) fun v33 M34 =>
  f_X2_go_94 fu a0 r25 (v27 + 1) (v33 - 1) M34)
set_option maxHeartbeats 4000000 in
theorem ok_X2_go_23 {G : GT} {fu : Nat} {out : Unit × List Ob} {a0 : Nat} {a1 : Nat} {a2 : Int32} {a3 : Int32} {b0 : Int32} {M : List Ob} (h : f_X2_go_23 fu a0 a1 a2 a3 b0 M = some out) : X G t_X2_go [] 23 [some (.ref a0), some (.ref a1), some (.int a2), some (.int a3), none] [.int b0] M 0 0 (oU out) := by
  unfold f_X2_go_23 at h
  refine X.istore (L' := [some (.ref a0), some (.ref a1), some (.int a2), some (.int a3), some (.int b0)]) (pc' := 25) dX2_go_23 rfl (Nat.le_of_ble_eq_true rfl) rfl ?_
  refine X.aload_n (x := a0) (pc' := 26) dX2_go_25 rfl rfl rfl ?_
  obtain ⟨r1, e2, h⟩ := bindE h
  refine X.getf (pc' := 29) dX2_go_26 rfl fq_X2_9 (gP_spec e2) ?_
  refine X.aload_n (x := a0) (pc' := 30) dX2_go_29 rfl rfl rfl ?_
  obtain ⟨v3, e4, h⟩ := bindE h
  refine X.getf (pc' := 33) dX2_go_30 rfl fq_X2_21 (gI_spec e4) ?_
  refine X.iconst (v := 1) (pc' := 34) dX2_go_33 rfl (by decide) ?_
  refine X.iadd (pc' := 35) dX2_go_34 rfl ?_
  refine X.aload_n (x := a1) (pc' := 36) dX2_go_35 rfl rfl rfl ?_
  obtain ⟨r5, e6, h⟩ := bindE h
  refine X.getf (pc' := 39) dX2_go_36 rfl fq_X2_49 (gP_spec e6) ?_
  refine X.iload_n (x := a2) (pc' := 40) dX2_go_39 rfl rfl rfl ?_
  obtain ⟨v8, e7, h⟩ := bindE h
  refine X.iald (pc' := 41) dX2_go_40 rfl e7 ?_
  obtain ⟨M10, e9, h⟩ := bindE h
  refine X.iast (pc' := 42) dX2_go_41 rfl e9 ?_
  refine X.aload_n (x := a0) (pc' := 43) dX2_go_42 rfl rfl rfl ?_
  obtain ⟨r11, e12, h⟩ := bindE h
  refine X.getf (pc' := 46) dX2_go_43 rfl fq_X2_15 (gP_spec e12) ?_
  refine X.aload_n (x := a0) (pc' := 47) dX2_go_46 rfl rfl rfl ?_
  obtain ⟨v13, e14, h⟩ := bindE h
  refine X.getf (pc' := 50) dX2_go_47 rfl fq_X2_21 (gI_spec e14) ?_
  refine X.iconst (v := 1) (pc' := 51) dX2_go_50 rfl (by decide) ?_
  refine X.iadd (pc' := 52) dX2_go_51 rfl ?_
  refine X.aload_n (x := a0) (pc' := 53) dX2_go_52 rfl rfl rfl ?_
  obtain ⟨⟨⟩, e18, h⟩ := bindE h
  obtain ⟨v15, M16, e17, h⟩ := bd2E h
  refine X.callV (b := a0) (v := some (.int v15)) (As := []) (st := [.int (v13 + 1), .ref r11]) (M' := M16) (pc' := 56) dX2_go_53 rfl cl_X2_52 mi_X2_timeNow me_X2_timeNow mr_X2_timeNow e18 ⟨⟨Nat.le_of_ble_eq_true rfl, Nat.le_of_ble_eq_true rfl⟩, Nat.le_of_ble_eq_true rfl, Nat.le_of_ble_eq_true rfl⟩ rfl (Nat.le_of_ble_eq_true rfl) (ok_X2_timeNow (G := zs G) e17) ?_
  show X G t_X2_go [] 56 [some (.ref a0), some (.ref a1), some (.int a2), some (.int a3), some (.int b0)] [.int v15, .int (v13 + 1), .ref r11] M16 0 0 _
  refine X.aload_n (x := a1) (pc' := 57) dX2_go_56 rfl rfl rfl ?_
  obtain ⟨r19, e20, h⟩ := bindE h
  refine X.getf (pc' := 60) dX2_go_57 rfl fq_X2_55 (gP_spec e20) ?_
  refine X.iload_n (x := a2) (pc' := 61) dX2_go_60 rfl rfl rfl ?_
  obtain ⟨v22, e21, h⟩ := bindE h
  refine X.iald (pc' := 62) dX2_go_61 rfl e21 ?_
  refine X.iadd (pc' := 63) dX2_go_62 rfl ?_
  refine X.iload (x := b0) (pc' := 65) dX2_go_63 rfl rfl ?_
  refine X.iadd (pc' := 66) dX2_go_65 rfl ?_
  obtain ⟨M24, e23, h⟩ := bindE h
  refine X.iast (pc' := 67) dX2_go_66 rfl e23 ?_
  refine X.aload_n (x := a0) (pc' := 68) dX2_go_67 rfl rfl rfl ?_
  obtain ⟨r25, e26, h⟩ := bindE h
  refine X.getf (pc' := 71) dX2_go_68 rfl fq_X2_18 (gP_spec e26) ?_
  refine X.aload_n (x := a0) (pc' := 72) dX2_go_71 rfl rfl rfl ?_
  obtain ⟨v27, e28, h⟩ := bindE h
  refine X.getf (pc' := 75) dX2_go_72 rfl fq_X2_21 (gI_spec e28) ?_
  refine X.iconst (v := 1) (pc' := 76) dX2_go_75 rfl (by decide) ?_
  refine X.iadd (pc' := 77) dX2_go_76 rfl ?_
  refine X.iload_n (x := a3) (pc' := 78) dX2_go_77 rfl rfl rfl ?_
  refine X.if_eq (tgt := 90) (pc' := 81) dX2_go_78 (by decide) rfl (fun hc => ?_) (fun hc => ?_)
  · rw [if_pos hc] at h
    refine X.aload_n (x := a0) (pc' := 91) dX2_go_90 rfl rfl rfl ?_
    obtain ⟨⟨⟩, e32, h⟩ := bindE h
    obtain ⟨v29, M30, e31, h⟩ := bd2E h
    refine X.callV (b := a0) (v := some (.int v29)) (As := []) (st := [.int (v27 + 1), .ref r25]) (M' := M30) (pc' := 94) dX2_go_91 rfl cl_X2_43 mi_X2_leftNow me_X2_leftNow mr_X2_leftNow e32 ⟨⟨Nat.le_of_ble_eq_true rfl, Nat.le_of_ble_eq_true rfl⟩, Nat.le_of_ble_eq_true rfl, Nat.le_of_ble_eq_true rfl⟩ rfl (Nat.le_of_ble_eq_true rfl) (ok_X2_leftNow (G := zs G) e31) ?_
    show X G t_X2_go [] 94 [some (.ref a0), some (.ref a1), some (.int a2), some (.int a3), some (.int b0)] [.int v29, .int (v27 + 1), .ref r25] M30 0 0 _
    refine X.sub (L := [some (.ref a0), none, none, none, none]) ?_ (⟨rfl, trivial⟩)
    exact ok_X2_go_94 h
  · rw [if_neg hc] at h
    refine X.aload_n (x := a0) (pc' := 82) dX2_go_81 rfl rfl rfl ?_
    obtain ⟨⟨⟩, e36, h⟩ := bindE h
    obtain ⟨v33, M34, e35, h⟩ := bd2E h
    refine X.callV (b := a0) (v := some (.int v33)) (As := []) (st := [.int (v27 + 1), .ref r25]) (M' := M34) (pc' := 85) dX2_go_82 rfl cl_X2_43 mi_X2_leftNow me_X2_leftNow mr_X2_leftNow e36 ⟨⟨Nat.le_of_ble_eq_true rfl, Nat.le_of_ble_eq_true rfl⟩, Nat.le_of_ble_eq_true rfl, Nat.le_of_ble_eq_true rfl⟩ rfl (Nat.le_of_ble_eq_true rfl) (ok_X2_leftNow (G := zs G) e35) ?_
    show X G t_X2_go [] 85 [some (.ref a0), some (.ref a1), some (.int a2), some (.int a3), some (.int b0)] [.int v33, .int (v27 + 1), .ref r25] M34 0 0 _
    refine X.iconst (v := 1) (pc' := 86) dX2_go_85 rfl (by decide) ?_
    refine X.isub (pc' := 87) dX2_go_86 rfl ?_
    refine X.goto (pc' := 94) dX2_go_87 (by decide) ?_
    refine X.sub (L := [some (.ref a0), none, none, none, none]) ?_ (⟨rfl, trivial⟩)
    exact ok_X2_go_94 h
def f_X2_go (fu : Nat) (a0 : Nat) (a1 : Nat) (a2 : Int32) (a3 : Int32) (M : List Ob) : Option (Unit × List Ob) :=
  (gI M a0 2 0).bind fun v1 =>
  if 20 ≤ v1 then (some ((), M))
  else (if a3 = 0 then (f_X2_go_23 fu a0 a1 a2 a3 0 M)
  else ((gP M a1 4 8).bind fun r3 =>
  (aI M r3 13 a2).bind fun v6 =>
  f_X2_go_23 fu a0 a1 a2 a3 v6 M))
set_option maxHeartbeats 4000000 in
theorem ok_X2_go {G : GT} {fu : Nat} {a0 : Nat} {a1 : Nat} {a2 : Int32} {a3 : Int32} {M : List Ob} {out : Unit × List Ob} (h : f_X2_go fu a0 a1 a2 a3 M = some out) : Sp G t_X2_go [.ref a0, .ref a1, .int a2, .int a3] M (oU out) := by
  refine Sp.of rfl (by decide +kernel) (cat_all rfl) (Nat.le_of_ble_eq_true rfl) ?_
  show X G t_X2_go [] 0 [some (.ref a0), some (.ref a1), some (.int a2), some (.int a3), none] [] M 0 0 (oU out)
  unfold f_X2_go at h
  refine X.aload_n (x := a0) (pc' := 1) dX2_go_0 rfl rfl rfl ?_
  obtain ⟨v1, e2, h⟩ := bindE h
  refine X.getf (pc' := 4) dX2_go_1 rfl fq_X2_21 (gI_spec e2) ?_
  refine X.bipush (v := 20) (pc' := 6) dX2_go_4 rfl (by decide) ?_
  refine X.icmp_ge (tgt := 105) (pc' := 9) dX2_go_6 (by decide) rfl (fun hc => ?_) (fun hc => ?_)
  · rw [if_pos hc] at h
    cases h
    exact X.vret dX2_go_105 rfl (Nat.le_of_ble_eq_true rfl) (Nat.le_of_ble_eq_true rfl) rfl
  · rw [if_neg hc] at h
    refine X.iload_n (x := a3) (pc' := 10) dX2_go_9 rfl rfl rfl ?_
    refine X.if_eq (tgt := 22) (pc' := 13) dX2_go_10 (by decide) rfl (fun hc => ?_) (fun hc => ?_)
    · rw [if_pos hc] at h
      refine X.iconst (v := 0) (pc' := 23) dX2_go_22 rfl (by decide) ?_
      exact ok_X2_go_23 h
    · rw [if_neg hc] at h
      refine X.aload_n (x := a1) (pc' := 14) dX2_go_13 rfl rfl rfl ?_
      obtain ⟨r3, e4, h⟩ := bindE h
      refine X.getf (pc' := 17) dX2_go_14 rfl fq_X2_46 (gP_spec e4) ?_
      refine X.iload_n (x := a2) (pc' := 18) dX2_go_17 rfl rfl rfl ?_
      obtain ⟨v6, e5, h⟩ := bindE h
      refine X.iald (pc' := 19) dX2_go_18 rfl e5 ?_
      refine X.goto (pc' := 23) dX2_go_19 (by decide) ?_
      exact ok_X2_go_23 h
def f_X4_arcCost (fu : Nat) (a0 : Nat) (a1 : Int32) (a2 : Int32) (M : List Ob) : Option (Int32 × List Ob) :=
  (gP M a0 4 7).bind fun r1 =>
  (aI M r1 13 a1).bind fun v4 =>
  (gP M a0 4 8).bind fun r5 =>
  (aI M r5 13 a1).bind fun v8 =>
  some ((v4 + (((a2 >>> (a1 &&& 31)) &&& 1) * v8)), M)
set_option maxHeartbeats 4000000 in
theorem ok_X4_arcCost {G : GT} {fu : Nat} {a0 : Nat} {a1 : Int32} {a2 : Int32} {M : List Ob} {out : Int32 × List Ob} (h : f_X4_arcCost fu a0 a1 a2 M = some out) : Sp G t_X4_arcCost [.ref a0, .int a1, .int a2] M (oI out) := by
  refine Sp.of rfl (by decide +kernel) (cat_all rfl) (Nat.le_of_ble_eq_true rfl) ?_
  show X G t_X4_arcCost [] 0 [some (.ref a0), some (.int a1), some (.int a2)] [] M 0 0 (oI out)
  unfold f_X4_arcCost at h
  refine X.aload_n (x := a0) (pc' := 1) dX4_arcCost_0 rfl rfl rfl ?_
  obtain ⟨r1, e2, h⟩ := bindE h
  refine X.getf (pc' := 4) dX4_arcCost_1 rfl fq_X4_18 (gP_spec e2) ?_
  refine X.iload_n (x := a1) (pc' := 5) dX4_arcCost_4 rfl rfl rfl ?_
  obtain ⟨v4, e3, h⟩ := bindE h
  refine X.iald (pc' := 6) dX4_arcCost_5 rfl e3 ?_
  refine X.iload_n (x := a2) (pc' := 7) dX4_arcCost_6 rfl rfl rfl ?_
  refine X.iload_n (x := a1) (pc' := 8) dX4_arcCost_7 rfl rfl rfl ?_
  refine X.ishr (pc' := 9) dX4_arcCost_8 rfl ?_
  refine X.iconst (v := 1) (pc' := 10) dX4_arcCost_9 rfl (by decide) ?_
  refine X.iand (pc' := 11) dX4_arcCost_10 rfl ?_
  refine X.aload_n (x := a0) (pc' := 12) dX4_arcCost_11 rfl rfl rfl ?_
  obtain ⟨r5, e6, h⟩ := bindE h
  refine X.getf (pc' := 15) dX4_arcCost_12 rfl fq_X4_21 (gP_spec e6) ?_
  refine X.iload_n (x := a1) (pc' := 16) dX4_arcCost_15 rfl rfl rfl ?_
  obtain ⟨v8, e7, h⟩ := bindE h
  refine X.iald (pc' := 17) dX4_arcCost_16 rfl e7 ?_
  refine X.imul (pc' := 18) dX4_arcCost_17 rfl ?_
  refine X.iadd (pc' := 19) dX4_arcCost_18 rfl ?_
  cases h
  exact X.iret (ty := .int) dX4_arcCost_19 rfl rfl (Nat.le_of_ble_eq_true rfl) (Nat.le_of_ble_eq_true rfl) rfl
def f_X4_costAgainst_5b (fu : Nat) (a0 : Nat) (a1 : Nat) (a2 : Int32) (a3 : Int32) (a4 : Int32) (M : List Ob) (k5 : Nat → Nat → Int32 → Int32 → Int32 → List Ob → Option (Int32 × List Ob)) : Option (Int32 × List Ob) :=
  (gI M a1 5 1).bind fun v1 =>
  if v1 ≤ a4 then (some (a3, M))
  else ((gP M a1 5 0).bind fun r3 =>
  (aI M r3 13 a4).bind fun v6 =>
  (hasO M a0 4).bind fun _ =>
  bd2 (f_X4_arcCost fu a0 v6 a2 M) fun v7 M8 =>
  k5 a0 a1 a2 (a3 + v7) (a4 + 1) M8)
set_option maxHeartbeats 4000000 in
theorem ok_X4_costAgainst_5b {G : GT} {fu : Nat} {out : Int32 × List Ob} {a0 : Nat} {a1 : Nat} {a2 : Int32} {a3 : Int32} {a4 : Int32} {M : List Ob} {k5 : Nat → Nat → Int32 → Int32 → Int32 → List Ob → Option (Int32 × List Ob)} (hk5 : ∀ (a0 : Nat) (a1 : Nat) (a2 : Int32) (a3 : Int32) (a4 : Int32) (M : List Ob), k5 a0 a1 a2 a3 a4 M = some out → X G t_X4_costAgainst [] 5 [some (.ref a0), some (.ref a1), some (.int a2), some (.int a3), some (.int a4)] [] M 0 0 (oI out)) (h : f_X4_costAgainst_5b fu a0 a1 a2 a3 a4 M k5 = some out) : X G t_X4_costAgainst [] 5 [some (.ref a0), some (.ref a1), some (.int a2), some (.int a3), some (.int a4)] [] M 0 0 (oI out) := by
  unfold f_X4_costAgainst_5b at h
  refine X.iload (x := a4) (pc' := 7) dX4_costAgainst_5 rfl rfl ?_
  refine X.aload_n (x := a1) (pc' := 8) dX4_costAgainst_7 rfl rfl rfl ?_
  obtain ⟨v1, e2, h⟩ := bindE h
  refine X.getf (pc' := 11) dX4_costAgainst_8 rfl fq_X4_40 (gI_spec e2) ?_
  refine X.icmp_ge (tgt := 35) (pc' := 14) dX4_costAgainst_11 (by decide) rfl (fun hc => ?_) (fun hc => ?_)
  · rw [if_pos hc] at h
    refine X.iload_n (x := a3) (pc' := 36) dX4_costAgainst_35 rfl rfl rfl ?_
    cases h
    exact X.iret (ty := .int) dX4_costAgainst_36 rfl rfl (Nat.le_of_ble_eq_true rfl) (Nat.le_of_ble_eq_true rfl) rfl
  · rw [if_neg hc] at h
    refine X.iload_n (x := a3) (pc' := 15) dX4_costAgainst_14 rfl rfl rfl ?_
    refine X.aload_n (x := a0) (pc' := 16) dX4_costAgainst_15 rfl rfl rfl ?_
    refine X.aload_n (x := a1) (pc' := 17) dX4_costAgainst_16 rfl rfl rfl ?_
    obtain ⟨r3, e4, h⟩ := bindE h
    refine X.getf (pc' := 20) dX4_costAgainst_17 rfl fq_X4_45 (gP_spec e4) ?_
    refine X.iload (x := a4) (pc' := 22) dX4_costAgainst_20 rfl rfl ?_
    obtain ⟨v6, e5, h⟩ := bindE h
    refine X.iald (pc' := 23) dX4_costAgainst_22 rfl e5 ?_
    refine X.iload_n (x := a2) (pc' := 24) dX4_costAgainst_23 rfl rfl rfl ?_
    obtain ⟨⟨⟩, e10, h⟩ := bindE h
    obtain ⟨v7, M8, e9, h⟩ := bd2E h
    refine X.callV (b := a0) (v := some (.int v7)) (As := [.int v6, .int a2]) (st := [.int a3]) (M' := M8) (pc' := 27) dX4_costAgainst_24 rfl cl_X4_55 mi_X4_arcCost me_X4_arcCost mr_X4_arcCost e10 ⟨⟨Nat.le_of_ble_eq_true rfl, Nat.le_of_ble_eq_true rfl⟩, Nat.le_of_ble_eq_true rfl, Nat.le_of_ble_eq_true rfl⟩ rfl (Nat.le_of_ble_eq_true rfl) (ok_X4_arcCost (G := zs G) e9) ?_
    show X G t_X4_costAgainst [] 27 [some (.ref a0), some (.ref a1), some (.int a2), some (.int a3), some (.int a4)] [.int v7, .int a3] M8 0 0 _
    refine X.iadd (pc' := 28) dX4_costAgainst_27 rfl ?_
    refine X.istore_n (L' := [some (.ref a0), some (.ref a1), some (.int a2), some (.int (a3 + v7)), some (.int a4)]) (pc' := 29) dX4_costAgainst_28 rfl rfl (Nat.le_of_ble_eq_true rfl) rfl ?_
    refine X.iinc (v := (a4 + 1)) (L' := [some (.ref a0), some (.ref a1), some (.int a2), some (.int (a3 + v7)), some (.int (a4 + 1))]) (pc' := 32) dX4_costAgainst_29 rfl rfl (congrArg (fun y => a4 + y) (show Int32.ofInt 1 = 1 by decide)) (Nat.le_of_ble_eq_true rfl) rfl ?_
    refine X.goto (pc' := 5) dX4_costAgainst_32 (by decide) ?_
    exact hk5 _ _ _ _ _ _ h
def f_X4_costAgainst_5 (fu : Nat) : Nat → Nat → Nat → Int32 → Int32 → Int32 → List Ob → Option (Int32 × List Ob)
  | 0, _, _, _, _, _, _ => none
  | n + 1, a0, a1, a2, a3, a4, M => f_X4_costAgainst_5b fu a0 a1 a2 a3 a4 M (fun a0 a1 a2 a3 a4 M => f_X4_costAgainst_5 fu n a0 a1 a2 a3 a4 M)
theorem ok_X4_costAgainst_5 {G : GT} {fu : Nat} {out : Int32 × List Ob} : ∀ (n : Nat) (a0 : Nat) (a1 : Nat) (a2 : Int32) (a3 : Int32) (a4 : Int32) (M : List Ob), f_X4_costAgainst_5 fu n a0 a1 a2 a3 a4 M = some out → X G t_X4_costAgainst [] 5 [some (.ref a0), some (.ref a1), some (.int a2), some (.int a3), some (.int a4)] [] M 0 0 (oI out) := by
  intro n
  induction n with
  | zero =>
    intro a0 a1 a2 a3 a4 M h
    unfold f_X4_costAgainst_5 at h
    cases h
  | succ n ih =>
    intro a0 a1 a2 a3 a4 M h
    unfold f_X4_costAgainst_5 at h
    exact ok_X4_costAgainst_5b ih h
def f_X4_costAgainst (fu : Nat) (a0 : Nat) (a1 : Nat) (a2 : Int32) (M : List Ob) : Option (Int32 × List Ob) :=
  f_X4_costAgainst_5 fu  fu a0 a1 a2 0 0 M
set_option maxHeartbeats 4000000 in
theorem ok_X4_costAgainst {G : GT} {fu : Nat} {a0 : Nat} {a1 : Nat} {a2 : Int32} {M : List Ob} {out : Int32 × List Ob} (h : f_X4_costAgainst fu a0 a1 a2 M = some out) : Sp G t_X4_costAgainst [.ref a0, .ref a1, .int a2] M (oI out) := by
  refine Sp.of rfl (by decide +kernel) (cat_all rfl) (Nat.le_of_ble_eq_true rfl) ?_
  show X G t_X4_costAgainst [] 0 [some (.ref a0), some (.ref a1), some (.int a2), none, none] [] M 0 0 (oI out)
  unfold f_X4_costAgainst at h
  refine X.iconst (v := 0) (pc' := 1) dX4_costAgainst_0 rfl (by decide) ?_
  refine X.istore_n (L' := [some (.ref a0), some (.ref a1), some (.int a2), some (.int 0), none]) (pc' := 2) dX4_costAgainst_1 rfl rfl (Nat.le_of_ble_eq_true rfl) rfl ?_
  refine X.iconst (v := 0) (pc' := 3) dX4_costAgainst_2 rfl (by decide) ?_
  refine X.istore (L' := [some (.ref a0), some (.ref a1), some (.int a2), some (.int 0), some (.int 0)]) (pc' := 5) dX4_costAgainst_3 rfl (Nat.le_of_ble_eq_true rfl) rfl ?_
  refine ok_X4_costAgainst_5  fu _ _ _ _ _ _ h
def f_X10_isIn (fu : Nat) (a0 : Int32) (a1 : Int32) (M : List Ob) : Option (Int32 × List Ob) :=
  if ((a0 >>> (a1 &&& 31)) &&& 1) = 1 then (some (1, M))
  else (some (0, M))
set_option maxHeartbeats 4000000 in
theorem ok_X10_isIn {G : GT} {fu : Nat} {a0 : Int32} {a1 : Int32} {M : List Ob} {out : Int32 × List Ob} (h : f_X10_isIn fu a0 a1 M = some out) : Sp G t_X10_isIn [.int a0, .int a1] M (oI out) := by
  refine Sp.of rfl (by decide +kernel) (cat_all rfl) (Nat.le_of_ble_eq_true rfl) ?_
  show X G t_X10_isIn [] 0 [some (.int a0), some (.int a1)] [] M 0 0 (oI out)
  unfold f_X10_isIn at h
  refine X.iload_n (x := a0) (pc' := 1) dX10_isIn_0 rfl rfl rfl ?_
  refine X.iload_n (x := a1) (pc' := 2) dX10_isIn_1 rfl rfl rfl ?_
  refine X.ishr (pc' := 3) dX10_isIn_2 rfl ?_
  refine X.iconst (v := 1) (pc' := 4) dX10_isIn_3 rfl (by decide) ?_
  refine X.iand (pc' := 5) dX10_isIn_4 rfl ?_
  refine X.iconst (v := 1) (pc' := 6) dX10_isIn_5 rfl (by decide) ?_
  refine X.icmp_ne (tgt := 13) (pc' := 9) dX10_isIn_6 (by decide) rfl (fun hc => ?_) (fun hc => ?_)
  · rw [if_neg hc] at h
    refine X.iconst (v := 0) (pc' := 14) dX10_isIn_13 rfl (by decide) ?_
    cases h
    exact X.iret (ty := .boolean) dX10_isIn_14 rfl rfl (Nat.le_of_ble_eq_true rfl) (Nat.le_of_ble_eq_true rfl) rfl
  · rw [if_pos hc] at h
    refine X.iconst (v := 1) (pc' := 10) dX10_isIn_9 rfl (by decide) ?_
    refine X.goto (pc' := 14) dX10_isIn_10 (by decide) ?_
    cases h
    exact X.iret (ty := .boolean) dX10_isIn_14 rfl rfl (Nat.le_of_ble_eq_true rfl) (Nat.le_of_ble_eq_true rfl) rfl
def f_X5_delayAt_31 (fu : Nat) (a0 : Nat) (a1 : Int32) (a2 : Int32) (a3 : Int32) (M : List Ob) (k4 : Nat → Int32 → Int32 → Int32 → List Ob → Option (Int32 × List Ob)) : Option (Int32 × List Ob) :=
  k4 a0 a1 a2 (a3 + 1) M
set_option maxHeartbeats 4000000 in
theorem ok_X5_delayAt_31 {G : GT} {fu : Nat} {out : Int32 × List Ob} {a0 : Nat} {a1 : Int32} {a2 : Int32} {a3 : Int32} {M : List Ob} {k4 : Nat → Int32 → Int32 → Int32 → List Ob → Option (Int32 × List Ob)} (hk4 : ∀ (a0 : Nat) (a1 : Int32) (a2 : Int32) (a3 : Int32) (M : List Ob), k4 a0 a1 a2 a3 M = some out → X G t_X5_delayAt [] 4 [some (.ref a0), some (.int a1), some (.int a2), some (.int a3)] [] M 0 0 (oI out)) (h : f_X5_delayAt_31 fu a0 a1 a2 a3 M k4 = some out) : X G t_X5_delayAt [] 31 [some (.ref a0), some (.int a1), some (.int a2), some (.int a3)] [] M 0 0 (oI out) := by
  unfold f_X5_delayAt_31 at h
  refine X.iinc (v := (a3 + 1)) (L' := [some (.ref a0), some (.int a1), some (.int a2), some (.int (a3 + 1))]) (pc' := 34) dX5_delayAt_31 rfl rfl (congrArg (fun y => a3 + y) (show Int32.ofInt 1 = 1 by decide)) (Nat.le_of_ble_eq_true rfl) rfl ?_
  refine X.goto (pc' := 4) dX5_delayAt_34 (by decide) ?_
  exact hk4 _ _ _ _ _ h
def f_X5_delayAt_4b (fu : Nat) (a0 : Nat) (a1 : Int32) (a2 : Int32) (a3 : Int32) (M : List Ob) (k4 : Nat → Int32 → Int32 → Int32 → List Ob → Option (Int32 × List Ob)) : Option (Int32 × List Ob) :=
  (gI M a0 5 1).bind fun v1 =>
  if v1 ≤ a3 then (some (a2, M))
  else (bd2 (f_X10_isIn fu a1 a3 M) fun v3 M4 =>
  if v3 = 0 then (f_X5_delayAt_31 fu a0 a1 a2 a3 M4 k4)
  else ((gP M4 a0 5 0).bind fun r7 =>
  (aI M4 r7 13 a3).bind fun v10 =>
  f_X5_delayAt_31 fu a0 a1 (a2 ||| (1 <<< (v10 &&& 31))) a3 M4 k4))
set_option maxHeartbeats 4000000 in
theorem ok_X5_delayAt_4b {G : GT} {fu : Nat} {out : Int32 × List Ob} {a0 : Nat} {a1 : Int32} {a2 : Int32} {a3 : Int32} {M : List Ob} {k4 : Nat → Int32 → Int32 → Int32 → List Ob → Option (Int32 × List Ob)} (hk4 : ∀ (a0 : Nat) (a1 : Int32) (a2 : Int32) (a3 : Int32) (M : List Ob), k4 a0 a1 a2 a3 M = some out → X G t_X5_delayAt [] 4 [some (.ref a0), some (.int a1), some (.int a2), some (.int a3)] [] M 0 0 (oI out)) (h : f_X5_delayAt_4b fu a0 a1 a2 a3 M k4 = some out) : X G t_X5_delayAt [] 4 [some (.ref a0), some (.int a1), some (.int a2), some (.int a3)] [] M 0 0 (oI out) := by
  unfold f_X5_delayAt_4b at h
  refine X.iload_n (x := a3) (pc' := 5) dX5_delayAt_4 rfl rfl rfl ?_
  refine X.aload_n (x := a0) (pc' := 6) dX5_delayAt_5 rfl rfl rfl ?_
  obtain ⟨v1, e2, h⟩ := bindE h
  refine X.getf (pc' := 9) dX5_delayAt_6 rfl fq_X5_15 (gI_spec e2) ?_
  refine X.icmp_ge (tgt := 37) (pc' := 12) dX5_delayAt_9 (by decide) rfl (fun hc => ?_) (fun hc => ?_)
  · rw [if_pos hc] at h
    refine X.iload_n (x := a2) (pc' := 38) dX5_delayAt_37 rfl rfl rfl ?_
    cases h
    exact X.iret (ty := .int) dX5_delayAt_38 rfl rfl (Nat.le_of_ble_eq_true rfl) (Nat.le_of_ble_eq_true rfl) rfl
  · rw [if_neg hc] at h
    refine X.iload_n (x := a1) (pc' := 13) dX5_delayAt_12 rfl rfl rfl ?_
    refine X.iload_n (x := a3) (pc' := 14) dX5_delayAt_13 rfl rfl rfl ?_
    obtain ⟨v3, M4, e5, h⟩ := bd2E h
    refine X.callSN (v := some (.int v3)) (As := [.int a1, .int a3]) (st := []) (M' := M4) (pc' := 17) dX5_delayAt_14 rfl cl_X5_19 ms_X10_isIn ⟨⟨Nat.le_of_ble_eq_true rfl, Nat.le_of_ble_eq_true rfl⟩, Nat.le_of_ble_eq_true rfl, Nat.le_of_ble_eq_true rfl⟩ rfl (Nat.le_of_ble_eq_true rfl) (ok_X10_isIn (G := zs G) e5) ?_
    show X G t_X5_delayAt [] 17 [some (.ref a0), some (.int a1), some (.int a2), some (.int a3)] [.int v3] M4 0 0 _
    refine X.if_eq (tgt := 31) (pc' := 20) dX5_delayAt_17 (by decide) rfl (fun hc => ?_) (fun hc => ?_)
    · rw [if_pos hc] at h
      exact ok_X5_delayAt_31 hk4 h
    · rw [if_neg hc] at h
      refine X.iload_n (x := a2) (pc' := 21) dX5_delayAt_20 rfl rfl rfl ?_
      refine X.iconst (v := 1) (pc' := 22) dX5_delayAt_21 rfl (by decide) ?_
      refine X.aload_n (x := a0) (pc' := 23) dX5_delayAt_22 rfl rfl rfl ?_
      obtain ⟨r7, e8, h⟩ := bindE h
      refine X.getf (pc' := 26) dX5_delayAt_23 rfl fq_X5_9 (gP_spec e8) ?_
      refine X.iload_n (x := a3) (pc' := 27) dX5_delayAt_26 rfl rfl rfl ?_
      obtain ⟨v10, e9, h⟩ := bindE h
      refine X.iald (pc' := 28) dX5_delayAt_27 rfl e9 ?_
      refine X.ishl (pc' := 29) dX5_delayAt_28 rfl ?_
      refine X.ior (pc' := 30) dX5_delayAt_29 rfl ?_
      refine X.istore_n (L' := [some (.ref a0), some (.int a1), some (.int (a2 ||| (1 <<< (v10 &&& 31)))), some (.int a3)]) (pc' := 31) dX5_delayAt_30 rfl rfl (Nat.le_of_ble_eq_true rfl) rfl ?_
      exact ok_X5_delayAt_31 hk4 h
def f_X5_delayAt_4 (fu : Nat) : Nat → Nat → Int32 → Int32 → Int32 → List Ob → Option (Int32 × List Ob)
  | 0, _, _, _, _, _ => none
  | n + 1, a0, a1, a2, a3, M => f_X5_delayAt_4b fu a0 a1 a2 a3 M (fun a0 a1 a2 a3 M => f_X5_delayAt_4 fu n a0 a1 a2 a3 M)
theorem ok_X5_delayAt_4 {G : GT} {fu : Nat} {out : Int32 × List Ob} : ∀ (n : Nat) (a0 : Nat) (a1 : Int32) (a2 : Int32) (a3 : Int32) (M : List Ob), f_X5_delayAt_4 fu n a0 a1 a2 a3 M = some out → X G t_X5_delayAt [] 4 [some (.ref a0), some (.int a1), some (.int a2), some (.int a3)] [] M 0 0 (oI out) := by
  intro n
  induction n with
  | zero =>
    intro a0 a1 a2 a3 M h
    unfold f_X5_delayAt_4 at h
    cases h
  | succ n ih =>
    intro a0 a1 a2 a3 M h
    unfold f_X5_delayAt_4 at h
    exact ok_X5_delayAt_4b ih h
def f_X5_delayAt (fu : Nat) (a0 : Nat) (a1 : Int32) (M : List Ob) : Option (Int32 × List Ob) :=
  f_X5_delayAt_4 fu  fu a0 a1 0 0 M
set_option maxHeartbeats 4000000 in
theorem ok_X5_delayAt {G : GT} {fu : Nat} {a0 : Nat} {a1 : Int32} {M : List Ob} {out : Int32 × List Ob} (h : f_X5_delayAt fu a0 a1 M = some out) : Sp G t_X5_delayAt [.ref a0, .int a1] M (oI out) := by
  refine Sp.of rfl (by decide +kernel) (cat_all rfl) (Nat.le_of_ble_eq_true rfl) ?_
  show X G t_X5_delayAt [] 0 [some (.ref a0), some (.int a1), none, none] [] M 0 0 (oI out)
  unfold f_X5_delayAt at h
  refine X.iconst (v := 0) (pc' := 1) dX5_delayAt_0 rfl (by decide) ?_
  refine X.istore_n (L' := [some (.ref a0), some (.int a1), some (.int 0), none]) (pc' := 2) dX5_delayAt_1 rfl rfl (Nat.le_of_ble_eq_true rfl) rfl ?_
  refine X.iconst (v := 0) (pc' := 3) dX5_delayAt_2 rfl (by decide) ?_
  refine X.istore_n (L' := [some (.ref a0), some (.int a1), some (.int 0), some (.int 0)]) (pc' := 4) dX5_delayAt_3 rfl rfl (Nat.le_of_ble_eq_true rfl) rfl ?_
  refine ok_X5_delayAt_4  fu _ _ _ _ _ h
def f_X4_worstArc_75 (fu : Nat) (a0 : Nat) (a1 : Nat) (a2 : Int32) (a3 : Int32) (a4 : Int32) (a5 : Int32) (M : List Ob) (k8 : Nat → Nat → Int32 → Int32 → Int32 → Int32 → List Ob → Option (Int32 × List Ob)) : Option (Int32 × List Ob) :=
  k8 a0 a1 a2 a3 a4 (a5 + 1) M
set_option maxHeartbeats 4000000 in
theorem ok_X4_worstArc_75 {G : GT} {fu : Nat} {out : Int32 × List Ob} {a0 : Nat} {a1 : Nat} {a2 : Int32} {a3 : Int32} {a4 : Int32} {a5 : Int32} {M : List Ob} {k8 : Nat → Nat → Int32 → Int32 → Int32 → Int32 → List Ob → Option (Int32 × List Ob)} (hk8 : ∀ (a0 : Nat) (a1 : Nat) (a2 : Int32) (a3 : Int32) (a4 : Int32) (a5 : Int32) (M : List Ob), k8 a0 a1 a2 a3 a4 a5 M = some out → X G t_X4_worstArc [] 8 [some (.ref a0), some (.ref a1), some (.int a2), some (.int a3), some (.int a4), some (.int a5), none, none] [] M 0 0 (oI out)) (h : f_X4_worstArc_75 fu a0 a1 a2 a3 a4 a5 M k8 = some out) : X G t_X4_worstArc [] 75 [some (.ref a0), some (.ref a1), some (.int a2), some (.int a3), some (.int a4), some (.int a5), none, none] [] M 0 0 (oI out) := by
  unfold f_X4_worstArc_75 at h
  refine X.iinc (v := (a5 + 1)) (L' := [some (.ref a0), some (.ref a1), some (.int a2), some (.int a3), some (.int a4), some (.int (a5 + 1)), none, none]) (pc' := 78) dX4_worstArc_75 rfl rfl (congrArg (fun y => a5 + y) (show Int32.ofInt 1 = 1 by decide)) (Nat.le_of_ble_eq_true rfl) rfl ?_
  refine X.goto (pc' := 8) dX4_worstArc_78 (by decide) ?_
  exact hk8 _ _ _ _ _ _ _ h
def f_X4_worstArc_68 (fu : Nat) (a0 : Nat) (a1 : Nat) (a2 : Int32) (a5 : Int32) (a6 : Int32) (a7 : Int32) (M : List Ob) (k8 : Nat → Nat → Int32 → Int32 → Int32 → Int32 → List Ob → Option (Int32 × List Ob)) : Option (Int32 × List Ob) :=
  f_X4_worstArc_75 fu a0 a1 a2 a6 a7 a5 M k8
set_option maxHeartbeats 4000000 in
theorem ok_X4_worstArc_68 {G : GT} {fu : Nat} {out : Int32 × List Ob} {a0 : Nat} {a1 : Nat} {a2 : Int32} {a5 : Int32} {a6 : Int32} {a7 : Int32} {M : List Ob} {k8 : Nat → Nat → Int32 → Int32 → Int32 → Int32 → List Ob → Option (Int32 × List Ob)} (hk8 : ∀ (a0 : Nat) (a1 : Nat) (a2 : Int32) (a3 : Int32) (a4 : Int32) (a5 : Int32) (M : List Ob), k8 a0 a1 a2 a3 a4 a5 M = some out → X G t_X4_worstArc [] 8 [some (.ref a0), some (.ref a1), some (.int a2), some (.int a3), some (.int a4), some (.int a5), none, none] [] M 0 0 (oI out)) (h : f_X4_worstArc_68 fu a0 a1 a2 a5 a6 a7 M k8 = some out) : X G t_X4_worstArc [] 68 [some (.ref a0), some (.ref a1), some (.int a2), none, none, some (.int a5), some (.int a6), some (.int a7)] [] M 0 0 (oI out) := by
  unfold f_X4_worstArc_68 at h
  refine X.iload (x := a6) (pc' := 70) dX4_worstArc_68 rfl rfl ?_
  refine X.istore_n (L' := [some (.ref a0), some (.ref a1), some (.int a2), some (.int a6), none, some (.int a5), some (.int a6), some (.int a7)]) (pc' := 71) dX4_worstArc_70 rfl rfl (Nat.le_of_ble_eq_true rfl) rfl ?_
  refine X.iload (x := a7) (pc' := 73) dX4_worstArc_71 rfl rfl ?_
  refine X.istore (L' := [some (.ref a0), some (.ref a1), some (.int a2), some (.int a6), some (.int a7), some (.int a5), some (.int a6), some (.int a7)]) (pc' := 75) dX4_worstArc_73 rfl (Nat.le_of_ble_eq_true rfl) rfl ?_
  refine X.sub (L := [some (.ref a0), some (.ref a1), some (.int a2), some (.int a6), some (.int a7), some (.int a5), none, none]) ?_ (⟨rfl, ⟨rfl, ⟨rfl, ⟨rfl, ⟨rfl, ⟨rfl, trivial⟩⟩⟩⟩⟩⟩)
  exact ok_X4_worstArc_75 hk8 h
def f_X4_worstArc_46 (fu : Nat) (a0 : Nat) (a1 : Nat) (a2 : Int32) (a3 : Int32) (a4 : Int32) (a5 : Int32) (a6 : Int32) (b0 : Int32) (M : List Ob) (k8 : Nat → Nat → Int32 → Int32 → Int32 → Int32 → List Ob → Option (Int32 × List Ob)) : Option (Int32 × List Ob) :=
  if a4 < b0 then (f_X4_worstArc_68 fu a0 a1 a2 a5 a6 b0 M k8)
  else (if b0 = a4 then (if a3 ≤ a6 then (f_X4_worstArc_75 fu a0 a1 a2 a3 a4 a5 M k8)
  else (f_X4_worstArc_68 fu a0 a1 a2 a5 a6 b0 M k8))
  else (f_X4_worstArc_75 fu a0 a1 a2 a3 a4 a5 M k8))
set_option maxHeartbeats 4000000 in
theorem ok_X4_worstArc_46 {G : GT} {fu : Nat} {out : Int32 × List Ob} {a0 : Nat} {a1 : Nat} {a2 : Int32} {a3 : Int32} {a4 : Int32} {a5 : Int32} {a6 : Int32} {b0 : Int32} {M : List Ob} {k8 : Nat → Nat → Int32 → Int32 → Int32 → Int32 → List Ob → Option (Int32 × List Ob)} (hk8 : ∀ (a0 : Nat) (a1 : Nat) (a2 : Int32) (a3 : Int32) (a4 : Int32) (a5 : Int32) (M : List Ob), k8 a0 a1 a2 a3 a4 a5 M = some out → X G t_X4_worstArc [] 8 [some (.ref a0), some (.ref a1), some (.int a2), some (.int a3), some (.int a4), some (.int a5), none, none] [] M 0 0 (oI out)) (h : f_X4_worstArc_46 fu a0 a1 a2 a3 a4 a5 a6 b0 M k8 = some out) : X G t_X4_worstArc [] 46 [some (.ref a0), some (.ref a1), some (.int a2), some (.int a3), some (.int a4), some (.int a5), some (.int a6), none] [.int b0] M 0 0 (oI out) := by
  unfold f_X4_worstArc_46 at h
  refine X.istore (L' := [some (.ref a0), some (.ref a1), some (.int a2), some (.int a3), some (.int a4), some (.int a5), some (.int a6), some (.int b0)]) (pc' := 48) dX4_worstArc_46 rfl (Nat.le_of_ble_eq_true rfl) rfl ?_
  refine X.iload (x := b0) (pc' := 50) dX4_worstArc_48 rfl rfl ?_
  refine X.iload (x := a4) (pc' := 52) dX4_worstArc_50 rfl rfl ?_
  refine X.icmp_gt (tgt := 68) (pc' := 55) dX4_worstArc_52 (by decide) rfl (fun hc => ?_) (fun hc => ?_)
  · rw [if_pos hc] at h
    refine X.sub (L := [some (.ref a0), some (.ref a1), some (.int a2), none, none, some (.int a5), some (.int a6), some (.int b0)]) ?_ (⟨rfl, ⟨rfl, ⟨rfl, ⟨rfl, ⟨rfl, ⟨rfl, trivial⟩⟩⟩⟩⟩⟩)
    exact ok_X4_worstArc_68 hk8 h
  · rw [if_neg hc] at h
    refine X.iload (x := b0) (pc' := 57) dX4_worstArc_55 rfl rfl ?_
    refine X.iload (x := a4) (pc' := 59) dX4_worstArc_57 rfl rfl ?_
    refine X.icmp_ne (tgt := 75) (pc' := 62) dX4_worstArc_59 (by decide) rfl (fun hc => ?_) (fun hc => ?_)
    · rw [if_neg hc] at h
      refine X.sub (L := [some (.ref a0), some (.ref a1), some (.int a2), some (.int a3), some (.int a4), some (.int a5), none, none]) ?_ (⟨rfl, ⟨rfl, ⟨rfl, ⟨rfl, ⟨rfl, ⟨rfl, trivial⟩⟩⟩⟩⟩⟩)
      exact ok_X4_worstArc_75 hk8 h
    · rw [if_pos hc] at h
      refine X.iload (x := a6) (pc' := 64) dX4_worstArc_62 rfl rfl ?_
      refine X.iload_n (x := a3) (pc' := 65) dX4_worstArc_64 rfl rfl rfl ?_
      refine X.icmp_ge (tgt := 75) (pc' := 68) dX4_worstArc_65 (by decide) rfl (fun hc => ?_) (fun hc => ?_)
      · rw [if_pos hc] at h
        refine X.sub (L := [some (.ref a0), some (.ref a1), some (.int a2), some (.int a3), some (.int a4), some (.int a5), none, none]) ?_ (⟨rfl, ⟨rfl, ⟨rfl, ⟨rfl, ⟨rfl, ⟨rfl, trivial⟩⟩⟩⟩⟩⟩)
        exact ok_X4_worstArc_75 hk8 h
      · rw [if_neg hc] at h
        refine X.sub (L := [some (.ref a0), some (.ref a1), some (.int a2), none, none, some (.int a5), some (.int a6), some (.int b0)]) ?_ (⟨rfl, ⟨rfl, ⟨rfl, ⟨rfl, ⟨rfl, ⟨rfl, trivial⟩⟩⟩⟩⟩⟩)
        exact ok_X4_worstArc_68 hk8 h
def f_X4_worstArc_8b (fu : Nat) (a0 : Nat) (a1 : Nat) (a2 : Int32) (a3 : Int32) (a4 : Int32) (a5 : Int32) (M : List Ob) (k8 : Nat → Nat → Int32 → Int32 → Int32 → Int32 → List Ob → Option (Int32 × List Ob)) : Option (Int32 × List Ob) :=
  (gI M a1 5 1).bind fun v1 =>
  if v1 ≤ a5 then (some (a3, M))
  else ((gP M a1 5 0).bind fun r3 =>
  (aI M r3 13 a5).bind fun v6 =>
  bd2 (f_X10_isIn fu a2 v6 M) fun v7 M8 =>
  if v7 = 0 then ((gP M8 a0 4 8).bind fun r11 =>
  (aI M8 r11 13 v6).bind fun v14 =>
  f_X4_worstArc_46 fu a0 a1 a2 a3 a4 a5 v6 v14 M8 k8)
  else (f_X4_worstArc_46 fu a0 a1 a2 a3 a4 a5 v6 0 M8 k8))
set_option maxHeartbeats 4000000 in
theorem ok_X4_worstArc_8b {G : GT} {fu : Nat} {out : Int32 × List Ob} {a0 : Nat} {a1 : Nat} {a2 : Int32} {a3 : Int32} {a4 : Int32} {a5 : Int32} {M : List Ob} {k8 : Nat → Nat → Int32 → Int32 → Int32 → Int32 → List Ob → Option (Int32 × List Ob)} (hk8 : ∀ (a0 : Nat) (a1 : Nat) (a2 : Int32) (a3 : Int32) (a4 : Int32) (a5 : Int32) (M : List Ob), k8 a0 a1 a2 a3 a4 a5 M = some out → X G t_X4_worstArc [] 8 [some (.ref a0), some (.ref a1), some (.int a2), some (.int a3), some (.int a4), some (.int a5), none, none] [] M 0 0 (oI out)) (h : f_X4_worstArc_8b fu a0 a1 a2 a3 a4 a5 M k8 = some out) : X G t_X4_worstArc [] 8 [some (.ref a0), some (.ref a1), some (.int a2), some (.int a3), some (.int a4), some (.int a5), none, none] [] M 0 0 (oI out) := by
  unfold f_X4_worstArc_8b at h
  refine X.iload (x := a5) (pc' := 10) dX4_worstArc_8 rfl rfl ?_
  refine X.aload_n (x := a1) (pc' := 11) dX4_worstArc_10 rfl rfl rfl ?_
  obtain ⟨v1, e2, h⟩ := bindE h
  refine X.getf (pc' := 14) dX4_worstArc_11 rfl fq_X4_40 (gI_spec e2) ?_
  refine X.icmp_ge (tgt := 81) (pc' := 17) dX4_worstArc_14 (by decide) rfl (fun hc => ?_) (fun hc => ?_)
  · rw [if_pos hc] at h
    refine X.iload_n (x := a3) (pc' := 82) dX4_worstArc_81 rfl rfl rfl ?_
    cases h
    exact X.iret (ty := .int) dX4_worstArc_82 rfl rfl (Nat.le_of_ble_eq_true rfl) (Nat.le_of_ble_eq_true rfl) rfl
  · rw [if_neg hc] at h
    refine X.aload_n (x := a1) (pc' := 18) dX4_worstArc_17 rfl rfl rfl ?_
    obtain ⟨r3, e4, h⟩ := bindE h
    refine X.getf (pc' := 21) dX4_worstArc_18 rfl fq_X4_45 (gP_spec e4) ?_
    refine X.iload (x := a5) (pc' := 23) dX4_worstArc_21 rfl rfl ?_
    obtain ⟨v6, e5, h⟩ := bindE h
    refine X.iald (pc' := 24) dX4_worstArc_23 rfl e5 ?_
    refine X.istore (L' := [some (.ref a0), some (.ref a1), some (.int a2), some (.int a3), some (.int a4), some (.int a5), some (.int v6), none]) (pc' := 26) dX4_worstArc_24 rfl (Nat.le_of_ble_eq_true rfl) rfl ?_
    refine X.iload_n (x := a2) (pc' := 27) dX4_worstArc_26 rfl rfl rfl ?_
    refine X.iload (x := v6) (pc' := 29) dX4_worstArc_27 rfl rfl ?_
    obtain ⟨v7, M8, e9, h⟩ := bd2E h
    refine X.callSN (v := some (.int v7)) (As := [.int a2, .int v6]) (st := []) (M' := M8) (pc' := 32) dX4_worstArc_29 rfl cl_X4_63 ms_X10_isIn ⟨⟨Nat.le_of_ble_eq_true rfl, Nat.le_of_ble_eq_true rfl⟩, Nat.le_of_ble_eq_true rfl, Nat.le_of_ble_eq_true rfl⟩ rfl (Nat.le_of_ble_eq_true rfl) (ok_X10_isIn (G := zs G) e9) ?_
    show X G t_X4_worstArc [] 32 [some (.ref a0), some (.ref a1), some (.int a2), some (.int a3), some (.int a4), some (.int a5), some (.int v6), none] [.int v7] M8 0 0 _
    refine X.if_eq (tgt := 39) (pc' := 35) dX4_worstArc_32 (by decide) rfl (fun hc => ?_) (fun hc => ?_)
    · rw [if_pos hc] at h
      refine X.aload_n (x := a0) (pc' := 40) dX4_worstArc_39 rfl rfl rfl ?_
      obtain ⟨r11, e12, h⟩ := bindE h
      refine X.getf (pc' := 43) dX4_worstArc_40 rfl fq_X4_21 (gP_spec e12) ?_
      refine X.iload (x := v6) (pc' := 45) dX4_worstArc_43 rfl rfl ?_
      obtain ⟨v14, e13, h⟩ := bindE h
      refine X.iald (pc' := 46) dX4_worstArc_45 rfl e13 ?_
      exact ok_X4_worstArc_46 hk8 h
    · rw [if_neg hc] at h
      refine X.iconst (v := 0) (pc' := 36) dX4_worstArc_35 rfl (by decide) ?_
      refine X.goto (pc' := 46) dX4_worstArc_36 (by decide) ?_
      exact ok_X4_worstArc_46 hk8 h
def f_X4_worstArc_8 (fu : Nat) : Nat → Nat → Nat → Int32 → Int32 → Int32 → Int32 → List Ob → Option (Int32 × List Ob)
  | 0, _, _, _, _, _, _, _ => none
  | n + 1, a0, a1, a2, a3, a4, a5, M => f_X4_worstArc_8b fu a0 a1 a2 a3 a4 a5 M (fun a0 a1 a2 a3 a4 a5 M => f_X4_worstArc_8 fu n a0 a1 a2 a3 a4 a5 M)
theorem ok_X4_worstArc_8 {G : GT} {fu : Nat} {out : Int32 × List Ob} : ∀ (n : Nat) (a0 : Nat) (a1 : Nat) (a2 : Int32) (a3 : Int32) (a4 : Int32) (a5 : Int32) (M : List Ob), f_X4_worstArc_8 fu n a0 a1 a2 a3 a4 a5 M = some out → X G t_X4_worstArc [] 8 [some (.ref a0), some (.ref a1), some (.int a2), some (.int a3), some (.int a4), some (.int a5), none, none] [] M 0 0 (oI out) := by
  intro n
  induction n with
  | zero =>
    intro a0 a1 a2 a3 a4 a5 M h
    unfold f_X4_worstArc_8 at h
    cases h
  | succ n ih =>
    intro a0 a1 a2 a3 a4 a5 M h
    unfold f_X4_worstArc_8 at h
    exact ok_X4_worstArc_8b ih h
def f_X4_worstArc (fu : Nat) (a0 : Nat) (a1 : Nat) (a2 : Int32) (M : List Ob) : Option (Int32 × List Ob) :=
  f_X4_worstArc_8 fu  fu a0 a1 a2 (-1) 0 0 M
set_option maxHeartbeats 4000000 in
theorem ok_X4_worstArc {G : GT} {fu : Nat} {a0 : Nat} {a1 : Nat} {a2 : Int32} {M : List Ob} {out : Int32 × List Ob} (h : f_X4_worstArc fu a0 a1 a2 M = some out) : Sp G t_X4_worstArc [.ref a0, .ref a1, .int a2] M (oI out) := by
  refine Sp.of rfl (by decide +kernel) (cat_all rfl) (Nat.le_of_ble_eq_true rfl) ?_
  show X G t_X4_worstArc [] 0 [some (.ref a0), some (.ref a1), some (.int a2), none, none, none, none, none] [] M 0 0 (oI out)
  unfold f_X4_worstArc at h
  refine X.iconst (v := (-1)) (pc' := 1) dX4_worstArc_0 rfl (by decide) ?_
  refine X.istore_n (L' := [some (.ref a0), some (.ref a1), some (.int a2), some (.int (-1)), none, none, none, none]) (pc' := 2) dX4_worstArc_1 rfl rfl (Nat.le_of_ble_eq_true rfl) rfl ?_
  refine X.iconst (v := 0) (pc' := 3) dX4_worstArc_2 rfl (by decide) ?_
  refine X.istore (L' := [some (.ref a0), some (.ref a1), some (.int a2), some (.int (-1)), some (.int 0), none, none, none]) (pc' := 5) dX4_worstArc_3 rfl (Nat.le_of_ble_eq_true rfl) rfl ?_
  refine X.iconst (v := 0) (pc' := 6) dX4_worstArc_5 rfl (by decide) ?_
  refine X.istore (L' := [some (.ref a0), some (.ref a1), some (.int a2), some (.int (-1)), some (.int 0), some (.int 0), none, none]) (pc' := 8) dX4_worstArc_6 rfl (Nat.le_of_ble_eq_true rfl) rfl ?_
  refine ok_X4_worstArc_8  fu _ _ _ _ _ _ _ h
def f_X4_witnessOf_4b (fu : Nat) (a0 : Nat) (a1 : Nat) (a2 : Int32) (a3 : Int32) (M : List Ob) (k4 : Nat → Nat → Int32 → Int32 → List Ob → Option (Int32 × List Ob)) : Option (Int32 × List Ob) :=
  (gI M a0 4 3).bind fun v1 =>
  if v1 ≤ a3 then (some (a2, M))
  else ((hasO M a0 4).bind fun _ =>
  bd2 (f_X4_worstArc fu a0 a1 a2 M) fun v3 M4 =>
  if v3 = (-1) then (some (a2, M4))
  else (k4 a0 a1 (a2 ||| (1 <<< (v3 &&& 31))) (a3 + 1) M4))
set_option maxHeartbeats 4000000 in
theorem ok_X4_witnessOf_4b {G : GT} {fu : Nat} {out : Int32 × List Ob} {a0 : Nat} {a1 : Nat} {a2 : Int32} {a3 : Int32} {M : List Ob} {k4 : Nat → Nat → Int32 → Int32 → List Ob → Option (Int32 × List Ob)} (hk4 : ∀ (a0 : Nat) (a1 : Nat) (a2 : Int32) (a3 : Int32) (M : List Ob), k4 a0 a1 a2 a3 M = some out → X G t_X4_witnessOf [] 4 [some (.ref a0), some (.ref a1), some (.int a2), some (.int a3), none] [] M 0 0 (oI out)) (h : f_X4_witnessOf_4b fu a0 a1 a2 a3 M k4 = some out) : X G t_X4_witnessOf [] 4 [some (.ref a0), some (.ref a1), some (.int a2), some (.int a3), none] [] M 0 0 (oI out) := by
  unfold f_X4_witnessOf_4b at h
  refine X.iload_n (x := a3) (pc' := 5) dX4_witnessOf_4 rfl rfl rfl ?_
  refine X.aload_n (x := a0) (pc' := 6) dX4_witnessOf_5 rfl rfl rfl ?_
  obtain ⟨v1, e2, h⟩ := bindE h
  refine X.getf (pc' := 9) dX4_witnessOf_6 rfl fq_X4_34 (gI_spec e2) ?_
  refine X.icmp_ge (tgt := 41) (pc' := 12) dX4_witnessOf_9 (by decide) rfl (fun hc => ?_) (fun hc => ?_)
  · rw [if_pos hc] at h
    refine X.iload_n (x := a2) (pc' := 42) dX4_witnessOf_41 rfl rfl rfl ?_
    cases h
    exact X.iret (ty := .int) dX4_witnessOf_42 rfl rfl (Nat.le_of_ble_eq_true rfl) (Nat.le_of_ble_eq_true rfl) rfl
  · rw [if_neg hc] at h
    refine X.aload_n (x := a0) (pc' := 13) dX4_witnessOf_12 rfl rfl rfl ?_
    refine X.aload_n (x := a1) (pc' := 14) dX4_witnessOf_13 rfl rfl rfl ?_
    refine X.iload_n (x := a2) (pc' := 15) dX4_witnessOf_14 rfl rfl rfl ?_
    obtain ⟨⟨⟩, e6, h⟩ := bindE h
    obtain ⟨v3, M4, e5, h⟩ := bd2E h
    refine X.callV (b := a0) (v := some (.int v3)) (As := [.ref a1, .int a2]) (st := []) (M' := M4) (pc' := 18) dX4_witnessOf_15 rfl cl_X4_59 mi_X4_worstArc me_X4_worstArc mr_X4_worstArc e6 ⟨⟨Nat.le_of_ble_eq_true rfl, Nat.le_of_ble_eq_true rfl⟩, Nat.le_of_ble_eq_true rfl, Nat.le_of_ble_eq_true rfl⟩ rfl (Nat.le_of_ble_eq_true rfl) (ok_X4_worstArc (G := zs G) e5) ?_
    show X G t_X4_witnessOf [] 18 [some (.ref a0), some (.ref a1), some (.int a2), some (.int a3), none] [.int v3] M4 0 0 _
    refine X.istore (L' := [some (.ref a0), some (.ref a1), some (.int a2), some (.int a3), some (.int v3)]) (pc' := 20) dX4_witnessOf_18 rfl (Nat.le_of_ble_eq_true rfl) rfl ?_
    refine X.iload (x := v3) (pc' := 22) dX4_witnessOf_20 rfl rfl ?_
    refine X.iconst (v := (-1)) (pc' := 23) dX4_witnessOf_22 rfl (by decide) ?_
    refine X.icmp_ne (tgt := 28) (pc' := 26) dX4_witnessOf_23 (by decide) rfl (fun hc => ?_) (fun hc => ?_)
    · rw [if_neg hc] at h
      refine X.iload_n (x := a2) (pc' := 29) dX4_witnessOf_28 rfl rfl rfl ?_
      refine X.iconst (v := 1) (pc' := 30) dX4_witnessOf_29 rfl (by decide) ?_
      refine X.iload (x := v3) (pc' := 32) dX4_witnessOf_30 rfl rfl ?_
      refine X.ishl (pc' := 33) dX4_witnessOf_32 rfl ?_
      refine X.ior (pc' := 34) dX4_witnessOf_33 rfl ?_
      refine X.istore_n (L' := [some (.ref a0), some (.ref a1), some (.int (a2 ||| (1 <<< (v3 &&& 31)))), some (.int a3), some (.int v3)]) (pc' := 35) dX4_witnessOf_34 rfl rfl (Nat.le_of_ble_eq_true rfl) rfl ?_
      refine X.iinc (v := (a3 + 1)) (L' := [some (.ref a0), some (.ref a1), some (.int (a2 ||| (1 <<< (v3 &&& 31)))), some (.int (a3 + 1)), some (.int v3)]) (pc' := 38) dX4_witnessOf_35 rfl rfl (congrArg (fun y => a3 + y) (show Int32.ofInt 1 = 1 by decide)) (Nat.le_of_ble_eq_true rfl) rfl ?_
      refine X.goto (pc' := 4) dX4_witnessOf_38 (by decide) ?_
      refine X.sub (L := [some (.ref a0), some (.ref a1), some (.int (a2 ||| (1 <<< (v3 &&& 31)))), some (.int (a3 + 1)), none]) ?_ (⟨rfl, ⟨rfl, ⟨rfl, ⟨rfl, trivial⟩⟩⟩⟩)
      exact hk4 _ _ _ _ _ h
    · rw [if_pos hc] at h
      refine X.iload_n (x := a2) (pc' := 27) dX4_witnessOf_26 rfl rfl rfl ?_
      cases h
      exact X.iret (ty := .int) dX4_witnessOf_27 rfl rfl (Nat.le_of_ble_eq_true rfl) (Nat.le_of_ble_eq_true rfl) rfl
def f_X4_witnessOf_4 (fu : Nat) : Nat → Nat → Nat → Int32 → Int32 → List Ob → Option (Int32 × List Ob)
  | 0, _, _, _, _, _ => none
  | n + 1, a0, a1, a2, a3, M => f_X4_witnessOf_4b fu a0 a1 a2 a3 M (fun a0 a1 a2 a3 M => f_X4_witnessOf_4 fu n a0 a1 a2 a3 M)
theorem ok_X4_witnessOf_4 {G : GT} {fu : Nat} {out : Int32 × List Ob} : ∀ (n : Nat) (a0 : Nat) (a1 : Nat) (a2 : Int32) (a3 : Int32) (M : List Ob), f_X4_witnessOf_4 fu n a0 a1 a2 a3 M = some out → X G t_X4_witnessOf [] 4 [some (.ref a0), some (.ref a1), some (.int a2), some (.int a3), none] [] M 0 0 (oI out) := by
  intro n
  induction n with
  | zero =>
    intro a0 a1 a2 a3 M h
    unfold f_X4_witnessOf_4 at h
    cases h
  | succ n ih =>
    intro a0 a1 a2 a3 M h
    unfold f_X4_witnessOf_4 at h
    exact ok_X4_witnessOf_4b ih h
def f_X4_witnessOf (fu : Nat) (a0 : Nat) (a1 : Nat) (M : List Ob) : Option (Int32 × List Ob) :=
  f_X4_witnessOf_4 fu  fu a0 a1 0 0 M
set_option maxHeartbeats 4000000 in
theorem ok_X4_witnessOf {G : GT} {fu : Nat} {a0 : Nat} {a1 : Nat} {M : List Ob} {out : Int32 × List Ob} (h : f_X4_witnessOf fu a0 a1 M = some out) : Sp G t_X4_witnessOf [.ref a0, .ref a1] M (oI out) := by
  refine Sp.of rfl (by decide +kernel) (cat_all rfl) (Nat.le_of_ble_eq_true rfl) ?_
  show X G t_X4_witnessOf [] 0 [some (.ref a0), some (.ref a1), none, none, none] [] M 0 0 (oI out)
  unfold f_X4_witnessOf at h
  refine X.iconst (v := 0) (pc' := 1) dX4_witnessOf_0 rfl (by decide) ?_
  refine X.istore_n (L' := [some (.ref a0), some (.ref a1), some (.int 0), none, none]) (pc' := 2) dX4_witnessOf_1 rfl rfl (Nat.le_of_ble_eq_true rfl) rfl ?_
  refine X.iconst (v := 0) (pc' := 3) dX4_witnessOf_2 rfl (by decide) ?_
  refine X.istore_n (L' := [some (.ref a0), some (.ref a1), some (.int 0), some (.int 0), none]) (pc' := 4) dX4_witnessOf_3 rfl rfl (Nat.le_of_ble_eq_true rfl) rfl ?_
  refine ok_X4_witnessOf_4  fu _ _ _ _ _ h
def f_X4_begin (fu : Nat) (a0 : Nat) (a1 : Int32) (a2 : Int32) (a3 : Int32) (M : List Ob) : Option (Unit × List Ob) :=
  (pF M a0 4 0 (.int a1)).bind fun M1 =>
  (pF M1 a0 4 1 (.int a2)).bind fun M3 =>
  (pF M3 a0 4 2 (.int a3)).bind fun M5 =>
  (pF M5 a0 4 3 (.int 2)).bind fun M7 =>
  (pF M7 a0 4 4 (.int 0)).bind fun M9 =>
  some ((), M9)
set_option maxHeartbeats 4000000 in
theorem ok_X4_begin {G : GT} {fu : Nat} {a0 : Nat} {a1 : Int32} {a2 : Int32} {a3 : Int32} {M : List Ob} {out : Unit × List Ob} (h : f_X4_begin fu a0 a1 a2 a3 M = some out) : Sp G t_X4_begin [.ref a0, .int a1, .int a2, .int a3] M (oU out) := by
  refine Sp.of rfl (by decide +kernel) (cat_all rfl) (Nat.le_of_ble_eq_true rfl) ?_
  show X G t_X4_begin [] 0 [some (.ref a0), some (.int a1), some (.int a2), some (.int a3)] [] M 0 0 (oU out)
  unfold f_X4_begin at h
  refine X.aload_n (x := a0) (pc' := 1) dX4_begin_0 rfl rfl rfl ?_
  refine X.iload_n (x := a1) (pc' := 2) dX4_begin_1 rfl rfl rfl ?_
  obtain ⟨M1, e2, h⟩ := bindE h
  refine X.putf (pc' := 5) dX4_begin_2 rfl fq_X4_24 rfl rfl e2 ?_
  refine X.aload_n (x := a0) (pc' := 6) dX4_begin_5 rfl rfl rfl ?_
  refine X.iload_n (x := a2) (pc' := 7) dX4_begin_6 rfl rfl rfl ?_
  obtain ⟨M3, e4, h⟩ := bindE h
  refine X.putf (pc' := 10) dX4_begin_7 rfl fq_X4_28 rfl rfl e4 ?_
  refine X.aload_n (x := a0) (pc' := 11) dX4_begin_10 rfl rfl rfl ?_
  refine X.iload_n (x := a3) (pc' := 12) dX4_begin_11 rfl rfl rfl ?_
  obtain ⟨M5, e6, h⟩ := bindE h
  refine X.putf (pc' := 15) dX4_begin_12 rfl fq_X4_31 rfl rfl e6 ?_
  refine X.aload_n (x := a0) (pc' := 16) dX4_begin_15 rfl rfl rfl ?_
  refine X.iconst (v := 2) (pc' := 17) dX4_begin_16 rfl (by decide) ?_
  obtain ⟨M7, e8, h⟩ := bindE h
  refine X.putf (pc' := 20) dX4_begin_17 rfl fq_X4_34 rfl rfl e8 ?_
  refine X.aload_n (x := a0) (pc' := 21) dX4_begin_20 rfl rfl rfl ?_
  refine X.iconst (v := 0) (pc' := 22) dX4_begin_21 rfl (by decide) ?_
  obtain ⟨M9, e10, h⟩ := bindE h
  refine X.putf (pc' := 25) dX4_begin_22 rfl fq_X4_37 rfl rfl e10 ?_
  cases h
  exact X.vret dX4_begin_25 rfl (Nat.le_of_ble_eq_true rfl) (Nat.le_of_ble_eq_true rfl) rfl
def f_X4_addLast (fu : Nat) (a0 : Nat) (a1 : Int32) (a2 : Int32) (a3 : Int32) (a4 : Int32) (M : List Ob) : Option (Unit × List Ob) :=
  (gI M a0 4 4).bind fun v1 =>
  if 16 ≤ v1 then (some ((), M))
  else ((gP M a0 4 5).bind fun r3 =>
  (gI M a0 4 4).bind fun v5 =>
  (aSet M r3 13 v5 (.int a1)).bind fun M8 =>
  (gP M8 a0 4 6).bind fun r9 =>
  (gI M8 a0 4 4).bind fun v11 =>
  (aSet M8 r9 13 v11 (.int a2)).bind fun M14 =>
  (gP M14 a0 4 7).bind fun r15 =>
  (gI M14 a0 4 4).bind fun v17 =>
  (aSet M14 r15 13 v17 (.int a3)).bind fun M20 =>
  (gP M20 a0 4 8).bind fun r21 =>
  (gI M20 a0 4 4).bind fun v23 =>
  (aSet M20 r21 13 v23 (.int a4)).bind fun M26 =>
  (gI M26 a0 4 4).bind fun v27 =>
  (pF M26 a0 4 4 (.int (v27 + 1))).bind fun M29 =>
  some ((), M29))
set_option maxHeartbeats 4000000 in
theorem ok_X4_addLast {G : GT} {fu : Nat} {a0 : Nat} {a1 : Int32} {a2 : Int32} {a3 : Int32} {a4 : Int32} {M : List Ob} {out : Unit × List Ob} (h : f_X4_addLast fu a0 a1 a2 a3 a4 M = some out) : Sp G t_X4_addLast [.ref a0, .int a1, .int a2, .int a3, .int a4] M (oU out) := by
  refine Sp.of rfl (by decide +kernel) (cat_all rfl) (Nat.le_of_ble_eq_true rfl) ?_
  show X G t_X4_addLast [] 0 [some (.ref a0), some (.int a1), some (.int a2), some (.int a3), some (.int a4)] [] M 0 0 (oU out)
  unfold f_X4_addLast at h
  refine X.aload_n (x := a0) (pc' := 1) dX4_addLast_0 rfl rfl rfl ?_
  obtain ⟨v1, e2, h⟩ := bindE h
  refine X.getf (pc' := 4) dX4_addLast_1 rfl fq_X4_37 (gI_spec e2) ?_
  refine X.bipush (v := 16) (pc' := 6) dX4_addLast_4 rfl (by decide) ?_
  refine X.icmp_ge (tgt := 60) (pc' := 9) dX4_addLast_6 (by decide) rfl (fun hc => ?_) (fun hc => ?_)
  · rw [if_pos hc] at h
    cases h
    exact X.vret dX4_addLast_60 rfl (Nat.le_of_ble_eq_true rfl) (Nat.le_of_ble_eq_true rfl) rfl
  · rw [if_neg hc] at h
    refine X.aload_n (x := a0) (pc' := 10) dX4_addLast_9 rfl rfl rfl ?_
    obtain ⟨r3, e4, h⟩ := bindE h
    refine X.getf (pc' := 13) dX4_addLast_10 rfl fq_X4_9 (gP_spec e4) ?_
    refine X.aload_n (x := a0) (pc' := 14) dX4_addLast_13 rfl rfl rfl ?_
    obtain ⟨v5, e6, h⟩ := bindE h
    refine X.getf (pc' := 17) dX4_addLast_14 rfl fq_X4_37 (gI_spec e6) ?_
    refine X.iload_n (x := a1) (pc' := 18) dX4_addLast_17 rfl rfl rfl ?_
    obtain ⟨M8, e7, h⟩ := bindE h
    refine X.iast (pc' := 19) dX4_addLast_18 rfl e7 ?_
    refine X.aload_n (x := a0) (pc' := 20) dX4_addLast_19 rfl rfl rfl ?_
    obtain ⟨r9, e10, h⟩ := bindE h
    refine X.getf (pc' := 23) dX4_addLast_20 rfl fq_X4_15 (gP_spec e10) ?_
    refine X.aload_n (x := a0) (pc' := 24) dX4_addLast_23 rfl rfl rfl ?_
    obtain ⟨v11, e12, h⟩ := bindE h
    refine X.getf (pc' := 27) dX4_addLast_24 rfl fq_X4_37 (gI_spec e12) ?_
    refine X.iload_n (x := a2) (pc' := 28) dX4_addLast_27 rfl rfl rfl ?_
    obtain ⟨M14, e13, h⟩ := bindE h
    refine X.iast (pc' := 29) dX4_addLast_28 rfl e13 ?_
    refine X.aload_n (x := a0) (pc' := 30) dX4_addLast_29 rfl rfl rfl ?_
    obtain ⟨r15, e16, h⟩ := bindE h
    refine X.getf (pc' := 33) dX4_addLast_30 rfl fq_X4_18 (gP_spec e16) ?_
    refine X.aload_n (x := a0) (pc' := 34) dX4_addLast_33 rfl rfl rfl ?_
    obtain ⟨v17, e18, h⟩ := bindE h
    refine X.getf (pc' := 37) dX4_addLast_34 rfl fq_X4_37 (gI_spec e18) ?_
    refine X.iload_n (x := a3) (pc' := 38) dX4_addLast_37 rfl rfl rfl ?_
    obtain ⟨M20, e19, h⟩ := bindE h
    refine X.iast (pc' := 39) dX4_addLast_38 rfl e19 ?_
    refine X.aload_n (x := a0) (pc' := 40) dX4_addLast_39 rfl rfl rfl ?_
    obtain ⟨r21, e22, h⟩ := bindE h
    refine X.getf (pc' := 43) dX4_addLast_40 rfl fq_X4_21 (gP_spec e22) ?_
    refine X.aload_n (x := a0) (pc' := 44) dX4_addLast_43 rfl rfl rfl ?_
    obtain ⟨v23, e24, h⟩ := bindE h
    refine X.getf (pc' := 47) dX4_addLast_44 rfl fq_X4_37 (gI_spec e24) ?_
    refine X.iload (x := a4) (pc' := 49) dX4_addLast_47 rfl rfl ?_
    obtain ⟨M26, e25, h⟩ := bindE h
    refine X.iast (pc' := 50) dX4_addLast_49 rfl e25 ?_
    refine X.aload_n (x := a0) (pc' := 51) dX4_addLast_50 rfl rfl rfl ?_
    refine X.dup (pc' := 52) dX4_addLast_51 rfl rfl ?_
    obtain ⟨v27, e28, h⟩ := bindE h
    refine X.getf (pc' := 55) dX4_addLast_52 rfl fq_X4_37 (gI_spec e28) ?_
    refine X.iconst (v := 1) (pc' := 56) dX4_addLast_55 rfl (by decide) ?_
    refine X.iadd (pc' := 57) dX4_addLast_56 rfl ?_
    obtain ⟨M29, e30, h⟩ := bindE h
    refine X.putf (pc' := 60) dX4_addLast_57 rfl fq_X4_37 rfl rfl e30 ?_
    cases h
    exact X.vret dX4_addLast_60 rfl (Nat.le_of_ble_eq_true rfl) (Nat.le_of_ble_eq_true rfl) rfl
def f_X4_takeOut_2b (fu : Nat) (a0 : Nat) (a2 : Int32) (M : List Ob) (k2 : Nat → Int32 → List Ob → Option (Unit × List Ob)) (k74 : Nat → List Ob → Option (Unit × List Ob)) : Option (Unit × List Ob) :=
  (gI M a0 4 4).bind fun v1 =>
  if (v1 - 1) ≤ a2 then (k74 a0 M)
  else ((gP M a0 4 5).bind fun r3 =>
  (gP M a0 4 5).bind fun r5 =>
  (aI M r5 13 (a2 + 1)).bind fun v8 =>
  (aSet M r3 13 a2 (.int v8)).bind fun M10 =>
  (gP M10 a0 4 6).bind fun r11 =>
  (gP M10 a0 4 6).bind fun r13 =>
  (aI M10 r13 13 (a2 + 1)).bind fun v16 =>
  (aSet M10 r11 13 a2 (.int v16)).bind fun M18 =>
  (gP M18 a0 4 7).bind fun r19 =>
  (gP M18 a0 4 7).bind fun r21 =>
  (aI M18 r21 13 (a2 + 1)).bind fun v24 =>
  (aSet M18 r19 13 a2 (.int v24)).bind fun M26 =>
  (gP M26 a0 4 8).bind fun r27 =>
  (gP M26 a0 4 8).bind fun r29 =>
  (aI M26 r29 13 (a2 + 1)).bind fun v32 =>
  (aSet M26 r27 13 a2 (.int v32)).bind fun M34 =>
  k2 a0 (a2 + 1) M34)
set_option maxHeartbeats 4000000 in
theorem ok_X4_takeOut_2b {G : GT} {fu : Nat} {out : Unit × List Ob} {a0 : Nat} {a2 : Int32} {M : List Ob} {k2 : Nat → Int32 → List Ob → Option (Unit × List Ob)} {k74 : Nat → List Ob → Option (Unit × List Ob)} (hk2 : ∀ (a0 : Nat) (a2 : Int32) (M : List Ob), k2 a0 a2 M = some out → X G t_X4_takeOut [] 2 [some (.ref a0), none, some (.int a2)] [] M 0 0 (oU out)) (hk74 : ∀ (a0 : Nat) (M : List Ob), k74 a0 M = some out → X G t_X4_takeOut [] 74 [some (.ref a0), none, none] [] M 0 0 (oU out)) (h : f_X4_takeOut_2b fu a0 a2 M k2 k74 = some out) : X G t_X4_takeOut [] 2 [some (.ref a0), none, some (.int a2)] [] M 0 0 (oU out) := by
  unfold f_X4_takeOut_2b at h
  refine X.iload_n (x := a2) (pc' := 3) dX4_takeOut_2 rfl rfl rfl ?_
  refine X.aload_n (x := a0) (pc' := 4) dX4_takeOut_3 rfl rfl rfl ?_
  obtain ⟨v1, e2, h⟩ := bindE h
  refine X.getf (pc' := 7) dX4_takeOut_4 rfl fq_X4_37 (gI_spec e2) ?_
  refine X.iconst (v := 1) (pc' := 8) dX4_takeOut_7 rfl (by decide) ?_
  refine X.isub (pc' := 9) dX4_takeOut_8 rfl ?_
  refine X.icmp_ge (tgt := 74) (pc' := 12) dX4_takeOut_9 (by decide) rfl (fun hc => ?_) (fun hc => ?_)
  · rw [if_pos hc] at h
    refine X.sub (L := [some (.ref a0), none, none]) ?_ (⟨rfl, trivial⟩)
    exact hk74 _ _ h
  · rw [if_neg hc] at h
    refine X.aload_n (x := a0) (pc' := 13) dX4_takeOut_12 rfl rfl rfl ?_
    obtain ⟨r3, e4, h⟩ := bindE h
    refine X.getf (pc' := 16) dX4_takeOut_13 rfl fq_X4_9 (gP_spec e4) ?_
    refine X.iload_n (x := a2) (pc' := 17) dX4_takeOut_16 rfl rfl rfl ?_
    refine X.aload_n (x := a0) (pc' := 18) dX4_takeOut_17 rfl rfl rfl ?_
    obtain ⟨r5, e6, h⟩ := bindE h
    refine X.getf (pc' := 21) dX4_takeOut_18 rfl fq_X4_9 (gP_spec e6) ?_
    refine X.iload_n (x := a2) (pc' := 22) dX4_takeOut_21 rfl rfl rfl ?_
    refine X.iconst (v := 1) (pc' := 23) dX4_takeOut_22 rfl (by decide) ?_
    refine X.iadd (pc' := 24) dX4_takeOut_23 rfl ?_
    obtain ⟨v8, e7, h⟩ := bindE h
    refine X.iald (pc' := 25) dX4_takeOut_24 rfl e7 ?_
    obtain ⟨M10, e9, h⟩ := bindE h
    refine X.iast (pc' := 26) dX4_takeOut_25 rfl e9 ?_
    refine X.aload_n (x := a0) (pc' := 27) dX4_takeOut_26 rfl rfl rfl ?_
    obtain ⟨r11, e12, h⟩ := bindE h
    refine X.getf (pc' := 30) dX4_takeOut_27 rfl fq_X4_15 (gP_spec e12) ?_
    refine X.iload_n (x := a2) (pc' := 31) dX4_takeOut_30 rfl rfl rfl ?_
    refine X.aload_n (x := a0) (pc' := 32) dX4_takeOut_31 rfl rfl rfl ?_
    obtain ⟨r13, e14, h⟩ := bindE h
    refine X.getf (pc' := 35) dX4_takeOut_32 rfl fq_X4_15 (gP_spec e14) ?_
    refine X.iload_n (x := a2) (pc' := 36) dX4_takeOut_35 rfl rfl rfl ?_
    refine X.iconst (v := 1) (pc' := 37) dX4_takeOut_36 rfl (by decide) ?_
    refine X.iadd (pc' := 38) dX4_takeOut_37 rfl ?_
    obtain ⟨v16, e15, h⟩ := bindE h
    refine X.iald (pc' := 39) dX4_takeOut_38 rfl e15 ?_
    obtain ⟨M18, e17, h⟩ := bindE h
    refine X.iast (pc' := 40) dX4_takeOut_39 rfl e17 ?_
    refine X.aload_n (x := a0) (pc' := 41) dX4_takeOut_40 rfl rfl rfl ?_
    obtain ⟨r19, e20, h⟩ := bindE h
    refine X.getf (pc' := 44) dX4_takeOut_41 rfl fq_X4_18 (gP_spec e20) ?_
    refine X.iload_n (x := a2) (pc' := 45) dX4_takeOut_44 rfl rfl rfl ?_
    refine X.aload_n (x := a0) (pc' := 46) dX4_takeOut_45 rfl rfl rfl ?_
    obtain ⟨r21, e22, h⟩ := bindE h
    refine X.getf (pc' := 49) dX4_takeOut_46 rfl fq_X4_18 (gP_spec e22) ?_
    refine X.iload_n (x := a2) (pc' := 50) dX4_takeOut_49 rfl rfl rfl ?_
    refine X.iconst (v := 1) (pc' := 51) dX4_takeOut_50 rfl (by decide) ?_
    refine X.iadd (pc' := 52) dX4_takeOut_51 rfl ?_
    obtain ⟨v24, e23, h⟩ := bindE h
    refine X.iald (pc' := 53) dX4_takeOut_52 rfl e23 ?_
    obtain ⟨M26, e25, h⟩ := bindE h
    refine X.iast (pc' := 54) dX4_takeOut_53 rfl e25 ?_
    refine X.aload_n (x := a0) (pc' := 55) dX4_takeOut_54 rfl rfl rfl ?_
    obtain ⟨r27, e28, h⟩ := bindE h
    refine X.getf (pc' := 58) dX4_takeOut_55 rfl fq_X4_21 (gP_spec e28) ?_
    refine X.iload_n (x := a2) (pc' := 59) dX4_takeOut_58 rfl rfl rfl ?_
    refine X.aload_n (x := a0) (pc' := 60) dX4_takeOut_59 rfl rfl rfl ?_
    obtain ⟨r29, e30, h⟩ := bindE h
    refine X.getf (pc' := 63) dX4_takeOut_60 rfl fq_X4_21 (gP_spec e30) ?_
    refine X.iload_n (x := a2) (pc' := 64) dX4_takeOut_63 rfl rfl rfl ?_
    refine X.iconst (v := 1) (pc' := 65) dX4_takeOut_64 rfl (by decide) ?_
    refine X.iadd (pc' := 66) dX4_takeOut_65 rfl ?_
    obtain ⟨v32, e31, h⟩ := bindE h
    refine X.iald (pc' := 67) dX4_takeOut_66 rfl e31 ?_
    obtain ⟨M34, e33, h⟩ := bindE h
    refine X.iast (pc' := 68) dX4_takeOut_67 rfl e33 ?_
    refine X.iinc (v := (a2 + 1)) (L' := [some (.ref a0), none, some (.int (a2 + 1))]) (pc' := 71) dX4_takeOut_68 rfl rfl (congrArg (fun y => a2 + y) (show Int32.ofInt 1 = 1 by decide)) (Nat.le_of_ble_eq_true rfl) rfl ?_
    refine X.goto (pc' := 2) dX4_takeOut_71 (by decide) ?_
    exact hk2 _ _ _ h
def f_X4_takeOut_2 (fu : Nat) (k74 : Nat → List Ob → Option (Unit × List Ob)) : Nat → Nat → Int32 → List Ob → Option (Unit × List Ob)
  | 0, _, _, _ => none
  | n + 1, a0, a2, M => f_X4_takeOut_2b fu a0 a2 M (fun a0 a2 M => f_X4_takeOut_2 fu k74 n a0 a2 M) k74
theorem ok_X4_takeOut_2 {G : GT} {fu : Nat} {out : Unit × List Ob} {k74 : Nat → List Ob → Option (Unit × List Ob)} (hk74 : ∀ (a0 : Nat) (M : List Ob), k74 a0 M = some out → X G t_X4_takeOut [] 74 [some (.ref a0), none, none] [] M 0 0 (oU out)) : ∀ (n : Nat) (a0 : Nat) (a2 : Int32) (M : List Ob), f_X4_takeOut_2 fu k74 n a0 a2 M = some out → X G t_X4_takeOut [] 2 [some (.ref a0), none, some (.int a2)] [] M 0 0 (oU out) := by
  intro n
  induction n with
  | zero =>
    intro a0 a2 M h
    unfold f_X4_takeOut_2 at h
    cases h
  | succ n ih =>
    intro a0 a2 M h
    unfold f_X4_takeOut_2 at h
    exact ok_X4_takeOut_2b ih hk74 h
def f_X4_takeOut_74 (fu : Nat) (a0 : Nat) (M : List Ob) : Option (Unit × List Ob) :=
  (gI M a0 4 4).bind fun v1 =>
  (pF M a0 4 4 (.int (v1 - 1))).bind fun M3 =>
  some ((), M3)
set_option maxHeartbeats 4000000 in
theorem ok_X4_takeOut_74 {G : GT} {fu : Nat} {out : Unit × List Ob} {a0 : Nat} {M : List Ob} (h : f_X4_takeOut_74 fu a0 M = some out) : X G t_X4_takeOut [] 74 [some (.ref a0), none, none] [] M 0 0 (oU out) := by
  unfold f_X4_takeOut_74 at h
  refine X.aload_n (x := a0) (pc' := 75) dX4_takeOut_74 rfl rfl rfl ?_
  refine X.dup (pc' := 76) dX4_takeOut_75 rfl rfl ?_
  obtain ⟨v1, e2, h⟩ := bindE h
  refine X.getf (pc' := 79) dX4_takeOut_76 rfl fq_X4_37 (gI_spec e2) ?_
  refine X.iconst (v := 1) (pc' := 80) dX4_takeOut_79 rfl (by decide) ?_
  refine X.isub (pc' := 81) dX4_takeOut_80 rfl ?_
  obtain ⟨M3, e4, h⟩ := bindE h
  refine X.putf (pc' := 84) dX4_takeOut_81 rfl fq_X4_37 rfl rfl e4 ?_
  cases h
  exact X.vret dX4_takeOut_84 rfl (Nat.le_of_ble_eq_true rfl) (Nat.le_of_ble_eq_true rfl) rfl
def f_X4_takeOut (fu : Nat) (a0 : Nat) (a1 : Int32) (M : List Ob) : Option (Unit × List Ob) :=
  f_X4_takeOut_2 fu (fun x1 M2 => f_X4_takeOut_74 fu x1 M2) fu a0 a1 M
set_option maxHeartbeats 4000000 in
theorem ok_X4_takeOut {G : GT} {fu : Nat} {a0 : Nat} {a1 : Int32} {M : List Ob} {out : Unit × List Ob} (h : f_X4_takeOut fu a0 a1 M = some out) : Sp G t_X4_takeOut [.ref a0, .int a1] M (oU out) := by
  refine Sp.of rfl (by decide +kernel) (cat_all rfl) (Nat.le_of_ble_eq_true rfl) ?_
  show X G t_X4_takeOut [] 0 [some (.ref a0), some (.int a1), none] [] M 0 0 (oU out)
  unfold f_X4_takeOut at h
  refine X.iload_n (x := a1) (pc' := 1) dX4_takeOut_0 rfl rfl rfl ?_
  refine X.istore_n (L' := [some (.ref a0), some (.int a1), some (.int a1)]) (pc' := 2) dX4_takeOut_1 rfl rfl (Nat.le_of_ble_eq_true rfl) rfl ?_
  refine X.sub (L := [some (.ref a0), none, some (.int a1)]) ?_ (⟨rfl, ⟨rfl, trivial⟩⟩)
  refine ok_X4_takeOut_2 ?_ fu _ _ _ h
  · intro x1 M2 h
    exact ok_X4_takeOut_74 h
def f_X4_endOf (fu : Nat) (a0 : Nat) (a1 : Nat) (M : List Ob) : Option (Int32 × List Ob) :=
  (gI M a1 5 1).bind fun v1 =>
  if v1 = 0 then ((gI M a0 4 1).bind fun v13 =>
  some (v13, M))
  else ((gP M a0 4 6).bind fun r3 =>
  (gP M a1 5 0).bind fun r5 =>
  (gI M a1 5 1).bind fun v7 =>
  (aI M r5 13 (v7 - 1)).bind fun v10 =>
  (aI M r3 13 v10).bind fun v12 =>
  some (v12, M))
set_option maxHeartbeats 4000000 in
theorem ok_X4_endOf {G : GT} {fu : Nat} {a0 : Nat} {a1 : Nat} {M : List Ob} {out : Int32 × List Ob} (h : f_X4_endOf fu a0 a1 M = some out) : Sp G t_X4_endOf [.ref a0, .ref a1] M (oI out) := by
  refine Sp.of rfl (by decide +kernel) (cat_all rfl) (Nat.le_of_ble_eq_true rfl) ?_
  show X G t_X4_endOf [] 0 [some (.ref a0), some (.ref a1)] [] M 0 0 (oI out)
  unfold f_X4_endOf at h
  refine X.aload_n (x := a1) (pc' := 1) dX4_endOf_0 rfl rfl rfl ?_
  obtain ⟨v1, e2, h⟩ := bindE h
  refine X.getf (pc' := 4) dX4_endOf_1 rfl fq_X4_40 (gI_spec e2) ?_
  refine X.if_ne (tgt := 14) (pc' := 7) dX4_endOf_4 (by decide) rfl (fun hc => ?_) (fun hc => ?_)
  · rw [if_neg hc] at h
    refine X.aload_n (x := a0) (pc' := 15) dX4_endOf_14 rfl rfl rfl ?_
    obtain ⟨r3, e4, h⟩ := bindE h
    refine X.getf (pc' := 18) dX4_endOf_15 rfl fq_X4_15 (gP_spec e4) ?_
    refine X.aload_n (x := a1) (pc' := 19) dX4_endOf_18 rfl rfl rfl ?_
    obtain ⟨r5, e6, h⟩ := bindE h
    refine X.getf (pc' := 22) dX4_endOf_19 rfl fq_X4_45 (gP_spec e6) ?_
    refine X.aload_n (x := a1) (pc' := 23) dX4_endOf_22 rfl rfl rfl ?_
    obtain ⟨v7, e8, h⟩ := bindE h
    refine X.getf (pc' := 26) dX4_endOf_23 rfl fq_X4_40 (gI_spec e8) ?_
    refine X.iconst (v := 1) (pc' := 27) dX4_endOf_26 rfl (by decide) ?_
    refine X.isub (pc' := 28) dX4_endOf_27 rfl ?_
    obtain ⟨v10, e9, h⟩ := bindE h
    refine X.iald (pc' := 29) dX4_endOf_28 rfl e9 ?_
    obtain ⟨v12, e11, h⟩ := bindE h
    refine X.iald (pc' := 30) dX4_endOf_29 rfl e11 ?_
    cases h
    exact X.iret (ty := .int) dX4_endOf_30 rfl rfl (Nat.le_of_ble_eq_true rfl) (Nat.le_of_ble_eq_true rfl) rfl
  · rw [if_pos hc] at h
    refine X.aload_n (x := a0) (pc' := 8) dX4_endOf_7 rfl rfl rfl ?_
    obtain ⟨v13, e14, h⟩ := bindE h
    refine X.getf (pc' := 11) dX4_endOf_8 rfl fq_X4_28 (gI_spec e14) ?_
    refine X.goto (pc' := 30) dX4_endOf_11 (by decide) ?_
    cases h
    exact X.iret (ty := .int) dX4_endOf_30 rfl rfl (Nat.le_of_ble_eq_true rfl) (Nat.le_of_ble_eq_true rfl) rfl
def f_X4_hasNode_2b (fu : Nat) (a0 : Nat) (a1 : Nat) (a2 : Int32) (a3 : Int32) (M : List Ob) (k2 : Nat → Nat → Int32 → Int32 → List Ob → Option (Int32 × List Ob)) (k33 : Nat → Int32 → List Ob → Option (Int32 × List Ob)) : Option (Int32 × List Ob) :=
  (gI M a1 5 1).bind fun v1 =>
  if v1 ≤ a3 then (k33 a0 a2 M)
  else ((gP M a0 4 6).bind fun r3 =>
  (gP M a1 5 0).bind fun r5 =>
  (aI M r5 13 a3).bind fun v8 =>
  (aI M r3 13 v8).bind fun v10 =>
  if v10 = a2 then (some (1, M))
  else (k2 a0 a1 a2 (a3 + 1) M))
set_option maxHeartbeats 4000000 in
theorem ok_X4_hasNode_2b {G : GT} {fu : Nat} {out : Int32 × List Ob} {a0 : Nat} {a1 : Nat} {a2 : Int32} {a3 : Int32} {M : List Ob} {k2 : Nat → Nat → Int32 → Int32 → List Ob → Option (Int32 × List Ob)} {k33 : Nat → Int32 → List Ob → Option (Int32 × List Ob)} (hk2 : ∀ (a0 : Nat) (a1 : Nat) (a2 : Int32) (a3 : Int32) (M : List Ob), k2 a0 a1 a2 a3 M = some out → X G t_X4_hasNode [] 2 [some (.ref a0), some (.ref a1), some (.int a2), some (.int a3)] [] M 0 0 (oI out)) (hk33 : ∀ (a0 : Nat) (a2 : Int32) (M : List Ob), k33 a0 a2 M = some out → X G t_X4_hasNode [] 33 [some (.ref a0), none, some (.int a2), none] [] M 0 0 (oI out)) (h : f_X4_hasNode_2b fu a0 a1 a2 a3 M k2 k33 = some out) : X G t_X4_hasNode [] 2 [some (.ref a0), some (.ref a1), some (.int a2), some (.int a3)] [] M 0 0 (oI out) := by
  unfold f_X4_hasNode_2b at h
  refine X.iload_n (x := a3) (pc' := 3) dX4_hasNode_2 rfl rfl rfl ?_
  refine X.aload_n (x := a1) (pc' := 4) dX4_hasNode_3 rfl rfl rfl ?_
  obtain ⟨v1, e2, h⟩ := bindE h
  refine X.getf (pc' := 7) dX4_hasNode_4 rfl fq_X4_40 (gI_spec e2) ?_
  refine X.icmp_ge (tgt := 33) (pc' := 10) dX4_hasNode_7 (by decide) rfl (fun hc => ?_) (fun hc => ?_)
  · rw [if_pos hc] at h
    refine X.sub (L := [some (.ref a0), none, some (.int a2), none]) ?_ (⟨rfl, ⟨rfl, trivial⟩⟩)
    exact hk33 _ _ _ h
  · rw [if_neg hc] at h
    refine X.aload_n (x := a0) (pc' := 11) dX4_hasNode_10 rfl rfl rfl ?_
    obtain ⟨r3, e4, h⟩ := bindE h
    refine X.getf (pc' := 14) dX4_hasNode_11 rfl fq_X4_15 (gP_spec e4) ?_
    refine X.aload_n (x := a1) (pc' := 15) dX4_hasNode_14 rfl rfl rfl ?_
    obtain ⟨r5, e6, h⟩ := bindE h
    refine X.getf (pc' := 18) dX4_hasNode_15 rfl fq_X4_45 (gP_spec e6) ?_
    refine X.iload_n (x := a3) (pc' := 19) dX4_hasNode_18 rfl rfl rfl ?_
    obtain ⟨v8, e7, h⟩ := bindE h
    refine X.iald (pc' := 20) dX4_hasNode_19 rfl e7 ?_
    obtain ⟨v10, e9, h⟩ := bindE h
    refine X.iald (pc' := 21) dX4_hasNode_20 rfl e9 ?_
    refine X.iload_n (x := a2) (pc' := 22) dX4_hasNode_21 rfl rfl rfl ?_
    refine X.icmp_ne (tgt := 27) (pc' := 25) dX4_hasNode_22 (by decide) rfl (fun hc => ?_) (fun hc => ?_)
    · rw [if_neg hc] at h
      refine X.iinc (v := (a3 + 1)) (L' := [some (.ref a0), some (.ref a1), some (.int a2), some (.int (a3 + 1))]) (pc' := 30) dX4_hasNode_27 rfl rfl (congrArg (fun y => a3 + y) (show Int32.ofInt 1 = 1 by decide)) (Nat.le_of_ble_eq_true rfl) rfl ?_
      refine X.goto (pc' := 2) dX4_hasNode_30 (by decide) ?_
      exact hk2 _ _ _ _ _ h
    · rw [if_pos hc] at h
      refine X.iconst (v := 1) (pc' := 26) dX4_hasNode_25 rfl (by decide) ?_
      cases h
      exact X.iret (ty := .boolean) dX4_hasNode_26 rfl rfl (Nat.le_of_ble_eq_true rfl) (Nat.le_of_ble_eq_true rfl) rfl
def f_X4_hasNode_2 (fu : Nat) (k33 : Nat → Int32 → List Ob → Option (Int32 × List Ob)) : Nat → Nat → Nat → Int32 → Int32 → List Ob → Option (Int32 × List Ob)
  | 0, _, _, _, _, _ => none
  | n + 1, a0, a1, a2, a3, M => f_X4_hasNode_2b fu a0 a1 a2 a3 M (fun a0 a1 a2 a3 M => f_X4_hasNode_2 fu k33 n a0 a1 a2 a3 M) k33
theorem ok_X4_hasNode_2 {G : GT} {fu : Nat} {out : Int32 × List Ob} {k33 : Nat → Int32 → List Ob → Option (Int32 × List Ob)} (hk33 : ∀ (a0 : Nat) (a2 : Int32) (M : List Ob), k33 a0 a2 M = some out → X G t_X4_hasNode [] 33 [some (.ref a0), none, some (.int a2), none] [] M 0 0 (oI out)) : ∀ (n : Nat) (a0 : Nat) (a1 : Nat) (a2 : Int32) (a3 : Int32) (M : List Ob), f_X4_hasNode_2 fu k33 n a0 a1 a2 a3 M = some out → X G t_X4_hasNode [] 2 [some (.ref a0), some (.ref a1), some (.int a2), some (.int a3)] [] M 0 0 (oI out) := by
  intro n
  induction n with
  | zero =>
    intro a0 a1 a2 a3 M h
    unfold f_X4_hasNode_2 at h
    cases h
  | succ n ih =>
    intro a0 a1 a2 a3 M h
    unfold f_X4_hasNode_2 at h
    exact ok_X4_hasNode_2b ih hk33 h
def f_X4_hasNode_33 (fu : Nat) (a0 : Nat) (a2 : Int32) (M : List Ob) : Option (Int32 × List Ob) :=
  (gI M a0 4 1).bind fun v1 =>
  if a2 = v1 then (some (1, M))
  else (some (0, M))
set_option maxHeartbeats 4000000 in
theorem ok_X4_hasNode_33 {G : GT} {fu : Nat} {out : Int32 × List Ob} {a0 : Nat} {a2 : Int32} {M : List Ob} (h : f_X4_hasNode_33 fu a0 a2 M = some out) : X G t_X4_hasNode [] 33 [some (.ref a0), none, some (.int a2), none] [] M 0 0 (oI out) := by
  unfold f_X4_hasNode_33 at h
  refine X.iload_n (x := a2) (pc' := 34) dX4_hasNode_33 rfl rfl rfl ?_
  refine X.aload_n (x := a0) (pc' := 35) dX4_hasNode_34 rfl rfl rfl ?_
  obtain ⟨v1, e2, h⟩ := bindE h
  refine X.getf (pc' := 38) dX4_hasNode_35 rfl fq_X4_28 (gI_spec e2) ?_
  refine X.icmp_ne (tgt := 45) (pc' := 41) dX4_hasNode_38 (by decide) rfl (fun hc => ?_) (fun hc => ?_)
  · rw [if_neg hc] at h
    refine X.iconst (v := 0) (pc' := 46) dX4_hasNode_45 rfl (by decide) ?_
    cases h
    exact X.iret (ty := .boolean) dX4_hasNode_46 rfl rfl (Nat.le_of_ble_eq_true rfl) (Nat.le_of_ble_eq_true rfl) rfl
  · rw [if_pos hc] at h
    refine X.iconst (v := 1) (pc' := 42) dX4_hasNode_41 rfl (by decide) ?_
    refine X.goto (pc' := 46) dX4_hasNode_42 (by decide) ?_
    cases h
    exact X.iret (ty := .boolean) dX4_hasNode_46 rfl rfl (Nat.le_of_ble_eq_true rfl) (Nat.le_of_ble_eq_true rfl) rfl
def f_X4_hasNode (fu : Nat) (a0 : Nat) (a1 : Nat) (a2 : Int32) (M : List Ob) : Option (Int32 × List Ob) :=
  f_X4_hasNode_2 fu (fun x1 x2 M3 => f_X4_hasNode_33 fu x1 x2 M3) fu a0 a1 a2 0 M
set_option maxHeartbeats 4000000 in
theorem ok_X4_hasNode {G : GT} {fu : Nat} {a0 : Nat} {a1 : Nat} {a2 : Int32} {M : List Ob} {out : Int32 × List Ob} (h : f_X4_hasNode fu a0 a1 a2 M = some out) : Sp G t_X4_hasNode [.ref a0, .ref a1, .int a2] M (oI out) := by
  refine Sp.of rfl (by decide +kernel) (cat_all rfl) (Nat.le_of_ble_eq_true rfl) ?_
  show X G t_X4_hasNode [] 0 [some (.ref a0), some (.ref a1), some (.int a2), none] [] M 0 0 (oI out)
  unfold f_X4_hasNode at h
  refine X.iconst (v := 0) (pc' := 1) dX4_hasNode_0 rfl (by decide) ?_
  refine X.istore_n (L' := [some (.ref a0), some (.ref a1), some (.int a2), some (.int 0)]) (pc' := 2) dX4_hasNode_1 rfl rfl (Nat.le_of_ble_eq_true rfl) rfl ?_
  refine ok_X4_hasNode_2 ?_ fu _ _ _ _ _ h
  · intro x1 x2 M3 h
    exact ok_X4_hasNode_33 h
def f_X4_canFollow (fu : Nat) (a0 : Nat) (a1 : Nat) (a2 : Int32) (M : List Ob) : Option (Int32 × List Ob) :=
  (hasO M a0 4).bind fun _ =>
  bd2 (f_X4_endOf fu a0 a1 M) fun v1 M2 =>
  (gP M2 a0 4 5).bind fun r5 =>
  (aI M2 r5 13 a2).bind fun v8 =>
  if v1 = v8 then ((gI M2 a0 4 2).bind fun v9 =>
  if v1 = v9 then (some (0, M2))
  else ((gP M2 a0 4 6).bind fun r11 =>
  (aI M2 r11 13 a2).bind fun v14 =>
  (hasO M2 a0 4).bind fun _ =>
  bd2 (f_X4_hasNode fu a0 a1 v14 M2) fun v15 M16 =>
  if v15 = 0 then (some (1, M16))
  else (some (0, M16))))
  else (some (0, M2))
set_option maxHeartbeats 4000000 in
theorem ok_X4_canFollow {G : GT} {fu : Nat} {a0 : Nat} {a1 : Nat} {a2 : Int32} {M : List Ob} {out : Int32 × List Ob} (h : f_X4_canFollow fu a0 a1 a2 M = some out) : Sp G t_X4_canFollow [.ref a0, .ref a1, .int a2] M (oI out) := by
  refine Sp.of rfl (by decide +kernel) (cat_all rfl) (Nat.le_of_ble_eq_true rfl) ?_
  show X G t_X4_canFollow [] 0 [some (.ref a0), some (.ref a1), some (.int a2), none] [] M 0 0 (oI out)
  unfold f_X4_canFollow at h
  refine X.aload_n (x := a0) (pc' := 1) dX4_canFollow_0 rfl rfl rfl ?_
  refine X.aload_n (x := a1) (pc' := 2) dX4_canFollow_1 rfl rfl rfl ?_
  obtain ⟨⟨⟩, e4, h⟩ := bindE h
  obtain ⟨v1, M2, e3, h⟩ := bd2E h
  refine X.callV (b := a0) (v := some (.int v1)) (As := [.ref a1]) (st := []) (M' := M2) (pc' := 5) dX4_canFollow_2 rfl cl_X4_47 mi_X4_endOf me_X4_endOf mr_X4_endOf e4 ⟨⟨Nat.le_of_ble_eq_true rfl, Nat.le_of_ble_eq_true rfl⟩, Nat.le_of_ble_eq_true rfl, Nat.le_of_ble_eq_true rfl⟩ rfl (Nat.le_of_ble_eq_true rfl) (ok_X4_endOf (G := zs G) e3) ?_
  show X G t_X4_canFollow [] 5 [some (.ref a0), some (.ref a1), some (.int a2), none] [.int v1] M2 0 0 _
  refine X.istore_n (L' := [some (.ref a0), some (.ref a1), some (.int a2), some (.int v1)]) (pc' := 6) dX4_canFollow_5 rfl rfl (Nat.le_of_ble_eq_true rfl) rfl ?_
  refine X.iload_n (x := v1) (pc' := 7) dX4_canFollow_6 rfl rfl rfl ?_
  refine X.aload_n (x := a0) (pc' := 8) dX4_canFollow_7 rfl rfl rfl ?_
  obtain ⟨r5, e6, h⟩ := bindE h
  refine X.getf (pc' := 11) dX4_canFollow_8 rfl fq_X4_9 (gP_spec e6) ?_
  refine X.iload_n (x := a2) (pc' := 12) dX4_canFollow_11 rfl rfl rfl ?_
  obtain ⟨v8, e7, h⟩ := bindE h
  refine X.iald (pc' := 13) dX4_canFollow_12 rfl e7 ?_
  refine X.icmp_ne (tgt := 42) (pc' := 16) dX4_canFollow_13 (by decide) rfl (fun hc => ?_) (fun hc => ?_)
  · rw [if_neg hc] at h
    refine X.iconst (v := 0) (pc' := 43) dX4_canFollow_42 rfl (by decide) ?_
    cases h
    exact X.iret (ty := .boolean) dX4_canFollow_43 rfl rfl (Nat.le_of_ble_eq_true rfl) (Nat.le_of_ble_eq_true rfl) rfl
  · rw [if_pos hc] at h
    refine X.iload_n (x := v1) (pc' := 17) dX4_canFollow_16 rfl rfl rfl ?_
    refine X.aload_n (x := a0) (pc' := 18) dX4_canFollow_17 rfl rfl rfl ?_
    obtain ⟨v9, e10, h⟩ := bindE h
    refine X.getf (pc' := 21) dX4_canFollow_18 rfl fq_X4_31 (gI_spec e10) ?_
    refine X.icmp_eq (tgt := 42) (pc' := 24) dX4_canFollow_21 (by decide) rfl (fun hc => ?_) (fun hc => ?_)
    · rw [if_pos hc] at h
      refine X.iconst (v := 0) (pc' := 43) dX4_canFollow_42 rfl (by decide) ?_
      cases h
      exact X.iret (ty := .boolean) dX4_canFollow_43 rfl rfl (Nat.le_of_ble_eq_true rfl) (Nat.le_of_ble_eq_true rfl) rfl
    · rw [if_neg hc] at h
      refine X.aload_n (x := a0) (pc' := 25) dX4_canFollow_24 rfl rfl rfl ?_
      refine X.aload_n (x := a1) (pc' := 26) dX4_canFollow_25 rfl rfl rfl ?_
      refine X.aload_n (x := a0) (pc' := 27) dX4_canFollow_26 rfl rfl rfl ?_
      obtain ⟨r11, e12, h⟩ := bindE h
      refine X.getf (pc' := 30) dX4_canFollow_27 rfl fq_X4_15 (gP_spec e12) ?_
      refine X.iload_n (x := a2) (pc' := 31) dX4_canFollow_30 rfl rfl rfl ?_
      obtain ⟨v14, e13, h⟩ := bindE h
      refine X.iald (pc' := 32) dX4_canFollow_31 rfl e13 ?_
      obtain ⟨⟨⟩, e18, h⟩ := bindE h
      obtain ⟨v15, M16, e17, h⟩ := bd2E h
      refine X.callV (b := a0) (v := some (.int v15)) (As := [.ref a1, .int v14]) (st := []) (M' := M16) (pc' := 35) dX4_canFollow_32 rfl cl_X4_51 mi_X4_hasNode me_X4_hasNode mr_X4_hasNode e18 ⟨⟨Nat.le_of_ble_eq_true rfl, Nat.le_of_ble_eq_true rfl⟩, Nat.le_of_ble_eq_true rfl, Nat.le_of_ble_eq_true rfl⟩ rfl (Nat.le_of_ble_eq_true rfl) (ok_X4_hasNode (G := zs G) e17) ?_
      show X G t_X4_canFollow [] 35 [some (.ref a0), some (.ref a1), some (.int a2), some (.int v1)] [.int v15] M16 0 0 _
      refine X.if_ne (tgt := 42) (pc' := 38) dX4_canFollow_35 (by decide) rfl (fun hc => ?_) (fun hc => ?_)
      · rw [if_neg hc] at h
        refine X.iconst (v := 0) (pc' := 43) dX4_canFollow_42 rfl (by decide) ?_
        cases h
        exact X.iret (ty := .boolean) dX4_canFollow_43 rfl rfl (Nat.le_of_ble_eq_true rfl) (Nat.le_of_ble_eq_true rfl) rfl
      · rw [if_pos hc] at h
        refine X.iconst (v := 1) (pc' := 39) dX4_canFollow_38 rfl (by decide) ?_
        refine X.goto (pc' := 43) dX4_canFollow_39 (by decide) ?_
        cases h
        exact X.iret (ty := .boolean) dX4_canFollow_43 rfl rfl (Nat.le_of_ble_eq_true rfl) (Nat.le_of_ble_eq_true rfl) rfl
def f_X4_worstOf (fu : Nat) (a0 : Nat) (a1 : Nat) (M : List Ob) : Option (Int32 × List Ob) :=
  (hasO M a0 4).bind fun _ =>
  bd2 (f_X4_witnessOf fu a0 a1 M) fun v1 M2 =>
  (hasO M2 a0 4).bind fun _ =>
  bd2 (f_X4_costAgainst fu a0 a1 v1 M2) fun v5 M6 =>
  some (v5, M6)
set_option maxHeartbeats 4000000 in
theorem ok_X4_worstOf {G : GT} {fu : Nat} {a0 : Nat} {a1 : Nat} {M : List Ob} {out : Int32 × List Ob} (h : f_X4_worstOf fu a0 a1 M = some out) : Sp G t_X4_worstOf [.ref a0, .ref a1] M (oI out) := by
  refine Sp.of rfl (by decide +kernel) (cat_all rfl) (Nat.le_of_ble_eq_true rfl) ?_
  show X G t_X4_worstOf [] 0 [some (.ref a0), some (.ref a1)] [] M 0 0 (oI out)
  unfold f_X4_worstOf at h
  refine X.aload_n (x := a0) (pc' := 1) dX4_worstOf_0 rfl rfl rfl ?_
  refine X.aload_n (x := a1) (pc' := 2) dX4_worstOf_1 rfl rfl rfl ?_
  refine X.aload_n (x := a0) (pc' := 3) dX4_worstOf_2 rfl rfl rfl ?_
  refine X.aload_n (x := a1) (pc' := 4) dX4_worstOf_3 rfl rfl rfl ?_
  obtain ⟨⟨⟩, e4, h⟩ := bindE h
  obtain ⟨v1, M2, e3, h⟩ := bd2E h
  refine X.callV (b := a0) (v := some (.int v1)) (As := [.ref a1]) (st := [.ref a1, .ref a0]) (M' := M2) (pc' := 7) dX4_worstOf_4 rfl cl_X4_67 mi_X4_witnessOf me_X4_witnessOf mr_X4_witnessOf e4 ⟨⟨Nat.le_of_ble_eq_true rfl, Nat.le_of_ble_eq_true rfl⟩, Nat.le_of_ble_eq_true rfl, Nat.le_of_ble_eq_true rfl⟩ rfl (Nat.le_of_ble_eq_true rfl) (ok_X4_witnessOf (G := zs G) e3) ?_
  show X G t_X4_worstOf [] 7 [some (.ref a0), some (.ref a1)] [.int v1, .ref a1, .ref a0] M2 0 0 _
  obtain ⟨⟨⟩, e8, h⟩ := bindE h
  obtain ⟨v5, M6, e7, h⟩ := bd2E h
  refine X.callV (b := a0) (v := some (.int v5)) (As := [.ref a1, .int v1]) (st := []) (M' := M6) (pc' := 10) dX4_worstOf_7 rfl cl_X4_70 mi_X4_costAgainst me_X4_costAgainst mr_X4_costAgainst e8 ⟨⟨Nat.le_of_ble_eq_true rfl, Nat.le_of_ble_eq_true rfl⟩, Nat.le_of_ble_eq_true rfl, Nat.le_of_ble_eq_true rfl⟩ rfl (Nat.le_of_ble_eq_true rfl) (ok_X4_costAgainst (G := zs G) e7) ?_
  show X G t_X4_worstOf [] 10 [some (.ref a0), some (.ref a1)] [.int v5] M6 0 0 _
  cases h
  exact X.iret (ty := .int) dX4_worstOf_10 rfl rfl (Nat.le_of_ble_eq_true rfl) (Nat.le_of_ble_eq_true rfl) rfl
def f_X5_clear (fu : Nat) (a0 : Nat) (M : List Ob) : Option (Unit × List Ob) :=
  (pF M a0 5 1 (.int 0)).bind fun M1 =>
  some ((), M1)
set_option maxHeartbeats 4000000 in
theorem ok_X5_clear {G : GT} {fu : Nat} {a0 : Nat} {M : List Ob} {out : Unit × List Ob} (h : f_X5_clear fu a0 M = some out) : Sp G t_X5_clear [.ref a0] M (oU out) := by
  refine Sp.of rfl (by decide +kernel) (cat_all rfl) (Nat.le_of_ble_eq_true rfl) ?_
  show X G t_X5_clear [] 0 [some (.ref a0)] [] M 0 0 (oU out)
  unfold f_X5_clear at h
  refine X.aload_n (x := a0) (pc' := 1) dX5_clear_0 rfl rfl rfl ?_
  refine X.iconst (v := 0) (pc' := 2) dX5_clear_1 rfl (by decide) ?_
  obtain ⟨M1, e2, h⟩ := bindE h
  refine X.putf (pc' := 5) dX5_clear_2 rfl fq_X5_15 rfl rfl e2 ?_
  cases h
  exact X.vret dX5_clear_5 rfl (Nat.le_of_ble_eq_true rfl) (Nat.le_of_ble_eq_true rfl) rfl
def f_X5_push (fu : Nat) (a0 : Nat) (a1 : Int32) (M : List Ob) : Option (Unit × List Ob) :=
  (gI M a0 5 1).bind fun v1 =>
  (gP M a0 5 0).bind fun r3 =>
  (aLen M r3 13).bind fun v5 =>
  if v5 ≤ v1 then (some ((), M))
  else ((gP M a0 5 0).bind fun r7 =>
  (gI M a0 5 1).bind fun v9 =>
  (aSet M r7 13 v9 (.int a1)).bind fun M12 =>
  (gI M12 a0 5 1).bind fun v13 =>
  (pF M12 a0 5 1 (.int (v13 + 1))).bind fun M15 =>
  some ((), M15))
set_option maxHeartbeats 4000000 in
theorem ok_X5_push {G : GT} {fu : Nat} {a0 : Nat} {a1 : Int32} {M : List Ob} {out : Unit × List Ob} (h : f_X5_push fu a0 a1 M = some out) : Sp G t_X5_push [.ref a0, .int a1] M (oU out) := by
  refine Sp.of rfl (by decide +kernel) (cat_all rfl) (Nat.le_of_ble_eq_true rfl) ?_
  show X G t_X5_push [] 0 [some (.ref a0), some (.int a1)] [] M 0 0 (oU out)
  unfold f_X5_push at h
  refine X.aload_n (x := a0) (pc' := 1) dX5_push_0 rfl rfl rfl ?_
  obtain ⟨v1, e2, h⟩ := bindE h
  refine X.getf (pc' := 4) dX5_push_1 rfl fq_X5_15 (gI_spec e2) ?_
  refine X.aload_n (x := a0) (pc' := 5) dX5_push_4 rfl rfl rfl ?_
  obtain ⟨r3, e4, h⟩ := bindE h
  refine X.getf (pc' := 8) dX5_push_5 rfl fq_X5_9 (gP_spec e4) ?_
  obtain ⟨v5, e6, h⟩ := bindE h
  refine X.alen (kd := 13) (pc' := 9) dX5_push_8 rfl (Nat.le_of_ble_eq_true rfl) (Nat.le_of_ble_eq_true rfl) e6 ?_
  refine X.icmp_ge (tgt := 32) (pc' := 12) dX5_push_9 (by decide) rfl (fun hc => ?_) (fun hc => ?_)
  · rw [if_pos hc] at h
    cases h
    exact X.vret dX5_push_32 rfl (Nat.le_of_ble_eq_true rfl) (Nat.le_of_ble_eq_true rfl) rfl
  · rw [if_neg hc] at h
    refine X.aload_n (x := a0) (pc' := 13) dX5_push_12 rfl rfl rfl ?_
    obtain ⟨r7, e8, h⟩ := bindE h
    refine X.getf (pc' := 16) dX5_push_13 rfl fq_X5_9 (gP_spec e8) ?_
    refine X.aload_n (x := a0) (pc' := 17) dX5_push_16 rfl rfl rfl ?_
    obtain ⟨v9, e10, h⟩ := bindE h
    refine X.getf (pc' := 20) dX5_push_17 rfl fq_X5_15 (gI_spec e10) ?_
    refine X.iload_n (x := a1) (pc' := 21) dX5_push_20 rfl rfl rfl ?_
    obtain ⟨M12, e11, h⟩ := bindE h
    refine X.iast (pc' := 22) dX5_push_21 rfl e11 ?_
    refine X.aload_n (x := a0) (pc' := 23) dX5_push_22 rfl rfl rfl ?_
    refine X.dup (pc' := 24) dX5_push_23 rfl rfl ?_
    obtain ⟨v13, e14, h⟩ := bindE h
    refine X.getf (pc' := 27) dX5_push_24 rfl fq_X5_15 (gI_spec e14) ?_
    refine X.iconst (v := 1) (pc' := 28) dX5_push_27 rfl (by decide) ?_
    refine X.iadd (pc' := 29) dX5_push_28 rfl ?_
    obtain ⟨M15, e16, h⟩ := bindE h
    refine X.putf (pc' := 32) dX5_push_29 rfl fq_X5_15 rfl rfl e16 ?_
    cases h
    exact X.vret dX5_push_32 rfl (Nat.le_of_ble_eq_true rfl) (Nat.le_of_ble_eq_true rfl) rfl
def f_X5_pop (fu : Nat) (a0 : Nat) (M : List Ob) : Option (Int32 × List Ob) :=
  (gI M a0 5 1).bind fun v1 =>
  if v1 = 0 then (some ((-1), M))
  else ((gI M a0 5 1).bind fun v3 =>
  (pF M a0 5 1 (.int (v3 - 1))).bind fun M5 =>
  (gP M5 a0 5 0).bind fun r7 =>
  (gI M5 a0 5 1).bind fun v9 =>
  (aI M5 r7 13 v9).bind fun v12 =>
  some (v12, M5))
set_option maxHeartbeats 4000000 in
theorem ok_X5_pop {G : GT} {fu : Nat} {a0 : Nat} {M : List Ob} {out : Int32 × List Ob} (h : f_X5_pop fu a0 M = some out) : Sp G t_X5_pop [.ref a0] M (oI out) := by
  refine Sp.of rfl (by decide +kernel) (cat_all rfl) (Nat.le_of_ble_eq_true rfl) ?_
  show X G t_X5_pop [] 0 [some (.ref a0)] [] M 0 0 (oI out)
  unfold f_X5_pop at h
  refine X.aload_n (x := a0) (pc' := 1) dX5_pop_0 rfl rfl rfl ?_
  obtain ⟨v1, e2, h⟩ := bindE h
  refine X.getf (pc' := 4) dX5_pop_1 rfl fq_X5_15 (gI_spec e2) ?_
  refine X.if_ne (tgt := 9) (pc' := 7) dX5_pop_4 (by decide) rfl (fun hc => ?_) (fun hc => ?_)
  · rw [if_neg hc] at h
    refine X.aload_n (x := a0) (pc' := 10) dX5_pop_9 rfl rfl rfl ?_
    refine X.dup (pc' := 11) dX5_pop_10 rfl rfl ?_
    obtain ⟨v3, e4, h⟩ := bindE h
    refine X.getf (pc' := 14) dX5_pop_11 rfl fq_X5_15 (gI_spec e4) ?_
    refine X.iconst (v := 1) (pc' := 15) dX5_pop_14 rfl (by decide) ?_
    refine X.isub (pc' := 16) dX5_pop_15 rfl ?_
    obtain ⟨M5, e6, h⟩ := bindE h
    refine X.putf (pc' := 19) dX5_pop_16 rfl fq_X5_15 rfl rfl e6 ?_
    refine X.aload_n (x := a0) (pc' := 20) dX5_pop_19 rfl rfl rfl ?_
    obtain ⟨r7, e8, h⟩ := bindE h
    refine X.getf (pc' := 23) dX5_pop_20 rfl fq_X5_9 (gP_spec e8) ?_
    refine X.aload_n (x := a0) (pc' := 24) dX5_pop_23 rfl rfl rfl ?_
    obtain ⟨v9, e10, h⟩ := bindE h
    refine X.getf (pc' := 27) dX5_pop_24 rfl fq_X5_15 (gI_spec e10) ?_
    obtain ⟨v12, e11, h⟩ := bindE h
    refine X.iald (pc' := 28) dX5_pop_27 rfl e11 ?_
    cases h
    exact X.iret (ty := .int) dX5_pop_28 rfl rfl (Nat.le_of_ble_eq_true rfl) (Nat.le_of_ble_eq_true rfl) rfl
  · rw [if_pos hc] at h
    refine X.iconst (v := (-1)) (pc' := 8) dX5_pop_7 rfl (by decide) ?_
    cases h
    exact X.iret (ty := .int) dX5_pop_8 rfl rfl (Nat.le_of_ble_eq_true rfl) (Nat.le_of_ble_eq_true rfl) rfl
def f_X5_hasArc_2b (fu : Nat) (a0 : Nat) (a1 : Int32) (a2 : Int32) (M : List Ob) (k2 : Nat → Int32 → Int32 → List Ob → Option (Int32 × List Ob)) : Option (Int32 × List Ob) :=
  (gI M a0 5 1).bind fun v1 =>
  if v1 ≤ a2 then (some (0, M))
  else ((gP M a0 5 0).bind fun r3 =>
  (aI M r3 13 a2).bind fun v6 =>
  if v6 = a1 then (some (1, M))
  else (k2 a0 a1 (a2 + 1) M))
set_option maxHeartbeats 4000000 in
theorem ok_X5_hasArc_2b {G : GT} {fu : Nat} {out : Int32 × List Ob} {a0 : Nat} {a1 : Int32} {a2 : Int32} {M : List Ob} {k2 : Nat → Int32 → Int32 → List Ob → Option (Int32 × List Ob)} (hk2 : ∀ (a0 : Nat) (a1 : Int32) (a2 : Int32) (M : List Ob), k2 a0 a1 a2 M = some out → X G t_X5_hasArc [] 2 [some (.ref a0), some (.int a1), some (.int a2)] [] M 0 0 (oI out)) (h : f_X5_hasArc_2b fu a0 a1 a2 M k2 = some out) : X G t_X5_hasArc [] 2 [some (.ref a0), some (.int a1), some (.int a2)] [] M 0 0 (oI out) := by
  unfold f_X5_hasArc_2b at h
  refine X.iload_n (x := a2) (pc' := 3) dX5_hasArc_2 rfl rfl rfl ?_
  refine X.aload_n (x := a0) (pc' := 4) dX5_hasArc_3 rfl rfl rfl ?_
  obtain ⟨v1, e2, h⟩ := bindE h
  refine X.getf (pc' := 7) dX5_hasArc_4 rfl fq_X5_15 (gI_spec e2) ?_
  refine X.icmp_ge (tgt := 28) (pc' := 10) dX5_hasArc_7 (by decide) rfl (fun hc => ?_) (fun hc => ?_)
  · rw [if_pos hc] at h
    refine X.iconst (v := 0) (pc' := 29) dX5_hasArc_28 rfl (by decide) ?_
    cases h
    exact X.iret (ty := .boolean) dX5_hasArc_29 rfl rfl (Nat.le_of_ble_eq_true rfl) (Nat.le_of_ble_eq_true rfl) rfl
  · rw [if_neg hc] at h
    refine X.aload_n (x := a0) (pc' := 11) dX5_hasArc_10 rfl rfl rfl ?_
    obtain ⟨r3, e4, h⟩ := bindE h
    refine X.getf (pc' := 14) dX5_hasArc_11 rfl fq_X5_9 (gP_spec e4) ?_
    refine X.iload_n (x := a2) (pc' := 15) dX5_hasArc_14 rfl rfl rfl ?_
    obtain ⟨v6, e5, h⟩ := bindE h
    refine X.iald (pc' := 16) dX5_hasArc_15 rfl e5 ?_
    refine X.iload_n (x := a1) (pc' := 17) dX5_hasArc_16 rfl rfl rfl ?_
    refine X.icmp_ne (tgt := 22) (pc' := 20) dX5_hasArc_17 (by decide) rfl (fun hc => ?_) (fun hc => ?_)
    · rw [if_neg hc] at h
      refine X.iinc (v := (a2 + 1)) (L' := [some (.ref a0), some (.int a1), some (.int (a2 + 1))]) (pc' := 25) dX5_hasArc_22 rfl rfl (congrArg (fun y => a2 + y) (show Int32.ofInt 1 = 1 by decide)) (Nat.le_of_ble_eq_true rfl) rfl ?_
      refine X.goto (pc' := 2) dX5_hasArc_25 (by decide) ?_
      exact hk2 _ _ _ _ h
    · rw [if_pos hc] at h
      refine X.iconst (v := 1) (pc' := 21) dX5_hasArc_20 rfl (by decide) ?_
      cases h
      exact X.iret (ty := .boolean) dX5_hasArc_21 rfl rfl (Nat.le_of_ble_eq_true rfl) (Nat.le_of_ble_eq_true rfl) rfl
def f_X5_hasArc_2 (fu : Nat) : Nat → Nat → Int32 → Int32 → List Ob → Option (Int32 × List Ob)
  | 0, _, _, _, _ => none
  | n + 1, a0, a1, a2, M => f_X5_hasArc_2b fu a0 a1 a2 M (fun a0 a1 a2 M => f_X5_hasArc_2 fu n a0 a1 a2 M)
theorem ok_X5_hasArc_2 {G : GT} {fu : Nat} {out : Int32 × List Ob} : ∀ (n : Nat) (a0 : Nat) (a1 : Int32) (a2 : Int32) (M : List Ob), f_X5_hasArc_2 fu n a0 a1 a2 M = some out → X G t_X5_hasArc [] 2 [some (.ref a0), some (.int a1), some (.int a2)] [] M 0 0 (oI out) := by
  intro n
  induction n with
  | zero =>
    intro a0 a1 a2 M h
    unfold f_X5_hasArc_2 at h
    cases h
  | succ n ih =>
    intro a0 a1 a2 M h
    unfold f_X5_hasArc_2 at h
    exact ok_X5_hasArc_2b ih h
def f_X5_hasArc (fu : Nat) (a0 : Nat) (a1 : Int32) (M : List Ob) : Option (Int32 × List Ob) :=
  f_X5_hasArc_2 fu  fu a0 a1 0 M
set_option maxHeartbeats 4000000 in
theorem ok_X5_hasArc {G : GT} {fu : Nat} {a0 : Nat} {a1 : Int32} {M : List Ob} {out : Int32 × List Ob} (h : f_X5_hasArc fu a0 a1 M = some out) : Sp G t_X5_hasArc [.ref a0, .int a1] M (oI out) := by
  refine Sp.of rfl (by decide +kernel) (cat_all rfl) (Nat.le_of_ble_eq_true rfl) ?_
  show X G t_X5_hasArc [] 0 [some (.ref a0), some (.int a1), none] [] M 0 0 (oI out)
  unfold f_X5_hasArc at h
  refine X.iconst (v := 0) (pc' := 1) dX5_hasArc_0 rfl (by decide) ?_
  refine X.istore_n (L' := [some (.ref a0), some (.int a1), some (.int 0)]) (pc' := 2) dX5_hasArc_1 rfl rfl (Nat.le_of_ble_eq_true rfl) rfl ?_
  refine ok_X5_hasArc_2  fu _ _ _ _ h
def f_X5_isSame_15b (fu : Nat) (a0 : Nat) (a1 : Nat) (a2 : Int32) (M : List Ob) (k15 : Nat → Nat → Int32 → List Ob → Option (Int32 × List Ob)) : Option (Int32 × List Ob) :=
  (gI M a0 5 1).bind fun v1 =>
  if v1 ≤ a2 then (some (1, M))
  else ((gP M a0 5 0).bind fun r3 =>
  (aI M r3 13 a2).bind fun v6 =>
  (gP M a1 5 0).bind fun r7 =>
  (aI M r7 13 a2).bind fun v10 =>
  if v6 = v10 then (k15 a0 a1 (a2 + 1) M)
  else (some (0, M)))
set_option maxHeartbeats 4000000 in
theorem ok_X5_isSame_15b {G : GT} {fu : Nat} {out : Int32 × List Ob} {a0 : Nat} {a1 : Nat} {a2 : Int32} {M : List Ob} {k15 : Nat → Nat → Int32 → List Ob → Option (Int32 × List Ob)} (hk15 : ∀ (a0 : Nat) (a1 : Nat) (a2 : Int32) (M : List Ob), k15 a0 a1 a2 M = some out → X G t_X5_isSame [] 15 [some (.ref a0), some (.ref a1), some (.int a2)] [] M 0 0 (oI out)) (h : f_X5_isSame_15b fu a0 a1 a2 M k15 = some out) : X G t_X5_isSame [] 15 [some (.ref a0), some (.ref a1), some (.int a2)] [] M 0 0 (oI out) := by
  unfold f_X5_isSame_15b at h
  refine X.iload_n (x := a2) (pc' := 16) dX5_isSame_15 rfl rfl rfl ?_
  refine X.aload_n (x := a0) (pc' := 17) dX5_isSame_16 rfl rfl rfl ?_
  obtain ⟨v1, e2, h⟩ := bindE h
  refine X.getf (pc' := 20) dX5_isSame_17 rfl fq_X5_15 (gI_spec e2) ?_
  refine X.icmp_ge (tgt := 46) (pc' := 23) dX5_isSame_20 (by decide) rfl (fun hc => ?_) (fun hc => ?_)
  · rw [if_pos hc] at h
    refine X.iconst (v := 1) (pc' := 47) dX5_isSame_46 rfl (by decide) ?_
    cases h
    exact X.iret (ty := .boolean) dX5_isSame_47 rfl rfl (Nat.le_of_ble_eq_true rfl) (Nat.le_of_ble_eq_true rfl) rfl
  · rw [if_neg hc] at h
    refine X.aload_n (x := a0) (pc' := 24) dX5_isSame_23 rfl rfl rfl ?_
    obtain ⟨r3, e4, h⟩ := bindE h
    refine X.getf (pc' := 27) dX5_isSame_24 rfl fq_X5_9 (gP_spec e4) ?_
    refine X.iload_n (x := a2) (pc' := 28) dX5_isSame_27 rfl rfl rfl ?_
    obtain ⟨v6, e5, h⟩ := bindE h
    refine X.iald (pc' := 29) dX5_isSame_28 rfl e5 ?_
    refine X.aload_n (x := a1) (pc' := 30) dX5_isSame_29 rfl rfl rfl ?_
    obtain ⟨r7, e8, h⟩ := bindE h
    refine X.getf (pc' := 33) dX5_isSame_30 rfl fq_X5_9 (gP_spec e8) ?_
    refine X.iload_n (x := a2) (pc' := 34) dX5_isSame_33 rfl rfl rfl ?_
    obtain ⟨v10, e9, h⟩ := bindE h
    refine X.iald (pc' := 35) dX5_isSame_34 rfl e9 ?_
    refine X.icmp_eq (tgt := 40) (pc' := 38) dX5_isSame_35 (by decide) rfl (fun hc => ?_) (fun hc => ?_)
    · rw [if_pos hc] at h
      refine X.iinc (v := (a2 + 1)) (L' := [some (.ref a0), some (.ref a1), some (.int (a2 + 1))]) (pc' := 43) dX5_isSame_40 rfl rfl (congrArg (fun y => a2 + y) (show Int32.ofInt 1 = 1 by decide)) (Nat.le_of_ble_eq_true rfl) rfl ?_
      refine X.goto (pc' := 15) dX5_isSame_43 (by decide) ?_
      exact hk15 _ _ _ _ h
    · rw [if_neg hc] at h
      refine X.iconst (v := 0) (pc' := 39) dX5_isSame_38 rfl (by decide) ?_
      cases h
      exact X.iret (ty := .boolean) dX5_isSame_39 rfl rfl (Nat.le_of_ble_eq_true rfl) (Nat.le_of_ble_eq_true rfl) rfl
def f_X5_isSame_15 (fu : Nat) : Nat → Nat → Nat → Int32 → List Ob → Option (Int32 × List Ob)
  | 0, _, _, _, _ => none
  | n + 1, a0, a1, a2, M => f_X5_isSame_15b fu a0 a1 a2 M (fun a0 a1 a2 M => f_X5_isSame_15 fu n a0 a1 a2 M)
theorem ok_X5_isSame_15 {G : GT} {fu : Nat} {out : Int32 × List Ob} : ∀ (n : Nat) (a0 : Nat) (a1 : Nat) (a2 : Int32) (M : List Ob), f_X5_isSame_15 fu n a0 a1 a2 M = some out → X G t_X5_isSame [] 15 [some (.ref a0), some (.ref a1), some (.int a2)] [] M 0 0 (oI out) := by
  intro n
  induction n with
  | zero =>
    intro a0 a1 a2 M h
    unfold f_X5_isSame_15 at h
    cases h
  | succ n ih =>
    intro a0 a1 a2 M h
    unfold f_X5_isSame_15 at h
    exact ok_X5_isSame_15b ih h
def f_X5_isSame (fu : Nat) (a0 : Nat) (a1 : Nat) (M : List Ob) : Option (Int32 × List Ob) :=
  (gI M a0 5 1).bind fun v1 =>
  (gI M a1 5 1).bind fun v3 =>
  if v1 = v3 then (f_X5_isSame_15 fu  fu a0 a1 0 M)
  else (some (0, M))
set_option maxHeartbeats 4000000 in
theorem ok_X5_isSame {G : GT} {fu : Nat} {a0 : Nat} {a1 : Nat} {M : List Ob} {out : Int32 × List Ob} (h : f_X5_isSame fu a0 a1 M = some out) : Sp G t_X5_isSame [.ref a0, .ref a1] M (oI out) := by
  refine Sp.of rfl (by decide +kernel) (cat_all rfl) (Nat.le_of_ble_eq_true rfl) ?_
  show X G t_X5_isSame [] 0 [some (.ref a0), some (.ref a1), none] [] M 0 0 (oI out)
  unfold f_X5_isSame at h
  refine X.aload_n (x := a0) (pc' := 1) dX5_isSame_0 rfl rfl rfl ?_
  obtain ⟨v1, e2, h⟩ := bindE h
  refine X.getf (pc' := 4) dX5_isSame_1 rfl fq_X5_15 (gI_spec e2) ?_
  refine X.aload_n (x := a1) (pc' := 5) dX5_isSame_4 rfl rfl rfl ?_
  obtain ⟨v3, e4, h⟩ := bindE h
  refine X.getf (pc' := 8) dX5_isSame_5 rfl fq_X5_15 (gI_spec e4) ?_
  refine X.icmp_eq (tgt := 13) (pc' := 11) dX5_isSame_8 (by decide) rfl (fun hc => ?_) (fun hc => ?_)
  · rw [if_pos hc] at h
    refine X.iconst (v := 0) (pc' := 14) dX5_isSame_13 rfl (by decide) ?_
    refine X.istore_n (L' := [some (.ref a0), some (.ref a1), some (.int 0)]) (pc' := 15) dX5_isSame_14 rfl rfl (Nat.le_of_ble_eq_true rfl) rfl ?_
    refine ok_X5_isSame_15  fu _ _ _ _ h
  · rw [if_neg hc] at h
    refine X.iconst (v := 0) (pc' := 12) dX5_isSame_11 rfl (by decide) ?_
    cases h
    exact X.iret (ty := .boolean) dX5_isSame_12 rfl rfl (Nat.le_of_ble_eq_true rfl) (Nat.le_of_ble_eq_true rfl) rfl
def f_X5_renumberBehind_30 (fu : Nat) (a0 : Nat) (a1 : Int32) (a2 : Int32) (M : List Ob) (k2 : Nat → Int32 → Int32 → List Ob → Option (Unit × List Ob)) : Option (Unit × List Ob) :=
  k2 a0 a1 (a2 + 1) M
set_option maxHeartbeats 4000000 in
theorem ok_X5_renumberBehind_30 {G : GT} {fu : Nat} {out : Unit × List Ob} {a0 : Nat} {a1 : Int32} {a2 : Int32} {M : List Ob} {k2 : Nat → Int32 → Int32 → List Ob → Option (Unit × List Ob)} (hk2 : ∀ (a0 : Nat) (a1 : Int32) (a2 : Int32) (M : List Ob), k2 a0 a1 a2 M = some out → X G t_X5_renumberBehind [] 2 [some (.ref a0), some (.int a1), some (.int a2)] [] M 0 0 (oU out)) (h : f_X5_renumberBehind_30 fu a0 a1 a2 M k2 = some out) : X G t_X5_renumberBehind [] 30 [some (.ref a0), some (.int a1), some (.int a2)] [] M 0 0 (oU out) := by
  unfold f_X5_renumberBehind_30 at h
  refine X.iinc (v := (a2 + 1)) (L' := [some (.ref a0), some (.int a1), some (.int (a2 + 1))]) (pc' := 33) dX5_renumberBehind_30 rfl rfl (congrArg (fun y => a2 + y) (show Int32.ofInt 1 = 1 by decide)) (Nat.le_of_ble_eq_true rfl) rfl ?_
  refine X.goto (pc' := 2) dX5_renumberBehind_33 (by decide) ?_
  exact hk2 _ _ _ _ h
def f_X5_renumberBehind_2b (fu : Nat) (a0 : Nat) (a1 : Int32) (a2 : Int32) (M : List Ob) (k2 : Nat → Int32 → Int32 → List Ob → Option (Unit × List Ob)) : Option (Unit × List Ob) :=
  (gI M a0 5 1).bind fun v1 =>
  if v1 ≤ a2 then (some ((), M))
  else ((gP M a0 5 0).bind fun r3 =>
  (aI M r3 13 a2).bind fun v6 =>
  if v6 ≤ a1 then (f_X5_renumberBehind_30 fu a0 a1 a2 M k2)
  else ((gP M a0 5 0).bind fun r7 =>
  (aI M r7 13 a2).bind fun v10 =>
  (aSet M r7 13 a2 (.int (v10 - 1))).bind fun M12 =>
  f_X5_renumberBehind_30 fu a0 a1 a2 M12 k2))
set_option maxHeartbeats 4000000 in
theorem ok_X5_renumberBehind_2b {G : GT} {fu : Nat} {out : Unit × List Ob} {a0 : Nat} {a1 : Int32} {a2 : Int32} {M : List Ob} {k2 : Nat → Int32 → Int32 → List Ob → Option (Unit × List Ob)} (hk2 : ∀ (a0 : Nat) (a1 : Int32) (a2 : Int32) (M : List Ob), k2 a0 a1 a2 M = some out → X G t_X5_renumberBehind [] 2 [some (.ref a0), some (.int a1), some (.int a2)] [] M 0 0 (oU out)) (h : f_X5_renumberBehind_2b fu a0 a1 a2 M k2 = some out) : X G t_X5_renumberBehind [] 2 [some (.ref a0), some (.int a1), some (.int a2)] [] M 0 0 (oU out) := by
  unfold f_X5_renumberBehind_2b at h
  refine X.iload_n (x := a2) (pc' := 3) dX5_renumberBehind_2 rfl rfl rfl ?_
  refine X.aload_n (x := a0) (pc' := 4) dX5_renumberBehind_3 rfl rfl rfl ?_
  obtain ⟨v1, e2, h⟩ := bindE h
  refine X.getf (pc' := 7) dX5_renumberBehind_4 rfl fq_X5_15 (gI_spec e2) ?_
  refine X.icmp_ge (tgt := 36) (pc' := 10) dX5_renumberBehind_7 (by decide) rfl (fun hc => ?_) (fun hc => ?_)
  · rw [if_pos hc] at h
    cases h
    exact X.vret dX5_renumberBehind_36 rfl (Nat.le_of_ble_eq_true rfl) (Nat.le_of_ble_eq_true rfl) rfl
  · rw [if_neg hc] at h
    refine X.aload_n (x := a0) (pc' := 11) dX5_renumberBehind_10 rfl rfl rfl ?_
    obtain ⟨r3, e4, h⟩ := bindE h
    refine X.getf (pc' := 14) dX5_renumberBehind_11 rfl fq_X5_9 (gP_spec e4) ?_
    refine X.iload_n (x := a2) (pc' := 15) dX5_renumberBehind_14 rfl rfl rfl ?_
    obtain ⟨v6, e5, h⟩ := bindE h
    refine X.iald (pc' := 16) dX5_renumberBehind_15 rfl e5 ?_
    refine X.iload_n (x := a1) (pc' := 17) dX5_renumberBehind_16 rfl rfl rfl ?_
    refine X.icmp_le (tgt := 30) (pc' := 20) dX5_renumberBehind_17 (by decide) rfl (fun hc => ?_) (fun hc => ?_)
    · rw [if_pos hc] at h
      exact ok_X5_renumberBehind_30 hk2 h
    · rw [if_neg hc] at h
      refine X.aload_n (x := a0) (pc' := 21) dX5_renumberBehind_20 rfl rfl rfl ?_
      obtain ⟨r7, e8, h⟩ := bindE h
      refine X.getf (pc' := 24) dX5_renumberBehind_21 rfl fq_X5_9 (gP_spec e8) ?_
      refine X.iload_n (x := a2) (pc' := 25) dX5_renumberBehind_24 rfl rfl rfl ?_
      refine X.dup2 (pc' := 26) dX5_renumberBehind_25 rfl rfl rfl ?_
      obtain ⟨v10, e9, h⟩ := bindE h
      refine X.iald (pc' := 27) dX5_renumberBehind_26 rfl e9 ?_
      refine X.iconst (v := 1) (pc' := 28) dX5_renumberBehind_27 rfl (by decide) ?_
      refine X.isub (pc' := 29) dX5_renumberBehind_28 rfl ?_
      obtain ⟨M12, e11, h⟩ := bindE h
      refine X.iast (pc' := 30) dX5_renumberBehind_29 rfl e11 ?_
      exact ok_X5_renumberBehind_30 hk2 h
def f_X5_renumberBehind_2 (fu : Nat) : Nat → Nat → Int32 → Int32 → List Ob → Option (Unit × List Ob)
  | 0, _, _, _, _ => none
  | n + 1, a0, a1, a2, M => f_X5_renumberBehind_2b fu a0 a1 a2 M (fun a0 a1 a2 M => f_X5_renumberBehind_2 fu n a0 a1 a2 M)
theorem ok_X5_renumberBehind_2 {G : GT} {fu : Nat} {out : Unit × List Ob} : ∀ (n : Nat) (a0 : Nat) (a1 : Int32) (a2 : Int32) (M : List Ob), f_X5_renumberBehind_2 fu n a0 a1 a2 M = some out → X G t_X5_renumberBehind [] 2 [some (.ref a0), some (.int a1), some (.int a2)] [] M 0 0 (oU out) := by
  intro n
  induction n with
  | zero =>
    intro a0 a1 a2 M h
    unfold f_X5_renumberBehind_2 at h
    cases h
  | succ n ih =>
    intro a0 a1 a2 M h
    unfold f_X5_renumberBehind_2 at h
    exact ok_X5_renumberBehind_2b ih h
def f_X5_renumberBehind (fu : Nat) (a0 : Nat) (a1 : Int32) (M : List Ob) : Option (Unit × List Ob) :=
  f_X5_renumberBehind_2 fu  fu a0 a1 0 M
set_option maxHeartbeats 4000000 in
theorem ok_X5_renumberBehind {G : GT} {fu : Nat} {a0 : Nat} {a1 : Int32} {M : List Ob} {out : Unit × List Ob} (h : f_X5_renumberBehind fu a0 a1 M = some out) : Sp G t_X5_renumberBehind [.ref a0, .int a1] M (oU out) := by
  refine Sp.of rfl (by decide +kernel) (cat_all rfl) (Nat.le_of_ble_eq_true rfl) ?_
  show X G t_X5_renumberBehind [] 0 [some (.ref a0), some (.int a1), none] [] M 0 0 (oU out)
  unfold f_X5_renumberBehind at h
  refine X.iconst (v := 0) (pc' := 1) dX5_renumberBehind_0 rfl (by decide) ?_
  refine X.istore_n (L' := [some (.ref a0), some (.int a1), some (.int 0)]) (pc' := 2) dX5_renumberBehind_1 rfl rfl (Nat.le_of_ble_eq_true rfl) rfl ?_
  refine ok_X5_renumberBehind_2  fu _ _ _ _ h
