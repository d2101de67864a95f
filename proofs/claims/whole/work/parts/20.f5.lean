def f_X11_setsOut (fu : Nat) (a0 : Nat) (M : List Ob) : Option (Unit × List Ob) :=
  (aI M a0 13 1).bind fun v2 =>
  (aSet M a0 13 126 (.int v2)).bind fun M4 =>
  (aSet M4 a0 13 127 (.int 0)).bind fun M6 =>
  (aI M6 a0 13 3).bind fun v8 =>
  (aSet M6 a0 13 128 (.int v8)).bind fun M10 =>
  (aSet M10 a0 13 129 (.int 0)).bind fun M12 =>
  some ((), M12)
set_option maxHeartbeats 4000000 in
theorem ok_X11_setsOut {G : GT} {fu : Nat} {a0 : Nat} {M : List Ob} {out : Unit × List Ob} (h : f_X11_setsOut fu a0 M = some out) : Sp G t_X11_setsOut [.ref a0] M (oU out) := by
  refine Sp.of rfl (by decide +kernel) (cat_all rfl) (Nat.le_of_ble_eq_true rfl) ?_
  show X G t_X11_setsOut [] 0 [some (.ref a0)] [] M 0 0 (oU out)
  unfold f_X11_setsOut at h
  refine X.aload_n (x := a0) (pc' := 1) dX11_setsOut_0 rfl rfl rfl ?_
  refine X.bipush (v := 126) (pc' := 3) dX11_setsOut_1 rfl (by decide) ?_
  refine X.aload_n (x := a0) (pc' := 4) dX11_setsOut_3 rfl rfl rfl ?_
  refine X.iconst (v := 1) (pc' := 5) dX11_setsOut_4 rfl (by decide) ?_
  obtain ⟨v2, e1, h⟩ := bindE h
  refine X.iald (pc' := 6) dX11_setsOut_5 rfl e1 ?_
  obtain ⟨M4, e3, h⟩ := bindE h
  refine X.iast (pc' := 7) dX11_setsOut_6 rfl e3 ?_
  refine X.aload_n (x := a0) (pc' := 8) dX11_setsOut_7 rfl rfl rfl ?_
  refine X.bipush (v := 127) (pc' := 10) dX11_setsOut_8 rfl (by decide) ?_
  refine X.iconst (v := 0) (pc' := 11) dX11_setsOut_10 rfl (by decide) ?_
  obtain ⟨M6, e5, h⟩ := bindE h
  refine X.iast (pc' := 12) dX11_setsOut_11 rfl e5 ?_
  refine X.aload_n (x := a0) (pc' := 13) dX11_setsOut_12 rfl rfl rfl ?_
  refine X.sipush (v := 128) (pc' := 16) dX11_setsOut_13 rfl (by decide) ?_
  refine X.aload_n (x := a0) (pc' := 17) dX11_setsOut_16 rfl rfl rfl ?_
  refine X.iconst (v := 3) (pc' := 18) dX11_setsOut_17 rfl (by decide) ?_
  obtain ⟨v8, e7, h⟩ := bindE h
  refine X.iald (pc' := 19) dX11_setsOut_18 rfl e7 ?_
  obtain ⟨M10, e9, h⟩ := bindE h
  refine X.iast (pc' := 20) dX11_setsOut_19 rfl e9 ?_
  refine X.aload_n (x := a0) (pc' := 21) dX11_setsOut_20 rfl rfl rfl ?_
  refine X.sipush (v := 129) (pc' := 24) dX11_setsOut_21 rfl (by decide) ?_
  refine X.iconst (v := 0) (pc' := 25) dX11_setsOut_24 rfl (by decide) ?_
  obtain ⟨M12, e11, h⟩ := bindE h
  refine X.iast (pc' := 26) dX11_setsOut_25 rfl e11 ?_
  cases h
  exact X.vret dX11_setsOut_26 rfl (Nat.le_of_ble_eq_true rfl) (Nat.le_of_ble_eq_true rfl) rfl
def f_X11_begins_3b (fu : Nat) (a0 : Nat) (a1 : Int32) (a2 : Int32) (a3 : Int32) (a4 : Int32) (M : List Ob) (k3 : Nat → Int32 → Int32 → Int32 → Int32 → List Ob → Option (Unit × List Ob)) (k25 : Nat → Int32 → Int32 → Int32 → List Ob → Option (Unit × List Ob)) : Option (Unit × List Ob) :=
  if 150 ≤ a4 then (k25 a0 a1 a2 a3 M)
  else ((gP M a0 11 1).bind fun r1 =>
  (aSet M r1 13 a4 (.int 0)).bind fun M4 =>
  k3 a0 a1 a2 a3 (a4 + 1) M4)
set_option maxHeartbeats 4000000 in
theorem ok_X11_begins_3b {G : GT} {fu : Nat} {out : Unit × List Ob} {a0 : Nat} {a1 : Int32} {a2 : Int32} {a3 : Int32} {a4 : Int32} {M : List Ob} {k3 : Nat → Int32 → Int32 → Int32 → Int32 → List Ob → Option (Unit × List Ob)} {k25 : Nat → Int32 → Int32 → Int32 → List Ob → Option (Unit × List Ob)} (hk3 : ∀ (a0 : Nat) (a1 : Int32) (a2 : Int32) (a3 : Int32) (a4 : Int32) (M : List Ob), k3 a0 a1 a2 a3 a4 M = some out → X G t_X11_begins [] 3 [some (.ref a0), some (.int a1), some (.int a2), some (.int a3), some (.int a4)] [] M 0 0 (oU out)) (hk25 : ∀ (a0 : Nat) (a1 : Int32) (a2 : Int32) (a3 : Int32) (M : List Ob), k25 a0 a1 a2 a3 M = some out → X G t_X11_begins [] 25 [some (.ref a0), some (.int a1), some (.int a2), some (.int a3), none] [] M 0 0 (oU out)) (h : f_X11_begins_3b fu a0 a1 a2 a3 a4 M k3 k25 = some out) : X G t_X11_begins [] 3 [some (.ref a0), some (.int a1), some (.int a2), some (.int a3), some (.int a4)] [] M 0 0 (oU out) := by
  unfold f_X11_begins_3b at h
  refine X.iload (x := a4) (pc' := 5) dX11_begins_3 rfl rfl ?_
  refine X.sipush (v := 150) (pc' := 8) dX11_begins_5 rfl (by decide) ?_
  refine X.icmp_ge (tgt := 25) (pc' := 11) dX11_begins_8 (by decide) rfl (fun hc => ?_) (fun hc => ?_)
  · rw [if_pos hc] at h
    refine X.sub (L := [some (.ref a0), some (.int a1), some (.int a2), some (.int a3), none]) ?_ (⟨rfl, ⟨rfl, ⟨rfl, ⟨rfl, trivial⟩⟩⟩⟩)
    exact hk25 _ _ _ _ _ h
  · rw [if_neg hc] at h
    refine X.aload_n (x := a0) (pc' := 12) dX11_begins_11 rfl rfl rfl ?_
    obtain ⟨r1, e2, h⟩ := bindE h
    refine X.getf (pc' := 15) dX11_begins_12 rfl fq_X11_13 (gP_spec e2) ?_
    refine X.iload (x := a4) (pc' := 17) dX11_begins_15 rfl rfl ?_
    refine X.iconst (v := 0) (pc' := 18) dX11_begins_17 rfl (by decide) ?_
    obtain ⟨M4, e3, h⟩ := bindE h
    refine X.iast (pc' := 19) dX11_begins_18 rfl e3 ?_
    refine X.iinc (v := (a4 + 1)) (L' := [some (.ref a0), some (.int a1), some (.int a2), some (.int a3), some (.int (a4 + 1))]) (pc' := 22) dX11_begins_19 rfl rfl (congrArg (fun y => a4 + y) (show Int32.ofInt 1 = 1 by decide)) (Nat.le_of_ble_eq_true rfl) rfl ?_
    refine X.goto (pc' := 3) dX11_begins_22 (by decide) ?_
    exact hk3 _ _ _ _ _ _ h
def f_X11_begins_3 (fu : Nat) (k25 : Nat → Int32 → Int32 → Int32 → List Ob → Option (Unit × List Ob)) : Nat → Nat → Int32 → Int32 → Int32 → Int32 → List Ob → Option (Unit × List Ob)
  | 0, _, _, _, _, _, _ => none
  | n + 1, a0, a1, a2, a3, a4, M => f_X11_begins_3b fu a0 a1 a2 a3 a4 M (fun a0 a1 a2 a3 a4 M => f_X11_begins_3 fu k25 n a0 a1 a2 a3 a4 M) k25
theorem ok_X11_begins_3 {G : GT} {fu : Nat} {out : Unit × List Ob} {k25 : Nat → Int32 → Int32 → Int32 → List Ob → Option (Unit × List Ob)} (hk25 : ∀ (a0 : Nat) (a1 : Int32) (a2 : Int32) (a3 : Int32) (M : List Ob), k25 a0 a1 a2 a3 M = some out → X G t_X11_begins [] 25 [some (.ref a0), some (.int a1), some (.int a2), some (.int a3), none] [] M 0 0 (oU out)) : ∀ (n : Nat) (a0 : Nat) (a1 : Int32) (a2 : Int32) (a3 : Int32) (a4 : Int32) (M : List Ob), f_X11_begins_3 fu k25 n a0 a1 a2 a3 a4 M = some out → X G t_X11_begins [] 3 [some (.ref a0), some (.int a1), some (.int a2), some (.int a3), some (.int a4)] [] M 0 0 (oU out) := by
  intro n
  induction n with
  | zero =>
    intro a0 a1 a2 a3 a4 M h
    unfold f_X11_begins_3 at h
    cases h
  | succ n ih =>
    intro a0 a1 a2 a3 a4 M h
    unfold f_X11_begins_3 at h
    exact ok_X11_begins_3b ih hk25 h
def f_X11_begins_25 (fu : Nat) (a0 : Nat) (a1 : Int32) (a2 : Int32) (a3 : Int32) (M : List Ob) : Option (Unit × List Ob) :=
  (gP M a0 11 1).bind fun r1 =>
  (aSet M r1 13 0 (.int a1)).bind fun M4 =>
  (gP M4 a0 11 1).bind fun r5 =>
  (aSet M4 r5 13 1 (.int a2)).bind fun M8 =>
  (gP M8 a0 11 1).bind fun r9 =>
  (aSet M8 r9 13 2 (.int a3)).bind fun M12 =>
  (gP M12 a0 11 1).bind fun r13 =>
  (aSet M12 r13 13 3 (.int 2)).bind fun M16 =>
  (gP M16 a0 11 1).bind fun r17 =>
  bd2 (f_X11_setsOut fu r17 M16) fun _ M20 =>
  some ((), M20)
set_option maxHeartbeats 4000000 in
theorem ok_X11_begins_25 {G : GT} {fu : Nat} {out : Unit × List Ob} {a0 : Nat} {a1 : Int32} {a2 : Int32} {a3 : Int32} {M : List Ob} (h : f_X11_begins_25 fu a0 a1 a2 a3 M = some out) : X G t_X11_begins [] 25 [some (.ref a0), some (.int a1), some (.int a2), some (.int a3), none] [] M 0 0 (oU out) := by
  unfold f_X11_begins_25 at h
  refine X.aload_n (x := a0) (pc' := 26) dX11_begins_25 rfl rfl rfl ?_
  obtain ⟨r1, e2, h⟩ := bindE h
  refine X.getf (pc' := 29) dX11_begins_26 rfl fq_X11_13 (gP_spec e2) ?_
  refine X.iconst (v := 0) (pc' := 30) dX11_begins_29 rfl (by decide) ?_
  refine X.iload_n (x := a1) (pc' := 31) dX11_begins_30 rfl rfl rfl ?_
  obtain ⟨M4, e3, h⟩ := bindE h
  refine X.iast (pc' := 32) dX11_begins_31 rfl e3 ?_
  refine X.aload_n (x := a0) (pc' := 33) dX11_begins_32 rfl rfl rfl ?_
  obtain ⟨r5, e6, h⟩ := bindE h
  refine X.getf (pc' := 36) dX11_begins_33 rfl fq_X11_13 (gP_spec e6) ?_
  refine X.iconst (v := 1) (pc' := 37) dX11_begins_36 rfl (by decide) ?_
  refine X.iload_n (x := a2) (pc' := 38) dX11_begins_37 rfl rfl rfl ?_
  obtain ⟨M8, e7, h⟩ := bindE h
  refine X.iast (pc' := 39) dX11_begins_38 rfl e7 ?_
  refine X.aload_n (x := a0) (pc' := 40) dX11_begins_39 rfl rfl rfl ?_
  obtain ⟨r9, e10, h⟩ := bindE h
  refine X.getf (pc' := 43) dX11_begins_40 rfl fq_X11_13 (gP_spec e10) ?_
  refine X.iconst (v := 2) (pc' := 44) dX11_begins_43 rfl (by decide) ?_
  refine X.iload_n (x := a3) (pc' := 45) dX11_begins_44 rfl rfl rfl ?_
  obtain ⟨M12, e11, h⟩ := bindE h
  refine X.iast (pc' := 46) dX11_begins_45 rfl e11 ?_
  refine X.aload_n (x := a0) (pc' := 47) dX11_begins_46 rfl rfl rfl ?_
  obtain ⟨r13, e14, h⟩ := bindE h
  refine X.getf (pc' := 50) dX11_begins_47 rfl fq_X11_13 (gP_spec e14) ?_
  refine X.iconst (v := 3) (pc' := 51) dX11_begins_50 rfl (by decide) ?_
  refine X.iconst (v := 2) (pc' := 52) dX11_begins_51 rfl (by decide) ?_
  obtain ⟨M16, e15, h⟩ := bindE h
  refine X.iast (pc' := 53) dX11_begins_52 rfl e15 ?_
  refine X.aload_n (x := a0) (pc' := 54) dX11_begins_53 rfl rfl rfl ?_
  obtain ⟨r17, e18, h⟩ := bindE h
  refine X.getf (pc' := 57) dX11_begins_54 rfl fq_X11_13 (gP_spec e18) ?_
  obtain ⟨r19, M20, e21, h⟩ := bd2E h
  refine X.callS (v := none) (As := [.ref r17]) (st := []) (M' := M20) (pc' := 60) dX11_begins_57 rfl cl_X11_52 ms_X11_setsOut ⟨⟨Nat.le_of_ble_eq_true rfl, Nat.le_of_ble_eq_true rfl⟩, Nat.le_of_ble_eq_true rfl, Nat.le_of_ble_eq_true rfl⟩ rfl (Nat.le_of_ble_eq_true rfl) (ok_X11_setsOut (G := zs G) e21) ?_
  show X G t_X11_begins [] 60 [some (.ref a0), some (.int a1), some (.int a2), some (.int a3), none] [] M20 0 0 _
  cases h
  exact X.vret dX11_begins_60 rfl (Nat.le_of_ble_eq_true rfl) (Nat.le_of_ble_eq_true rfl) rfl
def f_X11_begins (fu : Nat) (a0 : Nat) (a1 : Int32) (a2 : Int32) (a3 : Int32) (M : List Ob) : Option (Unit × List Ob) :=
  f_X11_begins_3 fu (fun x1 x2 x3 x4 M5 => f_X11_begins_25 fu x1 x2 x3 x4 M5) fu a0 a1 a2 a3 0 M
set_option maxHeartbeats 4000000 in
theorem ok_X11_begins {G : GT} {fu : Nat} {a0 : Nat} {a1 : Int32} {a2 : Int32} {a3 : Int32} {M : List Ob} {out : Unit × List Ob} (h : f_X11_begins fu a0 a1 a2 a3 M = some out) : Sp G t_X11_begins [.ref a0, .int a1, .int a2, .int a3] M (oU out) := by
  refine Sp.of rfl (by decide +kernel) (cat_all rfl) (Nat.le_of_ble_eq_true rfl) ?_
  show X G t_X11_begins [] 0 [some (.ref a0), some (.int a1), some (.int a2), some (.int a3), none] [] M 0 0 (oU out)
  unfold f_X11_begins at h
  refine X.iconst (v := 0) (pc' := 1) dX11_begins_0 rfl (by decide) ?_
  refine X.istore (L' := [some (.ref a0), some (.int a1), some (.int a2), some (.int a3), some (.int 0)]) (pc' := 3) dX11_begins_1 rfl (Nat.le_of_ble_eq_true rfl) rfl ?_
  refine ok_X11_begins_3 ?_ fu _ _ _ _ _ _ h
  · intro x1 x2 x3 x4 M5 h
    exact ok_X11_begins_25 h
def f_X11_becomes_2b (fu : Nat) (a0 : Nat) (a1 : Nat) (a2 : Int32) (a3 : Int32) (M : List Ob) (k2 : Nat → Nat → Int32 → Int32 → List Ob → Option (Unit × List Ob)) : Option (Unit × List Ob) :=
  if 150 ≤ a3 then (some ((), M))
  else ((gP M a0 11 0).bind fun r1 =>
  (aI M a1 13 (a2 + a3)).bind fun v4 =>
  (aSet M r1 13 a3 (.int v4)).bind fun M6 =>
  k2 a0 a1 a2 (a3 + 1) M6)
set_option maxHeartbeats 4000000 in
theorem ok_X11_becomes_2b {G : GT} {fu : Nat} {out : Unit × List Ob} {a0 : Nat} {a1 : Nat} {a2 : Int32} {a3 : Int32} {M : List Ob} {k2 : Nat → Nat → Int32 → Int32 → List Ob → Option (Unit × List Ob)} (hk2 : ∀ (a0 : Nat) (a1 : Nat) (a2 : Int32) (a3 : Int32) (M : List Ob), k2 a0 a1 a2 a3 M = some out → X G t_X11_becomes [] 2 [some (.ref a0), some (.ref a1), some (.int a2), some (.int a3)] [] M 0 0 (oU out)) (h : f_X11_becomes_2b fu a0 a1 a2 a3 M k2 = some out) : X G t_X11_becomes [] 2 [some (.ref a0), some (.ref a1), some (.int a2), some (.int a3)] [] M 0 0 (oU out) := by
  unfold f_X11_becomes_2b at h
  refine X.iload_n (x := a3) (pc' := 3) dX11_becomes_2 rfl rfl rfl ?_
  refine X.sipush (v := 150) (pc' := 6) dX11_becomes_3 rfl (by decide) ?_
  refine X.icmp_ge (tgt := 26) (pc' := 9) dX11_becomes_6 (by decide) rfl (fun hc => ?_) (fun hc => ?_)
  · rw [if_pos hc] at h
    cases h
    exact X.vret dX11_becomes_26 rfl (Nat.le_of_ble_eq_true rfl) (Nat.le_of_ble_eq_true rfl) rfl
  · rw [if_neg hc] at h
    refine X.aload_n (x := a0) (pc' := 10) dX11_becomes_9 rfl rfl rfl ?_
    obtain ⟨r1, e2, h⟩ := bindE h
    refine X.getf (pc' := 13) dX11_becomes_10 rfl fq_X11_7 (gP_spec e2) ?_
    refine X.iload_n (x := a3) (pc' := 14) dX11_becomes_13 rfl rfl rfl ?_
    refine X.aload_n (x := a1) (pc' := 15) dX11_becomes_14 rfl rfl rfl ?_
    refine X.iload_n (x := a2) (pc' := 16) dX11_becomes_15 rfl rfl rfl ?_
    refine X.iload_n (x := a3) (pc' := 17) dX11_becomes_16 rfl rfl rfl ?_
    refine X.iadd (pc' := 18) dX11_becomes_17 rfl ?_
    obtain ⟨v4, e3, h⟩ := bindE h
    refine X.iald (pc' := 19) dX11_becomes_18 rfl e3 ?_
    obtain ⟨M6, e5, h⟩ := bindE h
    refine X.iast (pc' := 20) dX11_becomes_19 rfl e5 ?_
    refine X.iinc (v := (a3 + 1)) (L' := [some (.ref a0), some (.ref a1), some (.int a2), some (.int (a3 + 1))]) (pc' := 23) dX11_becomes_20 rfl rfl (congrArg (fun y => a3 + y) (show Int32.ofInt 1 = 1 by decide)) (Nat.le_of_ble_eq_true rfl) rfl ?_
    refine X.goto (pc' := 2) dX11_becomes_23 (by decide) ?_
    exact hk2 _ _ _ _ _ h
def f_X11_becomes_2 (fu : Nat) : Nat → Nat → Nat → Int32 → Int32 → List Ob → Option (Unit × List Ob)
  | 0, _, _, _, _, _ => none
  | n + 1, a0, a1, a2, a3, M => f_X11_becomes_2b fu a0 a1 a2 a3 M (fun a0 a1 a2 a3 M => f_X11_becomes_2 fu n a0 a1 a2 a3 M)
theorem ok_X11_becomes_2 {G : GT} {fu : Nat} {out : Unit × List Ob} : ∀ (n : Nat) (a0 : Nat) (a1 : Nat) (a2 : Int32) (a3 : Int32) (M : List Ob), f_X11_becomes_2 fu n a0 a1 a2 a3 M = some out → X G t_X11_becomes [] 2 [some (.ref a0), some (.ref a1), some (.int a2), some (.int a3)] [] M 0 0 (oU out) := by
  intro n
  induction n with
  | zero =>
    intro a0 a1 a2 a3 M h
    unfold f_X11_becomes_2 at h
    cases h
  | succ n ih =>
    intro a0 a1 a2 a3 M h
    unfold f_X11_becomes_2 at h
    exact ok_X11_becomes_2b ih h
def f_X11_becomes (fu : Nat) (a0 : Nat) (a1 : Nat) (a2 : Int32) (M : List Ob) : Option (Unit × List Ob) :=
  f_X11_becomes_2 fu  fu a0 a1 a2 0 M
set_option maxHeartbeats 4000000 in
theorem ok_X11_becomes {G : GT} {fu : Nat} {a0 : Nat} {a1 : Nat} {a2 : Int32} {M : List Ob} {out : Unit × List Ob} (h : f_X11_becomes fu a0 a1 a2 M = some out) : Sp G t_X11_becomes [.ref a0, .ref a1, .int a2] M (oU out) := by
  refine Sp.of rfl (by decide +kernel) (cat_all rfl) (Nat.le_of_ble_eq_true rfl) ?_
  show X G t_X11_becomes [] 0 [some (.ref a0), some (.ref a1), some (.int a2), none] [] M 0 0 (oU out)
  unfold f_X11_becomes at h
  refine X.iconst (v := 0) (pc' := 1) dX11_becomes_0 rfl (by decide) ?_
  refine X.istore_n (L' := [some (.ref a0), some (.ref a1), some (.int a2), some (.int 0)]) (pc' := 2) dX11_becomes_1 rfl rfl (Nat.le_of_ble_eq_true rfl) rfl ?_
  refine ok_X11_becomes_2  fu _ _ _ _ _ h
def f_X11_init (fu : Nat) (a0 : Nat) (M : List Ob) : Option (Unit × List Ob) :=
  bd2 (newO M (13, List.replicate 150 (.int 0))) fun r1 M2 =>
  (pF M2 a0 11 0 (.ref r1)).bind fun M4 =>
  bd2 (newO M4 (13, List.replicate 150 (.int 0))) fun r6 M7 =>
  (pF M7 a0 11 1 (.ref r6)).bind fun M9 =>
  bd2 (newO M9 (13, List.replicate 1200 (.int 0))) fun r11 M12 =>
  (pF M12 a0 11 2 (.ref r11)).bind fun M14 =>
  bd2 (newO M14 (13, List.replicate 600 (.int 0))) fun r16 M17 =>
  (pF M17 a0 11 5 (.ref r16)).bind fun M19 =>
  (pF M19 a0 11 14 (.int (-1))).bind fun M21 =>
  bd2 (newO M21 (13, List.replicate 8 (.int 0))) fun r23 M24 =>
  (pF M24 a0 11 15 (.ref r23)).bind fun M26 =>
  bd2 (newO M26 (13, List.replicate 8 (.int 0))) fun r28 M29 =>
  (pF M29 a0 11 17 (.ref r28)).bind fun M31 =>
  bd2 (newO M31 (13, List.replicate 8 (.int 0))) fun r33 M34 =>
  (pF M34 a0 11 18 (.ref r33)).bind fun M36 =>
  bd2 (newO M36 (13, List.replicate 56 (.int 0))) fun r38 M39 =>
  (pF M39 a0 11 24 (.ref r38)).bind fun M41 =>
  bd2 (newO M41 (13, List.replicate 56 (.int 0))) fun r43 M44 =>
  (pF M44 a0 11 25 (.ref r43)).bind fun M46 =>
  bd2 (newO M46 (13, List.replicate 20 (.int 0))) fun r48 M49 =>
  (pF M49 a0 11 26 (.ref r48)).bind fun M51 =>
  (hasO M51 a0 11).bind fun _ =>
  bd2 (f_X11_begins fu a0 2 0 1 M51) fun _ M54 =>
  (gP M54 a0 11 1).bind fun r57 =>
  (hasO M54 a0 11).bind fun _ =>
  bd2 (f_X11_becomes fu a0 r57 0 M54) fun _ M60 =>
  some ((), M60)
set_option maxHeartbeats 4000000 in
theorem ok_X11_init {G : GT} (hR : Row G) {fu : Nat} {a0 : Nat} {M : List Ob} {out : Unit × List Ob} (h : f_X11_init fu a0 M = some out) : Sp G t_X11_init [.ref a0] M (oU out) := by
  refine Sp.of rfl (by decide +kernel) (cat_all rfl) (Nat.le_of_ble_eq_true rfl) ?_
  show X G t_X11_init [] 0 [some (.ref a0)] [] M 0 0 (oU out)
  unfold f_X11_init at h
  refine X.aload_n (x := a0) (pc' := 1) dX11_init_0 rfl rfl rfl ?_
  refine X.objI (pc' := 4) dX11_init_1 rfl (TBg_of 1277 (by decide +kernel) rfl) (Nat.le_of_ble_eq_true rfl) (Nat.le_of_ble_eq_true rfl) ?_
  refine X.aload_n (x := a0) (pc' := 5) dX11_init_4 rfl rfl rfl ?_
  refine X.sipush (v := 150) (pc' := 8) dX11_init_5 rfl (by decide) ?_
  obtain ⟨r1, M2, e3, h⟩ := bd2E h
  refine X.newi (kd := 13) (N := 150) (dv := .int 0) (pc' := 10) dX11_init_8 rfl (Or.inr (Or.inl ⟨rfl, rfl, rfl⟩)) (TBg_of 159 (by decide +kernel) rfl) (by decide) (by decide) (Nat.le_of_ble_eq_true rfl) hR (Nat.le_of_ble_eq_true rfl) (Nat.le_of_ble_eq_true rfl) e3 ?_
  show X G t_X11_init [] 10 [some (.ref a0)] [.ref r1, .ref a0] M2 1 150 _
  obtain ⟨M4, e5, h⟩ := bindE h
  refine X.putF (pc' := 13) dX11_init_10 rfl fq_X11_7 rfl (fun r hr => by cases hr; rfl) rfl rfl e5 ?_
  refine X.aload_n (x := a0) (pc' := 14) dX11_init_13 rfl rfl rfl ?_
  refine X.sipush (v := 150) (pc' := 17) dX11_init_14 rfl (by decide) ?_
  obtain ⟨r6, M7, e8, h⟩ := bd2E h
  refine X.newi (kd := 13) (N := 150) (dv := .int 0) (pc' := 19) dX11_init_17 rfl (Or.inr (Or.inl ⟨rfl, rfl, rfl⟩)) (TBg_of 159 (by decide +kernel) rfl) (by decide) (by decide) (Nat.le_of_ble_eq_true rfl) hR (Nat.le_of_ble_eq_true rfl) (Nat.le_of_ble_eq_true rfl) e8 ?_
  show X G t_X11_init [] 19 [some (.ref a0)] [.ref r6, .ref a0] M7 2 300 _
  obtain ⟨M9, e10, h⟩ := bindE h
  refine X.putF (pc' := 22) dX11_init_19 rfl fq_X11_13 rfl (fun r hr => by cases hr; rfl) rfl rfl e10 ?_
  refine X.aload_n (x := a0) (pc' := 23) dX11_init_22 rfl rfl rfl ?_
  refine X.sipush (v := 1200) (pc' := 26) dX11_init_23 rfl (by decide) ?_
  obtain ⟨r11, M12, e13, h⟩ := bd2E h
  refine X.newi (kd := 13) (N := 1200) (dv := .int 0) (pc' := 28) dX11_init_26 rfl (Or.inr (Or.inl ⟨rfl, rfl, rfl⟩)) (TBg_of 159 (by decide +kernel) rfl) (by decide) (by decide) (Nat.le_of_ble_eq_true rfl) hR (Nat.le_of_ble_eq_true rfl) (Nat.le_of_ble_eq_true rfl) e13 ?_
  show X G t_X11_init [] 28 [some (.ref a0)] [.ref r11, .ref a0] M12 3 1500 _
  obtain ⟨M14, e15, h⟩ := bindE h
  refine X.putF (pc' := 31) dX11_init_28 rfl fq_X11_16 rfl (fun r hr => by cases hr; rfl) rfl rfl e15 ?_
  refine X.aload_n (x := a0) (pc' := 32) dX11_init_31 rfl rfl rfl ?_
  refine X.sipush (v := 600) (pc' := 35) dX11_init_32 rfl (by decide) ?_
  obtain ⟨r16, M17, e18, h⟩ := bd2E h
  refine X.newi (kd := 13) (N := 600) (dv := .int 0) (pc' := 37) dX11_init_35 rfl (Or.inr (Or.inl ⟨rfl, rfl, rfl⟩)) (TBg_of 159 (by decide +kernel) rfl) (by decide) (by decide) (Nat.le_of_ble_eq_true rfl) hR (Nat.le_of_ble_eq_true rfl) (Nat.le_of_ble_eq_true rfl) e18 ?_
  show X G t_X11_init [] 37 [some (.ref a0)] [.ref r16, .ref a0] M17 4 2100 _
  obtain ⟨M19, e20, h⟩ := bindE h
  refine X.putF (pc' := 40) dX11_init_37 rfl fq_X11_19 rfl (fun r hr => by cases hr; rfl) rfl rfl e20 ?_
  refine X.aload_n (x := a0) (pc' := 41) dX11_init_40 rfl rfl rfl ?_
  refine X.iconst (v := (-1)) (pc' := 42) dX11_init_41 rfl (by decide) ?_
  obtain ⟨M21, e22, h⟩ := bindE h
  refine X.putf (pc' := 45) dX11_init_42 rfl fq_X11_22 rfl rfl e22 ?_
  refine X.aload_n (x := a0) (pc' := 46) dX11_init_45 rfl rfl rfl ?_
  refine X.bipush (v := 8) (pc' := 48) dX11_init_46 rfl (by decide) ?_
  obtain ⟨r23, M24, e25, h⟩ := bd2E h
  refine X.newi (kd := 13) (N := 8) (dv := .int 0) (pc' := 50) dX11_init_48 rfl (Or.inr (Or.inl ⟨rfl, rfl, rfl⟩)) (TBg_of 159 (by decide +kernel) rfl) (by decide) (by decide) (Nat.le_of_ble_eq_true rfl) hR (Nat.le_of_ble_eq_true rfl) (Nat.le_of_ble_eq_true rfl) e25 ?_
  show X G t_X11_init [] 50 [some (.ref a0)] [.ref r23, .ref a0] M24 5 2108 _
  obtain ⟨M26, e27, h⟩ := bindE h
  refine X.putF (pc' := 53) dX11_init_50 rfl fq_X11_26 rfl (fun r hr => by cases hr; rfl) rfl rfl e27 ?_
  refine X.aload_n (x := a0) (pc' := 54) dX11_init_53 rfl rfl rfl ?_
  refine X.bipush (v := 8) (pc' := 56) dX11_init_54 rfl (by decide) ?_
  obtain ⟨r28, M29, e30, h⟩ := bd2E h
  refine X.newi (kd := 13) (N := 8) (dv := .int 0) (pc' := 58) dX11_init_56 rfl (Or.inr (Or.inl ⟨rfl, rfl, rfl⟩)) (TBg_of 159 (by decide +kernel) rfl) (by decide) (by decide) (Nat.le_of_ble_eq_true rfl) hR (Nat.le_of_ble_eq_true rfl) (Nat.le_of_ble_eq_true rfl) e30 ?_
  show X G t_X11_init [] 58 [some (.ref a0)] [.ref r28, .ref a0] M29 6 2116 _
  obtain ⟨M31, e32, h⟩ := bindE h
  refine X.putF (pc' := 61) dX11_init_58 rfl fq_X11_29 rfl (fun r hr => by cases hr; rfl) rfl rfl e32 ?_
  refine X.aload_n (x := a0) (pc' := 62) dX11_init_61 rfl rfl rfl ?_
  refine X.bipush (v := 8) (pc' := 64) dX11_init_62 rfl (by decide) ?_
  obtain ⟨r33, M34, e35, h⟩ := bd2E h
  refine X.newi (kd := 13) (N := 8) (dv := .int 0) (pc' := 66) dX11_init_64 rfl (Or.inr (Or.inl ⟨rfl, rfl, rfl⟩)) (TBg_of 159 (by decide +kernel) rfl) (by decide) (by decide) (Nat.le_of_ble_eq_true rfl) hR (Nat.le_of_ble_eq_true rfl) (Nat.le_of_ble_eq_true rfl) e35 ?_
  show X G t_X11_init [] 66 [some (.ref a0)] [.ref r33, .ref a0] M34 7 2124 _
  obtain ⟨M36, e37, h⟩ := bindE h
  refine X.putF (pc' := 69) dX11_init_66 rfl fq_X11_32 rfl (fun r hr => by cases hr; rfl) rfl rfl e37 ?_
  refine X.aload_n (x := a0) (pc' := 70) dX11_init_69 rfl rfl rfl ?_
  refine X.bipush (v := 56) (pc' := 72) dX11_init_70 rfl (by decide) ?_
  obtain ⟨r38, M39, e40, h⟩ := bd2E h
  refine X.newi (kd := 13) (N := 56) (dv := .int 0) (pc' := 74) dX11_init_72 rfl (Or.inr (Or.inl ⟨rfl, rfl, rfl⟩)) (TBg_of 159 (by decide +kernel) rfl) (by decide) (by decide) (Nat.le_of_ble_eq_true rfl) hR (Nat.le_of_ble_eq_true rfl) (Nat.le_of_ble_eq_true rfl) e40 ?_
  show X G t_X11_init [] 74 [some (.ref a0)] [.ref r38, .ref a0] M39 8 2180 _
  obtain ⟨M41, e42, h⟩ := bindE h
  refine X.putF (pc' := 77) dX11_init_74 rfl fq_X11_35 rfl (fun r hr => by cases hr; rfl) rfl rfl e42 ?_
  refine X.aload_n (x := a0) (pc' := 78) dX11_init_77 rfl rfl rfl ?_
  refine X.bipush (v := 56) (pc' := 80) dX11_init_78 rfl (by decide) ?_
  obtain ⟨r43, M44, e45, h⟩ := bd2E h
  refine X.newi (kd := 13) (N := 56) (dv := .int 0) (pc' := 82) dX11_init_80 rfl (Or.inr (Or.inl ⟨rfl, rfl, rfl⟩)) (TBg_of 159 (by decide +kernel) rfl) (by decide) (by decide) (Nat.le_of_ble_eq_true rfl) hR (Nat.le_of_ble_eq_true rfl) (Nat.le_of_ble_eq_true rfl) e45 ?_
  show X G t_X11_init [] 82 [some (.ref a0)] [.ref r43, .ref a0] M44 9 2236 _
  obtain ⟨M46, e47, h⟩ := bindE h
  refine X.putF (pc' := 85) dX11_init_82 rfl fq_X11_38 rfl (fun r hr => by cases hr; rfl) rfl rfl e47 ?_
  refine X.aload_n (x := a0) (pc' := 86) dX11_init_85 rfl rfl rfl ?_
  refine X.bipush (v := 20) (pc' := 88) dX11_init_86 rfl (by decide) ?_
  obtain ⟨r48, M49, e50, h⟩ := bd2E h
  refine X.newi (kd := 13) (N := 20) (dv := .int 0) (pc' := 90) dX11_init_88 rfl (Or.inr (Or.inl ⟨rfl, rfl, rfl⟩)) (TBg_of 159 (by decide +kernel) rfl) (by decide) (by decide) (Nat.le_of_ble_eq_true rfl) hR (Nat.le_of_ble_eq_true rfl) (Nat.le_of_ble_eq_true rfl) e50 ?_
  show X G t_X11_init [] 90 [some (.ref a0)] [.ref r48, .ref a0] M49 10 2256 _
  obtain ⟨M51, e52, h⟩ := bindE h
  refine X.putF (pc' := 93) dX11_init_90 rfl fq_X11_41 rfl (fun r hr => by cases hr; rfl) rfl rfl e52 ?_
  refine X.aload_n (x := a0) (pc' := 94) dX11_init_93 rfl rfl rfl ?_
  refine X.iconst (v := 2) (pc' := 95) dX11_init_94 rfl (by decide) ?_
  refine X.iconst (v := 0) (pc' := 96) dX11_init_95 rfl (by decide) ?_
  refine X.iconst (v := 1) (pc' := 97) dX11_init_96 rfl (by decide) ?_
  obtain ⟨⟨⟩, e56, h⟩ := bindE h
  obtain ⟨r53, M54, e55, h⟩ := bd2E h
  refine X.callV (b := a0) (v := none) (As := [.int 2, .int 0, .int 1]) (st := []) (M' := M54) (pc' := 100) dX11_init_97 rfl cl_X11_44 mi_X11_begins me_X11_begins mr_X11_begins e56 ⟨⟨Nat.le_of_ble_eq_true rfl, Nat.le_of_ble_eq_true rfl⟩, Nat.le_of_ble_eq_true rfl, Nat.le_of_ble_eq_true rfl⟩ rfl (Nat.le_of_ble_eq_true rfl) (ok_X11_begins (G := zs G) e55) ?_
  show X G t_X11_init [] 100 [some (.ref a0)] [] M54 10 2256 _
  refine X.aload_n (x := a0) (pc' := 101) dX11_init_100 rfl rfl rfl ?_
  refine X.aload_n (x := a0) (pc' := 102) dX11_init_101 rfl rfl rfl ?_
  obtain ⟨r57, e58, h⟩ := bindE h
  refine X.getf (pc' := 105) dX11_init_102 rfl fq_X11_13 (gP_spec e58) ?_
  refine X.iconst (v := 0) (pc' := 106) dX11_init_105 rfl (by decide) ?_
  obtain ⟨⟨⟩, e62, h⟩ := bindE h
  obtain ⟨r59, M60, e61, h⟩ := bd2E h
  refine X.callV (b := a0) (v := none) (As := [.ref r57, .int 0]) (st := []) (M' := M60) (pc' := 109) dX11_init_106 rfl cl_X11_48 mi_X11_becomes me_X11_becomes mr_X11_becomes e62 ⟨⟨Nat.le_of_ble_eq_true rfl, Nat.le_of_ble_eq_true rfl⟩, Nat.le_of_ble_eq_true rfl, Nat.le_of_ble_eq_true rfl⟩ rfl (Nat.le_of_ble_eq_true rfl) (ok_X11_becomes (G := zs G) e61) ?_
  show X G t_X11_init [] 109 [some (.ref a0)] [] M60 10 2256 _
  cases h
  exact X.vret dX11_init_109 rfl (Nat.le_of_ble_eq_true rfl) (Nat.le_of_ble_eq_true rfl) rfl
def f_X11_thrown (fu : Nat) (a0 : Nat) (M : List Ob) : Option (Int32 × List Ob) :=
  (gI M a0 11 4).bind fun v1 =>
  some (v1, M)
set_option maxHeartbeats 4000000 in
theorem ok_X11_thrown {G : GT} {fu : Nat} {a0 : Nat} {M : List Ob} {out : Int32 × List Ob} (h : f_X11_thrown fu a0 M = some out) : Sp G t_X11_thrown [.ref a0] M (oI out) := by
  refine Sp.of rfl (by decide +kernel) (cat_all rfl) (Nat.le_of_ble_eq_true rfl) ?_
  show X G t_X11_thrown [] 0 [some (.ref a0)] [] M 0 0 (oI out)
  unfold f_X11_thrown at h
  refine X.aload_n (x := a0) (pc' := 1) dX11_thrown_0 rfl rfl rfl ?_
  obtain ⟨v1, e2, h⟩ := bindE h
  refine X.getf (pc' := 4) dX11_thrown_1 rfl fq_X11_56 (gI_spec e2) ?_
  cases h
  exact X.iret (ty := .int) dX11_thrown_4 rfl rfl (Nat.le_of_ble_eq_true rfl) (Nat.le_of_ble_eq_true rfl) rfl
def f_X11_isIn (fu : Nat) (a0 : Int32) (a1 : Int32) (a2 : Int32) (M : List Ob) : Option (Int32 × List Ob) :=
  if a0 < a1 then (some (0, M))
  else (if a2 < a0 then (some (0, M))
  else (some (1, M)))
set_option maxHeartbeats 4000000 in
theorem ok_X11_isIn {G : GT} {fu : Nat} {a0 : Int32} {a1 : Int32} {a2 : Int32} {M : List Ob} {out : Int32 × List Ob} (h : f_X11_isIn fu a0 a1 a2 M = some out) : Sp G t_X11_isIn [.int a0, .int a1, .int a2] M (oI out) := by
  refine Sp.of rfl (by decide +kernel) (cat_all rfl) (Nat.le_of_ble_eq_true rfl) ?_
  show X G t_X11_isIn [] 0 [some (.int a0), some (.int a1), some (.int a2)] [] M 0 0 (oI out)
  unfold f_X11_isIn at h
  refine X.iload_n (x := a0) (pc' := 1) dX11_isIn_0 rfl rfl rfl ?_
  refine X.iload_n (x := a1) (pc' := 2) dX11_isIn_1 rfl rfl rfl ?_
  refine X.icmp_lt (tgt := 14) (pc' := 5) dX11_isIn_2 (by decide) rfl (fun hc => ?_) (fun hc => ?_)
  · rw [if_pos hc] at h
    refine X.iconst (v := 0) (pc' := 15) dX11_isIn_14 rfl (by decide) ?_
    cases h
    exact X.iret (ty := .boolean) dX11_isIn_15 rfl rfl (Nat.le_of_ble_eq_true rfl) (Nat.le_of_ble_eq_true rfl) rfl
  · rw [if_neg hc] at h
    refine X.iload_n (x := a0) (pc' := 6) dX11_isIn_5 rfl rfl rfl ?_
    refine X.iload_n (x := a2) (pc' := 7) dX11_isIn_6 rfl rfl rfl ?_
    refine X.icmp_gt (tgt := 14) (pc' := 10) dX11_isIn_7 (by decide) rfl (fun hc => ?_) (fun hc => ?_)
    · rw [if_pos hc] at h
      refine X.iconst (v := 0) (pc' := 15) dX11_isIn_14 rfl (by decide) ?_
      cases h
      exact X.iret (ty := .boolean) dX11_isIn_15 rfl rfl (Nat.le_of_ble_eq_true rfl) (Nat.le_of_ble_eq_true rfl) rfl
    · rw [if_neg hc] at h
      refine X.iconst (v := 1) (pc' := 11) dX11_isIn_10 rfl (by decide) ?_
      refine X.goto (pc' := 15) dX11_isIn_11 (by decide) ?_
      cases h
      exact X.iret (ty := .boolean) dX11_isIn_15 rfl rfl (Nat.le_of_ble_eq_true rfl) (Nat.le_of_ble_eq_true rfl) rfl
def f_X11_has (fu : Nat) (a0 : Int32) (a1 : Int32) (M : List Ob) : Option (Int32 × List Ob) :=
  if ((a0 >>> (a1 &&& 31)) &&& 1) = 1 then (some (1, M))
  else (some (0, M))
set_option maxHeartbeats 4000000 in
theorem ok_X11_has {G : GT} {fu : Nat} {a0 : Int32} {a1 : Int32} {M : List Ob} {out : Int32 × List Ob} (h : f_X11_has fu a0 a1 M = some out) : Sp G t_X11_has [.int a0, .int a1] M (oI out) := by
  refine Sp.of rfl (by decide +kernel) (cat_all rfl) (Nat.le_of_ble_eq_true rfl) ?_
  show X G t_X11_has [] 0 [some (.int a0), some (.int a1)] [] M 0 0 (oI out)
  unfold f_X11_has at h
  refine X.iload_n (x := a0) (pc' := 1) dX11_has_0 rfl rfl rfl ?_
  refine X.iload_n (x := a1) (pc' := 2) dX11_has_1 rfl rfl rfl ?_
  refine X.ishr (pc' := 3) dX11_has_2 rfl ?_
  refine X.iconst (v := 1) (pc' := 4) dX11_has_3 rfl (by decide) ?_
  refine X.iand (pc' := 5) dX11_has_4 rfl ?_
  refine X.iconst (v := 1) (pc' := 6) dX11_has_5 rfl (by decide) ?_
  refine X.icmp_ne (tgt := 13) (pc' := 9) dX11_has_6 (by decide) rfl (fun hc => ?_) (fun hc => ?_)
  · rw [if_neg hc] at h
    refine X.iconst (v := 0) (pc' := 14) dX11_has_13 rfl (by decide) ?_
    cases h
    exact X.iret (ty := .boolean) dX11_has_14 rfl rfl (Nat.le_of_ble_eq_true rfl) (Nat.le_of_ble_eq_true rfl) rfl
  · rw [if_pos hc] at h
    refine X.iconst (v := 1) (pc' := 10) dX11_has_9 rfl (by decide) ?_
    refine X.goto (pc' := 14) dX11_has_10 (by decide) ?_
    cases h
    exact X.iret (ty := .boolean) dX11_has_14 rfl rfl (Nat.le_of_ble_eq_true rfl) (Nat.le_of_ble_eq_true rfl) rfl
def f_X11_bits_24 (fu : Nat) (a0 : Int32) (a2 : Int32) (b0 : Int32) (b1 : Int32) (M : List Ob) (k4 : Int32 → Int32 → Int32 → List Ob → Option (Int32 × List Ob)) : Option (Int32 × List Ob) :=
  k4 a0 (b0 + b1) (a2 + 1) M
set_option maxHeartbeats 4000000 in
theorem ok_X11_bits_24 {G : GT} {fu : Nat} {out : Int32 × List Ob} {a0 : Int32} {a2 : Int32} {b0 : Int32} {b1 : Int32} {M : List Ob} {k4 : Int32 → Int32 → Int32 → List Ob → Option (Int32 × List Ob)} (hk4 : ∀ (a0 : Int32) (a1 : Int32) (a2 : Int32) (M : List Ob), k4 a0 a1 a2 M = some out → X G t_X11_bits [] 4 [some (.int a0), some (.int a1), some (.int a2)] [] M 0 0 (oI out)) (h : f_X11_bits_24 fu a0 a2 b0 b1 M k4 = some out) : X G t_X11_bits [] 24 [some (.int a0), none, some (.int a2)] [.int b1, .int b0] M 0 0 (oI out) := by
  unfold f_X11_bits_24 at h
  refine X.iadd (pc' := 25) dX11_bits_24 rfl ?_
  refine X.istore_n (L' := [some (.int a0), some (.int (b0 + b1)), some (.int a2)]) (pc' := 26) dX11_bits_25 rfl rfl (Nat.le_of_ble_eq_true rfl) rfl ?_
  refine X.iinc (v := (a2 + 1)) (L' := [some (.int a0), some (.int (b0 + b1)), some (.int (a2 + 1))]) (pc' := 29) dX11_bits_26 rfl rfl (congrArg (fun y => a2 + y) (show Int32.ofInt 1 = 1 by decide)) (Nat.le_of_ble_eq_true rfl) rfl ?_
  refine X.goto (pc' := 4) dX11_bits_29 (by decide) ?_
  exact hk4 _ _ _ _ h
def f_X11_bits_4b (fu : Nat) (a0 : Int32) (a1 : Int32) (a2 : Int32) (M : List Ob) (k4 : Int32 → Int32 → Int32 → List Ob → Option (Int32 × List Ob)) : Option (Int32 × List Ob) :=
  if 16 ≤ a2 then (some (a1, M))
  else (bd2 (f_X11_has fu a0 a2 M) fun v1 M2 =>
  if v1 = 0 then (f_X11_bits_24 fu a0 a2 a1 0 M2 k4)
  else (f_X11_bits_24 fu a0 a2 a1 1 M2 k4))
set_option maxHeartbeats 4000000 in
theorem ok_X11_bits_4b {G : GT} {fu : Nat} {out : Int32 × List Ob} {a0 : Int32} {a1 : Int32} {a2 : Int32} {M : List Ob} {k4 : Int32 → Int32 → Int32 → List Ob → Option (Int32 × List Ob)} (hk4 : ∀ (a0 : Int32) (a1 : Int32) (a2 : Int32) (M : List Ob), k4 a0 a1 a2 M = some out → X G t_X11_bits [] 4 [some (.int a0), some (.int a1), some (.int a2)] [] M 0 0 (oI out)) (h : f_X11_bits_4b fu a0 a1 a2 M k4 = some out) : X G t_X11_bits [] 4 [some (.int a0), some (.int a1), some (.int a2)] [] M 0 0 (oI out) := by
  unfold f_X11_bits_4b at h
  refine X.iload_n (x := a2) (pc' := 5) dX11_bits_4 rfl rfl rfl ?_
  refine X.bipush (v := 16) (pc' := 7) dX11_bits_5 rfl (by decide) ?_
  refine X.icmp_ge (tgt := 32) (pc' := 10) dX11_bits_7 (by decide) rfl (fun hc => ?_) (fun hc => ?_)
  · rw [if_pos hc] at h
    refine X.iload_n (x := a1) (pc' := 33) dX11_bits_32 rfl rfl rfl ?_
    cases h
    exact X.iret (ty := .int) dX11_bits_33 rfl rfl (Nat.le_of_ble_eq_true rfl) (Nat.le_of_ble_eq_true rfl) rfl
  · rw [if_neg hc] at h
    refine X.iload_n (x := a1) (pc' := 11) dX11_bits_10 rfl rfl rfl ?_
    refine X.iload_n (x := a0) (pc' := 12) dX11_bits_11 rfl rfl rfl ?_
    refine X.iload_n (x := a2) (pc' := 13) dX11_bits_12 rfl rfl rfl ?_
    obtain ⟨v1, M2, e3, h⟩ := bd2E h
    refine X.callS (v := some (.int v1)) (As := [.int a0, .int a2]) (st := [.int a1]) (M' := M2) (pc' := 16) dX11_bits_13 rfl cl_X11_59 ms_X11_has ⟨⟨Nat.le_of_ble_eq_true rfl, Nat.le_of_ble_eq_true rfl⟩, Nat.le_of_ble_eq_true rfl, Nat.le_of_ble_eq_true rfl⟩ rfl (Nat.le_of_ble_eq_true rfl) (ok_X11_has (G := zs G) e3) ?_
    show X G t_X11_bits [] 16 [some (.int a0), some (.int a1), some (.int a2)] [.int v1, .int a1] M2 0 0 _
    refine X.if_eq (tgt := 23) (pc' := 19) dX11_bits_16 (by decide) rfl (fun hc => ?_) (fun hc => ?_)
    · rw [if_pos hc] at h
      refine X.iconst (v := 0) (pc' := 24) dX11_bits_23 rfl (by decide) ?_
      refine X.sub (L := [some (.int a0), none, some (.int a2)]) ?_ (⟨rfl, ⟨rfl, trivial⟩⟩)
      exact ok_X11_bits_24 hk4 h
    · rw [if_neg hc] at h
      refine X.iconst (v := 1) (pc' := 20) dX11_bits_19 rfl (by decide) ?_
      refine X.goto (pc' := 24) dX11_bits_20 (by decide) ?_
      refine X.sub (L := [some (.int a0), none, some (.int a2)]) ?_ (⟨rfl, ⟨rfl, trivial⟩⟩)
      exact ok_X11_bits_24 hk4 h
def f_X11_bits_4 (fu : Nat) : Nat → Int32 → Int32 → Int32 → List Ob → Option (Int32 × List Ob)
  | 0, _, _, _, _ => none
  | n + 1, a0, a1, a2, M => f_X11_bits_4b fu a0 a1 a2 M (fun a0 a1 a2 M => f_X11_bits_4 fu n a0 a1 a2 M)
theorem ok_X11_bits_4 {G : GT} {fu : Nat} {out : Int32 × List Ob} : ∀ (n : Nat) (a0 : Int32) (a1 : Int32) (a2 : Int32) (M : List Ob), f_X11_bits_4 fu n a0 a1 a2 M = some out → X G t_X11_bits [] 4 [some (.int a0), some (.int a1), some (.int a2)] [] M 0 0 (oI out) := by
  intro n
  induction n with
  | zero =>
    intro a0 a1 a2 M h
    unfold f_X11_bits_4 at h
    cases h
  | succ n ih =>
    intro a0 a1 a2 M h
    unfold f_X11_bits_4 at h
    exact ok_X11_bits_4b ih h
def f_X11_bits (fu : Nat) (a0 : Int32) (M : List Ob) : Option (Int32 × List Ob) :=
  f_X11_bits_4 fu  fu a0 0 0 M
set_option maxHeartbeats 4000000 in
theorem ok_X11_bits {G : GT} {fu : Nat} {a0 : Int32} {M : List Ob} {out : Int32 × List Ob} (h : f_X11_bits fu a0 M = some out) : Sp G t_X11_bits [.int a0] M (oI out) := by
  refine Sp.of rfl (by decide +kernel) (cat_all rfl) (Nat.le_of_ble_eq_true rfl) ?_
  show X G t_X11_bits [] 0 [some (.int a0), none, none] [] M 0 0 (oI out)
  unfold f_X11_bits at h
  refine X.iconst (v := 0) (pc' := 1) dX11_bits_0 rfl (by decide) ?_
  refine X.istore_n (L' := [some (.int a0), some (.int 0), none]) (pc' := 2) dX11_bits_1 rfl rfl (Nat.le_of_ble_eq_true rfl) rfl ?_
  refine X.iconst (v := 0) (pc' := 3) dX11_bits_2 rfl (by decide) ?_
  refine X.istore_n (L' := [some (.int a0), some (.int 0), some (.int 0)]) (pc' := 4) dX11_bits_3 rfl rfl (Nat.le_of_ble_eq_true rfl) rfl ?_
  refine ok_X11_bits_4  fu _ _ _ _ h
def f_X11_keeps_52b (fu : Nat) (a0 : Nat) (a1 : Int32) (M : List Ob) (k52 : Nat → Int32 → List Ob → Option (Unit × List Ob)) (k86 : Nat → List Ob → Option (Unit × List Ob)) : Option (Unit × List Ob) :=
  if 150 ≤ a1 then (k86 a0 M)
  else ((gP M a0 11 2).bind fun r1 =>
  (gI M a0 11 3).bind fun v3 =>
  (gP M a0 11 0).bind fun r5 =>
  (aI M r5 13 a1).bind fun v8 =>
  (aSet M r1 13 ((150 * v3) + a1) (.int v8)).bind fun M10 =>
  k52 a0 (a1 + 1) M10)
set_option maxHeartbeats 4000000 in
theorem ok_X11_keeps_52b {G : GT} {fu : Nat} {out : Unit × List Ob} {a0 : Nat} {a1 : Int32} {M : List Ob} {k52 : Nat → Int32 → List Ob → Option (Unit × List Ob)} {k86 : Nat → List Ob → Option (Unit × List Ob)} (hk52 : ∀ (a0 : Nat) (a1 : Int32) (M : List Ob), k52 a0 a1 M = some out → X G t_X11_keeps [] 52 [some (.ref a0), some (.int a1)] [] M 0 0 (oU out)) (hk86 : ∀ (a0 : Nat) (M : List Ob), k86 a0 M = some out → X G t_X11_keeps [] 86 [some (.ref a0), none] [] M 0 0 (oU out)) (h : f_X11_keeps_52b fu a0 a1 M k52 k86 = some out) : X G t_X11_keeps [] 52 [some (.ref a0), some (.int a1)] [] M 0 0 (oU out) := by
  unfold f_X11_keeps_52b at h
  refine X.iload_n (x := a1) (pc' := 53) dX11_keeps_52 rfl rfl rfl ?_
  refine X.sipush (v := 150) (pc' := 56) dX11_keeps_53 rfl (by decide) ?_
  refine X.icmp_ge (tgt := 86) (pc' := 59) dX11_keeps_56 (by decide) rfl (fun hc => ?_) (fun hc => ?_)
  · rw [if_pos hc] at h
    refine X.sub (L := [some (.ref a0), none]) ?_ (⟨rfl, trivial⟩)
    exact hk86 _ _ h
  · rw [if_neg hc] at h
    refine X.aload_n (x := a0) (pc' := 60) dX11_keeps_59 rfl rfl rfl ?_
    obtain ⟨r1, e2, h⟩ := bindE h
    refine X.getf (pc' := 63) dX11_keeps_60 rfl fq_X11_16 (gP_spec e2) ?_
    refine X.sipush (v := 150) (pc' := 66) dX11_keeps_63 rfl (by decide) ?_
    refine X.aload_n (x := a0) (pc' := 67) dX11_keeps_66 rfl rfl rfl ?_
    obtain ⟨v3, e4, h⟩ := bindE h
    refine X.getf (pc' := 70) dX11_keeps_67 rfl fq_X11_63 (gI_spec e4) ?_
    refine X.imul (pc' := 71) dX11_keeps_70 rfl ?_
    refine X.iload_n (x := a1) (pc' := 72) dX11_keeps_71 rfl rfl rfl ?_
    refine X.iadd (pc' := 73) dX11_keeps_72 rfl ?_
    refine X.aload_n (x := a0) (pc' := 74) dX11_keeps_73 rfl rfl rfl ?_
    obtain ⟨r5, e6, h⟩ := bindE h
    refine X.getf (pc' := 77) dX11_keeps_74 rfl fq_X11_7 (gP_spec e6) ?_
    refine X.iload_n (x := a1) (pc' := 78) dX11_keeps_77 rfl rfl rfl ?_
    obtain ⟨v8, e7, h⟩ := bindE h
    refine X.iald (pc' := 79) dX11_keeps_78 rfl e7 ?_
    obtain ⟨M10, e9, h⟩ := bindE h
    refine X.iast (pc' := 80) dX11_keeps_79 rfl e9 ?_
    refine X.iinc (v := (a1 + 1)) (L' := [some (.ref a0), some (.int (a1 + 1))]) (pc' := 83) dX11_keeps_80 rfl rfl (congrArg (fun y => a1 + y) (show Int32.ofInt 1 = 1 by decide)) (Nat.le_of_ble_eq_true rfl) rfl ?_
    refine X.goto (pc' := 52) dX11_keeps_83 (by decide) ?_
    exact hk52 _ _ _ h
def f_X11_keeps_52 (fu : Nat) (k86 : Nat → List Ob → Option (Unit × List Ob)) : Nat → Nat → Int32 → List Ob → Option (Unit × List Ob)
  | 0, _, _, _ => none
  | n + 1, a0, a1, M => f_X11_keeps_52b fu a0 a1 M (fun a0 a1 M => f_X11_keeps_52 fu k86 n a0 a1 M) k86
theorem ok_X11_keeps_52 {G : GT} {fu : Nat} {out : Unit × List Ob} {k86 : Nat → List Ob → Option (Unit × List Ob)} (hk86 : ∀ (a0 : Nat) (M : List Ob), k86 a0 M = some out → X G t_X11_keeps [] 86 [some (.ref a0), none] [] M 0 0 (oU out)) : ∀ (n : Nat) (a0 : Nat) (a1 : Int32) (M : List Ob), f_X11_keeps_52 fu k86 n a0 a1 M = some out → X G t_X11_keeps [] 52 [some (.ref a0), some (.int a1)] [] M 0 0 (oU out) := by
  intro n
  induction n with
  | zero =>
    intro a0 a1 M h
    unfold f_X11_keeps_52 at h
    cases h
  | succ n ih =>
    intro a0 a1 M h
    unfold f_X11_keeps_52 at h
    exact ok_X11_keeps_52b ih hk86 h
def f_X11_keeps_86 (fu : Nat) (a0 : Nat) (M : List Ob) : Option (Unit × List Ob) :=
  (gI M a0 11 3).bind fun v1 =>
  (pF M a0 11 3 (.int (v1 + 1))).bind fun M3 =>
  some ((), M3)
set_option maxHeartbeats 4000000 in
theorem ok_X11_keeps_86 {G : GT} {fu : Nat} {out : Unit × List Ob} {a0 : Nat} {M : List Ob} (h : f_X11_keeps_86 fu a0 M = some out) : X G t_X11_keeps [] 86 [some (.ref a0), none] [] M 0 0 (oU out) := by
  unfold f_X11_keeps_86 at h
  refine X.aload_n (x := a0) (pc' := 87) dX11_keeps_86 rfl rfl rfl ?_
  refine X.dup (pc' := 88) dX11_keeps_87 rfl rfl ?_
  obtain ⟨v1, e2, h⟩ := bindE h
  refine X.getf (pc' := 91) dX11_keeps_88 rfl fq_X11_63 (gI_spec e2) ?_
  refine X.iconst (v := 1) (pc' := 92) dX11_keeps_91 rfl (by decide) ?_
  refine X.iadd (pc' := 93) dX11_keeps_92 rfl ?_
  obtain ⟨M3, e4, h⟩ := bindE h
  refine X.putf (pc' := 96) dX11_keeps_93 rfl fq_X11_63 rfl rfl e4 ?_
  cases h
  exact X.vret dX11_keeps_96 rfl (Nat.le_of_ble_eq_true rfl) (Nat.le_of_ble_eq_true rfl) rfl
def f_X11_keeps_50 (fu : Nat) (a0 : Nat) (M : List Ob) : Option (Unit × List Ob) :=
  f_X11_keeps_52 fu (fun x1 M2 => f_X11_keeps_86 fu x1 M2) fu a0 0 M
set_option maxHeartbeats 4000000 in
theorem ok_X11_keeps_50 {G : GT} {fu : Nat} {out : Unit × List Ob} {a0 : Nat} {M : List Ob} (h : f_X11_keeps_50 fu a0 M = some out) : X G t_X11_keeps [] 50 [some (.ref a0), none] [] M 0 0 (oU out) := by
  unfold f_X11_keeps_50 at h
  refine X.iconst (v := 0) (pc' := 51) dX11_keeps_50 rfl (by decide) ?_
  refine X.istore_n (L' := [some (.ref a0), some (.int 0)]) (pc' := 52) dX11_keeps_51 rfl rfl (Nat.le_of_ble_eq_true rfl) rfl ?_
  refine ok_X11_keeps_52 ?_ fu _ _ _ h
  · intro x1 M2 h
    exact ok_X11_keeps_86 h
def f_X11_keeps_11b (fu : Nat) (a0 : Nat) (a1 : Int32) (M : List Ob) (k11 : Nat → Int32 → List Ob → Option (Unit × List Ob)) (k40 : Nat → List Ob → Option (Unit × List Ob)) : Option (Unit × List Ob) :=
  if 1050 ≤ a1 then (k40 a0 M)
  else ((gP M a0 11 2).bind fun r1 =>
  (gP M a0 11 2).bind fun r3 =>
  (aI M r3 13 (a1 + 150)).bind fun v6 =>
  (aSet M r1 13 a1 (.int v6)).bind fun M8 =>
  k11 a0 (a1 + 1) M8)
set_option maxHeartbeats 4000000 in
theorem ok_X11_keeps_11b {G : GT} {fu : Nat} {out : Unit × List Ob} {a0 : Nat} {a1 : Int32} {M : List Ob} {k11 : Nat → Int32 → List Ob → Option (Unit × List Ob)} {k40 : Nat → List Ob → Option (Unit × List Ob)} (hk11 : ∀ (a0 : Nat) (a1 : Int32) (M : List Ob), k11 a0 a1 M = some out → X G t_X11_keeps [] 11 [some (.ref a0), some (.int a1)] [] M 0 0 (oU out)) (hk40 : ∀ (a0 : Nat) (M : List Ob), k40 a0 M = some out → X G t_X11_keeps [] 40 [some (.ref a0), none] [] M 0 0 (oU out)) (h : f_X11_keeps_11b fu a0 a1 M k11 k40 = some out) : X G t_X11_keeps [] 11 [some (.ref a0), some (.int a1)] [] M 0 0 (oU out) := by
  unfold f_X11_keeps_11b at h
  refine X.iload_n (x := a1) (pc' := 12) dX11_keeps_11 rfl rfl rfl ?_
  refine X.sipush (v := 1050) (pc' := 15) dX11_keeps_12 rfl (by decide) ?_
  refine X.icmp_ge (tgt := 40) (pc' := 18) dX11_keeps_15 (by decide) rfl (fun hc => ?_) (fun hc => ?_)
  · rw [if_pos hc] at h
    refine X.sub (L := [some (.ref a0), none]) ?_ (⟨rfl, trivial⟩)
    exact hk40 _ _ h
  · rw [if_neg hc] at h
    refine X.aload_n (x := a0) (pc' := 19) dX11_keeps_18 rfl rfl rfl ?_
    obtain ⟨r1, e2, h⟩ := bindE h
    refine X.getf (pc' := 22) dX11_keeps_19 rfl fq_X11_16 (gP_spec e2) ?_
    refine X.iload_n (x := a1) (pc' := 23) dX11_keeps_22 rfl rfl rfl ?_
    refine X.aload_n (x := a0) (pc' := 24) dX11_keeps_23 rfl rfl rfl ?_
    obtain ⟨r3, e4, h⟩ := bindE h
    refine X.getf (pc' := 27) dX11_keeps_24 rfl fq_X11_16 (gP_spec e4) ?_
    refine X.iload_n (x := a1) (pc' := 28) dX11_keeps_27 rfl rfl rfl ?_
    refine X.sipush (v := 150) (pc' := 31) dX11_keeps_28 rfl (by decide) ?_
    refine X.iadd (pc' := 32) dX11_keeps_31 rfl ?_
    obtain ⟨v6, e5, h⟩ := bindE h
    refine X.iald (pc' := 33) dX11_keeps_32 rfl e5 ?_
    obtain ⟨M8, e7, h⟩ := bindE h
    refine X.iast (pc' := 34) dX11_keeps_33 rfl e7 ?_
    refine X.iinc (v := (a1 + 1)) (L' := [some (.ref a0), some (.int (a1 + 1))]) (pc' := 37) dX11_keeps_34 rfl rfl (congrArg (fun y => a1 + y) (show Int32.ofInt 1 = 1 by decide)) (Nat.le_of_ble_eq_true rfl) rfl ?_
    refine X.goto (pc' := 11) dX11_keeps_37 (by decide) ?_
    exact hk11 _ _ _ h
def f_X11_keeps_11 (fu : Nat) (k40 : Nat → List Ob → Option (Unit × List Ob)) : Nat → Nat → Int32 → List Ob → Option (Unit × List Ob)
  | 0, _, _, _ => none
  | n + 1, a0, a1, M => f_X11_keeps_11b fu a0 a1 M (fun a0 a1 M => f_X11_keeps_11 fu k40 n a0 a1 M) k40
theorem ok_X11_keeps_11 {G : GT} {fu : Nat} {out : Unit × List Ob} {k40 : Nat → List Ob → Option (Unit × List Ob)} (hk40 : ∀ (a0 : Nat) (M : List Ob), k40 a0 M = some out → X G t_X11_keeps [] 40 [some (.ref a0), none] [] M 0 0 (oU out)) : ∀ (n : Nat) (a0 : Nat) (a1 : Int32) (M : List Ob), f_X11_keeps_11 fu k40 n a0 a1 M = some out → X G t_X11_keeps [] 11 [some (.ref a0), some (.int a1)] [] M 0 0 (oU out) := by
  intro n
  induction n with
  | zero =>
    intro a0 a1 M h
    unfold f_X11_keeps_11 at h
    cases h
  | succ n ih =>
    intro a0 a1 M h
    unfold f_X11_keeps_11 at h
    exact ok_X11_keeps_11b ih hk40 h
def f_X11_keeps_40 (fu : Nat) (a0 : Nat) (M : List Ob) : Option (Unit × List Ob) :=
  (gI M a0 11 3).bind fun v1 =>
  (pF M a0 11 3 (.int (v1 - 1))).bind fun M3 =>
  f_X11_keeps_50 fu a0 M3
set_option maxHeartbeats 4000000 in
theorem ok_X11_keeps_40 {G : GT} {fu : Nat} {out : Unit × List Ob} {a0 : Nat} {M : List Ob} (h : f_X11_keeps_40 fu a0 M = some out) : X G t_X11_keeps [] 40 [some (.ref a0), none] [] M 0 0 (oU out) := by
  unfold f_X11_keeps_40 at h
  refine X.aload_n (x := a0) (pc' := 41) dX11_keeps_40 rfl rfl rfl ?_
  refine X.dup (pc' := 42) dX11_keeps_41 rfl rfl ?_
  obtain ⟨v1, e2, h⟩ := bindE h
  refine X.getf (pc' := 45) dX11_keeps_42 rfl fq_X11_63 (gI_spec e2) ?_
  refine X.iconst (v := 1) (pc' := 46) dX11_keeps_45 rfl (by decide) ?_
  refine X.isub (pc' := 47) dX11_keeps_46 rfl ?_
  obtain ⟨M3, e4, h⟩ := bindE h
  refine X.putf (pc' := 50) dX11_keeps_47 rfl fq_X11_63 rfl rfl e4 ?_
  exact ok_X11_keeps_50 h
def f_X11_keeps (fu : Nat) (a0 : Nat) (M : List Ob) : Option (Unit × List Ob) :=
  (gI M a0 11 3).bind fun v1 =>
  if v1 = 8 then (f_X11_keeps_11 fu (fun x3 M4 => f_X11_keeps_40 fu x3 M4) fu a0 0 M)
  else (f_X11_keeps_50 fu a0 M)
set_option maxHeartbeats 4000000 in
theorem ok_X11_keeps {G : GT} {fu : Nat} {a0 : Nat} {M : List Ob} {out : Unit × List Ob} (h : f_X11_keeps fu a0 M = some out) : Sp G t_X11_keeps [.ref a0] M (oU out) := by
  refine Sp.of rfl (by decide +kernel) (cat_all rfl) (Nat.le_of_ble_eq_true rfl) ?_
  show X G t_X11_keeps [] 0 [some (.ref a0), none] [] M 0 0 (oU out)
  unfold f_X11_keeps at h
  refine X.aload_n (x := a0) (pc' := 1) dX11_keeps_0 rfl rfl rfl ?_
  obtain ⟨v1, e2, h⟩ := bindE h
  refine X.getf (pc' := 4) dX11_keeps_1 rfl fq_X11_63 (gI_spec e2) ?_
  refine X.bipush (v := 8) (pc' := 6) dX11_keeps_4 rfl (by decide) ?_
  refine X.icmp_ne (tgt := 50) (pc' := 9) dX11_keeps_6 (by decide) rfl (fun hc => ?_) (fun hc => ?_)
  · rw [if_neg hc] at h
    exact ok_X11_keeps_50 h
  · rw [if_pos hc] at h
    refine X.iconst (v := 0) (pc' := 10) dX11_keeps_9 rfl (by decide) ?_
    refine X.istore_n (L' := [some (.ref a0), some (.int 0)]) (pc' := 11) dX11_keeps_10 rfl rfl (Nat.le_of_ble_eq_true rfl) rfl ?_
    refine ok_X11_keeps_11 ?_ fu _ _ _ h
    · intro x3 M4 h
      exact ok_X11_keeps_40 h
def f_X11_undo_13 (fu : Nat) (a0 : Nat) (b0 : Nat) (b1 : Int32) (M : List Ob) : Option (Int32 × List Ob) :=
  (pF M b0 11 4 (.int b1)).bind fun M1 =>
  (gI M1 a0 11 4).bind fun v3 =>
  if v3 ≤ 0 then ((gI M1 a0 11 3).bind fun v5 =>
  (pF M1 a0 11 3 (.int (v5 - 1))).bind fun M7 =>
  (gP M7 a0 11 2).bind fun r9 =>
  (gI M7 a0 11 3).bind fun v11 =>
  (hasO M7 a0 11).bind fun _ =>
  bd2 (f_X11_becomes fu a0 r9 (150 * v11) M7) fun _ M14 =>
  (gI M14 a0 11 3).bind fun v17 =>
  some (v17, M14))
  else (some (0, M1))
set_option maxHeartbeats 4000000 in
theorem ok_X11_undo_13 {G : GT} {fu : Nat} {out : Int32 × List Ob} {a0 : Nat} {b0 : Nat} {b1 : Int32} {M : List Ob} (h : f_X11_undo_13 fu a0 b0 b1 M = some out) : X G t_X11_undo [] 13 [some (.ref a0)] [.int b1, .ref b0] M 0 0 (oI out) := by
  unfold f_X11_undo_13 at h
  obtain ⟨M1, e2, h⟩ := bindE h
  refine X.putf (pc' := 16) dX11_undo_13 rfl fq_X11_56 rfl rfl e2 ?_
  refine X.aload_n (x := a0) (pc' := 17) dX11_undo_16 rfl rfl rfl ?_
  obtain ⟨v3, e4, h⟩ := bindE h
  refine X.getf (pc' := 20) dX11_undo_17 rfl fq_X11_56 (gI_spec e4) ?_
  refine X.if_le (tgt := 25) (pc' := 23) dX11_undo_20 (by decide) rfl (fun hc => ?_) (fun hc => ?_)
  · rw [if_pos hc] at h
    refine X.aload_n (x := a0) (pc' := 26) dX11_undo_25 rfl rfl rfl ?_
    refine X.dup (pc' := 27) dX11_undo_26 rfl rfl ?_
    obtain ⟨v5, e6, h⟩ := bindE h
    refine X.getf (pc' := 30) dX11_undo_27 rfl fq_X11_63 (gI_spec e6) ?_
    refine X.iconst (v := 1) (pc' := 31) dX11_undo_30 rfl (by decide) ?_
    refine X.isub (pc' := 32) dX11_undo_31 rfl ?_
    obtain ⟨M7, e8, h⟩ := bindE h
    refine X.putf (pc' := 35) dX11_undo_32 rfl fq_X11_63 rfl rfl e8 ?_
    refine X.aload_n (x := a0) (pc' := 36) dX11_undo_35 rfl rfl rfl ?_
    refine X.aload_n (x := a0) (pc' := 37) dX11_undo_36 rfl rfl rfl ?_
    obtain ⟨r9, e10, h⟩ := bindE h
    refine X.getf (pc' := 40) dX11_undo_37 rfl fq_X11_16 (gP_spec e10) ?_
    refine X.sipush (v := 150) (pc' := 43) dX11_undo_40 rfl (by decide) ?_
    refine X.aload_n (x := a0) (pc' := 44) dX11_undo_43 rfl rfl rfl ?_
    obtain ⟨v11, e12, h⟩ := bindE h
    refine X.getf (pc' := 47) dX11_undo_44 rfl fq_X11_63 (gI_spec e12) ?_
    refine X.imul (pc' := 48) dX11_undo_47 rfl ?_
    obtain ⟨⟨⟩, e16, h⟩ := bindE h
    obtain ⟨r13, M14, e15, h⟩ := bd2E h
    refine X.callV (b := a0) (v := none) (As := [.ref r9, .int (150 * v11)]) (st := []) (M' := M14) (pc' := 51) dX11_undo_48 rfl cl_X11_48 mi_X11_becomes me_X11_becomes mr_X11_becomes e16 ⟨⟨Nat.le_of_ble_eq_true rfl, Nat.le_of_ble_eq_true rfl⟩, Nat.le_of_ble_eq_true rfl, Nat.le_of_ble_eq_true rfl⟩ rfl (Nat.le_of_ble_eq_true rfl) (ok_X11_becomes (G := zs G) e15) ?_
    show X G t_X11_undo [] 51 [some (.ref a0)] [] M14 0 0 _
    refine X.aload_n (x := a0) (pc' := 52) dX11_undo_51 rfl rfl rfl ?_
    obtain ⟨v17, e18, h⟩ := bindE h
    refine X.getf (pc' := 55) dX11_undo_52 rfl fq_X11_63 (gI_spec e18) ?_
    cases h
    exact X.iret (ty := .int) dX11_undo_55 rfl rfl (Nat.le_of_ble_eq_true rfl) (Nat.le_of_ble_eq_true rfl) rfl
  · rw [if_neg hc] at h
    refine X.iconst (v := 0) (pc' := 24) dX11_undo_23 rfl (by decide) ?_
    cases h
    exact X.iret (ty := .int) dX11_undo_24 rfl rfl (Nat.le_of_ble_eq_true rfl) (Nat.le_of_ble_eq_true rfl) rfl
def f_X11_undo (fu : Nat) (a0 : Nat) (M : List Ob) : Option (Int32 × List Ob) :=
  (gI M a0 11 3).bind fun v1 =>
  if v1 = 0 then (f_X11_undo_13 fu a0 a0 1 M)
  else (f_X11_undo_13 fu a0 a0 0 M)
set_option maxHeartbeats 4000000 in
theorem ok_X11_undo {G : GT} {fu : Nat} {a0 : Nat} {M : List Ob} {out : Int32 × List Ob} (h : f_X11_undo fu a0 M = some out) : Sp G t_X11_undo [.ref a0] M (oI out) := by
  refine Sp.of rfl (by decide +kernel) (cat_all rfl) (Nat.le_of_ble_eq_true rfl) ?_
  show X G t_X11_undo [] 0 [some (.ref a0)] [] M 0 0 (oI out)
  unfold f_X11_undo at h
  refine X.aload_n (x := a0) (pc' := 1) dX11_undo_0 rfl rfl rfl ?_
  refine X.aload_n (x := a0) (pc' := 2) dX11_undo_1 rfl rfl rfl ?_
  obtain ⟨v1, e2, h⟩ := bindE h
  refine X.getf (pc' := 5) dX11_undo_2 rfl fq_X11_63 (gI_spec e2) ?_
  refine X.if_ne (tgt := 12) (pc' := 8) dX11_undo_5 (by decide) rfl (fun hc => ?_) (fun hc => ?_)
  · rw [if_neg hc] at h
    refine X.iconst (v := 0) (pc' := 13) dX11_undo_12 rfl (by decide) ?_
    exact ok_X11_undo_13 h
  · rw [if_pos hc] at h
    refine X.iconst (v := 1) (pc' := 9) dX11_undo_8 rfl (by decide) ?_
    refine X.goto (pc' := 13) dX11_undo_9 (by decide) ?_
    exact ok_X11_undo_13 h
def f_X11_append_87 (fu : Nat) (a0 : Nat) (a1 : Int32) (a2 : Int32) (a3 : Int32) (a4 : Int32) (a5 : Int32) (a6 : Int32) (b0 : Int32) (M : List Ob) (k34 : Nat → Int32 → Int32 → Int32 → Int32 → Int32 → Int32 → List Ob → Option (Int32 × List Ob)) (k131 : Nat → List Ob → Option (Int32 × List Ob)) : Option (Int32 × List Ob) :=
  (gP M a0 11 5).bind fun r1 =>
  (gI M a0 11 6).bind fun v3 =>
  (aSet M r1 13 v3 (.int ((b0 >>> ((24 - (8 * (a6 - a6 / 4 * 4))) &&& 31)) &&& 255))).bind fun M6 =>
  (gI M6 a0 11 6).bind fun v7 =>
  (pF M6 a0 11 6 (.int (v7 + 1))).bind fun M9 =>
  k34 a0 a1 a2 a3 a4 a5 (a6 + 1) M9
set_option maxHeartbeats 4000000 in
theorem ok_X11_append_87 {G : GT} {fu : Nat} {out : Int32 × List Ob} {a0 : Nat} {a1 : Int32} {a2 : Int32} {a3 : Int32} {a4 : Int32} {a5 : Int32} {a6 : Int32} {b0 : Int32} {M : List Ob} {k34 : Nat → Int32 → Int32 → Int32 → Int32 → Int32 → Int32 → List Ob → Option (Int32 × List Ob)} {k131 : Nat → List Ob → Option (Int32 × List Ob)} (hk34 : ∀ (a0 : Nat) (a1 : Int32) (a2 : Int32) (a3 : Int32) (a4 : Int32) (a5 : Int32) (a6 : Int32) (M : List Ob), k34 a0 a1 a2 a3 a4 a5 a6 M = some out → X G t_X11_append [] 34 [some (.ref a0), some (.int a1), some (.int a2), some (.int a3), some (.int a4), some (.int a5), some (.int a6), none] [] M 0 0 (oI out)) (hk131 : ∀ (a0 : Nat) (M : List Ob), k131 a0 M = some out → X G t_X11_append [] 131 [some (.ref a0), none, none, none, none, none, none, none] [] M 0 0 (oI out)) (h : f_X11_append_87 fu a0 a1 a2 a3 a4 a5 a6 b0 M k34 k131 = some out) : X G t_X11_append [] 87 [some (.ref a0), some (.int a1), some (.int a2), some (.int a3), some (.int a4), some (.int a5), some (.int a6), none] [.int b0] M 0 0 (oI out) := by
  unfold f_X11_append_87 at h
  refine X.istore (L' := [some (.ref a0), some (.int a1), some (.int a2), some (.int a3), some (.int a4), some (.int a5), some (.int a6), some (.int b0)]) (pc' := 89) dX11_append_87 rfl (Nat.le_of_ble_eq_true rfl) rfl ?_
  refine X.aload_n (x := a0) (pc' := 90) dX11_append_89 rfl rfl rfl ?_
  obtain ⟨r1, e2, h⟩ := bindE h
  refine X.getf (pc' := 93) dX11_append_90 rfl fq_X11_19 (gP_spec e2) ?_
  refine X.aload_n (x := a0) (pc' := 94) dX11_append_93 rfl rfl rfl ?_
  obtain ⟨v3, e4, h⟩ := bindE h
  refine X.getf (pc' := 97) dX11_append_94 rfl fq_X11_66 (gI_spec e4) ?_
  refine X.iload (x := b0) (pc' := 99) dX11_append_97 rfl rfl ?_
  refine X.bipush (v := 24) (pc' := 101) dX11_append_99 rfl (by decide) ?_
  refine X.bipush (v := 8) (pc' := 103) dX11_append_101 rfl (by decide) ?_
  refine X.iload (x := a6) (pc' := 105) dX11_append_103 rfl rfl ?_
  refine X.iconst (v := 4) (pc' := 106) dX11_append_105 rfl (by decide) ?_
  refine X.irem (pc' := 107) dX11_append_106 rfl (by decide) ?_
  refine X.imul (pc' := 108) dX11_append_107 rfl ?_
  refine X.isub (pc' := 109) dX11_append_108 rfl ?_
  refine X.ishr (pc' := 110) dX11_append_109 rfl ?_
  refine X.sipush (v := 255) (pc' := 113) dX11_append_110 rfl (by decide) ?_
  refine X.iand (pc' := 114) dX11_append_113 rfl ?_
  obtain ⟨M6, e5, h⟩ := bindE h
  refine X.iast (pc' := 115) dX11_append_114 rfl e5 ?_
  refine X.aload_n (x := a0) (pc' := 116) dX11_append_115 rfl rfl rfl ?_
  refine X.dup (pc' := 117) dX11_append_116 rfl rfl ?_
  obtain ⟨v7, e8, h⟩ := bindE h
  refine X.getf (pc' := 120) dX11_append_117 rfl fq_X11_66 (gI_spec e8) ?_
  refine X.iconst (v := 1) (pc' := 121) dX11_append_120 rfl (by decide) ?_
  refine X.iadd (pc' := 122) dX11_append_121 rfl ?_
  obtain ⟨M9, e10, h⟩ := bindE h
  refine X.putf (pc' := 125) dX11_append_122 rfl fq_X11_66 rfl rfl e10 ?_
  refine X.iinc (v := (a6 + 1)) (L' := [some (.ref a0), some (.int a1), some (.int a2), some (.int a3), some (.int a4), some (.int a5), some (.int (a6 + 1)), some (.int b0)]) (pc' := 128) dX11_append_125 rfl rfl (congrArg (fun y => a6 + y) (show Int32.ofInt 1 = 1 by decide)) (Nat.le_of_ble_eq_true rfl) rfl ?_
  refine X.goto (pc' := 34) dX11_append_128 (by decide) ?_
  refine X.sub (L := [some (.ref a0), some (.int a1), some (.int a2), some (.int a3), some (.int a4), some (.int a5), some (.int (a6 + 1)), none]) ?_ (⟨rfl, ⟨rfl, ⟨rfl, ⟨rfl, ⟨rfl, ⟨rfl, ⟨rfl, trivial⟩⟩⟩⟩⟩⟩⟩)
  exact hk34 _ _ _ _ _ _ _ _ h
def f_X11_append_34b (fu : Nat) (a0 : Nat) (a1 : Int32) (a2 : Int32) (a3 : Int32) (a4 : Int32) (a5 : Int32) (a6 : Int32) (M : List Ob) (k34 : Nat → Int32 → Int32 → Int32 → Int32 → Int32 → Int32 → List Ob → Option (Int32 × List Ob)) (k131 : Nat → List Ob → Option (Int32 × List Ob)) : Option (Int32 × List Ob) :=
  if 20 ≤ a6 then (k131 a0 M)
  else (if 4 ≤ a6 then (if 8 ≤ a6 then (if 12 ≤ a6 then (if 16 ≤ a6 then (f_X11_append_87 fu a0 a1 a2 a3 a4 a5 a6 a5 M k34 k131)
  else (f_X11_append_87 fu a0 a1 a2 a3 a4 a5 a6 a4 M k34 k131))
  else (f_X11_append_87 fu a0 a1 a2 a3 a4 a5 a6 a3 M k34 k131))
  else (f_X11_append_87 fu a0 a1 a2 a3 a4 a5 a6 a2 M k34 k131))
  else (f_X11_append_87 fu a0 a1 a2 a3 a4 a5 a6 a1 M k34 k131))
set_option maxHeartbeats 4000000 in
theorem ok_X11_append_34b {G : GT} {fu : Nat} {out : Int32 × List Ob} {a0 : Nat} {a1 : Int32} {a2 : Int32} {a3 : Int32} {a4 : Int32} {a5 : Int32} {a6 : Int32} {M : List Ob} {k34 : Nat → Int32 → Int32 → Int32 → Int32 → Int32 → Int32 → List Ob → Option (Int32 × List Ob)} {k131 : Nat → List Ob → Option (Int32 × List Ob)} (hk34 : ∀ (a0 : Nat) (a1 : Int32) (a2 : Int32) (a3 : Int32) (a4 : Int32) (a5 : Int32) (a6 : Int32) (M : List Ob), k34 a0 a1 a2 a3 a4 a5 a6 M = some out → X G t_X11_append [] 34 [some (.ref a0), some (.int a1), some (.int a2), some (.int a3), some (.int a4), some (.int a5), some (.int a6), none] [] M 0 0 (oI out)) (hk131 : ∀ (a0 : Nat) (M : List Ob), k131 a0 M = some out → X G t_X11_append [] 131 [some (.ref a0), none, none, none, none, none, none, none] [] M 0 0 (oI out)) (h : f_X11_append_34b fu a0 a1 a2 a3 a4 a5 a6 M k34 k131 = some out) : X G t_X11_append [] 34 [some (.ref a0), some (.int a1), some (.int a2), some (.int a3), some (.int a4), some (.int a5), some (.int a6), none] [] M 0 0 (oI out) := by
  unfold f_X11_append_34b at h
  refine X.iload (x := a6) (pc' := 36) dX11_append_34 rfl rfl ?_
  refine X.bipush (v := 20) (pc' := 38) dX11_append_36 rfl (by decide) ?_
  refine X.icmp_ge (tgt := 131) (pc' := 41) dX11_append_38 (by decide) rfl (fun hc => ?_) (fun hc => ?_)
  · rw [if_pos hc] at h
    refine X.sub (L := [some (.ref a0), none, none, none, none, none, none, none]) ?_ (⟨rfl, trivial⟩)
    exact hk131 _ _ h
  · rw [if_neg hc] at h
    refine X.iload (x := a6) (pc' := 43) dX11_append_41 rfl rfl ?_
    refine X.iconst (v := 4) (pc' := 44) dX11_append_43 rfl (by decide) ?_
    refine X.icmp_ge (tgt := 51) (pc' := 47) dX11_append_44 (by decide) rfl (fun hc => ?_) (fun hc => ?_)
    · rw [if_pos hc] at h
      refine X.iload (x := a6) (pc' := 53) dX11_append_51 rfl rfl ?_
      refine X.bipush (v := 8) (pc' := 55) dX11_append_53 rfl (by decide) ?_
      refine X.icmp_ge (tgt := 62) (pc' := 58) dX11_append_55 (by decide) rfl (fun hc => ?_) (fun hc => ?_)
      · rw [if_pos hc] at h
        refine X.iload (x := a6) (pc' := 64) dX11_append_62 rfl rfl ?_
        refine X.bipush (v := 12) (pc' := 66) dX11_append_64 rfl (by decide) ?_
        refine X.icmp_ge (tgt := 73) (pc' := 69) dX11_append_66 (by decide) rfl (fun hc => ?_) (fun hc => ?_)
        · rw [if_pos hc] at h
          refine X.iload (x := a6) (pc' := 75) dX11_append_73 rfl rfl ?_
          refine X.bipush (v := 16) (pc' := 77) dX11_append_75 rfl (by decide) ?_
          refine X.icmp_ge (tgt := 85) (pc' := 80) dX11_append_77 (by decide) rfl (fun hc => ?_) (fun hc => ?_)
          · rw [if_pos hc] at h
            refine X.iload (x := a5) (pc' := 87) dX11_append_85 rfl rfl ?_
            exact ok_X11_append_87 hk34 hk131 h
          · rw [if_neg hc] at h
            refine X.iload (x := a4) (pc' := 82) dX11_append_80 rfl rfl ?_
            refine X.goto (pc' := 87) dX11_append_82 (by decide) ?_
            exact ok_X11_append_87 hk34 hk131 h
        · rw [if_neg hc] at h
          refine X.iload_n (x := a3) (pc' := 70) dX11_append_69 rfl rfl rfl ?_
          refine X.goto (pc' := 87) dX11_append_70 (by decide) ?_
          exact ok_X11_append_87 hk34 hk131 h
      · rw [if_neg hc] at h
        refine X.iload_n (x := a2) (pc' := 59) dX11_append_58 rfl rfl rfl ?_
        refine X.goto (pc' := 87) dX11_append_59 (by decide) ?_
        exact ok_X11_append_87 hk34 hk131 h
    · rw [if_neg hc] at h
      refine X.iload_n (x := a1) (pc' := 48) dX11_append_47 rfl rfl rfl ?_
      refine X.goto (pc' := 87) dX11_append_48 (by decide) ?_
      exact ok_X11_append_87 hk34 hk131 h
def f_X11_append_34 (fu : Nat) (k131 : Nat → List Ob → Option (Int32 × List Ob)) : Nat → Nat → Int32 → Int32 → Int32 → Int32 → Int32 → Int32 → List Ob → Option (Int32 × List Ob)
  | 0, _, _, _, _, _, _, _, _ => none
  | n + 1, a0, a1, a2, a3, a4, a5, a6, M => f_X11_append_34b fu a0 a1 a2 a3 a4 a5 a6 M (fun a0 a1 a2 a3 a4 a5 a6 M => f_X11_append_34 fu k131 n a0 a1 a2 a3 a4 a5 a6 M) k131
theorem ok_X11_append_34 {G : GT} {fu : Nat} {out : Int32 × List Ob} {k131 : Nat → List Ob → Option (Int32 × List Ob)} (hk131 : ∀ (a0 : Nat) (M : List Ob), k131 a0 M = some out → X G t_X11_append [] 131 [some (.ref a0), none, none, none, none, none, none, none] [] M 0 0 (oI out)) : ∀ (n : Nat) (a0 : Nat) (a1 : Int32) (a2 : Int32) (a3 : Int32) (a4 : Int32) (a5 : Int32) (a6 : Int32) (M : List Ob), f_X11_append_34 fu k131 n a0 a1 a2 a3 a4 a5 a6 M = some out → X G t_X11_append [] 34 [some (.ref a0), some (.int a1), some (.int a2), some (.int a3), some (.int a4), some (.int a5), some (.int a6), none] [] M 0 0 (oI out) := by
  intro n
  induction n with
  | zero =>
    intro a0 a1 a2 a3 a4 a5 a6 M h
    unfold f_X11_append_34 at h
    cases h
  | succ n ih =>
    intro a0 a1 a2 a3 a4 a5 a6 M h
    unfold f_X11_append_34 at h
    exact ok_X11_append_34b ih hk131 h
def f_X11_append_131 (fu : Nat) (a0 : Nat) (M : List Ob) : Option (Int32 × List Ob) :=
  (gI M a0 11 6).bind fun v1 =>
  some (v1, M)
set_option maxHeartbeats 4000000 in
theorem ok_X11_append_131 {G : GT} {fu : Nat} {out : Int32 × List Ob} {a0 : Nat} {M : List Ob} (h : f_X11_append_131 fu a0 M = some out) : X G t_X11_append [] 131 [some (.ref a0), none, none, none, none, none, none, none] [] M 0 0 (oI out) := by
  unfold f_X11_append_131 at h
  refine X.aload_n (x := a0) (pc' := 132) dX11_append_131 rfl rfl rfl ?_
  obtain ⟨v1, e2, h⟩ := bindE h
  refine X.getf (pc' := 135) dX11_append_132 rfl fq_X11_66 (gI_spec e2) ?_
  cases h
  exact X.iret (ty := .int) dX11_append_135 rfl rfl (Nat.le_of_ble_eq_true rfl) (Nat.le_of_ble_eq_true rfl) rfl
def f_X11_append_19 (fu : Nat) (a0 : Nat) (a1 : Int32) (a2 : Int32) (a3 : Int32) (a4 : Int32) (a5 : Int32) (b0 : Nat) (b1 : Int32) (M : List Ob) : Option (Int32 × List Ob) :=
  (pF M b0 11 4 (.int b1)).bind fun M1 =>
  (gI M1 a0 11 4).bind fun v3 =>
  if v3 ≤ 0 then (f_X11_append_34 fu (fun x5 M6 => f_X11_append_131 fu x5 M6) fu a0 a1 a2 a3 a4 a5 0 M1)
  else (some (0, M1))
set_option maxHeartbeats 4000000 in
theorem ok_X11_append_19 {G : GT} {fu : Nat} {out : Int32 × List Ob} {a0 : Nat} {a1 : Int32} {a2 : Int32} {a3 : Int32} {a4 : Int32} {a5 : Int32} {b0 : Nat} {b1 : Int32} {M : List Ob} (h : f_X11_append_19 fu a0 a1 a2 a3 a4 a5 b0 b1 M = some out) : X G t_X11_append [] 19 [some (.ref a0), some (.int a1), some (.int a2), some (.int a3), some (.int a4), some (.int a5), none, none] [.int b1, .ref b0] M 0 0 (oI out) := by
  unfold f_X11_append_19 at h
  obtain ⟨M1, e2, h⟩ := bindE h
  refine X.putf (pc' := 22) dX11_append_19 rfl fq_X11_56 rfl rfl e2 ?_
  refine X.aload_n (x := a0) (pc' := 23) dX11_append_22 rfl rfl rfl ?_
  obtain ⟨v3, e4, h⟩ := bindE h
  refine X.getf (pc' := 26) dX11_append_23 rfl fq_X11_56 (gI_spec e4) ?_
  refine X.if_le (tgt := 31) (pc' := 29) dX11_append_26 (by decide) rfl (fun hc => ?_) (fun hc => ?_)
  · rw [if_pos hc] at h
    refine X.iconst (v := 0) (pc' := 32) dX11_append_31 rfl (by decide) ?_
    refine X.istore (L' := [some (.ref a0), some (.int a1), some (.int a2), some (.int a3), some (.int a4), some (.int a5), some (.int 0), none]) (pc' := 34) dX11_append_32 rfl (Nat.le_of_ble_eq_true rfl) rfl ?_
    refine ok_X11_append_34 ?_ fu _ _ _ _ _ _ _ _ h
    · intro x5 M6 h
      exact ok_X11_append_131 h
  · rw [if_neg hc] at h
    refine X.iconst (v := 0) (pc' := 30) dX11_append_29 rfl (by decide) ?_
    cases h
    exact X.iret (ty := .int) dX11_append_30 rfl rfl (Nat.le_of_ble_eq_true rfl) (Nat.le_of_ble_eq_true rfl) rfl
def f_X11_append (fu : Nat) (a0 : Nat) (a1 : Int32) (a2 : Int32) (a3 : Int32) (a4 : Int32) (a5 : Int32) (M : List Ob) : Option (Int32 × List Ob) :=
  (gI M a0 11 6).bind fun v1 =>
  if (v1 + 20) ≤ 600 then (f_X11_append_19 fu a0 a1 a2 a3 a4 a5 a0 0 M)
  else (f_X11_append_19 fu a0 a1 a2 a3 a4 a5 a0 1 M)
set_option maxHeartbeats 4000000 in
theorem ok_X11_append {G : GT} {fu : Nat} {a0 : Nat} {a1 : Int32} {a2 : Int32} {a3 : Int32} {a4 : Int32} {a5 : Int32} {M : List Ob} {out : Int32 × List Ob} (h : f_X11_append fu a0 a1 a2 a3 a4 a5 M = some out) : Sp G t_X11_append [.ref a0, .int a1, .int a2, .int a3, .int a4, .int a5] M (oI out) := by
  refine Sp.of rfl (by decide +kernel) (cat_all rfl) (Nat.le_of_ble_eq_true rfl) ?_
  show X G t_X11_append [] 0 [some (.ref a0), some (.int a1), some (.int a2), some (.int a3), some (.int a4), some (.int a5), none, none] [] M 0 0 (oI out)
  unfold f_X11_append at h
  refine X.aload_n (x := a0) (pc' := 1) dX11_append_0 rfl rfl rfl ?_
  refine X.aload_n (x := a0) (pc' := 2) dX11_append_1 rfl rfl rfl ?_
  obtain ⟨v1, e2, h⟩ := bindE h
  refine X.getf (pc' := 5) dX11_append_2 rfl fq_X11_66 (gI_spec e2) ?_
  refine X.bipush (v := 20) (pc' := 7) dX11_append_5 rfl (by decide) ?_
  refine X.iadd (pc' := 8) dX11_append_7 rfl ?_
  refine X.sipush (v := 600) (pc' := 11) dX11_append_8 rfl (by decide) ?_
  refine X.icmp_le (tgt := 18) (pc' := 14) dX11_append_11 (by decide) rfl (fun hc => ?_) (fun hc => ?_)
  · rw [if_pos hc] at h
    refine X.iconst (v := 0) (pc' := 19) dX11_append_18 rfl (by decide) ?_
    exact ok_X11_append_19 h
  · rw [if_neg hc] at h
    refine X.iconst (v := 1) (pc' := 15) dX11_append_14 rfl (by decide) ?_
    refine X.goto (pc' := 19) dX11_append_15 (by decide) ?_
    exact ok_X11_append_19 h
def f_X11_see (fu : Nat) (a0 : Nat) (a1 : Int32) (M : List Ob) : Option (Int32 × List Ob) :=
  (gI M a0 11 7).bind fun v1 =>
  if v1 ≤ a1 then (some ((-1), M))
  else ((gP M a0 11 5).bind fun r3 =>
  (aI M r3 13 a1).bind fun v6 =>
  some (v6, M))
set_option maxHeartbeats 4000000 in
theorem ok_X11_see {G : GT} {fu : Nat} {a0 : Nat} {a1 : Int32} {M : List Ob} {out : Int32 × List Ob} (h : f_X11_see fu a0 a1 M = some out) : Sp G t_X11_see [.ref a0, .int a1] M (oI out) := by
  refine Sp.of rfl (by decide +kernel) (cat_all rfl) (Nat.le_of_ble_eq_true rfl) ?_
  show X G t_X11_see [] 0 [some (.ref a0), some (.int a1)] [] M 0 0 (oI out)
  unfold f_X11_see at h
  refine X.iload_n (x := a1) (pc' := 1) dX11_see_0 rfl rfl rfl ?_
  refine X.aload_n (x := a0) (pc' := 2) dX11_see_1 rfl rfl rfl ?_
  obtain ⟨v1, e2, h⟩ := bindE h
  refine X.getf (pc' := 5) dX11_see_2 rfl fq_X11_69 (gI_spec e2) ?_
  refine X.icmp_ge (tgt := 17) (pc' := 8) dX11_see_5 (by decide) rfl (fun hc => ?_) (fun hc => ?_)
  · rw [if_pos hc] at h
    refine X.iconst (v := (-1)) (pc' := 18) dX11_see_17 rfl (by decide) ?_
    cases h
    exact X.iret (ty := .int) dX11_see_18 rfl rfl (Nat.le_of_ble_eq_true rfl) (Nat.le_of_ble_eq_true rfl) rfl
  · rw [if_neg hc] at h
    refine X.aload_n (x := a0) (pc' := 9) dX11_see_8 rfl rfl rfl ?_
    obtain ⟨r3, e4, h⟩ := bindE h
    refine X.getf (pc' := 12) dX11_see_9 rfl fq_X11_19 (gP_spec e4) ?_
    refine X.iload_n (x := a1) (pc' := 13) dX11_see_12 rfl rfl rfl ?_
    obtain ⟨v6, e5, h⟩ := bindE h
    refine X.iald (pc' := 14) dX11_see_13 rfl e5 ?_
    refine X.goto (pc' := 18) dX11_see_14 (by decide) ?_
    cases h
    exact X.iret (ty := .int) dX11_see_18 rfl rfl (Nat.le_of_ble_eq_true rfl) (Nat.le_of_ble_eq_true rfl) rfl
def f_X11_isLetter (fu : Nat) (a0 : Int32) (M : List Ob) : Option (Int32 × List Ob) :=
  bd2 (f_X11_isIn fu a0 97 122 M) fun v1 M2 =>
  if v1 &&& 1 = v1 then some (v1, M2) else none
set_option maxHeartbeats 4000000 in
theorem ok_X11_isLetter {G : GT} {fu : Nat} {a0 : Int32} {M : List Ob} {out : Int32 × List Ob} (h : f_X11_isLetter fu a0 M = some out) : Sp G t_X11_isLetter [.int a0] M (oI out) := by
  refine Sp.of rfl (by decide +kernel) (cat_all rfl) (Nat.le_of_ble_eq_true rfl) ?_
  show X G t_X11_isLetter [] 0 [some (.int a0)] [] M 0 0 (oI out)
  unfold f_X11_isLetter at h
  refine X.iload_n (x := a0) (pc' := 1) dX11_isLetter_0 rfl rfl rfl ?_
  refine X.bipush (v := 97) (pc' := 3) dX11_isLetter_1 rfl (by decide) ?_
  refine X.bipush (v := 122) (pc' := 5) dX11_isLetter_3 rfl (by decide) ?_
  obtain ⟨v1, M2, e3, h⟩ := bd2E h
  refine X.callS (v := some (.int v1)) (As := [.int a0, .int 97, .int 122]) (st := []) (M' := M2) (pc' := 8) dX11_isLetter_5 rfl cl_X11_72 ms_X11_isIn ⟨⟨Nat.le_of_ble_eq_true rfl, Nat.le_of_ble_eq_true rfl⟩, Nat.le_of_ble_eq_true rfl, Nat.le_of_ble_eq_true rfl⟩ rfl (Nat.le_of_ble_eq_true rfl) (ok_X11_isIn (G := zs G) e3) ?_
  show X G t_X11_isLetter [] 8 [some (.int a0)] [.int v1] M2 0 0 _
  split at h
  rotate_left
  · cases h
  rename_i hz1
  cases h
  exact X.iret (ty := .boolean) dX11_isLetter_8 rfl (congrArg Value.int hz1) (Nat.le_of_ble_eq_true rfl) (Nat.le_of_ble_eq_true rfl) rfl
def f_X11_isDigit (fu : Nat) (a0 : Int32) (M : List Ob) : Option (Int32 × List Ob) :=
  bd2 (f_X11_isIn fu a0 48 57 M) fun v1 M2 =>
  if v1 &&& 1 = v1 then some (v1, M2) else none
set_option maxHeartbeats 4000000 in
theorem ok_X11_isDigit {G : GT} {fu : Nat} {a0 : Int32} {M : List Ob} {out : Int32 × List Ob} (h : f_X11_isDigit fu a0 M = some out) : Sp G t_X11_isDigit [.int a0] M (oI out) := by
  refine Sp.of rfl (by decide +kernel) (cat_all rfl) (Nat.le_of_ble_eq_true rfl) ?_
  show X G t_X11_isDigit [] 0 [some (.int a0)] [] M 0 0 (oI out)
  unfold f_X11_isDigit at h
  refine X.iload_n (x := a0) (pc' := 1) dX11_isDigit_0 rfl rfl rfl ?_
  refine X.bipush (v := 48) (pc' := 3) dX11_isDigit_1 rfl (by decide) ?_
  refine X.bipush (v := 57) (pc' := 5) dX11_isDigit_3 rfl (by decide) ?_
  obtain ⟨v1, M2, e3, h⟩ := bd2E h
  refine X.callS (v := some (.int v1)) (As := [.int a0, .int 48, .int 57]) (st := []) (M' := M2) (pc' := 8) dX11_isDigit_5 rfl cl_X11_72 ms_X11_isIn ⟨⟨Nat.le_of_ble_eq_true rfl, Nat.le_of_ble_eq_true rfl⟩, Nat.le_of_ble_eq_true rfl, Nat.le_of_ble_eq_true rfl⟩ rfl (Nat.le_of_ble_eq_true rfl) (ok_X11_isIn (G := zs G) e3) ?_
  show X G t_X11_isDigit [] 8 [some (.int a0)] [.int v1] M2 0 0 _
  split at h
  rotate_left
  · cases h
  rename_i hz1
  cases h
  exact X.iret (ty := .boolean) dX11_isDigit_8 rfl (congrArg Value.int hz1) (Nat.le_of_ble_eq_true rfl) (Nat.le_of_ble_eq_true rfl) rfl
def f_X11_next_8b (fu : Nat) (a0 : Nat) (M : List Ob) (k8 : Nat → List Ob → Option (Unit × List Ob)) (k34 : Nat → List Ob → Option (Unit × List Ob)) : Option (Unit × List Ob) :=
  (gI M a0 11 8).bind fun v1 =>
  (hasO M a0 11).bind fun _ =>
  bd2 (f_X11_see fu a0 v1 M) fun v3 M4 =>
  if v3 = 32 then ((gI M4 a0 11 8).bind fun v7 =>
  (pF M4 a0 11 8 (.int (v7 + 1))).bind fun M9 =>
  k8 a0 M9)
  else (k34 a0 M4)
set_option maxHeartbeats 4000000 in
theorem ok_X11_next_8b {G : GT} {fu : Nat} {out : Unit × List Ob} {a0 : Nat} {M : List Ob} {k8 : Nat → List Ob → Option (Unit × List Ob)} {k34 : Nat → List Ob → Option (Unit × List Ob)} (hk8 : ∀ (a0 : Nat) (M : List Ob), k8 a0 M = some out → X G t_X11_next [] 8 [some (.ref a0)] [] M 0 0 (oU out)) (hk34 : ∀ (a0 : Nat) (M : List Ob), k34 a0 M = some out → X G t_X11_next [] 34 [some (.ref a0)] [] M 0 0 (oU out)) (h : f_X11_next_8b fu a0 M k8 k34 = some out) : X G t_X11_next [] 8 [some (.ref a0)] [] M 0 0 (oU out) := by
  unfold f_X11_next_8b at h
  refine X.aload_n (x := a0) (pc' := 9) dX11_next_8 rfl rfl rfl ?_
  refine X.aload_n (x := a0) (pc' := 10) dX11_next_9 rfl rfl rfl ?_
  obtain ⟨v1, e2, h⟩ := bindE h
  refine X.getf (pc' := 13) dX11_next_10 rfl fq_X11_79 (gI_spec e2) ?_
  obtain ⟨⟨⟩, e6, h⟩ := bindE h
  obtain ⟨v3, M4, e5, h⟩ := bd2E h
  refine X.callV (b := a0) (v := some (.int v3)) (As := [.int v1]) (st := []) (M' := M4) (pc' := 16) dX11_next_13 rfl cl_X11_82 mi_X11_see me_X11_see mr_X11_see e6 ⟨⟨Nat.le_of_ble_eq_true rfl, Nat.le_of_ble_eq_true rfl⟩, Nat.le_of_ble_eq_true rfl, Nat.le_of_ble_eq_true rfl⟩ rfl (Nat.le_of_ble_eq_true rfl) (ok_X11_see (G := zs G) e5) ?_
  show X G t_X11_next [] 16 [some (.ref a0)] [.int v3] M4 0 0 _
  refine X.bipush (v := 32) (pc' := 18) dX11_next_16 rfl (by decide) ?_
  refine X.icmp_ne (tgt := 34) (pc' := 21) dX11_next_18 (by decide) rfl (fun hc => ?_) (fun hc => ?_)
  · rw [if_neg hc] at h
    exact hk34 _ _ h
  · rw [if_pos hc] at h
    refine X.aload_n (x := a0) (pc' := 22) dX11_next_21 rfl rfl rfl ?_
    refine X.dup (pc' := 23) dX11_next_22 rfl rfl ?_
    obtain ⟨v7, e8, h⟩ := bindE h
    refine X.getf (pc' := 26) dX11_next_23 rfl fq_X11_79 (gI_spec e8) ?_
    refine X.iconst (v := 1) (pc' := 27) dX11_next_26 rfl (by decide) ?_
    refine X.iadd (pc' := 28) dX11_next_27 rfl ?_
    obtain ⟨M9, e10, h⟩ := bindE h
    refine X.putf (pc' := 31) dX11_next_28 rfl fq_X11_79 rfl rfl e10 ?_
    refine X.goto (pc' := 8) dX11_next_31 (by decide) ?_
    exact hk8 _ _ h
def f_X11_next_8 (fu : Nat) (k34 : Nat → List Ob → Option (Unit × List Ob)) : Nat → Nat → List Ob → Option (Unit × List Ob)
  | 0, _, _ => none
  | n + 1, a0, M => f_X11_next_8b fu a0 M (fun a0 M => f_X11_next_8 fu k34 n a0 M) k34
theorem ok_X11_next_8 {G : GT} {fu : Nat} {out : Unit × List Ob} {k34 : Nat → List Ob → Option (Unit × List Ob)} (hk34 : ∀ (a0 : Nat) (M : List Ob), k34 a0 M = some out → X G t_X11_next [] 34 [some (.ref a0)] [] M 0 0 (oU out)) : ∀ (n : Nat) (a0 : Nat) (M : List Ob), f_X11_next_8 fu k34 n a0 M = some out → X G t_X11_next [] 8 [some (.ref a0)] [] M 0 0 (oU out) := by
  intro n
  induction n with
  | zero =>
    intro a0 M h
    unfold f_X11_next_8 at h
    cases h
  | succ n ih =>
    intro a0 M h
    unfold f_X11_next_8 at h
    exact ok_X11_next_8b ih hk34 h
def f_X11_next_176 (fu : Nat) (a0 : Nat) (M : List Ob) (k129 : Nat → List Ob → Option (Unit × List Ob)) (k189 : Nat → List Ob → Option (Unit × List Ob)) : Option (Unit × List Ob) :=
  (gI M a0 11 9).bind fun v1 =>
  (pF M a0 11 9 (.int (v1 + 1))).bind fun M3 =>
  k129 a0 M3
set_option maxHeartbeats 4000000 in
theorem ok_X11_next_176 {G : GT} {fu : Nat} {out : Unit × List Ob} {a0 : Nat} {M : List Ob} {k129 : Nat → List Ob → Option (Unit × List Ob)} {k189 : Nat → List Ob → Option (Unit × List Ob)} (hk129 : ∀ (a0 : Nat) (M : List Ob), k129 a0 M = some out → X G t_X11_next [] 129 [some (.ref a0)] [] M 0 0 (oU out)) (hk189 : ∀ (a0 : Nat) (M : List Ob), k189 a0 M = some out → X G t_X11_next [] 189 [some (.ref a0)] [] M 0 0 (oU out)) (h : f_X11_next_176 fu a0 M k129 k189 = some out) : X G t_X11_next [] 176 [some (.ref a0)] [] M 0 0 (oU out) := by
  unfold f_X11_next_176 at h
  refine X.aload_n (x := a0) (pc' := 177) dX11_next_176 rfl rfl rfl ?_
  refine X.dup (pc' := 178) dX11_next_177 rfl rfl ?_
  obtain ⟨v1, e2, h⟩ := bindE h
  refine X.getf (pc' := 181) dX11_next_178 rfl fq_X11_76 (gI_spec e2) ?_
  refine X.iconst (v := 1) (pc' := 182) dX11_next_181 rfl (by decide) ?_
  refine X.iadd (pc' := 183) dX11_next_182 rfl ?_
  obtain ⟨M3, e4, h⟩ := bindE h
  refine X.putf (pc' := 186) dX11_next_183 rfl fq_X11_76 rfl rfl e4 ?_
  refine X.goto (pc' := 129) dX11_next_186 (by decide) ?_
  exact hk129 _ _ h
def f_X11_next_129b (fu : Nat) (a0 : Nat) (M : List Ob) (k129 : Nat → List Ob → Option (Unit × List Ob)) (k189 : Nat → List Ob → Option (Unit × List Ob)) : Option (Unit × List Ob) :=
  (gI M a0 11 9).bind fun v1 =>
  (hasO M a0 11).bind fun _ =>
  bd2 (f_X11_see fu a0 v1 M) fun v3 M4 =>
  bd2 (f_X11_isDigit fu v3 M4) fun v7 M8 =>
  if v7 = 0 then (k189 a0 M8)
  else ((gI M8 a0 11 11).bind fun v11 =>
  if 1000 ≤ v11 then (f_X11_next_176 fu a0 M8 k129 k189)
  else ((gI M8 a0 11 11).bind fun v13 =>
  (gI M8 a0 11 9).bind fun v15 =>
  (hasO M8 a0 11).bind fun _ =>
  bd2 (f_X11_see fu a0 v15 M8) fun v17 M18 =>
  (pF M18 a0 11 11 (.int (((10 * v13) + v17) - 48))).bind fun M21 =>
  f_X11_next_176 fu a0 M21 k129 k189))
set_option maxHeartbeats 4000000 in
theorem ok_X11_next_129b {G : GT} {fu : Nat} {out : Unit × List Ob} {a0 : Nat} {M : List Ob} {k129 : Nat → List Ob → Option (Unit × List Ob)} {k189 : Nat → List Ob → Option (Unit × List Ob)} (hk129 : ∀ (a0 : Nat) (M : List Ob), k129 a0 M = some out → X G t_X11_next [] 129 [some (.ref a0)] [] M 0 0 (oU out)) (hk189 : ∀ (a0 : Nat) (M : List Ob), k189 a0 M = some out → X G t_X11_next [] 189 [some (.ref a0)] [] M 0 0 (oU out)) (h : f_X11_next_129b fu a0 M k129 k189 = some out) : X G t_X11_next [] 129 [some (.ref a0)] [] M 0 0 (oU out) := by
  unfold f_X11_next_129b at h
  refine X.aload_n (x := a0) (pc' := 130) dX11_next_129 rfl rfl rfl ?_
  refine X.aload_n (x := a0) (pc' := 131) dX11_next_130 rfl rfl rfl ?_
  obtain ⟨v1, e2, h⟩ := bindE h
  refine X.getf (pc' := 134) dX11_next_131 rfl fq_X11_76 (gI_spec e2) ?_
  obtain ⟨⟨⟩, e6, h⟩ := bindE h
  obtain ⟨v3, M4, e5, h⟩ := bd2E h
  refine X.callV (b := a0) (v := some (.int v3)) (As := [.int v1]) (st := []) (M' := M4) (pc' := 137) dX11_next_134 rfl cl_X11_82 mi_X11_see me_X11_see mr_X11_see e6 ⟨⟨Nat.le_of_ble_eq_true rfl, Nat.le_of_ble_eq_true rfl⟩, Nat.le_of_ble_eq_true rfl, Nat.le_of_ble_eq_true rfl⟩ rfl (Nat.le_of_ble_eq_true rfl) (ok_X11_see (G := zs G) e5) ?_
  show X G t_X11_next [] 137 [some (.ref a0)] [.int v3] M4 0 0 _
  obtain ⟨v7, M8, e9, h⟩ := bd2E h
  refine X.callS (v := some (.int v7)) (As := [.int v3]) (st := []) (M' := M8) (pc' := 140) dX11_next_137 rfl cl_X11_93 ms_X11_isDigit ⟨⟨Nat.le_of_ble_eq_true rfl, Nat.le_of_ble_eq_true rfl⟩, Nat.le_of_ble_eq_true rfl, Nat.le_of_ble_eq_true rfl⟩ rfl (Nat.le_of_ble_eq_true rfl) (ok_X11_isDigit (G := zs G) e9) ?_
  show X G t_X11_next [] 140 [some (.ref a0)] [.int v7] M8 0 0 _
  refine X.if_eq (tgt := 189) (pc' := 143) dX11_next_140 (by decide) rfl (fun hc => ?_) (fun hc => ?_)
  · rw [if_pos hc] at h
    exact hk189 _ _ h
  · rw [if_neg hc] at h
    refine X.aload_n (x := a0) (pc' := 144) dX11_next_143 rfl rfl rfl ?_
    obtain ⟨v11, e12, h⟩ := bindE h
    refine X.getf (pc' := 147) dX11_next_144 rfl fq_X11_96 (gI_spec e12) ?_
    refine X.sipush (v := 1000) (pc' := 150) dX11_next_147 rfl (by decide) ?_
    refine X.icmp_ge (tgt := 176) (pc' := 153) dX11_next_150 (by decide) rfl (fun hc => ?_) (fun hc => ?_)
    · rw [if_pos hc] at h
      exact ok_X11_next_176 hk129 hk189 h
    · rw [if_neg hc] at h
      refine X.aload_n (x := a0) (pc' := 154) dX11_next_153 rfl rfl rfl ?_
      refine X.bipush (v := 10) (pc' := 156) dX11_next_154 rfl (by decide) ?_
      refine X.aload_n (x := a0) (pc' := 157) dX11_next_156 rfl rfl rfl ?_
      obtain ⟨v13, e14, h⟩ := bindE h
      refine X.getf (pc' := 160) dX11_next_157 rfl fq_X11_96 (gI_spec e14) ?_
      refine X.imul (pc' := 161) dX11_next_160 rfl ?_
      refine X.aload_n (x := a0) (pc' := 162) dX11_next_161 rfl rfl rfl ?_
      refine X.aload_n (x := a0) (pc' := 163) dX11_next_162 rfl rfl rfl ?_
      obtain ⟨v15, e16, h⟩ := bindE h
      refine X.getf (pc' := 166) dX11_next_163 rfl fq_X11_76 (gI_spec e16) ?_
      obtain ⟨⟨⟩, e20, h⟩ := bindE h
      obtain ⟨v17, M18, e19, h⟩ := bd2E h
      refine X.callV (b := a0) (v := some (.int v17)) (As := [.int v15]) (st := [.int (10 * v13), .ref a0]) (M' := M18) (pc' := 169) dX11_next_166 rfl cl_X11_82 mi_X11_see me_X11_see mr_X11_see e20 ⟨⟨Nat.le_of_ble_eq_true rfl, Nat.le_of_ble_eq_true rfl⟩, Nat.le_of_ble_eq_true rfl, Nat.le_of_ble_eq_true rfl⟩ rfl (Nat.le_of_ble_eq_true rfl) (ok_X11_see (G := zs G) e19) ?_
      show X G t_X11_next [] 169 [some (.ref a0)] [.int v17, .int (10 * v13), .ref a0] M18 0 0 _
      refine X.iadd (pc' := 170) dX11_next_169 rfl ?_
      refine X.bipush (v := 48) (pc' := 172) dX11_next_170 rfl (by decide) ?_
      refine X.isub (pc' := 173) dX11_next_172 rfl ?_
      obtain ⟨M21, e22, h⟩ := bindE h
      refine X.putf (pc' := 176) dX11_next_173 rfl fq_X11_96 rfl rfl e22 ?_
      exact ok_X11_next_176 hk129 hk189 h
def f_X11_next_129 (fu : Nat) (k189 : Nat → List Ob → Option (Unit × List Ob)) : Nat → Nat → List Ob → Option (Unit × List Ob)
  | 0, _, _ => none
  | n + 1, a0, M => f_X11_next_129b fu a0 M (fun a0 M => f_X11_next_129 fu k189 n a0 M) k189
theorem ok_X11_next_129 {G : GT} {fu : Nat} {out : Unit × List Ob} {k189 : Nat → List Ob → Option (Unit × List Ob)} (hk189 : ∀ (a0 : Nat) (M : List Ob), k189 a0 M = some out → X G t_X11_next [] 189 [some (.ref a0)] [] M 0 0 (oU out)) : ∀ (n : Nat) (a0 : Nat) (M : List Ob), f_X11_next_129 fu k189 n a0 M = some out → X G t_X11_next [] 129 [some (.ref a0)] [] M 0 0 (oU out) := by
  intro n
  induction n with
  | zero =>
    intro a0 M h
    unfold f_X11_next_129 at h
    cases h
  | succ n ih =>
    intro a0 M h
    unfold f_X11_next_129 at h
    exact ok_X11_next_129b ih hk189 h
def f_X11_next_189 (fu : Nat) (a0 : Nat) (M : List Ob) : Option (Unit × List Ob) :=
  (pF M a0 11 10 (.int 1)).bind fun M1 =>
  some ((), M1)
set_option maxHeartbeats 4000000 in
theorem ok_X11_next_189 {G : GT} {fu : Nat} {out : Unit × List Ob} {a0 : Nat} {M : List Ob} (h : f_X11_next_189 fu a0 M = some out) : X G t_X11_next [] 189 [some (.ref a0)] [] M 0 0 (oU out) := by
  unfold f_X11_next_189 at h
  refine X.aload_n (x := a0) (pc' := 190) dX11_next_189 rfl rfl rfl ?_
  refine X.iconst (v := 1) (pc' := 191) dX11_next_190 rfl (by decide) ?_
  obtain ⟨M1, e2, h⟩ := bindE h
  refine X.putf (pc' := 194) dX11_next_191 rfl fq_X11_86 rfl rfl e2 ?_
  refine X.goto (pc' := 212) dX11_next_194 (by decide) ?_
  cases h
  exact X.vret dX11_next_212 rfl (Nat.le_of_ble_eq_true rfl) (Nat.le_of_ble_eq_true rfl) rfl
def f_X11_next_75b (fu : Nat) (a0 : Nat) (M : List Ob) (k75 : Nat → List Ob → Option (Unit × List Ob)) (k102 : Nat → List Ob → Option (Unit × List Ob)) : Option (Unit × List Ob) :=
  (gI M a0 11 9).bind fun v1 =>
  (hasO M a0 11).bind fun _ =>
  bd2 (f_X11_see fu a0 v1 M) fun v3 M4 =>
  bd2 (f_X11_isLetter fu v3 M4) fun v7 M8 =>
  if v7 = 0 then (k102 a0 M8)
  else ((gI M8 a0 11 9).bind fun v11 =>
  (pF M8 a0 11 9 (.int (v11 + 1))).bind fun M13 =>
  k75 a0 M13)
set_option maxHeartbeats 4000000 in
theorem ok_X11_next_75b {G : GT} {fu : Nat} {out : Unit × List Ob} {a0 : Nat} {M : List Ob} {k75 : Nat → List Ob → Option (Unit × List Ob)} {k102 : Nat → List Ob → Option (Unit × List Ob)} (hk75 : ∀ (a0 : Nat) (M : List Ob), k75 a0 M = some out → X G t_X11_next [] 75 [some (.ref a0)] [] M 0 0 (oU out)) (hk102 : ∀ (a0 : Nat) (M : List Ob), k102 a0 M = some out → X G t_X11_next [] 102 [some (.ref a0)] [] M 0 0 (oU out)) (h : f_X11_next_75b fu a0 M k75 k102 = some out) : X G t_X11_next [] 75 [some (.ref a0)] [] M 0 0 (oU out) := by
  unfold f_X11_next_75b at h
  refine X.aload_n (x := a0) (pc' := 76) dX11_next_75 rfl rfl rfl ?_
  refine X.aload_n (x := a0) (pc' := 77) dX11_next_76 rfl rfl rfl ?_
  obtain ⟨v1, e2, h⟩ := bindE h
  refine X.getf (pc' := 80) dX11_next_77 rfl fq_X11_76 (gI_spec e2) ?_
  obtain ⟨⟨⟩, e6, h⟩ := bindE h
  obtain ⟨v3, M4, e5, h⟩ := bd2E h
  refine X.callV (b := a0) (v := some (.int v3)) (As := [.int v1]) (st := []) (M' := M4) (pc' := 83) dX11_next_80 rfl cl_X11_82 mi_X11_see me_X11_see mr_X11_see e6 ⟨⟨Nat.le_of_ble_eq_true rfl, Nat.le_of_ble_eq_true rfl⟩, Nat.le_of_ble_eq_true rfl, Nat.le_of_ble_eq_true rfl⟩ rfl (Nat.le_of_ble_eq_true rfl) (ok_X11_see (G := zs G) e5) ?_
  show X G t_X11_next [] 83 [some (.ref a0)] [.int v3] M4 0 0 _
  obtain ⟨v7, M8, e9, h⟩ := bd2E h
  refine X.callS (v := some (.int v7)) (As := [.int v3]) (st := []) (M' := M8) (pc' := 86) dX11_next_83 rfl cl_X11_89 ms_X11_isLetter ⟨⟨Nat.le_of_ble_eq_true rfl, Nat.le_of_ble_eq_true rfl⟩, Nat.le_of_ble_eq_true rfl, Nat.le_of_ble_eq_true rfl⟩ rfl (Nat.le_of_ble_eq_true rfl) (ok_X11_isLetter (G := zs G) e9) ?_
  show X G t_X11_next [] 86 [some (.ref a0)] [.int v7] M8 0 0 _
  refine X.if_eq (tgt := 102) (pc' := 89) dX11_next_86 (by decide) rfl (fun hc => ?_) (fun hc => ?_)
  · rw [if_pos hc] at h
    exact hk102 _ _ h
  · rw [if_neg hc] at h
    refine X.aload_n (x := a0) (pc' := 90) dX11_next_89 rfl rfl rfl ?_
    refine X.dup (pc' := 91) dX11_next_90 rfl rfl ?_
    obtain ⟨v11, e12, h⟩ := bindE h
    refine X.getf (pc' := 94) dX11_next_91 rfl fq_X11_76 (gI_spec e12) ?_
    refine X.iconst (v := 1) (pc' := 95) dX11_next_94 rfl (by decide) ?_
    refine X.iadd (pc' := 96) dX11_next_95 rfl ?_
    obtain ⟨M13, e14, h⟩ := bindE h
    refine X.putf (pc' := 99) dX11_next_96 rfl fq_X11_76 rfl rfl e14 ?_
    refine X.goto (pc' := 75) dX11_next_99 (by decide) ?_
    exact hk75 _ _ h
def f_X11_next_75 (fu : Nat) (k102 : Nat → List Ob → Option (Unit × List Ob)) : Nat → Nat → List Ob → Option (Unit × List Ob)
  | 0, _, _ => none
  | n + 1, a0, M => f_X11_next_75b fu a0 M (fun a0 M => f_X11_next_75 fu k102 n a0 M) k102
theorem ok_X11_next_75 {G : GT} {fu : Nat} {out : Unit × List Ob} {k102 : Nat → List Ob → Option (Unit × List Ob)} (hk102 : ∀ (a0 : Nat) (M : List Ob), k102 a0 M = some out → X G t_X11_next [] 102 [some (.ref a0)] [] M 0 0 (oU out)) : ∀ (n : Nat) (a0 : Nat) (M : List Ob), f_X11_next_75 fu k102 n a0 M = some out → X G t_X11_next [] 75 [some (.ref a0)] [] M 0 0 (oU out) := by
  intro n
  induction n with
  | zero =>
    intro a0 M h
    unfold f_X11_next_75 at h
    cases h
  | succ n ih =>
    intro a0 M h
    unfold f_X11_next_75 at h
    exact ok_X11_next_75b ih hk102 h
def f_X11_next_102 (fu : Nat) (a0 : Nat) (M : List Ob) : Option (Unit × List Ob) :=
  (pF M a0 11 10 (.int 0)).bind fun M1 =>
  some ((), M1)
set_option maxHeartbeats 4000000 in
theorem ok_X11_next_102 {G : GT} {fu : Nat} {out : Unit × List Ob} {a0 : Nat} {M : List Ob} (h : f_X11_next_102 fu a0 M = some out) : X G t_X11_next [] 102 [some (.ref a0)] [] M 0 0 (oU out) := by
  unfold f_X11_next_102 at h
  refine X.aload_n (x := a0) (pc' := 103) dX11_next_102 rfl rfl rfl ?_
  refine X.iconst (v := 0) (pc' := 104) dX11_next_103 rfl (by decide) ?_
  obtain ⟨M1, e2, h⟩ := bindE h
  refine X.putf (pc' := 107) dX11_next_104 rfl fq_X11_86 rfl rfl e2 ?_
  refine X.goto (pc' := 212) dX11_next_107 (by decide) ?_
  cases h
  exact X.vret dX11_next_212 rfl (Nat.le_of_ble_eq_true rfl) (Nat.le_of_ble_eq_true rfl) rfl
def f_X11_next_34 (fu : Nat) (a0 : Nat) (M : List Ob) : Option (Unit × List Ob) :=
  (gI M a0 11 8).bind fun v1 =>
  (pF M a0 11 9 (.int v1)).bind fun M3 =>
  (gI M3 a0 11 8).bind fun v5 =>
  (gI M3 a0 11 7).bind fun v7 =>
  if v5 < v7 then ((gI M3 a0 11 8).bind fun v9 =>
  (hasO M3 a0 11).bind fun _ =>
  bd2 (f_X11_see fu a0 v9 M3) fun v11 M12 =>
  bd2 (f_X11_isLetter fu v11 M12) fun v15 M16 =>
  if v15 = 0 then ((gI M16 a0 11 8).bind fun v19 =>
  (hasO M16 a0 11).bind fun _ =>
  bd2 (f_X11_see fu a0 v19 M16) fun v21 M22 =>
  bd2 (f_X11_isDigit fu v21 M22) fun v25 M26 =>
  if v25 = 0 then ((gI M26 a0 11 9).bind fun v29 =>
  (pF M26 a0 11 9 (.int (v29 + 1))).bind fun M31 =>
  (pF M31 a0 11 10 (.int 2)).bind fun M33 =>
  some ((), M33))
  else ((pF M26 a0 11 11 (.int 0)).bind fun M35 =>
  f_X11_next_129 fu (fun x37 M38 => f_X11_next_189 fu x37 M38) fu a0 M35))
  else (f_X11_next_75 fu (fun x39 M40 => f_X11_next_102 fu x39 M40) fu a0 M16))
  else ((pF M3 a0 11 10 (.int 3)).bind fun M41 =>
  some ((), M41))
set_option maxHeartbeats 4000000 in
theorem ok_X11_next_34 {G : GT} {fu : Nat} {out : Unit × List Ob} {a0 : Nat} {M : List Ob} (h : f_X11_next_34 fu a0 M = some out) : X G t_X11_next [] 34 [some (.ref a0)] [] M 0 0 (oU out) := by
  unfold f_X11_next_34 at h
  refine X.aload_n (x := a0) (pc' := 35) dX11_next_34 rfl rfl rfl ?_
  refine X.aload_n (x := a0) (pc' := 36) dX11_next_35 rfl rfl rfl ?_
  obtain ⟨v1, e2, h⟩ := bindE h
  refine X.getf (pc' := 39) dX11_next_36 rfl fq_X11_79 (gI_spec e2) ?_
  obtain ⟨M3, e4, h⟩ := bindE h
  refine X.putf (pc' := 42) dX11_next_39 rfl fq_X11_76 rfl rfl e4 ?_
  refine X.aload_n (x := a0) (pc' := 43) dX11_next_42 rfl rfl rfl ?_
  obtain ⟨v5, e6, h⟩ := bindE h
  refine X.getf (pc' := 46) dX11_next_43 rfl fq_X11_79 (gI_spec e6) ?_
  refine X.aload_n (x := a0) (pc' := 47) dX11_next_46 rfl rfl rfl ?_
  obtain ⟨v7, e8, h⟩ := bindE h
  refine X.getf (pc' := 50) dX11_next_47 rfl fq_X11_69 (gI_spec e8) ?_
  refine X.icmp_lt (tgt := 61) (pc' := 53) dX11_next_50 (by decide) rfl (fun hc => ?_) (fun hc => ?_)
  · rw [if_pos hc] at h
    refine X.aload_n (x := a0) (pc' := 62) dX11_next_61 rfl rfl rfl ?_
    refine X.aload_n (x := a0) (pc' := 63) dX11_next_62 rfl rfl rfl ?_
    obtain ⟨v9, e10, h⟩ := bindE h
    refine X.getf (pc' := 66) dX11_next_63 rfl fq_X11_79 (gI_spec e10) ?_
    obtain ⟨⟨⟩, e14, h⟩ := bindE h
    obtain ⟨v11, M12, e13, h⟩ := bd2E h
    refine X.callV (b := a0) (v := some (.int v11)) (As := [.int v9]) (st := []) (M' := M12) (pc' := 69) dX11_next_66 rfl cl_X11_82 mi_X11_see me_X11_see mr_X11_see e14 ⟨⟨Nat.le_of_ble_eq_true rfl, Nat.le_of_ble_eq_true rfl⟩, Nat.le_of_ble_eq_true rfl, Nat.le_of_ble_eq_true rfl⟩ rfl (Nat.le_of_ble_eq_true rfl) (ok_X11_see (G := zs G) e13) ?_
    show X G t_X11_next [] 69 [some (.ref a0)] [.int v11] M12 0 0 _
    obtain ⟨v15, M16, e17, h⟩ := bd2E h
    refine X.callS (v := some (.int v15)) (As := [.int v11]) (st := []) (M' := M16) (pc' := 72) dX11_next_69 rfl cl_X11_89 ms_X11_isLetter ⟨⟨Nat.le_of_ble_eq_true rfl, Nat.le_of_ble_eq_true rfl⟩, Nat.le_of_ble_eq_true rfl, Nat.le_of_ble_eq_true rfl⟩ rfl (Nat.le_of_ble_eq_true rfl) (ok_X11_isLetter (G := zs G) e17) ?_
    show X G t_X11_next [] 72 [some (.ref a0)] [.int v15] M16 0 0 _
    refine X.if_eq (tgt := 110) (pc' := 75) dX11_next_72 (by decide) rfl (fun hc => ?_) (fun hc => ?_)
    · rw [if_pos hc] at h
      refine X.aload_n (x := a0) (pc' := 111) dX11_next_110 rfl rfl rfl ?_
      refine X.aload_n (x := a0) (pc' := 112) dX11_next_111 rfl rfl rfl ?_
      obtain ⟨v19, e20, h⟩ := bindE h
      refine X.getf (pc' := 115) dX11_next_112 rfl fq_X11_79 (gI_spec e20) ?_
      obtain ⟨⟨⟩, e24, h⟩ := bindE h
      obtain ⟨v21, M22, e23, h⟩ := bd2E h
      refine X.callV (b := a0) (v := some (.int v21)) (As := [.int v19]) (st := []) (M' := M22) (pc' := 118) dX11_next_115 rfl cl_X11_82 mi_X11_see me_X11_see mr_X11_see e24 ⟨⟨Nat.le_of_ble_eq_true rfl, Nat.le_of_ble_eq_true rfl⟩, Nat.le_of_ble_eq_true rfl, Nat.le_of_ble_eq_true rfl⟩ rfl (Nat.le_of_ble_eq_true rfl) (ok_X11_see (G := zs G) e23) ?_
      show X G t_X11_next [] 118 [some (.ref a0)] [.int v21] M22 0 0 _
      obtain ⟨v25, M26, e27, h⟩ := bd2E h
      refine X.callS (v := some (.int v25)) (As := [.int v21]) (st := []) (M' := M26) (pc' := 121) dX11_next_118 rfl cl_X11_93 ms_X11_isDigit ⟨⟨Nat.le_of_ble_eq_true rfl, Nat.le_of_ble_eq_true rfl⟩, Nat.le_of_ble_eq_true rfl, Nat.le_of_ble_eq_true rfl⟩ rfl (Nat.le_of_ble_eq_true rfl) (ok_X11_isDigit (G := zs G) e27) ?_
      show X G t_X11_next [] 121 [some (.ref a0)] [.int v25] M26 0 0 _
      refine X.if_eq (tgt := 197) (pc' := 124) dX11_next_121 (by decide) rfl (fun hc => ?_) (fun hc => ?_)
      · rw [if_pos hc] at h
        refine X.aload_n (x := a0) (pc' := 198) dX11_next_197 rfl rfl rfl ?_
        refine X.dup (pc' := 199) dX11_next_198 rfl rfl ?_
        obtain ⟨v29, e30, h⟩ := bindE h
        refine X.getf (pc' := 202) dX11_next_199 rfl fq_X11_76 (gI_spec e30) ?_
        refine X.iconst (v := 1) (pc' := 203) dX11_next_202 rfl (by decide) ?_
        refine X.iadd (pc' := 204) dX11_next_203 rfl ?_
        obtain ⟨M31, e32, h⟩ := bindE h
        refine X.putf (pc' := 207) dX11_next_204 rfl fq_X11_76 rfl rfl e32 ?_
        refine X.aload_n (x := a0) (pc' := 208) dX11_next_207 rfl rfl rfl ?_
        refine X.iconst (v := 2) (pc' := 209) dX11_next_208 rfl (by decide) ?_
        obtain ⟨M33, e34, h⟩ := bindE h
        refine X.putf (pc' := 212) dX11_next_209 rfl fq_X11_86 rfl rfl e34 ?_
        cases h
        exact X.vret dX11_next_212 rfl (Nat.le_of_ble_eq_true rfl) (Nat.le_of_ble_eq_true rfl) rfl
      · rw [if_neg hc] at h
        refine X.aload_n (x := a0) (pc' := 125) dX11_next_124 rfl rfl rfl ?_
        refine X.iconst (v := 0) (pc' := 126) dX11_next_125 rfl (by decide) ?_
        obtain ⟨M35, e36, h⟩ := bindE h
        refine X.putf (pc' := 129) dX11_next_126 rfl fq_X11_96 rfl rfl e36 ?_
        refine ok_X11_next_129 ?_ fu _ _ h
        · intro x37 M38 h
          exact ok_X11_next_189 h
    · rw [if_neg hc] at h
      refine ok_X11_next_75 ?_ fu _ _ h
      · intro x39 M40 h
        exact ok_X11_next_102 h
  · rw [if_neg hc] at h
    refine X.aload_n (x := a0) (pc' := 54) dX11_next_53 rfl rfl rfl ?_
    refine X.iconst (v := 3) (pc' := 55) dX11_next_54 rfl (by decide) ?_
    obtain ⟨M41, e42, h⟩ := bindE h
    refine X.putf (pc' := 58) dX11_next_55 rfl fq_X11_86 rfl rfl e42 ?_
    refine X.goto (pc' := 212) dX11_next_58 (by decide) ?_
    cases h
    exact X.vret dX11_next_212 rfl (Nat.le_of_ble_eq_true rfl) (Nat.le_of_ble_eq_true rfl) rfl
def f_X11_next (fu : Nat) (a0 : Nat) (M : List Ob) : Option (Unit × List Ob) :=
  (gI M a0 11 9).bind fun v1 =>
  (pF M a0 11 8 (.int v1)).bind fun M3 =>
  f_X11_next_8 fu (fun x5 M6 => f_X11_next_34 fu x5 M6) fu a0 M3
set_option maxHeartbeats 4000000 in
theorem ok_X11_next {G : GT} {fu : Nat} {a0 : Nat} {M : List Ob} {out : Unit × List Ob} (h : f_X11_next fu a0 M = some out) : Sp G t_X11_next [.ref a0] M (oU out) := by
  refine Sp.of rfl (by decide +kernel) (cat_all rfl) (Nat.le_of_ble_eq_true rfl) ?_
  show X G t_X11_next [] 0 [some (.ref a0)] [] M 0 0 (oU out)
  unfold f_X11_next at h
  refine X.aload_n (x := a0) (pc' := 1) dX11_next_0 rfl rfl rfl ?_
  refine X.aload_n (x := a0) (pc' := 2) dX11_next_1 rfl rfl rfl ?_
  obtain ⟨v1, e2, h⟩ := bindE h
  refine X.getf (pc' := 5) dX11_next_2 rfl fq_X11_76 (gI_spec e2) ?_
  obtain ⟨M3, e4, h⟩ := bindE h
  refine X.putf (pc' := 8) dX11_next_5 rfl fq_X11_79 rfl rfl e4 ?_
  refine ok_X11_next_8 ?_ fu _ _ h
  · intro x5 M6 h
    exact ok_X11_next_34 h
def f_X11_isWord_34b (fu : Nat) (a0 : Nat) (a1 : Nat) (a2 : Int32) (M : List Ob) (k34 : Nat → Nat → Int32 → List Ob → Option (Int32 × List Ob)) : Option (Int32 × List Ob) :=
  bd2 (f_J0_length_8abf5 fu a1 M) fun v1 M2 =>
  if v1 ≤ a2 then (some (1, M2))
  else ((gP M2 a0 11 5).bind fun r5 =>
  (gI M2 a0 11 8).bind fun v7 =>
  (aI M2 r5 13 (v7 + a2)).bind fun v10 =>
  bd2 (f_J0_charAt_5068e fu a1 a2 M2) fun v11 M12 =>
  if v10 = v11 then (k34 a0 a1 (a2 + 1) M12)
  else (some (0, M12)))
set_option maxHeartbeats 4000000 in
theorem ok_X11_isWord_34b {G : GT} {fu : Nat} {out : Int32 × List Ob} {a0 : Nat} {a1 : Nat} {a2 : Int32} {M : List Ob} {k34 : Nat → Nat → Int32 → List Ob → Option (Int32 × List Ob)} (hk34 : ∀ (a0 : Nat) (a1 : Nat) (a2 : Int32) (M : List Ob), k34 a0 a1 a2 M = some out → X G t_X11_isWord [] 34 [some (.ref a0), some (.ref a1), some (.int a2)] [] M 0 0 (oI out)) (h : f_X11_isWord_34b fu a0 a1 a2 M k34 = some out) : X G t_X11_isWord [] 34 [some (.ref a0), some (.ref a1), some (.int a2)] [] M 0 0 (oI out) := by
  unfold f_X11_isWord_34b at h
  refine X.iload_n (x := a2) (pc' := 35) dX11_isWord_34 rfl rfl rfl ?_
  refine X.aload_n (x := a1) (pc' := 36) dX11_isWord_35 rfl rfl rfl ?_
  obtain ⟨v1, M2, e3, h⟩ := bd2E h
  refine X.callT (b := a1) (v := some (.int v1)) (As := []) (st := [.int a2]) (M' := M2) (pc' := 39) dX11_isWord_36 rfl cl_X11_102 mi_J0_length_8abf5 me_J0_length_8abf5 (str_in_J0_length_8abf5 e3) ⟨⟨Nat.le_of_ble_eq_true rfl, Nat.le_of_ble_eq_true rfl⟩, Nat.le_of_ble_eq_true rfl, Nat.le_of_ble_eq_true rfl⟩ rfl (Nat.le_of_ble_eq_true rfl) (ok_J0_length_8abf5 (G := zs G) e3) ?_
  show X G t_X11_isWord [] 39 [some (.ref a0), some (.ref a1), some (.int a2)] [.int v1, .int a2] M2 0 0 _
  refine X.icmp_ge (tgt := 69) (pc' := 42) dX11_isWord_39 (by decide) rfl (fun hc => ?_) (fun hc => ?_)
  · rw [if_pos hc] at h
    refine X.iconst (v := 1) (pc' := 70) dX11_isWord_69 rfl (by decide) ?_
    cases h
    exact X.iret (ty := .boolean) dX11_isWord_70 rfl rfl (Nat.le_of_ble_eq_true rfl) (Nat.le_of_ble_eq_true rfl) rfl
  · rw [if_neg hc] at h
    refine X.aload_n (x := a0) (pc' := 43) dX11_isWord_42 rfl rfl rfl ?_
    obtain ⟨r5, e6, h⟩ := bindE h
    refine X.getf (pc' := 46) dX11_isWord_43 rfl fq_X11_19 (gP_spec e6) ?_
    refine X.aload_n (x := a0) (pc' := 47) dX11_isWord_46 rfl rfl rfl ?_
    obtain ⟨v7, e8, h⟩ := bindE h
    refine X.getf (pc' := 50) dX11_isWord_47 rfl fq_X11_79 (gI_spec e8) ?_
    refine X.iload_n (x := a2) (pc' := 51) dX11_isWord_50 rfl rfl rfl ?_
    refine X.iadd (pc' := 52) dX11_isWord_51 rfl ?_
    obtain ⟨v10, e9, h⟩ := bindE h
    refine X.iald (pc' := 53) dX11_isWord_52 rfl e9 ?_
    refine X.aload_n (x := a1) (pc' := 54) dX11_isWord_53 rfl rfl rfl ?_
    refine X.iload_n (x := a2) (pc' := 55) dX11_isWord_54 rfl rfl rfl ?_
    obtain ⟨v11, M12, e13, h⟩ := bd2E h
    refine X.callT (b := a1) (v := some (.int v11)) (As := [.int a2]) (st := [.int v10]) (M' := M12) (pc' := 58) dX11_isWord_55 rfl cl_X11_108 mi_J0_charAt_5068e me_J0_charAt_5068e (str_in_J0_charAt_5068e e13) ⟨⟨Nat.le_of_ble_eq_true rfl, Nat.le_of_ble_eq_true rfl⟩, Nat.le_of_ble_eq_true rfl, Nat.le_of_ble_eq_true rfl⟩ rfl (Nat.le_of_ble_eq_true rfl) (ok_J0_charAt_5068e (G := zs G) e13) ?_
    show X G t_X11_isWord [] 58 [some (.ref a0), some (.ref a1), some (.int a2)] [.int v11, .int v10] M12 0 0 _
    refine X.icmp_eq (tgt := 63) (pc' := 61) dX11_isWord_58 (by decide) rfl (fun hc => ?_) (fun hc => ?_)
    · rw [if_pos hc] at h
      refine X.iinc (v := (a2 + 1)) (L' := [some (.ref a0), some (.ref a1), some (.int (a2 + 1))]) (pc' := 66) dX11_isWord_63 rfl rfl (congrArg (fun y => a2 + y) (show Int32.ofInt 1 = 1 by decide)) (Nat.le_of_ble_eq_true rfl) rfl ?_
      refine X.goto (pc' := 34) dX11_isWord_66 (by decide) ?_
      exact hk34 _ _ _ _ h
    · rw [if_neg hc] at h
      refine X.iconst (v := 0) (pc' := 62) dX11_isWord_61 rfl (by decide) ?_
      cases h
      exact X.iret (ty := .boolean) dX11_isWord_62 rfl rfl (Nat.le_of_ble_eq_true rfl) (Nat.le_of_ble_eq_true rfl) rfl
def f_X11_isWord_34 (fu : Nat) : Nat → Nat → Nat → Int32 → List Ob → Option (Int32 × List Ob)
  | 0, _, _, _, _ => none
  | n + 1, a0, a1, a2, M => f_X11_isWord_34b fu a0 a1 a2 M (fun a0 a1 a2 M => f_X11_isWord_34 fu n a0 a1 a2 M)
theorem ok_X11_isWord_34 {G : GT} {fu : Nat} {out : Int32 × List Ob} : ∀ (n : Nat) (a0 : Nat) (a1 : Nat) (a2 : Int32) (M : List Ob), f_X11_isWord_34 fu n a0 a1 a2 M = some out → X G t_X11_isWord [] 34 [some (.ref a0), some (.ref a1), some (.int a2)] [] M 0 0 (oI out) := by
  intro n
  induction n with
  | zero =>
    intro a0 a1 a2 M h
    unfold f_X11_isWord_34 at h
    cases h
  | succ n ih =>
    intro a0 a1 a2 M h
    unfold f_X11_isWord_34 at h
    exact ok_X11_isWord_34b ih h
def f_X11_isWord (fu : Nat) (a0 : Nat) (a1 : Nat) (M : List Ob) : Option (Int32 × List Ob) :=
  (gI M a0 11 12).bind fun v1 =>
  if v1 = 0 then ((gI M a0 11 10).bind fun v3 =>
  if v3 = 0 then ((gI M a0 11 9).bind fun v5 =>
  (gI M a0 11 8).bind fun v7 =>
  bd2 (f_J0_length_8abf5 fu a1 M) fun v9 M10 =>
  if (v5 - v7) = v9 then (f_X11_isWord_34 fu  fu a0 a1 0 M10)
  else (some (0, M10)))
  else (some (0, M)))
  else (some (0, M))
set_option maxHeartbeats 4000000 in
theorem ok_X11_isWord {G : GT} {fu : Nat} {a0 : Nat} {a1 : Nat} {M : List Ob} {out : Int32 × List Ob} (h : f_X11_isWord fu a0 a1 M = some out) : Sp G t_X11_isWord [.ref a0, .ref a1] M (oI out) := by
  refine Sp.of rfl (by decide +kernel) (cat_all rfl) (Nat.le_of_ble_eq_true rfl) ?_
  show X G t_X11_isWord [] 0 [some (.ref a0), some (.ref a1), none] [] M 0 0 (oI out)
  unfold f_X11_isWord at h
  refine X.aload_n (x := a0) (pc' := 1) dX11_isWord_0 rfl rfl rfl ?_
  obtain ⟨v1, e2, h⟩ := bindE h
  refine X.getf (pc' := 4) dX11_isWord_1 rfl fq_X11_99 (gI_spec e2) ?_
  refine X.if_ne (tgt := 30) (pc' := 7) dX11_isWord_4 (by decide) rfl (fun hc => ?_) (fun hc => ?_)
  · rw [if_neg hc] at h
    refine X.iconst (v := 0) (pc' := 31) dX11_isWord_30 rfl (by decide) ?_
    cases h
    exact X.iret (ty := .boolean) dX11_isWord_31 rfl rfl (Nat.le_of_ble_eq_true rfl) (Nat.le_of_ble_eq_true rfl) rfl
  · rw [if_pos hc] at h
    refine X.aload_n (x := a0) (pc' := 8) dX11_isWord_7 rfl rfl rfl ?_
    obtain ⟨v3, e4, h⟩ := bindE h
    refine X.getf (pc' := 11) dX11_isWord_8 rfl fq_X11_86 (gI_spec e4) ?_
    refine X.if_ne (tgt := 30) (pc' := 14) dX11_isWord_11 (by decide) rfl (fun hc => ?_) (fun hc => ?_)
    · rw [if_neg hc] at h
      refine X.iconst (v := 0) (pc' := 31) dX11_isWord_30 rfl (by decide) ?_
      cases h
      exact X.iret (ty := .boolean) dX11_isWord_31 rfl rfl (Nat.le_of_ble_eq_true rfl) (Nat.le_of_ble_eq_true rfl) rfl
    · rw [if_pos hc] at h
      refine X.aload_n (x := a0) (pc' := 15) dX11_isWord_14 rfl rfl rfl ?_
      obtain ⟨v5, e6, h⟩ := bindE h
      refine X.getf (pc' := 18) dX11_isWord_15 rfl fq_X11_76 (gI_spec e6) ?_
      refine X.aload_n (x := a0) (pc' := 19) dX11_isWord_18 rfl rfl rfl ?_
      obtain ⟨v7, e8, h⟩ := bindE h
      refine X.getf (pc' := 22) dX11_isWord_19 rfl fq_X11_79 (gI_spec e8) ?_
      refine X.isub (pc' := 23) dX11_isWord_22 rfl ?_
      refine X.aload_n (x := a1) (pc' := 24) dX11_isWord_23 rfl rfl rfl ?_
      obtain ⟨v9, M10, e11, h⟩ := bd2E h
      refine X.callT (b := a1) (v := some (.int v9)) (As := []) (st := [.int (v5 - v7)]) (M' := M10) (pc' := 27) dX11_isWord_24 rfl cl_X11_102 mi_J0_length_8abf5 me_J0_length_8abf5 (str_in_J0_length_8abf5 e11) ⟨⟨Nat.le_of_ble_eq_true rfl, Nat.le_of_ble_eq_true rfl⟩, Nat.le_of_ble_eq_true rfl, Nat.le_of_ble_eq_true rfl⟩ rfl (Nat.le_of_ble_eq_true rfl) (ok_J0_length_8abf5 (G := zs G) e11) ?_
      show X G t_X11_isWord [] 27 [some (.ref a0), some (.ref a1), none] [.int v9, .int (v5 - v7)] M10 0 0 _
      refine X.icmp_eq (tgt := 32) (pc' := 30) dX11_isWord_27 (by decide) rfl (fun hc => ?_) (fun hc => ?_)
      · rw [if_pos hc] at h
        refine X.iconst (v := 0) (pc' := 33) dX11_isWord_32 rfl (by decide) ?_
        refine X.istore_n (L' := [some (.ref a0), some (.ref a1), some (.int 0)]) (pc' := 34) dX11_isWord_33 rfl rfl (Nat.le_of_ble_eq_true rfl) rfl ?_
        refine ok_X11_isWord_34  fu _ _ _ _ h
      · rw [if_neg hc] at h
        refine X.iconst (v := 0) (pc' := 31) dX11_isWord_30 rfl (by decide) ?_
        cases h
        exact X.iret (ty := .boolean) dX11_isWord_31 rfl rfl (Nat.le_of_ble_eq_true rfl) (Nat.le_of_ble_eq_true rfl) rfl
def f_X11_fails (fu : Nat) (a0 : Nat) (a1 : Int32) (M : List Ob) : Option (Unit × List Ob) :=
  (gI M a0 11 12).bind fun v1 =>
  if v1 = 0 then ((pF M a0 11 12 (.int a1)).bind fun M3 =>
  (gI M3 a0 11 8).bind fun v5 =>
  (pF M3 a0 11 13 (.int v5)).bind fun M7 =>
  some ((), M7))
  else (some ((), M))
set_option maxHeartbeats 4000000 in
theorem ok_X11_fails {G : GT} {fu : Nat} {a0 : Nat} {a1 : Int32} {M : List Ob} {out : Unit × List Ob} (h : f_X11_fails fu a0 a1 M = some out) : Sp G t_X11_fails [.ref a0, .int a1] M (oU out) := by
  refine Sp.of rfl (by decide +kernel) (cat_all rfl) (Nat.le_of_ble_eq_true rfl) ?_
  show X G t_X11_fails [] 0 [some (.ref a0), some (.int a1)] [] M 0 0 (oU out)
  unfold f_X11_fails at h
  refine X.aload_n (x := a0) (pc' := 1) dX11_fails_0 rfl rfl rfl ?_
  obtain ⟨v1, e2, h⟩ := bindE h
  refine X.getf (pc' := 4) dX11_fails_1 rfl fq_X11_99 (gI_spec e2) ?_
  refine X.if_eq (tgt := 8) (pc' := 7) dX11_fails_4 (by decide) rfl (fun hc => ?_) (fun hc => ?_)
  · rw [if_pos hc] at h
    refine X.aload_n (x := a0) (pc' := 9) dX11_fails_8 rfl rfl rfl ?_
    refine X.iload_n (x := a1) (pc' := 10) dX11_fails_9 rfl rfl rfl ?_
    obtain ⟨M3, e4, h⟩ := bindE h
    refine X.putf (pc' := 13) dX11_fails_10 rfl fq_X11_99 rfl rfl e4 ?_
    refine X.aload_n (x := a0) (pc' := 14) dX11_fails_13 rfl rfl rfl ?_
    refine X.aload_n (x := a0) (pc' := 15) dX11_fails_14 rfl rfl rfl ?_
    obtain ⟨v5, e6, h⟩ := bindE h
    refine X.getf (pc' := 18) dX11_fails_15 rfl fq_X11_79 (gI_spec e6) ?_
    obtain ⟨M7, e8, h⟩ := bindE h
    refine X.putf (pc' := 21) dX11_fails_18 rfl fq_X11_112 rfl rfl e8 ?_
    cases h
    exact X.vret dX11_fails_21 rfl (Nat.le_of_ble_eq_true rfl) (Nat.le_of_ble_eq_true rfl) rfl
  · rw [if_neg hc] at h
    cases h
    exact X.vret dX11_fails_7 rfl (Nat.le_of_ble_eq_true rfl) (Nat.le_of_ble_eq_true rfl) rfl
def f_X11_isSemicolon (fu : Nat) (a0 : Nat) (M : List Ob) : Option (Int32 × List Ob) :=
  (gI M a0 11 12).bind fun v1 =>
  if v1 = 0 then ((gI M a0 11 10).bind fun v3 =>
  if v3 = 2 then ((gI M a0 11 8).bind fun v5 =>
  (hasO M a0 11).bind fun _ =>
  bd2 (f_X11_see fu a0 v5 M) fun v7 M8 =>
  if v7 = 59 then (some (1, M8))
  else (some (0, M8)))
  else (some (0, M)))
  else (some (0, M))
set_option maxHeartbeats 4000000 in
theorem ok_X11_isSemicolon {G : GT} {fu : Nat} {a0 : Nat} {M : List Ob} {out : Int32 × List Ob} (h : f_X11_isSemicolon fu a0 M = some out) : Sp G t_X11_isSemicolon [.ref a0] M (oI out) := by
  refine Sp.of rfl (by decide +kernel) (cat_all rfl) (Nat.le_of_ble_eq_true rfl) ?_
  show X G t_X11_isSemicolon [] 0 [some (.ref a0)] [] M 0 0 (oI out)
  unfold f_X11_isSemicolon at h
  refine X.aload_n (x := a0) (pc' := 1) dX11_isSemicolon_0 rfl rfl rfl ?_
  obtain ⟨v1, e2, h⟩ := bindE h
  refine X.getf (pc' := 4) dX11_isSemicolon_1 rfl fq_X11_99 (gI_spec e2) ?_
  refine X.if_ne (tgt := 32) (pc' := 7) dX11_isSemicolon_4 (by decide) rfl (fun hc => ?_) (fun hc => ?_)
  · rw [if_neg hc] at h
    refine X.iconst (v := 0) (pc' := 33) dX11_isSemicolon_32 rfl (by decide) ?_
    cases h
    exact X.iret (ty := .boolean) dX11_isSemicolon_33 rfl rfl (Nat.le_of_ble_eq_true rfl) (Nat.le_of_ble_eq_true rfl) rfl
  · rw [if_pos hc] at h
    refine X.aload_n (x := a0) (pc' := 8) dX11_isSemicolon_7 rfl rfl rfl ?_
    obtain ⟨v3, e4, h⟩ := bindE h
    refine X.getf (pc' := 11) dX11_isSemicolon_8 rfl fq_X11_86 (gI_spec e4) ?_
    refine X.iconst (v := 2) (pc' := 12) dX11_isSemicolon_11 rfl (by decide) ?_
    refine X.icmp_ne (tgt := 32) (pc' := 15) dX11_isSemicolon_12 (by decide) rfl (fun hc => ?_) (fun hc => ?_)
    · rw [if_neg hc] at h
      refine X.iconst (v := 0) (pc' := 33) dX11_isSemicolon_32 rfl (by decide) ?_
      cases h
      exact X.iret (ty := .boolean) dX11_isSemicolon_33 rfl rfl (Nat.le_of_ble_eq_true rfl) (Nat.le_of_ble_eq_true rfl) rfl
    · rw [if_pos hc] at h
      refine X.aload_n (x := a0) (pc' := 16) dX11_isSemicolon_15 rfl rfl rfl ?_
      refine X.aload_n (x := a0) (pc' := 17) dX11_isSemicolon_16 rfl rfl rfl ?_
      obtain ⟨v5, e6, h⟩ := bindE h
      refine X.getf (pc' := 20) dX11_isSemicolon_17 rfl fq_X11_79 (gI_spec e6) ?_
      obtain ⟨⟨⟩, e10, h⟩ := bindE h
      obtain ⟨v7, M8, e9, h⟩ := bd2E h
      refine X.callV (b := a0) (v := some (.int v7)) (As := [.int v5]) (st := []) (M' := M8) (pc' := 23) dX11_isSemicolon_20 rfl cl_X11_82 mi_X11_see me_X11_see mr_X11_see e10 ⟨⟨Nat.le_of_ble_eq_true rfl, Nat.le_of_ble_eq_true rfl⟩, Nat.le_of_ble_eq_true rfl, Nat.le_of_ble_eq_true rfl⟩ rfl (Nat.le_of_ble_eq_true rfl) (ok_X11_see (G := zs G) e9) ?_
      show X G t_X11_isSemicolon [] 23 [some (.ref a0)] [.int v7] M8 0 0 _
      refine X.bipush (v := 59) (pc' := 25) dX11_isSemicolon_23 rfl (by decide) ?_
      refine X.icmp_ne (tgt := 32) (pc' := 28) dX11_isSemicolon_25 (by decide) rfl (fun hc => ?_) (fun hc => ?_)
      · rw [if_neg hc] at h
        refine X.iconst (v := 0) (pc' := 33) dX11_isSemicolon_32 rfl (by decide) ?_
        cases h
        exact X.iret (ty := .boolean) dX11_isSemicolon_33 rfl rfl (Nat.le_of_ble_eq_true rfl) (Nat.le_of_ble_eq_true rfl) rfl
      · rw [if_pos hc] at h
        refine X.iconst (v := 1) (pc' := 29) dX11_isSemicolon_28 rfl (by decide) ?_
        refine X.goto (pc' := 33) dX11_isSemicolon_29 (by decide) ?_
        cases h
        exact X.iret (ty := .boolean) dX11_isSemicolon_33 rfl rfl (Nat.le_of_ble_eq_true rfl) (Nat.le_of_ble_eq_true rfl) rfl
def f_X11_must_10 (fu : Nat) (a0 : Nat) (M : List Ob) : Option (Unit × List Ob) :=
  (gI M a0 11 12).bind fun v1 =>
  if v1 = 0 then ((hasO M a0 11).bind fun _ =>
  bd2 (f_X11_next fu a0 M) fun _ M4 =>
  some ((), M4))
  else (some ((), M))
set_option maxHeartbeats 4000000 in
theorem ok_X11_must_10 {G : GT} {fu : Nat} {out : Unit × List Ob} {a0 : Nat} {M : List Ob} (h : f_X11_must_10 fu a0 M = some out) : X G t_X11_must [] 10 [some (.ref a0), none] [] M 0 0 (oU out) := by
  unfold f_X11_must_10 at h
  refine X.aload_n (x := a0) (pc' := 11) dX11_must_10 rfl rfl rfl ?_
  obtain ⟨v1, e2, h⟩ := bindE h
  refine X.getf (pc' := 14) dX11_must_11 rfl fq_X11_99 (gI_spec e2) ?_
  refine X.if_ne (tgt := 21) (pc' := 17) dX11_must_14 (by decide) rfl (fun hc => ?_) (fun hc => ?_)
  · rw [if_neg hc] at h
    cases h
    exact X.vret dX11_must_21 rfl (Nat.le_of_ble_eq_true rfl) (Nat.le_of_ble_eq_true rfl) rfl
  · rw [if_pos hc] at h
    refine X.aload_n (x := a0) (pc' := 18) dX11_must_17 rfl rfl rfl ?_
    obtain ⟨⟨⟩, e6, h⟩ := bindE h
    obtain ⟨r3, M4, e5, h⟩ := bd2E h
    refine X.callV (b := a0) (v := none) (As := []) (st := []) (M' := M4) (pc' := 21) dX11_must_18 rfl cl_X11_119 mi_X11_next me_X11_next mr_X11_next e6 ⟨⟨Nat.le_of_ble_eq_true rfl, Nat.le_of_ble_eq_true rfl⟩, Nat.le_of_ble_eq_true rfl, Nat.le_of_ble_eq_true rfl⟩ rfl (Nat.le_of_ble_eq_true rfl) (ok_X11_next (G := zs G) e5) ?_
    show X G t_X11_must [] 21 [some (.ref a0), none] [] M4 0 0 _
    cases h
    exact X.vret dX11_must_21 rfl (Nat.le_of_ble_eq_true rfl) (Nat.le_of_ble_eq_true rfl) rfl
def f_X11_must (fu : Nat) (a0 : Nat) (a1 : Int32) (M : List Ob) : Option (Unit × List Ob) :=
  if a1 = 0 then ((hasO M a0 11).bind fun _ =>
  bd2 (f_X11_fails fu a0 (-2) M) fun _ M2 =>
  f_X11_must_10 fu a0 M2)
  else (f_X11_must_10 fu a0 M)
set_option maxHeartbeats 4000000 in
theorem ok_X11_must {G : GT} {fu : Nat} {a0 : Nat} {a1 : Int32} {M : List Ob} {out : Unit × List Ob} (h : f_X11_must fu a0 a1 M = some out) : Sp G t_X11_must [.ref a0, .int a1] M (oU out) := by
  refine Sp.of rfl (by decide +kernel) (cat_all rfl) (Nat.le_of_ble_eq_true rfl) ?_
  show X G t_X11_must [] 0 [some (.ref a0), some (.int a1)] [] M 0 0 (oU out)
  unfold f_X11_must at h
  refine X.iload_n (x := a1) (pc' := 1) dX11_must_0 rfl rfl rfl ?_
  refine X.if_ne (tgt := 10) (pc' := 4) dX11_must_1 (by decide) rfl (fun hc => ?_) (fun hc => ?_)
  · rw [if_neg hc] at h
    refine X.sub (L := [some (.ref a0), none]) ?_ (⟨rfl, trivial⟩)
    exact ok_X11_must_10 h
  · rw [if_pos hc] at h
    refine X.aload_n (x := a0) (pc' := 5) dX11_must_4 rfl rfl rfl ?_
    refine X.bipush (v := (-2)) (pc' := 7) dX11_must_5 rfl (by decide) ?_
    obtain ⟨⟨⟩, e4, h⟩ := bindE h
    obtain ⟨r1, M2, e3, h⟩ := bd2E h
    refine X.callV (b := a0) (v := none) (As := [.int (-2)]) (st := []) (M' := M2) (pc' := 10) dX11_must_7 rfl cl_X11_115 mi_X11_fails me_X11_fails mr_X11_fails e4 ⟨⟨Nat.le_of_ble_eq_true rfl, Nat.le_of_ble_eq_true rfl⟩, Nat.le_of_ble_eq_true rfl, Nat.le_of_ble_eq_true rfl⟩ rfl (Nat.le_of_ble_eq_true rfl) (ok_X11_fails (G := zs G) e3) ?_
    show X G t_X11_must [] 10 [some (.ref a0), some (.int a1)] [] M2 0 0 _
    refine X.sub (L := [some (.ref a0), none]) ?_ (⟨rfl, trivial⟩)
    exact ok_X11_must_10 h
def f_X11_takes_72 (fu : Nat) (a0 : Nat) (b0 : Int32) (M : List Ob) : Option (Int32 × List Ob) :=
  (gI M a0 11 12).bind fun v1 =>
  if v1 = 0 then ((hasO M a0 11).bind fun _ =>
  bd2 (f_X11_next fu a0 M) fun _ M4 =>
  some (b0, M4))
  else (some (b0, M))
set_option maxHeartbeats 4000000 in
theorem ok_X11_takes_72 {G : GT} {fu : Nat} {out : Int32 × List Ob} {a0 : Nat} {b0 : Int32} {M : List Ob} (h : f_X11_takes_72 fu a0 b0 M = some out) : X G t_X11_takes [] 72 [some (.ref a0), none, none, none, none] [.int b0] M 0 0 (oI out) := by
  unfold f_X11_takes_72 at h
  refine X.istore (L' := [some (.ref a0), none, none, none, some (.int b0)]) (pc' := 74) dX11_takes_72 rfl (Nat.le_of_ble_eq_true rfl) rfl ?_
  refine X.aload_n (x := a0) (pc' := 75) dX11_takes_74 rfl rfl rfl ?_
  obtain ⟨v1, e2, h⟩ := bindE h
  refine X.getf (pc' := 78) dX11_takes_75 rfl fq_X11_99 (gI_spec e2) ?_
  refine X.if_ne (tgt := 85) (pc' := 81) dX11_takes_78 (by decide) rfl (fun hc => ?_) (fun hc => ?_)
  · rw [if_neg hc] at h
    refine X.iload (x := b0) (pc' := 87) dX11_takes_85 rfl rfl ?_
    cases h
    exact X.iret (ty := .int) dX11_takes_87 rfl rfl (Nat.le_of_ble_eq_true rfl) (Nat.le_of_ble_eq_true rfl) rfl
  · rw [if_pos hc] at h
    refine X.aload_n (x := a0) (pc' := 82) dX11_takes_81 rfl rfl rfl ?_
    obtain ⟨⟨⟩, e6, h⟩ := bindE h
    obtain ⟨r3, M4, e5, h⟩ := bd2E h
    refine X.callV (b := a0) (v := none) (As := []) (st := []) (M' := M4) (pc' := 85) dX11_takes_82 rfl cl_X11_119 mi_X11_next me_X11_next mr_X11_next e6 ⟨⟨Nat.le_of_ble_eq_true rfl, Nat.le_of_ble_eq_true rfl⟩, Nat.le_of_ble_eq_true rfl, Nat.le_of_ble_eq_true rfl⟩ rfl (Nat.le_of_ble_eq_true rfl) (ok_X11_next (G := zs G) e5) ?_
    show X G t_X11_takes [] 85 [some (.ref a0), none, none, none, some (.int b0)] [] M4 0 0 _
    refine X.iload (x := b0) (pc' := 87) dX11_takes_85 rfl rfl ?_
    cases h
    exact X.iret (ty := .int) dX11_takes_87 rfl rfl (Nat.le_of_ble_eq_true rfl) (Nat.le_of_ble_eq_true rfl) rfl
def f_X11_takes_57 (fu : Nat) (a0 : Nat) (M : List Ob) : Option (Int32 × List Ob) :=
  (gI M a0 11 12).bind fun v1 =>
  if v1 = 0 then ((gI M a0 11 11).bind fun v3 =>
  f_X11_takes_72 fu a0 v3 M)
  else (f_X11_takes_72 fu a0 0 M)
set_option maxHeartbeats 4000000 in
theorem ok_X11_takes_57 {G : GT} {fu : Nat} {out : Int32 × List Ob} {a0 : Nat} {M : List Ob} (h : f_X11_takes_57 fu a0 M = some out) : X G t_X11_takes [] 57 [some (.ref a0), none, none, none, none] [] M 0 0 (oI out) := by
  unfold f_X11_takes_57 at h
  refine X.aload_n (x := a0) (pc' := 58) dX11_takes_57 rfl rfl rfl ?_
  obtain ⟨v1, e2, h⟩ := bindE h
  refine X.getf (pc' := 61) dX11_takes_58 rfl fq_X11_99 (gI_spec e2) ?_
  refine X.if_ne (tgt := 71) (pc' := 64) dX11_takes_61 (by decide) rfl (fun hc => ?_) (fun hc => ?_)
  · rw [if_neg hc] at h
    refine X.iconst (v := 0) (pc' := 72) dX11_takes_71 rfl (by decide) ?_
    exact ok_X11_takes_72 h
  · rw [if_pos hc] at h
    refine X.aload_n (x := a0) (pc' := 65) dX11_takes_64 rfl rfl rfl ?_
    obtain ⟨v3, e4, h⟩ := bindE h
    refine X.getf (pc' := 68) dX11_takes_65 rfl fq_X11_96 (gI_spec e4) ?_
    refine X.goto (pc' := 72) dX11_takes_68 (by decide) ?_
    exact ok_X11_takes_72 h
def f_X11_takes_51 (fu : Nat) (a0 : Nat) (M : List Ob) : Option (Int32 × List Ob) :=
  (hasO M a0 11).bind fun _ =>
  bd2 (f_X11_fails fu a0 (-3) M) fun _ M2 =>
  f_X11_takes_57 fu a0 M2
set_option maxHeartbeats 4000000 in
theorem ok_X11_takes_51 {G : GT} {fu : Nat} {out : Int32 × List Ob} {a0 : Nat} {M : List Ob} (h : f_X11_takes_51 fu a0 M = some out) : X G t_X11_takes [] 51 [some (.ref a0), none, none, none, none] [] M 0 0 (oI out) := by
  unfold f_X11_takes_51 at h
  refine X.aload_n (x := a0) (pc' := 52) dX11_takes_51 rfl rfl rfl ?_
  refine X.bipush (v := (-3)) (pc' := 54) dX11_takes_52 rfl (by decide) ?_
  obtain ⟨⟨⟩, e4, h⟩ := bindE h
  obtain ⟨r1, M2, e3, h⟩ := bd2E h
  refine X.callV (b := a0) (v := none) (As := [.int (-3)]) (st := []) (M' := M2) (pc' := 57) dX11_takes_54 rfl cl_X11_115 mi_X11_fails me_X11_fails mr_X11_fails e4 ⟨⟨Nat.le_of_ble_eq_true rfl, Nat.le_of_ble_eq_true rfl⟩, Nat.le_of_ble_eq_true rfl, Nat.le_of_ble_eq_true rfl⟩ rfl (Nat.le_of_ble_eq_true rfl) (ok_X11_fails (G := zs G) e3) ?_
  show X G t_X11_takes [] 57 [some (.ref a0), none, none, none, none] [] M2 0 0 _
  exact ok_X11_takes_57 h
def f_X11_takes_24 (fu : Nat) (a0 : Nat) (a1 : Int32) (a2 : Int32) (a3 : Int32) (M : List Ob) : Option (Int32 × List Ob) :=
  (gI M a0 11 12).bind fun v1 =>
  if v1 = 0 then ((gI M a0 11 11).bind fun v3 =>
  bd2 (f_X11_isIn fu v3 a1 a2 M) fun v5 M6 =>
  if v5 = 0 then (f_X11_takes_51 fu a0 M6)
  else ((gI M6 a0 11 11).bind fun v9 =>
  if v9 = a3 then (f_X11_takes_51 fu a0 M6)
  else (f_X11_takes_57 fu a0 M6)))
  else (f_X11_takes_57 fu a0 M)
set_option maxHeartbeats 4000000 in
theorem ok_X11_takes_24 {G : GT} {fu : Nat} {out : Int32 × List Ob} {a0 : Nat} {a1 : Int32} {a2 : Int32} {a3 : Int32} {M : List Ob} (h : f_X11_takes_24 fu a0 a1 a2 a3 M = some out) : X G t_X11_takes [] 24 [some (.ref a0), some (.int a1), some (.int a2), some (.int a3), none] [] M 0 0 (oI out) := by
  unfold f_X11_takes_24 at h
  refine X.aload_n (x := a0) (pc' := 25) dX11_takes_24 rfl rfl rfl ?_
  obtain ⟨v1, e2, h⟩ := bindE h
  refine X.getf (pc' := 28) dX11_takes_25 rfl fq_X11_99 (gI_spec e2) ?_
  refine X.if_ne (tgt := 57) (pc' := 31) dX11_takes_28 (by decide) rfl (fun hc => ?_) (fun hc => ?_)
  · rw [if_neg hc] at h
    refine X.sub (L := [some (.ref a0), none, none, none, none]) ?_ (⟨rfl, trivial⟩)
    exact ok_X11_takes_57 h
  · rw [if_pos hc] at h
    refine X.aload_n (x := a0) (pc' := 32) dX11_takes_31 rfl rfl rfl ?_
    obtain ⟨v3, e4, h⟩ := bindE h
    refine X.getf (pc' := 35) dX11_takes_32 rfl fq_X11_96 (gI_spec e4) ?_
    refine X.iload_n (x := a1) (pc' := 36) dX11_takes_35 rfl rfl rfl ?_
    refine X.iload_n (x := a2) (pc' := 37) dX11_takes_36 rfl rfl rfl ?_
    obtain ⟨v5, M6, e7, h⟩ := bd2E h
    refine X.callS (v := some (.int v5)) (As := [.int v3, .int a1, .int a2]) (st := []) (M' := M6) (pc' := 40) dX11_takes_37 rfl cl_X11_72 ms_X11_isIn ⟨⟨Nat.le_of_ble_eq_true rfl, Nat.le_of_ble_eq_true rfl⟩, Nat.le_of_ble_eq_true rfl, Nat.le_of_ble_eq_true rfl⟩ rfl (Nat.le_of_ble_eq_true rfl) (ok_X11_isIn (G := zs G) e7) ?_
    show X G t_X11_takes [] 40 [some (.ref a0), some (.int a1), some (.int a2), some (.int a3), none] [.int v5] M6 0 0 _
    refine X.if_eq (tgt := 51) (pc' := 43) dX11_takes_40 (by decide) rfl (fun hc => ?_) (fun hc => ?_)
    · rw [if_pos hc] at h
      refine X.sub (L := [some (.ref a0), none, none, none, none]) ?_ (⟨rfl, trivial⟩)
      exact ok_X11_takes_51 h
    · rw [if_neg hc] at h
      refine X.aload_n (x := a0) (pc' := 44) dX11_takes_43 rfl rfl rfl ?_
      obtain ⟨v9, e10, h⟩ := bindE h
      refine X.getf (pc' := 47) dX11_takes_44 rfl fq_X11_96 (gI_spec e10) ?_
      refine X.iload_n (x := a3) (pc' := 48) dX11_takes_47 rfl rfl rfl ?_
      refine X.icmp_ne (tgt := 57) (pc' := 51) dX11_takes_48 (by decide) rfl (fun hc => ?_) (fun hc => ?_)
      · rw [if_neg hc] at h
        refine X.sub (L := [some (.ref a0), none, none, none, none]) ?_ (⟨rfl, trivial⟩)
        exact ok_X11_takes_57 h
      · rw [if_pos hc] at h
        refine X.sub (L := [some (.ref a0), none, none, none, none]) ?_ (⟨rfl, trivial⟩)
        exact ok_X11_takes_51 h
def f_X11_takes (fu : Nat) (a0 : Nat) (a1 : Int32) (a2 : Int32) (a3 : Int32) (M : List Ob) : Option (Int32 × List Ob) :=
  (gI M a0 11 12).bind fun v1 =>
  if v1 = 0 then ((gI M a0 11 10).bind fun v3 =>
  if v3 = 1 then (f_X11_takes_24 fu a0 a1 a2 a3 M)
  else ((hasO M a0 11).bind fun _ =>
  bd2 (f_X11_fails fu a0 (-2) M) fun _ M6 =>
  f_X11_takes_57 fu a0 M6))
  else (f_X11_takes_24 fu a0 a1 a2 a3 M)
set_option maxHeartbeats 4000000 in
theorem ok_X11_takes {G : GT} {fu : Nat} {a0 : Nat} {a1 : Int32} {a2 : Int32} {a3 : Int32} {M : List Ob} {out : Int32 × List Ob} (h : f_X11_takes fu a0 a1 a2 a3 M = some out) : Sp G t_X11_takes [.ref a0, .int a1, .int a2, .int a3] M (oI out) := by
  refine Sp.of rfl (by decide +kernel) (cat_all rfl) (Nat.le_of_ble_eq_true rfl) ?_
  show X G t_X11_takes [] 0 [some (.ref a0), some (.int a1), some (.int a2), some (.int a3), none] [] M 0 0 (oI out)
  unfold f_X11_takes at h
  refine X.aload_n (x := a0) (pc' := 1) dX11_takes_0 rfl rfl rfl ?_
  obtain ⟨v1, e2, h⟩ := bindE h
  refine X.getf (pc' := 4) dX11_takes_1 rfl fq_X11_99 (gI_spec e2) ?_
  refine X.if_ne (tgt := 24) (pc' := 7) dX11_takes_4 (by decide) rfl (fun hc => ?_) (fun hc => ?_)
  · rw [if_neg hc] at h
    exact ok_X11_takes_24 h
  · rw [if_pos hc] at h
    refine X.aload_n (x := a0) (pc' := 8) dX11_takes_7 rfl rfl rfl ?_
    obtain ⟨v3, e4, h⟩ := bindE h
    refine X.getf (pc' := 11) dX11_takes_8 rfl fq_X11_86 (gI_spec e4) ?_
    refine X.iconst (v := 1) (pc' := 12) dX11_takes_11 rfl (by decide) ?_
    refine X.icmp_eq (tgt := 24) (pc' := 15) dX11_takes_12 (by decide) rfl (fun hc => ?_) (fun hc => ?_)
    · rw [if_pos hc] at h
      exact ok_X11_takes_24 h
    · rw [if_neg hc] at h
      refine X.aload_n (x := a0) (pc' := 16) dX11_takes_15 rfl rfl rfl ?_
      refine X.bipush (v := (-2)) (pc' := 18) dX11_takes_16 rfl (by decide) ?_
      obtain ⟨⟨⟩, e8, h⟩ := bindE h
      obtain ⟨r5, M6, e7, h⟩ := bd2E h
      refine X.callV (b := a0) (v := none) (As := [.int (-2)]) (st := []) (M' := M6) (pc' := 21) dX11_takes_18 rfl cl_X11_115 mi_X11_fails me_X11_fails mr_X11_fails e8 ⟨⟨Nat.le_of_ble_eq_true rfl, Nat.le_of_ble_eq_true rfl⟩, Nat.le_of_ble_eq_true rfl, Nat.le_of_ble_eq_true rfl⟩ rfl (Nat.le_of_ble_eq_true rfl) (ok_X11_fails (G := zs G) e7) ?_
      show X G t_X11_takes [] 21 [some (.ref a0), some (.int a1), some (.int a2), some (.int a3), none] [] M6 0 0 _
      refine X.goto (pc' := 57) dX11_takes_21 (by decide) ?_
      refine X.sub (L := [some (.ref a0), none, none, none, none]) ?_ (⟨rfl, trivial⟩)
      exact ok_X11_takes_57 h
def f_X11_addsArc (fu : Nat) (a0 : Nat) (a1 : Int32) (a2 : Int32) (a3 : Int32) (a4 : Int32) (M : List Ob) : Option (Unit × List Ob) :=
  (aI M a0 13 4).bind fun v2 =>
  (aSet M a0 13 ((5 + (4 * v2)) + 0) (.int a1)).bind fun M4 =>
  (aSet M4 a0 13 ((5 + (4 * v2)) + 1) (.int a2)).bind fun M6 =>
  (aSet M6 a0 13 ((5 + (4 * v2)) + 2) (.int a3)).bind fun M8 =>
  (aSet M8 a0 13 ((5 + (4 * v2)) + 3) (.int a4)).bind fun M10 =>
  (aI M10 a0 13 4).bind fun v12 =>
  (aSet M10 a0 13 4 (.int (v12 + 1))).bind fun M14 =>
  some ((), M14)
set_option maxHeartbeats 4000000 in
theorem ok_X11_addsArc {G : GT} {fu : Nat} {a0 : Nat} {a1 : Int32} {a2 : Int32} {a3 : Int32} {a4 : Int32} {M : List Ob} {out : Unit × List Ob} (h : f_X11_addsArc fu a0 a1 a2 a3 a4 M = some out) : Sp G t_X11_addsArc [.ref a0, .int a1, .int a2, .int a3, .int a4] M (oU out) := by
  refine Sp.of rfl (by decide +kernel) (cat_all rfl) (Nat.le_of_ble_eq_true rfl) ?_
  show X G t_X11_addsArc [] 0 [some (.ref a0), some (.int a1), some (.int a2), some (.int a3), some (.int a4), none] [] M 0 0 (oU out)
  unfold f_X11_addsArc at h
  refine X.iconst (v := 5) (pc' := 1) dX11_addsArc_0 rfl (by decide) ?_
  refine X.iconst (v := 4) (pc' := 2) dX11_addsArc_1 rfl (by decide) ?_
  refine X.aload_n (x := a0) (pc' := 3) dX11_addsArc_2 rfl rfl rfl ?_
  refine X.iconst (v := 4) (pc' := 4) dX11_addsArc_3 rfl (by decide) ?_
  obtain ⟨v2, e1, h⟩ := bindE h
  refine X.iald (pc' := 5) dX11_addsArc_4 rfl e1 ?_
  refine X.imul (pc' := 6) dX11_addsArc_5 rfl ?_
  refine X.iadd (pc' := 7) dX11_addsArc_6 rfl ?_
  refine X.istore (L' := [some (.ref a0), some (.int a1), some (.int a2), some (.int a3), some (.int a4), some (.int (5 + (4 * v2)))]) (pc' := 9) dX11_addsArc_7 rfl (Nat.le_of_ble_eq_true rfl) rfl ?_
  refine X.aload_n (x := a0) (pc' := 10) dX11_addsArc_9 rfl rfl rfl ?_
  refine X.iload (x := (5 + (4 * v2))) (pc' := 12) dX11_addsArc_10 rfl rfl ?_
  refine X.iconst (v := 0) (pc' := 13) dX11_addsArc_12 rfl (by decide) ?_
  refine X.iadd (pc' := 14) dX11_addsArc_13 rfl ?_
  refine X.iload_n (x := a1) (pc' := 15) dX11_addsArc_14 rfl rfl rfl ?_
  obtain ⟨M4, e3, h⟩ := bindE h
  refine X.iast (pc' := 16) dX11_addsArc_15 rfl e3 ?_
  refine X.aload_n (x := a0) (pc' := 17) dX11_addsArc_16 rfl rfl rfl ?_
  refine X.iload (x := (5 + (4 * v2))) (pc' := 19) dX11_addsArc_17 rfl rfl ?_
  refine X.iconst (v := 1) (pc' := 20) dX11_addsArc_19 rfl (by decide) ?_
  refine X.iadd (pc' := 21) dX11_addsArc_20 rfl ?_
  refine X.iload_n (x := a2) (pc' := 22) dX11_addsArc_21 rfl rfl rfl ?_
  obtain ⟨M6, e5, h⟩ := bindE h
  refine X.iast (pc' := 23) dX11_addsArc_22 rfl e5 ?_
  refine X.aload_n (x := a0) (pc' := 24) dX11_addsArc_23 rfl rfl rfl ?_
  refine X.iload (x := (5 + (4 * v2))) (pc' := 26) dX11_addsArc_24 rfl rfl ?_
  refine X.iconst (v := 2) (pc' := 27) dX11_addsArc_26 rfl (by decide) ?_
  refine X.iadd (pc' := 28) dX11_addsArc_27 rfl ?_
  refine X.iload_n (x := a3) (pc' := 29) dX11_addsArc_28 rfl rfl rfl ?_
  obtain ⟨M8, e7, h⟩ := bindE h
  refine X.iast (pc' := 30) dX11_addsArc_29 rfl e7 ?_
  refine X.aload_n (x := a0) (pc' := 31) dX11_addsArc_30 rfl rfl rfl ?_
  refine X.iload (x := (5 + (4 * v2))) (pc' := 33) dX11_addsArc_31 rfl rfl ?_
  refine X.iconst (v := 3) (pc' := 34) dX11_addsArc_33 rfl (by decide) ?_
  refine X.iadd (pc' := 35) dX11_addsArc_34 rfl ?_
  refine X.iload (x := a4) (pc' := 37) dX11_addsArc_35 rfl rfl ?_
  obtain ⟨M10, e9, h⟩ := bindE h
  refine X.iast (pc' := 38) dX11_addsArc_37 rfl e9 ?_
  refine X.aload_n (x := a0) (pc' := 39) dX11_addsArc_38 rfl rfl rfl ?_
  refine X.iconst (v := 4) (pc' := 40) dX11_addsArc_39 rfl (by decide) ?_
  refine X.dup2 (pc' := 41) dX11_addsArc_40 rfl rfl rfl ?_
  obtain ⟨v12, e11, h⟩ := bindE h
  refine X.iald (pc' := 42) dX11_addsArc_41 rfl e11 ?_
  refine X.iconst (v := 1) (pc' := 43) dX11_addsArc_42 rfl (by decide) ?_
  refine X.iadd (pc' := 44) dX11_addsArc_43 rfl ?_
  obtain ⟨M14, e13, h⟩ := bindE h
  refine X.iast (pc' := 45) dX11_addsArc_44 rfl e13 ?_
  cases h
  exact X.vret dX11_addsArc_45 rfl (Nat.le_of_ble_eq_true rfl) (Nat.le_of_ble_eq_true rfl) rfl
def f_X11_readsArc_17 (fu : Nat) (a0 : Nat) (M : List Ob) : Option (Unit × List Ob) :=
  (hasO M a0 11).bind fun _ =>
  bd2 (f_X11_must fu a0 1 M) fun _ M2 =>
  (gP M2 a0 11 1).bind fun r5 =>
  (aI M2 r5 13 0).bind fun v8 =>
  (hasO M2 a0 11).bind fun _ =>
  bd2 (f_X11_takes fu a0 0 (v8 - 1) (-1) M2) fun v9 M10 =>
  (gP M10 a0 11 1).bind fun r13 =>
  (aI M10 r13 13 0).bind fun v16 =>
  (hasO M10 a0 11).bind fun _ =>
  bd2 (f_X11_takes fu a0 0 (v16 - 1) v9 M10) fun v17 M18 =>
  (hasO M18 a0 11).bind fun _ =>
  bd2 (f_X11_takes fu a0 0 99 (-1) M18) fun v21 M22 =>
  (hasO M22 a0 11).bind fun _ =>
  bd2 (f_X11_takes fu a0 0 99 (-1) M22) fun v25 M26 =>
  (gI M26 a0 11 12).bind fun v29 =>
  if v29 = 0 then ((gP M26 a0 11 1).bind fun r31 =>
  bd2 (f_X11_addsArc fu r31 v9 v17 v21 v25 M26) fun _ M34 =>
  some ((), M34))
  else (some ((), M26))
set_option maxHeartbeats 4000000 in
theorem ok_X11_readsArc_17 {G : GT} {fu : Nat} {out : Unit × List Ob} {a0 : Nat} {M : List Ob} (h : f_X11_readsArc_17 fu a0 M = some out) : X G t_X11_readsArc [] 17 [some (.ref a0), none, none, none, none] [] M 0 0 (oU out) := by
  unfold f_X11_readsArc_17 at h
  refine X.aload_n (x := a0) (pc' := 18) dX11_readsArc_17 rfl rfl rfl ?_
  refine X.iconst (v := 1) (pc' := 19) dX11_readsArc_18 rfl (by decide) ?_
  obtain ⟨⟨⟩, e4, h⟩ := bindE h
  obtain ⟨r1, M2, e3, h⟩ := bd2E h
  refine X.callV (b := a0) (v := none) (As := [.int 1]) (st := []) (M' := M2) (pc' := 22) dX11_readsArc_19 rfl cl_X11_122 mi_X11_must me_X11_must mr_X11_must e4 ⟨⟨Nat.le_of_ble_eq_true rfl, Nat.le_of_ble_eq_true rfl⟩, Nat.le_of_ble_eq_true rfl, Nat.le_of_ble_eq_true rfl⟩ rfl (Nat.le_of_ble_eq_true rfl) (ok_X11_must (G := zs G) e3) ?_
  show X G t_X11_readsArc [] 22 [some (.ref a0), none, none, none, none] [] M2 0 0 _
  refine X.aload_n (x := a0) (pc' := 23) dX11_readsArc_22 rfl rfl rfl ?_
  refine X.iconst (v := 0) (pc' := 24) dX11_readsArc_23 rfl (by decide) ?_
  refine X.aload_n (x := a0) (pc' := 25) dX11_readsArc_24 rfl rfl rfl ?_
  obtain ⟨r5, e6, h⟩ := bindE h
  refine X.getf (pc' := 28) dX11_readsArc_25 rfl fq_X11_13 (gP_spec e6) ?_
  refine X.iconst (v := 0) (pc' := 29) dX11_readsArc_28 rfl (by decide) ?_
  obtain ⟨v8, e7, h⟩ := bindE h
  refine X.iald (pc' := 30) dX11_readsArc_29 rfl e7 ?_
  refine X.iconst (v := 1) (pc' := 31) dX11_readsArc_30 rfl (by decide) ?_
  refine X.isub (pc' := 32) dX11_readsArc_31 rfl ?_
  refine X.iconst (v := (-1)) (pc' := 33) dX11_readsArc_32 rfl (by decide) ?_
  obtain ⟨⟨⟩, e12, h⟩ := bindE h
  obtain ⟨v9, M10, e11, h⟩ := bd2E h
  refine X.callV (b := a0) (v := some (.int v9)) (As := [.int 0, .int (v8 - 1), .int (-1)]) (st := []) (M' := M10) (pc' := 36) dX11_readsArc_33 rfl cl_X11_126 mi_X11_takes me_X11_takes mr_X11_takes e12 ⟨⟨Nat.le_of_ble_eq_true rfl, Nat.le_of_ble_eq_true rfl⟩, Nat.le_of_ble_eq_true rfl, Nat.le_of_ble_eq_true rfl⟩ rfl (Nat.le_of_ble_eq_true rfl) (ok_X11_takes (G := zs G) e11) ?_
  show X G t_X11_readsArc [] 36 [some (.ref a0), none, none, none, none] [.int v9] M10 0 0 _
  refine X.istore_n (L' := [some (.ref a0), some (.int v9), none, none, none]) (pc' := 37) dX11_readsArc_36 rfl rfl (Nat.le_of_ble_eq_true rfl) rfl ?_
  refine X.aload_n (x := a0) (pc' := 38) dX11_readsArc_37 rfl rfl rfl ?_
  refine X.iconst (v := 0) (pc' := 39) dX11_readsArc_38 rfl (by decide) ?_
  refine X.aload_n (x := a0) (pc' := 40) dX11_readsArc_39 rfl rfl rfl ?_
  obtain ⟨r13, e14, h⟩ := bindE h
  refine X.getf (pc' := 43) dX11_readsArc_40 rfl fq_X11_13 (gP_spec e14) ?_
  refine X.iconst (v := 0) (pc' := 44) dX11_readsArc_43 rfl (by decide) ?_
  obtain ⟨v16, e15, h⟩ := bindE h
  refine X.iald (pc' := 45) dX11_readsArc_44 rfl e15 ?_
  refine X.iconst (v := 1) (pc' := 46) dX11_readsArc_45 rfl (by decide) ?_
  refine X.isub (pc' := 47) dX11_readsArc_46 rfl ?_
  refine X.iload_n (x := v9) (pc' := 48) dX11_readsArc_47 rfl rfl rfl ?_
  obtain ⟨⟨⟩, e20, h⟩ := bindE h
  obtain ⟨v17, M18, e19, h⟩ := bd2E h
  refine X.callV (b := a0) (v := some (.int v17)) (As := [.int 0, .int (v16 - 1), .int v9]) (st := []) (M' := M18) (pc' := 51) dX11_readsArc_48 rfl cl_X11_126 mi_X11_takes me_X11_takes mr_X11_takes e20 ⟨⟨Nat.le_of_ble_eq_true rfl, Nat.le_of_ble_eq_true rfl⟩, Nat.le_of_ble_eq_true rfl, Nat.le_of_ble_eq_true rfl⟩ rfl (Nat.le_of_ble_eq_true rfl) (ok_X11_takes (G := zs G) e19) ?_
  show X G t_X11_readsArc [] 51 [some (.ref a0), some (.int v9), none, none, none] [.int v17] M18 0 0 _
  refine X.istore_n (L' := [some (.ref a0), some (.int v9), some (.int v17), none, none]) (pc' := 52) dX11_readsArc_51 rfl rfl (Nat.le_of_ble_eq_true rfl) rfl ?_
  refine X.aload_n (x := a0) (pc' := 53) dX11_readsArc_52 rfl rfl rfl ?_
  refine X.iconst (v := 0) (pc' := 54) dX11_readsArc_53 rfl (by decide) ?_
  refine X.bipush (v := 99) (pc' := 56) dX11_readsArc_54 rfl (by decide) ?_
  refine X.iconst (v := (-1)) (pc' := 57) dX11_readsArc_56 rfl (by decide) ?_
  obtain ⟨⟨⟩, e24, h⟩ := bindE h
  obtain ⟨v21, M22, e23, h⟩ := bd2E h
  refine X.callV (b := a0) (v := some (.int v21)) (As := [.int 0, .int 99, .int (-1)]) (st := []) (M' := M22) (pc' := 60) dX11_readsArc_57 rfl cl_X11_126 mi_X11_takes me_X11_takes mr_X11_takes e24 ⟨⟨Nat.le_of_ble_eq_true rfl, Nat.le_of_ble_eq_true rfl⟩, Nat.le_of_ble_eq_true rfl, Nat.le_of_ble_eq_true rfl⟩ rfl (Nat.le_of_ble_eq_true rfl) (ok_X11_takes (G := zs G) e23) ?_
  show X G t_X11_readsArc [] 60 [some (.ref a0), some (.int v9), some (.int v17), none, none] [.int v21] M22 0 0 _
  refine X.istore_n (L' := [some (.ref a0), some (.int v9), some (.int v17), some (.int v21), none]) (pc' := 61) dX11_readsArc_60 rfl rfl (Nat.le_of_ble_eq_true rfl) rfl ?_
  refine X.aload_n (x := a0) (pc' := 62) dX11_readsArc_61 rfl rfl rfl ?_
  refine X.iconst (v := 0) (pc' := 63) dX11_readsArc_62 rfl (by decide) ?_
  refine X.bipush (v := 99) (pc' := 65) dX11_readsArc_63 rfl (by decide) ?_
  refine X.iconst (v := (-1)) (pc' := 66) dX11_readsArc_65 rfl (by decide) ?_
  obtain ⟨⟨⟩, e28, h⟩ := bindE h
  obtain ⟨v25, M26, e27, h⟩ := bd2E h
  refine X.callV (b := a0) (v := some (.int v25)) (As := [.int 0, .int 99, .int (-1)]) (st := []) (M' := M26) (pc' := 69) dX11_readsArc_66 rfl cl_X11_126 mi_X11_takes me_X11_takes mr_X11_takes e28 ⟨⟨Nat.le_of_ble_eq_true rfl, Nat.le_of_ble_eq_true rfl⟩, Nat.le_of_ble_eq_true rfl, Nat.le_of_ble_eq_true rfl⟩ rfl (Nat.le_of_ble_eq_true rfl) (ok_X11_takes (G := zs G) e27) ?_
  show X G t_X11_readsArc [] 69 [some (.ref a0), some (.int v9), some (.int v17), some (.int v21), none] [.int v25] M26 0 0 _
  refine X.istore (L' := [some (.ref a0), some (.int v9), some (.int v17), some (.int v21), some (.int v25)]) (pc' := 71) dX11_readsArc_69 rfl (Nat.le_of_ble_eq_true rfl) rfl ?_
  refine X.aload_n (x := a0) (pc' := 72) dX11_readsArc_71 rfl rfl rfl ?_
  obtain ⟨v29, e30, h⟩ := bindE h
  refine X.getf (pc' := 75) dX11_readsArc_72 rfl fq_X11_99 (gI_spec e30) ?_
  refine X.if_ne (tgt := 90) (pc' := 78) dX11_readsArc_75 (by decide) rfl (fun hc => ?_) (fun hc => ?_)
  · rw [if_neg hc] at h
    cases h
    exact X.vret dX11_readsArc_90 rfl (Nat.le_of_ble_eq_true rfl) (Nat.le_of_ble_eq_true rfl) rfl
  · rw [if_pos hc] at h
    refine X.aload_n (x := a0) (pc' := 79) dX11_readsArc_78 rfl rfl rfl ?_
    obtain ⟨r31, e32, h⟩ := bindE h
    refine X.getf (pc' := 82) dX11_readsArc_79 rfl fq_X11_13 (gP_spec e32) ?_
    refine X.iload_n (x := v9) (pc' := 83) dX11_readsArc_82 rfl rfl rfl ?_
    refine X.iload_n (x := v17) (pc' := 84) dX11_readsArc_83 rfl rfl rfl ?_
    refine X.iload_n (x := v21) (pc' := 85) dX11_readsArc_84 rfl rfl rfl ?_
    refine X.iload (x := v25) (pc' := 87) dX11_readsArc_85 rfl rfl ?_
    obtain ⟨r33, M34, e35, h⟩ := bd2E h
    refine X.callS (v := none) (As := [.ref r31, .int v9, .int v17, .int v21, .int v25]) (st := []) (M' := M34) (pc' := 90) dX11_readsArc_87 rfl cl_X11_130 ms_X11_addsArc ⟨⟨Nat.le_of_ble_eq_true rfl, Nat.le_of_ble_eq_true rfl⟩, Nat.le_of_ble_eq_true rfl, Nat.le_of_ble_eq_true rfl⟩ rfl (Nat.le_of_ble_eq_true rfl) (ok_X11_addsArc (G := zs G) e35) ?_
    show X G t_X11_readsArc [] 90 [some (.ref a0), some (.int v9), some (.int v17), some (.int v21), some (.int v25)] [] M34 0 0 _
    cases h
    exact X.vret dX11_readsArc_90 rfl (Nat.le_of_ble_eq_true rfl) (Nat.le_of_ble_eq_true rfl) rfl
def f_X11_readsArc (fu : Nat) (a0 : Nat) (M : List Ob) : Option (Unit × List Ob) :=
  (gP M a0 11 1).bind fun r1 =>
  (aI M r1 13 4).bind fun v4 =>
  if v4 = 16 then ((hasO M a0 11).bind fun _ =>
  bd2 (f_X11_fails fu a0 (-4) M) fun _ M6 =>
  f_X11_readsArc_17 fu a0 M6)
  else (f_X11_readsArc_17 fu a0 M)
set_option maxHeartbeats 4000000 in
theorem ok_X11_readsArc {G : GT} {fu : Nat} {a0 : Nat} {M : List Ob} {out : Unit × List Ob} (h : f_X11_readsArc fu a0 M = some out) : Sp G t_X11_readsArc [.ref a0] M (oU out) := by
  refine Sp.of rfl (by decide +kernel) (cat_all rfl) (Nat.le_of_ble_eq_true rfl) ?_
  show X G t_X11_readsArc [] 0 [some (.ref a0), none, none, none, none] [] M 0 0 (oU out)
  unfold f_X11_readsArc at h
  refine X.aload_n (x := a0) (pc' := 1) dX11_readsArc_0 rfl rfl rfl ?_
  obtain ⟨r1, e2, h⟩ := bindE h
  refine X.getf (pc' := 4) dX11_readsArc_1 rfl fq_X11_13 (gP_spec e2) ?_
  refine X.iconst (v := 4) (pc' := 5) dX11_readsArc_4 rfl (by decide) ?_
  obtain ⟨v4, e3, h⟩ := bindE h
  refine X.iald (pc' := 6) dX11_readsArc_5 rfl e3 ?_
  refine X.bipush (v := 16) (pc' := 8) dX11_readsArc_6 rfl (by decide) ?_
  refine X.icmp_ne (tgt := 17) (pc' := 11) dX11_readsArc_8 (by decide) rfl (fun hc => ?_) (fun hc => ?_)
  · rw [if_neg hc] at h
    exact ok_X11_readsArc_17 h
  · rw [if_pos hc] at h
    refine X.aload_n (x := a0) (pc' := 12) dX11_readsArc_11 rfl rfl rfl ?_
    refine X.bipush (v := (-4)) (pc' := 14) dX11_readsArc_12 rfl (by decide) ?_
    obtain ⟨⟨⟩, e8, h⟩ := bindE h
    obtain ⟨r5, M6, e7, h⟩ := bd2E h
    refine X.callV (b := a0) (v := none) (As := [.int (-4)]) (st := []) (M' := M6) (pc' := 17) dX11_readsArc_14 rfl cl_X11_115 mi_X11_fails me_X11_fails mr_X11_fails e8 ⟨⟨Nat.le_of_ble_eq_true rfl, Nat.le_of_ble_eq_true rfl⟩, Nat.le_of_ble_eq_true rfl, Nat.le_of_ble_eq_true rfl⟩ rfl (Nat.le_of_ble_eq_true rfl) (ok_X11_fails (G := zs G) e7) ?_
    show X G t_X11_readsArc [] 17 [some (.ref a0), none, none, none, none] [] M6 0 0 _
    exact ok_X11_readsArc_17 h
def f_X11_arcOf (fu : Nat) (a0 : Nat) (a1 : Int32) (a2 : Int32) (M : List Ob) : Option (Int32 × List Ob) :=
  (aI M a0 13 ((5 + (4 * a1)) + a2)).bind fun v2 =>
  some (v2, M)
set_option maxHeartbeats 4000000 in
theorem ok_X11_arcOf {G : GT} {fu : Nat} {a0 : Nat} {a1 : Int32} {a2 : Int32} {M : List Ob} {out : Int32 × List Ob} (h : f_X11_arcOf fu a0 a1 a2 M = some out) : Sp G t_X11_arcOf [.ref a0, .int a1, .int a2] M (oI out) := by
  refine Sp.of rfl (by decide +kernel) (cat_all rfl) (Nat.le_of_ble_eq_true rfl) ?_
  show X G t_X11_arcOf [] 0 [some (.ref a0), some (.int a1), some (.int a2)] [] M 0 0 (oI out)
  unfold f_X11_arcOf at h
  refine X.aload_n (x := a0) (pc' := 1) dX11_arcOf_0 rfl rfl rfl ?_
  refine X.iconst (v := 5) (pc' := 2) dX11_arcOf_1 rfl (by decide) ?_
  refine X.iconst (v := 4) (pc' := 3) dX11_arcOf_2 rfl (by decide) ?_
  refine X.iload_n (x := a1) (pc' := 4) dX11_arcOf_3 rfl rfl rfl ?_
  refine X.imul (pc' := 5) dX11_arcOf_4 rfl ?_
  refine X.iadd (pc' := 6) dX11_arcOf_5 rfl ?_
  refine X.iload_n (x := a2) (pc' := 7) dX11_arcOf_6 rfl rfl rfl ?_
  refine X.iadd (pc' := 8) dX11_arcOf_7 rfl ?_
  obtain ⟨v2, e1, h⟩ := bindE h
  refine X.iald (pc' := 9) dX11_arcOf_8 rfl e1 ?_
  cases h
  exact X.iret (ty := .int) dX11_arcOf_9 rfl rfl (Nat.le_of_ble_eq_true rfl) (Nat.le_of_ble_eq_true rfl) rfl
def f_X11_draftEnd (fu : Nat) (a0 : Nat) (M : List Ob) : Option (Int32 × List Ob) :=
  (aI M a0 13 118).bind fun v2 =>
  if v2 = 0 then ((aI M a0 13 1).bind fun v12 =>
  some (v12, M))
  else ((aI M a0 13 118).bind fun v4 =>
  (aI M a0 13 (118 + v4)).bind fun v6 =>
  bd2 (f_X11_arcOf fu a0 v6 1 M) fun v7 M8 =>
  some (v7, M8))
set_option maxHeartbeats 4000000 in
theorem ok_X11_draftEnd {G : GT} {fu : Nat} {a0 : Nat} {M : List Ob} {out : Int32 × List Ob} (h : f_X11_draftEnd fu a0 M = some out) : Sp G t_X11_draftEnd [.ref a0] M (oI out) := by
  refine Sp.of rfl (by decide +kernel) (cat_all rfl) (Nat.le_of_ble_eq_true rfl) ?_
  show X G t_X11_draftEnd [] 0 [some (.ref a0)] [] M 0 0 (oI out)
  unfold f_X11_draftEnd at h
  refine X.aload_n (x := a0) (pc' := 1) dX11_draftEnd_0 rfl rfl rfl ?_
  refine X.bipush (v := 118) (pc' := 3) dX11_draftEnd_1 rfl (by decide) ?_
  obtain ⟨v2, e1, h⟩ := bindE h
  refine X.iald (pc' := 4) dX11_draftEnd_3 rfl e1 ?_
  refine X.if_ne (tgt := 13) (pc' := 7) dX11_draftEnd_4 (by decide) rfl (fun hc => ?_) (fun hc => ?_)
  · rw [if_neg hc] at h
    refine X.aload_n (x := a0) (pc' := 14) dX11_draftEnd_13 rfl rfl rfl ?_
    refine X.aload_n (x := a0) (pc' := 15) dX11_draftEnd_14 rfl rfl rfl ?_
    refine X.bipush (v := 118) (pc' := 17) dX11_draftEnd_15 rfl (by decide) ?_
    refine X.aload_n (x := a0) (pc' := 18) dX11_draftEnd_17 rfl rfl rfl ?_
    refine X.bipush (v := 118) (pc' := 20) dX11_draftEnd_18 rfl (by decide) ?_
    obtain ⟨v4, e3, h⟩ := bindE h
    refine X.iald (pc' := 21) dX11_draftEnd_20 rfl e3 ?_
    refine X.iadd (pc' := 22) dX11_draftEnd_21 rfl ?_
    obtain ⟨v6, e5, h⟩ := bindE h
    refine X.iald (pc' := 23) dX11_draftEnd_22 rfl e5 ?_
    refine X.iconst (v := 1) (pc' := 24) dX11_draftEnd_23 rfl (by decide) ?_
    obtain ⟨v7, M8, e9, h⟩ := bd2E h
    refine X.callS (v := some (.int v7)) (As := [.ref a0, .int v6, .int 1]) (st := []) (M' := M8) (pc' := 27) dX11_draftEnd_24 rfl cl_X11_179 ms_X11_arcOf ⟨⟨Nat.le_of_ble_eq_true rfl, Nat.le_of_ble_eq_true rfl⟩, Nat.le_of_ble_eq_true rfl, Nat.le_of_ble_eq_true rfl⟩ rfl (Nat.le_of_ble_eq_true rfl) (ok_X11_arcOf (G := zs G) e9) ?_
    show X G t_X11_draftEnd [] 27 [some (.ref a0)] [.int v7] M8 0 0 _
    cases h
    exact X.iret (ty := .int) dX11_draftEnd_27 rfl rfl (Nat.le_of_ble_eq_true rfl) (Nat.le_of_ble_eq_true rfl) rfl
  · rw [if_pos hc] at h
    refine X.aload_n (x := a0) (pc' := 8) dX11_draftEnd_7 rfl rfl rfl ?_
    refine X.iconst (v := 1) (pc' := 9) dX11_draftEnd_8 rfl (by decide) ?_
    obtain ⟨v12, e11, h⟩ := bindE h
    refine X.iald (pc' := 10) dX11_draftEnd_9 rfl e11 ?_
    refine X.goto (pc' := 27) dX11_draftEnd_10 (by decide) ?_
    cases h
    exact X.iret (ty := .int) dX11_draftEnd_27 rfl rfl (Nat.le_of_ble_eq_true rfl) (Nat.le_of_ble_eq_true rfl) rfl
def f_X11_isOnDraft_47 (fu : Nat) (a0 : Nat) (a1 : Int32) (a3 : Int32) (b0 : Int32) (M : List Ob) (k15 : Nat → Int32 → Int32 → Int32 → List Ob → Option (Int32 × List Ob)) : Option (Int32 × List Ob) :=
  k15 a0 a1 b0 (a3 + 1) M
set_option maxHeartbeats 4000000 in
theorem ok_X11_isOnDraft_47 {G : GT} {fu : Nat} {out : Int32 × List Ob} {a0 : Nat} {a1 : Int32} {a3 : Int32} {b0 : Int32} {M : List Ob} {k15 : Nat → Int32 → Int32 → Int32 → List Ob → Option (Int32 × List Ob)} (hk15 : ∀ (a0 : Nat) (a1 : Int32) (a2 : Int32) (a3 : Int32) (M : List Ob), k15 a0 a1 a2 a3 M = some out → X G t_X11_isOnDraft [] 15 [some (.ref a0), some (.int a1), some (.int a2), some (.int a3)] [] M 0 0 (oI out)) (h : f_X11_isOnDraft_47 fu a0 a1 a3 b0 M k15 = some out) : X G t_X11_isOnDraft [] 47 [some (.ref a0), some (.int a1), none, some (.int a3)] [.int b0] M 0 0 (oI out) := by
  unfold f_X11_isOnDraft_47 at h
  refine X.istore_n (L' := [some (.ref a0), some (.int a1), some (.int b0), some (.int a3)]) (pc' := 48) dX11_isOnDraft_47 rfl rfl (Nat.le_of_ble_eq_true rfl) rfl ?_
  refine X.iinc (v := (a3 + 1)) (L' := [some (.ref a0), some (.int a1), some (.int b0), some (.int (a3 + 1))]) (pc' := 51) dX11_isOnDraft_48 rfl rfl (congrArg (fun y => a3 + y) (show Int32.ofInt 1 = 1 by decide)) (Nat.le_of_ble_eq_true rfl) rfl ?_
  refine X.goto (pc' := 15) dX11_isOnDraft_51 (by decide) ?_
  exact hk15 _ _ _ _ _ h
def f_X11_isOnDraft_42 (fu : Nat) (a0 : Nat) (a1 : Int32) (a3 : Int32) (M : List Ob) (k15 : Nat → Int32 → Int32 → Int32 → List Ob → Option (Int32 × List Ob)) : Option (Int32 × List Ob) :=
  f_X11_isOnDraft_47 fu a0 a1 a3 1 M k15
set_option maxHeartbeats 4000000 in
theorem ok_X11_isOnDraft_42 {G : GT} {fu : Nat} {out : Int32 × List Ob} {a0 : Nat} {a1 : Int32} {a3 : Int32} {M : List Ob} {k15 : Nat → Int32 → Int32 → Int32 → List Ob → Option (Int32 × List Ob)} (hk15 : ∀ (a0 : Nat) (a1 : Int32) (a2 : Int32) (a3 : Int32) (M : List Ob), k15 a0 a1 a2 a3 M = some out → X G t_X11_isOnDraft [] 15 [some (.ref a0), some (.int a1), some (.int a2), some (.int a3)] [] M 0 0 (oI out)) (h : f_X11_isOnDraft_42 fu a0 a1 a3 M k15 = some out) : X G t_X11_isOnDraft [] 42 [some (.ref a0), some (.int a1), none, some (.int a3)] [] M 0 0 (oI out) := by
  unfold f_X11_isOnDraft_42 at h
  refine X.iconst (v := 1) (pc' := 43) dX11_isOnDraft_42 rfl (by decide) ?_
  refine X.goto (pc' := 47) dX11_isOnDraft_43 (by decide) ?_
  exact ok_X11_isOnDraft_47 hk15 h
def f_X11_isOnDraft_15b (fu : Nat) (a0 : Nat) (a1 : Int32) (a2 : Int32) (a3 : Int32) (M : List Ob) (k15 : Nat → Int32 → Int32 → Int32 → List Ob → Option (Int32 × List Ob)) : Option (Int32 × List Ob) :=
  (aI M a0 13 118).bind fun v2 =>
  if v2 < a3 then (if a2 &&& 1 = a2 then some (a2, M) else none)
  else (if a2 = 0 then ((aI M a0 13 (118 + a3)).bind fun v4 =>
  bd2 (f_X11_arcOf fu a0 v4 1 M) fun v5 M6 =>
  if v5 = a1 then (f_X11_isOnDraft_42 fu a0 a1 a3 M6 k15)
  else (f_X11_isOnDraft_47 fu a0 a1 a3 0 M6 k15))
  else (f_X11_isOnDraft_42 fu a0 a1 a3 M k15))
set_option maxHeartbeats 4000000 in
theorem ok_X11_isOnDraft_15b {G : GT} {fu : Nat} {out : Int32 × List Ob} {a0 : Nat} {a1 : Int32} {a2 : Int32} {a3 : Int32} {M : List Ob} {k15 : Nat → Int32 → Int32 → Int32 → List Ob → Option (Int32 × List Ob)} (hk15 : ∀ (a0 : Nat) (a1 : Int32) (a2 : Int32) (a3 : Int32) (M : List Ob), k15 a0 a1 a2 a3 M = some out → X G t_X11_isOnDraft [] 15 [some (.ref a0), some (.int a1), some (.int a2), some (.int a3)] [] M 0 0 (oI out)) (h : f_X11_isOnDraft_15b fu a0 a1 a2 a3 M k15 = some out) : X G t_X11_isOnDraft [] 15 [some (.ref a0), some (.int a1), some (.int a2), some (.int a3)] [] M 0 0 (oI out) := by
  unfold f_X11_isOnDraft_15b at h
  refine X.iload_n (x := a3) (pc' := 16) dX11_isOnDraft_15 rfl rfl rfl ?_
  refine X.aload_n (x := a0) (pc' := 17) dX11_isOnDraft_16 rfl rfl rfl ?_
  refine X.bipush (v := 118) (pc' := 19) dX11_isOnDraft_17 rfl (by decide) ?_
  obtain ⟨v2, e1, h⟩ := bindE h
  refine X.iald (pc' := 20) dX11_isOnDraft_19 rfl e1 ?_
  refine X.icmp_gt (tgt := 54) (pc' := 23) dX11_isOnDraft_20 (by decide) rfl (fun hc => ?_) (fun hc => ?_)
  · rw [if_pos hc] at h
    refine X.iload_n (x := a2) (pc' := 55) dX11_isOnDraft_54 rfl rfl rfl ?_
    split at h
    rotate_left
    · cases h
    rename_i hz1
    cases h
    exact X.iret (ty := .boolean) dX11_isOnDraft_55 rfl (congrArg Value.int hz1) (Nat.le_of_ble_eq_true rfl) (Nat.le_of_ble_eq_true rfl) rfl
  · rw [if_neg hc] at h
    refine X.iload_n (x := a2) (pc' := 24) dX11_isOnDraft_23 rfl rfl rfl ?_
    refine X.if_ne (tgt := 42) (pc' := 27) dX11_isOnDraft_24 (by decide) rfl (fun hc => ?_) (fun hc => ?_)
    · rw [if_neg hc] at h
      refine X.sub (L := [some (.ref a0), some (.int a1), none, some (.int a3)]) ?_ (⟨rfl, ⟨rfl, ⟨rfl, trivial⟩⟩⟩)
      exact ok_X11_isOnDraft_42 hk15 h
    · rw [if_pos hc] at h
      refine X.aload_n (x := a0) (pc' := 28) dX11_isOnDraft_27 rfl rfl rfl ?_
      refine X.aload_n (x := a0) (pc' := 29) dX11_isOnDraft_28 rfl rfl rfl ?_
      refine X.bipush (v := 118) (pc' := 31) dX11_isOnDraft_29 rfl (by decide) ?_
      refine X.iload_n (x := a3) (pc' := 32) dX11_isOnDraft_31 rfl rfl rfl ?_
      refine X.iadd (pc' := 33) dX11_isOnDraft_32 rfl ?_
      obtain ⟨v4, e3, h⟩ := bindE h
      refine X.iald (pc' := 34) dX11_isOnDraft_33 rfl e3 ?_
      refine X.iconst (v := 1) (pc' := 35) dX11_isOnDraft_34 rfl (by decide) ?_
      obtain ⟨v5, M6, e7, h⟩ := bd2E h
      refine X.callS (v := some (.int v5)) (As := [.ref a0, .int v4, .int 1]) (st := []) (M' := M6) (pc' := 38) dX11_isOnDraft_35 rfl cl_X11_179 ms_X11_arcOf ⟨⟨Nat.le_of_ble_eq_true rfl, Nat.le_of_ble_eq_true rfl⟩, Nat.le_of_ble_eq_true rfl, Nat.le_of_ble_eq_true rfl⟩ rfl (Nat.le_of_ble_eq_true rfl) (ok_X11_arcOf (G := zs G) e7) ?_
      show X G t_X11_isOnDraft [] 38 [some (.ref a0), some (.int a1), some (.int a2), some (.int a3)] [.int v5] M6 0 0 _
      refine X.iload_n (x := a1) (pc' := 39) dX11_isOnDraft_38 rfl rfl rfl ?_
      refine X.icmp_ne (tgt := 46) (pc' := 42) dX11_isOnDraft_39 (by decide) rfl (fun hc => ?_) (fun hc => ?_)
      · rw [if_neg hc] at h
        refine X.iconst (v := 0) (pc' := 47) dX11_isOnDraft_46 rfl (by decide) ?_
        refine X.sub (L := [some (.ref a0), some (.int a1), none, some (.int a3)]) ?_ (⟨rfl, ⟨rfl, ⟨rfl, trivial⟩⟩⟩)
        exact ok_X11_isOnDraft_47 hk15 h
      · rw [if_pos hc] at h
        refine X.sub (L := [some (.ref a0), some (.int a1), none, some (.int a3)]) ?_ (⟨rfl, ⟨rfl, ⟨rfl, trivial⟩⟩⟩)
        exact ok_X11_isOnDraft_42 hk15 h
def f_X11_isOnDraft_15 (fu : Nat) : Nat → Nat → Int32 → Int32 → Int32 → List Ob → Option (Int32 × List Ob)
  | 0, _, _, _, _, _ => none
  | n + 1, a0, a1, a2, a3, M => f_X11_isOnDraft_15b fu a0 a1 a2 a3 M (fun a0 a1 a2 a3 M => f_X11_isOnDraft_15 fu n a0 a1 a2 a3 M)
theorem ok_X11_isOnDraft_15 {G : GT} {fu : Nat} {out : Int32 × List Ob} : ∀ (n : Nat) (a0 : Nat) (a1 : Int32) (a2 : Int32) (a3 : Int32) (M : List Ob), f_X11_isOnDraft_15 fu n a0 a1 a2 a3 M = some out → X G t_X11_isOnDraft [] 15 [some (.ref a0), some (.int a1), some (.int a2), some (.int a3)] [] M 0 0 (oI out) := by
  intro n
  induction n with
  | zero =>
    intro a0 a1 a2 a3 M h
    unfold f_X11_isOnDraft_15 at h
    cases h
  | succ n ih =>
    intro a0 a1 a2 a3 M h
    unfold f_X11_isOnDraft_15 at h
    exact ok_X11_isOnDraft_15b ih h
def f_X11_isOnDraft_12 (fu : Nat) (a0 : Nat) (a1 : Int32) (b0 : Int32) (M : List Ob) : Option (Int32 × List Ob) :=
  f_X11_isOnDraft_15 fu  fu a0 a1 b0 1 M
set_option maxHeartbeats 4000000 in
theorem ok_X11_isOnDraft_12 {G : GT} {fu : Nat} {out : Int32 × List Ob} {a0 : Nat} {a1 : Int32} {b0 : Int32} {M : List Ob} (h : f_X11_isOnDraft_12 fu a0 a1 b0 M = some out) : X G t_X11_isOnDraft [] 12 [some (.ref a0), some (.int a1), none, none] [.int b0] M 0 0 (oI out) := by
  unfold f_X11_isOnDraft_12 at h
  refine X.istore_n (L' := [some (.ref a0), some (.int a1), some (.int b0), none]) (pc' := 13) dX11_isOnDraft_12 rfl rfl (Nat.le_of_ble_eq_true rfl) rfl ?_
  refine X.iconst (v := 1) (pc' := 14) dX11_isOnDraft_13 rfl (by decide) ?_
  refine X.istore_n (L' := [some (.ref a0), some (.int a1), some (.int b0), some (.int 1)]) (pc' := 15) dX11_isOnDraft_14 rfl rfl (Nat.le_of_ble_eq_true rfl) rfl ?_
  refine ok_X11_isOnDraft_15  fu _ _ _ _ _ h
def f_X11_isOnDraft (fu : Nat) (a0 : Nat) (a1 : Int32) (M : List Ob) : Option (Int32 × List Ob) :=
  (aI M a0 13 1).bind fun v2 =>
  if a1 = v2 then (f_X11_isOnDraft_12 fu a0 a1 1 M)
  else (f_X11_isOnDraft_12 fu a0 a1 0 M)
set_option maxHeartbeats 4000000 in
theorem ok_X11_isOnDraft {G : GT} {fu : Nat} {a0 : Nat} {a1 : Int32} {M : List Ob} {out : Int32 × List Ob} (h : f_X11_isOnDraft fu a0 a1 M = some out) : Sp G t_X11_isOnDraft [.ref a0, .int a1] M (oI out) := by
  refine Sp.of rfl (by decide +kernel) (cat_all rfl) (Nat.le_of_ble_eq_true rfl) ?_
  show X G t_X11_isOnDraft [] 0 [some (.ref a0), some (.int a1), none, none] [] M 0 0 (oI out)
  unfold f_X11_isOnDraft at h
  refine X.iload_n (x := a1) (pc' := 1) dX11_isOnDraft_0 rfl rfl rfl ?_
  refine X.aload_n (x := a0) (pc' := 2) dX11_isOnDraft_1 rfl rfl rfl ?_
  refine X.iconst (v := 1) (pc' := 3) dX11_isOnDraft_2 rfl (by decide) ?_
  obtain ⟨v2, e1, h⟩ := bindE h
  refine X.iald (pc' := 4) dX11_isOnDraft_3 rfl e1 ?_
  refine X.icmp_ne (tgt := 11) (pc' := 7) dX11_isOnDraft_4 (by decide) rfl (fun hc => ?_) (fun hc => ?_)
  · rw [if_neg hc] at h
    refine X.iconst (v := 0) (pc' := 12) dX11_isOnDraft_11 rfl (by decide) ?_
    exact ok_X11_isOnDraft_12 h
  · rw [if_pos hc] at h
    refine X.iconst (v := 1) (pc' := 8) dX11_isOnDraft_7 rfl (by decide) ?_
    refine X.goto (pc' := 12) dX11_isOnDraft_8 (by decide) ?_
    exact ok_X11_isOnDraft_12 h
def f_X11_canGo (fu : Nat) (a0 : Nat) (a1 : Int32) (M : List Ob) : Option (Int32 × List Ob) :=
  bd2 (f_X11_draftEnd fu a0 M) fun v1 M2 =>
  (aI M2 a0 13 4).bind fun v6 =>
  bd2 (f_X11_isIn fu a1 0 (v6 - 1) M2) fun v7 M8 =>
  if v7 = 0 then (some (0, M8))
  else ((aI M8 a0 13 2).bind fun v12 =>
  if v1 = v12 then (some (0, M8))
  else (bd2 (f_X11_arcOf fu a0 a1 0 M8) fun v13 M14 =>
  if v13 = v1 then (bd2 (f_X11_arcOf fu a0 a1 1 M14) fun v17 M18 =>
  bd2 (f_X11_isOnDraft fu a0 v17 M18) fun v21 M22 =>
  if v21 = 0 then (some (1, M22))
  else (some (0, M22)))
  else (some (0, M14))))
set_option maxHeartbeats 4000000 in
theorem ok_X11_canGo {G : GT} {fu : Nat} {a0 : Nat} {a1 : Int32} {M : List Ob} {out : Int32 × List Ob} (h : f_X11_canGo fu a0 a1 M = some out) : Sp G t_X11_canGo [.ref a0, .int a1] M (oI out) := by
  refine Sp.of rfl (by decide +kernel) (cat_all rfl) (Nat.le_of_ble_eq_true rfl) ?_
  show X G t_X11_canGo [] 0 [some (.ref a0), some (.int a1), none] [] M 0 0 (oI out)
  unfold f_X11_canGo at h
  refine X.aload_n (x := a0) (pc' := 1) dX11_canGo_0 rfl rfl rfl ?_
  obtain ⟨v1, M2, e3, h⟩ := bd2E h
  refine X.callS (v := some (.int v1)) (As := [.ref a0]) (st := []) (M' := M2) (pc' := 4) dX11_canGo_1 rfl cl_X11_145 ms_X11_draftEnd ⟨⟨Nat.le_of_ble_eq_true rfl, Nat.le_of_ble_eq_true rfl⟩, Nat.le_of_ble_eq_true rfl, Nat.le_of_ble_eq_true rfl⟩ rfl (Nat.le_of_ble_eq_true rfl) (ok_X11_draftEnd (G := zs G) e3) ?_
  show X G t_X11_canGo [] 4 [some (.ref a0), some (.int a1), none] [.int v1] M2 0 0 _
  refine X.istore_n (L' := [some (.ref a0), some (.int a1), some (.int v1)]) (pc' := 5) dX11_canGo_4 rfl rfl (Nat.le_of_ble_eq_true rfl) rfl ?_
  refine X.iload_n (x := a1) (pc' := 6) dX11_canGo_5 rfl rfl rfl ?_
  refine X.iconst (v := 0) (pc' := 7) dX11_canGo_6 rfl (by decide) ?_
  refine X.aload_n (x := a0) (pc' := 8) dX11_canGo_7 rfl rfl rfl ?_
  refine X.iconst (v := 4) (pc' := 9) dX11_canGo_8 rfl (by decide) ?_
  obtain ⟨v6, e5, h⟩ := bindE h
  refine X.iald (pc' := 10) dX11_canGo_9 rfl e5 ?_
  refine X.iconst (v := 1) (pc' := 11) dX11_canGo_10 rfl (by decide) ?_
  refine X.isub (pc' := 12) dX11_canGo_11 rfl ?_
  obtain ⟨v7, M8, e9, h⟩ := bd2E h
  refine X.callS (v := some (.int v7)) (As := [.int a1, .int 0, .int (v6 - 1)]) (st := []) (M' := M8) (pc' := 15) dX11_canGo_12 rfl cl_X11_72 ms_X11_isIn ⟨⟨Nat.le_of_ble_eq_true rfl, Nat.le_of_ble_eq_true rfl⟩, Nat.le_of_ble_eq_true rfl, Nat.le_of_ble_eq_true rfl⟩ rfl (Nat.le_of_ble_eq_true rfl) (ok_X11_isIn (G := zs G) e9) ?_
  show X G t_X11_canGo [] 15 [some (.ref a0), some (.int a1), some (.int v1)] [.int v7] M8 0 0 _
  refine X.if_eq (tgt := 52) (pc' := 18) dX11_canGo_15 (by decide) rfl (fun hc => ?_) (fun hc => ?_)
  · rw [if_pos hc] at h
    refine X.iconst (v := 0) (pc' := 53) dX11_canGo_52 rfl (by decide) ?_
    cases h
    exact X.iret (ty := .boolean) dX11_canGo_53 rfl rfl (Nat.le_of_ble_eq_true rfl) (Nat.le_of_ble_eq_true rfl) rfl
  · rw [if_neg hc] at h
    refine X.iload_n (x := v1) (pc' := 19) dX11_canGo_18 rfl rfl rfl ?_
    refine X.aload_n (x := a0) (pc' := 20) dX11_canGo_19 rfl rfl rfl ?_
    refine X.iconst (v := 2) (pc' := 21) dX11_canGo_20 rfl (by decide) ?_
    obtain ⟨v12, e11, h⟩ := bindE h
    refine X.iald (pc' := 22) dX11_canGo_21 rfl e11 ?_
    refine X.icmp_eq (tgt := 52) (pc' := 25) dX11_canGo_22 (by decide) rfl (fun hc => ?_) (fun hc => ?_)
    · rw [if_pos hc] at h
      refine X.iconst (v := 0) (pc' := 53) dX11_canGo_52 rfl (by decide) ?_
      cases h
      exact X.iret (ty := .boolean) dX11_canGo_53 rfl rfl (Nat.le_of_ble_eq_true rfl) (Nat.le_of_ble_eq_true rfl) rfl
    · rw [if_neg hc] at h
      refine X.aload_n (x := a0) (pc' := 26) dX11_canGo_25 rfl rfl rfl ?_
      refine X.iload_n (x := a1) (pc' := 27) dX11_canGo_26 rfl rfl rfl ?_
      refine X.iconst (v := 0) (pc' := 28) dX11_canGo_27 rfl (by decide) ?_
      obtain ⟨v13, M14, e15, h⟩ := bd2E h
      refine X.callS (v := some (.int v13)) (As := [.ref a0, .int a1, .int 0]) (st := []) (M' := M14) (pc' := 31) dX11_canGo_28 rfl cl_X11_179 ms_X11_arcOf ⟨⟨Nat.le_of_ble_eq_true rfl, Nat.le_of_ble_eq_true rfl⟩, Nat.le_of_ble_eq_true rfl, Nat.le_of_ble_eq_true rfl⟩ rfl (Nat.le_of_ble_eq_true rfl) (ok_X11_arcOf (G := zs G) e15) ?_
      show X G t_X11_canGo [] 31 [some (.ref a0), some (.int a1), some (.int v1)] [.int v13] M14 0 0 _
      refine X.iload_n (x := v1) (pc' := 32) dX11_canGo_31 rfl rfl rfl ?_
      refine X.icmp_ne (tgt := 52) (pc' := 35) dX11_canGo_32 (by decide) rfl (fun hc => ?_) (fun hc => ?_)
      · rw [if_neg hc] at h
        refine X.iconst (v := 0) (pc' := 53) dX11_canGo_52 rfl (by decide) ?_
        cases h
        exact X.iret (ty := .boolean) dX11_canGo_53 rfl rfl (Nat.le_of_ble_eq_true rfl) (Nat.le_of_ble_eq_true rfl) rfl
      · rw [if_pos hc] at h
        refine X.aload_n (x := a0) (pc' := 36) dX11_canGo_35 rfl rfl rfl ?_
        refine X.aload_n (x := a0) (pc' := 37) dX11_canGo_36 rfl rfl rfl ?_
        refine X.iload_n (x := a1) (pc' := 38) dX11_canGo_37 rfl rfl rfl ?_
        refine X.iconst (v := 1) (pc' := 39) dX11_canGo_38 rfl (by decide) ?_
        obtain ⟨v17, M18, e19, h⟩ := bd2E h
        refine X.callS (v := some (.int v17)) (As := [.ref a0, .int a1, .int 1]) (st := [.ref a0]) (M' := M18) (pc' := 42) dX11_canGo_39 rfl cl_X11_179 ms_X11_arcOf ⟨⟨Nat.le_of_ble_eq_true rfl, Nat.le_of_ble_eq_true rfl⟩, Nat.le_of_ble_eq_true rfl, Nat.le_of_ble_eq_true rfl⟩ rfl (Nat.le_of_ble_eq_true rfl) (ok_X11_arcOf (G := zs G) e19) ?_
        show X G t_X11_canGo [] 42 [some (.ref a0), some (.int a1), some (.int v1)] [.int v17, .ref a0] M18 0 0 _
        obtain ⟨v21, M22, e23, h⟩ := bd2E h
        refine X.callS (v := some (.int v21)) (As := [.ref a0, .int v17]) (st := []) (M' := M22) (pc' := 45) dX11_canGo_42 rfl cl_X11_200 ms_X11_isOnDraft ⟨⟨Nat.le_of_ble_eq_true rfl, Nat.le_of_ble_eq_true rfl⟩, Nat.le_of_ble_eq_true rfl, Nat.le_of_ble_eq_true rfl⟩ rfl (Nat.le_of_ble_eq_true rfl) (ok_X11_isOnDraft (G := zs G) e23) ?_
        show X G t_X11_canGo [] 45 [some (.ref a0), some (.int a1), some (.int v1)] [.int v21] M22 0 0 _
        refine X.if_ne (tgt := 52) (pc' := 48) dX11_canGo_45 (by decide) rfl (fun hc => ?_) (fun hc => ?_)
        · rw [if_neg hc] at h
          refine X.iconst (v := 0) (pc' := 53) dX11_canGo_52 rfl (by decide) ?_
          cases h
          exact X.iret (ty := .boolean) dX11_canGo_53 rfl rfl (Nat.le_of_ble_eq_true rfl) (Nat.le_of_ble_eq_true rfl) rfl
        · rw [if_pos hc] at h
          refine X.iconst (v := 1) (pc' := 49) dX11_canGo_48 rfl (by decide) ?_
          refine X.goto (pc' := 53) dX11_canGo_49 (by decide) ?_
          cases h
          exact X.iret (ty := .boolean) dX11_canGo_53 rfl rfl (Nat.le_of_ble_eq_true rfl) (Nat.le_of_ble_eq_true rfl) rfl
def f_X11_appendsTo (fu : Nat) (a0 : Nat) (a1 : Int32) (M : List Ob) : Option (Unit × List Ob) :=
  (aI M a0 13 118).bind fun v2 =>
  (aSet M a0 13 118 (.int (v2 + 1))).bind fun M4 =>
  (aI M4 a0 13 118).bind fun v6 =>
  (aSet M4 a0 13 (118 + v6) (.int a1)).bind fun M8 =>
  some ((), M8)
set_option maxHeartbeats 4000000 in
theorem ok_X11_appendsTo {G : GT} {fu : Nat} {a0 : Nat} {a1 : Int32} {M : List Ob} {out : Unit × List Ob} (h : f_X11_appendsTo fu a0 a1 M = some out) : Sp G t_X11_appendsTo [.ref a0, .int a1] M (oU out) := by
  refine Sp.of rfl (by decide +kernel) (cat_all rfl) (Nat.le_of_ble_eq_true rfl) ?_
  show X G t_X11_appendsTo [] 0 [some (.ref a0), some (.int a1)] [] M 0 0 (oU out)
  unfold f_X11_appendsTo at h
  refine X.aload_n (x := a0) (pc' := 1) dX11_appendsTo_0 rfl rfl rfl ?_
  refine X.bipush (v := 118) (pc' := 3) dX11_appendsTo_1 rfl (by decide) ?_
  refine X.dup2 (pc' := 4) dX11_appendsTo_3 rfl rfl rfl ?_
  obtain ⟨v2, e1, h⟩ := bindE h
  refine X.iald (pc' := 5) dX11_appendsTo_4 rfl e1 ?_
  refine X.iconst (v := 1) (pc' := 6) dX11_appendsTo_5 rfl (by decide) ?_
  refine X.iadd (pc' := 7) dX11_appendsTo_6 rfl ?_
  obtain ⟨M4, e3, h⟩ := bindE h
  refine X.iast (pc' := 8) dX11_appendsTo_7 rfl e3 ?_
  refine X.aload_n (x := a0) (pc' := 9) dX11_appendsTo_8 rfl rfl rfl ?_
  refine X.bipush (v := 118) (pc' := 11) dX11_appendsTo_9 rfl (by decide) ?_
  refine X.aload_n (x := a0) (pc' := 12) dX11_appendsTo_11 rfl rfl rfl ?_
  refine X.bipush (v := 118) (pc' := 14) dX11_appendsTo_12 rfl (by decide) ?_
  obtain ⟨v6, e5, h⟩ := bindE h
  refine X.iald (pc' := 15) dX11_appendsTo_14 rfl e5 ?_
  refine X.iadd (pc' := 16) dX11_appendsTo_15 rfl ?_
  refine X.iload_n (x := a1) (pc' := 17) dX11_appendsTo_16 rfl rfl rfl ?_
  obtain ⟨M8, e7, h⟩ := bindE h
  refine X.iast (pc' := 18) dX11_appendsTo_17 rfl e7 ?_
  cases h
  exact X.vret dX11_appendsTo_18 rfl (Nat.le_of_ble_eq_true rfl) (Nat.le_of_ble_eq_true rfl) rfl
def f_X11_toldAs_51 (fu : Nat) (a0 : Nat) (a1 : Int32) (a3 : Int32) (b0 : Int32) (M : List Ob) (k14 : Nat → Int32 → Int32 → Int32 → List Ob → Option (Int32 × List Ob)) (k58 : Nat → Int32 → Int32 → List Ob → Option (Int32 × List Ob)) : Option (Int32 × List Ob) :=
  k14 a0 a1 b0 (a3 + 1) M
set_option maxHeartbeats 4000000 in
theorem ok_X11_toldAs_51 {G : GT} {fu : Nat} {out : Int32 × List Ob} {a0 : Nat} {a1 : Int32} {a3 : Int32} {b0 : Int32} {M : List Ob} {k14 : Nat → Int32 → Int32 → Int32 → List Ob → Option (Int32 × List Ob)} {k58 : Nat → Int32 → Int32 → List Ob → Option (Int32 × List Ob)} (hk14 : ∀ (a0 : Nat) (a1 : Int32) (a2 : Int32) (a3 : Int32) (M : List Ob), k14 a0 a1 a2 a3 M = some out → X G t_X11_toldAs [] 14 [some (.ref a0), some (.int a1), some (.int a2), some (.int a3)] [] M 0 0 (oI out)) (hk58 : ∀ (a0 : Nat) (a1 : Int32) (a2 : Int32) (M : List Ob), k58 a0 a1 a2 M = some out → X G t_X11_toldAs [] 58 [some (.ref a0), some (.int a1), some (.int a2), none] [] M 0 0 (oI out)) (h : f_X11_toldAs_51 fu a0 a1 a3 b0 M k14 k58 = some out) : X G t_X11_toldAs [] 51 [some (.ref a0), some (.int a1), none, some (.int a3)] [.int b0] M 0 0 (oI out) := by
  unfold f_X11_toldAs_51 at h
  refine X.istore_n (L' := [some (.ref a0), some (.int a1), some (.int b0), some (.int a3)]) (pc' := 52) dX11_toldAs_51 rfl rfl (Nat.le_of_ble_eq_true rfl) rfl ?_
  refine X.iinc (v := (a3 + 1)) (L' := [some (.ref a0), some (.int a1), some (.int b0), some (.int (a3 + 1))]) (pc' := 55) dX11_toldAs_52 rfl rfl (congrArg (fun y => a3 + y) (show Int32.ofInt 1 = 1 by decide)) (Nat.le_of_ble_eq_true rfl) rfl ?_
  refine X.goto (pc' := 14) dX11_toldAs_55 (by decide) ?_
  exact hk14 _ _ _ _ _ h
def f_X11_toldAs_14b (fu : Nat) (a0 : Nat) (a1 : Int32) (a2 : Int32) (a3 : Int32) (M : List Ob) (k14 : Nat → Int32 → Int32 → Int32 → List Ob → Option (Int32 × List Ob)) (k58 : Nat → Int32 → Int32 → List Ob → Option (Int32 × List Ob)) : Option (Int32 × List Ob) :=
  (aI M a0 13 118).bind fun v2 =>
  if v2 < a3 then (k58 a0 a1 a2 M)
  else (if a2 = 0 then (k58 a0 a1 a2 M)
  else ((aI M a0 13 ((70 + (8 * a1)) + a3)).bind fun v4 =>
  (aI M a0 13 (118 + a3)).bind fun v6 =>
  if v4 = v6 then (f_X11_toldAs_51 fu a0 a1 a3 1 M k14 k58)
  else (f_X11_toldAs_51 fu a0 a1 a3 0 M k14 k58)))
set_option maxHeartbeats 4000000 in
theorem ok_X11_toldAs_14b {G : GT} {fu : Nat} {out : Int32 × List Ob} {a0 : Nat} {a1 : Int32} {a2 : Int32} {a3 : Int32} {M : List Ob} {k14 : Nat → Int32 → Int32 → Int32 → List Ob → Option (Int32 × List Ob)} {k58 : Nat → Int32 → Int32 → List Ob → Option (Int32 × List Ob)} (hk14 : ∀ (a0 : Nat) (a1 : Int32) (a2 : Int32) (a3 : Int32) (M : List Ob), k14 a0 a1 a2 a3 M = some out → X G t_X11_toldAs [] 14 [some (.ref a0), some (.int a1), some (.int a2), some (.int a3)] [] M 0 0 (oI out)) (hk58 : ∀ (a0 : Nat) (a1 : Int32) (a2 : Int32) (M : List Ob), k58 a0 a1 a2 M = some out → X G t_X11_toldAs [] 58 [some (.ref a0), some (.int a1), some (.int a2), none] [] M 0 0 (oI out)) (h : f_X11_toldAs_14b fu a0 a1 a2 a3 M k14 k58 = some out) : X G t_X11_toldAs [] 14 [some (.ref a0), some (.int a1), some (.int a2), some (.int a3)] [] M 0 0 (oI out) := by
  unfold f_X11_toldAs_14b at h
  refine X.iload_n (x := a3) (pc' := 15) dX11_toldAs_14 rfl rfl rfl ?_
  refine X.aload_n (x := a0) (pc' := 16) dX11_toldAs_15 rfl rfl rfl ?_
  refine X.bipush (v := 118) (pc' := 18) dX11_toldAs_16 rfl (by decide) ?_
  obtain ⟨v2, e1, h⟩ := bindE h
  refine X.iald (pc' := 19) dX11_toldAs_18 rfl e1 ?_
  refine X.icmp_gt (tgt := 58) (pc' := 22) dX11_toldAs_19 (by decide) rfl (fun hc => ?_) (fun hc => ?_)
  · rw [if_pos hc] at h
    refine X.sub (L := [some (.ref a0), some (.int a1), some (.int a2), none]) ?_ (⟨rfl, ⟨rfl, ⟨rfl, trivial⟩⟩⟩)
    exact hk58 _ _ _ _ h
  · rw [if_neg hc] at h
    refine X.iload_n (x := a2) (pc' := 23) dX11_toldAs_22 rfl rfl rfl ?_
    refine X.if_eq (tgt := 58) (pc' := 26) dX11_toldAs_23 (by decide) rfl (fun hc => ?_) (fun hc => ?_)
    · rw [if_pos hc] at h
      refine X.sub (L := [some (.ref a0), some (.int a1), some (.int a2), none]) ?_ (⟨rfl, ⟨rfl, ⟨rfl, trivial⟩⟩⟩)
      exact hk58 _ _ _ _ h
    · rw [if_neg hc] at h
      refine X.aload_n (x := a0) (pc' := 27) dX11_toldAs_26 rfl rfl rfl ?_
      refine X.bipush (v := 70) (pc' := 29) dX11_toldAs_27 rfl (by decide) ?_
      refine X.bipush (v := 8) (pc' := 31) dX11_toldAs_29 rfl (by decide) ?_
      refine X.iload_n (x := a1) (pc' := 32) dX11_toldAs_31 rfl rfl rfl ?_
      refine X.imul (pc' := 33) dX11_toldAs_32 rfl ?_
      refine X.iadd (pc' := 34) dX11_toldAs_33 rfl ?_
      refine X.iload_n (x := a3) (pc' := 35) dX11_toldAs_34 rfl rfl rfl ?_
      refine X.iadd (pc' := 36) dX11_toldAs_35 rfl ?_
      obtain ⟨v4, e3, h⟩ := bindE h
      refine X.iald (pc' := 37) dX11_toldAs_36 rfl e3 ?_
      refine X.aload_n (x := a0) (pc' := 38) dX11_toldAs_37 rfl rfl rfl ?_
      refine X.bipush (v := 118) (pc' := 40) dX11_toldAs_38 rfl (by decide) ?_
      refine X.iload_n (x := a3) (pc' := 41) dX11_toldAs_40 rfl rfl rfl ?_
      refine X.iadd (pc' := 42) dX11_toldAs_41 rfl ?_
      obtain ⟨v6, e5, h⟩ := bindE h
      refine X.iald (pc' := 43) dX11_toldAs_42 rfl e5 ?_
      refine X.icmp_ne (tgt := 50) (pc' := 46) dX11_toldAs_43 (by decide) rfl (fun hc => ?_) (fun hc => ?_)
      · rw [if_neg hc] at h
        refine X.iconst (v := 0) (pc' := 51) dX11_toldAs_50 rfl (by decide) ?_
        refine X.sub (L := [some (.ref a0), some (.int a1), none, some (.int a3)]) ?_ (⟨rfl, ⟨rfl, ⟨rfl, trivial⟩⟩⟩)
        exact ok_X11_toldAs_51 hk14 hk58 h
      · rw [if_pos hc] at h
        refine X.iconst (v := 1) (pc' := 47) dX11_toldAs_46 rfl (by decide) ?_
        refine X.goto (pc' := 51) dX11_toldAs_47 (by decide) ?_
        refine X.sub (L := [some (.ref a0), some (.int a1), none, some (.int a3)]) ?_ (⟨rfl, ⟨rfl, ⟨rfl, trivial⟩⟩⟩)
        exact ok_X11_toldAs_51 hk14 hk58 h
def f_X11_toldAs_14 (fu : Nat) (k58 : Nat → Int32 → Int32 → List Ob → Option (Int32 × List Ob)) : Nat → Nat → Int32 → Int32 → Int32 → List Ob → Option (Int32 × List Ob)
  | 0, _, _, _, _, _ => none
  | n + 1, a0, a1, a2, a3, M => f_X11_toldAs_14b fu a0 a1 a2 a3 M (fun a0 a1 a2 a3 M => f_X11_toldAs_14 fu k58 n a0 a1 a2 a3 M) k58
theorem ok_X11_toldAs_14 {G : GT} {fu : Nat} {out : Int32 × List Ob} {k58 : Nat → Int32 → Int32 → List Ob → Option (Int32 × List Ob)} (hk58 : ∀ (a0 : Nat) (a1 : Int32) (a2 : Int32) (M : List Ob), k58 a0 a1 a2 M = some out → X G t_X11_toldAs [] 58 [some (.ref a0), some (.int a1), some (.int a2), none] [] M 0 0 (oI out)) : ∀ (n : Nat) (a0 : Nat) (a1 : Int32) (a2 : Int32) (a3 : Int32) (M : List Ob), f_X11_toldAs_14 fu k58 n a0 a1 a2 a3 M = some out → X G t_X11_toldAs [] 14 [some (.ref a0), some (.int a1), some (.int a2), some (.int a3)] [] M 0 0 (oI out) := by
  intro n
  induction n with
  | zero =>
    intro a0 a1 a2 a3 M h
    unfold f_X11_toldAs_14 at h
    cases h
  | succ n ih =>
    intro a0 a1 a2 a3 M h
    unfold f_X11_toldAs_14 at h
    exact ok_X11_toldAs_14b ih hk58 h
def f_X11_toldAs_58 (fu : Nat) (a0 : Nat) (a1 : Int32) (a2 : Int32) (M : List Ob) (k2 : Nat → Int32 → List Ob → Option (Int32 × List Ob)) : Option (Int32 × List Ob) :=
  if a2 = 0 then (k2 a0 (a1 + 1) M)
  else (some (a1, M))
set_option maxHeartbeats 4000000 in
theorem ok_X11_toldAs_58 {G : GT} {fu : Nat} {out : Int32 × List Ob} {a0 : Nat} {a1 : Int32} {a2 : Int32} {M : List Ob} {k2 : Nat → Int32 → List Ob → Option (Int32 × List Ob)} (hk2 : ∀ (a0 : Nat) (a1 : Int32) (M : List Ob), k2 a0 a1 M = some out → X G t_X11_toldAs [] 2 [some (.ref a0), some (.int a1), none, none] [] M 0 0 (oI out)) (h : f_X11_toldAs_58 fu a0 a1 a2 M k2 = some out) : X G t_X11_toldAs [] 58 [some (.ref a0), some (.int a1), some (.int a2), none] [] M 0 0 (oI out) := by
  unfold f_X11_toldAs_58 at h
  refine X.iload_n (x := a2) (pc' := 59) dX11_toldAs_58 rfl rfl rfl ?_
  refine X.if_eq (tgt := 64) (pc' := 62) dX11_toldAs_59 (by decide) rfl (fun hc => ?_) (fun hc => ?_)
  · rw [if_pos hc] at h
    refine X.iinc (v := (a1 + 1)) (L' := [some (.ref a0), some (.int (a1 + 1)), some (.int a2), none]) (pc' := 67) dX11_toldAs_64 rfl rfl (congrArg (fun y => a1 + y) (show Int32.ofInt 1 = 1 by decide)) (Nat.le_of_ble_eq_true rfl) rfl ?_
    refine X.goto (pc' := 2) dX11_toldAs_67 (by decide) ?_
    refine X.sub (L := [some (.ref a0), some (.int (a1 + 1)), none, none]) ?_ (⟨rfl, ⟨rfl, trivial⟩⟩)
    exact hk2 _ _ _ h
  · rw [if_neg hc] at h
    refine X.iload_n (x := a1) (pc' := 63) dX11_toldAs_62 rfl rfl rfl ?_
    cases h
    exact X.iret (ty := .int) dX11_toldAs_63 rfl rfl (Nat.le_of_ble_eq_true rfl) (Nat.le_of_ble_eq_true rfl) rfl
def f_X11_toldAs_2b (fu : Nat) (a0 : Nat) (a1 : Int32) (M : List Ob) (k2 : Nat → Int32 → List Ob → Option (Int32 × List Ob)) : Option (Int32 × List Ob) :=
  (aI M a0 13 69).bind fun v2 =>
  if v2 ≤ a1 then (some ((-1), M))
  else (f_X11_toldAs_14 fu (fun x3 x4 x5 M6 => f_X11_toldAs_58 fu x3 x4 x5 M6 k2) fu a0 a1 1 0 M)
set_option maxHeartbeats 4000000 in
theorem ok_X11_toldAs_2b {G : GT} {fu : Nat} {out : Int32 × List Ob} {a0 : Nat} {a1 : Int32} {M : List Ob} {k2 : Nat → Int32 → List Ob → Option (Int32 × List Ob)} (hk2 : ∀ (a0 : Nat) (a1 : Int32) (M : List Ob), k2 a0 a1 M = some out → X G t_X11_toldAs [] 2 [some (.ref a0), some (.int a1), none, none] [] M 0 0 (oI out)) (h : f_X11_toldAs_2b fu a0 a1 M k2 = some out) : X G t_X11_toldAs [] 2 [some (.ref a0), some (.int a1), none, none] [] M 0 0 (oI out) := by
  unfold f_X11_toldAs_2b at h
  refine X.iload_n (x := a1) (pc' := 3) dX11_toldAs_2 rfl rfl rfl ?_
  refine X.aload_n (x := a0) (pc' := 4) dX11_toldAs_3 rfl rfl rfl ?_
  refine X.bipush (v := 69) (pc' := 6) dX11_toldAs_4 rfl (by decide) ?_
  obtain ⟨v2, e1, h⟩ := bindE h
  refine X.iald (pc' := 7) dX11_toldAs_6 rfl e1 ?_
  refine X.icmp_ge (tgt := 70) (pc' := 10) dX11_toldAs_7 (by decide) rfl (fun hc => ?_) (fun hc => ?_)
  · rw [if_pos hc] at h
    refine X.iconst (v := (-1)) (pc' := 71) dX11_toldAs_70 rfl (by decide) ?_
    cases h
    exact X.iret (ty := .int) dX11_toldAs_71 rfl rfl (Nat.le_of_ble_eq_true rfl) (Nat.le_of_ble_eq_true rfl) rfl
  · rw [if_neg hc] at h
    refine X.iconst (v := 1) (pc' := 11) dX11_toldAs_10 rfl (by decide) ?_
    refine X.istore_n (L' := [some (.ref a0), some (.int a1), some (.int 1), none]) (pc' := 12) dX11_toldAs_11 rfl rfl (Nat.le_of_ble_eq_true rfl) rfl ?_
    refine X.iconst (v := 0) (pc' := 13) dX11_toldAs_12 rfl (by decide) ?_
    refine X.istore_n (L' := [some (.ref a0), some (.int a1), some (.int 1), some (.int 0)]) (pc' := 14) dX11_toldAs_13 rfl rfl (Nat.le_of_ble_eq_true rfl) rfl ?_
    refine ok_X11_toldAs_14 ?_ fu _ _ _ _ _ h
    · intro x3 x4 x5 M6 h
      exact ok_X11_toldAs_58 hk2 h
def f_X11_toldAs_2 (fu : Nat) : Nat → Nat → Int32 → List Ob → Option (Int32 × List Ob)
  | 0, _, _, _ => none
  | n + 1, a0, a1, M => f_X11_toldAs_2b fu a0 a1 M (fun a0 a1 M => f_X11_toldAs_2 fu n a0 a1 M)
theorem ok_X11_toldAs_2 {G : GT} {fu : Nat} {out : Int32 × List Ob} : ∀ (n : Nat) (a0 : Nat) (a1 : Int32) (M : List Ob), f_X11_toldAs_2 fu n a0 a1 M = some out → X G t_X11_toldAs [] 2 [some (.ref a0), some (.int a1), none, none] [] M 0 0 (oI out) := by
  intro n
  induction n with
  | zero =>
    intro a0 a1 M h
    unfold f_X11_toldAs_2 at h
    cases h
  | succ n ih =>
    intro a0 a1 M h
    unfold f_X11_toldAs_2 at h
    exact ok_X11_toldAs_2b ih h
def f_X11_toldAs (fu : Nat) (a0 : Nat) (M : List Ob) : Option (Int32 × List Ob) :=
  f_X11_toldAs_2 fu  fu a0 0 M
set_option maxHeartbeats 4000000 in
theorem ok_X11_toldAs {G : GT} {fu : Nat} {a0 : Nat} {M : List Ob} {out : Int32 × List Ob} (h : f_X11_toldAs fu a0 M = some out) : Sp G t_X11_toldAs [.ref a0] M (oI out) := by
  refine Sp.of rfl (by decide +kernel) (cat_all rfl) (Nat.le_of_ble_eq_true rfl) ?_
  show X G t_X11_toldAs [] 0 [some (.ref a0), none, none, none] [] M 0 0 (oI out)
  unfold f_X11_toldAs at h
  refine X.iconst (v := 0) (pc' := 1) dX11_toldAs_0 rfl (by decide) ?_
  refine X.istore_n (L' := [some (.ref a0), some (.int 0), none, none]) (pc' := 2) dX11_toldAs_1 rfl rfl (Nat.le_of_ble_eq_true rfl) rfl ?_
  refine ok_X11_toldAs_2  fu _ _ _ h
def f_X11_tells_2b (fu : Nat) (a0 : Nat) (a1 : Int32) (M : List Ob) (k2 : Nat → Int32 → List Ob → Option (Unit × List Ob)) (k34 : Nat → List Ob → Option (Unit × List Ob)) : Option (Unit × List Ob) :=
  if 8 ≤ a1 then (k34 a0 M)
  else ((aI M a0 13 69).bind fun v2 =>
  (aI M a0 13 (118 + a1)).bind fun v4 =>
  (aSet M a0 13 ((70 + (8 * v2)) + a1) (.int v4)).bind fun M6 =>
  k2 a0 (a1 + 1) M6)
set_option maxHeartbeats 4000000 in
theorem ok_X11_tells_2b {G : GT} {fu : Nat} {out : Unit × List Ob} {a0 : Nat} {a1 : Int32} {M : List Ob} {k2 : Nat → Int32 → List Ob → Option (Unit × List Ob)} {k34 : Nat → List Ob → Option (Unit × List Ob)} (hk2 : ∀ (a0 : Nat) (a1 : Int32) (M : List Ob), k2 a0 a1 M = some out → X G t_X11_tells [] 2 [some (.ref a0), some (.int a1)] [] M 0 0 (oU out)) (hk34 : ∀ (a0 : Nat) (M : List Ob), k34 a0 M = some out → X G t_X11_tells [] 34 [some (.ref a0), none] [] M 0 0 (oU out)) (h : f_X11_tells_2b fu a0 a1 M k2 k34 = some out) : X G t_X11_tells [] 2 [some (.ref a0), some (.int a1)] [] M 0 0 (oU out) := by
  unfold f_X11_tells_2b at h
  refine X.iload_n (x := a1) (pc' := 3) dX11_tells_2 rfl rfl rfl ?_
  refine X.bipush (v := 8) (pc' := 5) dX11_tells_3 rfl (by decide) ?_
  refine X.icmp_ge (tgt := 34) (pc' := 8) dX11_tells_5 (by decide) rfl (fun hc => ?_) (fun hc => ?_)
  · rw [if_pos hc] at h
    refine X.sub (L := [some (.ref a0), none]) ?_ (⟨rfl, trivial⟩)
    exact hk34 _ _ h
  · rw [if_neg hc] at h
    refine X.aload_n (x := a0) (pc' := 9) dX11_tells_8 rfl rfl rfl ?_
    refine X.bipush (v := 70) (pc' := 11) dX11_tells_9 rfl (by decide) ?_
    refine X.bipush (v := 8) (pc' := 13) dX11_tells_11 rfl (by decide) ?_
    refine X.aload_n (x := a0) (pc' := 14) dX11_tells_13 rfl rfl rfl ?_
    refine X.bipush (v := 69) (pc' := 16) dX11_tells_14 rfl (by decide) ?_
    obtain ⟨v2, e1, h⟩ := bindE h
    refine X.iald (pc' := 17) dX11_tells_16 rfl e1 ?_
    refine X.imul (pc' := 18) dX11_tells_17 rfl ?_
    refine X.iadd (pc' := 19) dX11_tells_18 rfl ?_
    refine X.iload_n (x := a1) (pc' := 20) dX11_tells_19 rfl rfl rfl ?_
    refine X.iadd (pc' := 21) dX11_tells_20 rfl ?_
    refine X.aload_n (x := a0) (pc' := 22) dX11_tells_21 rfl rfl rfl ?_
    refine X.bipush (v := 118) (pc' := 24) dX11_tells_22 rfl (by decide) ?_
    refine X.iload_n (x := a1) (pc' := 25) dX11_tells_24 rfl rfl rfl ?_
    refine X.iadd (pc' := 26) dX11_tells_25 rfl ?_
    obtain ⟨v4, e3, h⟩ := bindE h
    refine X.iald (pc' := 27) dX11_tells_26 rfl e3 ?_
    obtain ⟨M6, e5, h⟩ := bindE h
    refine X.iast (pc' := 28) dX11_tells_27 rfl e5 ?_
    refine X.iinc (v := (a1 + 1)) (L' := [some (.ref a0), some (.int (a1 + 1))]) (pc' := 31) dX11_tells_28 rfl rfl (congrArg (fun y => a1 + y) (show Int32.ofInt 1 = 1 by decide)) (Nat.le_of_ble_eq_true rfl) rfl ?_
    refine X.goto (pc' := 2) dX11_tells_31 (by decide) ?_
    exact hk2 _ _ _ h
def f_X11_tells_2 (fu : Nat) (k34 : Nat → List Ob → Option (Unit × List Ob)) : Nat → Nat → Int32 → List Ob → Option (Unit × List Ob)
  | 0, _, _, _ => none
  | n + 1, a0, a1, M => f_X11_tells_2b fu a0 a1 M (fun a0 a1 M => f_X11_tells_2 fu k34 n a0 a1 M) k34
theorem ok_X11_tells_2 {G : GT} {fu : Nat} {out : Unit × List Ob} {k34 : Nat → List Ob → Option (Unit × List Ob)} (hk34 : ∀ (a0 : Nat) (M : List Ob), k34 a0 M = some out → X G t_X11_tells [] 34 [some (.ref a0), none] [] M 0 0 (oU out)) : ∀ (n : Nat) (a0 : Nat) (a1 : Int32) (M : List Ob), f_X11_tells_2 fu k34 n a0 a1 M = some out → X G t_X11_tells [] 2 [some (.ref a0), some (.int a1)] [] M 0 0 (oU out) := by
  intro n
  induction n with
  | zero =>
    intro a0 a1 M h
    unfold f_X11_tells_2 at h
    cases h
  | succ n ih =>
    intro a0 a1 M h
    unfold f_X11_tells_2 at h
    exact ok_X11_tells_2b ih hk34 h
def f_X11_tells_34 (fu : Nat) (a0 : Nat) (M : List Ob) : Option (Unit × List Ob) :=
  (aI M a0 13 69).bind fun v2 =>
  (aSet M a0 13 69 (.int (v2 + 1))).bind fun M4 =>
  (aSet M4 a0 13 118 (.int 0)).bind fun M6 =>
  some ((), M6)
set_option maxHeartbeats 4000000 in
theorem ok_X11_tells_34 {G : GT} {fu : Nat} {out : Unit × List Ob} {a0 : Nat} {M : List Ob} (h : f_X11_tells_34 fu a0 M = some out) : X G t_X11_tells [] 34 [some (.ref a0), none] [] M 0 0 (oU out) := by
  unfold f_X11_tells_34 at h
  refine X.aload_n (x := a0) (pc' := 35) dX11_tells_34 rfl rfl rfl ?_
  refine X.bipush (v := 69) (pc' := 37) dX11_tells_35 rfl (by decide) ?_
  refine X.dup2 (pc' := 38) dX11_tells_37 rfl rfl rfl ?_
  obtain ⟨v2, e1, h⟩ := bindE h
  refine X.iald (pc' := 39) dX11_tells_38 rfl e1 ?_
  refine X.iconst (v := 1) (pc' := 40) dX11_tells_39 rfl (by decide) ?_
  refine X.iadd (pc' := 41) dX11_tells_40 rfl ?_
  obtain ⟨M4, e3, h⟩ := bindE h
  refine X.iast (pc' := 42) dX11_tells_41 rfl e3 ?_
  refine X.aload_n (x := a0) (pc' := 43) dX11_tells_42 rfl rfl rfl ?_
  refine X.bipush (v := 118) (pc' := 45) dX11_tells_43 rfl (by decide) ?_
  refine X.iconst (v := 0) (pc' := 46) dX11_tells_45 rfl (by decide) ?_
  obtain ⟨M6, e5, h⟩ := bindE h
  refine X.iast (pc' := 47) dX11_tells_46 rfl e5 ?_
  cases h
  exact X.vret dX11_tells_47 rfl (Nat.le_of_ble_eq_true rfl) (Nat.le_of_ble_eq_true rfl) rfl
def f_X11_tells (fu : Nat) (a0 : Nat) (M : List Ob) : Option (Unit × List Ob) :=
  f_X11_tells_2 fu (fun x1 M2 => f_X11_tells_34 fu x1 M2) fu a0 0 M
set_option maxHeartbeats 4000000 in
theorem ok_X11_tells {G : GT} {fu : Nat} {a0 : Nat} {M : List Ob} {out : Unit × List Ob} (h : f_X11_tells fu a0 M = some out) : Sp G t_X11_tells [.ref a0] M (oU out) := by
  refine Sp.of rfl (by decide +kernel) (cat_all rfl) (Nat.le_of_ble_eq_true rfl) ?_
  show X G t_X11_tells [] 0 [some (.ref a0), none] [] M 0 0 (oU out)
  unfold f_X11_tells at h
  refine X.iconst (v := 0) (pc' := 1) dX11_tells_0 rfl (by decide) ?_
  refine X.istore_n (L' := [some (.ref a0), some (.int 0)]) (pc' := 2) dX11_tells_1 rfl rfl (Nat.le_of_ble_eq_true rfl) rfl ?_
  refine ok_X11_tells_2 ?_ fu _ _ _ h
  · intro x1 M2 h
    exact ok_X11_tells_34 h
def f_X11_readsRoute_114 (fu : Nat) (a0 : Nat) (b0 : Int32) (M : List Ob) (k44 : Nat → Int32 → List Ob → Option (Unit × List Ob)) (k118 : Nat → List Ob → Option (Unit × List Ob)) : Option (Unit × List Ob) :=
  k44 a0 b0 M
set_option maxHeartbeats 4000000 in
theorem ok_X11_readsRoute_114 {G : GT} {fu : Nat} {out : Unit × List Ob} {a0 : Nat} {b0 : Int32} {M : List Ob} {k44 : Nat → Int32 → List Ob → Option (Unit × List Ob)} {k118 : Nat → List Ob → Option (Unit × List Ob)} (hk44 : ∀ (a0 : Nat) (a1 : Int32) (M : List Ob), k44 a0 a1 M = some out → X G t_X11_readsRoute [] 44 [some (.ref a0), some (.int a1), none] [] M 0 0 (oU out)) (hk118 : ∀ (a0 : Nat) (M : List Ob), k118 a0 M = some out → X G t_X11_readsRoute [] 118 [some (.ref a0), none, none] [] M 0 0 (oU out)) (h : f_X11_readsRoute_114 fu a0 b0 M k44 k118 = some out) : X G t_X11_readsRoute [] 114 [some (.ref a0), none, none] [.int b0] M 0 0 (oU out) := by
  unfold f_X11_readsRoute_114 at h
  refine X.istore_n (L' := [some (.ref a0), some (.int b0), none]) (pc' := 115) dX11_readsRoute_114 rfl rfl (Nat.le_of_ble_eq_true rfl) rfl ?_
  refine X.goto (pc' := 44) dX11_readsRoute_115 (by decide) ?_
  exact hk44 _ _ _ h
def f_X11_readsRoute_76 (fu : Nat) (a0 : Nat) (M : List Ob) (k44 : Nat → Int32 → List Ob → Option (Unit × List Ob)) (k118 : Nat → List Ob → Option (Unit × List Ob)) : Option (Unit × List Ob) :=
  (hasO M a0 11).bind fun _ =>
  bd2 (f_X11_takes fu a0 0 16 (-1) M) fun v1 M2 =>
  (gI M2 a0 11 12).bind fun v5 =>
  if v5 = 0 then ((gP M2 a0 11 1).bind fun r7 =>
  bd2 (f_X11_appendsTo fu r7 v1 M2) fun _ M10 =>
  (gI M10 a0 11 10).bind fun v13 =>
  if v13 = 1 then (f_X11_readsRoute_114 fu a0 1 M10 k44 k118)
  else (f_X11_readsRoute_114 fu a0 0 M10 k44 k118))
  else (some ((), M2))
set_option maxHeartbeats 4000000 in
theorem ok_X11_readsRoute_76 {G : GT} {fu : Nat} {out : Unit × List Ob} {a0 : Nat} {M : List Ob} {k44 : Nat → Int32 → List Ob → Option (Unit × List Ob)} {k118 : Nat → List Ob → Option (Unit × List Ob)} (hk44 : ∀ (a0 : Nat) (a1 : Int32) (M : List Ob), k44 a0 a1 M = some out → X G t_X11_readsRoute [] 44 [some (.ref a0), some (.int a1), none] [] M 0 0 (oU out)) (hk118 : ∀ (a0 : Nat) (M : List Ob), k118 a0 M = some out → X G t_X11_readsRoute [] 118 [some (.ref a0), none, none] [] M 0 0 (oU out)) (h : f_X11_readsRoute_76 fu a0 M k44 k118 = some out) : X G t_X11_readsRoute [] 76 [some (.ref a0), none, none] [] M 0 0 (oU out) := by
  unfold f_X11_readsRoute_76 at h
  refine X.aload_n (x := a0) (pc' := 77) dX11_readsRoute_76 rfl rfl rfl ?_
  refine X.iconst (v := 0) (pc' := 78) dX11_readsRoute_77 rfl (by decide) ?_
  refine X.bipush (v := 16) (pc' := 80) dX11_readsRoute_78 rfl (by decide) ?_
  refine X.iconst (v := (-1)) (pc' := 81) dX11_readsRoute_80 rfl (by decide) ?_
  obtain ⟨⟨⟩, e4, h⟩ := bindE h
  obtain ⟨v1, M2, e3, h⟩ := bd2E h
  refine X.callV (b := a0) (v := some (.int v1)) (As := [.int 0, .int 16, .int (-1)]) (st := []) (M' := M2) (pc' := 84) dX11_readsRoute_81 rfl cl_X11_126 mi_X11_takes me_X11_takes mr_X11_takes e4 ⟨⟨Nat.le_of_ble_eq_true rfl, Nat.le_of_ble_eq_true rfl⟩, Nat.le_of_ble_eq_true rfl, Nat.le_of_ble_eq_true rfl⟩ rfl (Nat.le_of_ble_eq_true rfl) (ok_X11_takes (G := zs G) e3) ?_
  show X G t_X11_readsRoute [] 84 [some (.ref a0), none, none] [.int v1] M2 0 0 _
  refine X.istore_n (L' := [some (.ref a0), none, some (.int v1)]) (pc' := 85) dX11_readsRoute_84 rfl rfl (Nat.le_of_ble_eq_true rfl) rfl ?_
  refine X.aload_n (x := a0) (pc' := 86) dX11_readsRoute_85 rfl rfl rfl ?_
  obtain ⟨v5, e6, h⟩ := bindE h
  refine X.getf (pc' := 89) dX11_readsRoute_86 rfl fq_X11_99 (gI_spec e6) ?_
  refine X.if_eq (tgt := 93) (pc' := 92) dX11_readsRoute_89 (by decide) rfl (fun hc => ?_) (fun hc => ?_)
  · rw [if_pos hc] at h
    refine X.aload_n (x := a0) (pc' := 94) dX11_readsRoute_93 rfl rfl rfl ?_
    obtain ⟨r7, e8, h⟩ := bindE h
    refine X.getf (pc' := 97) dX11_readsRoute_94 rfl fq_X11_13 (gP_spec e8) ?_
    refine X.iload_n (x := v1) (pc' := 98) dX11_readsRoute_97 rfl rfl rfl ?_
    obtain ⟨r9, M10, e11, h⟩ := bd2E h
    refine X.callS (v := none) (As := [.ref r7, .int v1]) (st := []) (M' := M10) (pc' := 101) dX11_readsRoute_98 rfl cl_X11_138 ms_X11_appendsTo ⟨⟨Nat.le_of_ble_eq_true rfl, Nat.le_of_ble_eq_true rfl⟩, Nat.le_of_ble_eq_true rfl, Nat.le_of_ble_eq_true rfl⟩ rfl (Nat.le_of_ble_eq_true rfl) (ok_X11_appendsTo (G := zs G) e11) ?_
    show X G t_X11_readsRoute [] 101 [some (.ref a0), none, some (.int v1)] [] M10 0 0 _
    refine X.aload_n (x := a0) (pc' := 102) dX11_readsRoute_101 rfl rfl rfl ?_
    obtain ⟨v13, e14, h⟩ := bindE h
    refine X.getf (pc' := 105) dX11_readsRoute_102 rfl fq_X11_86 (gI_spec e14) ?_
    refine X.iconst (v := 1) (pc' := 106) dX11_readsRoute_105 rfl (by decide) ?_
    refine X.icmp_ne (tgt := 113) (pc' := 109) dX11_readsRoute_106 (by decide) rfl (fun hc => ?_) (fun hc => ?_)
    · rw [if_neg hc] at h
      refine X.iconst (v := 0) (pc' := 114) dX11_readsRoute_113 rfl (by decide) ?_
      refine X.sub (L := [some (.ref a0), none, none]) ?_ (⟨rfl, trivial⟩)
      exact ok_X11_readsRoute_114 hk44 hk118 h
    · rw [if_pos hc] at h
      refine X.iconst (v := 1) (pc' := 110) dX11_readsRoute_109 rfl (by decide) ?_
      refine X.goto (pc' := 114) dX11_readsRoute_110 (by decide) ?_
      refine X.sub (L := [some (.ref a0), none, none]) ?_ (⟨rfl, trivial⟩)
      exact ok_X11_readsRoute_114 hk44 hk118 h
  · rw [if_neg hc] at h
    cases h
    exact X.vret dX11_readsRoute_92 rfl (Nat.le_of_ble_eq_true rfl) (Nat.le_of_ble_eq_true rfl) rfl
def f_X11_readsRoute_44b (fu : Nat) (a0 : Nat) (a1 : Int32) (M : List Ob) (k44 : Nat → Int32 → List Ob → Option (Unit × List Ob)) (k118 : Nat → List Ob → Option (Unit × List Ob)) : Option (Unit × List Ob) :=
  if a1 = 0 then (k118 a0 M)
  else ((gI M a0 11 10).bind fun v1 =>
  if v1 = 1 then ((gP M a0 11 1).bind fun r3 =>
  (gI M a0 11 11).bind fun v5 =>
  bd2 (f_X11_canGo fu r3 v5 M) fun v7 M8 =>
  if v7 = 0 then ((hasO M8 a0 11).bind fun _ =>
  bd2 (f_X11_fails fu a0 (-3) M8) fun _ M12 =>
  f_X11_readsRoute_76 fu a0 M12 k44 k118)
  else (f_X11_readsRoute_76 fu a0 M8 k44 k118))
  else (f_X11_readsRoute_76 fu a0 M k44 k118))
set_option maxHeartbeats 4000000 in
theorem ok_X11_readsRoute_44b {G : GT} {fu : Nat} {out : Unit × List Ob} {a0 : Nat} {a1 : Int32} {M : List Ob} {k44 : Nat → Int32 → List Ob → Option (Unit × List Ob)} {k118 : Nat → List Ob → Option (Unit × List Ob)} (hk44 : ∀ (a0 : Nat) (a1 : Int32) (M : List Ob), k44 a0 a1 M = some out → X G t_X11_readsRoute [] 44 [some (.ref a0), some (.int a1), none] [] M 0 0 (oU out)) (hk118 : ∀ (a0 : Nat) (M : List Ob), k118 a0 M = some out → X G t_X11_readsRoute [] 118 [some (.ref a0), none, none] [] M 0 0 (oU out)) (h : f_X11_readsRoute_44b fu a0 a1 M k44 k118 = some out) : X G t_X11_readsRoute [] 44 [some (.ref a0), some (.int a1), none] [] M 0 0 (oU out) := by
  unfold f_X11_readsRoute_44b at h
  refine X.iload_n (x := a1) (pc' := 45) dX11_readsRoute_44 rfl rfl rfl ?_
  refine X.if_eq (tgt := 118) (pc' := 48) dX11_readsRoute_45 (by decide) rfl (fun hc => ?_) (fun hc => ?_)
  · rw [if_pos hc] at h
    refine X.sub (L := [some (.ref a0), none, none]) ?_ (⟨rfl, trivial⟩)
    exact hk118 _ _ h
  · rw [if_neg hc] at h
    refine X.aload_n (x := a0) (pc' := 49) dX11_readsRoute_48 rfl rfl rfl ?_
    obtain ⟨v1, e2, h⟩ := bindE h
    refine X.getf (pc' := 52) dX11_readsRoute_49 rfl fq_X11_86 (gI_spec e2) ?_
    refine X.iconst (v := 1) (pc' := 53) dX11_readsRoute_52 rfl (by decide) ?_
    refine X.icmp_ne (tgt := 76) (pc' := 56) dX11_readsRoute_53 (by decide) rfl (fun hc => ?_) (fun hc => ?_)
    · rw [if_neg hc] at h
      refine X.sub (L := [some (.ref a0), none, none]) ?_ (⟨rfl, trivial⟩)
      exact ok_X11_readsRoute_76 hk44 hk118 h
    · rw [if_pos hc] at h
      refine X.aload_n (x := a0) (pc' := 57) dX11_readsRoute_56 rfl rfl rfl ?_
      obtain ⟨r3, e4, h⟩ := bindE h
      refine X.getf (pc' := 60) dX11_readsRoute_57 rfl fq_X11_13 (gP_spec e4) ?_
      refine X.aload_n (x := a0) (pc' := 61) dX11_readsRoute_60 rfl rfl rfl ?_
      obtain ⟨v5, e6, h⟩ := bindE h
      refine X.getf (pc' := 64) dX11_readsRoute_61 rfl fq_X11_96 (gI_spec e6) ?_
      obtain ⟨v7, M8, e9, h⟩ := bd2E h
      refine X.callS (v := some (.int v7)) (As := [.ref r3, .int v5]) (st := []) (M' := M8) (pc' := 67) dX11_readsRoute_64 rfl cl_X11_134 ms_X11_canGo ⟨⟨Nat.le_of_ble_eq_true rfl, Nat.le_of_ble_eq_true rfl⟩, Nat.le_of_ble_eq_true rfl, Nat.le_of_ble_eq_true rfl⟩ rfl (Nat.le_of_ble_eq_true rfl) (ok_X11_canGo (G := zs G) e9) ?_
      show X G t_X11_readsRoute [] 67 [some (.ref a0), some (.int a1), none] [.int v7] M8 0 0 _
      refine X.if_ne (tgt := 76) (pc' := 70) dX11_readsRoute_67 (by decide) rfl (fun hc => ?_) (fun hc => ?_)
      · rw [if_neg hc] at h
        refine X.sub (L := [some (.ref a0), none, none]) ?_ (⟨rfl, trivial⟩)
        exact ok_X11_readsRoute_76 hk44 hk118 h
      · rw [if_pos hc] at h
        refine X.aload_n (x := a0) (pc' := 71) dX11_readsRoute_70 rfl rfl rfl ?_
        refine X.bipush (v := (-3)) (pc' := 73) dX11_readsRoute_71 rfl (by decide) ?_
        obtain ⟨⟨⟩, e14, h⟩ := bindE h
        obtain ⟨r11, M12, e13, h⟩ := bd2E h
        refine X.callV (b := a0) (v := none) (As := [.int (-3)]) (st := []) (M' := M12) (pc' := 76) dX11_readsRoute_73 rfl cl_X11_115 mi_X11_fails me_X11_fails mr_X11_fails e14 ⟨⟨Nat.le_of_ble_eq_true rfl, Nat.le_of_ble_eq_true rfl⟩, Nat.le_of_ble_eq_true rfl, Nat.le_of_ble_eq_true rfl⟩ rfl (Nat.le_of_ble_eq_true rfl) (ok_X11_fails (G := zs G) e13) ?_
        show X G t_X11_readsRoute [] 76 [some (.ref a0), some (.int a1), none] [] M12 0 0 _
        refine X.sub (L := [some (.ref a0), none, none]) ?_ (⟨rfl, trivial⟩)
        exact ok_X11_readsRoute_76 hk44 hk118 h
def f_X11_readsRoute_44 (fu : Nat) (k118 : Nat → List Ob → Option (Unit × List Ob)) : Nat → Nat → Int32 → List Ob → Option (Unit × List Ob)
  | 0, _, _, _ => none
  | n + 1, a0, a1, M => f_X11_readsRoute_44b fu a0 a1 M (fun a0 a1 M => f_X11_readsRoute_44 fu k118 n a0 a1 M) k118
theorem ok_X11_readsRoute_44 {G : GT} {fu : Nat} {out : Unit × List Ob} {k118 : Nat → List Ob → Option (Unit × List Ob)} (hk118 : ∀ (a0 : Nat) (M : List Ob), k118 a0 M = some out → X G t_X11_readsRoute [] 118 [some (.ref a0), none, none] [] M 0 0 (oU out)) : ∀ (n : Nat) (a0 : Nat) (a1 : Int32) (M : List Ob), f_X11_readsRoute_44 fu k118 n a0 a1 M = some out → X G t_X11_readsRoute [] 44 [some (.ref a0), some (.int a1), none] [] M 0 0 (oU out) := by
  intro n
  induction n with
  | zero =>
    intro a0 a1 M h
    unfold f_X11_readsRoute_44 at h
    cases h
  | succ n ih =>
    intro a0 a1 M h
    unfold f_X11_readsRoute_44 at h
    exact ok_X11_readsRoute_44b ih hk118 h
def f_X11_readsRoute_171 (fu : Nat) (a0 : Nat) (M : List Ob) : Option (Unit × List Ob) :=
  (hasO M a0 11).bind fun _ =>
  bd2 (f_X11_isSemicolon fu a0 M) fun v1 M2 =>
  if v1 = 0 then (some ((), M2))
  else ((gP M2 a0 11 1).bind fun r5 =>
  bd2 (f_X11_tells fu r5 M2) fun _ M8 =>
  some ((), M8))
set_option maxHeartbeats 4000000 in
theorem ok_X11_readsRoute_171 {G : GT} {fu : Nat} {out : Unit × List Ob} {a0 : Nat} {M : List Ob} (h : f_X11_readsRoute_171 fu a0 M = some out) : X G t_X11_readsRoute [] 171 [some (.ref a0), none, none] [] M 0 0 (oU out) := by
  unfold f_X11_readsRoute_171 at h
  refine X.aload_n (x := a0) (pc' := 172) dX11_readsRoute_171 rfl rfl rfl ?_
  obtain ⟨⟨⟩, e4, h⟩ := bindE h
  obtain ⟨v1, M2, e3, h⟩ := bd2E h
  refine X.callV (b := a0) (v := some (.int v1)) (As := []) (st := []) (M' := M2) (pc' := 175) dX11_readsRoute_172 rfl cl_X11_141 mi_X11_isSemicolon me_X11_isSemicolon mr_X11_isSemicolon e4 ⟨⟨Nat.le_of_ble_eq_true rfl, Nat.le_of_ble_eq_true rfl⟩, Nat.le_of_ble_eq_true rfl, Nat.le_of_ble_eq_true rfl⟩ rfl (Nat.le_of_ble_eq_true rfl) (ok_X11_isSemicolon (G := zs G) e3) ?_
  show X G t_X11_readsRoute [] 175 [some (.ref a0), none, none] [.int v1] M2 0 0 _
  refine X.if_eq (tgt := 185) (pc' := 178) dX11_readsRoute_175 (by decide) rfl (fun hc => ?_) (fun hc => ?_)
  · rw [if_pos hc] at h
    cases h
    exact X.vret dX11_readsRoute_185 rfl (Nat.le_of_ble_eq_true rfl) (Nat.le_of_ble_eq_true rfl) rfl
  · rw [if_neg hc] at h
    refine X.aload_n (x := a0) (pc' := 179) dX11_readsRoute_178 rfl rfl rfl ?_
    obtain ⟨r5, e6, h⟩ := bindE h
    refine X.getf (pc' := 182) dX11_readsRoute_179 rfl fq_X11_13 (gP_spec e6) ?_
    obtain ⟨r7, M8, e9, h⟩ := bd2E h
    refine X.callS (v := none) (As := [.ref r5]) (st := []) (M' := M8) (pc' := 185) dX11_readsRoute_182 rfl cl_X11_152 ms_X11_tells ⟨⟨Nat.le_of_ble_eq_true rfl, Nat.le_of_ble_eq_true rfl⟩, Nat.le_of_ble_eq_true rfl, Nat.le_of_ble_eq_true rfl⟩ rfl (Nat.le_of_ble_eq_true rfl) (ok_X11_tells (G := zs G) e9) ?_
    show X G t_X11_readsRoute [] 185 [some (.ref a0), none, none] [] M8 0 0 _
    cases h
    exact X.vret dX11_readsRoute_185 rfl (Nat.le_of_ble_eq_true rfl) (Nat.le_of_ble_eq_true rfl) rfl
def f_X11_readsRoute_147 (fu : Nat) (a0 : Nat) (M : List Ob) : Option (Unit × List Ob) :=
  (hasO M a0 11).bind fun _ =>
  bd2 (f_X11_isSemicolon fu a0 M) fun v1 M2 =>
  if v1 = 0 then (f_X11_readsRoute_171 fu a0 M2)
  else ((gP M2 a0 11 1).bind fun r5 =>
  bd2 (f_X11_toldAs fu r5 M2) fun v7 M8 =>
  if v7 = (-1) then (f_X11_readsRoute_171 fu a0 M8)
  else ((hasO M8 a0 11).bind fun _ =>
  bd2 (f_X11_fails fu a0 (-3) M8) fun _ M12 =>
  f_X11_readsRoute_171 fu a0 M12))
set_option maxHeartbeats 4000000 in
theorem ok_X11_readsRoute_147 {G : GT} {fu : Nat} {out : Unit × List Ob} {a0 : Nat} {M : List Ob} (h : f_X11_readsRoute_147 fu a0 M = some out) : X G t_X11_readsRoute [] 147 [some (.ref a0), none, none] [] M 0 0 (oU out) := by
  unfold f_X11_readsRoute_147 at h
  refine X.aload_n (x := a0) (pc' := 148) dX11_readsRoute_147 rfl rfl rfl ?_
  obtain ⟨⟨⟩, e4, h⟩ := bindE h
  obtain ⟨v1, M2, e3, h⟩ := bd2E h
  refine X.callV (b := a0) (v := some (.int v1)) (As := []) (st := []) (M' := M2) (pc' := 151) dX11_readsRoute_148 rfl cl_X11_141 mi_X11_isSemicolon me_X11_isSemicolon mr_X11_isSemicolon e4 ⟨⟨Nat.le_of_ble_eq_true rfl, Nat.le_of_ble_eq_true rfl⟩, Nat.le_of_ble_eq_true rfl, Nat.le_of_ble_eq_true rfl⟩ rfl (Nat.le_of_ble_eq_true rfl) (ok_X11_isSemicolon (G := zs G) e3) ?_
  show X G t_X11_readsRoute [] 151 [some (.ref a0), none, none] [.int v1] M2 0 0 _
  refine X.if_eq (tgt := 171) (pc' := 154) dX11_readsRoute_151 (by decide) rfl (fun hc => ?_) (fun hc => ?_)
  · rw [if_pos hc] at h
    exact ok_X11_readsRoute_171 h
  · rw [if_neg hc] at h
    refine X.aload_n (x := a0) (pc' := 155) dX11_readsRoute_154 rfl rfl rfl ?_
    obtain ⟨r5, e6, h⟩ := bindE h
    refine X.getf (pc' := 158) dX11_readsRoute_155 rfl fq_X11_13 (gP_spec e6) ?_
    obtain ⟨v7, M8, e9, h⟩ := bd2E h
    refine X.callS (v := some (.int v7)) (As := [.ref r5]) (st := []) (M' := M8) (pc' := 161) dX11_readsRoute_158 rfl cl_X11_149 ms_X11_toldAs ⟨⟨Nat.le_of_ble_eq_true rfl, Nat.le_of_ble_eq_true rfl⟩, Nat.le_of_ble_eq_true rfl, Nat.le_of_ble_eq_true rfl⟩ rfl (Nat.le_of_ble_eq_true rfl) (ok_X11_toldAs (G := zs G) e9) ?_
    show X G t_X11_readsRoute [] 161 [some (.ref a0), none, none] [.int v7] M8 0 0 _
    refine X.iconst (v := (-1)) (pc' := 162) dX11_readsRoute_161 rfl (by decide) ?_
    refine X.icmp_eq (tgt := 171) (pc' := 165) dX11_readsRoute_162 (by decide) rfl (fun hc => ?_) (fun hc => ?_)
    · rw [if_pos hc] at h
      exact ok_X11_readsRoute_171 h
    · rw [if_neg hc] at h
      refine X.aload_n (x := a0) (pc' := 166) dX11_readsRoute_165 rfl rfl rfl ?_
      refine X.bipush (v := (-3)) (pc' := 168) dX11_readsRoute_166 rfl (by decide) ?_
      obtain ⟨⟨⟩, e14, h⟩ := bindE h
      obtain ⟨r11, M12, e13, h⟩ := bd2E h
      refine X.callV (b := a0) (v := none) (As := [.int (-3)]) (st := []) (M' := M12) (pc' := 171) dX11_readsRoute_168 rfl cl_X11_115 mi_X11_fails me_X11_fails mr_X11_fails e14 ⟨⟨Nat.le_of_ble_eq_true rfl, Nat.le_of_ble_eq_true rfl⟩, Nat.le_of_ble_eq_true rfl, Nat.le_of_ble_eq_true rfl⟩ rfl (Nat.le_of_ble_eq_true rfl) (ok_X11_fails (G := zs G) e13) ?_
      show X G t_X11_readsRoute [] 171 [some (.ref a0), none, none] [] M12 0 0 _
      exact ok_X11_readsRoute_171 h
def f_X11_readsRoute_118 (fu : Nat) (a0 : Nat) (M : List Ob) : Option (Unit × List Ob) :=
  (hasO M a0 11).bind fun _ =>
  bd2 (f_X11_isSemicolon fu a0 M) fun v1 M2 =>
  if v1 = 0 then (f_X11_readsRoute_147 fu a0 M2)
  else ((gP M2 a0 11 1).bind fun r5 =>
  bd2 (f_X11_draftEnd fu r5 M2) fun v7 M8 =>
  (gP M8 a0 11 1).bind fun r11 =>
  (aI M8 r11 13 2).bind fun v14 =>
  if v7 = v14 then (f_X11_readsRoute_147 fu a0 M8)
  else ((hasO M8 a0 11).bind fun _ =>
  bd2 (f_X11_fails fu a0 (-2) M8) fun _ M16 =>
  f_X11_readsRoute_147 fu a0 M16))
set_option maxHeartbeats 4000000 in
theorem ok_X11_readsRoute_118 {G : GT} {fu : Nat} {out : Unit × List Ob} {a0 : Nat} {M : List Ob} (h : f_X11_readsRoute_118 fu a0 M = some out) : X G t_X11_readsRoute [] 118 [some (.ref a0), none, none] [] M 0 0 (oU out) := by
  unfold f_X11_readsRoute_118 at h
  refine X.aload_n (x := a0) (pc' := 119) dX11_readsRoute_118 rfl rfl rfl ?_
  obtain ⟨⟨⟩, e4, h⟩ := bindE h
  obtain ⟨v1, M2, e3, h⟩ := bd2E h
  refine X.callV (b := a0) (v := some (.int v1)) (As := []) (st := []) (M' := M2) (pc' := 122) dX11_readsRoute_119 rfl cl_X11_141 mi_X11_isSemicolon me_X11_isSemicolon mr_X11_isSemicolon e4 ⟨⟨Nat.le_of_ble_eq_true rfl, Nat.le_of_ble_eq_true rfl⟩, Nat.le_of_ble_eq_true rfl, Nat.le_of_ble_eq_true rfl⟩ rfl (Nat.le_of_ble_eq_true rfl) (ok_X11_isSemicolon (G := zs G) e3) ?_
  show X G t_X11_readsRoute [] 122 [some (.ref a0), none, none] [.int v1] M2 0 0 _
  refine X.if_eq (tgt := 147) (pc' := 125) dX11_readsRoute_122 (by decide) rfl (fun hc => ?_) (fun hc => ?_)
  · rw [if_pos hc] at h
    exact ok_X11_readsRoute_147 h
  · rw [if_neg hc] at h
    refine X.aload_n (x := a0) (pc' := 126) dX11_readsRoute_125 rfl rfl rfl ?_
    obtain ⟨r5, e6, h⟩ := bindE h
    refine X.getf (pc' := 129) dX11_readsRoute_126 rfl fq_X11_13 (gP_spec e6) ?_
    obtain ⟨v7, M8, e9, h⟩ := bd2E h
    refine X.callS (v := some (.int v7)) (As := [.ref r5]) (st := []) (M' := M8) (pc' := 132) dX11_readsRoute_129 rfl cl_X11_145 ms_X11_draftEnd ⟨⟨Nat.le_of_ble_eq_true rfl, Nat.le_of_ble_eq_true rfl⟩, Nat.le_of_ble_eq_true rfl, Nat.le_of_ble_eq_true rfl⟩ rfl (Nat.le_of_ble_eq_true rfl) (ok_X11_draftEnd (G := zs G) e9) ?_
    show X G t_X11_readsRoute [] 132 [some (.ref a0), none, none] [.int v7] M8 0 0 _
    refine X.aload_n (x := a0) (pc' := 133) dX11_readsRoute_132 rfl rfl rfl ?_
    obtain ⟨r11, e12, h⟩ := bindE h
    refine X.getf (pc' := 136) dX11_readsRoute_133 rfl fq_X11_13 (gP_spec e12) ?_
    refine X.iconst (v := 2) (pc' := 137) dX11_readsRoute_136 rfl (by decide) ?_
    obtain ⟨v14, e13, h⟩ := bindE h
    refine X.iald (pc' := 138) dX11_readsRoute_137 rfl e13 ?_
    refine X.icmp_eq (tgt := 147) (pc' := 141) dX11_readsRoute_138 (by decide) rfl (fun hc => ?_) (fun hc => ?_)
    · rw [if_pos hc] at h
      exact ok_X11_readsRoute_147 h
    · rw [if_neg hc] at h
      refine X.aload_n (x := a0) (pc' := 142) dX11_readsRoute_141 rfl rfl rfl ?_
      refine X.bipush (v := (-2)) (pc' := 144) dX11_readsRoute_142 rfl (by decide) ?_
      obtain ⟨⟨⟩, e18, h⟩ := bindE h
      obtain ⟨r15, M16, e17, h⟩ := bd2E h
      refine X.callV (b := a0) (v := none) (As := [.int (-2)]) (st := []) (M' := M16) (pc' := 147) dX11_readsRoute_144 rfl cl_X11_115 mi_X11_fails me_X11_fails mr_X11_fails e18 ⟨⟨Nat.le_of_ble_eq_true rfl, Nat.le_of_ble_eq_true rfl⟩, Nat.le_of_ble_eq_true rfl, Nat.le_of_ble_eq_true rfl⟩ rfl (Nat.le_of_ble_eq_true rfl) (ok_X11_fails (G := zs G) e17) ?_
      show X G t_X11_readsRoute [] 147 [some (.ref a0), none, none] [] M16 0 0 _
      exact ok_X11_readsRoute_147 h
def f_X11_readsRoute_43 (fu : Nat) (a0 : Nat) (b0 : Int32) (M : List Ob) : Option (Unit × List Ob) :=
  f_X11_readsRoute_44 fu (fun x1 M2 => f_X11_readsRoute_118 fu x1 M2) fu a0 b0 M
set_option maxHeartbeats 4000000 in
theorem ok_X11_readsRoute_43 {G : GT} {fu : Nat} {out : Unit × List Ob} {a0 : Nat} {b0 : Int32} {M : List Ob} (h : f_X11_readsRoute_43 fu a0 b0 M = some out) : X G t_X11_readsRoute [] 43 [some (.ref a0), none, none] [.int b0] M 0 0 (oU out) := by
  unfold f_X11_readsRoute_43 at h
  refine X.istore_n (L' := [some (.ref a0), some (.int b0), none]) (pc' := 44) dX11_readsRoute_43 rfl rfl (Nat.le_of_ble_eq_true rfl) rfl ?_
  refine ok_X11_readsRoute_44 ?_ fu _ _ _ h
  · intro x1 M2 h
    exact ok_X11_readsRoute_118 h
def f_X11_readsRoute_18 (fu : Nat) (a0 : Nat) (M : List Ob) : Option (Unit × List Ob) :=
  (hasO M a0 11).bind fun _ =>
  bd2 (f_X11_must fu a0 1 M) fun _ M2 =>
  (gP M2 a0 11 1).bind fun r5 =>
  (aSet M2 r5 13 118 (.int 0)).bind fun M8 =>
  (gI M8 a0 11 12).bind fun v9 =>
  if v9 = 0 then (f_X11_readsRoute_43 fu a0 1 M8)
  else (f_X11_readsRoute_43 fu a0 0 M8)
set_option maxHeartbeats 4000000 in
theorem ok_X11_readsRoute_18 {G : GT} {fu : Nat} {out : Unit × List Ob} {a0 : Nat} {M : List Ob} (h : f_X11_readsRoute_18 fu a0 M = some out) : X G t_X11_readsRoute [] 18 [some (.ref a0), none, none] [] M 0 0 (oU out) := by
  unfold f_X11_readsRoute_18 at h
  refine X.aload_n (x := a0) (pc' := 19) dX11_readsRoute_18 rfl rfl rfl ?_
  refine X.iconst (v := 1) (pc' := 20) dX11_readsRoute_19 rfl (by decide) ?_
  obtain ⟨⟨⟩, e4, h⟩ := bindE h
  obtain ⟨r1, M2, e3, h⟩ := bd2E h
  refine X.callV (b := a0) (v := none) (As := [.int 1]) (st := []) (M' := M2) (pc' := 23) dX11_readsRoute_20 rfl cl_X11_122 mi_X11_must me_X11_must mr_X11_must e4 ⟨⟨Nat.le_of_ble_eq_true rfl, Nat.le_of_ble_eq_true rfl⟩, Nat.le_of_ble_eq_true rfl, Nat.le_of_ble_eq_true rfl⟩ rfl (Nat.le_of_ble_eq_true rfl) (ok_X11_must (G := zs G) e3) ?_
  show X G t_X11_readsRoute [] 23 [some (.ref a0), none, none] [] M2 0 0 _
  refine X.aload_n (x := a0) (pc' := 24) dX11_readsRoute_23 rfl rfl rfl ?_
  obtain ⟨r5, e6, h⟩ := bindE h
  refine X.getf (pc' := 27) dX11_readsRoute_24 rfl fq_X11_13 (gP_spec e6) ?_
  refine X.bipush (v := 118) (pc' := 29) dX11_readsRoute_27 rfl (by decide) ?_
  refine X.iconst (v := 0) (pc' := 30) dX11_readsRoute_29 rfl (by decide) ?_
  obtain ⟨M8, e7, h⟩ := bindE h
  refine X.iast (pc' := 31) dX11_readsRoute_30 rfl e7 ?_
  refine X.aload_n (x := a0) (pc' := 32) dX11_readsRoute_31 rfl rfl rfl ?_
  obtain ⟨v9, e10, h⟩ := bindE h
  refine X.getf (pc' := 35) dX11_readsRoute_32 rfl fq_X11_99 (gI_spec e10) ?_
  refine X.if_ne (tgt := 42) (pc' := 38) dX11_readsRoute_35 (by decide) rfl (fun hc => ?_) (fun hc => ?_)
  · rw [if_neg hc] at h
    refine X.iconst (v := 0) (pc' := 43) dX11_readsRoute_42 rfl (by decide) ?_
    exact ok_X11_readsRoute_43 h
  · rw [if_pos hc] at h
    refine X.iconst (v := 1) (pc' := 39) dX11_readsRoute_38 rfl (by decide) ?_
    refine X.goto (pc' := 43) dX11_readsRoute_39 (by decide) ?_
    exact ok_X11_readsRoute_43 h
def f_X11_readsRoute (fu : Nat) (a0 : Nat) (M : List Ob) : Option (Unit × List Ob) :=
  (gP M a0 11 1).bind fun r1 =>
  (aI M r1 13 69).bind fun v4 =>
  if v4 = 6 then ((hasO M a0 11).bind fun _ =>
  bd2 (f_X11_fails fu a0 (-4) M) fun _ M6 =>
  f_X11_readsRoute_18 fu a0 M6)
  else (f_X11_readsRoute_18 fu a0 M)
set_option maxHeartbeats 4000000 in
theorem ok_X11_readsRoute {G : GT} {fu : Nat} {a0 : Nat} {M : List Ob} {out : Unit × List Ob} (h : f_X11_readsRoute fu a0 M = some out) : Sp G t_X11_readsRoute [.ref a0] M (oU out) := by
  refine Sp.of rfl (by decide +kernel) (cat_all rfl) (Nat.le_of_ble_eq_true rfl) ?_
  show X G t_X11_readsRoute [] 0 [some (.ref a0), none, none] [] M 0 0 (oU out)
  unfold f_X11_readsRoute at h
  refine X.aload_n (x := a0) (pc' := 1) dX11_readsRoute_0 rfl rfl rfl ?_
  obtain ⟨r1, e2, h⟩ := bindE h
  refine X.getf (pc' := 4) dX11_readsRoute_1 rfl fq_X11_13 (gP_spec e2) ?_
  refine X.bipush (v := 69) (pc' := 6) dX11_readsRoute_4 rfl (by decide) ?_
  obtain ⟨v4, e3, h⟩ := bindE h
  refine X.iald (pc' := 7) dX11_readsRoute_6 rfl e3 ?_
  refine X.bipush (v := 6) (pc' := 9) dX11_readsRoute_7 rfl (by decide) ?_
  refine X.icmp_ne (tgt := 18) (pc' := 12) dX11_readsRoute_9 (by decide) rfl (fun hc => ?_) (fun hc => ?_)
  · rw [if_neg hc] at h
    exact ok_X11_readsRoute_18 h
  · rw [if_pos hc] at h
    refine X.aload_n (x := a0) (pc' := 13) dX11_readsRoute_12 rfl rfl rfl ?_
    refine X.bipush (v := (-4)) (pc' := 15) dX11_readsRoute_13 rfl (by decide) ?_
    obtain ⟨⟨⟩, e8, h⟩ := bindE h
    obtain ⟨r5, M6, e7, h⟩ := bd2E h
    refine X.callV (b := a0) (v := none) (As := [.int (-4)]) (st := []) (M' := M6) (pc' := 18) dX11_readsRoute_15 rfl cl_X11_115 mi_X11_fails me_X11_fails mr_X11_fails e8 ⟨⟨Nat.le_of_ble_eq_true rfl, Nat.le_of_ble_eq_true rfl⟩, Nat.le_of_ble_eq_true rfl, Nat.le_of_ble_eq_true rfl⟩ rfl (Nat.le_of_ble_eq_true rfl) (ok_X11_fails (G := zs G) e7) ?_
    show X G t_X11_readsRoute [] 18 [some (.ref a0), none, none] [] M6 0 0 _
    exact ok_X11_readsRoute_18 h
def f_X11_readsStatement_69 (fu : Nat) (a0 : Nat) (M : List Ob) : Option (Unit × List Ob) :=
  (hasO M a0 11).bind fun _ =>
  bd2 (f_X11_isSemicolon fu a0 M) fun v1 M2 =>
  (hasO M2 a0 11).bind fun _ =>
  bd2 (f_X11_must fu a0 v1 M2) fun _ M6 =>
  some ((), M6)
set_option maxHeartbeats 4000000 in
theorem ok_X11_readsStatement_69 {G : GT} {fu : Nat} {out : Unit × List Ob} {a0 : Nat} {M : List Ob} (h : f_X11_readsStatement_69 fu a0 M = some out) : X G t_X11_readsStatement [] 69 [some (.ref a0)] [] M 0 0 (oU out) := by
  unfold f_X11_readsStatement_69 at h
  refine X.aload_n (x := a0) (pc' := 70) dX11_readsStatement_69 rfl rfl rfl ?_
  refine X.aload_n (x := a0) (pc' := 71) dX11_readsStatement_70 rfl rfl rfl ?_
  obtain ⟨⟨⟩, e4, h⟩ := bindE h
  obtain ⟨v1, M2, e3, h⟩ := bd2E h
  refine X.callV (b := a0) (v := some (.int v1)) (As := []) (st := [.ref a0]) (M' := M2) (pc' := 74) dX11_readsStatement_71 rfl cl_X11_141 mi_X11_isSemicolon me_X11_isSemicolon mr_X11_isSemicolon e4 ⟨⟨Nat.le_of_ble_eq_true rfl, Nat.le_of_ble_eq_true rfl⟩, Nat.le_of_ble_eq_true rfl, Nat.le_of_ble_eq_true rfl⟩ rfl (Nat.le_of_ble_eq_true rfl) (ok_X11_isSemicolon (G := zs G) e3) ?_
  show X G t_X11_readsStatement [] 74 [some (.ref a0)] [.int v1, .ref a0] M2 0 0 _
  obtain ⟨⟨⟩, e8, h⟩ := bindE h
  obtain ⟨r5, M6, e7, h⟩ := bd2E h
  refine X.callV (b := a0) (v := none) (As := [.int v1]) (st := []) (M' := M6) (pc' := 77) dX11_readsStatement_74 rfl cl_X11_122 mi_X11_must me_X11_must mr_X11_must e8 ⟨⟨Nat.le_of_ble_eq_true rfl, Nat.le_of_ble_eq_true rfl⟩, Nat.le_of_ble_eq_true rfl, Nat.le_of_ble_eq_true rfl⟩ rfl (Nat.le_of_ble_eq_true rfl) (ok_X11_must (G := zs G) e7) ?_
  show X G t_X11_readsStatement [] 77 [some (.ref a0)] [] M6 0 0 _
  cases h
  exact X.vret dX11_readsStatement_77 rfl (Nat.le_of_ble_eq_true rfl) (Nat.le_of_ble_eq_true rfl) rfl
def f_X11_readsStatement (fu : Nat) (a0 : Nat) (M : List Ob) : Option (Unit × List Ob) :=
  (hasO M a0 11).bind fun _ =>
  bd2 (f_X11_isWord fu a0 1000001 M) fun v1 M2 =>
  if v1 = 0 then ((hasO M2 a0 11).bind fun _ =>
  bd2 (f_X11_isWord fu a0 1000002 M2) fun v5 M6 =>
  if v5 = 0 then ((hasO M6 a0 11).bind fun _ =>
  bd2 (f_X11_isWord fu a0 1000003 M6) fun v9 M10 =>
  if v9 = 0 then ((hasO M10 a0 11).bind fun _ =>
  bd2 (f_X11_fails fu a0 (-2) M10) fun _ M14 =>
  f_X11_readsStatement_69 fu a0 M14)
  else ((hasO M10 a0 11).bind fun _ =>
  bd2 (f_X11_readsRoute fu a0 M10) fun _ M18 =>
  f_X11_readsStatement_69 fu a0 M18))
  else ((hasO M6 a0 11).bind fun _ =>
  bd2 (f_X11_readsArc fu a0 M6) fun _ M22 =>
  f_X11_readsStatement_69 fu a0 M22))
  else ((hasO M2 a0 11).bind fun _ =>
  bd2 (f_X11_must fu a0 1 M2) fun _ M26 =>
  (gP M26 a0 11 1).bind fun r29 =>
  (hasO M26 a0 11).bind fun _ =>
  bd2 (f_X11_takes fu a0 0 6 (-1) M26) fun v31 M32 =>
  (aSet M32 r29 13 3 (.int v31)).bind fun M36 =>
  f_X11_readsStatement_69 fu a0 M36)
set_option maxHeartbeats 4000000 in
theorem ok_X11_readsStatement {G : GT} {fu : Nat} {a0 : Nat} {M : List Ob} {out : Unit × List Ob} (h : f_X11_readsStatement fu a0 M = some out) : Sp G t_X11_readsStatement [.ref a0] M (oU out) := by
  refine Sp.of rfl (by decide +kernel) (cat_all rfl) (Nat.le_of_ble_eq_true rfl) ?_
  show X G t_X11_readsStatement [] 0 [some (.ref a0)] [] M 0 0 (oU out)
  unfold f_X11_readsStatement at h
  refine X.aload_n (x := a0) (pc' := 1) dX11_readsStatement_0 rfl rfl rfl ?_
  refine X.ldcS (tx := "budget") (j := 1) (pc' := 3) dX11_readsStatement_1 rfl (by decide +kernel) ?_
  obtain ⟨⟨⟩, e4, h⟩ := bindE h
  obtain ⟨v1, M2, e3, h⟩ := bd2E h
  refine X.callV (b := a0) (v := some (.int v1)) (As := [.ref 1000001]) (st := []) (M' := M2) (pc' := 6) dX11_readsStatement_3 rfl cl_X11_157 mi_X11_isWord me_X11_isWord mr_X11_isWord e4 ⟨⟨Nat.le_of_ble_eq_true rfl, Nat.le_of_ble_eq_true rfl⟩, Nat.le_of_ble_eq_true rfl, Nat.le_of_ble_eq_true rfl⟩ rfl (Nat.le_of_ble_eq_true rfl) (ok_X11_isWord (G := zs G) e3) ?_
  show X G t_X11_readsStatement [] 6 [some (.ref a0)] [.int v1] M2 0 0 _
  refine X.if_eq (tgt := 31) (pc' := 9) dX11_readsStatement_6 (by decide) rfl (fun hc => ?_) (fun hc => ?_)
  · rw [if_pos hc] at h
    refine X.aload_n (x := a0) (pc' := 32) dX11_readsStatement_31 rfl rfl rfl ?_
    refine X.ldcS (tx := "arc") (j := 2) (pc' := 34) dX11_readsStatement_32 rfl (by decide +kernel) ?_
    obtain ⟨⟨⟩, e8, h⟩ := bindE h
    obtain ⟨v5, M6, e7, h⟩ := bd2E h
    refine X.callV (b := a0) (v := some (.int v5)) (As := [.ref 1000002]) (st := []) (M' := M6) (pc' := 37) dX11_readsStatement_34 rfl cl_X11_157 mi_X11_isWord me_X11_isWord mr_X11_isWord e8 ⟨⟨Nat.le_of_ble_eq_true rfl, Nat.le_of_ble_eq_true rfl⟩, Nat.le_of_ble_eq_true rfl, Nat.le_of_ble_eq_true rfl⟩ rfl (Nat.le_of_ble_eq_true rfl) (ok_X11_isWord (G := zs G) e7) ?_
    show X G t_X11_readsStatement [] 37 [some (.ref a0)] [.int v5] M6 0 0 _
    refine X.if_eq (tgt := 47) (pc' := 40) dX11_readsStatement_37 (by decide) rfl (fun hc => ?_) (fun hc => ?_)
    · rw [if_pos hc] at h
      refine X.aload_n (x := a0) (pc' := 48) dX11_readsStatement_47 rfl rfl rfl ?_
      refine X.ldcS (tx := "route") (j := 3) (pc' := 50) dX11_readsStatement_48 rfl (by decide +kernel) ?_
      obtain ⟨⟨⟩, e12, h⟩ := bindE h
      obtain ⟨v9, M10, e11, h⟩ := bd2E h
      refine X.callV (b := a0) (v := some (.int v9)) (As := [.ref 1000003]) (st := []) (M' := M10) (pc' := 53) dX11_readsStatement_50 rfl cl_X11_157 mi_X11_isWord me_X11_isWord mr_X11_isWord e12 ⟨⟨Nat.le_of_ble_eq_true rfl, Nat.le_of_ble_eq_true rfl⟩, Nat.le_of_ble_eq_true rfl, Nat.le_of_ble_eq_true rfl⟩ rfl (Nat.le_of_ble_eq_true rfl) (ok_X11_isWord (G := zs G) e11) ?_
      show X G t_X11_readsStatement [] 53 [some (.ref a0)] [.int v9] M10 0 0 _
      refine X.if_eq (tgt := 63) (pc' := 56) dX11_readsStatement_53 (by decide) rfl (fun hc => ?_) (fun hc => ?_)
      · rw [if_pos hc] at h
        refine X.aload_n (x := a0) (pc' := 64) dX11_readsStatement_63 rfl rfl rfl ?_
        refine X.bipush (v := (-2)) (pc' := 66) dX11_readsStatement_64 rfl (by decide) ?_
        obtain ⟨⟨⟩, e16, h⟩ := bindE h
        obtain ⟨r13, M14, e15, h⟩ := bd2E h
        refine X.callV (b := a0) (v := none) (As := [.int (-2)]) (st := []) (M' := M14) (pc' := 69) dX11_readsStatement_66 rfl cl_X11_115 mi_X11_fails me_X11_fails mr_X11_fails e16 ⟨⟨Nat.le_of_ble_eq_true rfl, Nat.le_of_ble_eq_true rfl⟩, Nat.le_of_ble_eq_true rfl, Nat.le_of_ble_eq_true rfl⟩ rfl (Nat.le_of_ble_eq_true rfl) (ok_X11_fails (G := zs G) e15) ?_
        show X G t_X11_readsStatement [] 69 [some (.ref a0)] [] M14 0 0 _
        exact ok_X11_readsStatement_69 h
      · rw [if_neg hc] at h
        refine X.aload_n (x := a0) (pc' := 57) dX11_readsStatement_56 rfl rfl rfl ?_
        obtain ⟨⟨⟩, e20, h⟩ := bindE h
        obtain ⟨r17, M18, e19, h⟩ := bd2E h
        refine X.callV (b := a0) (v := none) (As := []) (st := []) (M' := M18) (pc' := 60) dX11_readsStatement_57 rfl cl_X11_168 mi_X11_readsRoute me_X11_readsRoute mr_X11_readsRoute e20 ⟨⟨Nat.le_of_ble_eq_true rfl, Nat.le_of_ble_eq_true rfl⟩, Nat.le_of_ble_eq_true rfl, Nat.le_of_ble_eq_true rfl⟩ rfl (Nat.le_of_ble_eq_true rfl) (ok_X11_readsRoute (G := zs G) e19) ?_
        show X G t_X11_readsStatement [] 60 [some (.ref a0)] [] M18 0 0 _
        refine X.goto (pc' := 69) dX11_readsStatement_60 (by decide) ?_
        exact ok_X11_readsStatement_69 h
    · rw [if_neg hc] at h
      refine X.aload_n (x := a0) (pc' := 41) dX11_readsStatement_40 rfl rfl rfl ?_
      obtain ⟨⟨⟩, e24, h⟩ := bindE h
      obtain ⟨r21, M22, e23, h⟩ := bd2E h
      refine X.callV (b := a0) (v := none) (As := []) (st := []) (M' := M22) (pc' := 44) dX11_readsStatement_41 rfl cl_X11_163 mi_X11_readsArc me_X11_readsArc mr_X11_readsArc e24 ⟨⟨Nat.le_of_ble_eq_true rfl, Nat.le_of_ble_eq_true rfl⟩, Nat.le_of_ble_eq_true rfl, Nat.le_of_ble_eq_true rfl⟩ rfl (Nat.le_of_ble_eq_true rfl) (ok_X11_readsArc (G := zs G) e23) ?_
      show X G t_X11_readsStatement [] 44 [some (.ref a0)] [] M22 0 0 _
      refine X.goto (pc' := 69) dX11_readsStatement_44 (by decide) ?_
      exact ok_X11_readsStatement_69 h
  · rw [if_neg hc] at h
    refine X.aload_n (x := a0) (pc' := 10) dX11_readsStatement_9 rfl rfl rfl ?_
    refine X.iconst (v := 1) (pc' := 11) dX11_readsStatement_10 rfl (by decide) ?_
    obtain ⟨⟨⟩, e28, h⟩ := bindE h
    obtain ⟨r25, M26, e27, h⟩ := bd2E h
    refine X.callV (b := a0) (v := none) (As := [.int 1]) (st := []) (M' := M26) (pc' := 14) dX11_readsStatement_11 rfl cl_X11_122 mi_X11_must me_X11_must mr_X11_must e28 ⟨⟨Nat.le_of_ble_eq_true rfl, Nat.le_of_ble_eq_true rfl⟩, Nat.le_of_ble_eq_true rfl, Nat.le_of_ble_eq_true rfl⟩ rfl (Nat.le_of_ble_eq_true rfl) (ok_X11_must (G := zs G) e27) ?_
    show X G t_X11_readsStatement [] 14 [some (.ref a0)] [] M26 0 0 _
    refine X.aload_n (x := a0) (pc' := 15) dX11_readsStatement_14 rfl rfl rfl ?_
    obtain ⟨r29, e30, h⟩ := bindE h
    refine X.getf (pc' := 18) dX11_readsStatement_15 rfl fq_X11_13 (gP_spec e30) ?_
    refine X.iconst (v := 3) (pc' := 19) dX11_readsStatement_18 rfl (by decide) ?_
    refine X.aload_n (x := a0) (pc' := 20) dX11_readsStatement_19 rfl rfl rfl ?_
    refine X.iconst (v := 0) (pc' := 21) dX11_readsStatement_20 rfl (by decide) ?_
    refine X.bipush (v := 6) (pc' := 23) dX11_readsStatement_21 rfl (by decide) ?_
    refine X.iconst (v := (-1)) (pc' := 24) dX11_readsStatement_23 rfl (by decide) ?_
    obtain ⟨⟨⟩, e34, h⟩ := bindE h
    obtain ⟨v31, M32, e33, h⟩ := bd2E h
    refine X.callV (b := a0) (v := some (.int v31)) (As := [.int 0, .int 6, .int (-1)]) (st := [.int 3, .ref r29]) (M' := M32) (pc' := 27) dX11_readsStatement_24 rfl cl_X11_126 mi_X11_takes me_X11_takes mr_X11_takes e34 ⟨⟨Nat.le_of_ble_eq_true rfl, Nat.le_of_ble_eq_true rfl⟩, Nat.le_of_ble_eq_true rfl, Nat.le_of_ble_eq_true rfl⟩ rfl (Nat.le_of_ble_eq_true rfl) (ok_X11_takes (G := zs G) e33) ?_
    show X G t_X11_readsStatement [] 27 [some (.ref a0)] [.int v31, .int 3, .ref r29] M32 0 0 _
    obtain ⟨M36, e35, h⟩ := bindE h
    refine X.iast (pc' := 28) dX11_readsStatement_27 rfl e35 ?_
    refine X.goto (pc' := 69) dX11_readsStatement_28 (by decide) ?_
    exact ok_X11_readsStatement_69 h
def f_X11_load_106b (fu : Nat) (a0 : Nat) (M : List Ob) (k106 : Nat → List Ob → Option (Int32 × List Ob)) (k128 : Nat → List Ob → Option (Int32 × List Ob)) : Option (Int32 × List Ob) :=
  (gI M a0 11 12).bind fun v1 =>
  if v1 = 0 then ((gI M a0 11 10).bind fun v3 =>
  if v3 = 3 then (k128 a0 M)
  else ((hasO M a0 11).bind fun _ =>
  bd2 (f_X11_readsStatement fu a0 M) fun _ M6 =>
  k106 a0 M6))
  else (k128 a0 M)
set_option maxHeartbeats 4000000 in
theorem ok_X11_load_106b {G : GT} {fu : Nat} {out : Int32 × List Ob} {a0 : Nat} {M : List Ob} {k106 : Nat → List Ob → Option (Int32 × List Ob)} {k128 : Nat → List Ob → Option (Int32 × List Ob)} (hk106 : ∀ (a0 : Nat) (M : List Ob), k106 a0 M = some out → X G t_X11_load [] 106 [some (.ref a0), none, none, none] [] M 0 0 (oI out)) (hk128 : ∀ (a0 : Nat) (M : List Ob), k128 a0 M = some out → X G t_X11_load [] 128 [some (.ref a0), none, none, none] [] M 0 0 (oI out)) (h : f_X11_load_106b fu a0 M k106 k128 = some out) : X G t_X11_load [] 106 [some (.ref a0), none, none, none] [] M 0 0 (oI out) := by
  unfold f_X11_load_106b at h
  refine X.aload_n (x := a0) (pc' := 107) dX11_load_106 rfl rfl rfl ?_
  obtain ⟨v1, e2, h⟩ := bindE h
  refine X.getf (pc' := 110) dX11_load_107 rfl fq_X11_99 (gI_spec e2) ?_
  refine X.if_ne (tgt := 128) (pc' := 113) dX11_load_110 (by decide) rfl (fun hc => ?_) (fun hc => ?_)
  · rw [if_neg hc] at h
    exact hk128 _ _ h
  · rw [if_pos hc] at h
    refine X.aload_n (x := a0) (pc' := 114) dX11_load_113 rfl rfl rfl ?_
    obtain ⟨v3, e4, h⟩ := bindE h
    refine X.getf (pc' := 117) dX11_load_114 rfl fq_X11_86 (gI_spec e4) ?_
    refine X.iconst (v := 3) (pc' := 118) dX11_load_117 rfl (by decide) ?_
    refine X.icmp_eq (tgt := 128) (pc' := 121) dX11_load_118 (by decide) rfl (fun hc => ?_) (fun hc => ?_)
    · rw [if_pos hc] at h
      exact hk128 _ _ h
    · rw [if_neg hc] at h
      refine X.aload_n (x := a0) (pc' := 122) dX11_load_121 rfl rfl rfl ?_
      obtain ⟨⟨⟩, e8, h⟩ := bindE h
      obtain ⟨r5, M6, e7, h⟩ := bd2E h
      refine X.callV (b := a0) (v := none) (As := []) (st := []) (M' := M6) (pc' := 125) dX11_load_122 rfl cl_X11_173 mi_X11_readsStatement me_X11_readsStatement mr_X11_readsStatement e8 ⟨⟨Nat.le_of_ble_eq_true rfl, Nat.le_of_ble_eq_true rfl⟩, Nat.le_of_ble_eq_true rfl, Nat.le_of_ble_eq_true rfl⟩ rfl (Nat.le_of_ble_eq_true rfl) (ok_X11_readsStatement (G := zs G) e7) ?_
      show X G t_X11_load [] 125 [some (.ref a0), none, none, none] [] M6 0 0 _
      refine X.goto (pc' := 106) dX11_load_125 (by decide) ?_
      exact hk106 _ _ h
def f_X11_load_106 (fu : Nat) (k128 : Nat → List Ob → Option (Int32 × List Ob)) : Nat → Nat → List Ob → Option (Int32 × List Ob)
  | 0, _, _ => none
  | n + 1, a0, M => f_X11_load_106b fu a0 M (fun a0 M => f_X11_load_106 fu k128 n a0 M) k128
theorem ok_X11_load_106 {G : GT} {fu : Nat} {out : Int32 × List Ob} {k128 : Nat → List Ob → Option (Int32 × List Ob)} (hk128 : ∀ (a0 : Nat) (M : List Ob), k128 a0 M = some out → X G t_X11_load [] 128 [some (.ref a0), none, none, none] [] M 0 0 (oI out)) : ∀ (n : Nat) (a0 : Nat) (M : List Ob), f_X11_load_106 fu k128 n a0 M = some out → X G t_X11_load [] 106 [some (.ref a0), none, none, none] [] M 0 0 (oI out) := by
  intro n
  induction n with
  | zero =>
    intro a0 M h
    unfold f_X11_load_106 at h
    cases h
  | succ n ih =>
    intro a0 M h
    unfold f_X11_load_106 at h
    exact ok_X11_load_106b ih hk128 h
def f_X11_load_144 (fu : Nat) (a0 : Nat) (b0 : Nat) (b1 : Int32) (M : List Ob) : Option (Int32 × List Ob) :=
  (pF M b0 11 14 (.int b1)).bind fun M1 =>
  (gI M1 a0 11 12).bind fun v3 =>
  if v3 = 0 then ((gP M1 a0 11 1).bind fun r5 =>
  (aSet M1 r5 13 118 (.int 0)).bind fun M8 =>
  (gP M8 a0 11 1).bind fun r9 =>
  bd2 (f_X11_setsOut fu r9 M8) fun _ M12 =>
  (hasO M12 a0 11).bind fun _ =>
  bd2 (f_X11_keeps fu a0 M12) fun _ M16 =>
  (gP M16 a0 11 1).bind fun r19 =>
  (hasO M16 a0 11).bind fun _ =>
  bd2 (f_X11_becomes fu a0 r19 0 M16) fun _ M22 =>
  (gP M22 a0 11 0).bind fun r25 =>
  (aI M22 r25 13 4).bind fun v28 =>
  some (v28, M22))
  else ((gI M1 a0 11 12).bind fun v29 =>
  some (v29, M1))
set_option maxHeartbeats 4000000 in
theorem ok_X11_load_144 {G : GT} {fu : Nat} {out : Int32 × List Ob} {a0 : Nat} {b0 : Nat} {b1 : Int32} {M : List Ob} (h : f_X11_load_144 fu a0 b0 b1 M = some out) : X G t_X11_load [] 144 [some (.ref a0), none, none, none] [.int b1, .ref b0] M 0 0 (oI out) := by
  unfold f_X11_load_144 at h
  obtain ⟨M1, e2, h⟩ := bindE h
  refine X.putf (pc' := 147) dX11_load_144 rfl fq_X11_22 rfl rfl e2 ?_
  refine X.aload_n (x := a0) (pc' := 148) dX11_load_147 rfl rfl rfl ?_
  obtain ⟨v3, e4, h⟩ := bindE h
  refine X.getf (pc' := 151) dX11_load_148 rfl fq_X11_99 (gI_spec e4) ?_
  refine X.if_eq (tgt := 159) (pc' := 154) dX11_load_151 (by decide) rfl (fun hc => ?_) (fun hc => ?_)
  · rw [if_pos hc] at h
    refine X.aload_n (x := a0) (pc' := 160) dX11_load_159 rfl rfl rfl ?_
    obtain ⟨r5, e6, h⟩ := bindE h
    refine X.getf (pc' := 163) dX11_load_160 rfl fq_X11_13 (gP_spec e6) ?_
    refine X.bipush (v := 118) (pc' := 165) dX11_load_163 rfl (by decide) ?_
    refine X.iconst (v := 0) (pc' := 166) dX11_load_165 rfl (by decide) ?_
    obtain ⟨M8, e7, h⟩ := bindE h
    refine X.iast (pc' := 167) dX11_load_166 rfl e7 ?_
    refine X.aload_n (x := a0) (pc' := 168) dX11_load_167 rfl rfl rfl ?_
    obtain ⟨r9, e10, h⟩ := bindE h
    refine X.getf (pc' := 171) dX11_load_168 rfl fq_X11_13 (gP_spec e10) ?_
    obtain ⟨r11, M12, e13, h⟩ := bd2E h
    refine X.callS (v := none) (As := [.ref r9]) (st := []) (M' := M12) (pc' := 174) dX11_load_171 rfl cl_X11_52 ms_X11_setsOut ⟨⟨Nat.le_of_ble_eq_true rfl, Nat.le_of_ble_eq_true rfl⟩, Nat.le_of_ble_eq_true rfl, Nat.le_of_ble_eq_true rfl⟩ rfl (Nat.le_of_ble_eq_true rfl) (ok_X11_setsOut (G := zs G) e13) ?_
    show X G t_X11_load [] 174 [some (.ref a0), none, none, none] [] M12 0 0 _
    refine X.aload_n (x := a0) (pc' := 175) dX11_load_174 rfl rfl rfl ?_
    obtain ⟨⟨⟩, e18, h⟩ := bindE h
    obtain ⟨r15, M16, e17, h⟩ := bd2E h
    refine X.callV (b := a0) (v := none) (As := []) (st := []) (M' := M16) (pc' := 178) dX11_load_175 rfl cl_X11_176 mi_X11_keeps me_X11_keeps mr_X11_keeps e18 ⟨⟨Nat.le_of_ble_eq_true rfl, Nat.le_of_ble_eq_true rfl⟩, Nat.le_of_ble_eq_true rfl, Nat.le_of_ble_eq_true rfl⟩ rfl (Nat.le_of_ble_eq_true rfl) (ok_X11_keeps (G := zs G) e17) ?_
    show X G t_X11_load [] 178 [some (.ref a0), none, none, none] [] M16 0 0 _
    refine X.aload_n (x := a0) (pc' := 179) dX11_load_178 rfl rfl rfl ?_
    refine X.aload_n (x := a0) (pc' := 180) dX11_load_179 rfl rfl rfl ?_
    obtain ⟨r19, e20, h⟩ := bindE h
    refine X.getf (pc' := 183) dX11_load_180 rfl fq_X11_13 (gP_spec e20) ?_
    refine X.iconst (v := 0) (pc' := 184) dX11_load_183 rfl (by decide) ?_
    obtain ⟨⟨⟩, e24, h⟩ := bindE h
    obtain ⟨r21, M22, e23, h⟩ := bd2E h
    refine X.callV (b := a0) (v := none) (As := [.ref r19, .int 0]) (st := []) (M' := M22) (pc' := 187) dX11_load_184 rfl cl_X11_48 mi_X11_becomes me_X11_becomes mr_X11_becomes e24 ⟨⟨Nat.le_of_ble_eq_true rfl, Nat.le_of_ble_eq_true rfl⟩, Nat.le_of_ble_eq_true rfl, Nat.le_of_ble_eq_true rfl⟩ rfl (Nat.le_of_ble_eq_true rfl) (ok_X11_becomes (G := zs G) e23) ?_
    show X G t_X11_load [] 187 [some (.ref a0), none, none, none] [] M22 0 0 _
    refine X.aload_n (x := a0) (pc' := 188) dX11_load_187 rfl rfl rfl ?_
    obtain ⟨r25, e26, h⟩ := bindE h
    refine X.getf (pc' := 191) dX11_load_188 rfl fq_X11_7 (gP_spec e26) ?_
    refine X.iconst (v := 4) (pc' := 192) dX11_load_191 rfl (by decide) ?_
    obtain ⟨v28, e27, h⟩ := bindE h
    refine X.iald (pc' := 193) dX11_load_192 rfl e27 ?_
    cases h
    exact X.iret (ty := .int) dX11_load_193 rfl rfl (Nat.le_of_ble_eq_true rfl) (Nat.le_of_ble_eq_true rfl) rfl
  · rw [if_neg hc] at h
    refine X.aload_n (x := a0) (pc' := 155) dX11_load_154 rfl rfl rfl ?_
    obtain ⟨v29, e30, h⟩ := bindE h
    refine X.getf (pc' := 158) dX11_load_155 rfl fq_X11_99 (gI_spec e30) ?_
    cases h
    exact X.iret (ty := .int) dX11_load_158 rfl rfl (Nat.le_of_ble_eq_true rfl) (Nat.le_of_ble_eq_true rfl) rfl
def f_X11_load_128 (fu : Nat) (a0 : Nat) (M : List Ob) : Option (Int32 × List Ob) :=
  (gI M a0 11 12).bind fun v1 =>
  if v1 = 0 then (f_X11_load_144 fu a0 a0 (-1) M)
  else ((gI M a0 11 13).bind fun v3 =>
  f_X11_load_144 fu a0 a0 v3 M)
set_option maxHeartbeats 4000000 in
theorem ok_X11_load_128 {G : GT} {fu : Nat} {out : Int32 × List Ob} {a0 : Nat} {M : List Ob} (h : f_X11_load_128 fu a0 M = some out) : X G t_X11_load [] 128 [some (.ref a0), none, none, none] [] M 0 0 (oI out) := by
  unfold f_X11_load_128 at h
  refine X.aload_n (x := a0) (pc' := 129) dX11_load_128 rfl rfl rfl ?_
  refine X.aload_n (x := a0) (pc' := 130) dX11_load_129 rfl rfl rfl ?_
  obtain ⟨v1, e2, h⟩ := bindE h
  refine X.getf (pc' := 133) dX11_load_130 rfl fq_X11_99 (gI_spec e2) ?_
  refine X.if_ne (tgt := 140) (pc' := 136) dX11_load_133 (by decide) rfl (fun hc => ?_) (fun hc => ?_)
  · rw [if_neg hc] at h
    refine X.aload_n (x := a0) (pc' := 141) dX11_load_140 rfl rfl rfl ?_
    obtain ⟨v3, e4, h⟩ := bindE h
    refine X.getf (pc' := 144) dX11_load_141 rfl fq_X11_112 (gI_spec e4) ?_
    exact ok_X11_load_144 h
  · rw [if_pos hc] at h
    refine X.iconst (v := (-1)) (pc' := 137) dX11_load_136 rfl (by decide) ?_
    refine X.goto (pc' := 144) dX11_load_137 (by decide) ?_
    exact ok_X11_load_144 h
def f_X11_load_18 (fu : Nat) (a0 : Nat) (a1 : Int32) (b0 : Nat) (b1 : Int32) (M : List Ob) : Option (Int32 × List Ob) :=
  (pF M b0 11 4 (.int b1)).bind fun M1 =>
  (gI M1 a0 11 4).bind fun v3 =>
  if v3 ≤ 0 then ((pF M1 a0 11 7 (.int a1)).bind fun M5 =>
  (pF M5 a0 11 6 (.int 0)).bind fun M7 =>
  (pF M7 a0 11 9 (.int 0)).bind fun M9 =>
  (pF M9 a0 11 12 (.int 0)).bind fun M11 =>
  (hasO M11 a0 11).bind fun _ =>
  bd2 (f_X11_next fu a0 M11) fun _ M14 =>
  (hasO M14 a0 11).bind fun _ =>
  bd2 (f_X11_isWord fu a0 1000000 M14) fun v17 M18 =>
  (hasO M18 a0 11).bind fun _ =>
  bd2 (f_X11_must fu a0 v17 M18) fun _ M22 =>
  (hasO M22 a0 11).bind fun _ =>
  bd2 (f_X11_takes fu a0 2 8 (-1) M22) fun v25 M26 =>
  (hasO M26 a0 11).bind fun _ =>
  bd2 (f_X11_takes fu a0 0 (v25 - 1) (-1) M26) fun v29 M30 =>
  (hasO M30 a0 11).bind fun _ =>
  bd2 (f_X11_takes fu a0 0 (v25 - 1) v29 M30) fun v33 M34 =>
  (hasO M34 a0 11).bind fun _ =>
  bd2 (f_X11_begins fu a0 v25 v29 v33 M34) fun _ M38 =>
  (hasO M38 a0 11).bind fun _ =>
  bd2 (f_X11_isSemicolon fu a0 M38) fun v41 M42 =>
  (hasO M42 a0 11).bind fun _ =>
  bd2 (f_X11_must fu a0 v41 M42) fun _ M46 =>
  f_X11_load_106 fu (fun x49 M50 => f_X11_load_128 fu x49 M50) fu a0 M46)
  else (some (0, M1))
set_option maxHeartbeats 4000000 in
theorem ok_X11_load_18 {G : GT} {fu : Nat} {out : Int32 × List Ob} {a0 : Nat} {a1 : Int32} {b0 : Nat} {b1 : Int32} {M : List Ob} (h : f_X11_load_18 fu a0 a1 b0 b1 M = some out) : X G t_X11_load [] 18 [some (.ref a0), some (.int a1), none, none] [.int b1, .ref b0] M 0 0 (oI out) := by
  unfold f_X11_load_18 at h
  obtain ⟨M1, e2, h⟩ := bindE h
  refine X.putf (pc' := 21) dX11_load_18 rfl fq_X11_56 rfl rfl e2 ?_
  refine X.aload_n (x := a0) (pc' := 22) dX11_load_21 rfl rfl rfl ?_
  obtain ⟨v3, e4, h⟩ := bindE h
  refine X.getf (pc' := 25) dX11_load_22 rfl fq_X11_56 (gI_spec e4) ?_
  refine X.if_le (tgt := 30) (pc' := 28) dX11_load_25 (by decide) rfl (fun hc => ?_) (fun hc => ?_)
  · rw [if_pos hc] at h
    refine X.aload_n (x := a0) (pc' := 31) dX11_load_30 rfl rfl rfl ?_
    refine X.iload_n (x := a1) (pc' := 32) dX11_load_31 rfl rfl rfl ?_
    obtain ⟨M5, e6, h⟩ := bindE h
    refine X.putf (pc' := 35) dX11_load_32 rfl fq_X11_69 rfl rfl e6 ?_
    refine X.aload_n (x := a0) (pc' := 36) dX11_load_35 rfl rfl rfl ?_
    refine X.iconst (v := 0) (pc' := 37) dX11_load_36 rfl (by decide) ?_
    obtain ⟨M7, e8, h⟩ := bindE h
    refine X.putf (pc' := 40) dX11_load_37 rfl fq_X11_66 rfl rfl e8 ?_
    refine X.aload_n (x := a0) (pc' := 41) dX11_load_40 rfl rfl rfl ?_
    refine X.iconst (v := 0) (pc' := 42) dX11_load_41 rfl (by decide) ?_
    obtain ⟨M9, e10, h⟩ := bindE h
    refine X.putf (pc' := 45) dX11_load_42 rfl fq_X11_76 rfl rfl e10 ?_
    refine X.aload_n (x := a0) (pc' := 46) dX11_load_45 rfl rfl rfl ?_
    refine X.iconst (v := 0) (pc' := 47) dX11_load_46 rfl (by decide) ?_
    obtain ⟨M11, e12, h⟩ := bindE h
    refine X.putf (pc' := 50) dX11_load_47 rfl fq_X11_99 rfl rfl e12 ?_
    refine X.aload_n (x := a0) (pc' := 51) dX11_load_50 rfl rfl rfl ?_
    obtain ⟨⟨⟩, e16, h⟩ := bindE h
    obtain ⟨r13, M14, e15, h⟩ := bd2E h
    refine X.callV (b := a0) (v := none) (As := []) (st := []) (M' := M14) (pc' := 54) dX11_load_51 rfl cl_X11_119 mi_X11_next me_X11_next mr_X11_next e16 ⟨⟨Nat.le_of_ble_eq_true rfl, Nat.le_of_ble_eq_true rfl⟩, Nat.le_of_ble_eq_true rfl, Nat.le_of_ble_eq_true rfl⟩ rfl (Nat.le_of_ble_eq_true rfl) (ok_X11_next (G := zs G) e15) ?_
    show X G t_X11_load [] 54 [some (.ref a0), some (.int a1), none, none] [] M14 0 0 _
    refine X.aload_n (x := a0) (pc' := 55) dX11_load_54 rfl rfl rfl ?_
    refine X.aload_n (x := a0) (pc' := 56) dX11_load_55 rfl rfl rfl ?_
    refine X.ldcS (tx := "net") (j := 0) (pc' := 58) dX11_load_56 rfl (by decide +kernel) ?_
    obtain ⟨⟨⟩, e20, h⟩ := bindE h
    obtain ⟨v17, M18, e19, h⟩ := bd2E h
    refine X.callV (b := a0) (v := some (.int v17)) (As := [.ref 1000000]) (st := [.ref a0]) (M' := M18) (pc' := 61) dX11_load_58 rfl cl_X11_157 mi_X11_isWord me_X11_isWord mr_X11_isWord e20 ⟨⟨Nat.le_of_ble_eq_true rfl, Nat.le_of_ble_eq_true rfl⟩, Nat.le_of_ble_eq_true rfl, Nat.le_of_ble_eq_true rfl⟩ rfl (Nat.le_of_ble_eq_true rfl) (ok_X11_isWord (G := zs G) e19) ?_
    show X G t_X11_load [] 61 [some (.ref a0), some (.int a1), none, none] [.int v17, .ref a0] M18 0 0 _
    obtain ⟨⟨⟩, e24, h⟩ := bindE h
    obtain ⟨r21, M22, e23, h⟩ := bd2E h
    refine X.callV (b := a0) (v := none) (As := [.int v17]) (st := []) (M' := M22) (pc' := 64) dX11_load_61 rfl cl_X11_122 mi_X11_must me_X11_must mr_X11_must e24 ⟨⟨Nat.le_of_ble_eq_true rfl, Nat.le_of_ble_eq_true rfl⟩, Nat.le_of_ble_eq_true rfl, Nat.le_of_ble_eq_true rfl⟩ rfl (Nat.le_of_ble_eq_true rfl) (ok_X11_must (G := zs G) e23) ?_
    show X G t_X11_load [] 64 [some (.ref a0), some (.int a1), none, none] [] M22 0 0 _
    refine X.aload_n (x := a0) (pc' := 65) dX11_load_64 rfl rfl rfl ?_
    refine X.iconst (v := 2) (pc' := 66) dX11_load_65 rfl (by decide) ?_
    refine X.bipush (v := 8) (pc' := 68) dX11_load_66 rfl (by decide) ?_
    refine X.iconst (v := (-1)) (pc' := 69) dX11_load_68 rfl (by decide) ?_
    obtain ⟨⟨⟩, e28, h⟩ := bindE h
    obtain ⟨v25, M26, e27, h⟩ := bd2E h
    refine X.callV (b := a0) (v := some (.int v25)) (As := [.int 2, .int 8, .int (-1)]) (st := []) (M' := M26) (pc' := 72) dX11_load_69 rfl cl_X11_126 mi_X11_takes me_X11_takes mr_X11_takes e28 ⟨⟨Nat.le_of_ble_eq_true rfl, Nat.le_of_ble_eq_true rfl⟩, Nat.le_of_ble_eq_true rfl, Nat.le_of_ble_eq_true rfl⟩ rfl (Nat.le_of_ble_eq_true rfl) (ok_X11_takes (G := zs G) e27) ?_
    show X G t_X11_load [] 72 [some (.ref a0), some (.int a1), none, none] [.int v25] M26 0 0 _
    refine X.istore_n (L' := [some (.ref a0), some (.int a1), some (.int v25), none]) (pc' := 73) dX11_load_72 rfl rfl (Nat.le_of_ble_eq_true rfl) rfl ?_
    refine X.aload_n (x := a0) (pc' := 74) dX11_load_73 rfl rfl rfl ?_
    refine X.iconst (v := 0) (pc' := 75) dX11_load_74 rfl (by decide) ?_
    refine X.iload_n (x := v25) (pc' := 76) dX11_load_75 rfl rfl rfl ?_
    refine X.iconst (v := 1) (pc' := 77) dX11_load_76 rfl (by decide) ?_
    refine X.isub (pc' := 78) dX11_load_77 rfl ?_
    refine X.iconst (v := (-1)) (pc' := 79) dX11_load_78 rfl (by decide) ?_
    obtain ⟨⟨⟩, e32, h⟩ := bindE h
    obtain ⟨v29, M30, e31, h⟩ := bd2E h
    refine X.callV (b := a0) (v := some (.int v29)) (As := [.int 0, .int (v25 - 1), .int (-1)]) (st := []) (M' := M30) (pc' := 82) dX11_load_79 rfl cl_X11_126 mi_X11_takes me_X11_takes mr_X11_takes e32 ⟨⟨Nat.le_of_ble_eq_true rfl, Nat.le_of_ble_eq_true rfl⟩, Nat.le_of_ble_eq_true rfl, Nat.le_of_ble_eq_true rfl⟩ rfl (Nat.le_of_ble_eq_true rfl) (ok_X11_takes (G := zs G) e31) ?_
    show X G t_X11_load [] 82 [some (.ref a0), some (.int a1), some (.int v25), none] [.int v29] M30 0 0 _
    refine X.istore_n (L' := [some (.ref a0), some (.int a1), some (.int v25), some (.int v29)]) (pc' := 83) dX11_load_82 rfl rfl (Nat.le_of_ble_eq_true rfl) rfl ?_
    refine X.aload_n (x := a0) (pc' := 84) dX11_load_83 rfl rfl rfl ?_
    refine X.iload_n (x := v25) (pc' := 85) dX11_load_84 rfl rfl rfl ?_
    refine X.iload_n (x := v29) (pc' := 86) dX11_load_85 rfl rfl rfl ?_
    refine X.aload_n (x := a0) (pc' := 87) dX11_load_86 rfl rfl rfl ?_
    refine X.iconst (v := 0) (pc' := 88) dX11_load_87 rfl (by decide) ?_
    refine X.iload_n (x := v25) (pc' := 89) dX11_load_88 rfl rfl rfl ?_
    refine X.iconst (v := 1) (pc' := 90) dX11_load_89 rfl (by decide) ?_
    refine X.isub (pc' := 91) dX11_load_90 rfl ?_
    refine X.iload_n (x := v29) (pc' := 92) dX11_load_91 rfl rfl rfl ?_
    obtain ⟨⟨⟩, e36, h⟩ := bindE h
    obtain ⟨v33, M34, e35, h⟩ := bd2E h
    refine X.callV (b := a0) (v := some (.int v33)) (As := [.int 0, .int (v25 - 1), .int v29]) (st := [.int v29, .int v25, .ref a0]) (M' := M34) (pc' := 95) dX11_load_92 rfl cl_X11_126 mi_X11_takes me_X11_takes mr_X11_takes e36 ⟨⟨Nat.le_of_ble_eq_true rfl, Nat.le_of_ble_eq_true rfl⟩, Nat.le_of_ble_eq_true rfl, Nat.le_of_ble_eq_true rfl⟩ rfl (Nat.le_of_ble_eq_true rfl) (ok_X11_takes (G := zs G) e35) ?_
    show X G t_X11_load [] 95 [some (.ref a0), some (.int a1), some (.int v25), some (.int v29)] [.int v33, .int v29, .int v25, .ref a0] M34 0 0 _
    obtain ⟨⟨⟩, e40, h⟩ := bindE h
    obtain ⟨r37, M38, e39, h⟩ := bd2E h
    refine X.callV (b := a0) (v := none) (As := [.int v25, .int v29, .int v33]) (st := []) (M' := M38) (pc' := 98) dX11_load_95 rfl cl_X11_44 mi_X11_begins me_X11_begins mr_X11_begins e40 ⟨⟨Nat.le_of_ble_eq_true rfl, Nat.le_of_ble_eq_true rfl⟩, Nat.le_of_ble_eq_true rfl, Nat.le_of_ble_eq_true rfl⟩ rfl (Nat.le_of_ble_eq_true rfl) (ok_X11_begins (G := zs G) e39) ?_
    show X G t_X11_load [] 98 [some (.ref a0), some (.int a1), some (.int v25), some (.int v29)] [] M38 0 0 _
    refine X.aload_n (x := a0) (pc' := 99) dX11_load_98 rfl rfl rfl ?_
    refine X.aload_n (x := a0) (pc' := 100) dX11_load_99 rfl rfl rfl ?_
    obtain ⟨⟨⟩, e44, h⟩ := bindE h
    obtain ⟨v41, M42, e43, h⟩ := bd2E h
    refine X.callV (b := a0) (v := some (.int v41)) (As := []) (st := [.ref a0]) (M' := M42) (pc' := 103) dX11_load_100 rfl cl_X11_141 mi_X11_isSemicolon me_X11_isSemicolon mr_X11_isSemicolon e44 ⟨⟨Nat.le_of_ble_eq_true rfl, Nat.le_of_ble_eq_true rfl⟩, Nat.le_of_ble_eq_true rfl, Nat.le_of_ble_eq_true rfl⟩ rfl (Nat.le_of_ble_eq_true rfl) (ok_X11_isSemicolon (G := zs G) e43) ?_
    show X G t_X11_load [] 103 [some (.ref a0), some (.int a1), some (.int v25), some (.int v29)] [.int v41, .ref a0] M42 0 0 _
    obtain ⟨⟨⟩, e48, h⟩ := bindE h
    obtain ⟨r45, M46, e47, h⟩ := bd2E h
    refine X.callV (b := a0) (v := none) (As := [.int v41]) (st := []) (M' := M46) (pc' := 106) dX11_load_103 rfl cl_X11_122 mi_X11_must me_X11_must mr_X11_must e48 ⟨⟨Nat.le_of_ble_eq_true rfl, Nat.le_of_ble_eq_true rfl⟩, Nat.le_of_ble_eq_true rfl, Nat.le_of_ble_eq_true rfl⟩ rfl (Nat.le_of_ble_eq_true rfl) (ok_X11_must (G := zs G) e47) ?_
    show X G t_X11_load [] 106 [some (.ref a0), some (.int a1), some (.int v25), some (.int v29)] [] M46 0 0 _
    refine X.sub (L := [some (.ref a0), none, none, none]) ?_ (⟨rfl, trivial⟩)
    refine ok_X11_load_106 ?_ fu _ _ h
    · intro x49 M50 h
      exact ok_X11_load_128 h
  · rw [if_neg hc] at h
    refine X.iconst (v := 0) (pc' := 29) dX11_load_28 rfl (by decide) ?_
    cases h
    exact X.iret (ty := .int) dX11_load_29 rfl rfl (Nat.le_of_ble_eq_true rfl) (Nat.le_of_ble_eq_true rfl) rfl
def f_X11_load (fu : Nat) (a0 : Nat) (a1 : Int32) (M : List Ob) : Option (Int32 × List Ob) :=
  (gI M a0 11 6).bind fun v1 =>
  bd2 (f_X11_isIn fu a1 0 v1 M) fun v3 M4 =>
  if v3 = 0 then (f_X11_load_18 fu a0 a1 a0 1 M4)
  else (f_X11_load_18 fu a0 a1 a0 0 M4)
set_option maxHeartbeats 4000000 in
theorem ok_X11_load {G : GT} {fu : Nat} {a0 : Nat} {a1 : Int32} {M : List Ob} {out : Int32 × List Ob} (h : f_X11_load fu a0 a1 M = some out) : Sp G t_X11_load [.ref a0, .int a1] M (oI out) := by
  refine Sp.of rfl (by decide +kernel) (cat_all rfl) (Nat.le_of_ble_eq_true rfl) ?_
  show X G t_X11_load [] 0 [some (.ref a0), some (.int a1), none, none] [] M 0 0 (oI out)
  unfold f_X11_load at h
  refine X.aload_n (x := a0) (pc' := 1) dX11_load_0 rfl rfl rfl ?_
  refine X.iload_n (x := a1) (pc' := 2) dX11_load_1 rfl rfl rfl ?_
  refine X.iconst (v := 0) (pc' := 3) dX11_load_2 rfl (by decide) ?_
  refine X.aload_n (x := a0) (pc' := 4) dX11_load_3 rfl rfl rfl ?_
  obtain ⟨v1, e2, h⟩ := bindE h
  refine X.getf (pc' := 7) dX11_load_4 rfl fq_X11_66 (gI_spec e2) ?_
  obtain ⟨v3, M4, e5, h⟩ := bd2E h
  refine X.callS (v := some (.int v3)) (As := [.int a1, .int 0, .int v1]) (st := [.ref a0]) (M' := M4) (pc' := 10) dX11_load_7 rfl cl_X11_72 ms_X11_isIn ⟨⟨Nat.le_of_ble_eq_true rfl, Nat.le_of_ble_eq_true rfl⟩, Nat.le_of_ble_eq_true rfl, Nat.le_of_ble_eq_true rfl⟩ rfl (Nat.le_of_ble_eq_true rfl) (ok_X11_isIn (G := zs G) e5) ?_
  show X G t_X11_load [] 10 [some (.ref a0), some (.int a1), none, none] [.int v3, .ref a0] M4 0 0 _
  refine X.if_eq (tgt := 17) (pc' := 13) dX11_load_10 (by decide) rfl (fun hc => ?_) (fun hc => ?_)
  · rw [if_pos hc] at h
    refine X.iconst (v := 1) (pc' := 18) dX11_load_17 rfl (by decide) ?_
    exact ok_X11_load_18 h
  · rw [if_neg hc] at h
    refine X.iconst (v := 0) (pc' := 14) dX11_load_13 rfl (by decide) ?_
    refine X.goto (pc' := 18) dX11_load_14 (by decide) ?_
    exact ok_X11_load_18 h
def f_X11_errorPosition (fu : Nat) (a0 : Nat) (M : List Ob) : Option (Int32 × List Ob) :=
  (pF M a0 11 4 (.int 0)).bind fun M1 =>
  (gI M1 a0 11 14).bind fun v3 =>
  some (v3, M1)
set_option maxHeartbeats 4000000 in
theorem ok_X11_errorPosition {G : GT} {fu : Nat} {a0 : Nat} {M : List Ob} {out : Int32 × List Ob} (h : f_X11_errorPosition fu a0 M = some out) : Sp G t_X11_errorPosition [.ref a0] M (oI out) := by
  refine Sp.of rfl (by decide +kernel) (cat_all rfl) (Nat.le_of_ble_eq_true rfl) ?_
  show X G t_X11_errorPosition [] 0 [some (.ref a0)] [] M 0 0 (oI out)
  unfold f_X11_errorPosition at h
  refine X.aload_n (x := a0) (pc' := 1) dX11_errorPosition_0 rfl rfl rfl ?_
  refine X.iconst (v := 0) (pc' := 2) dX11_errorPosition_1 rfl (by decide) ?_
  obtain ⟨M1, e2, h⟩ := bindE h
  refine X.putf (pc' := 5) dX11_errorPosition_2 rfl fq_X11_56 rfl rfl e2 ?_
  refine X.aload_n (x := a0) (pc' := 6) dX11_errorPosition_5 rfl rfl rfl ?_
  obtain ⟨v3, e4, h⟩ := bindE h
  refine X.getf (pc' := 9) dX11_errorPosition_6 rfl fq_X11_22 (gI_spec e4) ?_
  cases h
  exact X.iret (ty := .int) dX11_errorPosition_9 rfl rfl (Nat.le_of_ble_eq_true rfl) (Nat.le_of_ble_eq_true rfl) rfl
def f_X11_of (fu : Nat) (a0 : Nat) (a1 : Int32) (a2 : Int32) (M : List Ob) : Option (Int32 × List Ob) :=
  (gP M a0 11 0).bind fun r1 =>
  bd2 (f_X11_arcOf fu r1 a1 a2 M) fun v3 M4 =>
  some (v3, M4)
set_option maxHeartbeats 4000000 in
theorem ok_X11_of {G : GT} {fu : Nat} {a0 : Nat} {a1 : Int32} {a2 : Int32} {M : List Ob} {out : Int32 × List Ob} (h : f_X11_of fu a0 a1 a2 M = some out) : Sp G t_X11_of [.ref a0, .int a1, .int a2] M (oI out) := by
  refine Sp.of rfl (by decide +kernel) (cat_all rfl) (Nat.le_of_ble_eq_true rfl) ?_
  show X G t_X11_of [] 0 [some (.ref a0), some (.int a1), some (.int a2)] [] M 0 0 (oI out)
  unfold f_X11_of at h
  refine X.aload_n (x := a0) (pc' := 1) dX11_of_0 rfl rfl rfl ?_
  obtain ⟨r1, e2, h⟩ := bindE h
  refine X.getf (pc' := 4) dX11_of_1 rfl fq_X11_7 (gP_spec e2) ?_
  refine X.iload_n (x := a1) (pc' := 5) dX11_of_4 rfl rfl rfl ?_
  refine X.iload_n (x := a2) (pc' := 6) dX11_of_5 rfl rfl rfl ?_
  obtain ⟨v3, M4, e5, h⟩ := bd2E h
  refine X.callS (v := some (.int v3)) (As := [.ref r1, .int a1, .int a2]) (st := []) (M' := M4) (pc' := 9) dX11_of_6 rfl cl_X11_179 ms_X11_arcOf ⟨⟨Nat.le_of_ble_eq_true rfl, Nat.le_of_ble_eq_true rfl⟩, Nat.le_of_ble_eq_true rfl, Nat.le_of_ble_eq_true rfl⟩ rfl (Nat.le_of_ble_eq_true rfl) (ok_X11_arcOf (G := zs G) e5) ?_
  show X G t_X11_of [] 9 [some (.ref a0), some (.int a1), some (.int a2)] [.int v3] M4 0 0 _
  cases h
  exact X.iret (ty := .int) dX11_of_9 rfl rfl (Nat.le_of_ble_eq_true rfl) (Nat.le_of_ble_eq_true rfl) rfl
def f_X11_isNode (fu : Nat) (a0 : Nat) (a1 : Int32) (M : List Ob) : Option (Int32 × List Ob) :=
  (gP M a0 11 0).bind fun r1 =>
  (aI M r1 13 0).bind fun v4 =>
  bd2 (f_X11_isIn fu a1 0 (v4 - 1) M) fun v5 M6 =>
  if v5 &&& 1 = v5 then some (v5, M6) else none
set_option maxHeartbeats 4000000 in
theorem ok_X11_isNode {G : GT} {fu : Nat} {a0 : Nat} {a1 : Int32} {M : List Ob} {out : Int32 × List Ob} (h : f_X11_isNode fu a0 a1 M = some out) : Sp G t_X11_isNode [.ref a0, .int a1] M (oI out) := by
  refine Sp.of rfl (by decide +kernel) (cat_all rfl) (Nat.le_of_ble_eq_true rfl) ?_
  show X G t_X11_isNode [] 0 [some (.ref a0), some (.int a1)] [] M 0 0 (oI out)
  unfold f_X11_isNode at h
  refine X.iload_n (x := a1) (pc' := 1) dX11_isNode_0 rfl rfl rfl ?_
  refine X.iconst (v := 0) (pc' := 2) dX11_isNode_1 rfl (by decide) ?_
  refine X.aload_n (x := a0) (pc' := 3) dX11_isNode_2 rfl rfl rfl ?_
  obtain ⟨r1, e2, h⟩ := bindE h
  refine X.getf (pc' := 6) dX11_isNode_3 rfl fq_X11_7 (gP_spec e2) ?_
  refine X.iconst (v := 0) (pc' := 7) dX11_isNode_6 rfl (by decide) ?_
  obtain ⟨v4, e3, h⟩ := bindE h
  refine X.iald (pc' := 8) dX11_isNode_7 rfl e3 ?_
  refine X.iconst (v := 1) (pc' := 9) dX11_isNode_8 rfl (by decide) ?_
  refine X.isub (pc' := 10) dX11_isNode_9 rfl ?_
  obtain ⟨v5, M6, e7, h⟩ := bd2E h
  refine X.callS (v := some (.int v5)) (As := [.int a1, .int 0, .int (v4 - 1)]) (st := []) (M' := M6) (pc' := 13) dX11_isNode_10 rfl cl_X11_72 ms_X11_isIn ⟨⟨Nat.le_of_ble_eq_true rfl, Nat.le_of_ble_eq_true rfl⟩, Nat.le_of_ble_eq_true rfl, Nat.le_of_ble_eq_true rfl⟩ rfl (Nat.le_of_ble_eq_true rfl) (ok_X11_isIn (G := zs G) e7) ?_
  show X G t_X11_isNode [] 13 [some (.ref a0), some (.int a1)] [.int v5] M6 0 0 _
  split at h
  rotate_left
  · cases h
  rename_i hz1
  cases h
  exact X.iret (ty := .boolean) dX11_isNode_13 rfl (congrArg Value.int hz1) (Nat.le_of_ble_eq_true rfl) (Nat.le_of_ble_eq_true rfl) rfl
def f_X11_isArc (fu : Nat) (a0 : Nat) (a1 : Int32) (M : List Ob) : Option (Int32 × List Ob) :=
  (gP M a0 11 0).bind fun r1 =>
  (aI M r1 13 4).bind fun v4 =>
  bd2 (f_X11_isIn fu a1 0 (v4 - 1) M) fun v5 M6 =>
  if v5 &&& 1 = v5 then some (v5, M6) else none
set_option maxHeartbeats 4000000 in
theorem ok_X11_isArc {G : GT} {fu : Nat} {a0 : Nat} {a1 : Int32} {M : List Ob} {out : Int32 × List Ob} (h : f_X11_isArc fu a0 a1 M = some out) : Sp G t_X11_isArc [.ref a0, .int a1] M (oI out) := by
  refine Sp.of rfl (by decide +kernel) (cat_all rfl) (Nat.le_of_ble_eq_true rfl) ?_
  show X G t_X11_isArc [] 0 [some (.ref a0), some (.int a1)] [] M 0 0 (oI out)
  unfold f_X11_isArc at h
  refine X.iload_n (x := a1) (pc' := 1) dX11_isArc_0 rfl rfl rfl ?_
  refine X.iconst (v := 0) (pc' := 2) dX11_isArc_1 rfl (by decide) ?_
  refine X.aload_n (x := a0) (pc' := 3) dX11_isArc_2 rfl rfl rfl ?_
  obtain ⟨r1, e2, h⟩ := bindE h
  refine X.getf (pc' := 6) dX11_isArc_3 rfl fq_X11_7 (gP_spec e2) ?_
  refine X.iconst (v := 4) (pc' := 7) dX11_isArc_6 rfl (by decide) ?_
  obtain ⟨v4, e3, h⟩ := bindE h
  refine X.iald (pc' := 8) dX11_isArc_7 rfl e3 ?_
  refine X.iconst (v := 1) (pc' := 9) dX11_isArc_8 rfl (by decide) ?_
  refine X.isub (pc' := 10) dX11_isArc_9 rfl ?_
  obtain ⟨v5, M6, e7, h⟩ := bd2E h
  refine X.callS (v := some (.int v5)) (As := [.int a1, .int 0, .int (v4 - 1)]) (st := []) (M' := M6) (pc' := 13) dX11_isArc_10 rfl cl_X11_72 ms_X11_isIn ⟨⟨Nat.le_of_ble_eq_true rfl, Nat.le_of_ble_eq_true rfl⟩, Nat.le_of_ble_eq_true rfl, Nat.le_of_ble_eq_true rfl⟩ rfl (Nat.le_of_ble_eq_true rfl) (ok_X11_isIn (G := zs G) e7) ?_
  show X G t_X11_isArc [] 13 [some (.ref a0), some (.int a1)] [.int v5] M6 0 0 _
  split at h
  rotate_left
  · cases h
  rename_i hz1
  cases h
  exact X.iret (ty := .boolean) dX11_isArc_13 rfl (congrArg Value.int hz1) (Nat.le_of_ble_eq_true rfl) (Nat.le_of_ble_eq_true rfl) rfl
def f_X11_isTold (fu : Nat) (a0 : Nat) (a1 : Int32) (M : List Ob) : Option (Int32 × List Ob) :=
  (gP M a0 11 0).bind fun r1 =>
  (aI M r1 13 69).bind fun v4 =>
  bd2 (f_X11_isIn fu a1 0 (v4 - 1) M) fun v5 M6 =>
  if v5 &&& 1 = v5 then some (v5, M6) else none
set_option maxHeartbeats 4000000 in
theorem ok_X11_isTold {G : GT} {fu : Nat} {a0 : Nat} {a1 : Int32} {M : List Ob} {out : Int32 × List Ob} (h : f_X11_isTold fu a0 a1 M = some out) : Sp G t_X11_isTold [.ref a0, .int a1] M (oI out) := by
  refine Sp.of rfl (by decide +kernel) (cat_all rfl) (Nat.le_of_ble_eq_true rfl) ?_
  show X G t_X11_isTold [] 0 [some (.ref a0), some (.int a1)] [] M 0 0 (oI out)
  unfold f_X11_isTold at h
  refine X.iload_n (x := a1) (pc' := 1) dX11_isTold_0 rfl rfl rfl ?_
  refine X.iconst (v := 0) (pc' := 2) dX11_isTold_1 rfl (by decide) ?_
  refine X.aload_n (x := a0) (pc' := 3) dX11_isTold_2 rfl rfl rfl ?_
  obtain ⟨r1, e2, h⟩ := bindE h
  refine X.getf (pc' := 6) dX11_isTold_3 rfl fq_X11_7 (gP_spec e2) ?_
  refine X.bipush (v := 69) (pc' := 8) dX11_isTold_6 rfl (by decide) ?_
  obtain ⟨v4, e3, h⟩ := bindE h
  refine X.iald (pc' := 9) dX11_isTold_8 rfl e3 ?_
  refine X.iconst (v := 1) (pc' := 10) dX11_isTold_9 rfl (by decide) ?_
  refine X.isub (pc' := 11) dX11_isTold_10 rfl ?_
  obtain ⟨v5, M6, e7, h⟩ := bd2E h
  refine X.callS (v := some (.int v5)) (As := [.int a1, .int 0, .int (v4 - 1)]) (st := []) (M' := M6) (pc' := 14) dX11_isTold_11 rfl cl_X11_72 ms_X11_isIn ⟨⟨Nat.le_of_ble_eq_true rfl, Nat.le_of_ble_eq_true rfl⟩, Nat.le_of_ble_eq_true rfl, Nat.le_of_ble_eq_true rfl⟩ rfl (Nat.le_of_ble_eq_true rfl) (ok_X11_isIn (G := zs G) e7) ?_
  show X G t_X11_isTold [] 14 [some (.ref a0), some (.int a1)] [.int v5] M6 0 0 _
  split at h
  rotate_left
  · cases h
  rename_i hz1
  cases h
  exact X.iret (ty := .boolean) dX11_isTold_14 rfl (congrArg Value.int hz1) (Nat.le_of_ble_eq_true rfl) (Nat.le_of_ble_eq_true rfl) rfl
def f_X11_witnessOf_84 (fu : Nat) (a0 : Nat) (a1 : Int32) (a2 : Int32) (a3 : Int32) (a4 : Int32) (a5 : Int32) (M : List Ob) (k20 : Nat → Int32 → Int32 → Int32 → Int32 → Int32 → List Ob → Option (Int32 × List Ob)) (k90 : Nat → Int32 → Int32 → Int32 → Int32 → List Ob → Option (Int32 × List Ob)) : Option (Int32 × List Ob) :=
  k20 a0 a1 a2 a3 a4 (a5 + 1) M
set_option maxHeartbeats 4000000 in
theorem ok_X11_witnessOf_84 {G : GT} {fu : Nat} {out : Int32 × List Ob} {a0 : Nat} {a1 : Int32} {a2 : Int32} {a3 : Int32} {a4 : Int32} {a5 : Int32} {M : List Ob} {k20 : Nat → Int32 → Int32 → Int32 → Int32 → Int32 → List Ob → Option (Int32 × List Ob)} {k90 : Nat → Int32 → Int32 → Int32 → Int32 → List Ob → Option (Int32 × List Ob)} (hk20 : ∀ (a0 : Nat) (a1 : Int32) (a2 : Int32) (a3 : Int32) (a4 : Int32) (a5 : Int32) (M : List Ob), k20 a0 a1 a2 a3 a4 a5 M = some out → X G t_X11_witnessOf [] 20 [some (.ref a0), some (.int a1), some (.int a2), some (.int a3), some (.int a4), some (.int a5)] [] M 0 0 (oI out)) (hk90 : ∀ (a0 : Nat) (a1 : Int32) (a2 : Int32) (a3 : Int32) (a4 : Int32) (M : List Ob), k90 a0 a1 a2 a3 a4 M = some out → X G t_X11_witnessOf [] 90 [some (.ref a0), some (.int a1), some (.int a2), some (.int a3), some (.int a4), none] [] M 0 0 (oI out)) (h : f_X11_witnessOf_84 fu a0 a1 a2 a3 a4 a5 M k20 k90 = some out) : X G t_X11_witnessOf [] 84 [some (.ref a0), some (.int a1), some (.int a2), some (.int a3), some (.int a4), some (.int a5)] [] M 0 0 (oI out) := by
  unfold f_X11_witnessOf_84 at h
  refine X.iinc (v := (a5 + 1)) (L' := [some (.ref a0), some (.int a1), some (.int a2), some (.int a3), some (.int a4), some (.int (a5 + 1))]) (pc' := 87) dX11_witnessOf_84 rfl rfl (congrArg (fun y => a5 + y) (show Int32.ofInt 1 = 1 by decide)) (Nat.le_of_ble_eq_true rfl) rfl ?_
  refine X.goto (pc' := 20) dX11_witnessOf_87 (by decide) ?_
  exact hk20 _ _ _ _ _ _ _ h
def f_X11_witnessOf_80 (fu : Nat) (a0 : Nat) (a1 : Int32) (a2 : Int32) (a3 : Int32) (a5 : Int32) (M : List Ob) (k20 : Nat → Int32 → Int32 → Int32 → Int32 → Int32 → List Ob → Option (Int32 × List Ob)) (k90 : Nat → Int32 → Int32 → Int32 → Int32 → List Ob → Option (Int32 × List Ob)) : Option (Int32 × List Ob) :=
  f_X11_witnessOf_84 fu a0 a1 a2 a3 a5 a5 M k20 k90
set_option maxHeartbeats 4000000 in
theorem ok_X11_witnessOf_80 {G : GT} {fu : Nat} {out : Int32 × List Ob} {a0 : Nat} {a1 : Int32} {a2 : Int32} {a3 : Int32} {a5 : Int32} {M : List Ob} {k20 : Nat → Int32 → Int32 → Int32 → Int32 → Int32 → List Ob → Option (Int32 × List Ob)} {k90 : Nat → Int32 → Int32 → Int32 → Int32 → List Ob → Option (Int32 × List Ob)} (hk20 : ∀ (a0 : Nat) (a1 : Int32) (a2 : Int32) (a3 : Int32) (a4 : Int32) (a5 : Int32) (M : List Ob), k20 a0 a1 a2 a3 a4 a5 M = some out → X G t_X11_witnessOf [] 20 [some (.ref a0), some (.int a1), some (.int a2), some (.int a3), some (.int a4), some (.int a5)] [] M 0 0 (oI out)) (hk90 : ∀ (a0 : Nat) (a1 : Int32) (a2 : Int32) (a3 : Int32) (a4 : Int32) (M : List Ob), k90 a0 a1 a2 a3 a4 M = some out → X G t_X11_witnessOf [] 90 [some (.ref a0), some (.int a1), some (.int a2), some (.int a3), some (.int a4), none] [] M 0 0 (oI out)) (h : f_X11_witnessOf_80 fu a0 a1 a2 a3 a5 M k20 k90 = some out) : X G t_X11_witnessOf [] 80 [some (.ref a0), some (.int a1), some (.int a2), some (.int a3), none, some (.int a5)] [] M 0 0 (oI out) := by
  unfold f_X11_witnessOf_80 at h
  refine X.iload (x := a5) (pc' := 82) dX11_witnessOf_80 rfl rfl ?_
  refine X.istore (L' := [some (.ref a0), some (.int a1), some (.int a2), some (.int a3), some (.int a5), some (.int a5)]) (pc' := 84) dX11_witnessOf_82 rfl (Nat.le_of_ble_eq_true rfl) rfl ?_
  exact ok_X11_witnessOf_84 hk20 hk90 h
def f_X11_witnessOf_20b (fu : Nat) (a0 : Nat) (a1 : Int32) (a2 : Int32) (a3 : Int32) (a4 : Int32) (a5 : Int32) (M : List Ob) (k20 : Nat → Int32 → Int32 → Int32 → Int32 → Int32 → List Ob → Option (Int32 × List Ob)) (k90 : Nat → Int32 → Int32 → Int32 → Int32 → List Ob → Option (Int32 × List Ob)) : Option (Int32 × List Ob) :=
  (gP M a0 11 0).bind fun r1 =>
  (aI M r1 13 4).bind fun v4 =>
  if v4 ≤ a5 then (k90 a0 a1 a2 a3 a4 M)
  else (bd2 (f_X11_has fu (a1 &&& (a2 ^^^ (-1))) a5 M) fun v5 M6 =>
  if v5 = 0 then (f_X11_witnessOf_84 fu a0 a1 a2 a3 a4 a5 M6 k20 k90)
  else ((hasO M6 a0 11).bind fun _ =>
  bd2 (f_X11_of fu a0 a5 3 M6) fun v9 M10 =>
  if v9 = 0 then (f_X11_witnessOf_84 fu a0 a1 a2 a3 a4 a5 M10 k20 k90)
  else (if a4 = (-1) then (f_X11_witnessOf_80 fu a0 a1 a2 a3 a5 M10 k20 k90)
  else ((hasO M10 a0 11).bind fun _ =>
  bd2 (f_X11_of fu a0 a5 3 M10) fun v13 M14 =>
  (hasO M14 a0 11).bind fun _ =>
  bd2 (f_X11_of fu a0 a4 3 M14) fun v17 M18 =>
  if v13 ≤ v17 then (f_X11_witnessOf_84 fu a0 a1 a2 a3 a4 a5 M18 k20 k90)
  else (f_X11_witnessOf_80 fu a0 a1 a2 a3 a5 M18 k20 k90)))))
set_option maxHeartbeats 4000000 in
theorem ok_X11_witnessOf_20b {G : GT} {fu : Nat} {out : Int32 × List Ob} {a0 : Nat} {a1 : Int32} {a2 : Int32} {a3 : Int32} {a4 : Int32} {a5 : Int32} {M : List Ob} {k20 : Nat → Int32 → Int32 → Int32 → Int32 → Int32 → List Ob → Option (Int32 × List Ob)} {k90 : Nat → Int32 → Int32 → Int32 → Int32 → List Ob → Option (Int32 × List Ob)} (hk20 : ∀ (a0 : Nat) (a1 : Int32) (a2 : Int32) (a3 : Int32) (a4 : Int32) (a5 : Int32) (M : List Ob), k20 a0 a1 a2 a3 a4 a5 M = some out → X G t_X11_witnessOf [] 20 [some (.ref a0), some (.int a1), some (.int a2), some (.int a3), some (.int a4), some (.int a5)] [] M 0 0 (oI out)) (hk90 : ∀ (a0 : Nat) (a1 : Int32) (a2 : Int32) (a3 : Int32) (a4 : Int32) (M : List Ob), k90 a0 a1 a2 a3 a4 M = some out → X G t_X11_witnessOf [] 90 [some (.ref a0), some (.int a1), some (.int a2), some (.int a3), some (.int a4), none] [] M 0 0 (oI out)) (h : f_X11_witnessOf_20b fu a0 a1 a2 a3 a4 a5 M k20 k90 = some out) : X G t_X11_witnessOf [] 20 [some (.ref a0), some (.int a1), some (.int a2), some (.int a3), some (.int a4), some (.int a5)] [] M 0 0 (oI out) := by
  unfold f_X11_witnessOf_20b at h
  refine X.iload (x := a5) (pc' := 22) dX11_witnessOf_20 rfl rfl ?_
  refine X.aload_n (x := a0) (pc' := 23) dX11_witnessOf_22 rfl rfl rfl ?_
  obtain ⟨r1, e2, h⟩ := bindE h
  refine X.getf (pc' := 26) dX11_witnessOf_23 rfl fq_X11_7 (gP_spec e2) ?_
  refine X.iconst (v := 4) (pc' := 27) dX11_witnessOf_26 rfl (by decide) ?_
  obtain ⟨v4, e3, h⟩ := bindE h
  refine X.iald (pc' := 28) dX11_witnessOf_27 rfl e3 ?_
  refine X.icmp_ge (tgt := 90) (pc' := 31) dX11_witnessOf_28 (by decide) rfl (fun hc => ?_) (fun hc => ?_)
  · rw [if_pos hc] at h
    refine X.sub (L := [some (.ref a0), some (.int a1), some (.int a2), some (.int a3), some (.int a4), none]) ?_ (⟨rfl, ⟨rfl, ⟨rfl, ⟨rfl, ⟨rfl, trivial⟩⟩⟩⟩⟩)
    exact hk90 _ _ _ _ _ _ h
  · rw [if_neg hc] at h
    refine X.iload_n (x := a1) (pc' := 32) dX11_witnessOf_31 rfl rfl rfl ?_
    refine X.iload_n (x := a2) (pc' := 33) dX11_witnessOf_32 rfl rfl rfl ?_
    refine X.iconst (v := (-1)) (pc' := 34) dX11_witnessOf_33 rfl (by decide) ?_
    refine X.ixor (pc' := 35) dX11_witnessOf_34 rfl ?_
    refine X.iand (pc' := 36) dX11_witnessOf_35 rfl ?_
    refine X.iload (x := a5) (pc' := 38) dX11_witnessOf_36 rfl rfl ?_
    obtain ⟨v5, M6, e7, h⟩ := bd2E h
    refine X.callS (v := some (.int v5)) (As := [.int (a1 &&& (a2 ^^^ (-1))), .int a5]) (st := []) (M' := M6) (pc' := 41) dX11_witnessOf_38 rfl cl_X11_59 ms_X11_has ⟨⟨Nat.le_of_ble_eq_true rfl, Nat.le_of_ble_eq_true rfl⟩, Nat.le_of_ble_eq_true rfl, Nat.le_of_ble_eq_true rfl⟩ rfl (Nat.le_of_ble_eq_true rfl) (ok_X11_has (G := zs G) e7) ?_
    show X G t_X11_witnessOf [] 41 [some (.ref a0), some (.int a1), some (.int a2), some (.int a3), some (.int a4), some (.int a5)] [.int v5] M6 0 0 _
    refine X.if_eq (tgt := 84) (pc' := 44) dX11_witnessOf_41 (by decide) rfl (fun hc => ?_) (fun hc => ?_)
    · rw [if_pos hc] at h
      exact ok_X11_witnessOf_84 hk20 hk90 h
    · rw [if_neg hc] at h
      refine X.aload_n (x := a0) (pc' := 45) dX11_witnessOf_44 rfl rfl rfl ?_
      refine X.iload (x := a5) (pc' := 47) dX11_witnessOf_45 rfl rfl ?_
      refine X.iconst (v := 3) (pc' := 48) dX11_witnessOf_47 rfl (by decide) ?_
      obtain ⟨⟨⟩, e12, h⟩ := bindE h
      obtain ⟨v9, M10, e11, h⟩ := bd2E h
      refine X.callV (b := a0) (v := some (.int v9)) (As := [.int a5, .int 3]) (st := []) (M' := M10) (pc' := 51) dX11_witnessOf_48 rfl cl_X11_190 mi_X11_of me_X11_of mr_X11_of e12 ⟨⟨Nat.le_of_ble_eq_true rfl, Nat.le_of_ble_eq_true rfl⟩, Nat.le_of_ble_eq_true rfl, Nat.le_of_ble_eq_true rfl⟩ rfl (Nat.le_of_ble_eq_true rfl) (ok_X11_of (G := zs G) e11) ?_
      show X G t_X11_witnessOf [] 51 [some (.ref a0), some (.int a1), some (.int a2), some (.int a3), some (.int a4), some (.int a5)] [.int v9] M10 0 0 _
      refine X.if_ne (tgt := 57) (pc' := 54) dX11_witnessOf_51 (by decide) rfl (fun hc => ?_) (fun hc => ?_)
      · rw [if_neg hc] at h
        refine X.iload (x := a4) (pc' := 59) dX11_witnessOf_57 rfl rfl ?_
        refine X.iconst (v := (-1)) (pc' := 60) dX11_witnessOf_59 rfl (by decide) ?_
        refine X.icmp_eq (tgt := 80) (pc' := 63) dX11_witnessOf_60 (by decide) rfl (fun hc => ?_) (fun hc => ?_)
        · rw [if_pos hc] at h
          refine X.sub (L := [some (.ref a0), some (.int a1), some (.int a2), some (.int a3), none, some (.int a5)]) ?_ (⟨rfl, ⟨rfl, ⟨rfl, ⟨rfl, ⟨rfl, trivial⟩⟩⟩⟩⟩)
          exact ok_X11_witnessOf_80 hk20 hk90 h
        · rw [if_neg hc] at h
          refine X.aload_n (x := a0) (pc' := 64) dX11_witnessOf_63 rfl rfl rfl ?_
          refine X.iload (x := a5) (pc' := 66) dX11_witnessOf_64 rfl rfl ?_
          refine X.iconst (v := 3) (pc' := 67) dX11_witnessOf_66 rfl (by decide) ?_
          obtain ⟨⟨⟩, e16, h⟩ := bindE h
          obtain ⟨v13, M14, e15, h⟩ := bd2E h
          refine X.callV (b := a0) (v := some (.int v13)) (As := [.int a5, .int 3]) (st := []) (M' := M14) (pc' := 70) dX11_witnessOf_67 rfl cl_X11_190 mi_X11_of me_X11_of mr_X11_of e16 ⟨⟨Nat.le_of_ble_eq_true rfl, Nat.le_of_ble_eq_true rfl⟩, Nat.le_of_ble_eq_true rfl, Nat.le_of_ble_eq_true rfl⟩ rfl (Nat.le_of_ble_eq_true rfl) (ok_X11_of (G := zs G) e15) ?_
          show X G t_X11_witnessOf [] 70 [some (.ref a0), some (.int a1), some (.int a2), some (.int a3), some (.int a4), some (.int a5)] [.int v13] M14 0 0 _
          refine X.aload_n (x := a0) (pc' := 71) dX11_witnessOf_70 rfl rfl rfl ?_
          refine X.iload (x := a4) (pc' := 73) dX11_witnessOf_71 rfl rfl ?_
          refine X.iconst (v := 3) (pc' := 74) dX11_witnessOf_73 rfl (by decide) ?_
          obtain ⟨⟨⟩, e20, h⟩ := bindE h
          obtain ⟨v17, M18, e19, h⟩ := bd2E h
          refine X.callV (b := a0) (v := some (.int v17)) (As := [.int a4, .int 3]) (st := [.int v13]) (M' := M18) (pc' := 77) dX11_witnessOf_74 rfl cl_X11_190 mi_X11_of me_X11_of mr_X11_of e20 ⟨⟨Nat.le_of_ble_eq_true rfl, Nat.le_of_ble_eq_true rfl⟩, Nat.le_of_ble_eq_true rfl, Nat.le_of_ble_eq_true rfl⟩ rfl (Nat.le_of_ble_eq_true rfl) (ok_X11_of (G := zs G) e19) ?_
          show X G t_X11_witnessOf [] 77 [some (.ref a0), some (.int a1), some (.int a2), some (.int a3), some (.int a4), some (.int a5)] [.int v17, .int v13] M18 0 0 _
          refine X.icmp_le (tgt := 84) (pc' := 80) dX11_witnessOf_77 (by decide) rfl (fun hc => ?_) (fun hc => ?_)
          · rw [if_pos hc] at h
            exact ok_X11_witnessOf_84 hk20 hk90 h
          · rw [if_neg hc] at h
            refine X.sub (L := [some (.ref a0), some (.int a1), some (.int a2), some (.int a3), none, some (.int a5)]) ?_ (⟨rfl, ⟨rfl, ⟨rfl, ⟨rfl, ⟨rfl, trivial⟩⟩⟩⟩⟩)
            exact ok_X11_witnessOf_80 hk20 hk90 h
      · rw [if_pos hc] at h
        refine X.goto (pc' := 84) dX11_witnessOf_54 (by decide) ?_
        exact ok_X11_witnessOf_84 hk20 hk90 h
def f_X11_witnessOf_20 (fu : Nat) (k90 : Nat → Int32 → Int32 → Int32 → Int32 → List Ob → Option (Int32 × List Ob)) : Nat → Nat → Int32 → Int32 → Int32 → Int32 → Int32 → List Ob → Option (Int32 × List Ob)
  | 0, _, _, _, _, _, _, _ => none
  | n + 1, a0, a1, a2, a3, a4, a5, M => f_X11_witnessOf_20b fu a0 a1 a2 a3 a4 a5 M (fun a0 a1 a2 a3 a4 a5 M => f_X11_witnessOf_20 fu k90 n a0 a1 a2 a3 a4 a5 M) k90
theorem ok_X11_witnessOf_20 {G : GT} {fu : Nat} {out : Int32 × List Ob} {k90 : Nat → Int32 → Int32 → Int32 → Int32 → List Ob → Option (Int32 × List Ob)} (hk90 : ∀ (a0 : Nat) (a1 : Int32) (a2 : Int32) (a3 : Int32) (a4 : Int32) (M : List Ob), k90 a0 a1 a2 a3 a4 M = some out → X G t_X11_witnessOf [] 90 [some (.ref a0), some (.int a1), some (.int a2), some (.int a3), some (.int a4), none] [] M 0 0 (oI out)) : ∀ (n : Nat) (a0 : Nat) (a1 : Int32) (a2 : Int32) (a3 : Int32) (a4 : Int32) (a5 : Int32) (M : List Ob), f_X11_witnessOf_20 fu k90 n a0 a1 a2 a3 a4 a5 M = some out → X G t_X11_witnessOf [] 20 [some (.ref a0), some (.int a1), some (.int a2), some (.int a3), some (.int a4), some (.int a5)] [] M 0 0 (oI out) := by
  intro n
  induction n with
  | zero =>
    intro a0 a1 a2 a3 a4 a5 M h
    unfold f_X11_witnessOf_20 at h
    cases h
  | succ n ih =>
    intro a0 a1 a2 a3 a4 a5 M h
    unfold f_X11_witnessOf_20 at h
    exact ok_X11_witnessOf_20b ih hk90 h
def f_X11_witnessOf_105 (fu : Nat) (a0 : Nat) (a1 : Int32) (a3 : Int32) (b0 : Int32) (b1 : Int32) (M : List Ob) (k4 : Nat → Int32 → Int32 → Int32 → List Ob → Option (Int32 × List Ob)) : Option (Int32 × List Ob) :=
  k4 a0 a1 (b0 ||| b1) (a3 + 1) M
set_option maxHeartbeats 4000000 in
theorem ok_X11_witnessOf_105 {G : GT} {fu : Nat} {out : Int32 × List Ob} {a0 : Nat} {a1 : Int32} {a3 : Int32} {b0 : Int32} {b1 : Int32} {M : List Ob} {k4 : Nat → Int32 → Int32 → Int32 → List Ob → Option (Int32 × List Ob)} (hk4 : ∀ (a0 : Nat) (a1 : Int32) (a2 : Int32) (a3 : Int32) (M : List Ob), k4 a0 a1 a2 a3 M = some out → X G t_X11_witnessOf [] 4 [some (.ref a0), some (.int a1), some (.int a2), some (.int a3), none, none] [] M 0 0 (oI out)) (h : f_X11_witnessOf_105 fu a0 a1 a3 b0 b1 M k4 = some out) : X G t_X11_witnessOf [] 105 [some (.ref a0), some (.int a1), none, some (.int a3), none, none] [.int b1, .int b0] M 0 0 (oI out) := by
  unfold f_X11_witnessOf_105 at h
  refine X.ior (pc' := 106) dX11_witnessOf_105 rfl ?_
  refine X.istore_n (L' := [some (.ref a0), some (.int a1), some (.int (b0 ||| b1)), some (.int a3), none, none]) (pc' := 107) dX11_witnessOf_106 rfl rfl (Nat.le_of_ble_eq_true rfl) rfl ?_
  refine X.iinc (v := (a3 + 1)) (L' := [some (.ref a0), some (.int a1), some (.int (b0 ||| b1)), some (.int (a3 + 1)), none, none]) (pc' := 110) dX11_witnessOf_107 rfl rfl (congrArg (fun y => a3 + y) (show Int32.ofInt 1 = 1 by decide)) (Nat.le_of_ble_eq_true rfl) rfl ?_
  refine X.goto (pc' := 4) dX11_witnessOf_110 (by decide) ?_
  exact hk4 _ _ _ _ _ h
def f_X11_witnessOf_90 (fu : Nat) (a0 : Nat) (a1 : Int32) (a2 : Int32) (a3 : Int32) (a4 : Int32) (M : List Ob) (k4 : Nat → Int32 → Int32 → Int32 → List Ob → Option (Int32 × List Ob)) : Option (Int32 × List Ob) :=
  if a4 = (-1) then (f_X11_witnessOf_105 fu a0 a1 a3 a2 0 M k4)
  else (f_X11_witnessOf_105 fu a0 a1 a3 a2 (1 <<< (a4 &&& 31)) M k4)
set_option maxHeartbeats 4000000 in
theorem ok_X11_witnessOf_90 {G : GT} {fu : Nat} {out : Int32 × List Ob} {a0 : Nat} {a1 : Int32} {a2 : Int32} {a3 : Int32} {a4 : Int32} {M : List Ob} {k4 : Nat → Int32 → Int32 → Int32 → List Ob → Option (Int32 × List Ob)} (hk4 : ∀ (a0 : Nat) (a1 : Int32) (a2 : Int32) (a3 : Int32) (M : List Ob), k4 a0 a1 a2 a3 M = some out → X G t_X11_witnessOf [] 4 [some (.ref a0), some (.int a1), some (.int a2), some (.int a3), none, none] [] M 0 0 (oI out)) (h : f_X11_witnessOf_90 fu a0 a1 a2 a3 a4 M k4 = some out) : X G t_X11_witnessOf [] 90 [some (.ref a0), some (.int a1), some (.int a2), some (.int a3), some (.int a4), none] [] M 0 0 (oI out) := by
  unfold f_X11_witnessOf_90 at h
  refine X.iload_n (x := a2) (pc' := 91) dX11_witnessOf_90 rfl rfl rfl ?_
  refine X.iload (x := a4) (pc' := 93) dX11_witnessOf_91 rfl rfl ?_
  refine X.iconst (v := (-1)) (pc' := 94) dX11_witnessOf_93 rfl (by decide) ?_
  refine X.icmp_ne (tgt := 101) (pc' := 97) dX11_witnessOf_94 (by decide) rfl (fun hc => ?_) (fun hc => ?_)
  · rw [if_neg hc] at h
    refine X.iconst (v := 1) (pc' := 102) dX11_witnessOf_101 rfl (by decide) ?_
    refine X.iload (x := a4) (pc' := 104) dX11_witnessOf_102 rfl rfl ?_
    refine X.ishl (pc' := 105) dX11_witnessOf_104 rfl ?_
    refine X.sub (L := [some (.ref a0), some (.int a1), none, some (.int a3), none, none]) ?_ (⟨rfl, ⟨rfl, ⟨rfl, trivial⟩⟩⟩)
    exact ok_X11_witnessOf_105 hk4 h
  · rw [if_pos hc] at h
    refine X.iconst (v := 0) (pc' := 98) dX11_witnessOf_97 rfl (by decide) ?_
    refine X.goto (pc' := 105) dX11_witnessOf_98 (by decide) ?_
    refine X.sub (L := [some (.ref a0), some (.int a1), none, some (.int a3), none, none]) ?_ (⟨rfl, ⟨rfl, ⟨rfl, trivial⟩⟩⟩)
    exact ok_X11_witnessOf_105 hk4 h
def f_X11_witnessOf_4b (fu : Nat) (a0 : Nat) (a1 : Int32) (a2 : Int32) (a3 : Int32) (M : List Ob) (k4 : Nat → Int32 → Int32 → Int32 → List Ob → Option (Int32 × List Ob)) : Option (Int32 × List Ob) :=
  (gP M a0 11 0).bind fun r1 =>
  (aI M r1 13 3).bind fun v4 =>
  if v4 ≤ a3 then (some (a2, M))
  else (f_X11_witnessOf_20 fu (fun x5 x6 x7 x8 x9 M10 => f_X11_witnessOf_90 fu x5 x6 x7 x8 x9 M10 k4) fu a0 a1 a2 a3 (-1) 0 M)
set_option maxHeartbeats 4000000 in
theorem ok_X11_witnessOf_4b {G : GT} {fu : Nat} {out : Int32 × List Ob} {a0 : Nat} {a1 : Int32} {a2 : Int32} {a3 : Int32} {M : List Ob} {k4 : Nat → Int32 → Int32 → Int32 → List Ob → Option (Int32 × List Ob)} (hk4 : ∀ (a0 : Nat) (a1 : Int32) (a2 : Int32) (a3 : Int32) (M : List Ob), k4 a0 a1 a2 a3 M = some out → X G t_X11_witnessOf [] 4 [some (.ref a0), some (.int a1), some (.int a2), some (.int a3), none, none] [] M 0 0 (oI out)) (h : f_X11_witnessOf_4b fu a0 a1 a2 a3 M k4 = some out) : X G t_X11_witnessOf [] 4 [some (.ref a0), some (.int a1), some (.int a2), some (.int a3), none, none] [] M 0 0 (oI out) := by
  unfold f_X11_witnessOf_4b at h
  refine X.iload_n (x := a3) (pc' := 5) dX11_witnessOf_4 rfl rfl rfl ?_
  refine X.aload_n (x := a0) (pc' := 6) dX11_witnessOf_5 rfl rfl rfl ?_
  obtain ⟨r1, e2, h⟩ := bindE h
  refine X.getf (pc' := 9) dX11_witnessOf_6 rfl fq_X11_7 (gP_spec e2) ?_
  refine X.iconst (v := 3) (pc' := 10) dX11_witnessOf_9 rfl (by decide) ?_
  obtain ⟨v4, e3, h⟩ := bindE h
  refine X.iald (pc' := 11) dX11_witnessOf_10 rfl e3 ?_
  refine X.icmp_ge (tgt := 113) (pc' := 14) dX11_witnessOf_11 (by decide) rfl (fun hc => ?_) (fun hc => ?_)
  · rw [if_pos hc] at h
    refine X.iload_n (x := a2) (pc' := 114) dX11_witnessOf_113 rfl rfl rfl ?_
    cases h
    exact X.iret (ty := .int) dX11_witnessOf_114 rfl rfl (Nat.le_of_ble_eq_true rfl) (Nat.le_of_ble_eq_true rfl) rfl
  · rw [if_neg hc] at h
    refine X.iconst (v := (-1)) (pc' := 15) dX11_witnessOf_14 rfl (by decide) ?_
    refine X.istore (L' := [some (.ref a0), some (.int a1), some (.int a2), some (.int a3), some (.int (-1)), none]) (pc' := 17) dX11_witnessOf_15 rfl (Nat.le_of_ble_eq_true rfl) rfl ?_
    refine X.iconst (v := 0) (pc' := 18) dX11_witnessOf_17 rfl (by decide) ?_
    refine X.istore (L' := [some (.ref a0), some (.int a1), some (.int a2), some (.int a3), some (.int (-1)), some (.int 0)]) (pc' := 20) dX11_witnessOf_18 rfl (Nat.le_of_ble_eq_true rfl) rfl ?_
    refine ok_X11_witnessOf_20 ?_ fu _ _ _ _ _ _ _ h
    · intro x5 x6 x7 x8 x9 M10 h
      exact ok_X11_witnessOf_90 hk4 h
def f_X11_witnessOf_4 (fu : Nat) : Nat → Nat → Int32 → Int32 → Int32 → List Ob → Option (Int32 × List Ob)
  | 0, _, _, _, _, _ => none
  | n + 1, a0, a1, a2, a3, M => f_X11_witnessOf_4b fu a0 a1 a2 a3 M (fun a0 a1 a2 a3 M => f_X11_witnessOf_4 fu n a0 a1 a2 a3 M)
theorem ok_X11_witnessOf_4 {G : GT} {fu : Nat} {out : Int32 × List Ob} : ∀ (n : Nat) (a0 : Nat) (a1 : Int32) (a2 : Int32) (a3 : Int32) (M : List Ob), f_X11_witnessOf_4 fu n a0 a1 a2 a3 M = some out → X G t_X11_witnessOf [] 4 [some (.ref a0), some (.int a1), some (.int a2), some (.int a3), none, none] [] M 0 0 (oI out) := by
  intro n
  induction n with
  | zero =>
    intro a0 a1 a2 a3 M h
    unfold f_X11_witnessOf_4 at h
    cases h
  | succ n ih =>
    intro a0 a1 a2 a3 M h
    unfold f_X11_witnessOf_4 at h
    exact ok_X11_witnessOf_4b ih h
def f_X11_witnessOf (fu : Nat) (a0 : Nat) (a1 : Int32) (M : List Ob) : Option (Int32 × List Ob) :=
  f_X11_witnessOf_4 fu  fu a0 a1 0 0 M
set_option maxHeartbeats 4000000 in
theorem ok_X11_witnessOf {G : GT} {fu : Nat} {a0 : Nat} {a1 : Int32} {M : List Ob} {out : Int32 × List Ob} (h : f_X11_witnessOf fu a0 a1 M = some out) : Sp G t_X11_witnessOf [.ref a0, .int a1] M (oI out) := by
  refine Sp.of rfl (by decide +kernel) (cat_all rfl) (Nat.le_of_ble_eq_true rfl) ?_
  show X G t_X11_witnessOf [] 0 [some (.ref a0), some (.int a1), none, none, none, none] [] M 0 0 (oI out)
  unfold f_X11_witnessOf at h
  refine X.iconst (v := 0) (pc' := 1) dX11_witnessOf_0 rfl (by decide) ?_
  refine X.istore_n (L' := [some (.ref a0), some (.int a1), some (.int 0), none, none, none]) (pc' := 2) dX11_witnessOf_1 rfl rfl (Nat.le_of_ble_eq_true rfl) rfl ?_
  refine X.iconst (v := 0) (pc' := 3) dX11_witnessOf_2 rfl (by decide) ?_
  refine X.istore_n (L' := [some (.ref a0), some (.int a1), some (.int 0), some (.int 0), none, none]) (pc' := 4) dX11_witnessOf_3 rfl rfl (Nat.le_of_ble_eq_true rfl) rfl ?_
  refine ok_X11_witnessOf_4  fu _ _ _ _ _ h
def f_X11_costOf_58 (fu : Nat) (a0 : Nat) (a1 : Int32) (a2 : Int32) (a4 : Int32) (b0 : Int32) (b1 : Int32) (M : List Ob) (k5 : Nat → Int32 → Int32 → Int32 → Int32 → List Ob → Option (Int32 × List Ob)) : Option (Int32 × List Ob) :=
  k5 a0 a1 a2 (b0 + b1) (a4 + 1) M
set_option maxHeartbeats 4000000 in
theorem ok_X11_costOf_58 {G : GT} {fu : Nat} {out : Int32 × List Ob} {a0 : Nat} {a1 : Int32} {a2 : Int32} {a4 : Int32} {b0 : Int32} {b1 : Int32} {M : List Ob} {k5 : Nat → Int32 → Int32 → Int32 → Int32 → List Ob → Option (Int32 × List Ob)} (hk5 : ∀ (a0 : Nat) (a1 : Int32) (a2 : Int32) (a3 : Int32) (a4 : Int32) (M : List Ob), k5 a0 a1 a2 a3 a4 M = some out → X G t_X11_costOf [] 5 [some (.ref a0), some (.int a1), some (.int a2), some (.int a3), some (.int a4)] [] M 0 0 (oI out)) (h : f_X11_costOf_58 fu a0 a1 a2 a4 b0 b1 M k5 = some out) : X G t_X11_costOf [] 58 [some (.ref a0), some (.int a1), some (.int a2), none, some (.int a4)] [.int b1, .int b0] M 0 0 (oI out) := by
  unfold f_X11_costOf_58 at h
  refine X.iadd (pc' := 59) dX11_costOf_58 rfl ?_
  refine X.istore_n (L' := [some (.ref a0), some (.int a1), some (.int a2), some (.int (b0 + b1)), some (.int a4)]) (pc' := 60) dX11_costOf_59 rfl rfl (Nat.le_of_ble_eq_true rfl) rfl ?_
  refine X.iinc (v := (a4 + 1)) (L' := [some (.ref a0), some (.int a1), some (.int a2), some (.int (b0 + b1)), some (.int (a4 + 1))]) (pc' := 63) dX11_costOf_60 rfl rfl (congrArg (fun y => a4 + y) (show Int32.ofInt 1 = 1 by decide)) (Nat.le_of_ble_eq_true rfl) rfl ?_
  refine X.goto (pc' := 5) dX11_costOf_63 (by decide) ?_
  exact hk5 _ _ _ _ _ _ h
def f_X11_costOf_57 (fu : Nat) (a0 : Nat) (a1 : Int32) (a2 : Int32) (a4 : Int32) (b0 : Int32) (b1 : Int32) (b2 : Int32) (M : List Ob) (k5 : Nat → Int32 → Int32 → Int32 → Int32 → List Ob → Option (Int32 × List Ob)) : Option (Int32 × List Ob) :=
  f_X11_costOf_58 fu a0 a1 a2 a4 b0 (b1 + b2) M k5
set_option maxHeartbeats 4000000 in
theorem ok_X11_costOf_57 {G : GT} {fu : Nat} {out : Int32 × List Ob} {a0 : Nat} {a1 : Int32} {a2 : Int32} {a4 : Int32} {b0 : Int32} {b1 : Int32} {b2 : Int32} {M : List Ob} {k5 : Nat → Int32 → Int32 → Int32 → Int32 → List Ob → Option (Int32 × List Ob)} (hk5 : ∀ (a0 : Nat) (a1 : Int32) (a2 : Int32) (a3 : Int32) (a4 : Int32) (M : List Ob), k5 a0 a1 a2 a3 a4 M = some out → X G t_X11_costOf [] 5 [some (.ref a0), some (.int a1), some (.int a2), some (.int a3), some (.int a4)] [] M 0 0 (oI out)) (h : f_X11_costOf_57 fu a0 a1 a2 a4 b0 b1 b2 M k5 = some out) : X G t_X11_costOf [] 57 [some (.ref a0), some (.int a1), some (.int a2), none, some (.int a4)] [.int b2, .int b1, .int b0] M 0 0 (oI out) := by
  unfold f_X11_costOf_57 at h
  refine X.iadd (pc' := 58) dX11_costOf_57 rfl ?_
  exact ok_X11_costOf_58 hk5 h
def f_X11_costOf_5b (fu : Nat) (a0 : Nat) (a1 : Int32) (a2 : Int32) (a3 : Int32) (a4 : Int32) (M : List Ob) (k5 : Nat → Int32 → Int32 → Int32 → Int32 → List Ob → Option (Int32 × List Ob)) : Option (Int32 × List Ob) :=
  (gP M a0 11 0).bind fun r1 =>
  (aI M r1 13 4).bind fun v4 =>
  if v4 ≤ a4 then (some (a3, M))
  else (bd2 (f_X11_has fu a1 a4 M) fun v5 M6 =>
  if v5 = 0 then (f_X11_costOf_58 fu a0 a1 a2 a4 a3 0 M6 k5)
  else ((hasO M6 a0 11).bind fun _ =>
  bd2 (f_X11_of fu a0 a4 2 M6) fun v9 M10 =>
  bd2 (f_X11_has fu a2 a4 M10) fun v13 M14 =>
  if v13 = 0 then (f_X11_costOf_57 fu a0 a1 a2 a4 a3 v9 0 M14 k5)
  else ((hasO M14 a0 11).bind fun _ =>
  bd2 (f_X11_of fu a0 a4 3 M14) fun v17 M18 =>
  f_X11_costOf_57 fu a0 a1 a2 a4 a3 v9 v17 M18 k5)))
set_option maxHeartbeats 4000000 in
theorem ok_X11_costOf_5b {G : GT} {fu : Nat} {out : Int32 × List Ob} {a0 : Nat} {a1 : Int32} {a2 : Int32} {a3 : Int32} {a4 : Int32} {M : List Ob} {k5 : Nat → Int32 → Int32 → Int32 → Int32 → List Ob → Option (Int32 × List Ob)} (hk5 : ∀ (a0 : Nat) (a1 : Int32) (a2 : Int32) (a3 : Int32) (a4 : Int32) (M : List Ob), k5 a0 a1 a2 a3 a4 M = some out → X G t_X11_costOf [] 5 [some (.ref a0), some (.int a1), some (.int a2), some (.int a3), some (.int a4)] [] M 0 0 (oI out)) (h : f_X11_costOf_5b fu a0 a1 a2 a3 a4 M k5 = some out) : X G t_X11_costOf [] 5 [some (.ref a0), some (.int a1), some (.int a2), some (.int a3), some (.int a4)] [] M 0 0 (oI out) := by
  unfold f_X11_costOf_5b at h
  refine X.iload (x := a4) (pc' := 7) dX11_costOf_5 rfl rfl ?_
  refine X.aload_n (x := a0) (pc' := 8) dX11_costOf_7 rfl rfl rfl ?_
  obtain ⟨r1, e2, h⟩ := bindE h
  refine X.getf (pc' := 11) dX11_costOf_8 rfl fq_X11_7 (gP_spec e2) ?_
  refine X.iconst (v := 4) (pc' := 12) dX11_costOf_11 rfl (by decide) ?_
  obtain ⟨v4, e3, h⟩ := bindE h
  refine X.iald (pc' := 13) dX11_costOf_12 rfl e3 ?_
  refine X.icmp_ge (tgt := 66) (pc' := 16) dX11_costOf_13 (by decide) rfl (fun hc => ?_) (fun hc => ?_)
  · rw [if_pos hc] at h
    refine X.iload_n (x := a3) (pc' := 67) dX11_costOf_66 rfl rfl rfl ?_
    cases h
    exact X.iret (ty := .int) dX11_costOf_67 rfl rfl (Nat.le_of_ble_eq_true rfl) (Nat.le_of_ble_eq_true rfl) rfl
  · rw [if_neg hc] at h
    refine X.iload_n (x := a3) (pc' := 17) dX11_costOf_16 rfl rfl rfl ?_
    refine X.iload_n (x := a1) (pc' := 18) dX11_costOf_17 rfl rfl rfl ?_
    refine X.iload (x := a4) (pc' := 20) dX11_costOf_18 rfl rfl ?_
    obtain ⟨v5, M6, e7, h⟩ := bd2E h
    refine X.callS (v := some (.int v5)) (As := [.int a1, .int a4]) (st := [.int a3]) (M' := M6) (pc' := 23) dX11_costOf_20 rfl cl_X11_59 ms_X11_has ⟨⟨Nat.le_of_ble_eq_true rfl, Nat.le_of_ble_eq_true rfl⟩, Nat.le_of_ble_eq_true rfl, Nat.le_of_ble_eq_true rfl⟩ rfl (Nat.le_of_ble_eq_true rfl) (ok_X11_has (G := zs G) e7) ?_
    show X G t_X11_costOf [] 23 [some (.ref a0), some (.int a1), some (.int a2), some (.int a3), some (.int a4)] [.int v5, .int a3] M6 0 0 _
    refine X.if_ne (tgt := 30) (pc' := 26) dX11_costOf_23 (by decide) rfl (fun hc => ?_) (fun hc => ?_)
    · rw [if_neg hc] at h
      refine X.aload_n (x := a0) (pc' := 31) dX11_costOf_30 rfl rfl rfl ?_
      refine X.iload (x := a4) (pc' := 33) dX11_costOf_31 rfl rfl ?_
      refine X.iconst (v := 2) (pc' := 34) dX11_costOf_33 rfl (by decide) ?_
      obtain ⟨⟨⟩, e12, h⟩ := bindE h
      obtain ⟨v9, M10, e11, h⟩ := bd2E h
      refine X.callV (b := a0) (v := some (.int v9)) (As := [.int a4, .int 2]) (st := [.int a3]) (M' := M10) (pc' := 37) dX11_costOf_34 rfl cl_X11_190 mi_X11_of me_X11_of mr_X11_of e12 ⟨⟨Nat.le_of_ble_eq_true rfl, Nat.le_of_ble_eq_true rfl⟩, Nat.le_of_ble_eq_true rfl, Nat.le_of_ble_eq_true rfl⟩ rfl (Nat.le_of_ble_eq_true rfl) (ok_X11_of (G := zs G) e11) ?_
      show X G t_X11_costOf [] 37 [some (.ref a0), some (.int a1), some (.int a2), some (.int a3), some (.int a4)] [.int v9, .int a3] M10 0 0 _
      refine X.iload_n (x := a2) (pc' := 38) dX11_costOf_37 rfl rfl rfl ?_
      refine X.iload (x := a4) (pc' := 40) dX11_costOf_38 rfl rfl ?_
      obtain ⟨v13, M14, e15, h⟩ := bd2E h
      refine X.callS (v := some (.int v13)) (As := [.int a2, .int a4]) (st := [.int v9, .int a3]) (M' := M14) (pc' := 43) dX11_costOf_40 rfl cl_X11_59 ms_X11_has ⟨⟨Nat.le_of_ble_eq_true rfl, Nat.le_of_ble_eq_true rfl⟩, Nat.le_of_ble_eq_true rfl, Nat.le_of_ble_eq_true rfl⟩ rfl (Nat.le_of_ble_eq_true rfl) (ok_X11_has (G := zs G) e15) ?_
      show X G t_X11_costOf [] 43 [some (.ref a0), some (.int a1), some (.int a2), some (.int a3), some (.int a4)] [.int v13, .int v9, .int a3] M14 0 0 _
      refine X.if_eq (tgt := 56) (pc' := 46) dX11_costOf_43 (by decide) rfl (fun hc => ?_) (fun hc => ?_)
      · rw [if_pos hc] at h
        refine X.iconst (v := 0) (pc' := 57) dX11_costOf_56 rfl (by decide) ?_
        refine X.sub (L := [some (.ref a0), some (.int a1), some (.int a2), none, some (.int a4)]) ?_ (⟨rfl, ⟨rfl, ⟨rfl, ⟨rfl, trivial⟩⟩⟩⟩)
        exact ok_X11_costOf_57 hk5 h
      · rw [if_neg hc] at h
        refine X.aload_n (x := a0) (pc' := 47) dX11_costOf_46 rfl rfl rfl ?_
        refine X.iload (x := a4) (pc' := 49) dX11_costOf_47 rfl rfl ?_
        refine X.iconst (v := 3) (pc' := 50) dX11_costOf_49 rfl (by decide) ?_
        obtain ⟨⟨⟩, e20, h⟩ := bindE h
        obtain ⟨v17, M18, e19, h⟩ := bd2E h
        refine X.callV (b := a0) (v := some (.int v17)) (As := [.int a4, .int 3]) (st := [.int v9, .int a3]) (M' := M18) (pc' := 53) dX11_costOf_50 rfl cl_X11_190 mi_X11_of me_X11_of mr_X11_of e20 ⟨⟨Nat.le_of_ble_eq_true rfl, Nat.le_of_ble_eq_true rfl⟩, Nat.le_of_ble_eq_true rfl, Nat.le_of_ble_eq_true rfl⟩ rfl (Nat.le_of_ble_eq_true rfl) (ok_X11_of (G := zs G) e19) ?_
        show X G t_X11_costOf [] 53 [some (.ref a0), some (.int a1), some (.int a2), some (.int a3), some (.int a4)] [.int v17, .int v9, .int a3] M18 0 0 _
        refine X.goto (pc' := 57) dX11_costOf_53 (by decide) ?_
        refine X.sub (L := [some (.ref a0), some (.int a1), some (.int a2), none, some (.int a4)]) ?_ (⟨rfl, ⟨rfl, ⟨rfl, ⟨rfl, trivial⟩⟩⟩⟩)
        exact ok_X11_costOf_57 hk5 h
    · rw [if_pos hc] at h
      refine X.iconst (v := 0) (pc' := 27) dX11_costOf_26 rfl (by decide) ?_
      refine X.goto (pc' := 58) dX11_costOf_27 (by decide) ?_
      refine X.sub (L := [some (.ref a0), some (.int a1), some (.int a2), none, some (.int a4)]) ?_ (⟨rfl, ⟨rfl, ⟨rfl, ⟨rfl, trivial⟩⟩⟩⟩)
      exact ok_X11_costOf_58 hk5 h
def f_X11_costOf_5 (fu : Nat) : Nat → Nat → Int32 → Int32 → Int32 → Int32 → List Ob → Option (Int32 × List Ob)
  | 0, _, _, _, _, _, _ => none
  | n + 1, a0, a1, a2, a3, a4, M => f_X11_costOf_5b fu a0 a1 a2 a3 a4 M (fun a0 a1 a2 a3 a4 M => f_X11_costOf_5 fu n a0 a1 a2 a3 a4 M)
theorem ok_X11_costOf_5 {G : GT} {fu : Nat} {out : Int32 × List Ob} : ∀ (n : Nat) (a0 : Nat) (a1 : Int32) (a2 : Int32) (a3 : Int32) (a4 : Int32) (M : List Ob), f_X11_costOf_5 fu n a0 a1 a2 a3 a4 M = some out → X G t_X11_costOf [] 5 [some (.ref a0), some (.int a1), some (.int a2), some (.int a3), some (.int a4)] [] M 0 0 (oI out) := by
  intro n
  induction n with
  | zero =>
    intro a0 a1 a2 a3 a4 M h
    unfold f_X11_costOf_5 at h
    cases h
  | succ n ih =>
    intro a0 a1 a2 a3 a4 M h
    unfold f_X11_costOf_5 at h
    exact ok_X11_costOf_5b ih h
def f_X11_costOf (fu : Nat) (a0 : Nat) (a1 : Int32) (a2 : Int32) (M : List Ob) : Option (Int32 × List Ob) :=
  f_X11_costOf_5 fu  fu a0 a1 a2 0 0 M
set_option maxHeartbeats 4000000 in
theorem ok_X11_costOf {G : GT} {fu : Nat} {a0 : Nat} {a1 : Int32} {a2 : Int32} {M : List Ob} {out : Int32 × List Ob} (h : f_X11_costOf fu a0 a1 a2 M = some out) : Sp G t_X11_costOf [.ref a0, .int a1, .int a2] M (oI out) := by
  refine Sp.of rfl (by decide +kernel) (cat_all rfl) (Nat.le_of_ble_eq_true rfl) ?_
  show X G t_X11_costOf [] 0 [some (.ref a0), some (.int a1), some (.int a2), none, none] [] M 0 0 (oI out)
  unfold f_X11_costOf at h
  refine X.iconst (v := 0) (pc' := 1) dX11_costOf_0 rfl (by decide) ?_
  refine X.istore_n (L' := [some (.ref a0), some (.int a1), some (.int a2), some (.int 0), none]) (pc' := 2) dX11_costOf_1 rfl rfl (Nat.le_of_ble_eq_true rfl) rfl ?_
  refine X.iconst (v := 0) (pc' := 3) dX11_costOf_2 rfl (by decide) ?_
  refine X.istore (L' := [some (.ref a0), some (.int a1), some (.int a2), some (.int 0), some (.int 0)]) (pc' := 5) dX11_costOf_3 rfl (Nat.le_of_ble_eq_true rfl) rfl ?_
  refine ok_X11_costOf_5  fu _ _ _ _ _ _ h
def f_X11_worstOf (fu : Nat) (a0 : Nat) (a1 : Int32) (M : List Ob) : Option (Int32 × List Ob) :=
  (hasO M a0 11).bind fun _ =>
  bd2 (f_X11_witnessOf fu a0 a1 M) fun v1 M2 =>
  (hasO M2 a0 11).bind fun _ =>
  bd2 (f_X11_costOf fu a0 a1 v1 M2) fun v5 M6 =>
  some (v5, M6)
set_option maxHeartbeats 4000000 in
theorem ok_X11_worstOf {G : GT} {fu : Nat} {a0 : Nat} {a1 : Int32} {M : List Ob} {out : Int32 × List Ob} (h : f_X11_worstOf fu a0 a1 M = some out) : Sp G t_X11_worstOf [.ref a0, .int a1] M (oI out) := by
  refine Sp.of rfl (by decide +kernel) (cat_all rfl) (Nat.le_of_ble_eq_true rfl) ?_
  show X G t_X11_worstOf [] 0 [some (.ref a0), some (.int a1)] [] M 0 0 (oI out)
  unfold f_X11_worstOf at h
  refine X.aload_n (x := a0) (pc' := 1) dX11_worstOf_0 rfl rfl rfl ?_
  refine X.iload_n (x := a1) (pc' := 2) dX11_worstOf_1 rfl rfl rfl ?_
  refine X.aload_n (x := a0) (pc' := 3) dX11_worstOf_2 rfl rfl rfl ?_
  refine X.iload_n (x := a1) (pc' := 4) dX11_worstOf_3 rfl rfl rfl ?_
  obtain ⟨⟨⟩, e4, h⟩ := bindE h
  obtain ⟨v1, M2, e3, h⟩ := bd2E h
  refine X.callV (b := a0) (v := some (.int v1)) (As := [.int a1]) (st := [.int a1, .ref a0]) (M' := M2) (pc' := 7) dX11_worstOf_4 rfl cl_X11_209 mi_X11_witnessOf me_X11_witnessOf mr_X11_witnessOf e4 ⟨⟨Nat.le_of_ble_eq_true rfl, Nat.le_of_ble_eq_true rfl⟩, Nat.le_of_ble_eq_true rfl, Nat.le_of_ble_eq_true rfl⟩ rfl (Nat.le_of_ble_eq_true rfl) (ok_X11_witnessOf (G := zs G) e3) ?_
  show X G t_X11_worstOf [] 7 [some (.ref a0), some (.int a1)] [.int v1, .int a1, .ref a0] M2 0 0 _
  obtain ⟨⟨⟩, e8, h⟩ := bindE h
  obtain ⟨v5, M6, e7, h⟩ := bd2E h
  refine X.callV (b := a0) (v := some (.int v5)) (As := [.int a1, .int v1]) (st := []) (M' := M6) (pc' := 10) dX11_worstOf_7 rfl cl_X11_212 mi_X11_costOf me_X11_costOf mr_X11_costOf e8 ⟨⟨Nat.le_of_ble_eq_true rfl, Nat.le_of_ble_eq_true rfl⟩, Nat.le_of_ble_eq_true rfl, Nat.le_of_ble_eq_true rfl⟩ rfl (Nat.le_of_ble_eq_true rfl) (ok_X11_costOf (G := zs G) e7) ?_
  show X G t_X11_worstOf [] 10 [some (.ref a0), some (.int a1)] [.int v5] M6 0 0 _
  cases h
  exact X.iret (ty := .int) dX11_worstOf_10 rfl rfl (Nat.le_of_ble_eq_true rfl) (Nat.le_of_ble_eq_true rfl) rfl
def f_X11_toldArcs_4b (fu : Nat) (a0 : Nat) (a1 : Int32) (a2 : Int32) (a3 : Int32) (M : List Ob) (k4 : Nat → Int32 → Int32 → Int32 → List Ob → Option (Int32 × List Ob)) : Option (Int32 × List Ob) :=
  (gP M a0 11 0).bind fun r1 =>
  (aI M r1 13 (70 + (8 * a1))).bind fun v4 =>
  if v4 < a3 then (some (a2, M))
  else ((gP M a0 11 0).bind fun r5 =>
  (aI M r5 13 ((70 + (8 * a1)) + a3)).bind fun v8 =>
  k4 a0 a1 (a2 ||| (1 <<< (v8 &&& 31))) (a3 + 1) M)
set_option maxHeartbeats 4000000 in
theorem ok_X11_toldArcs_4b {G : GT} {fu : Nat} {out : Int32 × List Ob} {a0 : Nat} {a1 : Int32} {a2 : Int32} {a3 : Int32} {M : List Ob} {k4 : Nat → Int32 → Int32 → Int32 → List Ob → Option (Int32 × List Ob)} (hk4 : ∀ (a0 : Nat) (a1 : Int32) (a2 : Int32) (a3 : Int32) (M : List Ob), k4 a0 a1 a2 a3 M = some out → X G t_X11_toldArcs [] 4 [some (.ref a0), some (.int a1), some (.int a2), some (.int a3)] [] M 0 0 (oI out)) (h : f_X11_toldArcs_4b fu a0 a1 a2 a3 M k4 = some out) : X G t_X11_toldArcs [] 4 [some (.ref a0), some (.int a1), some (.int a2), some (.int a3)] [] M 0 0 (oI out) := by
  unfold f_X11_toldArcs_4b at h
  refine X.iload_n (x := a3) (pc' := 5) dX11_toldArcs_4 rfl rfl rfl ?_
  refine X.aload_n (x := a0) (pc' := 6) dX11_toldArcs_5 rfl rfl rfl ?_
  obtain ⟨r1, e2, h⟩ := bindE h
  refine X.getf (pc' := 9) dX11_toldArcs_6 rfl fq_X11_7 (gP_spec e2) ?_
  refine X.bipush (v := 70) (pc' := 11) dX11_toldArcs_9 rfl (by decide) ?_
  refine X.bipush (v := 8) (pc' := 13) dX11_toldArcs_11 rfl (by decide) ?_
  refine X.iload_n (x := a1) (pc' := 14) dX11_toldArcs_13 rfl rfl rfl ?_
  refine X.imul (pc' := 15) dX11_toldArcs_14 rfl ?_
  refine X.iadd (pc' := 16) dX11_toldArcs_15 rfl ?_
  obtain ⟨v4, e3, h⟩ := bindE h
  refine X.iald (pc' := 17) dX11_toldArcs_16 rfl e3 ?_
  refine X.icmp_gt (tgt := 45) (pc' := 20) dX11_toldArcs_17 (by decide) rfl (fun hc => ?_) (fun hc => ?_)
  · rw [if_pos hc] at h
    refine X.iload_n (x := a2) (pc' := 46) dX11_toldArcs_45 rfl rfl rfl ?_
    cases h
    exact X.iret (ty := .int) dX11_toldArcs_46 rfl rfl (Nat.le_of_ble_eq_true rfl) (Nat.le_of_ble_eq_true rfl) rfl
  · rw [if_neg hc] at h
    refine X.iload_n (x := a2) (pc' := 21) dX11_toldArcs_20 rfl rfl rfl ?_
    refine X.iconst (v := 1) (pc' := 22) dX11_toldArcs_21 rfl (by decide) ?_
    refine X.aload_n (x := a0) (pc' := 23) dX11_toldArcs_22 rfl rfl rfl ?_
    obtain ⟨r5, e6, h⟩ := bindE h
    refine X.getf (pc' := 26) dX11_toldArcs_23 rfl fq_X11_7 (gP_spec e6) ?_
    refine X.bipush (v := 70) (pc' := 28) dX11_toldArcs_26 rfl (by decide) ?_
    refine X.bipush (v := 8) (pc' := 30) dX11_toldArcs_28 rfl (by decide) ?_
    refine X.iload_n (x := a1) (pc' := 31) dX11_toldArcs_30 rfl rfl rfl ?_
    refine X.imul (pc' := 32) dX11_toldArcs_31 rfl ?_
    refine X.iadd (pc' := 33) dX11_toldArcs_32 rfl ?_
    refine X.iload_n (x := a3) (pc' := 34) dX11_toldArcs_33 rfl rfl rfl ?_
    refine X.iadd (pc' := 35) dX11_toldArcs_34 rfl ?_
    obtain ⟨v8, e7, h⟩ := bindE h
    refine X.iald (pc' := 36) dX11_toldArcs_35 rfl e7 ?_
    refine X.ishl (pc' := 37) dX11_toldArcs_36 rfl ?_
    refine X.ior (pc' := 38) dX11_toldArcs_37 rfl ?_
    refine X.istore_n (L' := [some (.ref a0), some (.int a1), some (.int (a2 ||| (1 <<< (v8 &&& 31)))), some (.int a3)]) (pc' := 39) dX11_toldArcs_38 rfl rfl (Nat.le_of_ble_eq_true rfl) rfl ?_
    refine X.iinc (v := (a3 + 1)) (L' := [some (.ref a0), some (.int a1), some (.int (a2 ||| (1 <<< (v8 &&& 31)))), some (.int (a3 + 1))]) (pc' := 42) dX11_toldArcs_39 rfl rfl (congrArg (fun y => a3 + y) (show Int32.ofInt 1 = 1 by decide)) (Nat.le_of_ble_eq_true rfl) rfl ?_
    refine X.goto (pc' := 4) dX11_toldArcs_42 (by decide) ?_
    exact hk4 _ _ _ _ _ h
def f_X11_toldArcs_4 (fu : Nat) : Nat → Nat → Int32 → Int32 → Int32 → List Ob → Option (Int32 × List Ob)
  | 0, _, _, _, _, _ => none
  | n + 1, a0, a1, a2, a3, M => f_X11_toldArcs_4b fu a0 a1 a2 a3 M (fun a0 a1 a2 a3 M => f_X11_toldArcs_4 fu n a0 a1 a2 a3 M)
theorem ok_X11_toldArcs_4 {G : GT} {fu : Nat} {out : Int32 × List Ob} : ∀ (n : Nat) (a0 : Nat) (a1 : Int32) (a2 : Int32) (a3 : Int32) (M : List Ob), f_X11_toldArcs_4 fu n a0 a1 a2 a3 M = some out → X G t_X11_toldArcs [] 4 [some (.ref a0), some (.int a1), some (.int a2), some (.int a3)] [] M 0 0 (oI out) := by
  intro n
  induction n with
  | zero =>
    intro a0 a1 a2 a3 M h
    unfold f_X11_toldArcs_4 at h
    cases h
  | succ n ih =>
    intro a0 a1 a2 a3 M h
    unfold f_X11_toldArcs_4 at h
    exact ok_X11_toldArcs_4b ih h
def f_X11_toldArcs (fu : Nat) (a0 : Nat) (a1 : Int32) (M : List Ob) : Option (Int32 × List Ob) :=
  f_X11_toldArcs_4 fu  fu a0 a1 0 1 M
set_option maxHeartbeats 4000000 in
theorem ok_X11_toldArcs {G : GT} {fu : Nat} {a0 : Nat} {a1 : Int32} {M : List Ob} {out : Int32 × List Ob} (h : f_X11_toldArcs fu a0 a1 M = some out) : Sp G t_X11_toldArcs [.ref a0, .int a1] M (oI out) := by
  refine Sp.of rfl (by decide +kernel) (cat_all rfl) (Nat.le_of_ble_eq_true rfl) ?_
  show X G t_X11_toldArcs [] 0 [some (.ref a0), some (.int a1), none, none] [] M 0 0 (oI out)
  unfold f_X11_toldArcs at h
  refine X.iconst (v := 0) (pc' := 1) dX11_toldArcs_0 rfl (by decide) ?_
  refine X.istore_n (L' := [some (.ref a0), some (.int a1), some (.int 0), none]) (pc' := 2) dX11_toldArcs_1 rfl rfl (Nat.le_of_ble_eq_true rfl) rfl ?_
  refine X.iconst (v := 1) (pc' := 3) dX11_toldArcs_2 rfl (by decide) ?_
  refine X.istore_n (L' := [some (.ref a0), some (.int a1), some (.int 0), some (.int 1)]) (pc' := 4) dX11_toldArcs_3 rfl rfl (Nat.le_of_ble_eq_true rfl) rfl ?_
  refine ok_X11_toldArcs_4  fu _ _ _ _ _ h
def f_X11_leastTold_44 (fu : Nat) (a0 : Nat) (a1 : Int32) (a3 : Int32) (b0 : Int32) (M : List Ob) (k5 : Nat → Int32 → Int32 → Int32 → List Ob → Option (Int32 × List Ob)) : Option (Int32 × List Ob) :=
  k5 a0 a1 b0 (a3 + 1) M
set_option maxHeartbeats 4000000 in
theorem ok_X11_leastTold_44 {G : GT} {fu : Nat} {out : Int32 × List Ob} {a0 : Nat} {a1 : Int32} {a3 : Int32} {b0 : Int32} {M : List Ob} {k5 : Nat → Int32 → Int32 → Int32 → List Ob → Option (Int32 × List Ob)} (hk5 : ∀ (a0 : Nat) (a1 : Int32) (a2 : Int32) (a3 : Int32) (M : List Ob), k5 a0 a1 a2 a3 M = some out → X G t_X11_leastTold [] 5 [some (.ref a0), some (.int a1), some (.int a2), some (.int a3)] [] M 0 0 (oI out)) (h : f_X11_leastTold_44 fu a0 a1 a3 b0 M k5 = some out) : X G t_X11_leastTold [] 44 [some (.ref a0), some (.int a1), none, some (.int a3)] [.int b0] M 0 0 (oI out) := by
  unfold f_X11_leastTold_44 at h
  refine X.istore_n (L' := [some (.ref a0), some (.int a1), some (.int b0), some (.int a3)]) (pc' := 45) dX11_leastTold_44 rfl rfl (Nat.le_of_ble_eq_true rfl) rfl ?_
  refine X.iinc (v := (a3 + 1)) (L' := [some (.ref a0), some (.int a1), some (.int b0), some (.int (a3 + 1))]) (pc' := 48) dX11_leastTold_45 rfl rfl (congrArg (fun y => a3 + y) (show Int32.ofInt 1 = 1 by decide)) (Nat.le_of_ble_eq_true rfl) rfl ?_
  refine X.goto (pc' := 5) dX11_leastTold_48 (by decide) ?_
  exact hk5 _ _ _ _ _ h
def f_X11_leastTold_5b (fu : Nat) (a0 : Nat) (a1 : Int32) (a2 : Int32) (a3 : Int32) (M : List Ob) (k5 : Nat → Int32 → Int32 → Int32 → List Ob → Option (Int32 × List Ob)) : Option (Int32 × List Ob) :=
  (gP M a0 11 0).bind fun r1 =>
  (aI M r1 13 69).bind fun v4 =>
  if v4 ≤ a3 then (some (a2, M))
  else ((hasO M a0 11).bind fun _ =>
  bd2 (f_X11_toldArcs fu a0 a3 M) fun v5 M6 =>
  (hasO M6 a0 11).bind fun _ =>
  bd2 (f_X11_costOf fu a0 v5 a1 M6) fun v9 M10 =>
  if a2 ≤ v9 then (f_X11_leastTold_44 fu a0 a1 a3 a2 M10 k5)
  else ((hasO M10 a0 11).bind fun _ =>
  bd2 (f_X11_toldArcs fu a0 a3 M10) fun v13 M14 =>
  (hasO M14 a0 11).bind fun _ =>
  bd2 (f_X11_costOf fu a0 v13 a1 M14) fun v17 M18 =>
  f_X11_leastTold_44 fu a0 a1 a3 v17 M18 k5))
set_option maxHeartbeats 4000000 in
theorem ok_X11_leastTold_5b {G : GT} {fu : Nat} {out : Int32 × List Ob} {a0 : Nat} {a1 : Int32} {a2 : Int32} {a3 : Int32} {M : List Ob} {k5 : Nat → Int32 → Int32 → Int32 → List Ob → Option (Int32 × List Ob)} (hk5 : ∀ (a0 : Nat) (a1 : Int32) (a2 : Int32) (a3 : Int32) (M : List Ob), k5 a0 a1 a2 a3 M = some out → X G t_X11_leastTold [] 5 [some (.ref a0), some (.int a1), some (.int a2), some (.int a3)] [] M 0 0 (oI out)) (h : f_X11_leastTold_5b fu a0 a1 a2 a3 M k5 = some out) : X G t_X11_leastTold [] 5 [some (.ref a0), some (.int a1), some (.int a2), some (.int a3)] [] M 0 0 (oI out) := by
  unfold f_X11_leastTold_5b at h
  refine X.iload_n (x := a3) (pc' := 6) dX11_leastTold_5 rfl rfl rfl ?_
  refine X.aload_n (x := a0) (pc' := 7) dX11_leastTold_6 rfl rfl rfl ?_
  obtain ⟨r1, e2, h⟩ := bindE h
  refine X.getf (pc' := 10) dX11_leastTold_7 rfl fq_X11_7 (gP_spec e2) ?_
  refine X.bipush (v := 69) (pc' := 12) dX11_leastTold_10 rfl (by decide) ?_
  obtain ⟨v4, e3, h⟩ := bindE h
  refine X.iald (pc' := 13) dX11_leastTold_12 rfl e3 ?_
  refine X.icmp_ge (tgt := 51) (pc' := 16) dX11_leastTold_13 (by decide) rfl (fun hc => ?_) (fun hc => ?_)
  · rw [if_pos hc] at h
    refine X.iload_n (x := a2) (pc' := 52) dX11_leastTold_51 rfl rfl rfl ?_
    cases h
    exact X.iret (ty := .int) dX11_leastTold_52 rfl rfl (Nat.le_of_ble_eq_true rfl) (Nat.le_of_ble_eq_true rfl) rfl
  · rw [if_neg hc] at h
    refine X.aload_n (x := a0) (pc' := 17) dX11_leastTold_16 rfl rfl rfl ?_
    refine X.aload_n (x := a0) (pc' := 18) dX11_leastTold_17 rfl rfl rfl ?_
    refine X.iload_n (x := a3) (pc' := 19) dX11_leastTold_18 rfl rfl rfl ?_
    obtain ⟨⟨⟩, e8, h⟩ := bindE h
    obtain ⟨v5, M6, e7, h⟩ := bd2E h
    refine X.callV (b := a0) (v := some (.int v5)) (As := [.int a3]) (st := [.ref a0]) (M' := M6) (pc' := 22) dX11_leastTold_19 rfl cl_X11_216 mi_X11_toldArcs me_X11_toldArcs mr_X11_toldArcs e8 ⟨⟨Nat.le_of_ble_eq_true rfl, Nat.le_of_ble_eq_true rfl⟩, Nat.le_of_ble_eq_true rfl, Nat.le_of_ble_eq_true rfl⟩ rfl (Nat.le_of_ble_eq_true rfl) (ok_X11_toldArcs (G := zs G) e7) ?_
    show X G t_X11_leastTold [] 22 [some (.ref a0), some (.int a1), some (.int a2), some (.int a3)] [.int v5, .ref a0] M6 0 0 _
    refine X.iload_n (x := a1) (pc' := 23) dX11_leastTold_22 rfl rfl rfl ?_
    obtain ⟨⟨⟩, e12, h⟩ := bindE h
    obtain ⟨v9, M10, e11, h⟩ := bd2E h
    refine X.callV (b := a0) (v := some (.int v9)) (As := [.int v5, .int a1]) (st := []) (M' := M10) (pc' := 26) dX11_leastTold_23 rfl cl_X11_212 mi_X11_costOf me_X11_costOf mr_X11_costOf e12 ⟨⟨Nat.le_of_ble_eq_true rfl, Nat.le_of_ble_eq_true rfl⟩, Nat.le_of_ble_eq_true rfl, Nat.le_of_ble_eq_true rfl⟩ rfl (Nat.le_of_ble_eq_true rfl) (ok_X11_costOf (G := zs G) e11) ?_
    show X G t_X11_leastTold [] 26 [some (.ref a0), some (.int a1), some (.int a2), some (.int a3)] [.int v9] M10 0 0 _
    refine X.iload_n (x := a2) (pc' := 27) dX11_leastTold_26 rfl rfl rfl ?_
    refine X.icmp_ge (tgt := 43) (pc' := 30) dX11_leastTold_27 (by decide) rfl (fun hc => ?_) (fun hc => ?_)
    · rw [if_pos hc] at h
      refine X.iload_n (x := a2) (pc' := 44) dX11_leastTold_43 rfl rfl rfl ?_
      refine X.sub (L := [some (.ref a0), some (.int a1), none, some (.int a3)]) ?_ (⟨rfl, ⟨rfl, ⟨rfl, trivial⟩⟩⟩)
      exact ok_X11_leastTold_44 hk5 h
    · rw [if_neg hc] at h
      refine X.aload_n (x := a0) (pc' := 31) dX11_leastTold_30 rfl rfl rfl ?_
      refine X.aload_n (x := a0) (pc' := 32) dX11_leastTold_31 rfl rfl rfl ?_
      refine X.iload_n (x := a3) (pc' := 33) dX11_leastTold_32 rfl rfl rfl ?_
      obtain ⟨⟨⟩, e16, h⟩ := bindE h
      obtain ⟨v13, M14, e15, h⟩ := bd2E h
      refine X.callV (b := a0) (v := some (.int v13)) (As := [.int a3]) (st := [.ref a0]) (M' := M14) (pc' := 36) dX11_leastTold_33 rfl cl_X11_216 mi_X11_toldArcs me_X11_toldArcs mr_X11_toldArcs e16 ⟨⟨Nat.le_of_ble_eq_true rfl, Nat.le_of_ble_eq_true rfl⟩, Nat.le_of_ble_eq_true rfl, Nat.le_of_ble_eq_true rfl⟩ rfl (Nat.le_of_ble_eq_true rfl) (ok_X11_toldArcs (G := zs G) e15) ?_
      show X G t_X11_leastTold [] 36 [some (.ref a0), some (.int a1), some (.int a2), some (.int a3)] [.int v13, .ref a0] M14 0 0 _
      refine X.iload_n (x := a1) (pc' := 37) dX11_leastTold_36 rfl rfl rfl ?_
      obtain ⟨⟨⟩, e20, h⟩ := bindE h
      obtain ⟨v17, M18, e19, h⟩ := bd2E h
      refine X.callV (b := a0) (v := some (.int v17)) (As := [.int v13, .int a1]) (st := []) (M' := M18) (pc' := 40) dX11_leastTold_37 rfl cl_X11_212 mi_X11_costOf me_X11_costOf mr_X11_costOf e20 ⟨⟨Nat.le_of_ble_eq_true rfl, Nat.le_of_ble_eq_true rfl⟩, Nat.le_of_ble_eq_true rfl, Nat.le_of_ble_eq_true rfl⟩ rfl (Nat.le_of_ble_eq_true rfl) (ok_X11_costOf (G := zs G) e19) ?_
      show X G t_X11_leastTold [] 40 [some (.ref a0), some (.int a1), some (.int a2), some (.int a3)] [.int v17] M18 0 0 _
      refine X.goto (pc' := 44) dX11_leastTold_40 (by decide) ?_
      refine X.sub (L := [some (.ref a0), some (.int a1), none, some (.int a3)]) ?_ (⟨rfl, ⟨rfl, ⟨rfl, trivial⟩⟩⟩)
      exact ok_X11_leastTold_44 hk5 h
def f_X11_leastTold_5 (fu : Nat) : Nat → Nat → Int32 → Int32 → Int32 → List Ob → Option (Int32 × List Ob)
  | 0, _, _, _, _, _ => none
  | n + 1, a0, a1, a2, a3, M => f_X11_leastTold_5b fu a0 a1 a2 a3 M (fun a0 a1 a2 a3 M => f_X11_leastTold_5 fu n a0 a1 a2 a3 M)
theorem ok_X11_leastTold_5 {G : GT} {fu : Nat} {out : Int32 × List Ob} : ∀ (n : Nat) (a0 : Nat) (a1 : Int32) (a2 : Int32) (a3 : Int32) (M : List Ob), f_X11_leastTold_5 fu n a0 a1 a2 a3 M = some out → X G t_X11_leastTold [] 5 [some (.ref a0), some (.int a1), some (.int a2), some (.int a3)] [] M 0 0 (oI out) := by
  intro n
  induction n with
  | zero =>
    intro a0 a1 a2 a3 M h
    unfold f_X11_leastTold_5 at h
    cases h
  | succ n ih =>
    intro a0 a1 a2 a3 M h
    unfold f_X11_leastTold_5 at h
    exact ok_X11_leastTold_5b ih h
def f_X11_leastTold (fu : Nat) (a0 : Nat) (a1 : Int32) (M : List Ob) : Option (Int32 × List Ob) :=
  f_X11_leastTold_5 fu  fu a0 a1 999999 0 M
set_option maxHeartbeats 4000000 in
theorem ok_X11_leastTold {G : GT} {fu : Nat} {a0 : Nat} {a1 : Int32} {M : List Ob} {out : Int32 × List Ob} (h : f_X11_leastTold fu a0 a1 M = some out) : Sp G t_X11_leastTold [.ref a0, .int a1] M (oI out) := by
  refine Sp.of rfl (by decide +kernel) (cat_all rfl) (Nat.le_of_ble_eq_true rfl) ?_
  show X G t_X11_leastTold [] 0 [some (.ref a0), some (.int a1), none, none] [] M 0 0 (oI out)
  unfold f_X11_leastTold at h
  refine X.ldc (v := 999999) (pc' := 2) dX11_leastTold_0 rfl (TBg_of 1523 (by decide +kernel) rfl) ?_
  refine X.istore_n (L' := [some (.ref a0), some (.int a1), some (.int 999999), none]) (pc' := 3) dX11_leastTold_2 rfl rfl (Nat.le_of_ble_eq_true rfl) rfl ?_
  refine X.iconst (v := 0) (pc' := 4) dX11_leastTold_3 rfl (by decide) ?_
  refine X.istore_n (L' := [some (.ref a0), some (.int a1), some (.int 999999), some (.int 0)]) (pc' := 5) dX11_leastTold_4 rfl rfl (Nat.le_of_ble_eq_true rfl) rfl ?_
  refine ok_X11_leastTold_5  fu _ _ _ _ _ h
def f_X11_shortestBy_33 (fu : Nat) (a0 : Nat) (a1 : Int32) (a2 : Int32) (b0 : Nat) (b1 : Int32) (b2 : Int32) (M : List Ob) (k2 : Nat → Int32 → Int32 → List Ob → Option (Int32 × List Ob)) (k40 : Nat → Int32 → List Ob → Option (Int32 × List Ob)) : Option (Int32 × List Ob) :=
  (aSet M b0 13 b1 (.int b2)).bind fun M2 =>
  k2 a0 a1 (a2 + 1) M2
set_option maxHeartbeats 4000000 in
theorem ok_X11_shortestBy_33 {G : GT} {fu : Nat} {out : Int32 × List Ob} {a0 : Nat} {a1 : Int32} {a2 : Int32} {b0 : Nat} {b1 : Int32} {b2 : Int32} {M : List Ob} {k2 : Nat → Int32 → Int32 → List Ob → Option (Int32 × List Ob)} {k40 : Nat → Int32 → List Ob → Option (Int32 × List Ob)} (hk2 : ∀ (a0 : Nat) (a1 : Int32) (a2 : Int32) (M : List Ob), k2 a0 a1 a2 M = some out → X G t_X11_shortestBy [] 2 [some (.ref a0), some (.int a1), some (.int a2), none, none] [] M 0 0 (oI out)) (hk40 : ∀ (a0 : Nat) (a1 : Int32) (M : List Ob), k40 a0 a1 M = some out → X G t_X11_shortestBy [] 40 [some (.ref a0), some (.int a1), none, none, none] [] M 0 0 (oI out)) (h : f_X11_shortestBy_33 fu a0 a1 a2 b0 b1 b2 M k2 k40 = some out) : X G t_X11_shortestBy [] 33 [some (.ref a0), some (.int a1), some (.int a2), none, none] [.int b2, .int b1, .ref b0] M 0 0 (oI out) := by
  unfold f_X11_shortestBy_33 at h
  obtain ⟨M2, e1, h⟩ := bindE h
  refine X.iast (pc' := 34) dX11_shortestBy_33 rfl e1 ?_
  refine X.iinc (v := (a2 + 1)) (L' := [some (.ref a0), some (.int a1), some (.int (a2 + 1)), none, none]) (pc' := 37) dX11_shortestBy_34 rfl rfl (congrArg (fun y => a2 + y) (show Int32.ofInt 1 = 1 by decide)) (Nat.le_of_ble_eq_true rfl) rfl ?_
  refine X.goto (pc' := 2) dX11_shortestBy_37 (by decide) ?_
  exact hk2 _ _ _ _ h
def f_X11_shortestBy_2b (fu : Nat) (a0 : Nat) (a1 : Int32) (a2 : Int32) (M : List Ob) (k2 : Nat → Int32 → Int32 → List Ob → Option (Int32 × List Ob)) (k40 : Nat → Int32 → List Ob → Option (Int32 × List Ob)) : Option (Int32 × List Ob) :=
  (gP M a0 11 0).bind fun r1 =>
  (aI M r1 13 0).bind fun v4 =>
  if v4 ≤ a2 then (k40 a0 a1 M)
  else ((gP M a0 11 15).bind fun r5 =>
  (gP M a0 11 0).bind fun r7 =>
  (aI M r7 13 1).bind fun v10 =>
  if a2 = v10 then (f_X11_shortestBy_33 fu a0 a1 a2 r5 a2 0 M k2 k40)
  else (f_X11_shortestBy_33 fu a0 a1 a2 r5 a2 999999 M k2 k40))
set_option maxHeartbeats 4000000 in
theorem ok_X11_shortestBy_2b {G : GT} {fu : Nat} {out : Int32 × List Ob} {a0 : Nat} {a1 : Int32} {a2 : Int32} {M : List Ob} {k2 : Nat → Int32 → Int32 → List Ob → Option (Int32 × List Ob)} {k40 : Nat → Int32 → List Ob → Option (Int32 × List Ob)} (hk2 : ∀ (a0 : Nat) (a1 : Int32) (a2 : Int32) (M : List Ob), k2 a0 a1 a2 M = some out → X G t_X11_shortestBy [] 2 [some (.ref a0), some (.int a1), some (.int a2), none, none] [] M 0 0 (oI out)) (hk40 : ∀ (a0 : Nat) (a1 : Int32) (M : List Ob), k40 a0 a1 M = some out → X G t_X11_shortestBy [] 40 [some (.ref a0), some (.int a1), none, none, none] [] M 0 0 (oI out)) (h : f_X11_shortestBy_2b fu a0 a1 a2 M k2 k40 = some out) : X G t_X11_shortestBy [] 2 [some (.ref a0), some (.int a1), some (.int a2), none, none] [] M 0 0 (oI out) := by
  unfold f_X11_shortestBy_2b at h
  refine X.iload_n (x := a2) (pc' := 3) dX11_shortestBy_2 rfl rfl rfl ?_
  refine X.aload_n (x := a0) (pc' := 4) dX11_shortestBy_3 rfl rfl rfl ?_
  obtain ⟨r1, e2, h⟩ := bindE h
  refine X.getf (pc' := 7) dX11_shortestBy_4 rfl fq_X11_7 (gP_spec e2) ?_
  refine X.iconst (v := 0) (pc' := 8) dX11_shortestBy_7 rfl (by decide) ?_
  obtain ⟨v4, e3, h⟩ := bindE h
  refine X.iald (pc' := 9) dX11_shortestBy_8 rfl e3 ?_
  refine X.icmp_ge (tgt := 40) (pc' := 12) dX11_shortestBy_9 (by decide) rfl (fun hc => ?_) (fun hc => ?_)
  · rw [if_pos hc] at h
    refine X.sub (L := [some (.ref a0), some (.int a1), none, none, none]) ?_ (⟨rfl, ⟨rfl, trivial⟩⟩)
    exact hk40 _ _ _ h
  · rw [if_neg hc] at h
    refine X.aload_n (x := a0) (pc' := 13) dX11_shortestBy_12 rfl rfl rfl ?_
    obtain ⟨r5, e6, h⟩ := bindE h
    refine X.getf (pc' := 16) dX11_shortestBy_13 rfl fq_X11_26 (gP_spec e6) ?_
    refine X.iload_n (x := a2) (pc' := 17) dX11_shortestBy_16 rfl rfl rfl ?_
    refine X.iload_n (x := a2) (pc' := 18) dX11_shortestBy_17 rfl rfl rfl ?_
    refine X.aload_n (x := a0) (pc' := 19) dX11_shortestBy_18 rfl rfl rfl ?_
    obtain ⟨r7, e8, h⟩ := bindE h
    refine X.getf (pc' := 22) dX11_shortestBy_19 rfl fq_X11_7 (gP_spec e8) ?_
    refine X.iconst (v := 1) (pc' := 23) dX11_shortestBy_22 rfl (by decide) ?_
    obtain ⟨v10, e9, h⟩ := bindE h
    refine X.iald (pc' := 24) dX11_shortestBy_23 rfl e9 ?_
    refine X.icmp_ne (tgt := 31) (pc' := 27) dX11_shortestBy_24 (by decide) rfl (fun hc => ?_) (fun hc => ?_)
    · rw [if_neg hc] at h
      refine X.ldc (v := 999999) (pc' := 33) dX11_shortestBy_31 rfl (TBg_of 1523 (by decide +kernel) rfl) ?_
      exact ok_X11_shortestBy_33 hk2 hk40 h
    · rw [if_pos hc] at h
      refine X.iconst (v := 0) (pc' := 28) dX11_shortestBy_27 rfl (by decide) ?_
      refine X.goto (pc' := 33) dX11_shortestBy_28 (by decide) ?_
      exact ok_X11_shortestBy_33 hk2 hk40 h
def f_X11_shortestBy_2 (fu : Nat) (k40 : Nat → Int32 → List Ob → Option (Int32 × List Ob)) : Nat → Nat → Int32 → Int32 → List Ob → Option (Int32 × List Ob)
  | 0, _, _, _, _ => none
  | n + 1, a0, a1, a2, M => f_X11_shortestBy_2b fu a0 a1 a2 M (fun a0 a1 a2 M => f_X11_shortestBy_2 fu k40 n a0 a1 a2 M) k40
theorem ok_X11_shortestBy_2 {G : GT} {fu : Nat} {out : Int32 × List Ob} {k40 : Nat → Int32 → List Ob → Option (Int32 × List Ob)} (hk40 : ∀ (a0 : Nat) (a1 : Int32) (M : List Ob), k40 a0 a1 M = some out → X G t_X11_shortestBy [] 40 [some (.ref a0), some (.int a1), none, none, none] [] M 0 0 (oI out)) : ∀ (n : Nat) (a0 : Nat) (a1 : Int32) (a2 : Int32) (M : List Ob), f_X11_shortestBy_2 fu k40 n a0 a1 a2 M = some out → X G t_X11_shortestBy [] 2 [some (.ref a0), some (.int a1), some (.int a2), none, none] [] M 0 0 (oI out) := by
  intro n
  induction n with
  | zero =>
    intro a0 a1 a2 M h
    unfold f_X11_shortestBy_2 at h
    cases h
  | succ n ih =>
    intro a0 a1 a2 M h
    unfold f_X11_shortestBy_2 at h
    exact ok_X11_shortestBy_2b ih hk40 h
def f_X11_shortestBy_132 (fu : Nat) (a0 : Nat) (a1 : Int32) (a2 : Int32) (a3 : Int32) (M : List Ob) (k54 : Nat → Int32 → Int32 → Int32 → List Ob → Option (Int32 × List Ob)) (k138 : Nat → Int32 → Int32 → List Ob → Option (Int32 × List Ob)) : Option (Int32 × List Ob) :=
  k54 a0 a1 a2 (a3 + 1) M
set_option maxHeartbeats 4000000 in
theorem ok_X11_shortestBy_132 {G : GT} {fu : Nat} {out : Int32 × List Ob} {a0 : Nat} {a1 : Int32} {a2 : Int32} {a3 : Int32} {M : List Ob} {k54 : Nat → Int32 → Int32 → Int32 → List Ob → Option (Int32 × List Ob)} {k138 : Nat → Int32 → Int32 → List Ob → Option (Int32 × List Ob)} (hk54 : ∀ (a0 : Nat) (a1 : Int32) (a2 : Int32) (a3 : Int32) (M : List Ob), k54 a0 a1 a2 a3 M = some out → X G t_X11_shortestBy [] 54 [some (.ref a0), some (.int a1), some (.int a2), some (.int a3), none] [] M 0 0 (oI out)) (hk138 : ∀ (a0 : Nat) (a1 : Int32) (a2 : Int32) (M : List Ob), k138 a0 a1 a2 M = some out → X G t_X11_shortestBy [] 138 [some (.ref a0), some (.int a1), some (.int a2), none, none] [] M 0 0 (oI out)) (h : f_X11_shortestBy_132 fu a0 a1 a2 a3 M k54 k138 = some out) : X G t_X11_shortestBy [] 132 [some (.ref a0), some (.int a1), some (.int a2), some (.int a3), none] [] M 0 0 (oI out) := by
  unfold f_X11_shortestBy_132 at h
  refine X.iinc (v := (a3 + 1)) (L' := [some (.ref a0), some (.int a1), some (.int a2), some (.int (a3 + 1)), none]) (pc' := 135) dX11_shortestBy_132 rfl rfl (congrArg (fun y => a3 + y) (show Int32.ofInt 1 = 1 by decide)) (Nat.le_of_ble_eq_true rfl) rfl ?_
  refine X.goto (pc' := 54) dX11_shortestBy_135 (by decide) ?_
  exact hk54 _ _ _ _ _ h
def f_X11_shortestBy_100 (fu : Nat) (a0 : Nat) (a1 : Int32) (a2 : Int32) (a3 : Int32) (b0 : Int32) (b1 : Int32) (M : List Ob) (k54 : Nat → Int32 → Int32 → Int32 → List Ob → Option (Int32 × List Ob)) (k138 : Nat → Int32 → Int32 → List Ob → Option (Int32 × List Ob)) : Option (Int32 × List Ob) :=
  (gP M a0 11 15).bind fun r1 =>
  (hasO M a0 11).bind fun _ =>
  bd2 (f_X11_of fu a0 a3 1 M) fun v3 M4 =>
  (aI M4 r1 13 v3).bind fun v8 =>
  if v8 ≤ (b0 + b1) then (f_X11_shortestBy_132 fu a0 a1 a2 a3 M4 k54 k138)
  else ((gP M4 a0 11 15).bind fun r9 =>
  (hasO M4 a0 11).bind fun _ =>
  bd2 (f_X11_of fu a0 a3 1 M4) fun v11 M12 =>
  (aSet M12 r9 13 v11 (.int (b0 + b1))).bind fun M16 =>
  f_X11_shortestBy_132 fu a0 a1 a2 a3 M16 k54 k138)
set_option maxHeartbeats 4000000 in
theorem ok_X11_shortestBy_100 {G : GT} {fu : Nat} {out : Int32 × List Ob} {a0 : Nat} {a1 : Int32} {a2 : Int32} {a3 : Int32} {b0 : Int32} {b1 : Int32} {M : List Ob} {k54 : Nat → Int32 → Int32 → Int32 → List Ob → Option (Int32 × List Ob)} {k138 : Nat → Int32 → Int32 → List Ob → Option (Int32 × List Ob)} (hk54 : ∀ (a0 : Nat) (a1 : Int32) (a2 : Int32) (a3 : Int32) (M : List Ob), k54 a0 a1 a2 a3 M = some out → X G t_X11_shortestBy [] 54 [some (.ref a0), some (.int a1), some (.int a2), some (.int a3), none] [] M 0 0 (oI out)) (hk138 : ∀ (a0 : Nat) (a1 : Int32) (a2 : Int32) (M : List Ob), k138 a0 a1 a2 M = some out → X G t_X11_shortestBy [] 138 [some (.ref a0), some (.int a1), some (.int a2), none, none] [] M 0 0 (oI out)) (h : f_X11_shortestBy_100 fu a0 a1 a2 a3 b0 b1 M k54 k138 = some out) : X G t_X11_shortestBy [] 100 [some (.ref a0), some (.int a1), some (.int a2), some (.int a3), none] [.int b1, .int b0] M 0 0 (oI out) := by
  unfold f_X11_shortestBy_100 at h
  refine X.iadd (pc' := 101) dX11_shortestBy_100 rfl ?_
  refine X.istore (L' := [some (.ref a0), some (.int a1), some (.int a2), some (.int a3), some (.int (b0 + b1))]) (pc' := 103) dX11_shortestBy_101 rfl (Nat.le_of_ble_eq_true rfl) rfl ?_
  refine X.iload (x := (b0 + b1)) (pc' := 105) dX11_shortestBy_103 rfl rfl ?_
  refine X.aload_n (x := a0) (pc' := 106) dX11_shortestBy_105 rfl rfl rfl ?_
  obtain ⟨r1, e2, h⟩ := bindE h
  refine X.getf (pc' := 109) dX11_shortestBy_106 rfl fq_X11_26 (gP_spec e2) ?_
  refine X.aload_n (x := a0) (pc' := 110) dX11_shortestBy_109 rfl rfl rfl ?_
  refine X.iload_n (x := a3) (pc' := 111) dX11_shortestBy_110 rfl rfl rfl ?_
  refine X.iconst (v := 1) (pc' := 112) dX11_shortestBy_111 rfl (by decide) ?_
  obtain ⟨⟨⟩, e6, h⟩ := bindE h
  obtain ⟨v3, M4, e5, h⟩ := bd2E h
  refine X.callV (b := a0) (v := some (.int v3)) (As := [.int a3, .int 1]) (st := [.ref r1, .int (b0 + b1)]) (M' := M4) (pc' := 115) dX11_shortestBy_112 rfl cl_X11_190 mi_X11_of me_X11_of mr_X11_of e6 ⟨⟨Nat.le_of_ble_eq_true rfl, Nat.le_of_ble_eq_true rfl⟩, Nat.le_of_ble_eq_true rfl, Nat.le_of_ble_eq_true rfl⟩ rfl (Nat.le_of_ble_eq_true rfl) (ok_X11_of (G := zs G) e5) ?_
  show X G t_X11_shortestBy [] 115 [some (.ref a0), some (.int a1), some (.int a2), some (.int a3), some (.int (b0 + b1))] [.int v3, .ref r1, .int (b0 + b1)] M4 0 0 _
  obtain ⟨v8, e7, h⟩ := bindE h
  refine X.iald (pc' := 116) dX11_shortestBy_115 rfl e7 ?_
  refine X.icmp_ge (tgt := 132) (pc' := 119) dX11_shortestBy_116 (by decide) rfl (fun hc => ?_) (fun hc => ?_)
  · rw [if_pos hc] at h
    refine X.sub (L := [some (.ref a0), some (.int a1), some (.int a2), some (.int a3), none]) ?_ (⟨rfl, ⟨rfl, ⟨rfl, ⟨rfl, trivial⟩⟩⟩⟩)
    exact ok_X11_shortestBy_132 hk54 hk138 h
  · rw [if_neg hc] at h
    refine X.aload_n (x := a0) (pc' := 120) dX11_shortestBy_119 rfl rfl rfl ?_
    obtain ⟨r9, e10, h⟩ := bindE h
    refine X.getf (pc' := 123) dX11_shortestBy_120 rfl fq_X11_26 (gP_spec e10) ?_
    refine X.aload_n (x := a0) (pc' := 124) dX11_shortestBy_123 rfl rfl rfl ?_
    refine X.iload_n (x := a3) (pc' := 125) dX11_shortestBy_124 rfl rfl rfl ?_
    refine X.iconst (v := 1) (pc' := 126) dX11_shortestBy_125 rfl (by decide) ?_
    obtain ⟨⟨⟩, e14, h⟩ := bindE h
    obtain ⟨v11, M12, e13, h⟩ := bd2E h
    refine X.callV (b := a0) (v := some (.int v11)) (As := [.int a3, .int 1]) (st := [.ref r9]) (M' := M12) (pc' := 129) dX11_shortestBy_126 rfl cl_X11_190 mi_X11_of me_X11_of mr_X11_of e14 ⟨⟨Nat.le_of_ble_eq_true rfl, Nat.le_of_ble_eq_true rfl⟩, Nat.le_of_ble_eq_true rfl, Nat.le_of_ble_eq_true rfl⟩ rfl (Nat.le_of_ble_eq_true rfl) (ok_X11_of (G := zs G) e13) ?_
    show X G t_X11_shortestBy [] 129 [some (.ref a0), some (.int a1), some (.int a2), some (.int a3), some (.int (b0 + b1))] [.int v11, .ref r9] M12 0 0 _
    refine X.iload (x := (b0 + b1)) (pc' := 131) dX11_shortestBy_129 rfl rfl ?_
    obtain ⟨M16, e15, h⟩ := bindE h
    refine X.iast (pc' := 132) dX11_shortestBy_131 rfl e15 ?_
    refine X.sub (L := [some (.ref a0), some (.int a1), some (.int a2), some (.int a3), none]) ?_ (⟨rfl, ⟨rfl, ⟨rfl, ⟨rfl, trivial⟩⟩⟩⟩)
    exact ok_X11_shortestBy_132 hk54 hk138 h
def f_X11_shortestBy_54b (fu : Nat) (a0 : Nat) (a1 : Int32) (a2 : Int32) (a3 : Int32) (M : List Ob) (k54 : Nat → Int32 → Int32 → Int32 → List Ob → Option (Int32 × List Ob)) (k138 : Nat → Int32 → Int32 → List Ob → Option (Int32 × List Ob)) : Option (Int32 × List Ob) :=
  (gP M a0 11 0).bind fun r1 =>
  (aI M r1 13 4).bind fun v4 =>
  if v4 ≤ a3 then (k138 a0 a1 a2 M)
  else ((gP M a0 11 15).bind fun r5 =>
  (hasO M a0 11).bind fun _ =>
  bd2 (f_X11_of fu a0 a3 0 M) fun v7 M8 =>
  (aI M8 r5 13 v7).bind fun v12 =>
  (hasO M8 a0 11).bind fun _ =>
  bd2 (f_X11_of fu a0 a3 2 M8) fun v13 M14 =>
  bd2 (f_X11_has fu a1 a3 M14) fun v17 M18 =>
  if v17 = 0 then (f_X11_shortestBy_100 fu a0 a1 a2 a3 (v12 + v13) 0 M18 k54 k138)
  else ((hasO M18 a0 11).bind fun _ =>
  bd2 (f_X11_of fu a0 a3 3 M18) fun v21 M22 =>
  f_X11_shortestBy_100 fu a0 a1 a2 a3 (v12 + v13) v21 M22 k54 k138))
set_option maxHeartbeats 4000000 in
theorem ok_X11_shortestBy_54b {G : GT} {fu : Nat} {out : Int32 × List Ob} {a0 : Nat} {a1 : Int32} {a2 : Int32} {a3 : Int32} {M : List Ob} {k54 : Nat → Int32 → Int32 → Int32 → List Ob → Option (Int32 × List Ob)} {k138 : Nat → Int32 → Int32 → List Ob → Option (Int32 × List Ob)} (hk54 : ∀ (a0 : Nat) (a1 : Int32) (a2 : Int32) (a3 : Int32) (M : List Ob), k54 a0 a1 a2 a3 M = some out → X G t_X11_shortestBy [] 54 [some (.ref a0), some (.int a1), some (.int a2), some (.int a3), none] [] M 0 0 (oI out)) (hk138 : ∀ (a0 : Nat) (a1 : Int32) (a2 : Int32) (M : List Ob), k138 a0 a1 a2 M = some out → X G t_X11_shortestBy [] 138 [some (.ref a0), some (.int a1), some (.int a2), none, none] [] M 0 0 (oI out)) (h : f_X11_shortestBy_54b fu a0 a1 a2 a3 M k54 k138 = some out) : X G t_X11_shortestBy [] 54 [some (.ref a0), some (.int a1), some (.int a2), some (.int a3), none] [] M 0 0 (oI out) := by
  unfold f_X11_shortestBy_54b at h
  refine X.iload_n (x := a3) (pc' := 55) dX11_shortestBy_54 rfl rfl rfl ?_
  refine X.aload_n (x := a0) (pc' := 56) dX11_shortestBy_55 rfl rfl rfl ?_
  obtain ⟨r1, e2, h⟩ := bindE h
  refine X.getf (pc' := 59) dX11_shortestBy_56 rfl fq_X11_7 (gP_spec e2) ?_
  refine X.iconst (v := 4) (pc' := 60) dX11_shortestBy_59 rfl (by decide) ?_
  obtain ⟨v4, e3, h⟩ := bindE h
  refine X.iald (pc' := 61) dX11_shortestBy_60 rfl e3 ?_
  refine X.icmp_ge (tgt := 138) (pc' := 64) dX11_shortestBy_61 (by decide) rfl (fun hc => ?_) (fun hc => ?_)
  · rw [if_pos hc] at h
    refine X.sub (L := [some (.ref a0), some (.int a1), some (.int a2), none, none]) ?_ (⟨rfl, ⟨rfl, ⟨rfl, trivial⟩⟩⟩)
    exact hk138 _ _ _ _ h
  · rw [if_neg hc] at h
    refine X.aload_n (x := a0) (pc' := 65) dX11_shortestBy_64 rfl rfl rfl ?_
    obtain ⟨r5, e6, h⟩ := bindE h
    refine X.getf (pc' := 68) dX11_shortestBy_65 rfl fq_X11_26 (gP_spec e6) ?_
    refine X.aload_n (x := a0) (pc' := 69) dX11_shortestBy_68 rfl rfl rfl ?_
    refine X.iload_n (x := a3) (pc' := 70) dX11_shortestBy_69 rfl rfl rfl ?_
    refine X.iconst (v := 0) (pc' := 71) dX11_shortestBy_70 rfl (by decide) ?_
    obtain ⟨⟨⟩, e10, h⟩ := bindE h
    obtain ⟨v7, M8, e9, h⟩ := bd2E h
    refine X.callV (b := a0) (v := some (.int v7)) (As := [.int a3, .int 0]) (st := [.ref r5]) (M' := M8) (pc' := 74) dX11_shortestBy_71 rfl cl_X11_190 mi_X11_of me_X11_of mr_X11_of e10 ⟨⟨Nat.le_of_ble_eq_true rfl, Nat.le_of_ble_eq_true rfl⟩, Nat.le_of_ble_eq_true rfl, Nat.le_of_ble_eq_true rfl⟩ rfl (Nat.le_of_ble_eq_true rfl) (ok_X11_of (G := zs G) e9) ?_
    show X G t_X11_shortestBy [] 74 [some (.ref a0), some (.int a1), some (.int a2), some (.int a3), none] [.int v7, .ref r5] M8 0 0 _
    obtain ⟨v12, e11, h⟩ := bindE h
    refine X.iald (pc' := 75) dX11_shortestBy_74 rfl e11 ?_
    refine X.aload_n (x := a0) (pc' := 76) dX11_shortestBy_75 rfl rfl rfl ?_
    refine X.iload_n (x := a3) (pc' := 77) dX11_shortestBy_76 rfl rfl rfl ?_
    refine X.iconst (v := 2) (pc' := 78) dX11_shortestBy_77 rfl (by decide) ?_
    obtain ⟨⟨⟩, e16, h⟩ := bindE h
    obtain ⟨v13, M14, e15, h⟩ := bd2E h
    refine X.callV (b := a0) (v := some (.int v13)) (As := [.int a3, .int 2]) (st := [.int v12]) (M' := M14) (pc' := 81) dX11_shortestBy_78 rfl cl_X11_190 mi_X11_of me_X11_of mr_X11_of e16 ⟨⟨Nat.le_of_ble_eq_true rfl, Nat.le_of_ble_eq_true rfl⟩, Nat.le_of_ble_eq_true rfl, Nat.le_of_ble_eq_true rfl⟩ rfl (Nat.le_of_ble_eq_true rfl) (ok_X11_of (G := zs G) e15) ?_
    show X G t_X11_shortestBy [] 81 [some (.ref a0), some (.int a1), some (.int a2), some (.int a3), none] [.int v13, .int v12] M14 0 0 _
    refine X.iadd (pc' := 82) dX11_shortestBy_81 rfl ?_
    refine X.iload_n (x := a1) (pc' := 83) dX11_shortestBy_82 rfl rfl rfl ?_
    refine X.iload_n (x := a3) (pc' := 84) dX11_shortestBy_83 rfl rfl rfl ?_
    obtain ⟨v17, M18, e19, h⟩ := bd2E h
    refine X.callS (v := some (.int v17)) (As := [.int a1, .int a3]) (st := [.int (v12 + v13)]) (M' := M18) (pc' := 87) dX11_shortestBy_84 rfl cl_X11_59 ms_X11_has ⟨⟨Nat.le_of_ble_eq_true rfl, Nat.le_of_ble_eq_true rfl⟩, Nat.le_of_ble_eq_true rfl, Nat.le_of_ble_eq_true rfl⟩ rfl (Nat.le_of_ble_eq_true rfl) (ok_X11_has (G := zs G) e19) ?_
    show X G t_X11_shortestBy [] 87 [some (.ref a0), some (.int a1), some (.int a2), some (.int a3), none] [.int v17, .int (v12 + v13)] M18 0 0 _
    refine X.if_eq (tgt := 99) (pc' := 90) dX11_shortestBy_87 (by decide) rfl (fun hc => ?_) (fun hc => ?_)
    · rw [if_pos hc] at h
      refine X.iconst (v := 0) (pc' := 100) dX11_shortestBy_99 rfl (by decide) ?_
      exact ok_X11_shortestBy_100 hk54 hk138 h
    · rw [if_neg hc] at h
      refine X.aload_n (x := a0) (pc' := 91) dX11_shortestBy_90 rfl rfl rfl ?_
      refine X.iload_n (x := a3) (pc' := 92) dX11_shortestBy_91 rfl rfl rfl ?_
      refine X.iconst (v := 3) (pc' := 93) dX11_shortestBy_92 rfl (by decide) ?_
      obtain ⟨⟨⟩, e24, h⟩ := bindE h
      obtain ⟨v21, M22, e23, h⟩ := bd2E h
      refine X.callV (b := a0) (v := some (.int v21)) (As := [.int a3, .int 3]) (st := [.int (v12 + v13)]) (M' := M22) (pc' := 96) dX11_shortestBy_93 rfl cl_X11_190 mi_X11_of me_X11_of mr_X11_of e24 ⟨⟨Nat.le_of_ble_eq_true rfl, Nat.le_of_ble_eq_true rfl⟩, Nat.le_of_ble_eq_true rfl, Nat.le_of_ble_eq_true rfl⟩ rfl (Nat.le_of_ble_eq_true rfl) (ok_X11_of (G := zs G) e23) ?_
      show X G t_X11_shortestBy [] 96 [some (.ref a0), some (.int a1), some (.int a2), some (.int a3), none] [.int v21, .int (v12 + v13)] M22 0 0 _
      refine X.goto (pc' := 100) dX11_shortestBy_96 (by decide) ?_
      exact ok_X11_shortestBy_100 hk54 hk138 h
def f_X11_shortestBy_54 (fu : Nat) (k138 : Nat → Int32 → Int32 → List Ob → Option (Int32 × List Ob)) : Nat → Nat → Int32 → Int32 → Int32 → List Ob → Option (Int32 × List Ob)
  | 0, _, _, _, _, _ => none
  | n + 1, a0, a1, a2, a3, M => f_X11_shortestBy_54b fu a0 a1 a2 a3 M (fun a0 a1 a2 a3 M => f_X11_shortestBy_54 fu k138 n a0 a1 a2 a3 M) k138
theorem ok_X11_shortestBy_54 {G : GT} {fu : Nat} {out : Int32 × List Ob} {k138 : Nat → Int32 → Int32 → List Ob → Option (Int32 × List Ob)} (hk138 : ∀ (a0 : Nat) (a1 : Int32) (a2 : Int32) (M : List Ob), k138 a0 a1 a2 M = some out → X G t_X11_shortestBy [] 138 [some (.ref a0), some (.int a1), some (.int a2), none, none] [] M 0 0 (oI out)) : ∀ (n : Nat) (a0 : Nat) (a1 : Int32) (a2 : Int32) (a3 : Int32) (M : List Ob), f_X11_shortestBy_54 fu k138 n a0 a1 a2 a3 M = some out → X G t_X11_shortestBy [] 54 [some (.ref a0), some (.int a1), some (.int a2), some (.int a3), none] [] M 0 0 (oI out) := by
  intro n
  induction n with
  | zero =>
    intro a0 a1 a2 a3 M h
    unfold f_X11_shortestBy_54 at h
    cases h
  | succ n ih =>
    intro a0 a1 a2 a3 M h
    unfold f_X11_shortestBy_54 at h
    exact ok_X11_shortestBy_54b ih hk138 h
def f_X11_shortestBy_138 (fu : Nat) (a0 : Nat) (a1 : Int32) (a2 : Int32) (M : List Ob) (k42 : Nat → Int32 → Int32 → List Ob → Option (Int32 × List Ob)) (k144 : Nat → List Ob → Option (Int32 × List Ob)) : Option (Int32 × List Ob) :=
  k42 a0 a1 (a2 + 1) M
set_option maxHeartbeats 4000000 in
theorem ok_X11_shortestBy_138 {G : GT} {fu : Nat} {out : Int32 × List Ob} {a0 : Nat} {a1 : Int32} {a2 : Int32} {M : List Ob} {k42 : Nat → Int32 → Int32 → List Ob → Option (Int32 × List Ob)} {k144 : Nat → List Ob → Option (Int32 × List Ob)} (hk42 : ∀ (a0 : Nat) (a1 : Int32) (a2 : Int32) (M : List Ob), k42 a0 a1 a2 M = some out → X G t_X11_shortestBy [] 42 [some (.ref a0), some (.int a1), some (.int a2), none, none] [] M 0 0 (oI out)) (hk144 : ∀ (a0 : Nat) (M : List Ob), k144 a0 M = some out → X G t_X11_shortestBy [] 144 [some (.ref a0), none, none, none, none] [] M 0 0 (oI out)) (h : f_X11_shortestBy_138 fu a0 a1 a2 M k42 k144 = some out) : X G t_X11_shortestBy [] 138 [some (.ref a0), some (.int a1), some (.int a2), none, none] [] M 0 0 (oI out) := by
  unfold f_X11_shortestBy_138 at h
  refine X.iinc (v := (a2 + 1)) (L' := [some (.ref a0), some (.int a1), some (.int (a2 + 1)), none, none]) (pc' := 141) dX11_shortestBy_138 rfl rfl (congrArg (fun y => a2 + y) (show Int32.ofInt 1 = 1 by decide)) (Nat.le_of_ble_eq_true rfl) rfl ?_
  refine X.goto (pc' := 42) dX11_shortestBy_141 (by decide) ?_
  exact hk42 _ _ _ _ h
def f_X11_shortestBy_42b (fu : Nat) (a0 : Nat) (a1 : Int32) (a2 : Int32) (M : List Ob) (k42 : Nat → Int32 → Int32 → List Ob → Option (Int32 × List Ob)) (k144 : Nat → List Ob → Option (Int32 × List Ob)) : Option (Int32 × List Ob) :=
  (gP M a0 11 0).bind fun r1 =>
  (aI M r1 13 0).bind fun v4 =>
  if v4 ≤ a2 then (k144 a0 M)
  else (f_X11_shortestBy_54 fu (fun x5 x6 x7 M8 => f_X11_shortestBy_138 fu x5 x6 x7 M8 k42 k144) fu a0 a1 a2 0 M)
set_option maxHeartbeats 4000000 in
theorem ok_X11_shortestBy_42b {G : GT} {fu : Nat} {out : Int32 × List Ob} {a0 : Nat} {a1 : Int32} {a2 : Int32} {M : List Ob} {k42 : Nat → Int32 → Int32 → List Ob → Option (Int32 × List Ob)} {k144 : Nat → List Ob → Option (Int32 × List Ob)} (hk42 : ∀ (a0 : Nat) (a1 : Int32) (a2 : Int32) (M : List Ob), k42 a0 a1 a2 M = some out → X G t_X11_shortestBy [] 42 [some (.ref a0), some (.int a1), some (.int a2), none, none] [] M 0 0 (oI out)) (hk144 : ∀ (a0 : Nat) (M : List Ob), k144 a0 M = some out → X G t_X11_shortestBy [] 144 [some (.ref a0), none, none, none, none] [] M 0 0 (oI out)) (h : f_X11_shortestBy_42b fu a0 a1 a2 M k42 k144 = some out) : X G t_X11_shortestBy [] 42 [some (.ref a0), some (.int a1), some (.int a2), none, none] [] M 0 0 (oI out) := by
  unfold f_X11_shortestBy_42b at h
  refine X.iload_n (x := a2) (pc' := 43) dX11_shortestBy_42 rfl rfl rfl ?_
  refine X.aload_n (x := a0) (pc' := 44) dX11_shortestBy_43 rfl rfl rfl ?_
  obtain ⟨r1, e2, h⟩ := bindE h
  refine X.getf (pc' := 47) dX11_shortestBy_44 rfl fq_X11_7 (gP_spec e2) ?_
  refine X.iconst (v := 0) (pc' := 48) dX11_shortestBy_47 rfl (by decide) ?_
  obtain ⟨v4, e3, h⟩ := bindE h
  refine X.iald (pc' := 49) dX11_shortestBy_48 rfl e3 ?_
  refine X.icmp_ge (tgt := 144) (pc' := 52) dX11_shortestBy_49 (by decide) rfl (fun hc => ?_) (fun hc => ?_)
  · rw [if_pos hc] at h
    refine X.sub (L := [some (.ref a0), none, none, none, none]) ?_ (⟨rfl, trivial⟩)
    exact hk144 _ _ h
  · rw [if_neg hc] at h
    refine X.iconst (v := 0) (pc' := 53) dX11_shortestBy_52 rfl (by decide) ?_
    refine X.istore_n (L' := [some (.ref a0), some (.int a1), some (.int a2), some (.int 0), none]) (pc' := 54) dX11_shortestBy_53 rfl rfl (Nat.le_of_ble_eq_true rfl) rfl ?_
    refine ok_X11_shortestBy_54 ?_ fu _ _ _ _ _ h
    · intro x5 x6 x7 M8 h
      exact ok_X11_shortestBy_138 hk42 hk144 h
def f_X11_shortestBy_42 (fu : Nat) (k144 : Nat → List Ob → Option (Int32 × List Ob)) : Nat → Nat → Int32 → Int32 → List Ob → Option (Int32 × List Ob)
  | 0, _, _, _, _ => none
  | n + 1, a0, a1, a2, M => f_X11_shortestBy_42b fu a0 a1 a2 M (fun a0 a1 a2 M => f_X11_shortestBy_42 fu k144 n a0 a1 a2 M) k144
theorem ok_X11_shortestBy_42 {G : GT} {fu : Nat} {out : Int32 × List Ob} {k144 : Nat → List Ob → Option (Int32 × List Ob)} (hk144 : ∀ (a0 : Nat) (M : List Ob), k144 a0 M = some out → X G t_X11_shortestBy [] 144 [some (.ref a0), none, none, none, none] [] M 0 0 (oI out)) : ∀ (n : Nat) (a0 : Nat) (a1 : Int32) (a2 : Int32) (M : List Ob), f_X11_shortestBy_42 fu k144 n a0 a1 a2 M = some out → X G t_X11_shortestBy [] 42 [some (.ref a0), some (.int a1), some (.int a2), none, none] [] M 0 0 (oI out) := by
  intro n
  induction n with
  | zero =>
    intro a0 a1 a2 M h
    unfold f_X11_shortestBy_42 at h
    cases h
  | succ n ih =>
    intro a0 a1 a2 M h
    unfold f_X11_shortestBy_42 at h
    exact ok_X11_shortestBy_42b ih hk144 h
def f_X11_shortestBy_144 (fu : Nat) (a0 : Nat) (M : List Ob) : Option (Int32 × List Ob) :=
  (gP M a0 11 15).bind fun r1 =>
  (gP M a0 11 0).bind fun r3 =>
  (aI M r3 13 2).bind fun v6 =>
  (aI M r1 13 v6).bind fun v8 =>
  some (v8, M)
set_option maxHeartbeats 4000000 in
theorem ok_X11_shortestBy_144 {G : GT} {fu : Nat} {out : Int32 × List Ob} {a0 : Nat} {M : List Ob} (h : f_X11_shortestBy_144 fu a0 M = some out) : X G t_X11_shortestBy [] 144 [some (.ref a0), none, none, none, none] [] M 0 0 (oI out) := by
  unfold f_X11_shortestBy_144 at h
  refine X.aload_n (x := a0) (pc' := 145) dX11_shortestBy_144 rfl rfl rfl ?_
  obtain ⟨r1, e2, h⟩ := bindE h
  refine X.getf (pc' := 148) dX11_shortestBy_145 rfl fq_X11_26 (gP_spec e2) ?_
  refine X.aload_n (x := a0) (pc' := 149) dX11_shortestBy_148 rfl rfl rfl ?_
  obtain ⟨r3, e4, h⟩ := bindE h
  refine X.getf (pc' := 152) dX11_shortestBy_149 rfl fq_X11_7 (gP_spec e4) ?_
  refine X.iconst (v := 2) (pc' := 153) dX11_shortestBy_152 rfl (by decide) ?_
  obtain ⟨v6, e5, h⟩ := bindE h
  refine X.iald (pc' := 154) dX11_shortestBy_153 rfl e5 ?_
  obtain ⟨v8, e7, h⟩ := bindE h
  refine X.iald (pc' := 155) dX11_shortestBy_154 rfl e7 ?_
  cases h
  exact X.iret (ty := .int) dX11_shortestBy_155 rfl rfl (Nat.le_of_ble_eq_true rfl) (Nat.le_of_ble_eq_true rfl) rfl
def f_X11_shortestBy_40 (fu : Nat) (a0 : Nat) (a1 : Int32) (M : List Ob) : Option (Int32 × List Ob) :=
  f_X11_shortestBy_42 fu (fun x1 M2 => f_X11_shortestBy_144 fu x1 M2) fu a0 a1 1 M
set_option maxHeartbeats 4000000 in
theorem ok_X11_shortestBy_40 {G : GT} {fu : Nat} {out : Int32 × List Ob} {a0 : Nat} {a1 : Int32} {M : List Ob} (h : f_X11_shortestBy_40 fu a0 a1 M = some out) : X G t_X11_shortestBy [] 40 [some (.ref a0), some (.int a1), none, none, none] [] M 0 0 (oI out) := by
  unfold f_X11_shortestBy_40 at h
  refine X.iconst (v := 1) (pc' := 41) dX11_shortestBy_40 rfl (by decide) ?_
  refine X.istore_n (L' := [some (.ref a0), some (.int a1), some (.int 1), none, none]) (pc' := 42) dX11_shortestBy_41 rfl rfl (Nat.le_of_ble_eq_true rfl) rfl ?_
  refine ok_X11_shortestBy_42 ?_ fu _ _ _ _ h
  · intro x1 M2 h
    exact ok_X11_shortestBy_144 h
def f_X11_shortestBy (fu : Nat) (a0 : Nat) (a1 : Int32) (M : List Ob) : Option (Int32 × List Ob) :=
  f_X11_shortestBy_2 fu (fun x1 x2 M3 => f_X11_shortestBy_40 fu x1 x2 M3) fu a0 a1 0 M
set_option maxHeartbeats 4000000 in
theorem ok_X11_shortestBy {G : GT} {fu : Nat} {a0 : Nat} {a1 : Int32} {M : List Ob} {out : Int32 × List Ob} (h : f_X11_shortestBy fu a0 a1 M = some out) : Sp G t_X11_shortestBy [.ref a0, .int a1] M (oI out) := by
  refine Sp.of rfl (by decide +kernel) (cat_all rfl) (Nat.le_of_ble_eq_true rfl) ?_
  show X G t_X11_shortestBy [] 0 [some (.ref a0), some (.int a1), none, none, none] [] M 0 0 (oI out)
  unfold f_X11_shortestBy at h
  refine X.iconst (v := 0) (pc' := 1) dX11_shortestBy_0 rfl (by decide) ?_
  refine X.istore_n (L' := [some (.ref a0), some (.int a1), some (.int 0), none, none]) (pc' := 2) dX11_shortestBy_1 rfl rfl (Nat.le_of_ble_eq_true rfl) rfl ?_
  refine ok_X11_shortestBy_2 ?_ fu _ _ _ _ h
  · intro x1 x2 M3 h
    exact ok_X11_shortestBy_40 h
def f_X11_regretOf_110 (fu : Nat) (a0 : Nat) (a1 : Int32) (a2 : Int32) (a3 : Int32) (a4 : Int32) (M : List Ob) (k10 : Nat → Int32 → Int32 → Int32 → Int32 → List Ob → Option (Int32 × List Ob)) : Option (Int32 × List Ob) :=
  k10 a0 a1 a2 a3 (a4 + 1) M
set_option maxHeartbeats 4000000 in
theorem ok_X11_regretOf_110 {G : GT} {fu : Nat} {out : Int32 × List Ob} {a0 : Nat} {a1 : Int32} {a2 : Int32} {a3 : Int32} {a4 : Int32} {M : List Ob} {k10 : Nat → Int32 → Int32 → Int32 → Int32 → List Ob → Option (Int32 × List Ob)} (hk10 : ∀ (a0 : Nat) (a1 : Int32) (a2 : Int32) (a3 : Int32) (a4 : Int32) (M : List Ob), k10 a0 a1 a2 a3 a4 M = some out → X G t_X11_regretOf [] 10 [some (.ref a0), some (.int a1), some (.int a2), some (.int a3), some (.int a4), none] [] M 0 0 (oI out)) (h : f_X11_regretOf_110 fu a0 a1 a2 a3 a4 M k10 = some out) : X G t_X11_regretOf [] 110 [some (.ref a0), some (.int a1), some (.int a2), some (.int a3), some (.int a4), none] [] M 0 0 (oI out) := by
  unfold f_X11_regretOf_110 at h
  refine X.iinc (v := (a4 + 1)) (L' := [some (.ref a0), some (.int a1), some (.int a2), some (.int a3), some (.int (a4 + 1)), none]) (pc' := 113) dX11_regretOf_110 rfl rfl (congrArg (fun y => a4 + y) (show Int32.ofInt 1 = 1 by decide)) (Nat.le_of_ble_eq_true rfl) rfl ?_
  refine X.goto (pc' := 10) dX11_regretOf_113 (by decide) ?_
  exact hk10 _ _ _ _ _ _ h
def f_X11_regretOf_101 (fu : Nat) (a0 : Nat) (a1 : Int32) (a2 : Int32) (a4 : Int32) (a5 : Int32) (M : List Ob) (k10 : Nat → Int32 → Int32 → Int32 → Int32 → List Ob → Option (Int32 × List Ob)) : Option (Int32 × List Ob) :=
  (pF M a0 11 16 (.int a4)).bind fun M1 =>
  f_X11_regretOf_110 fu a0 a1 a2 a5 a4 M1 k10
set_option maxHeartbeats 4000000 in
theorem ok_X11_regretOf_101 {G : GT} {fu : Nat} {out : Int32 × List Ob} {a0 : Nat} {a1 : Int32} {a2 : Int32} {a4 : Int32} {a5 : Int32} {M : List Ob} {k10 : Nat → Int32 → Int32 → Int32 → Int32 → List Ob → Option (Int32 × List Ob)} (hk10 : ∀ (a0 : Nat) (a1 : Int32) (a2 : Int32) (a3 : Int32) (a4 : Int32) (M : List Ob), k10 a0 a1 a2 a3 a4 M = some out → X G t_X11_regretOf [] 10 [some (.ref a0), some (.int a1), some (.int a2), some (.int a3), some (.int a4), none] [] M 0 0 (oI out)) (h : f_X11_regretOf_101 fu a0 a1 a2 a4 a5 M k10 = some out) : X G t_X11_regretOf [] 101 [some (.ref a0), some (.int a1), some (.int a2), none, some (.int a4), some (.int a5)] [] M 0 0 (oI out) := by
  unfold f_X11_regretOf_101 at h
  refine X.iload (x := a5) (pc' := 103) dX11_regretOf_101 rfl rfl ?_
  refine X.istore_n (L' := [some (.ref a0), some (.int a1), some (.int a2), some (.int a5), some (.int a4), some (.int a5)]) (pc' := 104) dX11_regretOf_103 rfl rfl (Nat.le_of_ble_eq_true rfl) rfl ?_
  refine X.aload_n (x := a0) (pc' := 105) dX11_regretOf_104 rfl rfl rfl ?_
  refine X.iload (x := a4) (pc' := 107) dX11_regretOf_105 rfl rfl ?_
  obtain ⟨M1, e2, h⟩ := bindE h
  refine X.putf (pc' := 110) dX11_regretOf_107 rfl fq_X11_219 rfl rfl e2 ?_
  refine X.sub (L := [some (.ref a0), some (.int a1), some (.int a2), some (.int a5), some (.int a4), none]) ?_ (⟨rfl, ⟨rfl, ⟨rfl, ⟨rfl, ⟨rfl, trivial⟩⟩⟩⟩⟩)
  exact ok_X11_regretOf_110 hk10 h
def f_X11_regretOf_68 (fu : Nat) (a0 : Nat) (a1 : Int32) (a2 : Int32) (a3 : Int32) (a4 : Int32) (b0 : Int32) (b1 : Int32) (M : List Ob) (k10 : Nat → Int32 → Int32 → Int32 → Int32 → List Ob → Option (Int32 × List Ob)) : Option (Int32 × List Ob) :=
  if (b0 - b1) < a3 then (f_X11_regretOf_110 fu a0 a1 a2 a3 a4 M k10)
  else (if (b0 - b1) = a3 then (bd2 (f_X11_bits fu a4 M) fun v1 M2 =>
  (gI M2 a0 11 16).bind fun v5 =>
  bd2 (f_X11_bits fu v5 M2) fun v7 M8 =>
  if v1 < v7 then (f_X11_regretOf_101 fu a0 a1 a2 a4 (b0 - b1) M8 k10)
  else (f_X11_regretOf_110 fu a0 a1 a2 a3 a4 M8 k10))
  else (f_X11_regretOf_101 fu a0 a1 a2 a4 (b0 - b1) M k10))
set_option maxHeartbeats 4000000 in
theorem ok_X11_regretOf_68 {G : GT} {fu : Nat} {out : Int32 × List Ob} {a0 : Nat} {a1 : Int32} {a2 : Int32} {a3 : Int32} {a4 : Int32} {b0 : Int32} {b1 : Int32} {M : List Ob} {k10 : Nat → Int32 → Int32 → Int32 → Int32 → List Ob → Option (Int32 × List Ob)} (hk10 : ∀ (a0 : Nat) (a1 : Int32) (a2 : Int32) (a3 : Int32) (a4 : Int32) (M : List Ob), k10 a0 a1 a2 a3 a4 M = some out → X G t_X11_regretOf [] 10 [some (.ref a0), some (.int a1), some (.int a2), some (.int a3), some (.int a4), none] [] M 0 0 (oI out)) (h : f_X11_regretOf_68 fu a0 a1 a2 a3 a4 b0 b1 M k10 = some out) : X G t_X11_regretOf [] 68 [some (.ref a0), some (.int a1), some (.int a2), some (.int a3), some (.int a4), none] [.int b1, .int b0] M 0 0 (oI out) := by
  unfold f_X11_regretOf_68 at h
  refine X.isub (pc' := 69) dX11_regretOf_68 rfl ?_
  refine X.istore (L' := [some (.ref a0), some (.int a1), some (.int a2), some (.int a3), some (.int a4), some (.int (b0 - b1))]) (pc' := 71) dX11_regretOf_69 rfl (Nat.le_of_ble_eq_true rfl) rfl ?_
  refine X.iload (x := (b0 - b1)) (pc' := 73) dX11_regretOf_71 rfl rfl ?_
  refine X.iload_n (x := a3) (pc' := 74) dX11_regretOf_73 rfl rfl rfl ?_
  refine X.icmp_lt (tgt := 110) (pc' := 77) dX11_regretOf_74 (by decide) rfl (fun hc => ?_) (fun hc => ?_)
  · rw [if_pos hc] at h
    refine X.sub (L := [some (.ref a0), some (.int a1), some (.int a2), some (.int a3), some (.int a4), none]) ?_ (⟨rfl, ⟨rfl, ⟨rfl, ⟨rfl, ⟨rfl, trivial⟩⟩⟩⟩⟩)
    exact ok_X11_regretOf_110 hk10 h
  · rw [if_neg hc] at h
    refine X.iload (x := (b0 - b1)) (pc' := 79) dX11_regretOf_77 rfl rfl ?_
    refine X.iload_n (x := a3) (pc' := 80) dX11_regretOf_79 rfl rfl rfl ?_
    refine X.icmp_ne (tgt := 101) (pc' := 83) dX11_regretOf_80 (by decide) rfl (fun hc => ?_) (fun hc => ?_)
    · rw [if_neg hc] at h
      refine X.sub (L := [some (.ref a0), some (.int a1), some (.int a2), none, some (.int a4), some (.int (b0 - b1))]) ?_ (⟨rfl, ⟨rfl, ⟨rfl, ⟨rfl, ⟨rfl, trivial⟩⟩⟩⟩⟩)
      exact ok_X11_regretOf_101 hk10 h
    · rw [if_pos hc] at h
      refine X.iload (x := a4) (pc' := 85) dX11_regretOf_83 rfl rfl ?_
      obtain ⟨v1, M2, e3, h⟩ := bd2E h
      refine X.callS (v := some (.int v1)) (As := [.int a4]) (st := []) (M' := M2) (pc' := 88) dX11_regretOf_85 rfl cl_X11_222 ms_X11_bits ⟨⟨Nat.le_of_ble_eq_true rfl, Nat.le_of_ble_eq_true rfl⟩, Nat.le_of_ble_eq_true rfl, Nat.le_of_ble_eq_true rfl⟩ rfl (Nat.le_of_ble_eq_true rfl) (ok_X11_bits (G := zs G) e3) ?_
      show X G t_X11_regretOf [] 88 [some (.ref a0), some (.int a1), some (.int a2), some (.int a3), some (.int a4), some (.int (b0 - b1))] [.int v1] M2 0 0 _
      refine X.aload_n (x := a0) (pc' := 89) dX11_regretOf_88 rfl rfl rfl ?_
      obtain ⟨v5, e6, h⟩ := bindE h
      refine X.getf (pc' := 92) dX11_regretOf_89 rfl fq_X11_219 (gI_spec e6) ?_
      obtain ⟨v7, M8, e9, h⟩ := bd2E h
      refine X.callS (v := some (.int v7)) (As := [.int v5]) (st := [.int v1]) (M' := M8) (pc' := 95) dX11_regretOf_92 rfl cl_X11_222 ms_X11_bits ⟨⟨Nat.le_of_ble_eq_true rfl, Nat.le_of_ble_eq_true rfl⟩, Nat.le_of_ble_eq_true rfl, Nat.le_of_ble_eq_true rfl⟩ rfl (Nat.le_of_ble_eq_true rfl) (ok_X11_bits (G := zs G) e9) ?_
      show X G t_X11_regretOf [] 95 [some (.ref a0), some (.int a1), some (.int a2), some (.int a3), some (.int a4), some (.int (b0 - b1))] [.int v7, .int v1] M8 0 0 _
      refine X.icmp_lt (tgt := 101) (pc' := 98) dX11_regretOf_95 (by decide) rfl (fun hc => ?_) (fun hc => ?_)
      · rw [if_pos hc] at h
        refine X.sub (L := [some (.ref a0), some (.int a1), some (.int a2), none, some (.int a4), some (.int (b0 - b1))]) ?_ (⟨rfl, ⟨rfl, ⟨rfl, ⟨rfl, ⟨rfl, trivial⟩⟩⟩⟩⟩)
        exact ok_X11_regretOf_101 hk10 h
      · rw [if_neg hc] at h
        refine X.goto (pc' := 110) dX11_regretOf_98 (by decide) ?_
        refine X.sub (L := [some (.ref a0), some (.int a1), some (.int a2), some (.int a3), some (.int a4), none]) ?_ (⟨rfl, ⟨rfl, ⟨rfl, ⟨rfl, ⟨rfl, trivial⟩⟩⟩⟩⟩)
        exact ok_X11_regretOf_110 hk10 h
def f_X11_regretOf_10b (fu : Nat) (a0 : Nat) (a1 : Int32) (a2 : Int32) (a3 : Int32) (a4 : Int32) (M : List Ob) (k10 : Nat → Int32 → Int32 → Int32 → Int32 → List Ob → Option (Int32 × List Ob)) : Option (Int32 × List Ob) :=
  if a1 < a4 then (some (a3, M))
  else (if (a4 &&& (a1 ^^^ (-1))) = 0 then (bd2 (f_X11_bits fu a4 M) fun v1 M2 =>
  (gP M2 a0 11 0).bind fun r5 =>
  (aI M2 r5 13 3).bind fun v8 =>
  if v1 ≤ v8 then ((hasO M2 a0 11).bind fun _ =>
  bd2 (f_X11_costOf fu a0 a1 a4 M2) fun v9 M10 =>
  if a2 = 0 then ((hasO M10 a0 11).bind fun _ =>
  bd2 (f_X11_shortestBy fu a0 a4 M10) fun v13 M14 =>
  f_X11_regretOf_68 fu a0 a1 a2 a3 a4 v9 v13 M14 k10)
  else ((hasO M10 a0 11).bind fun _ =>
  bd2 (f_X11_leastTold fu a0 a4 M10) fun v17 M18 =>
  f_X11_regretOf_68 fu a0 a1 a2 a3 a4 v9 v17 M18 k10))
  else (f_X11_regretOf_110 fu a0 a1 a2 a3 a4 M2 k10))
  else (f_X11_regretOf_110 fu a0 a1 a2 a3 a4 M k10))
set_option maxHeartbeats 4000000 in
theorem ok_X11_regretOf_10b {G : GT} {fu : Nat} {out : Int32 × List Ob} {a0 : Nat} {a1 : Int32} {a2 : Int32} {a3 : Int32} {a4 : Int32} {M : List Ob} {k10 : Nat → Int32 → Int32 → Int32 → Int32 → List Ob → Option (Int32 × List Ob)} (hk10 : ∀ (a0 : Nat) (a1 : Int32) (a2 : Int32) (a3 : Int32) (a4 : Int32) (M : List Ob), k10 a0 a1 a2 a3 a4 M = some out → X G t_X11_regretOf [] 10 [some (.ref a0), some (.int a1), some (.int a2), some (.int a3), some (.int a4), none] [] M 0 0 (oI out)) (h : f_X11_regretOf_10b fu a0 a1 a2 a3 a4 M k10 = some out) : X G t_X11_regretOf [] 10 [some (.ref a0), some (.int a1), some (.int a2), some (.int a3), some (.int a4), none] [] M 0 0 (oI out) := by
  unfold f_X11_regretOf_10b at h
  refine X.iload (x := a4) (pc' := 12) dX11_regretOf_10 rfl rfl ?_
  refine X.iload_n (x := a1) (pc' := 13) dX11_regretOf_12 rfl rfl rfl ?_
  refine X.icmp_gt (tgt := 116) (pc' := 16) dX11_regretOf_13 (by decide) rfl (fun hc => ?_) (fun hc => ?_)
  · rw [if_pos hc] at h
    refine X.iload_n (x := a3) (pc' := 117) dX11_regretOf_116 rfl rfl rfl ?_
    cases h
    exact X.iret (ty := .int) dX11_regretOf_117 rfl rfl (Nat.le_of_ble_eq_true rfl) (Nat.le_of_ble_eq_true rfl) rfl
  · rw [if_neg hc] at h
    refine X.iload (x := a4) (pc' := 18) dX11_regretOf_16 rfl rfl ?_
    refine X.iload_n (x := a1) (pc' := 19) dX11_regretOf_18 rfl rfl rfl ?_
    refine X.iconst (v := (-1)) (pc' := 20) dX11_regretOf_19 rfl (by decide) ?_
    refine X.ixor (pc' := 21) dX11_regretOf_20 rfl ?_
    refine X.iand (pc' := 22) dX11_regretOf_21 rfl ?_
    refine X.if_ne (tgt := 110) (pc' := 25) dX11_regretOf_22 (by decide) rfl (fun hc => ?_) (fun hc => ?_)
    · rw [if_neg hc] at h
      exact ok_X11_regretOf_110 hk10 h
    · rw [if_pos hc] at h
      refine X.iload (x := a4) (pc' := 27) dX11_regretOf_25 rfl rfl ?_
      obtain ⟨v1, M2, e3, h⟩ := bd2E h
      refine X.callS (v := some (.int v1)) (As := [.int a4]) (st := []) (M' := M2) (pc' := 30) dX11_regretOf_27 rfl cl_X11_222 ms_X11_bits ⟨⟨Nat.le_of_ble_eq_true rfl, Nat.le_of_ble_eq_true rfl⟩, Nat.le_of_ble_eq_true rfl, Nat.le_of_ble_eq_true rfl⟩ rfl (Nat.le_of_ble_eq_true rfl) (ok_X11_bits (G := zs G) e3) ?_
      show X G t_X11_regretOf [] 30 [some (.ref a0), some (.int a1), some (.int a2), some (.int a3), some (.int a4), none] [.int v1] M2 0 0 _
      refine X.aload_n (x := a0) (pc' := 31) dX11_regretOf_30 rfl rfl rfl ?_
      obtain ⟨r5, e6, h⟩ := bindE h
      refine X.getf (pc' := 34) dX11_regretOf_31 rfl fq_X11_7 (gP_spec e6) ?_
      refine X.iconst (v := 3) (pc' := 35) dX11_regretOf_34 rfl (by decide) ?_
      obtain ⟨v8, e7, h⟩ := bindE h
      refine X.iald (pc' := 36) dX11_regretOf_35 rfl e7 ?_
      refine X.icmp_le (tgt := 42) (pc' := 39) dX11_regretOf_36 (by decide) rfl (fun hc => ?_) (fun hc => ?_)
      · rw [if_pos hc] at h
        refine X.aload_n (x := a0) (pc' := 43) dX11_regretOf_42 rfl rfl rfl ?_
        refine X.iload_n (x := a1) (pc' := 44) dX11_regretOf_43 rfl rfl rfl ?_
        refine X.iload (x := a4) (pc' := 46) dX11_regretOf_44 rfl rfl ?_
        obtain ⟨⟨⟩, e12, h⟩ := bindE h
        obtain ⟨v9, M10, e11, h⟩ := bd2E h
        refine X.callV (b := a0) (v := some (.int v9)) (As := [.int a1, .int a4]) (st := []) (M' := M10) (pc' := 49) dX11_regretOf_46 rfl cl_X11_212 mi_X11_costOf me_X11_costOf mr_X11_costOf e12 ⟨⟨Nat.le_of_ble_eq_true rfl, Nat.le_of_ble_eq_true rfl⟩, Nat.le_of_ble_eq_true rfl, Nat.le_of_ble_eq_true rfl⟩ rfl (Nat.le_of_ble_eq_true rfl) (ok_X11_costOf (G := zs G) e11) ?_
        show X G t_X11_regretOf [] 49 [some (.ref a0), some (.int a1), some (.int a2), some (.int a3), some (.int a4), none] [.int v9] M10 0 0 _
        refine X.iload_n (x := a2) (pc' := 50) dX11_regretOf_49 rfl rfl rfl ?_
        refine X.if_eq (tgt := 62) (pc' := 53) dX11_regretOf_50 (by decide) rfl (fun hc => ?_) (fun hc => ?_)
        · rw [if_pos hc] at h
          refine X.aload_n (x := a0) (pc' := 63) dX11_regretOf_62 rfl rfl rfl ?_
          refine X.iload (x := a4) (pc' := 65) dX11_regretOf_63 rfl rfl ?_
          obtain ⟨⟨⟩, e16, h⟩ := bindE h
          obtain ⟨v13, M14, e15, h⟩ := bd2E h
          refine X.callV (b := a0) (v := some (.int v13)) (As := [.int a4]) (st := [.int v9]) (M' := M14) (pc' := 68) dX11_regretOf_65 rfl cl_X11_228 mi_X11_shortestBy me_X11_shortestBy mr_X11_shortestBy e16 ⟨⟨Nat.le_of_ble_eq_true rfl, Nat.le_of_ble_eq_true rfl⟩, Nat.le_of_ble_eq_true rfl, Nat.le_of_ble_eq_true rfl⟩ rfl (Nat.le_of_ble_eq_true rfl) (ok_X11_shortestBy (G := zs G) e15) ?_
          show X G t_X11_regretOf [] 68 [some (.ref a0), some (.int a1), some (.int a2), some (.int a3), some (.int a4), none] [.int v13, .int v9] M14 0 0 _
          exact ok_X11_regretOf_68 hk10 h
        · rw [if_neg hc] at h
          refine X.aload_n (x := a0) (pc' := 54) dX11_regretOf_53 rfl rfl rfl ?_
          refine X.iload (x := a4) (pc' := 56) dX11_regretOf_54 rfl rfl ?_
          obtain ⟨⟨⟩, e20, h⟩ := bindE h
          obtain ⟨v17, M18, e19, h⟩ := bd2E h
          refine X.callV (b := a0) (v := some (.int v17)) (As := [.int a4]) (st := [.int v9]) (M' := M18) (pc' := 59) dX11_regretOf_56 rfl cl_X11_225 mi_X11_leastTold me_X11_leastTold mr_X11_leastTold e20 ⟨⟨Nat.le_of_ble_eq_true rfl, Nat.le_of_ble_eq_true rfl⟩, Nat.le_of_ble_eq_true rfl, Nat.le_of_ble_eq_true rfl⟩ rfl (Nat.le_of_ble_eq_true rfl) (ok_X11_leastTold (G := zs G) e19) ?_
          show X G t_X11_regretOf [] 59 [some (.ref a0), some (.int a1), some (.int a2), some (.int a3), some (.int a4), none] [.int v17, .int v9] M18 0 0 _
          refine X.goto (pc' := 68) dX11_regretOf_59 (by decide) ?_
          exact ok_X11_regretOf_68 hk10 h
      · rw [if_neg hc] at h
        refine X.goto (pc' := 110) dX11_regretOf_39 (by decide) ?_
        exact ok_X11_regretOf_110 hk10 h
def f_X11_regretOf_10 (fu : Nat) : Nat → Nat → Int32 → Int32 → Int32 → Int32 → List Ob → Option (Int32 × List Ob)
  | 0, _, _, _, _, _, _ => none
  | n + 1, a0, a1, a2, a3, a4, M => f_X11_regretOf_10b fu a0 a1 a2 a3 a4 M (fun a0 a1 a2 a3 a4 M => f_X11_regretOf_10 fu n a0 a1 a2 a3 a4 M)
theorem ok_X11_regretOf_10 {G : GT} {fu : Nat} {out : Int32 × List Ob} : ∀ (n : Nat) (a0 : Nat) (a1 : Int32) (a2 : Int32) (a3 : Int32) (a4 : Int32) (M : List Ob), f_X11_regretOf_10 fu n a0 a1 a2 a3 a4 M = some out → X G t_X11_regretOf [] 10 [some (.ref a0), some (.int a1), some (.int a2), some (.int a3), some (.int a4), none] [] M 0 0 (oI out) := by
  intro n
  induction n with
  | zero =>
    intro a0 a1 a2 a3 a4 M h
    unfold f_X11_regretOf_10 at h
    cases h
  | succ n ih =>
    intro a0 a1 a2 a3 a4 M h
    unfold f_X11_regretOf_10 at h
    exact ok_X11_regretOf_10b ih h
def f_X11_regretOf (fu : Nat) (a0 : Nat) (a1 : Int32) (a2 : Int32) (M : List Ob) : Option (Int32 × List Ob) :=
  (pF M a0 11 16 (.int 0)).bind fun M1 =>
  f_X11_regretOf_10 fu  fu a0 a1 a2 (-1) 0 M1
set_option maxHeartbeats 4000000 in
theorem ok_X11_regretOf {G : GT} {fu : Nat} {a0 : Nat} {a1 : Int32} {a2 : Int32} {M : List Ob} {out : Int32 × List Ob} (h : f_X11_regretOf fu a0 a1 a2 M = some out) : Sp G t_X11_regretOf [.ref a0, .int a1, .int a2] M (oI out) := by
  refine Sp.of rfl (by decide +kernel) (cat_all rfl) (Nat.le_of_ble_eq_true rfl) ?_
  show X G t_X11_regretOf [] 0 [some (.ref a0), some (.int a1), some (.int a2), none, none, none] [] M 0 0 (oI out)
  unfold f_X11_regretOf at h
  refine X.iconst (v := (-1)) (pc' := 1) dX11_regretOf_0 rfl (by decide) ?_
  refine X.istore_n (L' := [some (.ref a0), some (.int a1), some (.int a2), some (.int (-1)), none, none]) (pc' := 2) dX11_regretOf_1 rfl rfl (Nat.le_of_ble_eq_true rfl) rfl ?_
  refine X.aload_n (x := a0) (pc' := 3) dX11_regretOf_2 rfl rfl rfl ?_
  refine X.iconst (v := 0) (pc' := 4) dX11_regretOf_3 rfl (by decide) ?_
  obtain ⟨M1, e2, h⟩ := bindE h
  refine X.putf (pc' := 7) dX11_regretOf_4 rfl fq_X11_219 rfl rfl e2 ?_
  refine X.iconst (v := 0) (pc' := 8) dX11_regretOf_7 rfl (by decide) ?_
  refine X.istore (L' := [some (.ref a0), some (.int a1), some (.int a2), some (.int (-1)), some (.int 0), none]) (pc' := 10) dX11_regretOf_8 rfl (Nat.le_of_ble_eq_true rfl) rfl ?_
  refine ok_X11_regretOf_10  fu _ _ _ _ _ _ h
def f_X11_meets_6b (fu : Nat) (a0 : Nat) (a1 : Int32) (a2 : Int32) (a3 : Int32) (a4 : Int32) (a5 : Int32) (M : List Ob) (k6 : Nat → Int32 → Int32 → Int32 → Int32 → Int32 → List Ob → Option (Unit × List Ob)) (k32 : Nat → Int32 → Int32 → Int32 → Int32 → List Ob → Option (Unit × List Ob)) : Option (Unit × List Ob) :=
  if a3 ≤ a5 then (k32 a0 a1 a2 a3 a4 M)
  else ((gP M a0 11 17).bind fun r1 =>
  (aI M r1 13 a5).bind fun v4 =>
  k6 a0 a1 a2 a3 (a4 ||| (1 <<< (v4 &&& 31))) (a5 + 1) M)
set_option maxHeartbeats 4000000 in
theorem ok_X11_meets_6b {G : GT} {fu : Nat} {out : Unit × List Ob} {a0 : Nat} {a1 : Int32} {a2 : Int32} {a3 : Int32} {a4 : Int32} {a5 : Int32} {M : List Ob} {k6 : Nat → Int32 → Int32 → Int32 → Int32 → Int32 → List Ob → Option (Unit × List Ob)} {k32 : Nat → Int32 → Int32 → Int32 → Int32 → List Ob → Option (Unit × List Ob)} (hk6 : ∀ (a0 : Nat) (a1 : Int32) (a2 : Int32) (a3 : Int32) (a4 : Int32) (a5 : Int32) (M : List Ob), k6 a0 a1 a2 a3 a4 a5 M = some out → X G t_X11_meets [] 6 [some (.ref a0), some (.int a1), some (.int a2), some (.int a3), some (.int a4), some (.int a5), none, none, none, none] [] M 0 0 (oU out)) (hk32 : ∀ (a0 : Nat) (a1 : Int32) (a2 : Int32) (a3 : Int32) (a4 : Int32) (M : List Ob), k32 a0 a1 a2 a3 a4 M = some out → X G t_X11_meets [] 32 [some (.ref a0), some (.int a1), some (.int a2), some (.int a3), some (.int a4), none, none, none, none, none] [] M 0 0 (oU out)) (h : f_X11_meets_6b fu a0 a1 a2 a3 a4 a5 M k6 k32 = some out) : X G t_X11_meets [] 6 [some (.ref a0), some (.int a1), some (.int a2), some (.int a3), some (.int a4), some (.int a5), none, none, none, none] [] M 0 0 (oU out) := by
  unfold f_X11_meets_6b at h
  refine X.iload (x := a5) (pc' := 8) dX11_meets_6 rfl rfl ?_
  refine X.iload_n (x := a3) (pc' := 9) dX11_meets_8 rfl rfl rfl ?_
  refine X.icmp_ge (tgt := 32) (pc' := 12) dX11_meets_9 (by decide) rfl (fun hc => ?_) (fun hc => ?_)
  · rw [if_pos hc] at h
    refine X.sub (L := [some (.ref a0), some (.int a1), some (.int a2), some (.int a3), some (.int a4), none, none, none, none, none]) ?_ (⟨rfl, ⟨rfl, ⟨rfl, ⟨rfl, ⟨rfl, trivial⟩⟩⟩⟩⟩)
    exact hk32 _ _ _ _ _ _ h
  · rw [if_neg hc] at h
    refine X.iload (x := a4) (pc' := 14) dX11_meets_12 rfl rfl ?_
    refine X.iconst (v := 1) (pc' := 15) dX11_meets_14 rfl (by decide) ?_
    refine X.aload_n (x := a0) (pc' := 16) dX11_meets_15 rfl rfl rfl ?_
    obtain ⟨r1, e2, h⟩ := bindE h
    refine X.getf (pc' := 19) dX11_meets_16 rfl fq_X11_29 (gP_spec e2) ?_
    refine X.iload (x := a5) (pc' := 21) dX11_meets_19 rfl rfl ?_
    obtain ⟨v4, e3, h⟩ := bindE h
    refine X.iald (pc' := 22) dX11_meets_21 rfl e3 ?_
    refine X.ishl (pc' := 23) dX11_meets_22 rfl ?_
    refine X.ior (pc' := 24) dX11_meets_23 rfl ?_
    refine X.istore (L' := [some (.ref a0), some (.int a1), some (.int a2), some (.int a3), some (.int (a4 ||| (1 <<< (v4 &&& 31)))), some (.int a5), none, none, none, none]) (pc' := 26) dX11_meets_24 rfl (Nat.le_of_ble_eq_true rfl) rfl ?_
    refine X.iinc (v := (a5 + 1)) (L' := [some (.ref a0), some (.int a1), some (.int a2), some (.int a3), some (.int (a4 ||| (1 <<< (v4 &&& 31)))), some (.int (a5 + 1)), none, none, none, none]) (pc' := 29) dX11_meets_26 rfl rfl (congrArg (fun y => a5 + y) (show Int32.ofInt 1 = 1 by decide)) (Nat.le_of_ble_eq_true rfl) rfl ?_
    refine X.goto (pc' := 6) dX11_meets_29 (by decide) ?_
    exact hk6 _ _ _ _ _ _ _ h
def f_X11_meets_6 (fu : Nat) (k32 : Nat → Int32 → Int32 → Int32 → Int32 → List Ob → Option (Unit × List Ob)) : Nat → Nat → Int32 → Int32 → Int32 → Int32 → Int32 → List Ob → Option (Unit × List Ob)
  | 0, _, _, _, _, _, _, _ => none
  | n + 1, a0, a1, a2, a3, a4, a5, M => f_X11_meets_6b fu a0 a1 a2 a3 a4 a5 M (fun a0 a1 a2 a3 a4 a5 M => f_X11_meets_6 fu k32 n a0 a1 a2 a3 a4 a5 M) k32
theorem ok_X11_meets_6 {G : GT} {fu : Nat} {out : Unit × List Ob} {k32 : Nat → Int32 → Int32 → Int32 → Int32 → List Ob → Option (Unit × List Ob)} (hk32 : ∀ (a0 : Nat) (a1 : Int32) (a2 : Int32) (a3 : Int32) (a4 : Int32) (M : List Ob), k32 a0 a1 a2 a3 a4 M = some out → X G t_X11_meets [] 32 [some (.ref a0), some (.int a1), some (.int a2), some (.int a3), some (.int a4), none, none, none, none, none] [] M 0 0 (oU out)) : ∀ (n : Nat) (a0 : Nat) (a1 : Int32) (a2 : Int32) (a3 : Int32) (a4 : Int32) (a5 : Int32) (M : List Ob), f_X11_meets_6 fu k32 n a0 a1 a2 a3 a4 a5 M = some out → X G t_X11_meets [] 6 [some (.ref a0), some (.int a1), some (.int a2), some (.int a3), some (.int a4), some (.int a5), none, none, none, none] [] M 0 0 (oU out) := by
  intro n
  induction n with
  | zero =>
    intro a0 a1 a2 a3 a4 a5 M h
    unfold f_X11_meets_6 at h
    cases h
  | succ n ih =>
    intro a0 a1 a2 a3 a4 a5 M h
    unfold f_X11_meets_6 at h
    exact ok_X11_meets_6b ih hk32 h
def f_X11_meets_210b (fu : Nat) (a0 : Nat) (a3 : Int32) (a9 : Int32) (M : List Ob) (k210 : Nat → Int32 → Int32 → List Ob → Option (Unit × List Ob)) : Option (Unit × List Ob) :=
  if a3 ≤ a9 then (some ((), M))
  else ((gP M a0 11 18).bind fun r1 =>
  (gP M a0 11 17).bind fun r3 =>
  (aI M r3 13 a9).bind fun v6 =>
  (aSet M r1 13 a9 (.int v6)).bind fun M8 =>
  k210 a0 a3 (a9 + 1) M8)
set_option maxHeartbeats 4000000 in
theorem ok_X11_meets_210b {G : GT} {fu : Nat} {out : Unit × List Ob} {a0 : Nat} {a3 : Int32} {a9 : Int32} {M : List Ob} {k210 : Nat → Int32 → Int32 → List Ob → Option (Unit × List Ob)} (hk210 : ∀ (a0 : Nat) (a3 : Int32) (a9 : Int32) (M : List Ob), k210 a0 a3 a9 M = some out → X G t_X11_meets [] 210 [some (.ref a0), none, none, some (.int a3), none, none, none, none, none, some (.int a9)] [] M 0 0 (oU out)) (h : f_X11_meets_210b fu a0 a3 a9 M k210 = some out) : X G t_X11_meets [] 210 [some (.ref a0), none, none, some (.int a3), none, none, none, none, none, some (.int a9)] [] M 0 0 (oU out) := by
  unfold f_X11_meets_210b at h
  refine X.iload (x := a9) (pc' := 212) dX11_meets_210 rfl rfl ?_
  refine X.iload_n (x := a3) (pc' := 213) dX11_meets_212 rfl rfl rfl ?_
  refine X.icmp_ge (tgt := 236) (pc' := 216) dX11_meets_213 (by decide) rfl (fun hc => ?_) (fun hc => ?_)
  · rw [if_pos hc] at h
    cases h
    exact X.vret dX11_meets_236 rfl (Nat.le_of_ble_eq_true rfl) (Nat.le_of_ble_eq_true rfl) rfl
  · rw [if_neg hc] at h
    refine X.aload_n (x := a0) (pc' := 217) dX11_meets_216 rfl rfl rfl ?_
    obtain ⟨r1, e2, h⟩ := bindE h
    refine X.getf (pc' := 220) dX11_meets_217 rfl fq_X11_32 (gP_spec e2) ?_
    refine X.iload (x := a9) (pc' := 222) dX11_meets_220 rfl rfl ?_
    refine X.aload_n (x := a0) (pc' := 223) dX11_meets_222 rfl rfl rfl ?_
    obtain ⟨r3, e4, h⟩ := bindE h
    refine X.getf (pc' := 226) dX11_meets_223 rfl fq_X11_29 (gP_spec e4) ?_
    refine X.iload (x := a9) (pc' := 228) dX11_meets_226 rfl rfl ?_
    obtain ⟨v6, e5, h⟩ := bindE h
    refine X.iald (pc' := 229) dX11_meets_228 rfl e5 ?_
    obtain ⟨M8, e7, h⟩ := bindE h
    refine X.iast (pc' := 230) dX11_meets_229 rfl e7 ?_
    refine X.iinc (v := (a9 + 1)) (L' := [some (.ref a0), none, none, some (.int a3), none, none, none, none, none, some (.int (a9 + 1))]) (pc' := 233) dX11_meets_230 rfl rfl (congrArg (fun y => a9 + y) (show Int32.ofInt 1 = 1 by decide)) (Nat.le_of_ble_eq_true rfl) rfl ?_
    refine X.goto (pc' := 210) dX11_meets_233 (by decide) ?_
    exact hk210 _ _ _ _ h
def f_X11_meets_210 (fu : Nat) : Nat → Nat → Int32 → Int32 → List Ob → Option (Unit × List Ob)
  | 0, _, _, _, _ => none
  | n + 1, a0, a3, a9, M => f_X11_meets_210b fu a0 a3 a9 M (fun a0 a3 a9 M => f_X11_meets_210 fu n a0 a3 a9 M)
theorem ok_X11_meets_210 {G : GT} {fu : Nat} {out : Unit × List Ob} : ∀ (n : Nat) (a0 : Nat) (a3 : Int32) (a9 : Int32) (M : List Ob), f_X11_meets_210 fu n a0 a3 a9 M = some out → X G t_X11_meets [] 210 [some (.ref a0), none, none, some (.int a3), none, none, none, none, none, some (.int a9)] [] M 0 0 (oU out) := by
  intro n
  induction n with
  | zero =>
    intro a0 a3 a9 M h
    unfold f_X11_meets_210 at h
    cases h
  | succ n ih =>
    intro a0 a3 a9 M h
    unfold f_X11_meets_210 at h
    exact ok_X11_meets_210b ih h
def f_X11_meets_179 (fu : Nat) (a0 : Nat) (a3 : Int32) (a5 : Int32) (a6 : Int32) (a7 : Int32) (M : List Ob) : Option (Unit × List Ob) :=
  (pF M a0 11 19 (.int 1)).bind fun M1 =>
  (pF M1 a0 11 21 (.int a5)).bind fun M3 =>
  (pF M3 a0 11 22 (.int a6)).bind fun M5 =>
  (pF M5 a0 11 23 (.int a7)).bind fun M7 =>
  (pF M7 a0 11 20 (.int a3)).bind fun M9 =>
  f_X11_meets_210 fu  fu a0 a3 0 M9
set_option maxHeartbeats 4000000 in
theorem ok_X11_meets_179 {G : GT} {fu : Nat} {out : Unit × List Ob} {a0 : Nat} {a3 : Int32} {a5 : Int32} {a6 : Int32} {a7 : Int32} {M : List Ob} (h : f_X11_meets_179 fu a0 a3 a5 a6 a7 M = some out) : X G t_X11_meets [] 179 [some (.ref a0), none, none, some (.int a3), none, some (.int a5), some (.int a6), some (.int a7), none, none] [] M 0 0 (oU out) := by
  unfold f_X11_meets_179 at h
  refine X.aload_n (x := a0) (pc' := 180) dX11_meets_179 rfl rfl rfl ?_
  refine X.iconst (v := 1) (pc' := 181) dX11_meets_180 rfl (by decide) ?_
  obtain ⟨M1, e2, h⟩ := bindE h
  refine X.putf (pc' := 184) dX11_meets_181 rfl fq_X11_247 rfl rfl e2 ?_
  refine X.aload_n (x := a0) (pc' := 185) dX11_meets_184 rfl rfl rfl ?_
  refine X.iload (x := a5) (pc' := 187) dX11_meets_185 rfl rfl ?_
  obtain ⟨M3, e4, h⟩ := bindE h
  refine X.putf (pc' := 190) dX11_meets_187 rfl fq_X11_250 rfl rfl e4 ?_
  refine X.aload_n (x := a0) (pc' := 191) dX11_meets_190 rfl rfl rfl ?_
  refine X.iload (x := a6) (pc' := 193) dX11_meets_191 rfl rfl ?_
  obtain ⟨M5, e6, h⟩ := bindE h
  refine X.putf (pc' := 196) dX11_meets_193 rfl fq_X11_253 rfl rfl e6 ?_
  refine X.aload_n (x := a0) (pc' := 197) dX11_meets_196 rfl rfl rfl ?_
  refine X.iload (x := a7) (pc' := 199) dX11_meets_197 rfl rfl ?_
  obtain ⟨M7, e8, h⟩ := bindE h
  refine X.putf (pc' := 202) dX11_meets_199 rfl fq_X11_256 rfl rfl e8 ?_
  refine X.aload_n (x := a0) (pc' := 203) dX11_meets_202 rfl rfl rfl ?_
  refine X.iload_n (x := a3) (pc' := 204) dX11_meets_203 rfl rfl rfl ?_
  obtain ⟨M9, e10, h⟩ := bindE h
  refine X.putf (pc' := 207) dX11_meets_204 rfl fq_X11_259 rfl rfl e10 ?_
  refine X.iconst (v := 0) (pc' := 208) dX11_meets_207 rfl (by decide) ?_
  refine X.istore (L' := [some (.ref a0), none, none, some (.int a3), none, some (.int a5), some (.int a6), some (.int a7), none, some (.int 0)]) (pc' := 210) dX11_meets_208 rfl (Nat.le_of_ble_eq_true rfl) rfl ?_
  refine X.sub (L := [some (.ref a0), none, none, some (.int a3), none, none, none, none, none, some (.int 0)]) ?_ (⟨rfl, ⟨rfl, ⟨rfl, trivial⟩⟩⟩)
  refine ok_X11_meets_210  fu _ _ _ _ h
def f_X11_meets_164 (fu : Nat) (a0 : Nat) (a3 : Int32) (a5 : Int32) (a6 : Int32) (a7 : Int32) (b0 : Int32) (M : List Ob) : Option (Unit × List Ob) :=
  (gI M a0 11 19).bind fun v1 =>
  if v1 ≤ 0 then (f_X11_meets_179 fu a0 a3 a5 a6 a7 M)
  else (if b0 < 0 then (f_X11_meets_179 fu a0 a3 a5 a6 a7 M)
  else (some ((), M)))
set_option maxHeartbeats 4000000 in
theorem ok_X11_meets_164 {G : GT} {fu : Nat} {out : Unit × List Ob} {a0 : Nat} {a3 : Int32} {a5 : Int32} {a6 : Int32} {a7 : Int32} {b0 : Int32} {M : List Ob} (h : f_X11_meets_164 fu a0 a3 a5 a6 a7 b0 M = some out) : X G t_X11_meets [] 164 [some (.ref a0), none, none, some (.int a3), none, some (.int a5), some (.int a6), some (.int a7), none, none] [.int b0] M 0 0 (oU out) := by
  unfold f_X11_meets_164 at h
  refine X.istore (L' := [some (.ref a0), none, none, some (.int a3), none, some (.int a5), some (.int a6), some (.int a7), some (.int b0), none]) (pc' := 166) dX11_meets_164 rfl (Nat.le_of_ble_eq_true rfl) rfl ?_
  refine X.aload_n (x := a0) (pc' := 167) dX11_meets_166 rfl rfl rfl ?_
  obtain ⟨v1, e2, h⟩ := bindE h
  refine X.getf (pc' := 170) dX11_meets_167 rfl fq_X11_247 (gI_spec e2) ?_
  refine X.if_le (tgt := 179) (pc' := 173) dX11_meets_170 (by decide) rfl (fun hc => ?_) (fun hc => ?_)
  · rw [if_pos hc] at h
    refine X.sub (L := [some (.ref a0), none, none, some (.int a3), none, some (.int a5), some (.int a6), some (.int a7), none, none]) ?_ (⟨rfl, ⟨rfl, ⟨rfl, ⟨rfl, ⟨rfl, trivial⟩⟩⟩⟩⟩)
    exact ok_X11_meets_179 h
  · rw [if_neg hc] at h
    refine X.iload (x := b0) (pc' := 175) dX11_meets_173 rfl rfl ?_
    refine X.if_lt (tgt := 179) (pc' := 178) dX11_meets_175 (by decide) rfl (fun hc => ?_) (fun hc => ?_)
    · rw [if_pos hc] at h
      refine X.sub (L := [some (.ref a0), none, none, some (.int a3), none, some (.int a5), some (.int a6), some (.int a7), none, none]) ?_ (⟨rfl, ⟨rfl, ⟨rfl, ⟨rfl, ⟨rfl, trivial⟩⟩⟩⟩⟩)
      exact ok_X11_meets_179 h
    · rw [if_neg hc] at h
      cases h
      exact X.vret dX11_meets_178 rfl (Nat.le_of_ble_eq_true rfl) (Nat.le_of_ble_eq_true rfl) rfl
def f_X11_meets_146 (fu : Nat) (a0 : Nat) (a3 : Int32) (a5 : Int32) (a6 : Int32) (a7 : Int32) (b0 : Int32) (M : List Ob) : Option (Unit × List Ob) :=
  if b0 = 0 then ((gI M a0 11 20).bind fun v1 =>
  f_X11_meets_164 fu a0 a3 a5 a6 a7 (a3 - v1) M)
  else (f_X11_meets_164 fu a0 a3 a5 a6 a7 b0 M)
set_option maxHeartbeats 4000000 in
theorem ok_X11_meets_146 {G : GT} {fu : Nat} {out : Unit × List Ob} {a0 : Nat} {a3 : Int32} {a5 : Int32} {a6 : Int32} {a7 : Int32} {b0 : Int32} {M : List Ob} (h : f_X11_meets_146 fu a0 a3 a5 a6 a7 b0 M = some out) : X G t_X11_meets [] 146 [some (.ref a0), none, none, some (.int a3), none, some (.int a5), some (.int a6), some (.int a7), none, none] [.int b0] M 0 0 (oU out) := by
  unfold f_X11_meets_146 at h
  refine X.istore (L' := [some (.ref a0), none, none, some (.int a3), none, some (.int a5), some (.int a6), some (.int a7), some (.int b0), none]) (pc' := 148) dX11_meets_146 rfl (Nat.le_of_ble_eq_true rfl) rfl ?_
  refine X.iload (x := b0) (pc' := 150) dX11_meets_148 rfl rfl ?_
  refine X.if_ne (tgt := 162) (pc' := 153) dX11_meets_150 (by decide) rfl (fun hc => ?_) (fun hc => ?_)
  · rw [if_neg hc] at h
    refine X.iload (x := b0) (pc' := 164) dX11_meets_162 rfl rfl ?_
    refine X.sub (L := [some (.ref a0), none, none, some (.int a3), none, some (.int a5), some (.int a6), some (.int a7), none, none]) ?_ (⟨rfl, ⟨rfl, ⟨rfl, ⟨rfl, ⟨rfl, trivial⟩⟩⟩⟩⟩)
    exact ok_X11_meets_164 h
  · rw [if_pos hc] at h
    refine X.iload_n (x := a3) (pc' := 154) dX11_meets_153 rfl rfl rfl ?_
    refine X.aload_n (x := a0) (pc' := 155) dX11_meets_154 rfl rfl rfl ?_
    obtain ⟨v1, e2, h⟩ := bindE h
    refine X.getf (pc' := 158) dX11_meets_155 rfl fq_X11_259 (gI_spec e2) ?_
    refine X.isub (pc' := 159) dX11_meets_158 rfl ?_
    refine X.goto (pc' := 164) dX11_meets_159 (by decide) ?_
    refine X.sub (L := [some (.ref a0), none, none, some (.int a3), none, some (.int a5), some (.int a6), some (.int a7), none, none]) ?_ (⟨rfl, ⟨rfl, ⟨rfl, ⟨rfl, ⟨rfl, trivial⟩⟩⟩⟩⟩)
    exact ok_X11_meets_164 h
def f_X11_meets_127 (fu : Nat) (a0 : Nat) (a3 : Int32) (a5 : Int32) (a6 : Int32) (a7 : Int32) (b0 : Int32) (M : List Ob) : Option (Unit × List Ob) :=
  if b0 = 0 then ((gI M a0 11 23).bind fun v1 =>
  f_X11_meets_146 fu a0 a3 a5 a6 a7 (a7 - v1) M)
  else (f_X11_meets_146 fu a0 a3 a5 a6 a7 b0 M)
set_option maxHeartbeats 4000000 in
theorem ok_X11_meets_127 {G : GT} {fu : Nat} {out : Unit × List Ob} {a0 : Nat} {a3 : Int32} {a5 : Int32} {a6 : Int32} {a7 : Int32} {b0 : Int32} {M : List Ob} (h : f_X11_meets_127 fu a0 a3 a5 a6 a7 b0 M = some out) : X G t_X11_meets [] 127 [some (.ref a0), none, none, some (.int a3), none, some (.int a5), some (.int a6), some (.int a7), none, none] [.int b0] M 0 0 (oU out) := by
  unfold f_X11_meets_127 at h
  refine X.istore (L' := [some (.ref a0), none, none, some (.int a3), none, some (.int a5), some (.int a6), some (.int a7), some (.int b0), none]) (pc' := 129) dX11_meets_127 rfl (Nat.le_of_ble_eq_true rfl) rfl ?_
  refine X.iload (x := b0) (pc' := 131) dX11_meets_129 rfl rfl ?_
  refine X.if_ne (tgt := 144) (pc' := 134) dX11_meets_131 (by decide) rfl (fun hc => ?_) (fun hc => ?_)
  · rw [if_neg hc] at h
    refine X.iload (x := b0) (pc' := 146) dX11_meets_144 rfl rfl ?_
    refine X.sub (L := [some (.ref a0), none, none, some (.int a3), none, some (.int a5), some (.int a6), some (.int a7), none, none]) ?_ (⟨rfl, ⟨rfl, ⟨rfl, ⟨rfl, ⟨rfl, trivial⟩⟩⟩⟩⟩)
    exact ok_X11_meets_146 h
  · rw [if_pos hc] at h
    refine X.iload (x := a7) (pc' := 136) dX11_meets_134 rfl rfl ?_
    refine X.aload_n (x := a0) (pc' := 137) dX11_meets_136 rfl rfl rfl ?_
    obtain ⟨v1, e2, h⟩ := bindE h
    refine X.getf (pc' := 140) dX11_meets_137 rfl fq_X11_256 (gI_spec e2) ?_
    refine X.isub (pc' := 141) dX11_meets_140 rfl ?_
    refine X.goto (pc' := 146) dX11_meets_141 (by decide) ?_
    refine X.sub (L := [some (.ref a0), none, none, some (.int a3), none, some (.int a5), some (.int a6), some (.int a7), none, none]) ?_ (⟨rfl, ⟨rfl, ⟨rfl, ⟨rfl, ⟨rfl, trivial⟩⟩⟩⟩⟩)
    exact ok_X11_meets_146 h
def f_X11_meets_82 (fu : Nat) (a0 : Nat) (a3 : Int32) (a4 : Int32) (b0 : Int32) (M : List Ob) : Option (Unit × List Ob) :=
  (hasO M a0 11).bind fun _ =>
  bd2 (f_X11_worstOf fu a0 a4 M) fun v1 M2 =>
  (hasO M2 a0 11).bind fun _ =>
  bd2 (f_X11_costOf fu a0 a4 0 M2) fun v5 M6 =>
  (gI M6 a0 11 21).bind fun v9 =>
  if (b0 - v9) = 0 then ((gI M6 a0 11 22).bind fun v11 =>
  f_X11_meets_127 fu a0 a3 b0 v1 v5 (v1 - v11) M6)
  else (f_X11_meets_127 fu a0 a3 b0 v1 v5 (b0 - v9) M6)
set_option maxHeartbeats 4000000 in
theorem ok_X11_meets_82 {G : GT} {fu : Nat} {out : Unit × List Ob} {a0 : Nat} {a3 : Int32} {a4 : Int32} {b0 : Int32} {M : List Ob} (h : f_X11_meets_82 fu a0 a3 a4 b0 M = some out) : X G t_X11_meets [] 82 [some (.ref a0), none, none, some (.int a3), some (.int a4), none, none, none, none, none] [.int b0] M 0 0 (oU out) := by
  unfold f_X11_meets_82 at h
  refine X.istore (L' := [some (.ref a0), none, none, some (.int a3), some (.int a4), some (.int b0), none, none, none, none]) (pc' := 84) dX11_meets_82 rfl (Nat.le_of_ble_eq_true rfl) rfl ?_
  refine X.aload_n (x := a0) (pc' := 85) dX11_meets_84 rfl rfl rfl ?_
  refine X.iload (x := a4) (pc' := 87) dX11_meets_85 rfl rfl ?_
  obtain ⟨⟨⟩, e4, h⟩ := bindE h
  obtain ⟨v1, M2, e3, h⟩ := bd2E h
  refine X.callV (b := a0) (v := some (.int v1)) (As := [.int a4]) (st := []) (M' := M2) (pc' := 90) dX11_meets_87 rfl cl_X11_231 mi_X11_worstOf me_X11_worstOf mr_X11_worstOf e4 ⟨⟨Nat.le_of_ble_eq_true rfl, Nat.le_of_ble_eq_true rfl⟩, Nat.le_of_ble_eq_true rfl, Nat.le_of_ble_eq_true rfl⟩ rfl (Nat.le_of_ble_eq_true rfl) (ok_X11_worstOf (G := zs G) e3) ?_
  show X G t_X11_meets [] 90 [some (.ref a0), none, none, some (.int a3), some (.int a4), some (.int b0), none, none, none, none] [.int v1] M2 0 0 _
  refine X.istore (L' := [some (.ref a0), none, none, some (.int a3), some (.int a4), some (.int b0), some (.int v1), none, none, none]) (pc' := 92) dX11_meets_90 rfl (Nat.le_of_ble_eq_true rfl) rfl ?_
  refine X.aload_n (x := a0) (pc' := 93) dX11_meets_92 rfl rfl rfl ?_
  refine X.iload (x := a4) (pc' := 95) dX11_meets_93 rfl rfl ?_
  refine X.iconst (v := 0) (pc' := 96) dX11_meets_95 rfl (by decide) ?_
  obtain ⟨⟨⟩, e8, h⟩ := bindE h
  obtain ⟨v5, M6, e7, h⟩ := bd2E h
  refine X.callV (b := a0) (v := some (.int v5)) (As := [.int a4, .int 0]) (st := []) (M' := M6) (pc' := 99) dX11_meets_96 rfl cl_X11_212 mi_X11_costOf me_X11_costOf mr_X11_costOf e8 ⟨⟨Nat.le_of_ble_eq_true rfl, Nat.le_of_ble_eq_true rfl⟩, Nat.le_of_ble_eq_true rfl, Nat.le_of_ble_eq_true rfl⟩ rfl (Nat.le_of_ble_eq_true rfl) (ok_X11_costOf (G := zs G) e7) ?_
  show X G t_X11_meets [] 99 [some (.ref a0), none, none, some (.int a3), some (.int a4), some (.int b0), some (.int v1), none, none, none] [.int v5] M6 0 0 _
  refine X.istore (L' := [some (.ref a0), none, none, some (.int a3), some (.int a4), some (.int b0), some (.int v1), some (.int v5), none, none]) (pc' := 101) dX11_meets_99 rfl (Nat.le_of_ble_eq_true rfl) rfl ?_
  refine X.iload (x := b0) (pc' := 103) dX11_meets_101 rfl rfl ?_
  refine X.aload_n (x := a0) (pc' := 104) dX11_meets_103 rfl rfl rfl ?_
  obtain ⟨v9, e10, h⟩ := bindE h
  refine X.getf (pc' := 107) dX11_meets_104 rfl fq_X11_250 (gI_spec e10) ?_
  refine X.isub (pc' := 108) dX11_meets_107 rfl ?_
  refine X.istore (L' := [some (.ref a0), none, none, some (.int a3), some (.int a4), some (.int b0), some (.int v1), some (.int v5), some (.int (b0 - v9)), none]) (pc' := 110) dX11_meets_108 rfl (Nat.le_of_ble_eq_true rfl) rfl ?_
  refine X.iload (x := (b0 - v9)) (pc' := 112) dX11_meets_110 rfl rfl ?_
  refine X.if_ne (tgt := 125) (pc' := 115) dX11_meets_112 (by decide) rfl (fun hc => ?_) (fun hc => ?_)
  · rw [if_neg hc] at h
    refine X.iload (x := (b0 - v9)) (pc' := 127) dX11_meets_125 rfl rfl ?_
    refine X.sub (L := [some (.ref a0), none, none, some (.int a3), none, some (.int b0), some (.int v1), some (.int v5), none, none]) ?_ (⟨rfl, ⟨rfl, ⟨rfl, ⟨rfl, ⟨rfl, trivial⟩⟩⟩⟩⟩)
    exact ok_X11_meets_127 h
  · rw [if_pos hc] at h
    refine X.iload (x := v1) (pc' := 117) dX11_meets_115 rfl rfl ?_
    refine X.aload_n (x := a0) (pc' := 118) dX11_meets_117 rfl rfl rfl ?_
    obtain ⟨v11, e12, h⟩ := bindE h
    refine X.getf (pc' := 121) dX11_meets_118 rfl fq_X11_253 (gI_spec e12) ?_
    refine X.isub (pc' := 122) dX11_meets_121 rfl ?_
    refine X.goto (pc' := 127) dX11_meets_122 (by decide) ?_
    refine X.sub (L := [some (.ref a0), none, none, some (.int a3), none, some (.int b0), some (.int v1), some (.int v5), none, none]) ?_ (⟨rfl, ⟨rfl, ⟨rfl, ⟨rfl, ⟨rfl, trivial⟩⟩⟩⟩⟩)
    exact ok_X11_meets_127 h
def f_X11_meets_61 (fu : Nat) (b0 : Nat) (b1 : Int32) (b2 : Int32) (M : List Ob) : Option (Unit × List Ob) :=
  (pF M b0 11 19 (.int (b1 + b2))).bind fun M1 =>
  some ((), M1)
set_option maxHeartbeats 4000000 in
theorem ok_X11_meets_61 {G : GT} {fu : Nat} {out : Unit × List Ob} {b0 : Nat} {b1 : Int32} {b2 : Int32} {M : List Ob} (h : f_X11_meets_61 fu b0 b1 b2 M = some out) : X G t_X11_meets [] 61 [none, none, none, none, none, none, none, none, none, none] [.int b2, .int b1, .ref b0] M 0 0 (oU out) := by
  unfold f_X11_meets_61 at h
  refine X.iadd (pc' := 62) dX11_meets_61 rfl ?_
  obtain ⟨M1, e2, h⟩ := bindE h
  refine X.putf (pc' := 65) dX11_meets_62 rfl fq_X11_247 rfl rfl e2 ?_
  cases h
  exact X.vret dX11_meets_65 rfl (Nat.le_of_ble_eq_true rfl) (Nat.le_of_ble_eq_true rfl) rfl
def f_X11_meets_56 (fu : Nat) (b0 : Nat) (b1 : Int32) (M : List Ob) : Option (Unit × List Ob) :=
  f_X11_meets_61 fu b0 b1 1 M
set_option maxHeartbeats 4000000 in
theorem ok_X11_meets_56 {G : GT} {fu : Nat} {out : Unit × List Ob} {b0 : Nat} {b1 : Int32} {M : List Ob} (h : f_X11_meets_56 fu b0 b1 M = some out) : X G t_X11_meets [] 56 [none, none, none, none, none, none, none, none, none, none] [.int b1, .ref b0] M 0 0 (oU out) := by
  unfold f_X11_meets_56 at h
  refine X.iconst (v := 1) (pc' := 57) dX11_meets_56 rfl (by decide) ?_
  refine X.goto (pc' := 61) dX11_meets_57 (by decide) ?_
  exact ok_X11_meets_61 h
def f_X11_meets_32 (fu : Nat) (a0 : Nat) (a1 : Int32) (a2 : Int32) (a3 : Int32) (a4 : Int32) (M : List Ob) : Option (Unit × List Ob) :=
  if 1 < a1 then (if a1 = 3 then ((hasO M a0 11).bind fun _ =>
  bd2 (f_X11_regretOf fu a0 a4 0 M) fun v1 M2 =>
  f_X11_meets_82 fu a0 a3 a4 v1 M2)
  else (f_X11_meets_82 fu a0 a3 a4 0 M))
  else ((gI M a0 11 19).bind fun v5 =>
  if a1 = 0 then (f_X11_meets_56 fu a0 v5 M)
  else ((hasO M a0 11).bind fun _ =>
  bd2 (f_X11_worstOf fu a0 a4 M) fun v7 M8 =>
  if a2 < v7 then (f_X11_meets_61 fu a0 v5 0 M8)
  else (f_X11_meets_56 fu a0 v5 M8)))
set_option maxHeartbeats 4000000 in
theorem ok_X11_meets_32 {G : GT} {fu : Nat} {out : Unit × List Ob} {a0 : Nat} {a1 : Int32} {a2 : Int32} {a3 : Int32} {a4 : Int32} {M : List Ob} (h : f_X11_meets_32 fu a0 a1 a2 a3 a4 M = some out) : X G t_X11_meets [] 32 [some (.ref a0), some (.int a1), some (.int a2), some (.int a3), some (.int a4), none, none, none, none, none] [] M 0 0 (oU out) := by
  unfold f_X11_meets_32 at h
  refine X.iload_n (x := a1) (pc' := 33) dX11_meets_32 rfl rfl rfl ?_
  refine X.iconst (v := 1) (pc' := 34) dX11_meets_33 rfl (by decide) ?_
  refine X.icmp_gt (tgt := 66) (pc' := 37) dX11_meets_34 (by decide) rfl (fun hc => ?_) (fun hc => ?_)
  · rw [if_pos hc] at h
    refine X.iload_n (x := a1) (pc' := 67) dX11_meets_66 rfl rfl rfl ?_
    refine X.iconst (v := 3) (pc' := 68) dX11_meets_67 rfl (by decide) ?_
    refine X.icmp_ne (tgt := 81) (pc' := 71) dX11_meets_68 (by decide) rfl (fun hc => ?_) (fun hc => ?_)
    · rw [if_neg hc] at h
      refine X.iconst (v := 0) (pc' := 82) dX11_meets_81 rfl (by decide) ?_
      refine X.sub (L := [some (.ref a0), none, none, some (.int a3), some (.int a4), none, none, none, none, none]) ?_ (⟨rfl, ⟨rfl, ⟨rfl, trivial⟩⟩⟩)
      exact ok_X11_meets_82 h
    · rw [if_pos hc] at h
      refine X.aload_n (x := a0) (pc' := 72) dX11_meets_71 rfl rfl rfl ?_
      refine X.iload (x := a4) (pc' := 74) dX11_meets_72 rfl rfl ?_
      refine X.iconst (v := 0) (pc' := 75) dX11_meets_74 rfl (by decide) ?_
      obtain ⟨⟨⟩, e4, h⟩ := bindE h
      obtain ⟨v1, M2, e3, h⟩ := bd2E h
      refine X.callV (b := a0) (v := some (.int v1)) (As := [.int a4, .int 0]) (st := []) (M' := M2) (pc' := 78) dX11_meets_75 rfl cl_X11_234 mi_X11_regretOf me_X11_regretOf mr_X11_regretOf e4 ⟨⟨Nat.le_of_ble_eq_true rfl, Nat.le_of_ble_eq_true rfl⟩, Nat.le_of_ble_eq_true rfl, Nat.le_of_ble_eq_true rfl⟩ rfl (Nat.le_of_ble_eq_true rfl) (ok_X11_regretOf (G := zs G) e3) ?_
      show X G t_X11_meets [] 78 [some (.ref a0), some (.int a1), some (.int a2), some (.int a3), some (.int a4), none, none, none, none, none] [.int v1] M2 0 0 _
      refine X.goto (pc' := 82) dX11_meets_78 (by decide) ?_
      refine X.sub (L := [some (.ref a0), none, none, some (.int a3), some (.int a4), none, none, none, none, none]) ?_ (⟨rfl, ⟨rfl, ⟨rfl, trivial⟩⟩⟩)
      exact ok_X11_meets_82 h
  · rw [if_neg hc] at h
    refine X.aload_n (x := a0) (pc' := 38) dX11_meets_37 rfl rfl rfl ?_
    refine X.dup (pc' := 39) dX11_meets_38 rfl rfl ?_
    obtain ⟨v5, e6, h⟩ := bindE h
    refine X.getf (pc' := 42) dX11_meets_39 rfl fq_X11_247 (gI_spec e6) ?_
    refine X.iload_n (x := a1) (pc' := 43) dX11_meets_42 rfl rfl rfl ?_
    refine X.if_eq (tgt := 56) (pc' := 46) dX11_meets_43 (by decide) rfl (fun hc => ?_) (fun hc => ?_)
    · rw [if_pos hc] at h
      refine X.sub (L := [none, none, none, none, none, none, none, none, none, none]) ?_ (trivial)
      exact ok_X11_meets_56 h
    · rw [if_neg hc] at h
      refine X.aload_n (x := a0) (pc' := 47) dX11_meets_46 rfl rfl rfl ?_
      refine X.iload (x := a4) (pc' := 49) dX11_meets_47 rfl rfl ?_
      obtain ⟨⟨⟩, e10, h⟩ := bindE h
      obtain ⟨v7, M8, e9, h⟩ := bd2E h
      refine X.callV (b := a0) (v := some (.int v7)) (As := [.int a4]) (st := [.int v5, .ref a0]) (M' := M8) (pc' := 52) dX11_meets_49 rfl cl_X11_231 mi_X11_worstOf me_X11_worstOf mr_X11_worstOf e10 ⟨⟨Nat.le_of_ble_eq_true rfl, Nat.le_of_ble_eq_true rfl⟩, Nat.le_of_ble_eq_true rfl, Nat.le_of_ble_eq_true rfl⟩ rfl (Nat.le_of_ble_eq_true rfl) (ok_X11_worstOf (G := zs G) e9) ?_
      show X G t_X11_meets [] 52 [some (.ref a0), some (.int a1), some (.int a2), some (.int a3), some (.int a4), none, none, none, none, none] [.int v7, .int v5, .ref a0] M8 0 0 _
      refine X.iload_n (x := a2) (pc' := 53) dX11_meets_52 rfl rfl rfl ?_
      refine X.icmp_gt (tgt := 60) (pc' := 56) dX11_meets_53 (by decide) rfl (fun hc => ?_) (fun hc => ?_)
      · rw [if_pos hc] at h
        refine X.iconst (v := 0) (pc' := 61) dX11_meets_60 rfl (by decide) ?_
        refine X.sub (L := [none, none, none, none, none, none, none, none, none, none]) ?_ (trivial)
        exact ok_X11_meets_61 h
      · rw [if_neg hc] at h
        refine X.sub (L := [none, none, none, none, none, none, none, none, none, none]) ?_ (trivial)
        exact ok_X11_meets_56 h
def f_X11_meets (fu : Nat) (a0 : Nat) (a1 : Int32) (a2 : Int32) (a3 : Int32) (M : List Ob) : Option (Unit × List Ob) :=
  f_X11_meets_6 fu (fun x1 x2 x3 x4 x5 M6 => f_X11_meets_32 fu x1 x2 x3 x4 x5 M6) fu a0 a1 a2 a3 0 0 M
set_option maxHeartbeats 4000000 in
theorem ok_X11_meets {G : GT} {fu : Nat} {a0 : Nat} {a1 : Int32} {a2 : Int32} {a3 : Int32} {M : List Ob} {out : Unit × List Ob} (h : f_X11_meets fu a0 a1 a2 a3 M = some out) : Sp G t_X11_meets [.ref a0, .int a1, .int a2, .int a3] M (oU out) := by
  refine Sp.of rfl (by decide +kernel) (cat_all rfl) (Nat.le_of_ble_eq_true rfl) ?_
  show X G t_X11_meets [] 0 [some (.ref a0), some (.int a1), some (.int a2), some (.int a3), none, none, none, none, none, none] [] M 0 0 (oU out)
  unfold f_X11_meets at h
  refine X.iconst (v := 0) (pc' := 1) dX11_meets_0 rfl (by decide) ?_
  refine X.istore (L' := [some (.ref a0), some (.int a1), some (.int a2), some (.int a3), some (.int 0), none, none, none, none, none]) (pc' := 3) dX11_meets_1 rfl (Nat.le_of_ble_eq_true rfl) rfl ?_
  refine X.iconst (v := 0) (pc' := 4) dX11_meets_3 rfl (by decide) ?_
  refine X.istore (L' := [some (.ref a0), some (.int a1), some (.int a2), some (.int a3), some (.int 0), some (.int 0), none, none, none, none]) (pc' := 6) dX11_meets_4 rfl (Nat.le_of_ble_eq_true rfl) rfl ?_
  refine ok_X11_meets_6 ?_ fu _ _ _ _ _ _ _ h
  · intro x1 x2 x3 x4 x5 M6 h
    exact ok_X11_meets_32 h
theorem fit_walks (r : Nat) : Fit (t_X11_walks (r + 1)) (t_X11_walks r) 0 0 := ⟨⟨by show 6 + r + 1 ≤ 6 + (r + 1); omega, by show 8 + (7 + 11) + (145 + 26 * r) ≤ 145 + 26 * (r + 1); omega⟩, Nat.le_refl _, Nat.le_refl _⟩
def f_X11_walks_100 (fu : Nat) (rec : Nat → Int32 → Int32 → Int32 → Int32 → Int32 → List Ob → Option (Unit × List Ob)) (a0 : Nat) (a1 : Int32) (a2 : Int32) (a3 : Int32) (a4 : Int32) (a5 : Int32) (a6 : Int32) (M : List Ob) (k22 : Nat → Int32 → Int32 → Int32 → Int32 → Int32 → Int32 → List Ob → Option (Unit × List Ob)) : Option (Unit × List Ob) :=
  k22 a0 a1 a2 a3 a4 a5 (a6 + 1) M
set_option maxHeartbeats 4000000 in
theorem ok_X11_walks_100 {G : GT} {fu : Nat} {r9 : Nat} {rec : Nat → Int32 → Int32 → Int32 → Int32 → Int32 → List Ob → Option (Unit × List Ob)} {out : Unit × List Ob} (hrec : ∀ (c0 : Nat) (c1 : Int32) (c2 : Int32) (c3 : Int32) (c4 : Int32) (c5 : Int32) (M : List Ob) (x : Unit × List Ob), rec c0 c1 c2 c3 c4 c5 M = some x → Sp (zs G) (t_X11_walks r9) [.ref c0, .int c1, .int c2, .int c3, .int c4, .int c5] M (oU x)) {a0 : Nat} {a1 : Int32} {a2 : Int32} {a3 : Int32} {a4 : Int32} {a5 : Int32} {a6 : Int32} {M : List Ob} {k22 : Nat → Int32 → Int32 → Int32 → Int32 → Int32 → Int32 → List Ob → Option (Unit × List Ob)} (hk22 : ∀ (a0 : Nat) (a1 : Int32) (a2 : Int32) (a3 : Int32) (a4 : Int32) (a5 : Int32) (a6 : Int32) (M : List Ob), k22 a0 a1 a2 a3 a4 a5 a6 M = some out → X G (t_X11_walks (r9 + 1)) [] 22 [some (.ref a0), some (.int a1), some (.int a2), some (.int a3), some (.int a4), some (.int a5), some (.int a6)] [] M 0 0 (oU out)) (h : f_X11_walks_100 fu rec a0 a1 a2 a3 a4 a5 a6 M k22 = some out) : X G (t_X11_walks (r9 + 1)) [] 100 [some (.ref a0), some (.int a1), some (.int a2), some (.int a3), some (.int a4), some (.int a5), some (.int a6)] [] M 0 0 (oU out) := by
  unfold f_X11_walks_100 at h
  refine X.iinc (v := (a6 + 1)) (L' := [some (.ref a0), some (.int a1), some (.int a2), some (.int a3), some (.int a4), some (.int a5), some (.int (a6 + 1))]) (pc' := 103) dX11_walks_100 rfl rfl (congrArg (fun y => a6 + y) (show Int32.ofInt 1 = 1 by decide)) (Nat.le_of_ble_eq_true rfl) rfl ?_
  refine X.goto (pc' := 22) dX11_walks_103 (by decide) ?_
  exact hk22 _ _ _ _ _ _ _ _ h
def f_X11_walks_22b (fu : Nat) (rec : Nat → Int32 → Int32 → Int32 → Int32 → Int32 → List Ob → Option (Unit × List Ob)) (a0 : Nat) (a1 : Int32) (a2 : Int32) (a3 : Int32) (a4 : Int32) (a5 : Int32) (a6 : Int32) (M : List Ob) (k22 : Nat → Int32 → Int32 → Int32 → Int32 → Int32 → Int32 → List Ob → Option (Unit × List Ob)) : Option (Unit × List Ob) :=
  (gP M a0 11 0).bind fun r1 =>
  (aI M r1 13 4).bind fun v4 =>
  if v4 ≤ a6 then (some ((), M))
  else ((hasO M a0 11).bind fun _ =>
  bd2 (f_X11_of fu a0 a6 0 M) fun v5 M6 =>
  if v5 = a3 then ((hasO M6 a0 11).bind fun _ =>
  bd2 (f_X11_of fu a0 a6 1 M6) fun v9 M10 =>
  bd2 (f_X11_has fu a4 v9 M10) fun v13 M14 =>
  if v13 = 0 then ((gP M14 a0 11 17).bind fun r17 =>
  (aSet M14 r17 13 a5 (.int a6)).bind fun M20 =>
  (hasO M20 a0 11).bind fun _ =>
  bd2 (f_X11_of fu a0 a6 1 M20) fun v21 M22 =>
  (hasO M22 a0 11).bind fun _ =>
  bd2 (f_X11_of fu a0 a6 1 M22) fun v25 M26 =>
  (hasO M26 a0 11).bind fun _ =>
  bd2 (rec a0 a1 a2 v21 (a4 ||| (1 <<< (v25 &&& 31))) (a5 + 1) M26) fun _ M30 =>
  f_X11_walks_100 fu rec a0 a1 a2 a3 a4 a5 a6 M30 k22)
  else (f_X11_walks_100 fu rec a0 a1 a2 a3 a4 a5 a6 M14 k22))
  else (f_X11_walks_100 fu rec a0 a1 a2 a3 a4 a5 a6 M6 k22))
set_option maxHeartbeats 4000000 in
theorem ok_X11_walks_22b {G : GT} {fu : Nat} {r9 : Nat} {rec : Nat → Int32 → Int32 → Int32 → Int32 → Int32 → List Ob → Option (Unit × List Ob)} {out : Unit × List Ob} (hrec : ∀ (c0 : Nat) (c1 : Int32) (c2 : Int32) (c3 : Int32) (c4 : Int32) (c5 : Int32) (M : List Ob) (x : Unit × List Ob), rec c0 c1 c2 c3 c4 c5 M = some x → Sp (zs G) (t_X11_walks r9) [.ref c0, .int c1, .int c2, .int c3, .int c4, .int c5] M (oU x)) {a0 : Nat} {a1 : Int32} {a2 : Int32} {a3 : Int32} {a4 : Int32} {a5 : Int32} {a6 : Int32} {M : List Ob} {k22 : Nat → Int32 → Int32 → Int32 → Int32 → Int32 → Int32 → List Ob → Option (Unit × List Ob)} (hk22 : ∀ (a0 : Nat) (a1 : Int32) (a2 : Int32) (a3 : Int32) (a4 : Int32) (a5 : Int32) (a6 : Int32) (M : List Ob), k22 a0 a1 a2 a3 a4 a5 a6 M = some out → X G (t_X11_walks (r9 + 1)) [] 22 [some (.ref a0), some (.int a1), some (.int a2), some (.int a3), some (.int a4), some (.int a5), some (.int a6)] [] M 0 0 (oU out)) (h : f_X11_walks_22b fu rec a0 a1 a2 a3 a4 a5 a6 M k22 = some out) : X G (t_X11_walks (r9 + 1)) [] 22 [some (.ref a0), some (.int a1), some (.int a2), some (.int a3), some (.int a4), some (.int a5), some (.int a6)] [] M 0 0 (oU out) := by
  unfold f_X11_walks_22b at h
  refine X.iload (x := a6) (pc' := 24) dX11_walks_22 rfl rfl ?_
  refine X.aload_n (x := a0) (pc' := 25) dX11_walks_24 rfl rfl rfl ?_
  obtain ⟨r1, e2, h⟩ := bindE h
  refine X.getf (pc' := 28) dX11_walks_25 rfl fq_X11_7 (gP_spec e2) ?_
  refine X.iconst (v := 4) (pc' := 29) dX11_walks_28 rfl (by decide) ?_
  obtain ⟨v4, e3, h⟩ := bindE h
  refine X.iald (pc' := 30) dX11_walks_29 rfl e3 ?_
  refine X.icmp_ge (tgt := 106) (pc' := 33) dX11_walks_30 (by decide) rfl (fun hc => ?_) (fun hc => ?_)
  · rw [if_pos hc] at h
    cases h
    exact X.vret dX11_walks_106 rfl (Nat.le_of_ble_eq_true rfl) (Nat.le_of_ble_eq_true rfl) rfl
  · rw [if_neg hc] at h
    refine X.aload_n (x := a0) (pc' := 34) dX11_walks_33 rfl rfl rfl ?_
    refine X.iload (x := a6) (pc' := 36) dX11_walks_34 rfl rfl ?_
    refine X.iconst (v := 0) (pc' := 37) dX11_walks_36 rfl (by decide) ?_
    obtain ⟨⟨⟩, e8, h⟩ := bindE h
    obtain ⟨v5, M6, e7, h⟩ := bd2E h
    refine X.callV (b := a0) (v := some (.int v5)) (As := [.int a6, .int 0]) (st := []) (M' := M6) (pc' := 40) dX11_walks_37 rfl cl_X11_190 mi_X11_of me_X11_of mr_X11_of e8 ⟨⟨(by show 1 + 1 ≤ 6 + (r9 + 1); omega), (by show 8 + (3 + 11) + 22 ≤ 145 + 26 * (r9 + 1); omega)⟩, Nat.le_of_ble_eq_true rfl, Nat.le_of_ble_eq_true rfl⟩ rfl (Nat.le_of_ble_eq_true rfl) (ok_X11_of (G := zs G) e7) ?_
    show X G (t_X11_walks (r9 + 1)) [] 40 [some (.ref a0), some (.int a1), some (.int a2), some (.int a3), some (.int a4), some (.int a5), some (.int a6)] [.int v5] M6 0 0 _
    refine X.iload_n (x := a3) (pc' := 41) dX11_walks_40 rfl rfl rfl ?_
    refine X.icmp_ne (tgt := 100) (pc' := 44) dX11_walks_41 (by decide) rfl (fun hc => ?_) (fun hc => ?_)
    · rw [if_neg hc] at h
      exact ok_X11_walks_100 hrec hk22 h
    · rw [if_pos hc] at h
      refine X.iload (x := a4) (pc' := 46) dX11_walks_44 rfl rfl ?_
      refine X.aload_n (x := a0) (pc' := 47) dX11_walks_46 rfl rfl rfl ?_
      refine X.iload (x := a6) (pc' := 49) dX11_walks_47 rfl rfl ?_
      refine X.iconst (v := 1) (pc' := 50) dX11_walks_49 rfl (by decide) ?_
      obtain ⟨⟨⟩, e12, h⟩ := bindE h
      obtain ⟨v9, M10, e11, h⟩ := bd2E h
      refine X.callV (b := a0) (v := some (.int v9)) (As := [.int a6, .int 1]) (st := [.int a4]) (M' := M10) (pc' := 53) dX11_walks_50 rfl cl_X11_190 mi_X11_of me_X11_of mr_X11_of e12 ⟨⟨(by show 1 + 1 ≤ 6 + (r9 + 1); omega), (by show 8 + (3 + 11) + 22 ≤ 145 + 26 * (r9 + 1); omega)⟩, Nat.le_of_ble_eq_true rfl, Nat.le_of_ble_eq_true rfl⟩ rfl (Nat.le_of_ble_eq_true rfl) (ok_X11_of (G := zs G) e11) ?_
      show X G (t_X11_walks (r9 + 1)) [] 53 [some (.ref a0), some (.int a1), some (.int a2), some (.int a3), some (.int a4), some (.int a5), some (.int a6)] [.int v9, .int a4] M10 0 0 _
      obtain ⟨v13, M14, e15, h⟩ := bd2E h
      refine X.callS (v := some (.int v13)) (As := [.int a4, .int v9]) (st := []) (M' := M14) (pc' := 56) dX11_walks_53 rfl cl_X11_59 ms_X11_has ⟨⟨(by show 0 + 1 ≤ 6 + (r9 + 1); omega), (by show 8 + (2 + 11) + 0 ≤ 145 + 26 * (r9 + 1); omega)⟩, Nat.le_of_ble_eq_true rfl, Nat.le_of_ble_eq_true rfl⟩ rfl (Nat.le_of_ble_eq_true rfl) (ok_X11_has (G := zs G) e15) ?_
      show X G (t_X11_walks (r9 + 1)) [] 56 [some (.ref a0), some (.int a1), some (.int a2), some (.int a3), some (.int a4), some (.int a5), some (.int a6)] [.int v13] M14 0 0 _
      refine X.if_eq (tgt := 62) (pc' := 59) dX11_walks_56 (by decide) rfl (fun hc => ?_) (fun hc => ?_)
      · rw [if_pos hc] at h
        refine X.aload_n (x := a0) (pc' := 63) dX11_walks_62 rfl rfl rfl ?_
        obtain ⟨r17, e18, h⟩ := bindE h
        refine X.getf (pc' := 66) dX11_walks_63 rfl fq_X11_29 (gP_spec e18) ?_
        refine X.iload (x := a5) (pc' := 68) dX11_walks_66 rfl rfl ?_
        refine X.iload (x := a6) (pc' := 70) dX11_walks_68 rfl rfl ?_
        obtain ⟨M20, e19, h⟩ := bindE h
        refine X.iast (pc' := 71) dX11_walks_70 rfl e19 ?_
        refine X.aload_n (x := a0) (pc' := 72) dX11_walks_71 rfl rfl rfl ?_
        refine X.iload_n (x := a1) (pc' := 73) dX11_walks_72 rfl rfl rfl ?_
        refine X.iload_n (x := a2) (pc' := 74) dX11_walks_73 rfl rfl rfl ?_
        refine X.aload_n (x := a0) (pc' := 75) dX11_walks_74 rfl rfl rfl ?_
        refine X.iload (x := a6) (pc' := 77) dX11_walks_75 rfl rfl ?_
        refine X.iconst (v := 1) (pc' := 78) dX11_walks_77 rfl (by decide) ?_
        obtain ⟨⟨⟩, e24, h⟩ := bindE h
        obtain ⟨v21, M22, e23, h⟩ := bd2E h
        refine X.callV (b := a0) (v := some (.int v21)) (As := [.int a6, .int 1]) (st := [.int a2, .int a1, .ref a0]) (M' := M22) (pc' := 81) dX11_walks_78 rfl cl_X11_190 mi_X11_of me_X11_of mr_X11_of e24 ⟨⟨(by show 1 + 1 ≤ 6 + (r9 + 1); omega), (by show 8 + (3 + 11) + 22 ≤ 145 + 26 * (r9 + 1); omega)⟩, Nat.le_of_ble_eq_true rfl, Nat.le_of_ble_eq_true rfl⟩ rfl (Nat.le_of_ble_eq_true rfl) (ok_X11_of (G := zs G) e23) ?_
        show X G (t_X11_walks (r9 + 1)) [] 81 [some (.ref a0), some (.int a1), some (.int a2), some (.int a3), some (.int a4), some (.int a5), some (.int a6)] [.int v21, .int a2, .int a1, .ref a0] M22 0 0 _
        refine X.iload (x := a4) (pc' := 83) dX11_walks_81 rfl rfl ?_
        refine X.iconst (v := 1) (pc' := 84) dX11_walks_83 rfl (by decide) ?_
        refine X.aload_n (x := a0) (pc' := 85) dX11_walks_84 rfl rfl rfl ?_
        refine X.iload (x := a6) (pc' := 87) dX11_walks_85 rfl rfl ?_
        refine X.iconst (v := 1) (pc' := 88) dX11_walks_87 rfl (by decide) ?_
        obtain ⟨⟨⟩, e28, h⟩ := bindE h
        obtain ⟨v25, M26, e27, h⟩ := bd2E h
        refine X.callV (b := a0) (v := some (.int v25)) (As := [.int a6, .int 1]) (st := [.int 1, .int a4, .int v21, .int a2, .int a1, .ref a0]) (M' := M26) (pc' := 91) dX11_walks_88 rfl cl_X11_190 mi_X11_of me_X11_of mr_X11_of e28 ⟨⟨(by show 1 + 1 ≤ 6 + (r9 + 1); omega), (by show 8 + (3 + 11) + 22 ≤ 145 + 26 * (r9 + 1); omega)⟩, Nat.le_of_ble_eq_true rfl, Nat.le_of_ble_eq_true rfl⟩ rfl (Nat.le_of_ble_eq_true rfl) (ok_X11_of (G := zs G) e27) ?_
        show X G (t_X11_walks (r9 + 1)) [] 91 [some (.ref a0), some (.int a1), some (.int a2), some (.int a3), some (.int a4), some (.int a5), some (.int a6)] [.int v25, .int 1, .int a4, .int v21, .int a2, .int a1, .ref a0] M26 0 0 _
        refine X.ishl (pc' := 92) dX11_walks_91 rfl ?_
        refine X.ior (pc' := 93) dX11_walks_92 rfl ?_
        refine X.iload (x := a5) (pc' := 95) dX11_walks_93 rfl rfl ?_
        refine X.iconst (v := 1) (pc' := 96) dX11_walks_95 rfl (by decide) ?_
        refine X.iadd (pc' := 97) dX11_walks_96 rfl ?_
        obtain ⟨⟨⟩, e32, h⟩ := bindE h
        obtain ⟨r29, M30, e31, h⟩ := bd2E h
        refine X.callV (b := a0) (v := none) (As := [.int a1, .int a2, .int v21, .int (a4 ||| (1 <<< (v25 &&& 31))), .int (a5 + 1)]) (st := []) (M' := M30) (pc' := 100) dX11_walks_97 rfl cl_X11_265 mi_X11_walks me_X11_walks mr_X11_walks e32 (fit_walks r9) rfl (Nat.le_of_ble_eq_true rfl) (hrec _ _ _ _ _ _ _ _ e31) ?_
        show X G (t_X11_walks (r9 + 1)) [] 100 [some (.ref a0), some (.int a1), some (.int a2), some (.int a3), some (.int a4), some (.int a5), some (.int a6)] [] M30 0 0 _
        exact ok_X11_walks_100 hrec hk22 h
      · rw [if_neg hc] at h
        refine X.goto (pc' := 100) dX11_walks_59 (by decide) ?_
        exact ok_X11_walks_100 hrec hk22 h
def f_X11_walks_22 (fu : Nat) (rec : Nat → Int32 → Int32 → Int32 → Int32 → Int32 → List Ob → Option (Unit × List Ob)) : Nat → Nat → Int32 → Int32 → Int32 → Int32 → Int32 → Int32 → List Ob → Option (Unit × List Ob)
  | 0, _, _, _, _, _, _, _, _ => none
  | n + 1, a0, a1, a2, a3, a4, a5, a6, M => f_X11_walks_22b fu rec a0 a1 a2 a3 a4 a5 a6 M (fun a0 a1 a2 a3 a4 a5 a6 M => f_X11_walks_22 fu rec n a0 a1 a2 a3 a4 a5 a6 M)
theorem ok_X11_walks_22 {G : GT} {fu : Nat} {r9 : Nat} {rec : Nat → Int32 → Int32 → Int32 → Int32 → Int32 → List Ob → Option (Unit × List Ob)} {out : Unit × List Ob} (hrec : ∀ (c0 : Nat) (c1 : Int32) (c2 : Int32) (c3 : Int32) (c4 : Int32) (c5 : Int32) (M : List Ob) (x : Unit × List Ob), rec c0 c1 c2 c3 c4 c5 M = some x → Sp (zs G) (t_X11_walks r9) [.ref c0, .int c1, .int c2, .int c3, .int c4, .int c5] M (oU x)) : ∀ (n : Nat) (a0 : Nat) (a1 : Int32) (a2 : Int32) (a3 : Int32) (a4 : Int32) (a5 : Int32) (a6 : Int32) (M : List Ob), f_X11_walks_22 fu rec n a0 a1 a2 a3 a4 a5 a6 M = some out → X G (t_X11_walks (r9 + 1)) [] 22 [some (.ref a0), some (.int a1), some (.int a2), some (.int a3), some (.int a4), some (.int a5), some (.int a6)] [] M 0 0 (oU out) := by
  intro n
  induction n with
  | zero =>
    intro a0 a1 a2 a3 a4 a5 a6 M h
    unfold f_X11_walks_22 at h
    cases h
  | succ n ih =>
    intro a0 a1 a2 a3 a4 a5 a6 M h
    unfold f_X11_walks_22 at h
    exact ok_X11_walks_22b hrec ih h
def f_X11_walks_0 (fu : Nat) (rec : Nat → Int32 → Int32 → Int32 → Int32 → Int32 → List Ob → Option (Unit × List Ob)) (a0 : Nat) (a1 : Int32) (a2 : Int32) (a3 : Int32) (a4 : Int32) (a5 : Int32) (M : List Ob) : Option (Unit × List Ob) :=
  (gP M a0 11 0).bind fun r1 =>
  (aI M r1 13 2).bind fun v4 =>
  if a3 = v4 then ((hasO M a0 11).bind fun _ =>
  bd2 (f_X11_meets fu a0 a1 a2 a5 M) fun _ M6 =>
  some ((), M6))
  else (f_X11_walks_22 fu rec  fu a0 a1 a2 a3 a4 a5 0 M)
set_option maxHeartbeats 4000000 in
theorem ok_X11_walks_0 {G : GT} {fu : Nat} {r9 : Nat} {rec : Nat → Int32 → Int32 → Int32 → Int32 → Int32 → List Ob → Option (Unit × List Ob)} {out : Unit × List Ob} (hrec : ∀ (c0 : Nat) (c1 : Int32) (c2 : Int32) (c3 : Int32) (c4 : Int32) (c5 : Int32) (M : List Ob) (x : Unit × List Ob), rec c0 c1 c2 c3 c4 c5 M = some x → Sp (zs G) (t_X11_walks r9) [.ref c0, .int c1, .int c2, .int c3, .int c4, .int c5] M (oU x)) {a0 : Nat} {a1 : Int32} {a2 : Int32} {a3 : Int32} {a4 : Int32} {a5 : Int32} {M : List Ob} (h : f_X11_walks_0 fu rec a0 a1 a2 a3 a4 a5 M = some out) : X G (t_X11_walks (r9 + 1)) [] 0 [some (.ref a0), some (.int a1), some (.int a2), some (.int a3), some (.int a4), some (.int a5), none] [] M 0 0 (oU out) := by
  unfold f_X11_walks_0 at h
  refine X.iload_n (x := a3) (pc' := 1) dX11_walks_0 rfl rfl rfl ?_
  refine X.aload_n (x := a0) (pc' := 2) dX11_walks_1 rfl rfl rfl ?_
  obtain ⟨r1, e2, h⟩ := bindE h
  refine X.getf (pc' := 5) dX11_walks_2 rfl fq_X11_7 (gP_spec e2) ?_
  refine X.iconst (v := 2) (pc' := 6) dX11_walks_5 rfl (by decide) ?_
  obtain ⟨v4, e3, h⟩ := bindE h
  refine X.iald (pc' := 7) dX11_walks_6 rfl e3 ?_
  refine X.icmp_ne (tgt := 19) (pc' := 10) dX11_walks_7 (by decide) rfl (fun hc => ?_) (fun hc => ?_)
  · rw [if_neg hc] at h
    refine X.iconst (v := 0) (pc' := 20) dX11_walks_19 rfl (by decide) ?_
    refine X.istore (L' := [some (.ref a0), some (.int a1), some (.int a2), some (.int a3), some (.int a4), some (.int a5), some (.int 0)]) (pc' := 22) dX11_walks_20 rfl (Nat.le_of_ble_eq_true rfl) rfl ?_
    refine ok_X11_walks_22 hrec  fu _ _ _ _ _ _ _ _ h
  · rw [if_pos hc] at h
    refine X.aload_n (x := a0) (pc' := 11) dX11_walks_10 rfl rfl rfl ?_
    refine X.iload_n (x := a1) (pc' := 12) dX11_walks_11 rfl rfl rfl ?_
    refine X.iload_n (x := a2) (pc' := 13) dX11_walks_12 rfl rfl rfl ?_
    refine X.iload (x := a5) (pc' := 15) dX11_walks_13 rfl rfl ?_
    obtain ⟨⟨⟩, e8, h⟩ := bindE h
    obtain ⟨r5, M6, e7, h⟩ := bd2E h
    refine X.callV (b := a0) (v := none) (As := [.int a1, .int a2, .int a5]) (st := []) (M' := M6) (pc' := 18) dX11_walks_15 rfl cl_X11_262 mi_X11_meets me_X11_meets mr_X11_meets e8 ⟨⟨(by show 5 + 1 ≤ 6 + (r9 + 1); omega), (by show 8 + (10 + 11) + 116 ≤ 145 + 26 * (r9 + 1); omega)⟩, Nat.le_of_ble_eq_true rfl, Nat.le_of_ble_eq_true rfl⟩ rfl (Nat.le_of_ble_eq_true rfl) (ok_X11_meets (G := zs G) e7) ?_
    show X G (t_X11_walks (r9 + 1)) [] 18 [some (.ref a0), some (.int a1), some (.int a2), some (.int a3), some (.int a4), some (.int a5), none] [] M6 0 0 _
    cases h
    exact X.vret dX11_walks_18 rfl (Nat.le_of_ble_eq_true rfl) (Nat.le_of_ble_eq_true rfl) rfl
def f_X11_walks (fu : Nat) : Nat → Nat → Int32 → Int32 → Int32 → Int32 → Int32 → List Ob → Option (Unit × List Ob)
  | 0, _, _, _, _, _, _, _ => none
  | r + 1, a0, a1, a2, a3, a4, a5, M => f_X11_walks_0 fu (fun a0 a1 a2 a3 a4 a5 M => f_X11_walks fu r a0 a1 a2 a3 a4 a5 M) a0 a1 a2 a3 a4 a5 M
theorem okr_X11_walks {fu : Nat} : ∀ (r : Nat) (G : GT) (a0 : Nat) (a1 : Int32) (a2 : Int32) (a3 : Int32) (a4 : Int32) (a5 : Int32) (M : List Ob) (x : Unit × List Ob), f_X11_walks fu r a0 a1 a2 a3 a4 a5 M = some x → Sp G (t_X11_walks r) [.ref a0, .int a1, .int a2, .int a3, .int a4, .int a5] M (oU x) := by
  intro r
  induction r with
  | zero =>
    intro G a0 a1 a2 a3 a4 a5 M x h
    unfold f_X11_walks at h
    cases h
  | succ r ih =>
    intro G a0 a1 a2 a3 a4 a5 M x h
    unfold f_X11_walks at h
    refine Sp.of rfl (show plainName RX11 = true by decide +kernel) (cat_all rfl) (Nat.le_of_ble_eq_true rfl) ?_
    exact ok_X11_walks_0 (fun a0 a1 a2 a3 a4 a5 M y hy => ih (zs G) a0 a1 a2 a3 a4 a5 M y hy) h
theorem ok_X11_walks {G : GT} {fu : Nat} {a0 : Nat} {a1 : Int32} {a2 : Int32} {a3 : Int32} {a4 : Int32} {a5 : Int32} {M : List Ob} {x : Unit × List Ob} (h : f_X11_walks fu 9 a0 a1 a2 a3 a4 a5 M = some x) : Sp G (t_X11_walks 9) [.ref a0, .int a1, .int a2, .int a3, .int a4, .int a5] M (oU x) := okr_X11_walks 9 G a0 a1 a2 a3 a4 a5 M x h
def f_X11_walksAll (fu : Nat) (a0 : Nat) (a1 : Int32) (a2 : Int32) (M : List Ob) : Option (Int32 × List Ob) :=
  (pF M a0 11 19 (.int 0)).bind fun M1 =>
  (pF M1 a0 11 20 (.int 0)).bind fun M3 =>
  (gP M3 a0 11 0).bind fun r5 =>
  (aI M3 r5 13 1).bind fun v8 =>
  (gP M3 a0 11 0).bind fun r9 =>
  (aI M3 r9 13 1).bind fun v12 =>
  (hasO M3 a0 11).bind fun _ =>
  bd2 (f_X11_walks fu 9 a0 a1 a2 v8 (1 <<< (v12 &&& 31)) 0 M3) fun _ M14 =>
  (gI M14 a0 11 19).bind fun v17 =>
  some (v17, M14)
set_option maxHeartbeats 4000000 in
theorem ok_X11_walksAll {G : GT} {fu : Nat} {a0 : Nat} {a1 : Int32} {a2 : Int32} {M : List Ob} {out : Int32 × List Ob} (h : f_X11_walksAll fu a0 a1 a2 M = some out) : Sp G t_X11_walksAll [.ref a0, .int a1, .int a2] M (oI out) := by
  refine Sp.of rfl (by decide +kernel) (cat_all rfl) (Nat.le_of_ble_eq_true rfl) ?_
  show X G t_X11_walksAll [] 0 [some (.ref a0), some (.int a1), some (.int a2)] [] M 0 0 (oI out)
  unfold f_X11_walksAll at h
  refine X.aload_n (x := a0) (pc' := 1) dX11_walksAll_0 rfl rfl rfl ?_
  refine X.iconst (v := 0) (pc' := 2) dX11_walksAll_1 rfl (by decide) ?_
  obtain ⟨M1, e2, h⟩ := bindE h
  refine X.putf (pc' := 5) dX11_walksAll_2 rfl fq_X11_247 rfl rfl e2 ?_
  refine X.aload_n (x := a0) (pc' := 6) dX11_walksAll_5 rfl rfl rfl ?_
  refine X.iconst (v := 0) (pc' := 7) dX11_walksAll_6 rfl (by decide) ?_
  obtain ⟨M3, e4, h⟩ := bindE h
  refine X.putf (pc' := 10) dX11_walksAll_7 rfl fq_X11_259 rfl rfl e4 ?_
  refine X.aload_n (x := a0) (pc' := 11) dX11_walksAll_10 rfl rfl rfl ?_
  refine X.iload_n (x := a1) (pc' := 12) dX11_walksAll_11 rfl rfl rfl ?_
  refine X.iload_n (x := a2) (pc' := 13) dX11_walksAll_12 rfl rfl rfl ?_
  refine X.aload_n (x := a0) (pc' := 14) dX11_walksAll_13 rfl rfl rfl ?_
  obtain ⟨r5, e6, h⟩ := bindE h
  refine X.getf (pc' := 17) dX11_walksAll_14 rfl fq_X11_7 (gP_spec e6) ?_
  refine X.iconst (v := 1) (pc' := 18) dX11_walksAll_17 rfl (by decide) ?_
  obtain ⟨v8, e7, h⟩ := bindE h
  refine X.iald (pc' := 19) dX11_walksAll_18 rfl e7 ?_
  refine X.iconst (v := 1) (pc' := 20) dX11_walksAll_19 rfl (by decide) ?_
  refine X.aload_n (x := a0) (pc' := 21) dX11_walksAll_20 rfl rfl rfl ?_
  obtain ⟨r9, e10, h⟩ := bindE h
  refine X.getf (pc' := 24) dX11_walksAll_21 rfl fq_X11_7 (gP_spec e10) ?_
  refine X.iconst (v := 1) (pc' := 25) dX11_walksAll_24 rfl (by decide) ?_
  obtain ⟨v12, e11, h⟩ := bindE h
  refine X.iald (pc' := 26) dX11_walksAll_25 rfl e11 ?_
  refine X.ishl (pc' := 27) dX11_walksAll_26 rfl ?_
  refine X.iconst (v := 0) (pc' := 28) dX11_walksAll_27 rfl (by decide) ?_
  obtain ⟨⟨⟩, e16, h⟩ := bindE h
  obtain ⟨r13, M14, e15, h⟩ := bd2E h
  refine X.callV (b := a0) (v := none) (As := [.int a1, .int a2, .int v8, .int (1 <<< (v12 &&& 31)), .int 0]) (st := []) (M' := M14) (pc' := 31) dX11_walksAll_28 rfl cl_X11_265 mi_X11_walks me_X11_walks mr_X11_walks e16 ⟨⟨Nat.le_of_ble_eq_true rfl, Nat.le_of_ble_eq_true rfl⟩, Nat.le_of_ble_eq_true rfl, Nat.le_of_ble_eq_true rfl⟩ rfl (Nat.le_of_ble_eq_true rfl) (ok_X11_walks (G := zs G) e15) ?_
  show X G t_X11_walksAll [] 31 [some (.ref a0), some (.int a1), some (.int a2)] [] M14 0 0 _
  refine X.aload_n (x := a0) (pc' := 32) dX11_walksAll_31 rfl rfl rfl ?_
  obtain ⟨v17, e18, h⟩ := bindE h
  refine X.getf (pc' := 35) dX11_walksAll_32 rfl fq_X11_247 (gI_spec e18) ?_
  cases h
  exact X.iret (ty := .int) dX11_walksAll_35 rfl rfl (Nat.le_of_ble_eq_true rfl) (Nat.le_of_ble_eq_true rfl) rfl
def f_X11_count_16 (fu : Nat) (a0 : Nat) (a1 : Int32) (b0 : Nat) (b1 : Int32) (M : List Ob) : Option (Int32 × List Ob) :=
  (pF M b0 11 4 (.int b1)).bind fun M1 =>
  (gI M1 a0 11 4).bind fun v3 =>
  if v3 ≤ 0 then (if a1 = 0 then ((gP M1 a0 11 0).bind fun r5 =>
  (aI M1 r5 13 0).bind fun v8 =>
  some (v8, M1))
  else if a1 = 1 then ((gP M1 a0 11 0).bind fun r9 =>
  (aI M1 r9 13 4).bind fun v12 =>
  some (v12, M1))
  else if a1 = 2 then ((gP M1 a0 11 0).bind fun r13 =>
  (aI M1 r13 13 1).bind fun v16 =>
  some (v16, M1))
  else if a1 = 3 then ((gP M1 a0 11 0).bind fun r17 =>
  (aI M1 r17 13 2).bind fun v20 =>
  some (v20, M1))
  else if a1 = 4 then ((gP M1 a0 11 0).bind fun r21 =>
  (aI M1 r21 13 3).bind fun v24 =>
  some (v24, M1))
  else if a1 = 5 then ((gP M1 a0 11 0).bind fun r25 =>
  (aI M1 r25 13 69).bind fun v28 =>
  some (v28, M1))
  else if a1 = 6 then ((gP M1 a0 11 0).bind fun r29 =>
  (aI M1 r29 13 118).bind fun v32 =>
  some (v32, M1))
  else if a1 = 7 then ((hasO M1 a0 11).bind fun _ =>
  bd2 (f_X11_walksAll fu a0 0 0 M1) fun v33 M34 =>
  some (v33, M34))
  else if a1 = 8 then ((gP M1 a0 11 0).bind fun r37 =>
  (aI M1 r37 13 126).bind fun v40 =>
  some (v40, M1))
  else if a1 = 9 then ((gP M1 a0 11 0).bind fun r41 =>
  (aI M1 r41 13 127).bind fun v44 =>
  some (v44, M1))
  else if a1 = 10 then ((gP M1 a0 11 0).bind fun r45 =>
  (aI M1 r45 13 128).bind fun v48 =>
  some (v48, M1))
  else ((gP M1 a0 11 0).bind fun r49 =>
  (aI M1 r49 13 129).bind fun v52 =>
  some (v52, M1)))
  else (some (0, M1))
set_option maxHeartbeats 4000000 in
theorem ok_X11_count_16 {G : GT} {fu : Nat} {out : Int32 × List Ob} {a0 : Nat} {a1 : Int32} {b0 : Nat} {b1 : Int32} {M : List Ob} (h : f_X11_count_16 fu a0 a1 b0 b1 M = some out) : X G t_X11_count [] 16 [some (.ref a0), some (.int a1)] [.int b1, .ref b0] M 0 0 (oI out) := by
  unfold f_X11_count_16 at h
  obtain ⟨M1, e2, h⟩ := bindE h
  refine X.putf (pc' := 19) dX11_count_16 rfl fq_X11_56 rfl rfl e2 ?_
  refine X.aload_n (x := a0) (pc' := 20) dX11_count_19 rfl rfl rfl ?_
  obtain ⟨v3, e4, h⟩ := bindE h
  refine X.getf (pc' := 23) dX11_count_20 rfl fq_X11_56 (gI_spec e4) ?_
  refine X.if_le (tgt := 28) (pc' := 26) dX11_count_23 (by decide) rfl (fun hc => ?_) (fun hc => ?_)
  · rw [if_pos hc] at h
    refine X.iload_n (x := a1) (pc' := 29) dX11_count_28 rfl rfl rfl ?_
    by_cases hc0 : a1 = 0
    · rw [if_pos hc0] at h
      refine X.tableIn (off := 59) (pc' := 88) dX11_count_29 (by rw [hc0]; decide) (by rw [hc0]; decide) (by rw [hc0]; rfl) (by decide) ?_
      refine X.aload_n (x := a0) (pc' := 89) dX11_count_88 rfl rfl rfl ?_
      obtain ⟨r5, e6, h⟩ := bindE h
      refine X.getf (pc' := 92) dX11_count_89 rfl fq_X11_7 (gP_spec e6) ?_
      refine X.iconst (v := 0) (pc' := 93) dX11_count_92 rfl (by decide) ?_
      obtain ⟨v8, e7, h⟩ := bindE h
      refine X.iald (pc' := 94) dX11_count_93 rfl e7 ?_
      cases h
      exact X.iret (ty := .int) dX11_count_94 rfl rfl (Nat.le_of_ble_eq_true rfl) (Nat.le_of_ble_eq_true rfl) rfl
    rw [if_neg hc0] at h
    by_cases hc1 : a1 = 1
    · rw [if_pos hc1] at h
      refine X.tableIn (off := 66) (pc' := 95) dX11_count_29 (by rw [hc1]; decide) (by rw [hc1]; decide) (by rw [hc1]; rfl) (by decide) ?_
      refine X.aload_n (x := a0) (pc' := 96) dX11_count_95 rfl rfl rfl ?_
      obtain ⟨r9, e10, h⟩ := bindE h
      refine X.getf (pc' := 99) dX11_count_96 rfl fq_X11_7 (gP_spec e10) ?_
      refine X.iconst (v := 4) (pc' := 100) dX11_count_99 rfl (by decide) ?_
      obtain ⟨v12, e11, h⟩ := bindE h
      refine X.iald (pc' := 101) dX11_count_100 rfl e11 ?_
      cases h
      exact X.iret (ty := .int) dX11_count_101 rfl rfl (Nat.le_of_ble_eq_true rfl) (Nat.le_of_ble_eq_true rfl) rfl
    rw [if_neg hc1] at h
    by_cases hc2 : a1 = 2
    · rw [if_pos hc2] at h
      refine X.tableIn (off := 73) (pc' := 102) dX11_count_29 (by rw [hc2]; decide) (by rw [hc2]; decide) (by rw [hc2]; rfl) (by decide) ?_
      refine X.aload_n (x := a0) (pc' := 103) dX11_count_102 rfl rfl rfl ?_
      obtain ⟨r13, e14, h⟩ := bindE h
      refine X.getf (pc' := 106) dX11_count_103 rfl fq_X11_7 (gP_spec e14) ?_
      refine X.iconst (v := 1) (pc' := 107) dX11_count_106 rfl (by decide) ?_
      obtain ⟨v16, e15, h⟩ := bindE h
      refine X.iald (pc' := 108) dX11_count_107 rfl e15 ?_
      cases h
      exact X.iret (ty := .int) dX11_count_108 rfl rfl (Nat.le_of_ble_eq_true rfl) (Nat.le_of_ble_eq_true rfl) rfl
    rw [if_neg hc2] at h
    by_cases hc3 : a1 = 3
    · rw [if_pos hc3] at h
      refine X.tableIn (off := 80) (pc' := 109) dX11_count_29 (by rw [hc3]; decide) (by rw [hc3]; decide) (by rw [hc3]; rfl) (by decide) ?_
      refine X.aload_n (x := a0) (pc' := 110) dX11_count_109 rfl rfl rfl ?_
      obtain ⟨r17, e18, h⟩ := bindE h
      refine X.getf (pc' := 113) dX11_count_110 rfl fq_X11_7 (gP_spec e18) ?_
      refine X.iconst (v := 2) (pc' := 114) dX11_count_113 rfl (by decide) ?_
      obtain ⟨v20, e19, h⟩ := bindE h
      refine X.iald (pc' := 115) dX11_count_114 rfl e19 ?_
      cases h
      exact X.iret (ty := .int) dX11_count_115 rfl rfl (Nat.le_of_ble_eq_true rfl) (Nat.le_of_ble_eq_true rfl) rfl
    rw [if_neg hc3] at h
    by_cases hc4 : a1 = 4
    · rw [if_pos hc4] at h
      refine X.tableIn (off := 87) (pc' := 116) dX11_count_29 (by rw [hc4]; decide) (by rw [hc4]; decide) (by rw [hc4]; rfl) (by decide) ?_
      refine X.aload_n (x := a0) (pc' := 117) dX11_count_116 rfl rfl rfl ?_
      obtain ⟨r21, e22, h⟩ := bindE h
      refine X.getf (pc' := 120) dX11_count_117 rfl fq_X11_7 (gP_spec e22) ?_
      refine X.iconst (v := 3) (pc' := 121) dX11_count_120 rfl (by decide) ?_
      obtain ⟨v24, e23, h⟩ := bindE h
      refine X.iald (pc' := 122) dX11_count_121 rfl e23 ?_
      cases h
      exact X.iret (ty := .int) dX11_count_122 rfl rfl (Nat.le_of_ble_eq_true rfl) (Nat.le_of_ble_eq_true rfl) rfl
    rw [if_neg hc4] at h
    by_cases hc5 : a1 = 5
    · rw [if_pos hc5] at h
      refine X.tableIn (off := 94) (pc' := 123) dX11_count_29 (by rw [hc5]; decide) (by rw [hc5]; decide) (by rw [hc5]; rfl) (by decide) ?_
      refine X.aload_n (x := a0) (pc' := 124) dX11_count_123 rfl rfl rfl ?_
      obtain ⟨r25, e26, h⟩ := bindE h
      refine X.getf (pc' := 127) dX11_count_124 rfl fq_X11_7 (gP_spec e26) ?_
      refine X.bipush (v := 69) (pc' := 129) dX11_count_127 rfl (by decide) ?_
      obtain ⟨v28, e27, h⟩ := bindE h
      refine X.iald (pc' := 130) dX11_count_129 rfl e27 ?_
      cases h
      exact X.iret (ty := .int) dX11_count_130 rfl rfl (Nat.le_of_ble_eq_true rfl) (Nat.le_of_ble_eq_true rfl) rfl
    rw [if_neg hc5] at h
    by_cases hc6 : a1 = 6
    · rw [if_pos hc6] at h
      refine X.tableIn (off := 102) (pc' := 131) dX11_count_29 (by rw [hc6]; decide) (by rw [hc6]; decide) (by rw [hc6]; rfl) (by decide) ?_
      refine X.aload_n (x := a0) (pc' := 132) dX11_count_131 rfl rfl rfl ?_
      obtain ⟨r29, e30, h⟩ := bindE h
      refine X.getf (pc' := 135) dX11_count_132 rfl fq_X11_7 (gP_spec e30) ?_
      refine X.bipush (v := 118) (pc' := 137) dX11_count_135 rfl (by decide) ?_
      obtain ⟨v32, e31, h⟩ := bindE h
      refine X.iald (pc' := 138) dX11_count_137 rfl e31 ?_
      cases h
      exact X.iret (ty := .int) dX11_count_138 rfl rfl (Nat.le_of_ble_eq_true rfl) (Nat.le_of_ble_eq_true rfl) rfl
    rw [if_neg hc6] at h
    by_cases hc7 : a1 = 7
    · rw [if_pos hc7] at h
      refine X.tableIn (off := 110) (pc' := 139) dX11_count_29 (by rw [hc7]; decide) (by rw [hc7]; decide) (by rw [hc7]; rfl) (by decide) ?_
      refine X.aload_n (x := a0) (pc' := 140) dX11_count_139 rfl rfl rfl ?_
      refine X.iconst (v := 0) (pc' := 141) dX11_count_140 rfl (by decide) ?_
      refine X.iconst (v := 0) (pc' := 142) dX11_count_141 rfl (by decide) ?_
      obtain ⟨⟨⟩, e36, h⟩ := bindE h
      obtain ⟨v33, M34, e35, h⟩ := bd2E h
      refine X.callV (b := a0) (v := some (.int v33)) (As := [.int 0, .int 0]) (st := []) (M' := M34) (pc' := 145) dX11_count_142 rfl cl_X11_183 mi_X11_walksAll me_X11_walksAll mr_X11_walksAll e36 ⟨⟨Nat.le_of_ble_eq_true rfl, Nat.le_of_ble_eq_true rfl⟩, Nat.le_of_ble_eq_true rfl, Nat.le_of_ble_eq_true rfl⟩ rfl (Nat.le_of_ble_eq_true rfl) (ok_X11_walksAll (G := zs G) e35) ?_
      show X G t_X11_count [] 145 [some (.ref a0), some (.int a1)] [.int v33] M34 0 0 _
      cases h
      exact X.iret (ty := .int) dX11_count_145 rfl rfl (Nat.le_of_ble_eq_true rfl) (Nat.le_of_ble_eq_true rfl) rfl
    rw [if_neg hc7] at h
    by_cases hc8 : a1 = 8
    · rw [if_pos hc8] at h
      refine X.tableIn (off := 117) (pc' := 146) dX11_count_29 (by rw [hc8]; decide) (by rw [hc8]; decide) (by rw [hc8]; rfl) (by decide) ?_
      refine X.aload_n (x := a0) (pc' := 147) dX11_count_146 rfl rfl rfl ?_
      obtain ⟨r37, e38, h⟩ := bindE h
      refine X.getf (pc' := 150) dX11_count_147 rfl fq_X11_7 (gP_spec e38) ?_
      refine X.bipush (v := 126) (pc' := 152) dX11_count_150 rfl (by decide) ?_
      obtain ⟨v40, e39, h⟩ := bindE h
      refine X.iald (pc' := 153) dX11_count_152 rfl e39 ?_
      cases h
      exact X.iret (ty := .int) dX11_count_153 rfl rfl (Nat.le_of_ble_eq_true rfl) (Nat.le_of_ble_eq_true rfl) rfl
    rw [if_neg hc8] at h
    by_cases hc9 : a1 = 9
    · rw [if_pos hc9] at h
      refine X.tableIn (off := 125) (pc' := 154) dX11_count_29 (by rw [hc9]; decide) (by rw [hc9]; decide) (by rw [hc9]; rfl) (by decide) ?_
      refine X.aload_n (x := a0) (pc' := 155) dX11_count_154 rfl rfl rfl ?_
      obtain ⟨r41, e42, h⟩ := bindE h
      refine X.getf (pc' := 158) dX11_count_155 rfl fq_X11_7 (gP_spec e42) ?_
      refine X.bipush (v := 127) (pc' := 160) dX11_count_158 rfl (by decide) ?_
      obtain ⟨v44, e43, h⟩ := bindE h
      refine X.iald (pc' := 161) dX11_count_160 rfl e43 ?_
      cases h
      exact X.iret (ty := .int) dX11_count_161 rfl rfl (Nat.le_of_ble_eq_true rfl) (Nat.le_of_ble_eq_true rfl) rfl
    rw [if_neg hc9] at h
    by_cases hc10 : a1 = 10
    · rw [if_pos hc10] at h
      refine X.tableIn (off := 133) (pc' := 162) dX11_count_29 (by rw [hc10]; decide) (by rw [hc10]; decide) (by rw [hc10]; rfl) (by decide) ?_
      refine X.aload_n (x := a0) (pc' := 163) dX11_count_162 rfl rfl rfl ?_
      obtain ⟨r45, e46, h⟩ := bindE h
      refine X.getf (pc' := 166) dX11_count_163 rfl fq_X11_7 (gP_spec e46) ?_
      refine X.sipush (v := 128) (pc' := 169) dX11_count_166 rfl (by decide) ?_
      obtain ⟨v48, e47, h⟩ := bindE h
      refine X.iald (pc' := 170) dX11_count_169 rfl e47 ?_
      cases h
      exact X.iret (ty := .int) dX11_count_170 rfl rfl (Nat.le_of_ble_eq_true rfl) (Nat.le_of_ble_eq_true rfl) rfl
    rw [if_neg hc10] at h
    refine X.tableOut (pc' := 171) dX11_count_29 (sw_out (n := 10) (by decide) (fun j hj => match j, hj with | 0, _ => hc0 | 1, _ => hc1 | 2, _ => hc2 | 3, _ => hc3 | 4, _ => hc4 | 5, _ => hc5 | 6, _ => hc6 | 7, _ => hc7 | 8, _ => hc8 | 9, _ => hc9 | 10, _ => hc10 | j + 11, hj => absurd hj (by omega))) (by decide) ?_
    refine X.aload_n (x := a0) (pc' := 172) dX11_count_171 rfl rfl rfl ?_
    obtain ⟨r49, e50, h⟩ := bindE h
    refine X.getf (pc' := 175) dX11_count_172 rfl fq_X11_7 (gP_spec e50) ?_
    refine X.sipush (v := 129) (pc' := 178) dX11_count_175 rfl (by decide) ?_
    obtain ⟨v52, e51, h⟩ := bindE h
    refine X.iald (pc' := 179) dX11_count_178 rfl e51 ?_
    cases h
    exact X.iret (ty := .int) dX11_count_179 rfl rfl (Nat.le_of_ble_eq_true rfl) (Nat.le_of_ble_eq_true rfl) rfl
  · rw [if_neg hc] at h
    refine X.iconst (v := 0) (pc' := 27) dX11_count_26 rfl (by decide) ?_
    cases h
    exact X.iret (ty := .int) dX11_count_27 rfl rfl (Nat.le_of_ble_eq_true rfl) (Nat.le_of_ble_eq_true rfl) rfl
def f_X11_count (fu : Nat) (a0 : Nat) (a1 : Int32) (M : List Ob) : Option (Int32 × List Ob) :=
  bd2 (f_X11_isIn fu a1 0 11 M) fun v1 M2 =>
  if v1 = 0 then (f_X11_count_16 fu a0 a1 a0 1 M2)
  else (f_X11_count_16 fu a0 a1 a0 0 M2)
set_option maxHeartbeats 4000000 in
theorem ok_X11_count {G : GT} {fu : Nat} {a0 : Nat} {a1 : Int32} {M : List Ob} {out : Int32 × List Ob} (h : f_X11_count fu a0 a1 M = some out) : Sp G t_X11_count [.ref a0, .int a1] M (oI out) := by
  refine Sp.of rfl (by decide +kernel) (cat_all rfl) (Nat.le_of_ble_eq_true rfl) ?_
  show X G t_X11_count [] 0 [some (.ref a0), some (.int a1)] [] M 0 0 (oI out)
  unfold f_X11_count at h
  refine X.aload_n (x := a0) (pc' := 1) dX11_count_0 rfl rfl rfl ?_
  refine X.iload_n (x := a1) (pc' := 2) dX11_count_1 rfl rfl rfl ?_
  refine X.iconst (v := 0) (pc' := 3) dX11_count_2 rfl (by decide) ?_
  refine X.bipush (v := 11) (pc' := 5) dX11_count_3 rfl (by decide) ?_
  obtain ⟨v1, M2, e3, h⟩ := bd2E h
  refine X.callS (v := some (.int v1)) (As := [.int a1, .int 0, .int 11]) (st := [.ref a0]) (M' := M2) (pc' := 8) dX11_count_5 rfl cl_X11_72 ms_X11_isIn ⟨⟨Nat.le_of_ble_eq_true rfl, Nat.le_of_ble_eq_true rfl⟩, Nat.le_of_ble_eq_true rfl, Nat.le_of_ble_eq_true rfl⟩ rfl (Nat.le_of_ble_eq_true rfl) (ok_X11_isIn (G := zs G) e3) ?_
  show X G t_X11_count [] 8 [some (.ref a0), some (.int a1)] [.int v1, .ref a0] M2 0 0 _
  refine X.if_eq (tgt := 15) (pc' := 11) dX11_count_8 (by decide) rfl (fun hc => ?_) (fun hc => ?_)
  · rw [if_pos hc] at h
    refine X.iconst (v := 1) (pc' := 16) dX11_count_15 rfl (by decide) ?_
    exact ok_X11_count_16 h
  · rw [if_neg hc] at h
    refine X.iconst (v := 0) (pc' := 12) dX11_count_11 rfl (by decide) ?_
    refine X.goto (pc' := 16) dX11_count_12 (by decide) ?_
    exact ok_X11_count_16 h
def f_X11_arc_27 (fu : Nat) (a0 : Nat) (a1 : Int32) (a2 : Int32) (b0 : Nat) (b1 : Int32) (M : List Ob) : Option (Int32 × List Ob) :=
  (pF M b0 11 4 (.int b1)).bind fun M1 =>
  (gI M1 a0 11 4).bind fun v3 =>
  if v3 ≤ 0 then ((hasO M1 a0 11).bind fun _ =>
  bd2 (f_X11_of fu a0 a1 a2 M1) fun v5 M6 =>
  some (v5, M6))
  else (some (0, M1))
set_option maxHeartbeats 4000000 in
theorem ok_X11_arc_27 {G : GT} {fu : Nat} {out : Int32 × List Ob} {a0 : Nat} {a1 : Int32} {a2 : Int32} {b0 : Nat} {b1 : Int32} {M : List Ob} (h : f_X11_arc_27 fu a0 a1 a2 b0 b1 M = some out) : X G t_X11_arc [] 27 [some (.ref a0), some (.int a1), some (.int a2)] [.int b1, .ref b0] M 0 0 (oI out) := by
  unfold f_X11_arc_27 at h
  obtain ⟨M1, e2, h⟩ := bindE h
  refine X.putf (pc' := 30) dX11_arc_27 rfl fq_X11_56 rfl rfl e2 ?_
  refine X.aload_n (x := a0) (pc' := 31) dX11_arc_30 rfl rfl rfl ?_
  obtain ⟨v3, e4, h⟩ := bindE h
  refine X.getf (pc' := 34) dX11_arc_31 rfl fq_X11_56 (gI_spec e4) ?_
  refine X.if_le (tgt := 41) (pc' := 37) dX11_arc_34 (by decide) rfl (fun hc => ?_) (fun hc => ?_)
  · rw [if_pos hc] at h
    refine X.aload_n (x := a0) (pc' := 42) dX11_arc_41 rfl rfl rfl ?_
    refine X.iload_n (x := a1) (pc' := 43) dX11_arc_42 rfl rfl rfl ?_
    refine X.iload_n (x := a2) (pc' := 44) dX11_arc_43 rfl rfl rfl ?_
    obtain ⟨⟨⟩, e8, h⟩ := bindE h
    obtain ⟨v5, M6, e7, h⟩ := bd2E h
    refine X.callV (b := a0) (v := some (.int v5)) (As := [.int a1, .int a2]) (st := []) (M' := M6) (pc' := 47) dX11_arc_44 rfl cl_X11_190 mi_X11_of me_X11_of mr_X11_of e8 ⟨⟨Nat.le_of_ble_eq_true rfl, Nat.le_of_ble_eq_true rfl⟩, Nat.le_of_ble_eq_true rfl, Nat.le_of_ble_eq_true rfl⟩ rfl (Nat.le_of_ble_eq_true rfl) (ok_X11_of (G := zs G) e7) ?_
    show X G t_X11_arc [] 47 [some (.ref a0), some (.int a1), some (.int a2)] [.int v5] M6 0 0 _
    cases h
    exact X.iret (ty := .int) dX11_arc_47 rfl rfl (Nat.le_of_ble_eq_true rfl) (Nat.le_of_ble_eq_true rfl) rfl
  · rw [if_neg hc] at h
    refine X.iconst (v := 0) (pc' := 38) dX11_arc_37 rfl (by decide) ?_
    refine X.goto (pc' := 47) dX11_arc_38 (by decide) ?_
    cases h
    exact X.iret (ty := .int) dX11_arc_47 rfl rfl (Nat.le_of_ble_eq_true rfl) (Nat.le_of_ble_eq_true rfl) rfl
def f_X11_arc (fu : Nat) (a0 : Nat) (a1 : Int32) (a2 : Int32) (M : List Ob) : Option (Int32 × List Ob) :=
  (hasO M a0 11).bind fun _ =>
  bd2 (f_X11_isArc fu a0 a1 M) fun v1 M2 =>
  if v1 = 0 then (f_X11_arc_27 fu a0 a1 a2 a0 1 M2)
  else (bd2 (f_X11_isIn fu a2 0 3 M2) fun v5 M6 =>
  if v5 = 0 then (f_X11_arc_27 fu a0 a1 a2 a0 2 M6)
  else (f_X11_arc_27 fu a0 a1 a2 a0 0 M6))
set_option maxHeartbeats 4000000 in
theorem ok_X11_arc {G : GT} {fu : Nat} {a0 : Nat} {a1 : Int32} {a2 : Int32} {M : List Ob} {out : Int32 × List Ob} (h : f_X11_arc fu a0 a1 a2 M = some out) : Sp G t_X11_arc [.ref a0, .int a1, .int a2] M (oI out) := by
  refine Sp.of rfl (by decide +kernel) (cat_all rfl) (Nat.le_of_ble_eq_true rfl) ?_
  show X G t_X11_arc [] 0 [some (.ref a0), some (.int a1), some (.int a2)] [] M 0 0 (oI out)
  unfold f_X11_arc at h
  refine X.aload_n (x := a0) (pc' := 1) dX11_arc_0 rfl rfl rfl ?_
  refine X.aload_n (x := a0) (pc' := 2) dX11_arc_1 rfl rfl rfl ?_
  refine X.iload_n (x := a1) (pc' := 3) dX11_arc_2 rfl rfl rfl ?_
  obtain ⟨⟨⟩, e4, h⟩ := bindE h
  obtain ⟨v1, M2, e3, h⟩ := bd2E h
  refine X.callV (b := a0) (v := some (.int v1)) (As := [.int a1]) (st := [.ref a0]) (M' := M2) (pc' := 6) dX11_arc_3 rfl cl_X11_187 mi_X11_isArc me_X11_isArc mr_X11_isArc e4 ⟨⟨Nat.le_of_ble_eq_true rfl, Nat.le_of_ble_eq_true rfl⟩, Nat.le_of_ble_eq_true rfl, Nat.le_of_ble_eq_true rfl⟩ rfl (Nat.le_of_ble_eq_true rfl) (ok_X11_isArc (G := zs G) e3) ?_
  show X G t_X11_arc [] 6 [some (.ref a0), some (.int a1), some (.int a2)] [.int v1, .ref a0] M2 0 0 _
  refine X.if_ne (tgt := 13) (pc' := 9) dX11_arc_6 (by decide) rfl (fun hc => ?_) (fun hc => ?_)
  · rw [if_neg hc] at h
    refine X.iload_n (x := a2) (pc' := 14) dX11_arc_13 rfl rfl rfl ?_
    refine X.iconst (v := 0) (pc' := 15) dX11_arc_14 rfl (by decide) ?_
    refine X.iconst (v := 3) (pc' := 16) dX11_arc_15 rfl (by decide) ?_
    obtain ⟨v5, M6, e7, h⟩ := bd2E h
    refine X.callS (v := some (.int v5)) (As := [.int a2, .int 0, .int 3]) (st := [.ref a0]) (M' := M6) (pc' := 19) dX11_arc_16 rfl cl_X11_72 ms_X11_isIn ⟨⟨Nat.le_of_ble_eq_true rfl, Nat.le_of_ble_eq_true rfl⟩, Nat.le_of_ble_eq_true rfl, Nat.le_of_ble_eq_true rfl⟩ rfl (Nat.le_of_ble_eq_true rfl) (ok_X11_isIn (G := zs G) e7) ?_
    show X G t_X11_arc [] 19 [some (.ref a0), some (.int a1), some (.int a2)] [.int v5, .ref a0] M6 0 0 _
    refine X.if_eq (tgt := 26) (pc' := 22) dX11_arc_19 (by decide) rfl (fun hc => ?_) (fun hc => ?_)
    · rw [if_pos hc] at h
      refine X.iconst (v := 2) (pc' := 27) dX11_arc_26 rfl (by decide) ?_
      exact ok_X11_arc_27 h
    · rw [if_neg hc] at h
      refine X.iconst (v := 0) (pc' := 23) dX11_arc_22 rfl (by decide) ?_
      refine X.goto (pc' := 27) dX11_arc_23 (by decide) ?_
      exact ok_X11_arc_27 h
  · rw [if_pos hc] at h
    refine X.iconst (v := 1) (pc' := 10) dX11_arc_9 rfl (by decide) ?_
    refine X.goto (pc' := 27) dX11_arc_10 (by decide) ?_
    exact ok_X11_arc_27 h
def f_X11_addArc_79 (fu : Nat) (a0 : Nat) (a1 : Int32) (a2 : Int32) (a3 : Int32) (a4 : Int32) (b0 : Nat) (b1 : Int32) (M : List Ob) : Option (Int32 × List Ob) :=
  (pF M b0 11 4 (.int b1)).bind fun M1 =>
  (gI M1 a0 11 4).bind fun v3 =>
  if v3 ≤ 0 then ((hasO M1 a0 11).bind fun _ =>
  bd2 (f_X11_keeps fu a0 M1) fun _ M6 =>
  (gP M6 a0 11 0).bind fun r9 =>
  bd2 (f_X11_addsArc fu r9 a1 a2 a3 a4 M6) fun _ M12 =>
  (gP M12 a0 11 0).bind fun r15 =>
  bd2 (f_X11_setsOut fu r15 M12) fun _ M18 =>
  (gP M18 a0 11 0).bind fun r21 =>
  (aI M18 r21 13 4).bind fun v24 =>
  some ((v24 - 1), M18))
  else (some (0, M1))
set_option maxHeartbeats 4000000 in
theorem ok_X11_addArc_79 {G : GT} {fu : Nat} {out : Int32 × List Ob} {a0 : Nat} {a1 : Int32} {a2 : Int32} {a3 : Int32} {a4 : Int32} {b0 : Nat} {b1 : Int32} {M : List Ob} (h : f_X11_addArc_79 fu a0 a1 a2 a3 a4 b0 b1 M = some out) : X G t_X11_addArc [] 79 [some (.ref a0), some (.int a1), some (.int a2), some (.int a3), some (.int a4), none] [.int b1, .ref b0] M 0 0 (oI out) := by
  unfold f_X11_addArc_79 at h
  obtain ⟨M1, e2, h⟩ := bindE h
  refine X.putf (pc' := 82) dX11_addArc_79 rfl fq_X11_56 rfl rfl e2 ?_
  refine X.aload_n (x := a0) (pc' := 83) dX11_addArc_82 rfl rfl rfl ?_
  obtain ⟨v3, e4, h⟩ := bindE h
  refine X.getf (pc' := 86) dX11_addArc_83 rfl fq_X11_56 (gI_spec e4) ?_
  refine X.if_le (tgt := 91) (pc' := 89) dX11_addArc_86 (by decide) rfl (fun hc => ?_) (fun hc => ?_)
  · rw [if_pos hc] at h
    refine X.aload_n (x := a0) (pc' := 92) dX11_addArc_91 rfl rfl rfl ?_
    obtain ⟨⟨⟩, e8, h⟩ := bindE h
    obtain ⟨r5, M6, e7, h⟩ := bd2E h
    refine X.callV (b := a0) (v := none) (As := []) (st := []) (M' := M6) (pc' := 95) dX11_addArc_92 rfl cl_X11_176 mi_X11_keeps me_X11_keeps mr_X11_keeps e8 ⟨⟨Nat.le_of_ble_eq_true rfl, Nat.le_of_ble_eq_true rfl⟩, Nat.le_of_ble_eq_true rfl, Nat.le_of_ble_eq_true rfl⟩ rfl (Nat.le_of_ble_eq_true rfl) (ok_X11_keeps (G := zs G) e7) ?_
    show X G t_X11_addArc [] 95 [some (.ref a0), some (.int a1), some (.int a2), some (.int a3), some (.int a4), none] [] M6 0 0 _
    refine X.aload_n (x := a0) (pc' := 96) dX11_addArc_95 rfl rfl rfl ?_
    obtain ⟨r9, e10, h⟩ := bindE h
    refine X.getf (pc' := 99) dX11_addArc_96 rfl fq_X11_7 (gP_spec e10) ?_
    refine X.iload_n (x := a1) (pc' := 100) dX11_addArc_99 rfl rfl rfl ?_
    refine X.iload_n (x := a2) (pc' := 101) dX11_addArc_100 rfl rfl rfl ?_
    refine X.iload_n (x := a3) (pc' := 102) dX11_addArc_101 rfl rfl rfl ?_
    refine X.iload (x := a4) (pc' := 104) dX11_addArc_102 rfl rfl ?_
    obtain ⟨r11, M12, e13, h⟩ := bd2E h
    refine X.callS (v := none) (As := [.ref r9, .int a1, .int a2, .int a3, .int a4]) (st := []) (M' := M12) (pc' := 107) dX11_addArc_104 rfl cl_X11_130 ms_X11_addsArc ⟨⟨Nat.le_of_ble_eq_true rfl, Nat.le_of_ble_eq_true rfl⟩, Nat.le_of_ble_eq_true rfl, Nat.le_of_ble_eq_true rfl⟩ rfl (Nat.le_of_ble_eq_true rfl) (ok_X11_addsArc (G := zs G) e13) ?_
    show X G t_X11_addArc [] 107 [some (.ref a0), some (.int a1), some (.int a2), some (.int a3), some (.int a4), none] [] M12 0 0 _
    refine X.aload_n (x := a0) (pc' := 108) dX11_addArc_107 rfl rfl rfl ?_
    obtain ⟨r15, e16, h⟩ := bindE h
    refine X.getf (pc' := 111) dX11_addArc_108 rfl fq_X11_7 (gP_spec e16) ?_
    obtain ⟨r17, M18, e19, h⟩ := bd2E h
    refine X.callS (v := none) (As := [.ref r15]) (st := []) (M' := M18) (pc' := 114) dX11_addArc_111 rfl cl_X11_52 ms_X11_setsOut ⟨⟨Nat.le_of_ble_eq_true rfl, Nat.le_of_ble_eq_true rfl⟩, Nat.le_of_ble_eq_true rfl, Nat.le_of_ble_eq_true rfl⟩ rfl (Nat.le_of_ble_eq_true rfl) (ok_X11_setsOut (G := zs G) e19) ?_
    show X G t_X11_addArc [] 114 [some (.ref a0), some (.int a1), some (.int a2), some (.int a3), some (.int a4), none] [] M18 0 0 _
    refine X.aload_n (x := a0) (pc' := 115) dX11_addArc_114 rfl rfl rfl ?_
    obtain ⟨r21, e22, h⟩ := bindE h
    refine X.getf (pc' := 118) dX11_addArc_115 rfl fq_X11_7 (gP_spec e22) ?_
    refine X.iconst (v := 4) (pc' := 119) dX11_addArc_118 rfl (by decide) ?_
    obtain ⟨v24, e23, h⟩ := bindE h
    refine X.iald (pc' := 120) dX11_addArc_119 rfl e23 ?_
    refine X.iconst (v := 1) (pc' := 121) dX11_addArc_120 rfl (by decide) ?_
    refine X.isub (pc' := 122) dX11_addArc_121 rfl ?_
    cases h
    exact X.iret (ty := .int) dX11_addArc_122 rfl rfl (Nat.le_of_ble_eq_true rfl) (Nat.le_of_ble_eq_true rfl) rfl
  · rw [if_neg hc] at h
    refine X.iconst (v := 0) (pc' := 90) dX11_addArc_89 rfl (by decide) ?_
    cases h
    exact X.iret (ty := .int) dX11_addArc_90 rfl rfl (Nat.le_of_ble_eq_true rfl) (Nat.le_of_ble_eq_true rfl) rfl
def f_X11_addArc_50 (fu : Nat) (a0 : Nat) (a1 : Int32) (a2 : Int32) (a3 : Int32) (a4 : Int32) (b0 : Nat) (M : List Ob) : Option (Int32 × List Ob) :=
  f_X11_addArc_79 fu a0 a1 a2 a3 a4 b0 1 M
set_option maxHeartbeats 4000000 in
theorem ok_X11_addArc_50 {G : GT} {fu : Nat} {out : Int32 × List Ob} {a0 : Nat} {a1 : Int32} {a2 : Int32} {a3 : Int32} {a4 : Int32} {b0 : Nat} {M : List Ob} (h : f_X11_addArc_50 fu a0 a1 a2 a3 a4 b0 M = some out) : X G t_X11_addArc [] 50 [some (.ref a0), some (.int a1), some (.int a2), some (.int a3), some (.int a4), none] [.ref b0] M 0 0 (oI out) := by
  unfold f_X11_addArc_50 at h
  refine X.iconst (v := 1) (pc' := 51) dX11_addArc_50 rfl (by decide) ?_
  refine X.goto (pc' := 79) dX11_addArc_51 (by decide) ?_
  exact ok_X11_addArc_79 h
def f_X11_addArc_31 (fu : Nat) (a0 : Nat) (a1 : Int32) (a2 : Int32) (a3 : Int32) (a4 : Int32) (b0 : Int32) (M : List Ob) : Option (Int32 × List Ob) :=
  (hasO M a0 11).bind fun _ =>
  bd2 (f_X11_isNode fu a0 a1 M) fun v1 M2 =>
  if v1 = 0 then (f_X11_addArc_50 fu a0 a1 a2 a3 a4 a0 M2)
  else ((hasO M2 a0 11).bind fun _ =>
  bd2 (f_X11_isNode fu a0 a2 M2) fun v5 M6 =>
  if v5 = 0 then (f_X11_addArc_50 fu a0 a1 a2 a3 a4 a0 M6)
  else (if b0 = 0 then (f_X11_addArc_79 fu a0 a1 a2 a3 a4 a0 2 M6)
  else ((gP M6 a0 11 0).bind fun r9 =>
  (aI M6 r9 13 4).bind fun v12 =>
  if v12 = 16 then (f_X11_addArc_79 fu a0 a1 a2 a3 a4 a0 3 M6)
  else (f_X11_addArc_79 fu a0 a1 a2 a3 a4 a0 0 M6))))
set_option maxHeartbeats 4000000 in
theorem ok_X11_addArc_31 {G : GT} {fu : Nat} {out : Int32 × List Ob} {a0 : Nat} {a1 : Int32} {a2 : Int32} {a3 : Int32} {a4 : Int32} {b0 : Int32} {M : List Ob} (h : f_X11_addArc_31 fu a0 a1 a2 a3 a4 b0 M = some out) : X G t_X11_addArc [] 31 [some (.ref a0), some (.int a1), some (.int a2), some (.int a3), some (.int a4), none] [.int b0] M 0 0 (oI out) := by
  unfold f_X11_addArc_31 at h
  refine X.istore (L' := [some (.ref a0), some (.int a1), some (.int a2), some (.int a3), some (.int a4), some (.int b0)]) (pc' := 33) dX11_addArc_31 rfl (Nat.le_of_ble_eq_true rfl) rfl ?_
  refine X.aload_n (x := a0) (pc' := 34) dX11_addArc_33 rfl rfl rfl ?_
  refine X.aload_n (x := a0) (pc' := 35) dX11_addArc_34 rfl rfl rfl ?_
  refine X.iload_n (x := a1) (pc' := 36) dX11_addArc_35 rfl rfl rfl ?_
  obtain ⟨⟨⟩, e4, h⟩ := bindE h
  obtain ⟨v1, M2, e3, h⟩ := bd2E h
  refine X.callV (b := a0) (v := some (.int v1)) (As := [.int a1]) (st := [.ref a0]) (M' := M2) (pc' := 39) dX11_addArc_36 rfl cl_X11_193 mi_X11_isNode me_X11_isNode mr_X11_isNode e4 ⟨⟨Nat.le_of_ble_eq_true rfl, Nat.le_of_ble_eq_true rfl⟩, Nat.le_of_ble_eq_true rfl, Nat.le_of_ble_eq_true rfl⟩ rfl (Nat.le_of_ble_eq_true rfl) (ok_X11_isNode (G := zs G) e3) ?_
  show X G t_X11_addArc [] 39 [some (.ref a0), some (.int a1), some (.int a2), some (.int a3), some (.int a4), some (.int b0)] [.int v1, .ref a0] M2 0 0 _
  refine X.if_eq (tgt := 50) (pc' := 42) dX11_addArc_39 (by decide) rfl (fun hc => ?_) (fun hc => ?_)
  · rw [if_pos hc] at h
    refine X.sub (L := [some (.ref a0), some (.int a1), some (.int a2), some (.int a3), some (.int a4), none]) ?_ (⟨rfl, ⟨rfl, ⟨rfl, ⟨rfl, ⟨rfl, trivial⟩⟩⟩⟩⟩)
    exact ok_X11_addArc_50 h
  · rw [if_neg hc] at h
    refine X.aload_n (x := a0) (pc' := 43) dX11_addArc_42 rfl rfl rfl ?_
    refine X.iload_n (x := a2) (pc' := 44) dX11_addArc_43 rfl rfl rfl ?_
    obtain ⟨⟨⟩, e8, h⟩ := bindE h
    obtain ⟨v5, M6, e7, h⟩ := bd2E h
    refine X.callV (b := a0) (v := some (.int v5)) (As := [.int a2]) (st := [.ref a0]) (M' := M6) (pc' := 47) dX11_addArc_44 rfl cl_X11_193 mi_X11_isNode me_X11_isNode mr_X11_isNode e8 ⟨⟨Nat.le_of_ble_eq_true rfl, Nat.le_of_ble_eq_true rfl⟩, Nat.le_of_ble_eq_true rfl, Nat.le_of_ble_eq_true rfl⟩ rfl (Nat.le_of_ble_eq_true rfl) (ok_X11_isNode (G := zs G) e7) ?_
    show X G t_X11_addArc [] 47 [some (.ref a0), some (.int a1), some (.int a2), some (.int a3), some (.int a4), some (.int b0)] [.int v5, .ref a0] M6 0 0 _
    refine X.if_ne (tgt := 54) (pc' := 50) dX11_addArc_47 (by decide) rfl (fun hc => ?_) (fun hc => ?_)
    · rw [if_neg hc] at h
      refine X.iload (x := b0) (pc' := 56) dX11_addArc_54 rfl rfl ?_
      refine X.if_ne (tgt := 63) (pc' := 59) dX11_addArc_56 (by decide) rfl (fun hc => ?_) (fun hc => ?_)
      · rw [if_neg hc] at h
        refine X.aload_n (x := a0) (pc' := 64) dX11_addArc_63 rfl rfl rfl ?_
        obtain ⟨r9, e10, h⟩ := bindE h
        refine X.getf (pc' := 67) dX11_addArc_64 rfl fq_X11_7 (gP_spec e10) ?_
        refine X.iconst (v := 4) (pc' := 68) dX11_addArc_67 rfl (by decide) ?_
        obtain ⟨v12, e11, h⟩ := bindE h
        refine X.iald (pc' := 69) dX11_addArc_68 rfl e11 ?_
        refine X.bipush (v := 16) (pc' := 71) dX11_addArc_69 rfl (by decide) ?_
        refine X.icmp_ne (tgt := 78) (pc' := 74) dX11_addArc_71 (by decide) rfl (fun hc => ?_) (fun hc => ?_)
        · rw [if_neg hc] at h
          refine X.iconst (v := 0) (pc' := 79) dX11_addArc_78 rfl (by decide) ?_
          refine X.sub (L := [some (.ref a0), some (.int a1), some (.int a2), some (.int a3), some (.int a4), none]) ?_ (⟨rfl, ⟨rfl, ⟨rfl, ⟨rfl, ⟨rfl, trivial⟩⟩⟩⟩⟩)
          exact ok_X11_addArc_79 h
        · rw [if_pos hc] at h
          refine X.iconst (v := 3) (pc' := 75) dX11_addArc_74 rfl (by decide) ?_
          refine X.goto (pc' := 79) dX11_addArc_75 (by decide) ?_
          refine X.sub (L := [some (.ref a0), some (.int a1), some (.int a2), some (.int a3), some (.int a4), none]) ?_ (⟨rfl, ⟨rfl, ⟨rfl, ⟨rfl, ⟨rfl, trivial⟩⟩⟩⟩⟩)
          exact ok_X11_addArc_79 h
      · rw [if_pos hc] at h
        refine X.iconst (v := 2) (pc' := 60) dX11_addArc_59 rfl (by decide) ?_
        refine X.goto (pc' := 79) dX11_addArc_60 (by decide) ?_
        refine X.sub (L := [some (.ref a0), some (.int a1), some (.int a2), some (.int a3), some (.int a4), none]) ?_ (⟨rfl, ⟨rfl, ⟨rfl, ⟨rfl, ⟨rfl, trivial⟩⟩⟩⟩⟩)
        exact ok_X11_addArc_79 h
    · rw [if_pos hc] at h
      refine X.sub (L := [some (.ref a0), some (.int a1), some (.int a2), some (.int a3), some (.int a4), none]) ?_ (⟨rfl, ⟨rfl, ⟨rfl, ⟨rfl, ⟨rfl, trivial⟩⟩⟩⟩⟩)
      exact ok_X11_addArc_50 h
def f_X11_addArc_30 (fu : Nat) (a0 : Nat) (a1 : Int32) (a2 : Int32) (a3 : Int32) (a4 : Int32) (M : List Ob) : Option (Int32 × List Ob) :=
  f_X11_addArc_31 fu a0 a1 a2 a3 a4 0 M
set_option maxHeartbeats 4000000 in
theorem ok_X11_addArc_30 {G : GT} {fu : Nat} {out : Int32 × List Ob} {a0 : Nat} {a1 : Int32} {a2 : Int32} {a3 : Int32} {a4 : Int32} {M : List Ob} (h : f_X11_addArc_30 fu a0 a1 a2 a3 a4 M = some out) : X G t_X11_addArc [] 30 [some (.ref a0), some (.int a1), some (.int a2), some (.int a3), some (.int a4), none] [] M 0 0 (oI out) := by
  unfold f_X11_addArc_30 at h
  refine X.iconst (v := 0) (pc' := 31) dX11_addArc_30 rfl (by decide) ?_
  exact ok_X11_addArc_31 h
def f_X11_addArc (fu : Nat) (a0 : Nat) (a1 : Int32) (a2 : Int32) (a3 : Int32) (a4 : Int32) (M : List Ob) : Option (Int32 × List Ob) :=
  if a1 = a2 then (f_X11_addArc_30 fu a0 a1 a2 a3 a4 M)
  else (bd2 (f_X11_isIn fu a3 0 99 M) fun v1 M2 =>
  if v1 = 0 then (f_X11_addArc_30 fu a0 a1 a2 a3 a4 M2)
  else (bd2 (f_X11_isIn fu a4 0 99 M2) fun v5 M6 =>
  if v5 = 0 then (f_X11_addArc_30 fu a0 a1 a2 a3 a4 M6)
  else (f_X11_addArc_31 fu a0 a1 a2 a3 a4 1 M6)))
set_option maxHeartbeats 4000000 in
theorem ok_X11_addArc {G : GT} {fu : Nat} {a0 : Nat} {a1 : Int32} {a2 : Int32} {a3 : Int32} {a4 : Int32} {M : List Ob} {out : Int32 × List Ob} (h : f_X11_addArc fu a0 a1 a2 a3 a4 M = some out) : Sp G t_X11_addArc [.ref a0, .int a1, .int a2, .int a3, .int a4] M (oI out) := by
  refine Sp.of rfl (by decide +kernel) (cat_all rfl) (Nat.le_of_ble_eq_true rfl) ?_
  show X G t_X11_addArc [] 0 [some (.ref a0), some (.int a1), some (.int a2), some (.int a3), some (.int a4), none] [] M 0 0 (oI out)
  unfold f_X11_addArc at h
  refine X.iload_n (x := a1) (pc' := 1) dX11_addArc_0 rfl rfl rfl ?_
  refine X.iload_n (x := a2) (pc' := 2) dX11_addArc_1 rfl rfl rfl ?_
  refine X.icmp_eq (tgt := 30) (pc' := 5) dX11_addArc_2 (by decide) rfl (fun hc => ?_) (fun hc => ?_)
  · rw [if_pos hc] at h
    exact ok_X11_addArc_30 h
  · rw [if_neg hc] at h
    refine X.iload_n (x := a3) (pc' := 6) dX11_addArc_5 rfl rfl rfl ?_
    refine X.iconst (v := 0) (pc' := 7) dX11_addArc_6 rfl (by decide) ?_
    refine X.bipush (v := 99) (pc' := 9) dX11_addArc_7 rfl (by decide) ?_
    obtain ⟨v1, M2, e3, h⟩ := bd2E h
    refine X.callS (v := some (.int v1)) (As := [.int a3, .int 0, .int 99]) (st := []) (M' := M2) (pc' := 12) dX11_addArc_9 rfl cl_X11_72 ms_X11_isIn ⟨⟨Nat.le_of_ble_eq_true rfl, Nat.le_of_ble_eq_true rfl⟩, Nat.le_of_ble_eq_true rfl, Nat.le_of_ble_eq_true rfl⟩ rfl (Nat.le_of_ble_eq_true rfl) (ok_X11_isIn (G := zs G) e3) ?_
    show X G t_X11_addArc [] 12 [some (.ref a0), some (.int a1), some (.int a2), some (.int a3), some (.int a4), none] [.int v1] M2 0 0 _
    refine X.if_eq (tgt := 30) (pc' := 15) dX11_addArc_12 (by decide) rfl (fun hc => ?_) (fun hc => ?_)
    · rw [if_pos hc] at h
      exact ok_X11_addArc_30 h
    · rw [if_neg hc] at h
      refine X.iload (x := a4) (pc' := 17) dX11_addArc_15 rfl rfl ?_
      refine X.iconst (v := 0) (pc' := 18) dX11_addArc_17 rfl (by decide) ?_
      refine X.bipush (v := 99) (pc' := 20) dX11_addArc_18 rfl (by decide) ?_
      obtain ⟨v5, M6, e7, h⟩ := bd2E h
      refine X.callS (v := some (.int v5)) (As := [.int a4, .int 0, .int 99]) (st := []) (M' := M6) (pc' := 23) dX11_addArc_20 rfl cl_X11_72 ms_X11_isIn ⟨⟨Nat.le_of_ble_eq_true rfl, Nat.le_of_ble_eq_true rfl⟩, Nat.le_of_ble_eq_true rfl, Nat.le_of_ble_eq_true rfl⟩ rfl (Nat.le_of_ble_eq_true rfl) (ok_X11_isIn (G := zs G) e7) ?_
      show X G t_X11_addArc [] 23 [some (.ref a0), some (.int a1), some (.int a2), some (.int a3), some (.int a4), none] [.int v5] M6 0 0 _
      refine X.if_eq (tgt := 30) (pc' := 26) dX11_addArc_23 (by decide) rfl (fun hc => ?_) (fun hc => ?_)
      · rw [if_pos hc] at h
        exact ok_X11_addArc_30 h
      · rw [if_neg hc] at h
        refine X.iconst (v := 1) (pc' := 27) dX11_addArc_26 rfl (by decide) ?_
        refine X.goto (pc' := 31) dX11_addArc_27 (by decide) ?_
        exact ok_X11_addArc_31 h
def f_X11_uses_134 (fu : Nat) (a0 : Nat) (a1 : Int32) (a2 : Int32) (a3 : Int32) (a4 : Int32) (a5 : Int32) (a6 : Int32) (a7 : Int32) (b0 : Nat) (b1 : Int32) (b2 : Int32) (b3 : Int32) (M : List Ob) (k69 : Nat → Int32 → Int32 → Int32 → Int32 → Int32 → Int32 → Int32 → List Ob → Option (Int32 × List Ob)) (k142 : Nat → Int32 → Int32 → Int32 → Int32 → List Ob → Option (Int32 × List Ob)) : Option (Int32 × List Ob) :=
  (aSet M b0 13 b1 (.int (b2 - b3))).bind fun M2 =>
  k69 a0 a1 a2 a3 a4 a5 a6 (a7 + 1) M2
set_option maxHeartbeats 4000000 in
theorem ok_X11_uses_134 {G : GT} {fu : Nat} {out : Int32 × List Ob} {a0 : Nat} {a1 : Int32} {a2 : Int32} {a3 : Int32} {a4 : Int32} {a5 : Int32} {a6 : Int32} {a7 : Int32} {b0 : Nat} {b1 : Int32} {b2 : Int32} {b3 : Int32} {M : List Ob} {k69 : Nat → Int32 → Int32 → Int32 → Int32 → Int32 → Int32 → Int32 → List Ob → Option (Int32 × List Ob)} {k142 : Nat → Int32 → Int32 → Int32 → Int32 → List Ob → Option (Int32 × List Ob)} (hk69 : ∀ (a0 : Nat) (a1 : Int32) (a2 : Int32) (a3 : Int32) (a4 : Int32) (a5 : Int32) (a6 : Int32) (a7 : Int32) (M : List Ob), k69 a0 a1 a2 a3 a4 a5 a6 a7 M = some out → X G t_X11_uses [] 69 [some (.ref a0), some (.int a1), some (.int a2), some (.int a3), some (.int a4), some (.int a5), some (.int a6), some (.int a7)] [] M 0 0 (oI out)) (hk142 : ∀ (a0 : Nat) (a1 : Int32) (a2 : Int32) (a3 : Int32) (a4 : Int32) (M : List Ob), k142 a0 a1 a2 a3 a4 M = some out → X G t_X11_uses [] 142 [some (.ref a0), some (.int a1), some (.int a2), some (.int a3), some (.int a4), none, none, none] [] M 0 0 (oI out)) (h : f_X11_uses_134 fu a0 a1 a2 a3 a4 a5 a6 a7 b0 b1 b2 b3 M k69 k142 = some out) : X G t_X11_uses [] 134 [some (.ref a0), some (.int a1), some (.int a2), some (.int a3), some (.int a4), some (.int a5), some (.int a6), some (.int a7)] [.int b3, .int b2, .int b1, .ref b0] M 0 0 (oI out) := by
  unfold f_X11_uses_134 at h
  refine X.isub (pc' := 135) dX11_uses_134 rfl ?_
  obtain ⟨M2, e1, h⟩ := bindE h
  refine X.iast (pc' := 136) dX11_uses_135 rfl e1 ?_
  refine X.iinc (v := (a7 + 1)) (L' := [some (.ref a0), some (.int a1), some (.int a2), some (.int a3), some (.int a4), some (.int a5), some (.int a6), some (.int (a7 + 1))]) (pc' := 139) dX11_uses_136 rfl rfl (congrArg (fun y => a7 + y) (show Int32.ofInt 1 = 1 by decide)) (Nat.le_of_ble_eq_true rfl) rfl ?_
  refine X.goto (pc' := 69) dX11_uses_139 (by decide) ?_
  exact hk69 _ _ _ _ _ _ _ _ _ h
def f_X11_uses_133 (fu : Nat) (a0 : Nat) (a1 : Int32) (a2 : Int32) (a3 : Int32) (a4 : Int32) (a5 : Int32) (a6 : Int32) (a7 : Int32) (b0 : Nat) (b1 : Int32) (b2 : Int32) (M : List Ob) (k69 : Nat → Int32 → Int32 → Int32 → Int32 → Int32 → Int32 → Int32 → List Ob → Option (Int32 × List Ob)) (k142 : Nat → Int32 → Int32 → Int32 → Int32 → List Ob → Option (Int32 × List Ob)) : Option (Int32 × List Ob) :=
  f_X11_uses_134 fu a0 a1 a2 a3 a4 a5 a6 a7 b0 b1 b2 0 M k69 k142
set_option maxHeartbeats 4000000 in
theorem ok_X11_uses_133 {G : GT} {fu : Nat} {out : Int32 × List Ob} {a0 : Nat} {a1 : Int32} {a2 : Int32} {a3 : Int32} {a4 : Int32} {a5 : Int32} {a6 : Int32} {a7 : Int32} {b0 : Nat} {b1 : Int32} {b2 : Int32} {M : List Ob} {k69 : Nat → Int32 → Int32 → Int32 → Int32 → Int32 → Int32 → Int32 → List Ob → Option (Int32 × List Ob)} {k142 : Nat → Int32 → Int32 → Int32 → Int32 → List Ob → Option (Int32 × List Ob)} (hk69 : ∀ (a0 : Nat) (a1 : Int32) (a2 : Int32) (a3 : Int32) (a4 : Int32) (a5 : Int32) (a6 : Int32) (a7 : Int32) (M : List Ob), k69 a0 a1 a2 a3 a4 a5 a6 a7 M = some out → X G t_X11_uses [] 69 [some (.ref a0), some (.int a1), some (.int a2), some (.int a3), some (.int a4), some (.int a5), some (.int a6), some (.int a7)] [] M 0 0 (oI out)) (hk142 : ∀ (a0 : Nat) (a1 : Int32) (a2 : Int32) (a3 : Int32) (a4 : Int32) (M : List Ob), k142 a0 a1 a2 a3 a4 M = some out → X G t_X11_uses [] 142 [some (.ref a0), some (.int a1), some (.int a2), some (.int a3), some (.int a4), none, none, none] [] M 0 0 (oI out)) (h : f_X11_uses_133 fu a0 a1 a2 a3 a4 a5 a6 a7 b0 b1 b2 M k69 k142 = some out) : X G t_X11_uses [] 133 [some (.ref a0), some (.int a1), some (.int a2), some (.int a3), some (.int a4), some (.int a5), some (.int a6), some (.int a7)] [.int b2, .int b1, .ref b0] M 0 0 (oI out) := by
  unfold f_X11_uses_133 at h
  refine X.iconst (v := 0) (pc' := 134) dX11_uses_133 rfl (by decide) ?_
  exact ok_X11_uses_134 hk69 hk142 h
def f_X11_uses_99 (fu : Nat) (a0 : Nat) (a1 : Int32) (a2 : Int32) (a4 : Int32) (a5 : Int32) (a6 : Int32) (a7 : Int32) (b0 : Int32) (M : List Ob) (k69 : Nat → Int32 → Int32 → Int32 → Int32 → Int32 → Int32 → Int32 → List Ob → Option (Int32 × List Ob)) (k142 : Nat → Int32 → Int32 → Int32 → Int32 → List Ob → Option (Int32 × List Ob)) : Option (Int32 × List Ob) :=
  (gP M a0 11 0).bind fun r1 =>
  (aI M r1 13 (a5 + a7)).bind fun v4 =>
  if a2 = 0 then (f_X11_uses_133 fu a0 a1 a2 b0 a4 a5 a6 a7 r1 (a5 + a7) v4 M k69 k142)
  else ((gP M a0 11 0).bind fun r5 =>
  (aI M r5 13 (a5 + a7)).bind fun v8 =>
  if v8 ≤ a1 then (f_X11_uses_133 fu a0 a1 a2 b0 a4 a5 a6 a7 r1 (a5 + a7) v4 M k69 k142)
  else (f_X11_uses_134 fu a0 a1 a2 b0 a4 a5 a6 a7 r1 (a5 + a7) v4 1 M k69 k142))
set_option maxHeartbeats 4000000 in
theorem ok_X11_uses_99 {G : GT} {fu : Nat} {out : Int32 × List Ob} {a0 : Nat} {a1 : Int32} {a2 : Int32} {a4 : Int32} {a5 : Int32} {a6 : Int32} {a7 : Int32} {b0 : Int32} {M : List Ob} {k69 : Nat → Int32 → Int32 → Int32 → Int32 → Int32 → Int32 → Int32 → List Ob → Option (Int32 × List Ob)} {k142 : Nat → Int32 → Int32 → Int32 → Int32 → List Ob → Option (Int32 × List Ob)} (hk69 : ∀ (a0 : Nat) (a1 : Int32) (a2 : Int32) (a3 : Int32) (a4 : Int32) (a5 : Int32) (a6 : Int32) (a7 : Int32) (M : List Ob), k69 a0 a1 a2 a3 a4 a5 a6 a7 M = some out → X G t_X11_uses [] 69 [some (.ref a0), some (.int a1), some (.int a2), some (.int a3), some (.int a4), some (.int a5), some (.int a6), some (.int a7)] [] M 0 0 (oI out)) (hk142 : ∀ (a0 : Nat) (a1 : Int32) (a2 : Int32) (a3 : Int32) (a4 : Int32) (M : List Ob), k142 a0 a1 a2 a3 a4 M = some out → X G t_X11_uses [] 142 [some (.ref a0), some (.int a1), some (.int a2), some (.int a3), some (.int a4), none, none, none] [] M 0 0 (oI out)) (h : f_X11_uses_99 fu a0 a1 a2 a4 a5 a6 a7 b0 M k69 k142 = some out) : X G t_X11_uses [] 99 [some (.ref a0), some (.int a1), some (.int a2), none, some (.int a4), some (.int a5), some (.int a6), some (.int a7)] [.int b0] M 0 0 (oI out) := by
  unfold f_X11_uses_99 at h
  refine X.istore_n (L' := [some (.ref a0), some (.int a1), some (.int a2), some (.int b0), some (.int a4), some (.int a5), some (.int a6), some (.int a7)]) (pc' := 100) dX11_uses_99 rfl rfl (Nat.le_of_ble_eq_true rfl) rfl ?_
  refine X.aload_n (x := a0) (pc' := 101) dX11_uses_100 rfl rfl rfl ?_
  obtain ⟨r1, e2, h⟩ := bindE h
  refine X.getf (pc' := 104) dX11_uses_101 rfl fq_X11_7 (gP_spec e2) ?_
  refine X.iload (x := a5) (pc' := 106) dX11_uses_104 rfl rfl ?_
  refine X.iload (x := a7) (pc' := 108) dX11_uses_106 rfl rfl ?_
  refine X.iadd (pc' := 109) dX11_uses_108 rfl ?_
  refine X.dup2 (pc' := 110) dX11_uses_109 rfl rfl rfl ?_
  obtain ⟨v4, e3, h⟩ := bindE h
  refine X.iald (pc' := 111) dX11_uses_110 rfl e3 ?_
  refine X.iload_n (x := a2) (pc' := 112) dX11_uses_111 rfl rfl rfl ?_
  refine X.if_eq (tgt := 133) (pc' := 115) dX11_uses_112 (by decide) rfl (fun hc => ?_) (fun hc => ?_)
  · rw [if_pos hc] at h
    exact ok_X11_uses_133 hk69 hk142 h
  · rw [if_neg hc] at h
    refine X.aload_n (x := a0) (pc' := 116) dX11_uses_115 rfl rfl rfl ?_
    obtain ⟨r5, e6, h⟩ := bindE h
    refine X.getf (pc' := 119) dX11_uses_116 rfl fq_X11_7 (gP_spec e6) ?_
    refine X.iload (x := a5) (pc' := 121) dX11_uses_119 rfl rfl ?_
    refine X.iload (x := a7) (pc' := 123) dX11_uses_121 rfl rfl ?_
    refine X.iadd (pc' := 124) dX11_uses_123 rfl ?_
    obtain ⟨v8, e7, h⟩ := bindE h
    refine X.iald (pc' := 125) dX11_uses_124 rfl e7 ?_
    refine X.iload_n (x := a1) (pc' := 126) dX11_uses_125 rfl rfl rfl ?_
    refine X.icmp_le (tgt := 133) (pc' := 129) dX11_uses_126 (by decide) rfl (fun hc => ?_) (fun hc => ?_)
    · rw [if_pos hc] at h
      exact ok_X11_uses_133 hk69 hk142 h
    · rw [if_neg hc] at h
      refine X.iconst (v := 1) (pc' := 130) dX11_uses_129 rfl (by decide) ?_
      refine X.goto (pc' := 134) dX11_uses_130 (by decide) ?_
      exact ok_X11_uses_134 hk69 hk142 h
def f_X11_uses_94 (fu : Nat) (a0 : Nat) (a1 : Int32) (a2 : Int32) (a4 : Int32) (a5 : Int32) (a6 : Int32) (a7 : Int32) (M : List Ob) (k69 : Nat → Int32 → Int32 → Int32 → Int32 → Int32 → Int32 → Int32 → List Ob → Option (Int32 × List Ob)) (k142 : Nat → Int32 → Int32 → Int32 → Int32 → List Ob → Option (Int32 × List Ob)) : Option (Int32 × List Ob) :=
  f_X11_uses_99 fu a0 a1 a2 a4 a5 a6 a7 1 M k69 k142
set_option maxHeartbeats 4000000 in
theorem ok_X11_uses_94 {G : GT} {fu : Nat} {out : Int32 × List Ob} {a0 : Nat} {a1 : Int32} {a2 : Int32} {a4 : Int32} {a5 : Int32} {a6 : Int32} {a7 : Int32} {M : List Ob} {k69 : Nat → Int32 → Int32 → Int32 → Int32 → Int32 → Int32 → Int32 → List Ob → Option (Int32 × List Ob)} {k142 : Nat → Int32 → Int32 → Int32 → Int32 → List Ob → Option (Int32 × List Ob)} (hk69 : ∀ (a0 : Nat) (a1 : Int32) (a2 : Int32) (a3 : Int32) (a4 : Int32) (a5 : Int32) (a6 : Int32) (a7 : Int32) (M : List Ob), k69 a0 a1 a2 a3 a4 a5 a6 a7 M = some out → X G t_X11_uses [] 69 [some (.ref a0), some (.int a1), some (.int a2), some (.int a3), some (.int a4), some (.int a5), some (.int a6), some (.int a7)] [] M 0 0 (oI out)) (hk142 : ∀ (a0 : Nat) (a1 : Int32) (a2 : Int32) (a3 : Int32) (a4 : Int32) (M : List Ob), k142 a0 a1 a2 a3 a4 M = some out → X G t_X11_uses [] 142 [some (.ref a0), some (.int a1), some (.int a2), some (.int a3), some (.int a4), none, none, none] [] M 0 0 (oI out)) (h : f_X11_uses_94 fu a0 a1 a2 a4 a5 a6 a7 M k69 k142 = some out) : X G t_X11_uses [] 94 [some (.ref a0), some (.int a1), some (.int a2), none, some (.int a4), some (.int a5), some (.int a6), some (.int a7)] [] M 0 0 (oI out) := by
  unfold f_X11_uses_94 at h
  refine X.iconst (v := 1) (pc' := 95) dX11_uses_94 rfl (by decide) ?_
  refine X.goto (pc' := 99) dX11_uses_95 (by decide) ?_
  exact ok_X11_uses_99 hk69 hk142 h
def f_X11_uses_69b (fu : Nat) (a0 : Nat) (a1 : Int32) (a2 : Int32) (a3 : Int32) (a4 : Int32) (a5 : Int32) (a6 : Int32) (a7 : Int32) (M : List Ob) (k69 : Nat → Int32 → Int32 → Int32 → Int32 → Int32 → Int32 → Int32 → List Ob → Option (Int32 × List Ob)) (k142 : Nat → Int32 → Int32 → Int32 → Int32 → List Ob → Option (Int32 × List Ob)) : Option (Int32 × List Ob) :=
  if a6 < a7 then (k142 a0 a1 a2 a3 a4 M)
  else (if a3 = 0 then ((gP M a0 11 0).bind fun r1 =>
  (aI M r1 13 (a5 + a7)).bind fun v4 =>
  if v4 = a1 then (f_X11_uses_94 fu a0 a1 a2 a4 a5 a6 a7 M k69 k142)
  else (f_X11_uses_99 fu a0 a1 a2 a4 a5 a6 a7 0 M k69 k142))
  else (f_X11_uses_94 fu a0 a1 a2 a4 a5 a6 a7 M k69 k142))
set_option maxHeartbeats 4000000 in
theorem ok_X11_uses_69b {G : GT} {fu : Nat} {out : Int32 × List Ob} {a0 : Nat} {a1 : Int32} {a2 : Int32} {a3 : Int32} {a4 : Int32} {a5 : Int32} {a6 : Int32} {a7 : Int32} {M : List Ob} {k69 : Nat → Int32 → Int32 → Int32 → Int32 → Int32 → Int32 → Int32 → List Ob → Option (Int32 × List Ob)} {k142 : Nat → Int32 → Int32 → Int32 → Int32 → List Ob → Option (Int32 × List Ob)} (hk69 : ∀ (a0 : Nat) (a1 : Int32) (a2 : Int32) (a3 : Int32) (a4 : Int32) (a5 : Int32) (a6 : Int32) (a7 : Int32) (M : List Ob), k69 a0 a1 a2 a3 a4 a5 a6 a7 M = some out → X G t_X11_uses [] 69 [some (.ref a0), some (.int a1), some (.int a2), some (.int a3), some (.int a4), some (.int a5), some (.int a6), some (.int a7)] [] M 0 0 (oI out)) (hk142 : ∀ (a0 : Nat) (a1 : Int32) (a2 : Int32) (a3 : Int32) (a4 : Int32) (M : List Ob), k142 a0 a1 a2 a3 a4 M = some out → X G t_X11_uses [] 142 [some (.ref a0), some (.int a1), some (.int a2), some (.int a3), some (.int a4), none, none, none] [] M 0 0 (oI out)) (h : f_X11_uses_69b fu a0 a1 a2 a3 a4 a5 a6 a7 M k69 k142 = some out) : X G t_X11_uses [] 69 [some (.ref a0), some (.int a1), some (.int a2), some (.int a3), some (.int a4), some (.int a5), some (.int a6), some (.int a7)] [] M 0 0 (oI out) := by
  unfold f_X11_uses_69b at h
  refine X.iload (x := a7) (pc' := 71) dX11_uses_69 rfl rfl ?_
  refine X.iload (x := a6) (pc' := 73) dX11_uses_71 rfl rfl ?_
  refine X.icmp_gt (tgt := 142) (pc' := 76) dX11_uses_73 (by decide) rfl (fun hc => ?_) (fun hc => ?_)
  · rw [if_pos hc] at h
    refine X.sub (L := [some (.ref a0), some (.int a1), some (.int a2), some (.int a3), some (.int a4), none, none, none]) ?_ (⟨rfl, ⟨rfl, ⟨rfl, ⟨rfl, ⟨rfl, trivial⟩⟩⟩⟩⟩)
    exact hk142 _ _ _ _ _ _ h
  · rw [if_neg hc] at h
    refine X.iload_n (x := a3) (pc' := 77) dX11_uses_76 rfl rfl rfl ?_
    refine X.if_ne (tgt := 94) (pc' := 80) dX11_uses_77 (by decide) rfl (fun hc => ?_) (fun hc => ?_)
    · rw [if_neg hc] at h
      refine X.sub (L := [some (.ref a0), some (.int a1), some (.int a2), none, some (.int a4), some (.int a5), some (.int a6), some (.int a7)]) ?_ (⟨rfl, ⟨rfl, ⟨rfl, ⟨rfl, ⟨rfl, ⟨rfl, ⟨rfl, trivial⟩⟩⟩⟩⟩⟩⟩)
      exact ok_X11_uses_94 hk69 hk142 h
    · rw [if_pos hc] at h
      refine X.aload_n (x := a0) (pc' := 81) dX11_uses_80 rfl rfl rfl ?_
      obtain ⟨r1, e2, h⟩ := bindE h
      refine X.getf (pc' := 84) dX11_uses_81 rfl fq_X11_7 (gP_spec e2) ?_
      refine X.iload (x := a5) (pc' := 86) dX11_uses_84 rfl rfl ?_
      refine X.iload (x := a7) (pc' := 88) dX11_uses_86 rfl rfl ?_
      refine X.iadd (pc' := 89) dX11_uses_88 rfl ?_
      obtain ⟨v4, e3, h⟩ := bindE h
      refine X.iald (pc' := 90) dX11_uses_89 rfl e3 ?_
      refine X.iload_n (x := a1) (pc' := 91) dX11_uses_90 rfl rfl rfl ?_
      refine X.icmp_ne (tgt := 98) (pc' := 94) dX11_uses_91 (by decide) rfl (fun hc => ?_) (fun hc => ?_)
      · rw [if_neg hc] at h
        refine X.iconst (v := 0) (pc' := 99) dX11_uses_98 rfl (by decide) ?_
        refine X.sub (L := [some (.ref a0), some (.int a1), some (.int a2), none, some (.int a4), some (.int a5), some (.int a6), some (.int a7)]) ?_ (⟨rfl, ⟨rfl, ⟨rfl, ⟨rfl, ⟨rfl, ⟨rfl, ⟨rfl, trivial⟩⟩⟩⟩⟩⟩⟩)
        exact ok_X11_uses_99 hk69 hk142 h
      · rw [if_pos hc] at h
        refine X.sub (L := [some (.ref a0), some (.int a1), some (.int a2), none, some (.int a4), some (.int a5), some (.int a6), some (.int a7)]) ?_ (⟨rfl, ⟨rfl, ⟨rfl, ⟨rfl, ⟨rfl, ⟨rfl, ⟨rfl, trivial⟩⟩⟩⟩⟩⟩⟩)
        exact ok_X11_uses_94 hk69 hk142 h
def f_X11_uses_69 (fu : Nat) (k142 : Nat → Int32 → Int32 → Int32 → Int32 → List Ob → Option (Int32 × List Ob)) : Nat → Nat → Int32 → Int32 → Int32 → Int32 → Int32 → Int32 → Int32 → List Ob → Option (Int32 × List Ob)
  | 0, _, _, _, _, _, _, _, _, _ => none
  | n + 1, a0, a1, a2, a3, a4, a5, a6, a7, M => f_X11_uses_69b fu a0 a1 a2 a3 a4 a5 a6 a7 M (fun a0 a1 a2 a3 a4 a5 a6 a7 M => f_X11_uses_69 fu k142 n a0 a1 a2 a3 a4 a5 a6 a7 M) k142
theorem ok_X11_uses_69 {G : GT} {fu : Nat} {out : Int32 × List Ob} {k142 : Nat → Int32 → Int32 → Int32 → Int32 → List Ob → Option (Int32 × List Ob)} (hk142 : ∀ (a0 : Nat) (a1 : Int32) (a2 : Int32) (a3 : Int32) (a4 : Int32) (M : List Ob), k142 a0 a1 a2 a3 a4 M = some out → X G t_X11_uses [] 142 [some (.ref a0), some (.int a1), some (.int a2), some (.int a3), some (.int a4), none, none, none] [] M 0 0 (oI out)) : ∀ (n : Nat) (a0 : Nat) (a1 : Int32) (a2 : Int32) (a3 : Int32) (a4 : Int32) (a5 : Int32) (a6 : Int32) (a7 : Int32) (M : List Ob), f_X11_uses_69 fu k142 n a0 a1 a2 a3 a4 a5 a6 a7 M = some out → X G t_X11_uses [] 69 [some (.ref a0), some (.int a1), some (.int a2), some (.int a3), some (.int a4), some (.int a5), some (.int a6), some (.int a7)] [] M 0 0 (oI out) := by
  intro n
  induction n with
  | zero =>
    intro a0 a1 a2 a3 a4 a5 a6 a7 M h
    unfold f_X11_uses_69 at h
    cases h
  | succ n ih =>
    intro a0 a1 a2 a3 a4 a5 a6 a7 M h
    unfold f_X11_uses_69 at h
    exact ok_X11_uses_69b ih hk142 h
def f_X11_uses_142 (fu : Nat) (a0 : Nat) (a1 : Int32) (a2 : Int32) (a3 : Int32) (a4 : Int32) (M : List Ob) (k5 : Nat → Int32 → Int32 → Int32 → Int32 → List Ob → Option (Int32 × List Ob)) : Option (Int32 × List Ob) :=
  k5 a0 a1 a2 a3 (a4 + 1) M
set_option maxHeartbeats 4000000 in
theorem ok_X11_uses_142 {G : GT} {fu : Nat} {out : Int32 × List Ob} {a0 : Nat} {a1 : Int32} {a2 : Int32} {a3 : Int32} {a4 : Int32} {M : List Ob} {k5 : Nat → Int32 → Int32 → Int32 → Int32 → List Ob → Option (Int32 × List Ob)} (hk5 : ∀ (a0 : Nat) (a1 : Int32) (a2 : Int32) (a3 : Int32) (a4 : Int32) (M : List Ob), k5 a0 a1 a2 a3 a4 M = some out → X G t_X11_uses [] 5 [some (.ref a0), some (.int a1), some (.int a2), some (.int a3), some (.int a4), none, none, none] [] M 0 0 (oI out)) (h : f_X11_uses_142 fu a0 a1 a2 a3 a4 M k5 = some out) : X G t_X11_uses [] 142 [some (.ref a0), some (.int a1), some (.int a2), some (.int a3), some (.int a4), none, none, none] [] M 0 0 (oI out) := by
  unfold f_X11_uses_142 at h
  refine X.iinc (v := (a4 + 1)) (L' := [some (.ref a0), some (.int a1), some (.int a2), some (.int a3), some (.int (a4 + 1)), none, none, none]) (pc' := 145) dX11_uses_142 rfl rfl (congrArg (fun y => a4 + y) (show Int32.ofInt 1 = 1 by decide)) (Nat.le_of_ble_eq_true rfl) rfl ?_
  refine X.goto (pc' := 5) dX11_uses_145 (by decide) ?_
  exact hk5 _ _ _ _ _ _ h
def f_X11_uses_64 (fu : Nat) (a0 : Nat) (a1 : Int32) (a2 : Int32) (a3 : Int32) (a4 : Int32) (a5 : Int32) (b0 : Int32) (M : List Ob) (k5 : Nat → Int32 → Int32 → Int32 → Int32 → List Ob → Option (Int32 × List Ob)) : Option (Int32 × List Ob) :=
  f_X11_uses_69 fu (fun x1 x2 x3 x4 x5 M6 => f_X11_uses_142 fu x1 x2 x3 x4 x5 M6 k5) fu a0 a1 a2 a3 a4 a5 b0 1 M
set_option maxHeartbeats 4000000 in
theorem ok_X11_uses_64 {G : GT} {fu : Nat} {out : Int32 × List Ob} {a0 : Nat} {a1 : Int32} {a2 : Int32} {a3 : Int32} {a4 : Int32} {a5 : Int32} {b0 : Int32} {M : List Ob} {k5 : Nat → Int32 → Int32 → Int32 → Int32 → List Ob → Option (Int32 × List Ob)} (hk5 : ∀ (a0 : Nat) (a1 : Int32) (a2 : Int32) (a3 : Int32) (a4 : Int32) (M : List Ob), k5 a0 a1 a2 a3 a4 M = some out → X G t_X11_uses [] 5 [some (.ref a0), some (.int a1), some (.int a2), some (.int a3), some (.int a4), none, none, none] [] M 0 0 (oI out)) (h : f_X11_uses_64 fu a0 a1 a2 a3 a4 a5 b0 M k5 = some out) : X G t_X11_uses [] 64 [some (.ref a0), some (.int a1), some (.int a2), some (.int a3), some (.int a4), some (.int a5), none, none] [.int b0] M 0 0 (oI out) := by
  unfold f_X11_uses_64 at h
  refine X.istore (L' := [some (.ref a0), some (.int a1), some (.int a2), some (.int a3), some (.int a4), some (.int a5), some (.int b0), none]) (pc' := 66) dX11_uses_64 rfl (Nat.le_of_ble_eq_true rfl) rfl ?_
  refine X.iconst (v := 1) (pc' := 67) dX11_uses_66 rfl (by decide) ?_
  refine X.istore (L' := [some (.ref a0), some (.int a1), some (.int a2), some (.int a3), some (.int a4), some (.int a5), some (.int b0), some (.int 1)]) (pc' := 69) dX11_uses_67 rfl (Nat.le_of_ble_eq_true rfl) rfl ?_
  refine ok_X11_uses_69 ?_ fu _ _ _ _ _ _ _ _ _ h
  · intro x1 x2 x3 x4 x5 M6 h
    exact ok_X11_uses_142 hk5 h
def f_X11_uses_53 (fu : Nat) (a0 : Nat) (a1 : Int32) (a2 : Int32) (a3 : Int32) (a4 : Int32) (a5 : Int32) (M : List Ob) (k5 : Nat → Int32 → Int32 → Int32 → Int32 → List Ob → Option (Int32 × List Ob)) : Option (Int32 × List Ob) :=
  (gP M a0 11 0).bind fun r1 =>
  (aI M r1 13 a5).bind fun v4 =>
  f_X11_uses_64 fu a0 a1 a2 a3 a4 a5 v4 M k5
set_option maxHeartbeats 4000000 in
theorem ok_X11_uses_53 {G : GT} {fu : Nat} {out : Int32 × List Ob} {a0 : Nat} {a1 : Int32} {a2 : Int32} {a3 : Int32} {a4 : Int32} {a5 : Int32} {M : List Ob} {k5 : Nat → Int32 → Int32 → Int32 → Int32 → List Ob → Option (Int32 × List Ob)} (hk5 : ∀ (a0 : Nat) (a1 : Int32) (a2 : Int32) (a3 : Int32) (a4 : Int32) (M : List Ob), k5 a0 a1 a2 a3 a4 M = some out → X G t_X11_uses [] 5 [some (.ref a0), some (.int a1), some (.int a2), some (.int a3), some (.int a4), none, none, none] [] M 0 0 (oI out)) (h : f_X11_uses_53 fu a0 a1 a2 a3 a4 a5 M k5 = some out) : X G t_X11_uses [] 53 [some (.ref a0), some (.int a1), some (.int a2), some (.int a3), some (.int a4), some (.int a5), none, none] [] M 0 0 (oI out) := by
  unfold f_X11_uses_53 at h
  refine X.aload_n (x := a0) (pc' := 54) dX11_uses_53 rfl rfl rfl ?_
  obtain ⟨r1, e2, h⟩ := bindE h
  refine X.getf (pc' := 57) dX11_uses_54 rfl fq_X11_7 (gP_spec e2) ?_
  refine X.iload (x := a5) (pc' := 59) dX11_uses_57 rfl rfl ?_
  obtain ⟨v4, e3, h⟩ := bindE h
  refine X.iald (pc' := 60) dX11_uses_59 rfl e3 ?_
  refine X.goto (pc' := 64) dX11_uses_60 (by decide) ?_
  exact ok_X11_uses_64 hk5 h
def f_X11_uses_32 (fu : Nat) (a0 : Nat) (a1 : Int32) (a2 : Int32) (a3 : Int32) (a4 : Int32) (b0 : Int32) (M : List Ob) (k5 : Nat → Int32 → Int32 → Int32 → Int32 → List Ob → Option (Int32 × List Ob)) : Option (Int32 × List Ob) :=
  (gP M a0 11 0).bind fun r1 =>
  (aI M r1 13 69).bind fun v4 =>
  if a4 < v4 then (f_X11_uses_53 fu a0 a1 a2 a3 a4 b0 M k5)
  else (if a4 = 6 then (f_X11_uses_53 fu a0 a1 a2 a3 a4 b0 M k5)
  else (f_X11_uses_64 fu a0 a1 a2 a3 a4 b0 0 M k5))
set_option maxHeartbeats 4000000 in
theorem ok_X11_uses_32 {G : GT} {fu : Nat} {out : Int32 × List Ob} {a0 : Nat} {a1 : Int32} {a2 : Int32} {a3 : Int32} {a4 : Int32} {b0 : Int32} {M : List Ob} {k5 : Nat → Int32 → Int32 → Int32 → Int32 → List Ob → Option (Int32 × List Ob)} (hk5 : ∀ (a0 : Nat) (a1 : Int32) (a2 : Int32) (a3 : Int32) (a4 : Int32) (M : List Ob), k5 a0 a1 a2 a3 a4 M = some out → X G t_X11_uses [] 5 [some (.ref a0), some (.int a1), some (.int a2), some (.int a3), some (.int a4), none, none, none] [] M 0 0 (oI out)) (h : f_X11_uses_32 fu a0 a1 a2 a3 a4 b0 M k5 = some out) : X G t_X11_uses [] 32 [some (.ref a0), some (.int a1), some (.int a2), some (.int a3), some (.int a4), none, none, none] [.int b0] M 0 0 (oI out) := by
  unfold f_X11_uses_32 at h
  refine X.istore (L' := [some (.ref a0), some (.int a1), some (.int a2), some (.int a3), some (.int a4), some (.int b0), none, none]) (pc' := 34) dX11_uses_32 rfl (Nat.le_of_ble_eq_true rfl) rfl ?_
  refine X.iload (x := a4) (pc' := 36) dX11_uses_34 rfl rfl ?_
  refine X.aload_n (x := a0) (pc' := 37) dX11_uses_36 rfl rfl rfl ?_
  obtain ⟨r1, e2, h⟩ := bindE h
  refine X.getf (pc' := 40) dX11_uses_37 rfl fq_X11_7 (gP_spec e2) ?_
  refine X.bipush (v := 69) (pc' := 42) dX11_uses_40 rfl (by decide) ?_
  obtain ⟨v4, e3, h⟩ := bindE h
  refine X.iald (pc' := 43) dX11_uses_42 rfl e3 ?_
  refine X.icmp_lt (tgt := 53) (pc' := 46) dX11_uses_43 (by decide) rfl (fun hc => ?_) (fun hc => ?_)
  · rw [if_pos hc] at h
    exact ok_X11_uses_53 hk5 h
  · rw [if_neg hc] at h
    refine X.iload (x := a4) (pc' := 48) dX11_uses_46 rfl rfl ?_
    refine X.bipush (v := 6) (pc' := 50) dX11_uses_48 rfl (by decide) ?_
    refine X.icmp_ne (tgt := 63) (pc' := 53) dX11_uses_50 (by decide) rfl (fun hc => ?_) (fun hc => ?_)
    · rw [if_neg hc] at h
      refine X.iconst (v := 0) (pc' := 64) dX11_uses_63 rfl (by decide) ?_
      exact ok_X11_uses_64 hk5 h
    · rw [if_pos hc] at h
      exact ok_X11_uses_53 hk5 h
def f_X11_uses_5b (fu : Nat) (a0 : Nat) (a1 : Int32) (a2 : Int32) (a3 : Int32) (a4 : Int32) (M : List Ob) (k5 : Nat → Int32 → Int32 → Int32 → Int32 → List Ob → Option (Int32 × List Ob)) : Option (Int32 × List Ob) :=
  if 6 < a4 then (if a3 &&& 1 = a3 then some (a3, M) else none)
  else (if a4 = 6 then (f_X11_uses_32 fu a0 a1 a2 a3 a4 118 M k5)
  else (f_X11_uses_32 fu a0 a1 a2 a3 a4 (70 + (8 * a4)) M k5))
set_option maxHeartbeats 4000000 in
theorem ok_X11_uses_5b {G : GT} {fu : Nat} {out : Int32 × List Ob} {a0 : Nat} {a1 : Int32} {a2 : Int32} {a3 : Int32} {a4 : Int32} {M : List Ob} {k5 : Nat → Int32 → Int32 → Int32 → Int32 → List Ob → Option (Int32 × List Ob)} (hk5 : ∀ (a0 : Nat) (a1 : Int32) (a2 : Int32) (a3 : Int32) (a4 : Int32) (M : List Ob), k5 a0 a1 a2 a3 a4 M = some out → X G t_X11_uses [] 5 [some (.ref a0), some (.int a1), some (.int a2), some (.int a3), some (.int a4), none, none, none] [] M 0 0 (oI out)) (h : f_X11_uses_5b fu a0 a1 a2 a3 a4 M k5 = some out) : X G t_X11_uses [] 5 [some (.ref a0), some (.int a1), some (.int a2), some (.int a3), some (.int a4), none, none, none] [] M 0 0 (oI out) := by
  unfold f_X11_uses_5b at h
  refine X.iload (x := a4) (pc' := 7) dX11_uses_5 rfl rfl ?_
  refine X.bipush (v := 6) (pc' := 9) dX11_uses_7 rfl (by decide) ?_
  refine X.icmp_gt (tgt := 148) (pc' := 12) dX11_uses_9 (by decide) rfl (fun hc => ?_) (fun hc => ?_)
  · rw [if_pos hc] at h
    refine X.iload_n (x := a3) (pc' := 149) dX11_uses_148 rfl rfl rfl ?_
    split at h
    rotate_left
    · cases h
    rename_i hz1
    cases h
    exact X.iret (ty := .boolean) dX11_uses_149 rfl (congrArg Value.int hz1) (Nat.le_of_ble_eq_true rfl) (Nat.le_of_ble_eq_true rfl) rfl
  · rw [if_neg hc] at h
    refine X.iload (x := a4) (pc' := 14) dX11_uses_12 rfl rfl ?_
    refine X.bipush (v := 6) (pc' := 16) dX11_uses_14 rfl (by decide) ?_
    refine X.icmp_ne (tgt := 24) (pc' := 19) dX11_uses_16 (by decide) rfl (fun hc => ?_) (fun hc => ?_)
    · rw [if_neg hc] at h
      refine X.bipush (v := 70) (pc' := 26) dX11_uses_24 rfl (by decide) ?_
      refine X.bipush (v := 8) (pc' := 28) dX11_uses_26 rfl (by decide) ?_
      refine X.iload (x := a4) (pc' := 30) dX11_uses_28 rfl rfl ?_
      refine X.imul (pc' := 31) dX11_uses_30 rfl ?_
      refine X.iadd (pc' := 32) dX11_uses_31 rfl ?_
      exact ok_X11_uses_32 hk5 h
    · rw [if_pos hc] at h
      refine X.bipush (v := 118) (pc' := 21) dX11_uses_19 rfl (by decide) ?_
      refine X.goto (pc' := 32) dX11_uses_21 (by decide) ?_
      exact ok_X11_uses_32 hk5 h
def f_X11_uses_5 (fu : Nat) : Nat → Nat → Int32 → Int32 → Int32 → Int32 → List Ob → Option (Int32 × List Ob)
  | 0, _, _, _, _, _, _ => none
  | n + 1, a0, a1, a2, a3, a4, M => f_X11_uses_5b fu a0 a1 a2 a3 a4 M (fun a0 a1 a2 a3 a4 M => f_X11_uses_5 fu n a0 a1 a2 a3 a4 M)
theorem ok_X11_uses_5 {G : GT} {fu : Nat} {out : Int32 × List Ob} : ∀ (n : Nat) (a0 : Nat) (a1 : Int32) (a2 : Int32) (a3 : Int32) (a4 : Int32) (M : List Ob), f_X11_uses_5 fu n a0 a1 a2 a3 a4 M = some out → X G t_X11_uses [] 5 [some (.ref a0), some (.int a1), some (.int a2), some (.int a3), some (.int a4), none, none, none] [] M 0 0 (oI out) := by
  intro n
  induction n with
  | zero =>
    intro a0 a1 a2 a3 a4 M h
    unfold f_X11_uses_5 at h
    cases h
  | succ n ih =>
    intro a0 a1 a2 a3 a4 M h
    unfold f_X11_uses_5 at h
    exact ok_X11_uses_5b ih h
def f_X11_uses (fu : Nat) (a0 : Nat) (a1 : Int32) (a2 : Int32) (M : List Ob) : Option (Int32 × List Ob) :=
  f_X11_uses_5 fu  fu a0 a1 a2 0 0 M
set_option maxHeartbeats 4000000 in
theorem ok_X11_uses {G : GT} {fu : Nat} {a0 : Nat} {a1 : Int32} {a2 : Int32} {M : List Ob} {out : Int32 × List Ob} (h : f_X11_uses fu a0 a1 a2 M = some out) : Sp G t_X11_uses [.ref a0, .int a1, .int a2] M (oI out) := by
  refine Sp.of rfl (by decide +kernel) (cat_all rfl) (Nat.le_of_ble_eq_true rfl) ?_
  show X G t_X11_uses [] 0 [some (.ref a0), some (.int a1), some (.int a2), none, none, none, none, none] [] M 0 0 (oI out)
  unfold f_X11_uses at h
  refine X.iconst (v := 0) (pc' := 1) dX11_uses_0 rfl (by decide) ?_
  refine X.istore_n (L' := [some (.ref a0), some (.int a1), some (.int a2), some (.int 0), none, none, none, none]) (pc' := 2) dX11_uses_1 rfl rfl (Nat.le_of_ble_eq_true rfl) rfl ?_
  refine X.iconst (v := 0) (pc' := 3) dX11_uses_2 rfl (by decide) ?_
  refine X.istore (L' := [some (.ref a0), some (.int a1), some (.int a2), some (.int 0), some (.int 0), none, none, none]) (pc' := 5) dX11_uses_3 rfl (Nat.le_of_ble_eq_true rfl) rfl ?_
  refine ok_X11_uses_5  fu _ _ _ _ _ _ h
def f_X11_removeArc_59b (fu : Nat) (a0 : Nat) (a1 : Int32) (a2 : Int32) (M : List Ob) (k59 : Nat → Int32 → Int32 → List Ob → Option (Int32 × List Ob)) (k93 : Nat → Int32 → List Ob → Option (Int32 × List Ob)) : Option (Int32 × List Ob) :=
  (gP M a0 11 0).bind fun r1 =>
  (aI M r1 13 4).bind fun v4 =>
  if (5 + (4 * v4)) ≤ a2 then (k93 a0 a1 M)
  else ((gP M a0 11 0).bind fun r5 =>
  (gP M a0 11 0).bind fun r7 =>
  (aI M r7 13 (a2 + 4)).bind fun v10 =>
  (aSet M r5 13 a2 (.int v10)).bind fun M12 =>
  k59 a0 a1 (a2 + 1) M12)
set_option maxHeartbeats 4000000 in
theorem ok_X11_removeArc_59b {G : GT} {fu : Nat} {out : Int32 × List Ob} {a0 : Nat} {a1 : Int32} {a2 : Int32} {M : List Ob} {k59 : Nat → Int32 → Int32 → List Ob → Option (Int32 × List Ob)} {k93 : Nat → Int32 → List Ob → Option (Int32 × List Ob)} (hk59 : ∀ (a0 : Nat) (a1 : Int32) (a2 : Int32) (M : List Ob), k59 a0 a1 a2 M = some out → X G t_X11_removeArc [] 59 [some (.ref a0), some (.int a1), some (.int a2)] [] M 0 0 (oI out)) (hk93 : ∀ (a0 : Nat) (a1 : Int32) (M : List Ob), k93 a0 a1 M = some out → X G t_X11_removeArc [] 93 [some (.ref a0), some (.int a1), none] [] M 0 0 (oI out)) (h : f_X11_removeArc_59b fu a0 a1 a2 M k59 k93 = some out) : X G t_X11_removeArc [] 59 [some (.ref a0), some (.int a1), some (.int a2)] [] M 0 0 (oI out) := by
  unfold f_X11_removeArc_59b at h
  refine X.iload_n (x := a2) (pc' := 60) dX11_removeArc_59 rfl rfl rfl ?_
  refine X.iconst (v := 5) (pc' := 61) dX11_removeArc_60 rfl (by decide) ?_
  refine X.iconst (v := 4) (pc' := 62) dX11_removeArc_61 rfl (by decide) ?_
  refine X.aload_n (x := a0) (pc' := 63) dX11_removeArc_62 rfl rfl rfl ?_
  obtain ⟨r1, e2, h⟩ := bindE h
  refine X.getf (pc' := 66) dX11_removeArc_63 rfl fq_X11_7 (gP_spec e2) ?_
  refine X.iconst (v := 4) (pc' := 67) dX11_removeArc_66 rfl (by decide) ?_
  obtain ⟨v4, e3, h⟩ := bindE h
  refine X.iald (pc' := 68) dX11_removeArc_67 rfl e3 ?_
  refine X.imul (pc' := 69) dX11_removeArc_68 rfl ?_
  refine X.iadd (pc' := 70) dX11_removeArc_69 rfl ?_
  refine X.icmp_ge (tgt := 93) (pc' := 73) dX11_removeArc_70 (by decide) rfl (fun hc => ?_) (fun hc => ?_)
  · rw [if_pos hc] at h
    refine X.sub (L := [some (.ref a0), some (.int a1), none]) ?_ (⟨rfl, ⟨rfl, trivial⟩⟩)
    exact hk93 _ _ _ h
  · rw [if_neg hc] at h
    refine X.aload_n (x := a0) (pc' := 74) dX11_removeArc_73 rfl rfl rfl ?_
    obtain ⟨r5, e6, h⟩ := bindE h
    refine X.getf (pc' := 77) dX11_removeArc_74 rfl fq_X11_7 (gP_spec e6) ?_
    refine X.iload_n (x := a2) (pc' := 78) dX11_removeArc_77 rfl rfl rfl ?_
    refine X.aload_n (x := a0) (pc' := 79) dX11_removeArc_78 rfl rfl rfl ?_
    obtain ⟨r7, e8, h⟩ := bindE h
    refine X.getf (pc' := 82) dX11_removeArc_79 rfl fq_X11_7 (gP_spec e8) ?_
    refine X.iload_n (x := a2) (pc' := 83) dX11_removeArc_82 rfl rfl rfl ?_
    refine X.iconst (v := 4) (pc' := 84) dX11_removeArc_83 rfl (by decide) ?_
    refine X.iadd (pc' := 85) dX11_removeArc_84 rfl ?_
    obtain ⟨v10, e9, h⟩ := bindE h
    refine X.iald (pc' := 86) dX11_removeArc_85 rfl e9 ?_
    obtain ⟨M12, e11, h⟩ := bindE h
    refine X.iast (pc' := 87) dX11_removeArc_86 rfl e11 ?_
    refine X.iinc (v := (a2 + 1)) (L' := [some (.ref a0), some (.int a1), some (.int (a2 + 1))]) (pc' := 90) dX11_removeArc_87 rfl rfl (congrArg (fun y => a2 + y) (show Int32.ofInt 1 = 1 by decide)) (Nat.le_of_ble_eq_true rfl) rfl ?_
    refine X.goto (pc' := 59) dX11_removeArc_90 (by decide) ?_
    exact hk59 _ _ _ _ h
def f_X11_removeArc_59 (fu : Nat) (k93 : Nat → Int32 → List Ob → Option (Int32 × List Ob)) : Nat → Nat → Int32 → Int32 → List Ob → Option (Int32 × List Ob)
  | 0, _, _, _, _ => none
  | n + 1, a0, a1, a2, M => f_X11_removeArc_59b fu a0 a1 a2 M (fun a0 a1 a2 M => f_X11_removeArc_59 fu k93 n a0 a1 a2 M) k93
theorem ok_X11_removeArc_59 {G : GT} {fu : Nat} {out : Int32 × List Ob} {k93 : Nat → Int32 → List Ob → Option (Int32 × List Ob)} (hk93 : ∀ (a0 : Nat) (a1 : Int32) (M : List Ob), k93 a0 a1 M = some out → X G t_X11_removeArc [] 93 [some (.ref a0), some (.int a1), none] [] M 0 0 (oI out)) : ∀ (n : Nat) (a0 : Nat) (a1 : Int32) (a2 : Int32) (M : List Ob), f_X11_removeArc_59 fu k93 n a0 a1 a2 M = some out → X G t_X11_removeArc [] 59 [some (.ref a0), some (.int a1), some (.int a2)] [] M 0 0 (oI out) := by
  intro n
  induction n with
  | zero =>
    intro a0 a1 a2 M h
    unfold f_X11_removeArc_59 at h
    cases h
  | succ n ih =>
    intro a0 a1 a2 M h
    unfold f_X11_removeArc_59 at h
    exact ok_X11_removeArc_59b ih hk93 h
def f_X11_removeArc_93 (fu : Nat) (a0 : Nat) (a1 : Int32) (M : List Ob) : Option (Int32 × List Ob) :=
  (hasO M a0 11).bind fun _ =>
  bd2 (f_X11_uses fu a0 a1 1 M) fun v1 M2 =>
  (gP M2 a0 11 0).bind fun r5 =>
  bd2 (f_X11_setsOut fu r5 M2) fun _ M8 =>
  (gP M8 a0 11 0).bind fun r11 =>
  (aI M8 r11 13 4).bind fun v14 =>
  some (v14, M8)
set_option maxHeartbeats 4000000 in
theorem ok_X11_removeArc_93 {G : GT} {fu : Nat} {out : Int32 × List Ob} {a0 : Nat} {a1 : Int32} {M : List Ob} (h : f_X11_removeArc_93 fu a0 a1 M = some out) : X G t_X11_removeArc [] 93 [some (.ref a0), some (.int a1), none] [] M 0 0 (oI out) := by
  unfold f_X11_removeArc_93 at h
  refine X.aload_n (x := a0) (pc' := 94) dX11_removeArc_93 rfl rfl rfl ?_
  refine X.iload_n (x := a1) (pc' := 95) dX11_removeArc_94 rfl rfl rfl ?_
  refine X.iconst (v := 1) (pc' := 96) dX11_removeArc_95 rfl (by decide) ?_
  obtain ⟨⟨⟩, e4, h⟩ := bindE h
  obtain ⟨v1, M2, e3, h⟩ := bd2E h
  refine X.callV (b := a0) (v := some (.int v1)) (As := [.int a1, .int 1]) (st := []) (M' := M2) (pc' := 99) dX11_removeArc_96 rfl cl_X11_196 mi_X11_uses me_X11_uses mr_X11_uses e4 ⟨⟨Nat.le_of_ble_eq_true rfl, Nat.le_of_ble_eq_true rfl⟩, Nat.le_of_ble_eq_true rfl, Nat.le_of_ble_eq_true rfl⟩ rfl (Nat.le_of_ble_eq_true rfl) (ok_X11_uses (G := zs G) e3) ?_
  show X G t_X11_removeArc [] 99 [some (.ref a0), some (.int a1), none] [.int v1] M2 0 0 _
  refine X.istore_n (L' := [some (.ref a0), some (.int a1), some (.int v1)]) (pc' := 100) dX11_removeArc_99 rfl rfl (Nat.le_of_ble_eq_true rfl) rfl ?_
  refine X.aload_n (x := a0) (pc' := 101) dX11_removeArc_100 rfl rfl rfl ?_
  obtain ⟨r5, e6, h⟩ := bindE h
  refine X.getf (pc' := 104) dX11_removeArc_101 rfl fq_X11_7 (gP_spec e6) ?_
  obtain ⟨r7, M8, e9, h⟩ := bd2E h
  refine X.callS (v := none) (As := [.ref r5]) (st := []) (M' := M8) (pc' := 107) dX11_removeArc_104 rfl cl_X11_52 ms_X11_setsOut ⟨⟨Nat.le_of_ble_eq_true rfl, Nat.le_of_ble_eq_true rfl⟩, Nat.le_of_ble_eq_true rfl, Nat.le_of_ble_eq_true rfl⟩ rfl (Nat.le_of_ble_eq_true rfl) (ok_X11_setsOut (G := zs G) e9) ?_
  show X G t_X11_removeArc [] 107 [some (.ref a0), some (.int a1), some (.int v1)] [] M8 0 0 _
  refine X.aload_n (x := a0) (pc' := 108) dX11_removeArc_107 rfl rfl rfl ?_
  obtain ⟨r11, e12, h⟩ := bindE h
  refine X.getf (pc' := 111) dX11_removeArc_108 rfl fq_X11_7 (gP_spec e12) ?_
  refine X.iconst (v := 4) (pc' := 112) dX11_removeArc_111 rfl (by decide) ?_
  obtain ⟨v14, e13, h⟩ := bindE h
  refine X.iald (pc' := 113) dX11_removeArc_112 rfl e13 ?_
  cases h
  exact X.iret (ty := .int) dX11_removeArc_113 rfl rfl (Nat.le_of_ble_eq_true rfl) (Nat.le_of_ble_eq_true rfl) rfl
def f_X11_removeArc_27 (fu : Nat) (a0 : Nat) (a1 : Int32) (b0 : Nat) (b1 : Int32) (M : List Ob) : Option (Int32 × List Ob) :=
  (pF M b0 11 4 (.int b1)).bind fun M1 =>
  (gI M1 a0 11 4).bind fun v3 =>
  if v3 ≤ 0 then ((hasO M1 a0 11).bind fun _ =>
  bd2 (f_X11_keeps fu a0 M1) fun _ M6 =>
  (gP M6 a0 11 0).bind fun r9 =>
  (aI M6 r9 13 4).bind fun v12 =>
  (aSet M6 r9 13 4 (.int (v12 - 1))).bind fun M14 =>
  f_X11_removeArc_59 fu (fun x15 x16 M17 => f_X11_removeArc_93 fu x15 x16 M17) fu a0 a1 (5 + (4 * a1)) M14)
  else (some (0, M1))
set_option maxHeartbeats 4000000 in
theorem ok_X11_removeArc_27 {G : GT} {fu : Nat} {out : Int32 × List Ob} {a0 : Nat} {a1 : Int32} {b0 : Nat} {b1 : Int32} {M : List Ob} (h : f_X11_removeArc_27 fu a0 a1 b0 b1 M = some out) : X G t_X11_removeArc [] 27 [some (.ref a0), some (.int a1), none] [.int b1, .ref b0] M 0 0 (oI out) := by
  unfold f_X11_removeArc_27 at h
  obtain ⟨M1, e2, h⟩ := bindE h
  refine X.putf (pc' := 30) dX11_removeArc_27 rfl fq_X11_56 rfl rfl e2 ?_
  refine X.aload_n (x := a0) (pc' := 31) dX11_removeArc_30 rfl rfl rfl ?_
  obtain ⟨v3, e4, h⟩ := bindE h
  refine X.getf (pc' := 34) dX11_removeArc_31 rfl fq_X11_56 (gI_spec e4) ?_
  refine X.if_le (tgt := 39) (pc' := 37) dX11_removeArc_34 (by decide) rfl (fun hc => ?_) (fun hc => ?_)
  · rw [if_pos hc] at h
    refine X.aload_n (x := a0) (pc' := 40) dX11_removeArc_39 rfl rfl rfl ?_
    obtain ⟨⟨⟩, e8, h⟩ := bindE h
    obtain ⟨r5, M6, e7, h⟩ := bd2E h
    refine X.callV (b := a0) (v := none) (As := []) (st := []) (M' := M6) (pc' := 43) dX11_removeArc_40 rfl cl_X11_176 mi_X11_keeps me_X11_keeps mr_X11_keeps e8 ⟨⟨Nat.le_of_ble_eq_true rfl, Nat.le_of_ble_eq_true rfl⟩, Nat.le_of_ble_eq_true rfl, Nat.le_of_ble_eq_true rfl⟩ rfl (Nat.le_of_ble_eq_true rfl) (ok_X11_keeps (G := zs G) e7) ?_
    show X G t_X11_removeArc [] 43 [some (.ref a0), some (.int a1), none] [] M6 0 0 _
    refine X.aload_n (x := a0) (pc' := 44) dX11_removeArc_43 rfl rfl rfl ?_
    obtain ⟨r9, e10, h⟩ := bindE h
    refine X.getf (pc' := 47) dX11_removeArc_44 rfl fq_X11_7 (gP_spec e10) ?_
    refine X.iconst (v := 4) (pc' := 48) dX11_removeArc_47 rfl (by decide) ?_
    refine X.dup2 (pc' := 49) dX11_removeArc_48 rfl rfl rfl ?_
    obtain ⟨v12, e11, h⟩ := bindE h
    refine X.iald (pc' := 50) dX11_removeArc_49 rfl e11 ?_
    refine X.iconst (v := 1) (pc' := 51) dX11_removeArc_50 rfl (by decide) ?_
    refine X.isub (pc' := 52) dX11_removeArc_51 rfl ?_
    obtain ⟨M14, e13, h⟩ := bindE h
    refine X.iast (pc' := 53) dX11_removeArc_52 rfl e13 ?_
    refine X.iconst (v := 5) (pc' := 54) dX11_removeArc_53 rfl (by decide) ?_
    refine X.iconst (v := 4) (pc' := 55) dX11_removeArc_54 rfl (by decide) ?_
    refine X.iload_n (x := a1) (pc' := 56) dX11_removeArc_55 rfl rfl rfl ?_
    refine X.imul (pc' := 57) dX11_removeArc_56 rfl ?_
    refine X.iadd (pc' := 58) dX11_removeArc_57 rfl ?_
    refine X.istore_n (L' := [some (.ref a0), some (.int a1), some (.int (5 + (4 * a1)))]) (pc' := 59) dX11_removeArc_58 rfl rfl (Nat.le_of_ble_eq_true rfl) rfl ?_
    refine ok_X11_removeArc_59 ?_ fu _ _ _ _ h
    · intro x15 x16 M17 h
      exact ok_X11_removeArc_93 h
  · rw [if_neg hc] at h
    refine X.iconst (v := 0) (pc' := 38) dX11_removeArc_37 rfl (by decide) ?_
    cases h
    exact X.iret (ty := .int) dX11_removeArc_38 rfl rfl (Nat.le_of_ble_eq_true rfl) (Nat.le_of_ble_eq_true rfl) rfl
def f_X11_removeArc (fu : Nat) (a0 : Nat) (a1 : Int32) (M : List Ob) : Option (Int32 × List Ob) :=
  (hasO M a0 11).bind fun _ =>
  bd2 (f_X11_isArc fu a0 a1 M) fun v1 M2 =>
  if v1 = 0 then (f_X11_removeArc_27 fu a0 a1 a0 1 M2)
  else ((hasO M2 a0 11).bind fun _ =>
  bd2 (f_X11_uses fu a0 a1 0 M2) fun v5 M6 =>
  if v5 = 0 then (f_X11_removeArc_27 fu a0 a1 a0 0 M6)
  else (f_X11_removeArc_27 fu a0 a1 a0 2 M6))
set_option maxHeartbeats 4000000 in
theorem ok_X11_removeArc {G : GT} {fu : Nat} {a0 : Nat} {a1 : Int32} {M : List Ob} {out : Int32 × List Ob} (h : f_X11_removeArc fu a0 a1 M = some out) : Sp G t_X11_removeArc [.ref a0, .int a1] M (oI out) := by
  refine Sp.of rfl (by decide +kernel) (cat_all rfl) (Nat.le_of_ble_eq_true rfl) ?_
  show X G t_X11_removeArc [] 0 [some (.ref a0), some (.int a1), none] [] M 0 0 (oI out)
  unfold f_X11_removeArc at h
  refine X.aload_n (x := a0) (pc' := 1) dX11_removeArc_0 rfl rfl rfl ?_
  refine X.aload_n (x := a0) (pc' := 2) dX11_removeArc_1 rfl rfl rfl ?_
  refine X.iload_n (x := a1) (pc' := 3) dX11_removeArc_2 rfl rfl rfl ?_
  obtain ⟨⟨⟩, e4, h⟩ := bindE h
  obtain ⟨v1, M2, e3, h⟩ := bd2E h
  refine X.callV (b := a0) (v := some (.int v1)) (As := [.int a1]) (st := [.ref a0]) (M' := M2) (pc' := 6) dX11_removeArc_3 rfl cl_X11_187 mi_X11_isArc me_X11_isArc mr_X11_isArc e4 ⟨⟨Nat.le_of_ble_eq_true rfl, Nat.le_of_ble_eq_true rfl⟩, Nat.le_of_ble_eq_true rfl, Nat.le_of_ble_eq_true rfl⟩ rfl (Nat.le_of_ble_eq_true rfl) (ok_X11_isArc (G := zs G) e3) ?_
  show X G t_X11_removeArc [] 6 [some (.ref a0), some (.int a1), none] [.int v1, .ref a0] M2 0 0 _
  refine X.if_ne (tgt := 13) (pc' := 9) dX11_removeArc_6 (by decide) rfl (fun hc => ?_) (fun hc => ?_)
  · rw [if_neg hc] at h
    refine X.aload_n (x := a0) (pc' := 14) dX11_removeArc_13 rfl rfl rfl ?_
    refine X.iload_n (x := a1) (pc' := 15) dX11_removeArc_14 rfl rfl rfl ?_
    refine X.iconst (v := 0) (pc' := 16) dX11_removeArc_15 rfl (by decide) ?_
    obtain ⟨⟨⟩, e8, h⟩ := bindE h
    obtain ⟨v5, M6, e7, h⟩ := bd2E h
    refine X.callV (b := a0) (v := some (.int v5)) (As := [.int a1, .int 0]) (st := [.ref a0]) (M' := M6) (pc' := 19) dX11_removeArc_16 rfl cl_X11_196 mi_X11_uses me_X11_uses mr_X11_uses e8 ⟨⟨Nat.le_of_ble_eq_true rfl, Nat.le_of_ble_eq_true rfl⟩, Nat.le_of_ble_eq_true rfl, Nat.le_of_ble_eq_true rfl⟩ rfl (Nat.le_of_ble_eq_true rfl) (ok_X11_uses (G := zs G) e7) ?_
    show X G t_X11_removeArc [] 19 [some (.ref a0), some (.int a1), none] [.int v5, .ref a0] M6 0 0 _
    refine X.if_eq (tgt := 26) (pc' := 22) dX11_removeArc_19 (by decide) rfl (fun hc => ?_) (fun hc => ?_)
    · rw [if_pos hc] at h
      refine X.iconst (v := 0) (pc' := 27) dX11_removeArc_26 rfl (by decide) ?_
      exact ok_X11_removeArc_27 h
    · rw [if_neg hc] at h
      refine X.iconst (v := 2) (pc' := 23) dX11_removeArc_22 rfl (by decide) ?_
      refine X.goto (pc' := 27) dX11_removeArc_23 (by decide) ?_
      exact ok_X11_removeArc_27 h
  · rw [if_pos hc] at h
    refine X.iconst (v := 1) (pc' := 10) dX11_removeArc_9 rfl (by decide) ?_
    refine X.goto (pc' := 27) dX11_removeArc_10 (by decide) ?_
    exact ok_X11_removeArc_27 h
def f_X11_setArc_38 (fu : Nat) (a0 : Nat) (a1 : Int32) (a2 : Int32) (a3 : Int32) (b0 : Nat) (b1 : Int32) (M : List Ob) : Option (Int32 × List Ob) :=
  (pF M b0 11 4 (.int b1)).bind fun M1 =>
  (gI M1 a0 11 4).bind fun v3 =>
  if v3 ≤ 0 then ((hasO M1 a0 11).bind fun _ =>
  bd2 (f_X11_keeps fu a0 M1) fun _ M6 =>
  (hasO M6 a0 11).bind fun _ =>
  bd2 (f_X11_of fu a0 a1 2 M6) fun v9 M10 =>
  (hasO M10 a0 11).bind fun _ =>
  bd2 (f_X11_of fu a0 a1 3 M10) fun v13 M14 =>
  (gP M14 a0 11 0).bind fun r17 =>
  (aSet M14 r17 13 ((5 + (4 * a1)) + 2) (.int a2)).bind fun M20 =>
  (gP M20 a0 11 0).bind fun r21 =>
  (aSet M20 r21 13 ((5 + (4 * a1)) + 3) (.int a3)).bind fun M24 =>
  (gP M24 a0 11 0).bind fun r25 =>
  bd2 (f_X11_setsOut fu r25 M24) fun _ M28 =>
  some (((100 * v9) + v13), M28))
  else (some (0, M1))
set_option maxHeartbeats 4000000 in
theorem ok_X11_setArc_38 {G : GT} {fu : Nat} {out : Int32 × List Ob} {a0 : Nat} {a1 : Int32} {a2 : Int32} {a3 : Int32} {b0 : Nat} {b1 : Int32} {M : List Ob} (h : f_X11_setArc_38 fu a0 a1 a2 a3 b0 b1 M = some out) : X G t_X11_setArc [] 38 [some (.ref a0), some (.int a1), some (.int a2), some (.int a3), none] [.int b1, .ref b0] M 0 0 (oI out) := by
  unfold f_X11_setArc_38 at h
  obtain ⟨M1, e2, h⟩ := bindE h
  refine X.putf (pc' := 41) dX11_setArc_38 rfl fq_X11_56 rfl rfl e2 ?_
  refine X.aload_n (x := a0) (pc' := 42) dX11_setArc_41 rfl rfl rfl ?_
  obtain ⟨v3, e4, h⟩ := bindE h
  refine X.getf (pc' := 45) dX11_setArc_42 rfl fq_X11_56 (gI_spec e4) ?_
  refine X.if_le (tgt := 50) (pc' := 48) dX11_setArc_45 (by decide) rfl (fun hc => ?_) (fun hc => ?_)
  · rw [if_pos hc] at h
    refine X.aload_n (x := a0) (pc' := 51) dX11_setArc_50 rfl rfl rfl ?_
    obtain ⟨⟨⟩, e8, h⟩ := bindE h
    obtain ⟨r5, M6, e7, h⟩ := bd2E h
    refine X.callV (b := a0) (v := none) (As := []) (st := []) (M' := M6) (pc' := 54) dX11_setArc_51 rfl cl_X11_176 mi_X11_keeps me_X11_keeps mr_X11_keeps e8 ⟨⟨Nat.le_of_ble_eq_true rfl, Nat.le_of_ble_eq_true rfl⟩, Nat.le_of_ble_eq_true rfl, Nat.le_of_ble_eq_true rfl⟩ rfl (Nat.le_of_ble_eq_true rfl) (ok_X11_keeps (G := zs G) e7) ?_
    show X G t_X11_setArc [] 54 [some (.ref a0), some (.int a1), some (.int a2), some (.int a3), none] [] M6 0 0 _
    refine X.bipush (v := 100) (pc' := 56) dX11_setArc_54 rfl (by decide) ?_
    refine X.aload_n (x := a0) (pc' := 57) dX11_setArc_56 rfl rfl rfl ?_
    refine X.iload_n (x := a1) (pc' := 58) dX11_setArc_57 rfl rfl rfl ?_
    refine X.iconst (v := 2) (pc' := 59) dX11_setArc_58 rfl (by decide) ?_
    obtain ⟨⟨⟩, e12, h⟩ := bindE h
    obtain ⟨v9, M10, e11, h⟩ := bd2E h
    refine X.callV (b := a0) (v := some (.int v9)) (As := [.int a1, .int 2]) (st := [.int 100]) (M' := M10) (pc' := 62) dX11_setArc_59 rfl cl_X11_190 mi_X11_of me_X11_of mr_X11_of e12 ⟨⟨Nat.le_of_ble_eq_true rfl, Nat.le_of_ble_eq_true rfl⟩, Nat.le_of_ble_eq_true rfl, Nat.le_of_ble_eq_true rfl⟩ rfl (Nat.le_of_ble_eq_true rfl) (ok_X11_of (G := zs G) e11) ?_
    show X G t_X11_setArc [] 62 [some (.ref a0), some (.int a1), some (.int a2), some (.int a3), none] [.int v9, .int 100] M10 0 0 _
    refine X.imul (pc' := 63) dX11_setArc_62 rfl ?_
    refine X.aload_n (x := a0) (pc' := 64) dX11_setArc_63 rfl rfl rfl ?_
    refine X.iload_n (x := a1) (pc' := 65) dX11_setArc_64 rfl rfl rfl ?_
    refine X.iconst (v := 3) (pc' := 66) dX11_setArc_65 rfl (by decide) ?_
    obtain ⟨⟨⟩, e16, h⟩ := bindE h
    obtain ⟨v13, M14, e15, h⟩ := bd2E h
    refine X.callV (b := a0) (v := some (.int v13)) (As := [.int a1, .int 3]) (st := [.int (100 * v9)]) (M' := M14) (pc' := 69) dX11_setArc_66 rfl cl_X11_190 mi_X11_of me_X11_of mr_X11_of e16 ⟨⟨Nat.le_of_ble_eq_true rfl, Nat.le_of_ble_eq_true rfl⟩, Nat.le_of_ble_eq_true rfl, Nat.le_of_ble_eq_true rfl⟩ rfl (Nat.le_of_ble_eq_true rfl) (ok_X11_of (G := zs G) e15) ?_
    show X G t_X11_setArc [] 69 [some (.ref a0), some (.int a1), some (.int a2), some (.int a3), none] [.int v13, .int (100 * v9)] M14 0 0 _
    refine X.iadd (pc' := 70) dX11_setArc_69 rfl ?_
    refine X.istore (L' := [some (.ref a0), some (.int a1), some (.int a2), some (.int a3), some (.int ((100 * v9) + v13))]) (pc' := 72) dX11_setArc_70 rfl (Nat.le_of_ble_eq_true rfl) rfl ?_
    refine X.aload_n (x := a0) (pc' := 73) dX11_setArc_72 rfl rfl rfl ?_
    obtain ⟨r17, e18, h⟩ := bindE h
    refine X.getf (pc' := 76) dX11_setArc_73 rfl fq_X11_7 (gP_spec e18) ?_
    refine X.iconst (v := 5) (pc' := 77) dX11_setArc_76 rfl (by decide) ?_
    refine X.iconst (v := 4) (pc' := 78) dX11_setArc_77 rfl (by decide) ?_
    refine X.iload_n (x := a1) (pc' := 79) dX11_setArc_78 rfl rfl rfl ?_
    refine X.imul (pc' := 80) dX11_setArc_79 rfl ?_
    refine X.iadd (pc' := 81) dX11_setArc_80 rfl ?_
    refine X.iconst (v := 2) (pc' := 82) dX11_setArc_81 rfl (by decide) ?_
    refine X.iadd (pc' := 83) dX11_setArc_82 rfl ?_
    refine X.iload_n (x := a2) (pc' := 84) dX11_setArc_83 rfl rfl rfl ?_
    obtain ⟨M20, e19, h⟩ := bindE h
    refine X.iast (pc' := 85) dX11_setArc_84 rfl e19 ?_
    refine X.aload_n (x := a0) (pc' := 86) dX11_setArc_85 rfl rfl rfl ?_
    obtain ⟨r21, e22, h⟩ := bindE h
    refine X.getf (pc' := 89) dX11_setArc_86 rfl fq_X11_7 (gP_spec e22) ?_
    refine X.iconst (v := 5) (pc' := 90) dX11_setArc_89 rfl (by decide) ?_
    refine X.iconst (v := 4) (pc' := 91) dX11_setArc_90 rfl (by decide) ?_
    refine X.iload_n (x := a1) (pc' := 92) dX11_setArc_91 rfl rfl rfl ?_
    refine X.imul (pc' := 93) dX11_setArc_92 rfl ?_
    refine X.iadd (pc' := 94) dX11_setArc_93 rfl ?_
    refine X.iconst (v := 3) (pc' := 95) dX11_setArc_94 rfl (by decide) ?_
    refine X.iadd (pc' := 96) dX11_setArc_95 rfl ?_
    refine X.iload_n (x := a3) (pc' := 97) dX11_setArc_96 rfl rfl rfl ?_
    obtain ⟨M24, e23, h⟩ := bindE h
    refine X.iast (pc' := 98) dX11_setArc_97 rfl e23 ?_
    refine X.aload_n (x := a0) (pc' := 99) dX11_setArc_98 rfl rfl rfl ?_
    obtain ⟨r25, e26, h⟩ := bindE h
    refine X.getf (pc' := 102) dX11_setArc_99 rfl fq_X11_7 (gP_spec e26) ?_
    obtain ⟨r27, M28, e29, h⟩ := bd2E h
    refine X.callS (v := none) (As := [.ref r25]) (st := []) (M' := M28) (pc' := 105) dX11_setArc_102 rfl cl_X11_52 ms_X11_setsOut ⟨⟨Nat.le_of_ble_eq_true rfl, Nat.le_of_ble_eq_true rfl⟩, Nat.le_of_ble_eq_true rfl, Nat.le_of_ble_eq_true rfl⟩ rfl (Nat.le_of_ble_eq_true rfl) (ok_X11_setsOut (G := zs G) e29) ?_
    show X G t_X11_setArc [] 105 [some (.ref a0), some (.int a1), some (.int a2), some (.int a3), some (.int ((100 * v9) + v13))] [] M28 0 0 _
    refine X.iload (x := ((100 * v9) + v13)) (pc' := 107) dX11_setArc_105 rfl rfl ?_
    cases h
    exact X.iret (ty := .int) dX11_setArc_107 rfl rfl (Nat.le_of_ble_eq_true rfl) (Nat.le_of_ble_eq_true rfl) rfl
  · rw [if_neg hc] at h
    refine X.iconst (v := 0) (pc' := 49) dX11_setArc_48 rfl (by decide) ?_
    cases h
    exact X.iret (ty := .int) dX11_setArc_49 rfl rfl (Nat.le_of_ble_eq_true rfl) (Nat.le_of_ble_eq_true rfl) rfl
def f_X11_setArc_37 (fu : Nat) (a0 : Nat) (a1 : Int32) (a2 : Int32) (a3 : Int32) (b0 : Nat) (M : List Ob) : Option (Int32 × List Ob) :=
  f_X11_setArc_38 fu a0 a1 a2 a3 b0 2 M
set_option maxHeartbeats 4000000 in
theorem ok_X11_setArc_37 {G : GT} {fu : Nat} {out : Int32 × List Ob} {a0 : Nat} {a1 : Int32} {a2 : Int32} {a3 : Int32} {b0 : Nat} {M : List Ob} (h : f_X11_setArc_37 fu a0 a1 a2 a3 b0 M = some out) : X G t_X11_setArc [] 37 [some (.ref a0), some (.int a1), some (.int a2), some (.int a3), none] [.ref b0] M 0 0 (oI out) := by
  unfold f_X11_setArc_37 at h
  refine X.iconst (v := 2) (pc' := 38) dX11_setArc_37 rfl (by decide) ?_
  exact ok_X11_setArc_38 h
def f_X11_setArc (fu : Nat) (a0 : Nat) (a1 : Int32) (a2 : Int32) (a3 : Int32) (M : List Ob) : Option (Int32 × List Ob) :=
  (hasO M a0 11).bind fun _ =>
  bd2 (f_X11_isArc fu a0 a1 M) fun v1 M2 =>
  if v1 = 0 then (f_X11_setArc_38 fu a0 a1 a2 a3 a0 1 M2)
  else (bd2 (f_X11_isIn fu a2 0 99 M2) fun v5 M6 =>
  if v5 = 0 then (f_X11_setArc_37 fu a0 a1 a2 a3 a0 M6)
  else (bd2 (f_X11_isIn fu a3 0 99 M6) fun v9 M10 =>
  if v9 = 0 then (f_X11_setArc_37 fu a0 a1 a2 a3 a0 M10)
  else (f_X11_setArc_38 fu a0 a1 a2 a3 a0 0 M10)))
set_option maxHeartbeats 4000000 in
theorem ok_X11_setArc {G : GT} {fu : Nat} {a0 : Nat} {a1 : Int32} {a2 : Int32} {a3 : Int32} {M : List Ob} {out : Int32 × List Ob} (h : f_X11_setArc fu a0 a1 a2 a3 M = some out) : Sp G t_X11_setArc [.ref a0, .int a1, .int a2, .int a3] M (oI out) := by
  refine Sp.of rfl (by decide +kernel) (cat_all rfl) (Nat.le_of_ble_eq_true rfl) ?_
  show X G t_X11_setArc [] 0 [some (.ref a0), some (.int a1), some (.int a2), some (.int a3), none] [] M 0 0 (oI out)
  unfold f_X11_setArc at h
  refine X.aload_n (x := a0) (pc' := 1) dX11_setArc_0 rfl rfl rfl ?_
  refine X.aload_n (x := a0) (pc' := 2) dX11_setArc_1 rfl rfl rfl ?_
  refine X.iload_n (x := a1) (pc' := 3) dX11_setArc_2 rfl rfl rfl ?_
  obtain ⟨⟨⟩, e4, h⟩ := bindE h
  obtain ⟨v1, M2, e3, h⟩ := bd2E h
  refine X.callV (b := a0) (v := some (.int v1)) (As := [.int a1]) (st := [.ref a0]) (M' := M2) (pc' := 6) dX11_setArc_3 rfl cl_X11_187 mi_X11_isArc me_X11_isArc mr_X11_isArc e4 ⟨⟨Nat.le_of_ble_eq_true rfl, Nat.le_of_ble_eq_true rfl⟩, Nat.le_of_ble_eq_true rfl, Nat.le_of_ble_eq_true rfl⟩ rfl (Nat.le_of_ble_eq_true rfl) (ok_X11_isArc (G := zs G) e3) ?_
  show X G t_X11_setArc [] 6 [some (.ref a0), some (.int a1), some (.int a2), some (.int a3), none] [.int v1, .ref a0] M2 0 0 _
  refine X.if_ne (tgt := 13) (pc' := 9) dX11_setArc_6 (by decide) rfl (fun hc => ?_) (fun hc => ?_)
  · rw [if_neg hc] at h
    refine X.iload_n (x := a2) (pc' := 14) dX11_setArc_13 rfl rfl rfl ?_
    refine X.iconst (v := 0) (pc' := 15) dX11_setArc_14 rfl (by decide) ?_
    refine X.bipush (v := 99) (pc' := 17) dX11_setArc_15 rfl (by decide) ?_
    obtain ⟨v5, M6, e7, h⟩ := bd2E h
    refine X.callS (v := some (.int v5)) (As := [.int a2, .int 0, .int 99]) (st := [.ref a0]) (M' := M6) (pc' := 20) dX11_setArc_17 rfl cl_X11_72 ms_X11_isIn ⟨⟨Nat.le_of_ble_eq_true rfl, Nat.le_of_ble_eq_true rfl⟩, Nat.le_of_ble_eq_true rfl, Nat.le_of_ble_eq_true rfl⟩ rfl (Nat.le_of_ble_eq_true rfl) (ok_X11_isIn (G := zs G) e7) ?_
    show X G t_X11_setArc [] 20 [some (.ref a0), some (.int a1), some (.int a2), some (.int a3), none] [.int v5, .ref a0] M6 0 0 _
    refine X.if_eq (tgt := 37) (pc' := 23) dX11_setArc_20 (by decide) rfl (fun hc => ?_) (fun hc => ?_)
    · rw [if_pos hc] at h
      exact ok_X11_setArc_37 h
    · rw [if_neg hc] at h
      refine X.iload_n (x := a3) (pc' := 24) dX11_setArc_23 rfl rfl rfl ?_
      refine X.iconst (v := 0) (pc' := 25) dX11_setArc_24 rfl (by decide) ?_
      refine X.bipush (v := 99) (pc' := 27) dX11_setArc_25 rfl (by decide) ?_
      obtain ⟨v9, M10, e11, h⟩ := bd2E h
      refine X.callS (v := some (.int v9)) (As := [.int a3, .int 0, .int 99]) (st := [.ref a0]) (M' := M10) (pc' := 30) dX11_setArc_27 rfl cl_X11_72 ms_X11_isIn ⟨⟨Nat.le_of_ble_eq_true rfl, Nat.le_of_ble_eq_true rfl⟩, Nat.le_of_ble_eq_true rfl, Nat.le_of_ble_eq_true rfl⟩ rfl (Nat.le_of_ble_eq_true rfl) (ok_X11_isIn (G := zs G) e11) ?_
      show X G t_X11_setArc [] 30 [some (.ref a0), some (.int a1), some (.int a2), some (.int a3), none] [.int v9, .ref a0] M10 0 0 _
      refine X.if_eq (tgt := 37) (pc' := 33) dX11_setArc_30 (by decide) rfl (fun hc => ?_) (fun hc => ?_)
      · rw [if_pos hc] at h
        exact ok_X11_setArc_37 h
      · rw [if_neg hc] at h
        refine X.iconst (v := 0) (pc' := 34) dX11_setArc_33 rfl (by decide) ?_
        refine X.goto (pc' := 38) dX11_setArc_34 (by decide) ?_
        exact ok_X11_setArc_38 h
  · rw [if_pos hc] at h
    refine X.iconst (v := 1) (pc' := 10) dX11_setArc_9 rfl (by decide) ?_
    refine X.goto (pc' := 38) dX11_setArc_10 (by decide) ?_
    exact ok_X11_setArc_38 h
def f_X11_setBudget_16 (fu : Nat) (a0 : Nat) (a1 : Int32) (b0 : Nat) (b1 : Int32) (M : List Ob) : Option (Int32 × List Ob) :=
  (pF M b0 11 4 (.int b1)).bind fun M1 =>
  (gI M1 a0 11 4).bind fun v3 =>
  if v3 ≤ 0 then ((hasO M1 a0 11).bind fun _ =>
  bd2 (f_X11_keeps fu a0 M1) fun _ M6 =>
  (gP M6 a0 11 0).bind fun r9 =>
  (aI M6 r9 13 3).bind fun v12 =>
  (gP M6 a0 11 0).bind fun r13 =>
  (aSet M6 r13 13 3 (.int a1)).bind fun M16 =>
  (gP M16 a0 11 0).bind fun r17 =>
  bd2 (f_X11_setsOut fu r17 M16) fun _ M20 =>
  some (v12, M20))
  else (some (0, M1))
set_option maxHeartbeats 4000000 in
theorem ok_X11_setBudget_16 {G : GT} {fu : Nat} {out : Int32 × List Ob} {a0 : Nat} {a1 : Int32} {b0 : Nat} {b1 : Int32} {M : List Ob} (h : f_X11_setBudget_16 fu a0 a1 b0 b1 M = some out) : X G t_X11_setBudget [] 16 [some (.ref a0), some (.int a1), none] [.int b1, .ref b0] M 0 0 (oI out) := by
  unfold f_X11_setBudget_16 at h
  obtain ⟨M1, e2, h⟩ := bindE h
  refine X.putf (pc' := 19) dX11_setBudget_16 rfl fq_X11_56 rfl rfl e2 ?_
  refine X.aload_n (x := a0) (pc' := 20) dX11_setBudget_19 rfl rfl rfl ?_
  obtain ⟨v3, e4, h⟩ := bindE h
  refine X.getf (pc' := 23) dX11_setBudget_20 rfl fq_X11_56 (gI_spec e4) ?_
  refine X.if_le (tgt := 28) (pc' := 26) dX11_setBudget_23 (by decide) rfl (fun hc => ?_) (fun hc => ?_)
  · rw [if_pos hc] at h
    refine X.aload_n (x := a0) (pc' := 29) dX11_setBudget_28 rfl rfl rfl ?_
    obtain ⟨⟨⟩, e8, h⟩ := bindE h
    obtain ⟨r5, M6, e7, h⟩ := bd2E h
    refine X.callV (b := a0) (v := none) (As := []) (st := []) (M' := M6) (pc' := 32) dX11_setBudget_29 rfl cl_X11_176 mi_X11_keeps me_X11_keeps mr_X11_keeps e8 ⟨⟨Nat.le_of_ble_eq_true rfl, Nat.le_of_ble_eq_true rfl⟩, Nat.le_of_ble_eq_true rfl, Nat.le_of_ble_eq_true rfl⟩ rfl (Nat.le_of_ble_eq_true rfl) (ok_X11_keeps (G := zs G) e7) ?_
    show X G t_X11_setBudget [] 32 [some (.ref a0), some (.int a1), none] [] M6 0 0 _
    refine X.aload_n (x := a0) (pc' := 33) dX11_setBudget_32 rfl rfl rfl ?_
    obtain ⟨r9, e10, h⟩ := bindE h
    refine X.getf (pc' := 36) dX11_setBudget_33 rfl fq_X11_7 (gP_spec e10) ?_
    refine X.iconst (v := 3) (pc' := 37) dX11_setBudget_36 rfl (by decide) ?_
    obtain ⟨v12, e11, h⟩ := bindE h
    refine X.iald (pc' := 38) dX11_setBudget_37 rfl e11 ?_
    refine X.istore_n (L' := [some (.ref a0), some (.int a1), some (.int v12)]) (pc' := 39) dX11_setBudget_38 rfl rfl (Nat.le_of_ble_eq_true rfl) rfl ?_
    refine X.aload_n (x := a0) (pc' := 40) dX11_setBudget_39 rfl rfl rfl ?_
    obtain ⟨r13, e14, h⟩ := bindE h
    refine X.getf (pc' := 43) dX11_setBudget_40 rfl fq_X11_7 (gP_spec e14) ?_
    refine X.iconst (v := 3) (pc' := 44) dX11_setBudget_43 rfl (by decide) ?_
    refine X.iload_n (x := a1) (pc' := 45) dX11_setBudget_44 rfl rfl rfl ?_
    obtain ⟨M16, e15, h⟩ := bindE h
    refine X.iast (pc' := 46) dX11_setBudget_45 rfl e15 ?_
    refine X.aload_n (x := a0) (pc' := 47) dX11_setBudget_46 rfl rfl rfl ?_
    obtain ⟨r17, e18, h⟩ := bindE h
    refine X.getf (pc' := 50) dX11_setBudget_47 rfl fq_X11_7 (gP_spec e18) ?_
    obtain ⟨r19, M20, e21, h⟩ := bd2E h
    refine X.callS (v := none) (As := [.ref r17]) (st := []) (M' := M20) (pc' := 53) dX11_setBudget_50 rfl cl_X11_52 ms_X11_setsOut ⟨⟨Nat.le_of_ble_eq_true rfl, Nat.le_of_ble_eq_true rfl⟩, Nat.le_of_ble_eq_true rfl, Nat.le_of_ble_eq_true rfl⟩ rfl (Nat.le_of_ble_eq_true rfl) (ok_X11_setsOut (G := zs G) e21) ?_
    show X G t_X11_setBudget [] 53 [some (.ref a0), some (.int a1), some (.int v12)] [] M20 0 0 _
    refine X.iload_n (x := v12) (pc' := 54) dX11_setBudget_53 rfl rfl rfl ?_
    cases h
    exact X.iret (ty := .int) dX11_setBudget_54 rfl rfl (Nat.le_of_ble_eq_true rfl) (Nat.le_of_ble_eq_true rfl) rfl
  · rw [if_neg hc] at h
    refine X.iconst (v := 0) (pc' := 27) dX11_setBudget_26 rfl (by decide) ?_
    cases h
    exact X.iret (ty := .int) dX11_setBudget_27 rfl rfl (Nat.le_of_ble_eq_true rfl) (Nat.le_of_ble_eq_true rfl) rfl
def f_X11_setBudget (fu : Nat) (a0 : Nat) (a1 : Int32) (M : List Ob) : Option (Int32 × List Ob) :=
  bd2 (f_X11_isIn fu a1 0 6 M) fun v1 M2 =>
  if v1 = 0 then (f_X11_setBudget_16 fu a0 a1 a0 1 M2)
  else (f_X11_setBudget_16 fu a0 a1 a0 0 M2)
set_option maxHeartbeats 4000000 in
theorem ok_X11_setBudget {G : GT} {fu : Nat} {a0 : Nat} {a1 : Int32} {M : List Ob} {out : Int32 × List Ob} (h : f_X11_setBudget fu a0 a1 M = some out) : Sp G t_X11_setBudget [.ref a0, .int a1] M (oI out) := by
  refine Sp.of rfl (by decide +kernel) (cat_all rfl) (Nat.le_of_ble_eq_true rfl) ?_
  show X G t_X11_setBudget [] 0 [some (.ref a0), some (.int a1), none] [] M 0 0 (oI out)
  unfold f_X11_setBudget at h
  refine X.aload_n (x := a0) (pc' := 1) dX11_setBudget_0 rfl rfl rfl ?_
  refine X.iload_n (x := a1) (pc' := 2) dX11_setBudget_1 rfl rfl rfl ?_
  refine X.iconst (v := 0) (pc' := 3) dX11_setBudget_2 rfl (by decide) ?_
  refine X.bipush (v := 6) (pc' := 5) dX11_setBudget_3 rfl (by decide) ?_
  obtain ⟨v1, M2, e3, h⟩ := bd2E h
  refine X.callS (v := some (.int v1)) (As := [.int a1, .int 0, .int 6]) (st := [.ref a0]) (M' := M2) (pc' := 8) dX11_setBudget_5 rfl cl_X11_72 ms_X11_isIn ⟨⟨Nat.le_of_ble_eq_true rfl, Nat.le_of_ble_eq_true rfl⟩, Nat.le_of_ble_eq_true rfl, Nat.le_of_ble_eq_true rfl⟩ rfl (Nat.le_of_ble_eq_true rfl) (ok_X11_isIn (G := zs G) e3) ?_
  show X G t_X11_setBudget [] 8 [some (.ref a0), some (.int a1), none] [.int v1, .ref a0] M2 0 0 _
  refine X.if_eq (tgt := 15) (pc' := 11) dX11_setBudget_8 (by decide) rfl (fun hc => ?_) (fun hc => ?_)
  · rw [if_pos hc] at h
    refine X.iconst (v := 1) (pc' := 16) dX11_setBudget_15 rfl (by decide) ?_
    exact ok_X11_setBudget_16 h
  · rw [if_neg hc] at h
    refine X.iconst (v := 0) (pc' := 12) dX11_setBudget_11 rfl (by decide) ?_
    refine X.goto (pc' := 16) dX11_setBudget_12 (by decide) ?_
    exact ok_X11_setBudget_16 h
def f_X11_draft_29 (fu : Nat) (a0 : Nat) (a1 : Int32) (b0 : Nat) (b1 : Int32) (M : List Ob) : Option (Int32 × List Ob) :=
  (pF M b0 11 4 (.int b1)).bind fun M1 =>
  (gI M1 a0 11 4).bind fun v3 =>
  if v3 ≤ 0 then ((hasO M1 a0 11).bind fun _ =>
  bd2 (f_X11_keeps fu a0 M1) fun _ M6 =>
  (gP M6 a0 11 0).bind fun r9 =>
  bd2 (f_X11_appendsTo fu r9 a1 M6) fun _ M12 =>
  (gP M12 a0 11 0).bind fun r15 =>
  bd2 (f_X11_draftEnd fu r15 M12) fun v17 M18 =>
  some (v17, M18))
  else (some (0, M1))
set_option maxHeartbeats 4000000 in
theorem ok_X11_draft_29 {G : GT} {fu : Nat} {out : Int32 × List Ob} {a0 : Nat} {a1 : Int32} {b0 : Nat} {b1 : Int32} {M : List Ob} (h : f_X11_draft_29 fu a0 a1 b0 b1 M = some out) : X G t_X11_draft [] 29 [some (.ref a0), some (.int a1)] [.int b1, .ref b0] M 0 0 (oI out) := by
  unfold f_X11_draft_29 at h
  obtain ⟨M1, e2, h⟩ := bindE h
  refine X.putf (pc' := 32) dX11_draft_29 rfl fq_X11_56 rfl rfl e2 ?_
  refine X.aload_n (x := a0) (pc' := 33) dX11_draft_32 rfl rfl rfl ?_
  obtain ⟨v3, e4, h⟩ := bindE h
  refine X.getf (pc' := 36) dX11_draft_33 rfl fq_X11_56 (gI_spec e4) ?_
  refine X.if_le (tgt := 41) (pc' := 39) dX11_draft_36 (by decide) rfl (fun hc => ?_) (fun hc => ?_)
  · rw [if_pos hc] at h
    refine X.aload_n (x := a0) (pc' := 42) dX11_draft_41 rfl rfl rfl ?_
    obtain ⟨⟨⟩, e8, h⟩ := bindE h
    obtain ⟨r5, M6, e7, h⟩ := bd2E h
    refine X.callV (b := a0) (v := none) (As := []) (st := []) (M' := M6) (pc' := 45) dX11_draft_42 rfl cl_X11_176 mi_X11_keeps me_X11_keeps mr_X11_keeps e8 ⟨⟨Nat.le_of_ble_eq_true rfl, Nat.le_of_ble_eq_true rfl⟩, Nat.le_of_ble_eq_true rfl, Nat.le_of_ble_eq_true rfl⟩ rfl (Nat.le_of_ble_eq_true rfl) (ok_X11_keeps (G := zs G) e7) ?_
    show X G t_X11_draft [] 45 [some (.ref a0), some (.int a1)] [] M6 0 0 _
    refine X.aload_n (x := a0) (pc' := 46) dX11_draft_45 rfl rfl rfl ?_
    obtain ⟨r9, e10, h⟩ := bindE h
    refine X.getf (pc' := 49) dX11_draft_46 rfl fq_X11_7 (gP_spec e10) ?_
    refine X.iload_n (x := a1) (pc' := 50) dX11_draft_49 rfl rfl rfl ?_
    obtain ⟨r11, M12, e13, h⟩ := bd2E h
    refine X.callS (v := none) (As := [.ref r9, .int a1]) (st := []) (M' := M12) (pc' := 53) dX11_draft_50 rfl cl_X11_138 ms_X11_appendsTo ⟨⟨Nat.le_of_ble_eq_true rfl, Nat.le_of_ble_eq_true rfl⟩, Nat.le_of_ble_eq_true rfl, Nat.le_of_ble_eq_true rfl⟩ rfl (Nat.le_of_ble_eq_true rfl) (ok_X11_appendsTo (G := zs G) e13) ?_
    show X G t_X11_draft [] 53 [some (.ref a0), some (.int a1)] [] M12 0 0 _
    refine X.aload_n (x := a0) (pc' := 54) dX11_draft_53 rfl rfl rfl ?_
    obtain ⟨r15, e16, h⟩ := bindE h
    refine X.getf (pc' := 57) dX11_draft_54 rfl fq_X11_7 (gP_spec e16) ?_
    obtain ⟨v17, M18, e19, h⟩ := bd2E h
    refine X.callS (v := some (.int v17)) (As := [.ref r15]) (st := []) (M' := M18) (pc' := 60) dX11_draft_57 rfl cl_X11_145 ms_X11_draftEnd ⟨⟨Nat.le_of_ble_eq_true rfl, Nat.le_of_ble_eq_true rfl⟩, Nat.le_of_ble_eq_true rfl, Nat.le_of_ble_eq_true rfl⟩ rfl (Nat.le_of_ble_eq_true rfl) (ok_X11_draftEnd (G := zs G) e19) ?_
    show X G t_X11_draft [] 60 [some (.ref a0), some (.int a1)] [.int v17] M18 0 0 _
    cases h
    exact X.iret (ty := .int) dX11_draft_60 rfl rfl (Nat.le_of_ble_eq_true rfl) (Nat.le_of_ble_eq_true rfl) rfl
  · rw [if_neg hc] at h
    refine X.iconst (v := 0) (pc' := 40) dX11_draft_39 rfl (by decide) ?_
    cases h
    exact X.iret (ty := .int) dX11_draft_40 rfl rfl (Nat.le_of_ble_eq_true rfl) (Nat.le_of_ble_eq_true rfl) rfl
def f_X11_draft (fu : Nat) (a0 : Nat) (a1 : Int32) (M : List Ob) : Option (Int32 × List Ob) :=
  (hasO M a0 11).bind fun _ =>
  bd2 (f_X11_isArc fu a0 a1 M) fun v1 M2 =>
  if v1 = 0 then (f_X11_draft_29 fu a0 a1 a0 1 M2)
  else ((gP M2 a0 11 0).bind fun r5 =>
  bd2 (f_X11_canGo fu r5 a1 M2) fun v7 M8 =>
  if v7 = 0 then (f_X11_draft_29 fu a0 a1 a0 2 M8)
  else (f_X11_draft_29 fu a0 a1 a0 0 M8))
set_option maxHeartbeats 4000000 in
theorem ok_X11_draft {G : GT} {fu : Nat} {a0 : Nat} {a1 : Int32} {M : List Ob} {out : Int32 × List Ob} (h : f_X11_draft fu a0 a1 M = some out) : Sp G t_X11_draft [.ref a0, .int a1] M (oI out) := by
  refine Sp.of rfl (by decide +kernel) (cat_all rfl) (Nat.le_of_ble_eq_true rfl) ?_
  show X G t_X11_draft [] 0 [some (.ref a0), some (.int a1)] [] M 0 0 (oI out)
  unfold f_X11_draft at h
  refine X.aload_n (x := a0) (pc' := 1) dX11_draft_0 rfl rfl rfl ?_
  refine X.aload_n (x := a0) (pc' := 2) dX11_draft_1 rfl rfl rfl ?_
  refine X.iload_n (x := a1) (pc' := 3) dX11_draft_2 rfl rfl rfl ?_
  obtain ⟨⟨⟩, e4, h⟩ := bindE h
  obtain ⟨v1, M2, e3, h⟩ := bd2E h
  refine X.callV (b := a0) (v := some (.int v1)) (As := [.int a1]) (st := [.ref a0]) (M' := M2) (pc' := 6) dX11_draft_3 rfl cl_X11_187 mi_X11_isArc me_X11_isArc mr_X11_isArc e4 ⟨⟨Nat.le_of_ble_eq_true rfl, Nat.le_of_ble_eq_true rfl⟩, Nat.le_of_ble_eq_true rfl, Nat.le_of_ble_eq_true rfl⟩ rfl (Nat.le_of_ble_eq_true rfl) (ok_X11_isArc (G := zs G) e3) ?_
  show X G t_X11_draft [] 6 [some (.ref a0), some (.int a1)] [.int v1, .ref a0] M2 0 0 _
  refine X.if_ne (tgt := 13) (pc' := 9) dX11_draft_6 (by decide) rfl (fun hc => ?_) (fun hc => ?_)
  · rw [if_neg hc] at h
    refine X.aload_n (x := a0) (pc' := 14) dX11_draft_13 rfl rfl rfl ?_
    obtain ⟨r5, e6, h⟩ := bindE h
    refine X.getf (pc' := 17) dX11_draft_14 rfl fq_X11_7 (gP_spec e6) ?_
    refine X.iload_n (x := a1) (pc' := 18) dX11_draft_17 rfl rfl rfl ?_
    obtain ⟨v7, M8, e9, h⟩ := bd2E h
    refine X.callS (v := some (.int v7)) (As := [.ref r5, .int a1]) (st := [.ref a0]) (M' := M8) (pc' := 21) dX11_draft_18 rfl cl_X11_134 ms_X11_canGo ⟨⟨Nat.le_of_ble_eq_true rfl, Nat.le_of_ble_eq_true rfl⟩, Nat.le_of_ble_eq_true rfl, Nat.le_of_ble_eq_true rfl⟩ rfl (Nat.le_of_ble_eq_true rfl) (ok_X11_canGo (G := zs G) e9) ?_
    show X G t_X11_draft [] 21 [some (.ref a0), some (.int a1)] [.int v7, .ref a0] M8 0 0 _
    refine X.if_eq (tgt := 28) (pc' := 24) dX11_draft_21 (by decide) rfl (fun hc => ?_) (fun hc => ?_)
    · rw [if_pos hc] at h
      refine X.iconst (v := 2) (pc' := 29) dX11_draft_28 rfl (by decide) ?_
      exact ok_X11_draft_29 h
    · rw [if_neg hc] at h
      refine X.iconst (v := 0) (pc' := 25) dX11_draft_24 rfl (by decide) ?_
      refine X.goto (pc' := 29) dX11_draft_25 (by decide) ?_
      exact ok_X11_draft_29 h
  · rw [if_pos hc] at h
    refine X.iconst (v := 1) (pc' := 10) dX11_draft_9 rfl (by decide) ?_
    refine X.goto (pc' := 29) dX11_draft_10 (by decide) ?_
    exact ok_X11_draft_29 h
def f_X11_drop_16 (fu : Nat) (a0 : Nat) (b0 : Nat) (b1 : Int32) (M : List Ob) : Option (Int32 × List Ob) :=
  (pF M b0 11 4 (.int b1)).bind fun M1 =>
  (gI M1 a0 11 4).bind fun v3 =>
  if v3 ≤ 0 then ((hasO M1 a0 11).bind fun _ =>
  bd2 (f_X11_keeps fu a0 M1) fun _ M6 =>
  (gP M6 a0 11 0).bind fun r9 =>
  (aI M6 r9 13 118).bind fun v12 =>
  (aSet M6 r9 13 118 (.int (v12 - 1))).bind fun M14 =>
  (gP M14 a0 11 0).bind fun r15 =>
  (aI M14 r15 13 118).bind fun v18 =>
  some (v18, M14))
  else (some (0, M1))
set_option maxHeartbeats 4000000 in
theorem ok_X11_drop_16 {G : GT} {fu : Nat} {out : Int32 × List Ob} {a0 : Nat} {b0 : Nat} {b1 : Int32} {M : List Ob} (h : f_X11_drop_16 fu a0 b0 b1 M = some out) : X G t_X11_drop [] 16 [some (.ref a0)] [.int b1, .ref b0] M 0 0 (oI out) := by
  unfold f_X11_drop_16 at h
  obtain ⟨M1, e2, h⟩ := bindE h
  refine X.putf (pc' := 19) dX11_drop_16 rfl fq_X11_56 rfl rfl e2 ?_
  refine X.aload_n (x := a0) (pc' := 20) dX11_drop_19 rfl rfl rfl ?_
  obtain ⟨v3, e4, h⟩ := bindE h
  refine X.getf (pc' := 23) dX11_drop_20 rfl fq_X11_56 (gI_spec e4) ?_
  refine X.if_le (tgt := 28) (pc' := 26) dX11_drop_23 (by decide) rfl (fun hc => ?_) (fun hc => ?_)
  · rw [if_pos hc] at h
    refine X.aload_n (x := a0) (pc' := 29) dX11_drop_28 rfl rfl rfl ?_
    obtain ⟨⟨⟩, e8, h⟩ := bindE h
    obtain ⟨r5, M6, e7, h⟩ := bd2E h
    refine X.callV (b := a0) (v := none) (As := []) (st := []) (M' := M6) (pc' := 32) dX11_drop_29 rfl cl_X11_176 mi_X11_keeps me_X11_keeps mr_X11_keeps e8 ⟨⟨Nat.le_of_ble_eq_true rfl, Nat.le_of_ble_eq_true rfl⟩, Nat.le_of_ble_eq_true rfl, Nat.le_of_ble_eq_true rfl⟩ rfl (Nat.le_of_ble_eq_true rfl) (ok_X11_keeps (G := zs G) e7) ?_
    show X G t_X11_drop [] 32 [some (.ref a0)] [] M6 0 0 _
    refine X.aload_n (x := a0) (pc' := 33) dX11_drop_32 rfl rfl rfl ?_
    obtain ⟨r9, e10, h⟩ := bindE h
    refine X.getf (pc' := 36) dX11_drop_33 rfl fq_X11_7 (gP_spec e10) ?_
    refine X.bipush (v := 118) (pc' := 38) dX11_drop_36 rfl (by decide) ?_
    refine X.dup2 (pc' := 39) dX11_drop_38 rfl rfl rfl ?_
    obtain ⟨v12, e11, h⟩ := bindE h
    refine X.iald (pc' := 40) dX11_drop_39 rfl e11 ?_
    refine X.iconst (v := 1) (pc' := 41) dX11_drop_40 rfl (by decide) ?_
    refine X.isub (pc' := 42) dX11_drop_41 rfl ?_
    obtain ⟨M14, e13, h⟩ := bindE h
    refine X.iast (pc' := 43) dX11_drop_42 rfl e13 ?_
    refine X.aload_n (x := a0) (pc' := 44) dX11_drop_43 rfl rfl rfl ?_
    obtain ⟨r15, e16, h⟩ := bindE h
    refine X.getf (pc' := 47) dX11_drop_44 rfl fq_X11_7 (gP_spec e16) ?_
    refine X.bipush (v := 118) (pc' := 49) dX11_drop_47 rfl (by decide) ?_
    obtain ⟨v18, e17, h⟩ := bindE h
    refine X.iald (pc' := 50) dX11_drop_49 rfl e17 ?_
    cases h
    exact X.iret (ty := .int) dX11_drop_50 rfl rfl (Nat.le_of_ble_eq_true rfl) (Nat.le_of_ble_eq_true rfl) rfl
  · rw [if_neg hc] at h
    refine X.iconst (v := 0) (pc' := 27) dX11_drop_26 rfl (by decide) ?_
    cases h
    exact X.iret (ty := .int) dX11_drop_27 rfl rfl (Nat.le_of_ble_eq_true rfl) (Nat.le_of_ble_eq_true rfl) rfl
def f_X11_drop (fu : Nat) (a0 : Nat) (M : List Ob) : Option (Int32 × List Ob) :=
  (gP M a0 11 0).bind fun r1 =>
  (aI M r1 13 118).bind fun v4 =>
  if v4 = 0 then (f_X11_drop_16 fu a0 a0 1 M)
  else (f_X11_drop_16 fu a0 a0 0 M)
set_option maxHeartbeats 4000000 in
theorem ok_X11_drop {G : GT} {fu : Nat} {a0 : Nat} {M : List Ob} {out : Int32 × List Ob} (h : f_X11_drop fu a0 M = some out) : Sp G t_X11_drop [.ref a0] M (oI out) := by
  refine Sp.of rfl (by decide +kernel) (cat_all rfl) (Nat.le_of_ble_eq_true rfl) ?_
  show X G t_X11_drop [] 0 [some (.ref a0)] [] M 0 0 (oI out)
  unfold f_X11_drop at h
  refine X.aload_n (x := a0) (pc' := 1) dX11_drop_0 rfl rfl rfl ?_
  refine X.aload_n (x := a0) (pc' := 2) dX11_drop_1 rfl rfl rfl ?_
  obtain ⟨r1, e2, h⟩ := bindE h
  refine X.getf (pc' := 5) dX11_drop_2 rfl fq_X11_7 (gP_spec e2) ?_
  refine X.bipush (v := 118) (pc' := 7) dX11_drop_5 rfl (by decide) ?_
  obtain ⟨v4, e3, h⟩ := bindE h
  refine X.iald (pc' := 8) dX11_drop_7 rfl e3 ?_
  refine X.if_ne (tgt := 15) (pc' := 11) dX11_drop_8 (by decide) rfl (fun hc => ?_) (fun hc => ?_)
  · rw [if_neg hc] at h
    refine X.iconst (v := 0) (pc' := 16) dX11_drop_15 rfl (by decide) ?_
    exact ok_X11_drop_16 h
  · rw [if_pos hc] at h
    refine X.iconst (v := 1) (pc' := 12) dX11_drop_11 rfl (by decide) ?_
    refine X.goto (pc' := 16) dX11_drop_12 (by decide) ?_
    exact ok_X11_drop_16 h
def f_X11_reasonNow (fu : Nat) (a0 : Nat) (M : List Ob) : Option (Int32 × List Ob) :=
  (gP M a0 11 0).bind fun r1 =>
  bd2 (f_X11_draftEnd fu r1 M) fun v3 M4 =>
  (gP M4 a0 11 0).bind fun r7 =>
  (aI M4 r7 13 2).bind fun v10 =>
  if v3 = v10 then ((gP M4 a0 11 0).bind fun r11 =>
  bd2 (f_X11_toldAs fu r11 M4) fun v13 M14 =>
  if v13 = (-1) then ((gP M14 a0 11 0).bind fun r17 =>
  (aI M14 r17 13 69).bind fun v20 =>
  if v20 = 6 then (some (3, M14))
  else (some (0, M14)))
  else (some (2, M14)))
  else (some (1, M4))
set_option maxHeartbeats 4000000 in
theorem ok_X11_reasonNow {G : GT} {fu : Nat} {a0 : Nat} {M : List Ob} {out : Int32 × List Ob} (h : f_X11_reasonNow fu a0 M = some out) : Sp G t_X11_reasonNow [.ref a0] M (oI out) := by
  refine Sp.of rfl (by decide +kernel) (cat_all rfl) (Nat.le_of_ble_eq_true rfl) ?_
  show X G t_X11_reasonNow [] 0 [some (.ref a0)] [] M 0 0 (oI out)
  unfold f_X11_reasonNow at h
  refine X.aload_n (x := a0) (pc' := 1) dX11_reasonNow_0 rfl rfl rfl ?_
  obtain ⟨r1, e2, h⟩ := bindE h
  refine X.getf (pc' := 4) dX11_reasonNow_1 rfl fq_X11_7 (gP_spec e2) ?_
  obtain ⟨v3, M4, e5, h⟩ := bd2E h
  refine X.callS (v := some (.int v3)) (As := [.ref r1]) (st := []) (M' := M4) (pc' := 7) dX11_reasonNow_4 rfl cl_X11_145 ms_X11_draftEnd ⟨⟨Nat.le_of_ble_eq_true rfl, Nat.le_of_ble_eq_true rfl⟩, Nat.le_of_ble_eq_true rfl, Nat.le_of_ble_eq_true rfl⟩ rfl (Nat.le_of_ble_eq_true rfl) (ok_X11_draftEnd (G := zs G) e5) ?_
  show X G t_X11_reasonNow [] 7 [some (.ref a0)] [.int v3] M4 0 0 _
  refine X.aload_n (x := a0) (pc' := 8) dX11_reasonNow_7 rfl rfl rfl ?_
  obtain ⟨r7, e8, h⟩ := bindE h
  refine X.getf (pc' := 11) dX11_reasonNow_8 rfl fq_X11_7 (gP_spec e8) ?_
  refine X.iconst (v := 2) (pc' := 12) dX11_reasonNow_11 rfl (by decide) ?_
  obtain ⟨v10, e9, h⟩ := bindE h
  refine X.iald (pc' := 13) dX11_reasonNow_12 rfl e9 ?_
  refine X.icmp_eq (tgt := 20) (pc' := 16) dX11_reasonNow_13 (by decide) rfl (fun hc => ?_) (fun hc => ?_)
  · rw [if_pos hc] at h
    refine X.aload_n (x := a0) (pc' := 21) dX11_reasonNow_20 rfl rfl rfl ?_
    obtain ⟨r11, e12, h⟩ := bindE h
    refine X.getf (pc' := 24) dX11_reasonNow_21 rfl fq_X11_7 (gP_spec e12) ?_
    obtain ⟨v13, M14, e15, h⟩ := bd2E h
    refine X.callS (v := some (.int v13)) (As := [.ref r11]) (st := []) (M' := M14) (pc' := 27) dX11_reasonNow_24 rfl cl_X11_149 ms_X11_toldAs ⟨⟨Nat.le_of_ble_eq_true rfl, Nat.le_of_ble_eq_true rfl⟩, Nat.le_of_ble_eq_true rfl, Nat.le_of_ble_eq_true rfl⟩ rfl (Nat.le_of_ble_eq_true rfl) (ok_X11_toldAs (G := zs G) e15) ?_
    show X G t_X11_reasonNow [] 27 [some (.ref a0)] [.int v13] M14 0 0 _
    refine X.iconst (v := (-1)) (pc' := 28) dX11_reasonNow_27 rfl (by decide) ?_
    refine X.icmp_eq (tgt := 35) (pc' := 31) dX11_reasonNow_28 (by decide) rfl (fun hc => ?_) (fun hc => ?_)
    · rw [if_pos hc] at h
      refine X.aload_n (x := a0) (pc' := 36) dX11_reasonNow_35 rfl rfl rfl ?_
      obtain ⟨r17, e18, h⟩ := bindE h
      refine X.getf (pc' := 39) dX11_reasonNow_36 rfl fq_X11_7 (gP_spec e18) ?_
      refine X.bipush (v := 69) (pc' := 41) dX11_reasonNow_39 rfl (by decide) ?_
      obtain ⟨v20, e19, h⟩ := bindE h
      refine X.iald (pc' := 42) dX11_reasonNow_41 rfl e19 ?_
      refine X.bipush (v := 6) (pc' := 44) dX11_reasonNow_42 rfl (by decide) ?_
      refine X.icmp_ne (tgt := 51) (pc' := 47) dX11_reasonNow_44 (by decide) rfl (fun hc => ?_) (fun hc => ?_)
      · rw [if_neg hc] at h
        refine X.iconst (v := 0) (pc' := 52) dX11_reasonNow_51 rfl (by decide) ?_
        cases h
        exact X.iret (ty := .int) dX11_reasonNow_52 rfl rfl (Nat.le_of_ble_eq_true rfl) (Nat.le_of_ble_eq_true rfl) rfl
      · rw [if_pos hc] at h
        refine X.iconst (v := 3) (pc' := 48) dX11_reasonNow_47 rfl (by decide) ?_
        refine X.goto (pc' := 52) dX11_reasonNow_48 (by decide) ?_
        cases h
        exact X.iret (ty := .int) dX11_reasonNow_52 rfl rfl (Nat.le_of_ble_eq_true rfl) (Nat.le_of_ble_eq_true rfl) rfl
    · rw [if_neg hc] at h
      refine X.iconst (v := 2) (pc' := 32) dX11_reasonNow_31 rfl (by decide) ?_
      refine X.goto (pc' := 52) dX11_reasonNow_32 (by decide) ?_
      cases h
      exact X.iret (ty := .int) dX11_reasonNow_52 rfl rfl (Nat.le_of_ble_eq_true rfl) (Nat.le_of_ble_eq_true rfl) rfl
  · rw [if_neg hc] at h
    refine X.iconst (v := 1) (pc' := 17) dX11_reasonNow_16 rfl (by decide) ?_
    refine X.goto (pc' := 52) dX11_reasonNow_17 (by decide) ?_
    cases h
    exact X.iret (ty := .int) dX11_reasonNow_52 rfl rfl (Nat.le_of_ble_eq_true rfl) (Nat.le_of_ble_eq_true rfl) rfl
def f_X11_reason (fu : Nat) (a0 : Nat) (M : List Ob) : Option (Int32 × List Ob) :=
  (pF M a0 11 4 (.int 0)).bind fun M1 =>
  (hasO M1 a0 11).bind fun _ =>
  bd2 (f_X11_reasonNow fu a0 M1) fun v3 M4 =>
  some (v3, M4)
set_option maxHeartbeats 4000000 in
theorem ok_X11_reason {G : GT} {fu : Nat} {a0 : Nat} {M : List Ob} {out : Int32 × List Ob} (h : f_X11_reason fu a0 M = some out) : Sp G t_X11_reason [.ref a0] M (oI out) := by
  refine Sp.of rfl (by decide +kernel) (cat_all rfl) (Nat.le_of_ble_eq_true rfl) ?_
  show X G t_X11_reason [] 0 [some (.ref a0)] [] M 0 0 (oI out)
  unfold f_X11_reason at h
  refine X.aload_n (x := a0) (pc' := 1) dX11_reason_0 rfl rfl rfl ?_
  refine X.iconst (v := 0) (pc' := 2) dX11_reason_1 rfl (by decide) ?_
  obtain ⟨M1, e2, h⟩ := bindE h
  refine X.putf (pc' := 5) dX11_reason_2 rfl fq_X11_56 rfl rfl e2 ?_
  refine X.aload_n (x := a0) (pc' := 6) dX11_reason_5 rfl rfl rfl ?_
  obtain ⟨⟨⟩, e6, h⟩ := bindE h
  obtain ⟨v3, M4, e5, h⟩ := bd2E h
  refine X.callV (b := a0) (v := some (.int v3)) (As := []) (st := []) (M' := M4) (pc' := 9) dX11_reason_6 rfl cl_X11_203 mi_X11_reasonNow me_X11_reasonNow mr_X11_reasonNow e6 ⟨⟨Nat.le_of_ble_eq_true rfl, Nat.le_of_ble_eq_true rfl⟩, Nat.le_of_ble_eq_true rfl, Nat.le_of_ble_eq_true rfl⟩ rfl (Nat.le_of_ble_eq_true rfl) (ok_X11_reasonNow (G := zs G) e5) ?_
  show X G t_X11_reason [] 9 [some (.ref a0)] [.int v3] M4 0 0 _
  cases h
  exact X.iret (ty := .int) dX11_reason_9 rfl rfl (Nat.le_of_ble_eq_true rfl) (Nat.le_of_ble_eq_true rfl) rfl
def f_X11_tell_13 (fu : Nat) (a0 : Nat) (b0 : Nat) (b1 : Int32) (M : List Ob) : Option (Int32 × List Ob) :=
  (pF M b0 11 4 (.int b1)).bind fun M1 =>
  (gI M1 a0 11 4).bind fun v3 =>
  if v3 ≤ 0 then ((hasO M1 a0 11).bind fun _ =>
  bd2 (f_X11_keeps fu a0 M1) fun _ M6 =>
  (gP M6 a0 11 0).bind fun r9 =>
  bd2 (f_X11_tells fu r9 M6) fun _ M12 =>
  (gP M12 a0 11 0).bind fun r15 =>
  (aI M12 r15 13 69).bind fun v18 =>
  some ((v18 - 1), M12))
  else (some (0, M1))
set_option maxHeartbeats 4000000 in
theorem ok_X11_tell_13 {G : GT} {fu : Nat} {out : Int32 × List Ob} {a0 : Nat} {b0 : Nat} {b1 : Int32} {M : List Ob} (h : f_X11_tell_13 fu a0 b0 b1 M = some out) : X G t_X11_tell [] 13 [some (.ref a0)] [.int b1, .ref b0] M 0 0 (oI out) := by
  unfold f_X11_tell_13 at h
  obtain ⟨M1, e2, h⟩ := bindE h
  refine X.putf (pc' := 16) dX11_tell_13 rfl fq_X11_56 rfl rfl e2 ?_
  refine X.aload_n (x := a0) (pc' := 17) dX11_tell_16 rfl rfl rfl ?_
  obtain ⟨v3, e4, h⟩ := bindE h
  refine X.getf (pc' := 20) dX11_tell_17 rfl fq_X11_56 (gI_spec e4) ?_
  refine X.if_le (tgt := 25) (pc' := 23) dX11_tell_20 (by decide) rfl (fun hc => ?_) (fun hc => ?_)
  · rw [if_pos hc] at h
    refine X.aload_n (x := a0) (pc' := 26) dX11_tell_25 rfl rfl rfl ?_
    obtain ⟨⟨⟩, e8, h⟩ := bindE h
    obtain ⟨r5, M6, e7, h⟩ := bd2E h
    refine X.callV (b := a0) (v := none) (As := []) (st := []) (M' := M6) (pc' := 29) dX11_tell_26 rfl cl_X11_176 mi_X11_keeps me_X11_keeps mr_X11_keeps e8 ⟨⟨Nat.le_of_ble_eq_true rfl, Nat.le_of_ble_eq_true rfl⟩, Nat.le_of_ble_eq_true rfl, Nat.le_of_ble_eq_true rfl⟩ rfl (Nat.le_of_ble_eq_true rfl) (ok_X11_keeps (G := zs G) e7) ?_
    show X G t_X11_tell [] 29 [some (.ref a0)] [] M6 0 0 _
    refine X.aload_n (x := a0) (pc' := 30) dX11_tell_29 rfl rfl rfl ?_
    obtain ⟨r9, e10, h⟩ := bindE h
    refine X.getf (pc' := 33) dX11_tell_30 rfl fq_X11_7 (gP_spec e10) ?_
    obtain ⟨r11, M12, e13, h⟩ := bd2E h
    refine X.callS (v := none) (As := [.ref r9]) (st := []) (M' := M12) (pc' := 36) dX11_tell_33 rfl cl_X11_152 ms_X11_tells ⟨⟨Nat.le_of_ble_eq_true rfl, Nat.le_of_ble_eq_true rfl⟩, Nat.le_of_ble_eq_true rfl, Nat.le_of_ble_eq_true rfl⟩ rfl (Nat.le_of_ble_eq_true rfl) (ok_X11_tells (G := zs G) e13) ?_
    show X G t_X11_tell [] 36 [some (.ref a0)] [] M12 0 0 _
    refine X.aload_n (x := a0) (pc' := 37) dX11_tell_36 rfl rfl rfl ?_
    obtain ⟨r15, e16, h⟩ := bindE h
    refine X.getf (pc' := 40) dX11_tell_37 rfl fq_X11_7 (gP_spec e16) ?_
    refine X.bipush (v := 69) (pc' := 42) dX11_tell_40 rfl (by decide) ?_
    obtain ⟨v18, e17, h⟩ := bindE h
    refine X.iald (pc' := 43) dX11_tell_42 rfl e17 ?_
    refine X.iconst (v := 1) (pc' := 44) dX11_tell_43 rfl (by decide) ?_
    refine X.isub (pc' := 45) dX11_tell_44 rfl ?_
    cases h
    exact X.iret (ty := .int) dX11_tell_45 rfl rfl (Nat.le_of_ble_eq_true rfl) (Nat.le_of_ble_eq_true rfl) rfl
  · rw [if_neg hc] at h
    refine X.iconst (v := 0) (pc' := 24) dX11_tell_23 rfl (by decide) ?_
    cases h
    exact X.iret (ty := .int) dX11_tell_24 rfl rfl (Nat.le_of_ble_eq_true rfl) (Nat.le_of_ble_eq_true rfl) rfl
def f_X11_tell (fu : Nat) (a0 : Nat) (M : List Ob) : Option (Int32 × List Ob) :=
  (hasO M a0 11).bind fun _ =>
  bd2 (f_X11_reasonNow fu a0 M) fun v1 M2 =>
  if v1 ≤ 0 then (f_X11_tell_13 fu a0 a0 0 M2)
  else (f_X11_tell_13 fu a0 a0 1 M2)
set_option maxHeartbeats 4000000 in
theorem ok_X11_tell {G : GT} {fu : Nat} {a0 : Nat} {M : List Ob} {out : Int32 × List Ob} (h : f_X11_tell fu a0 M = some out) : Sp G t_X11_tell [.ref a0] M (oI out) := by
  refine Sp.of rfl (by decide +kernel) (cat_all rfl) (Nat.le_of_ble_eq_true rfl) ?_
  show X G t_X11_tell [] 0 [some (.ref a0)] [] M 0 0 (oI out)
  unfold f_X11_tell at h
  refine X.aload_n (x := a0) (pc' := 1) dX11_tell_0 rfl rfl rfl ?_
  refine X.aload_n (x := a0) (pc' := 2) dX11_tell_1 rfl rfl rfl ?_
  obtain ⟨⟨⟩, e4, h⟩ := bindE h
  obtain ⟨v1, M2, e3, h⟩ := bd2E h
  refine X.callV (b := a0) (v := some (.int v1)) (As := []) (st := [.ref a0]) (M' := M2) (pc' := 5) dX11_tell_2 rfl cl_X11_203 mi_X11_reasonNow me_X11_reasonNow mr_X11_reasonNow e4 ⟨⟨Nat.le_of_ble_eq_true rfl, Nat.le_of_ble_eq_true rfl⟩, Nat.le_of_ble_eq_true rfl, Nat.le_of_ble_eq_true rfl⟩ rfl (Nat.le_of_ble_eq_true rfl) (ok_X11_reasonNow (G := zs G) e3) ?_
  show X G t_X11_tell [] 5 [some (.ref a0)] [.int v1, .ref a0] M2 0 0 _
  refine X.if_le (tgt := 12) (pc' := 8) dX11_tell_5 (by decide) rfl (fun hc => ?_) (fun hc => ?_)
  · rw [if_pos hc] at h
    refine X.iconst (v := 0) (pc' := 13) dX11_tell_12 rfl (by decide) ?_
    exact ok_X11_tell_13 h
  · rw [if_neg hc] at h
    refine X.iconst (v := 1) (pc' := 9) dX11_tell_8 rfl (by decide) ?_
    refine X.goto (pc' := 13) dX11_tell_9 (by decide) ?_
    exact ok_X11_tell_13 h
def f_X11_forget_49b (fu : Nat) (a0 : Nat) (a2 : Int32) (M : List Ob) (k49 : Nat → Int32 → List Ob → Option (Int32 × List Ob)) (k87 : Nat → List Ob → Option (Int32 × List Ob)) : Option (Int32 × List Ob) :=
  (gP M a0 11 0).bind fun r1 =>
  (aI M r1 13 69).bind fun v4 =>
  if (70 + (8 * v4)) ≤ a2 then (k87 a0 M)
  else ((gP M a0 11 0).bind fun r5 =>
  (gP M a0 11 0).bind fun r7 =>
  (aI M r7 13 (a2 + 8)).bind fun v10 =>
  (aSet M r5 13 a2 (.int v10)).bind fun M12 =>
  k49 a0 (a2 + 1) M12)
set_option maxHeartbeats 4000000 in
theorem ok_X11_forget_49b {G : GT} {fu : Nat} {out : Int32 × List Ob} {a0 : Nat} {a2 : Int32} {M : List Ob} {k49 : Nat → Int32 → List Ob → Option (Int32 × List Ob)} {k87 : Nat → List Ob → Option (Int32 × List Ob)} (hk49 : ∀ (a0 : Nat) (a2 : Int32) (M : List Ob), k49 a0 a2 M = some out → X G t_X11_forget [] 49 [some (.ref a0), none, some (.int a2)] [] M 0 0 (oI out)) (hk87 : ∀ (a0 : Nat) (M : List Ob), k87 a0 M = some out → X G t_X11_forget [] 87 [some (.ref a0), none, none] [] M 0 0 (oI out)) (h : f_X11_forget_49b fu a0 a2 M k49 k87 = some out) : X G t_X11_forget [] 49 [some (.ref a0), none, some (.int a2)] [] M 0 0 (oI out) := by
  unfold f_X11_forget_49b at h
  refine X.iload_n (x := a2) (pc' := 50) dX11_forget_49 rfl rfl rfl ?_
  refine X.bipush (v := 70) (pc' := 52) dX11_forget_50 rfl (by decide) ?_
  refine X.bipush (v := 8) (pc' := 54) dX11_forget_52 rfl (by decide) ?_
  refine X.aload_n (x := a0) (pc' := 55) dX11_forget_54 rfl rfl rfl ?_
  obtain ⟨r1, e2, h⟩ := bindE h
  refine X.getf (pc' := 58) dX11_forget_55 rfl fq_X11_7 (gP_spec e2) ?_
  refine X.bipush (v := 69) (pc' := 60) dX11_forget_58 rfl (by decide) ?_
  obtain ⟨v4, e3, h⟩ := bindE h
  refine X.iald (pc' := 61) dX11_forget_60 rfl e3 ?_
  refine X.imul (pc' := 62) dX11_forget_61 rfl ?_
  refine X.iadd (pc' := 63) dX11_forget_62 rfl ?_
  refine X.icmp_ge (tgt := 87) (pc' := 66) dX11_forget_63 (by decide) rfl (fun hc => ?_) (fun hc => ?_)
  · rw [if_pos hc] at h
    refine X.sub (L := [some (.ref a0), none, none]) ?_ (⟨rfl, trivial⟩)
    exact hk87 _ _ h
  · rw [if_neg hc] at h
    refine X.aload_n (x := a0) (pc' := 67) dX11_forget_66 rfl rfl rfl ?_
    obtain ⟨r5, e6, h⟩ := bindE h
    refine X.getf (pc' := 70) dX11_forget_67 rfl fq_X11_7 (gP_spec e6) ?_
    refine X.iload_n (x := a2) (pc' := 71) dX11_forget_70 rfl rfl rfl ?_
    refine X.aload_n (x := a0) (pc' := 72) dX11_forget_71 rfl rfl rfl ?_
    obtain ⟨r7, e8, h⟩ := bindE h
    refine X.getf (pc' := 75) dX11_forget_72 rfl fq_X11_7 (gP_spec e8) ?_
    refine X.iload_n (x := a2) (pc' := 76) dX11_forget_75 rfl rfl rfl ?_
    refine X.bipush (v := 8) (pc' := 78) dX11_forget_76 rfl (by decide) ?_
    refine X.iadd (pc' := 79) dX11_forget_78 rfl ?_
    obtain ⟨v10, e9, h⟩ := bindE h
    refine X.iald (pc' := 80) dX11_forget_79 rfl e9 ?_
    obtain ⟨M12, e11, h⟩ := bindE h
    refine X.iast (pc' := 81) dX11_forget_80 rfl e11 ?_
    refine X.iinc (v := (a2 + 1)) (L' := [some (.ref a0), none, some (.int (a2 + 1))]) (pc' := 84) dX11_forget_81 rfl rfl (congrArg (fun y => a2 + y) (show Int32.ofInt 1 = 1 by decide)) (Nat.le_of_ble_eq_true rfl) rfl ?_
    refine X.goto (pc' := 49) dX11_forget_84 (by decide) ?_
    exact hk49 _ _ _ h
def f_X11_forget_49 (fu : Nat) (k87 : Nat → List Ob → Option (Int32 × List Ob)) : Nat → Nat → Int32 → List Ob → Option (Int32 × List Ob)
  | 0, _, _, _ => none
  | n + 1, a0, a2, M => f_X11_forget_49b fu a0 a2 M (fun a0 a2 M => f_X11_forget_49 fu k87 n a0 a2 M) k87
theorem ok_X11_forget_49 {G : GT} {fu : Nat} {out : Int32 × List Ob} {k87 : Nat → List Ob → Option (Int32 × List Ob)} (hk87 : ∀ (a0 : Nat) (M : List Ob), k87 a0 M = some out → X G t_X11_forget [] 87 [some (.ref a0), none, none] [] M 0 0 (oI out)) : ∀ (n : Nat) (a0 : Nat) (a2 : Int32) (M : List Ob), f_X11_forget_49 fu k87 n a0 a2 M = some out → X G t_X11_forget [] 49 [some (.ref a0), none, some (.int a2)] [] M 0 0 (oI out) := by
  intro n
  induction n with
  | zero =>
    intro a0 a2 M h
    unfold f_X11_forget_49 at h
    cases h
  | succ n ih =>
    intro a0 a2 M h
    unfold f_X11_forget_49 at h
    exact ok_X11_forget_49b ih hk87 h
def f_X11_forget_87 (fu : Nat) (a0 : Nat) (M : List Ob) : Option (Int32 × List Ob) :=
  (gP M a0 11 0).bind fun r1 =>
  (aI M r1 13 69).bind fun v4 =>
  some (v4, M)
set_option maxHeartbeats 4000000 in
theorem ok_X11_forget_87 {G : GT} {fu : Nat} {out : Int32 × List Ob} {a0 : Nat} {M : List Ob} (h : f_X11_forget_87 fu a0 M = some out) : X G t_X11_forget [] 87 [some (.ref a0), none, none] [] M 0 0 (oI out) := by
  unfold f_X11_forget_87 at h
  refine X.aload_n (x := a0) (pc' := 88) dX11_forget_87 rfl rfl rfl ?_
  obtain ⟨r1, e2, h⟩ := bindE h
  refine X.getf (pc' := 91) dX11_forget_88 rfl fq_X11_7 (gP_spec e2) ?_
  refine X.bipush (v := 69) (pc' := 93) dX11_forget_91 rfl (by decide) ?_
  obtain ⟨v4, e3, h⟩ := bindE h
  refine X.iald (pc' := 94) dX11_forget_93 rfl e3 ?_
  cases h
  exact X.iret (ty := .int) dX11_forget_94 rfl rfl (Nat.le_of_ble_eq_true rfl) (Nat.le_of_ble_eq_true rfl) rfl
def f_X11_forget_14 (fu : Nat) (a0 : Nat) (a1 : Int32) (b0 : Nat) (b1 : Int32) (M : List Ob) : Option (Int32 × List Ob) :=
  (pF M b0 11 4 (.int b1)).bind fun M1 =>
  (gI M1 a0 11 4).bind fun v3 =>
  if v3 ≤ 0 then ((hasO M1 a0 11).bind fun _ =>
  bd2 (f_X11_keeps fu a0 M1) fun _ M6 =>
  (gP M6 a0 11 0).bind fun r9 =>
  (aI M6 r9 13 69).bind fun v12 =>
  (aSet M6 r9 13 69 (.int (v12 - 1))).bind fun M14 =>
  f_X11_forget_49 fu (fun x15 M16 => f_X11_forget_87 fu x15 M16) fu a0 (70 + (8 * a1)) M14)
  else (some (0, M1))
set_option maxHeartbeats 4000000 in
theorem ok_X11_forget_14 {G : GT} {fu : Nat} {out : Int32 × List Ob} {a0 : Nat} {a1 : Int32} {b0 : Nat} {b1 : Int32} {M : List Ob} (h : f_X11_forget_14 fu a0 a1 b0 b1 M = some out) : X G t_X11_forget [] 14 [some (.ref a0), some (.int a1), none] [.int b1, .ref b0] M 0 0 (oI out) := by
  unfold f_X11_forget_14 at h
  obtain ⟨M1, e2, h⟩ := bindE h
  refine X.putf (pc' := 17) dX11_forget_14 rfl fq_X11_56 rfl rfl e2 ?_
  refine X.aload_n (x := a0) (pc' := 18) dX11_forget_17 rfl rfl rfl ?_
  obtain ⟨v3, e4, h⟩ := bindE h
  refine X.getf (pc' := 21) dX11_forget_18 rfl fq_X11_56 (gI_spec e4) ?_
  refine X.if_le (tgt := 26) (pc' := 24) dX11_forget_21 (by decide) rfl (fun hc => ?_) (fun hc => ?_)
  · rw [if_pos hc] at h
    refine X.aload_n (x := a0) (pc' := 27) dX11_forget_26 rfl rfl rfl ?_
    obtain ⟨⟨⟩, e8, h⟩ := bindE h
    obtain ⟨r5, M6, e7, h⟩ := bd2E h
    refine X.callV (b := a0) (v := none) (As := []) (st := []) (M' := M6) (pc' := 30) dX11_forget_27 rfl cl_X11_176 mi_X11_keeps me_X11_keeps mr_X11_keeps e8 ⟨⟨Nat.le_of_ble_eq_true rfl, Nat.le_of_ble_eq_true rfl⟩, Nat.le_of_ble_eq_true rfl, Nat.le_of_ble_eq_true rfl⟩ rfl (Nat.le_of_ble_eq_true rfl) (ok_X11_keeps (G := zs G) e7) ?_
    show X G t_X11_forget [] 30 [some (.ref a0), some (.int a1), none] [] M6 0 0 _
    refine X.aload_n (x := a0) (pc' := 31) dX11_forget_30 rfl rfl rfl ?_
    obtain ⟨r9, e10, h⟩ := bindE h
    refine X.getf (pc' := 34) dX11_forget_31 rfl fq_X11_7 (gP_spec e10) ?_
    refine X.bipush (v := 69) (pc' := 36) dX11_forget_34 rfl (by decide) ?_
    refine X.dup2 (pc' := 37) dX11_forget_36 rfl rfl rfl ?_
    obtain ⟨v12, e11, h⟩ := bindE h
    refine X.iald (pc' := 38) dX11_forget_37 rfl e11 ?_
    refine X.iconst (v := 1) (pc' := 39) dX11_forget_38 rfl (by decide) ?_
    refine X.isub (pc' := 40) dX11_forget_39 rfl ?_
    obtain ⟨M14, e13, h⟩ := bindE h
    refine X.iast (pc' := 41) dX11_forget_40 rfl e13 ?_
    refine X.bipush (v := 70) (pc' := 43) dX11_forget_41 rfl (by decide) ?_
    refine X.bipush (v := 8) (pc' := 45) dX11_forget_43 rfl (by decide) ?_
    refine X.iload_n (x := a1) (pc' := 46) dX11_forget_45 rfl rfl rfl ?_
    refine X.imul (pc' := 47) dX11_forget_46 rfl ?_
    refine X.iadd (pc' := 48) dX11_forget_47 rfl ?_
    refine X.istore_n (L' := [some (.ref a0), some (.int a1), some (.int (70 + (8 * a1)))]) (pc' := 49) dX11_forget_48 rfl rfl (Nat.le_of_ble_eq_true rfl) rfl ?_
    refine X.sub (L := [some (.ref a0), none, some (.int (70 + (8 * a1)))]) ?_ (⟨rfl, ⟨rfl, trivial⟩⟩)
    refine ok_X11_forget_49 ?_ fu _ _ _ h
    · intro x15 M16 h
      exact ok_X11_forget_87 h
  · rw [if_neg hc] at h
    refine X.iconst (v := 0) (pc' := 25) dX11_forget_24 rfl (by decide) ?_
    cases h
    exact X.iret (ty := .int) dX11_forget_25 rfl rfl (Nat.le_of_ble_eq_true rfl) (Nat.le_of_ble_eq_true rfl) rfl
def f_X11_forget (fu : Nat) (a0 : Nat) (a1 : Int32) (M : List Ob) : Option (Int32 × List Ob) :=
  (hasO M a0 11).bind fun _ =>
  bd2 (f_X11_isTold fu a0 a1 M) fun v1 M2 =>
  if v1 = 0 then (f_X11_forget_14 fu a0 a1 a0 1 M2)
  else (f_X11_forget_14 fu a0 a1 a0 0 M2)
set_option maxHeartbeats 4000000 in
theorem ok_X11_forget {G : GT} {fu : Nat} {a0 : Nat} {a1 : Int32} {M : List Ob} {out : Int32 × List Ob} (h : f_X11_forget fu a0 a1 M = some out) : Sp G t_X11_forget [.ref a0, .int a1] M (oI out) := by
  refine Sp.of rfl (by decide +kernel) (cat_all rfl) (Nat.le_of_ble_eq_true rfl) ?_
  show X G t_X11_forget [] 0 [some (.ref a0), some (.int a1), none] [] M 0 0 (oI out)
  unfold f_X11_forget at h
  refine X.aload_n (x := a0) (pc' := 1) dX11_forget_0 rfl rfl rfl ?_
  refine X.aload_n (x := a0) (pc' := 2) dX11_forget_1 rfl rfl rfl ?_
  refine X.iload_n (x := a1) (pc' := 3) dX11_forget_2 rfl rfl rfl ?_
  obtain ⟨⟨⟩, e4, h⟩ := bindE h
  obtain ⟨v1, M2, e3, h⟩ := bd2E h
  refine X.callV (b := a0) (v := some (.int v1)) (As := [.int a1]) (st := [.ref a0]) (M' := M2) (pc' := 6) dX11_forget_3 rfl cl_X11_206 mi_X11_isTold me_X11_isTold mr_X11_isTold e4 ⟨⟨Nat.le_of_ble_eq_true rfl, Nat.le_of_ble_eq_true rfl⟩, Nat.le_of_ble_eq_true rfl, Nat.le_of_ble_eq_true rfl⟩ rfl (Nat.le_of_ble_eq_true rfl) (ok_X11_isTold (G := zs G) e3) ?_
  show X G t_X11_forget [] 6 [some (.ref a0), some (.int a1), none] [.int v1, .ref a0] M2 0 0 _
  refine X.if_eq (tgt := 13) (pc' := 9) dX11_forget_6 (by decide) rfl (fun hc => ?_) (fun hc => ?_)
  · rw [if_pos hc] at h
    refine X.iconst (v := 1) (pc' := 14) dX11_forget_13 rfl (by decide) ?_
    exact ok_X11_forget_14 h
  · rw [if_neg hc] at h
    refine X.iconst (v := 0) (pc' := 10) dX11_forget_9 rfl (by decide) ?_
    refine X.goto (pc' := 14) dX11_forget_10 (by decide) ?_
    exact ok_X11_forget_14 h
def f_X11_routeArc_36 (fu : Nat) (a0 : Nat) (a1 : Int32) (a2 : Int32) (b0 : Nat) (b1 : Int32) (M : List Ob) : Option (Int32 × List Ob) :=
  (pF M b0 11 4 (.int b1)).bind fun M1 =>
  (gI M1 a0 11 4).bind fun v3 =>
  if v3 ≤ 0 then ((gP M1 a0 11 0).bind fun r5 =>
  (aI M1 r5 13 (((70 + (8 * a1)) + 1) + a2)).bind fun v8 =>
  some (v8, M1))
  else (some (0, M1))
set_option maxHeartbeats 4000000 in
theorem ok_X11_routeArc_36 {G : GT} {fu : Nat} {out : Int32 × List Ob} {a0 : Nat} {a1 : Int32} {a2 : Int32} {b0 : Nat} {b1 : Int32} {M : List Ob} (h : f_X11_routeArc_36 fu a0 a1 a2 b0 b1 M = some out) : X G t_X11_routeArc [] 36 [some (.ref a0), some (.int a1), some (.int a2)] [.int b1, .ref b0] M 0 0 (oI out) := by
  unfold f_X11_routeArc_36 at h
  obtain ⟨M1, e2, h⟩ := bindE h
  refine X.putf (pc' := 39) dX11_routeArc_36 rfl fq_X11_56 rfl rfl e2 ?_
  refine X.aload_n (x := a0) (pc' := 40) dX11_routeArc_39 rfl rfl rfl ?_
  obtain ⟨v3, e4, h⟩ := bindE h
  refine X.getf (pc' := 43) dX11_routeArc_40 rfl fq_X11_56 (gI_spec e4) ?_
  refine X.if_le (tgt := 50) (pc' := 46) dX11_routeArc_43 (by decide) rfl (fun hc => ?_) (fun hc => ?_)
  · rw [if_pos hc] at h
    refine X.aload_n (x := a0) (pc' := 51) dX11_routeArc_50 rfl rfl rfl ?_
    obtain ⟨r5, e6, h⟩ := bindE h
    refine X.getf (pc' := 54) dX11_routeArc_51 rfl fq_X11_7 (gP_spec e6) ?_
    refine X.bipush (v := 70) (pc' := 56) dX11_routeArc_54 rfl (by decide) ?_
    refine X.bipush (v := 8) (pc' := 58) dX11_routeArc_56 rfl (by decide) ?_
    refine X.iload_n (x := a1) (pc' := 59) dX11_routeArc_58 rfl rfl rfl ?_
    refine X.imul (pc' := 60) dX11_routeArc_59 rfl ?_
    refine X.iadd (pc' := 61) dX11_routeArc_60 rfl ?_
    refine X.iconst (v := 1) (pc' := 62) dX11_routeArc_61 rfl (by decide) ?_
    refine X.iadd (pc' := 63) dX11_routeArc_62 rfl ?_
    refine X.iload_n (x := a2) (pc' := 64) dX11_routeArc_63 rfl rfl rfl ?_
    refine X.iadd (pc' := 65) dX11_routeArc_64 rfl ?_
    obtain ⟨v8, e7, h⟩ := bindE h
    refine X.iald (pc' := 66) dX11_routeArc_65 rfl e7 ?_
    cases h
    exact X.iret (ty := .int) dX11_routeArc_66 rfl rfl (Nat.le_of_ble_eq_true rfl) (Nat.le_of_ble_eq_true rfl) rfl
  · rw [if_neg hc] at h
    refine X.iconst (v := 0) (pc' := 47) dX11_routeArc_46 rfl (by decide) ?_
    refine X.goto (pc' := 66) dX11_routeArc_47 (by decide) ?_
    cases h
    exact X.iret (ty := .int) dX11_routeArc_66 rfl rfl (Nat.le_of_ble_eq_true rfl) (Nat.le_of_ble_eq_true rfl) rfl
def f_X11_routeArc_35 (fu : Nat) (a0 : Nat) (a1 : Int32) (a2 : Int32) (b0 : Nat) (M : List Ob) : Option (Int32 × List Ob) :=
  f_X11_routeArc_36 fu a0 a1 a2 b0 1 M
set_option maxHeartbeats 4000000 in
theorem ok_X11_routeArc_35 {G : GT} {fu : Nat} {out : Int32 × List Ob} {a0 : Nat} {a1 : Int32} {a2 : Int32} {b0 : Nat} {M : List Ob} (h : f_X11_routeArc_35 fu a0 a1 a2 b0 M = some out) : X G t_X11_routeArc [] 35 [some (.ref a0), some (.int a1), some (.int a2)] [.ref b0] M 0 0 (oI out) := by
  unfold f_X11_routeArc_35 at h
  refine X.iconst (v := 1) (pc' := 36) dX11_routeArc_35 rfl (by decide) ?_
  exact ok_X11_routeArc_36 h
def f_X11_routeArc (fu : Nat) (a0 : Nat) (a1 : Int32) (a2 : Int32) (M : List Ob) : Option (Int32 × List Ob) :=
  (hasO M a0 11).bind fun _ =>
  bd2 (f_X11_isTold fu a0 a1 M) fun v1 M2 =>
  if v1 = 0 then (f_X11_routeArc_35 fu a0 a1 a2 a0 M2)
  else ((gP M2 a0 11 0).bind fun r5 =>
  (aI M2 r5 13 (70 + (8 * a1))).bind fun v8 =>
  bd2 (f_X11_isIn fu a2 0 (v8 - 1) M2) fun v9 M10 =>
  if v9 = 0 then (f_X11_routeArc_35 fu a0 a1 a2 a0 M10)
  else (f_X11_routeArc_36 fu a0 a1 a2 a0 0 M10))
set_option maxHeartbeats 4000000 in
theorem ok_X11_routeArc {G : GT} {fu : Nat} {a0 : Nat} {a1 : Int32} {a2 : Int32} {M : List Ob} {out : Int32 × List Ob} (h : f_X11_routeArc fu a0 a1 a2 M = some out) : Sp G t_X11_routeArc [.ref a0, .int a1, .int a2] M (oI out) := by
  refine Sp.of rfl (by decide +kernel) (cat_all rfl) (Nat.le_of_ble_eq_true rfl) ?_
  show X G t_X11_routeArc [] 0 [some (.ref a0), some (.int a1), some (.int a2)] [] M 0 0 (oI out)
  unfold f_X11_routeArc at h
  refine X.aload_n (x := a0) (pc' := 1) dX11_routeArc_0 rfl rfl rfl ?_
  refine X.aload_n (x := a0) (pc' := 2) dX11_routeArc_1 rfl rfl rfl ?_
  refine X.iload_n (x := a1) (pc' := 3) dX11_routeArc_2 rfl rfl rfl ?_
  obtain ⟨⟨⟩, e4, h⟩ := bindE h
  obtain ⟨v1, M2, e3, h⟩ := bd2E h
  refine X.callV (b := a0) (v := some (.int v1)) (As := [.int a1]) (st := [.ref a0]) (M' := M2) (pc' := 6) dX11_routeArc_3 rfl cl_X11_206 mi_X11_isTold me_X11_isTold mr_X11_isTold e4 ⟨⟨Nat.le_of_ble_eq_true rfl, Nat.le_of_ble_eq_true rfl⟩, Nat.le_of_ble_eq_true rfl, Nat.le_of_ble_eq_true rfl⟩ rfl (Nat.le_of_ble_eq_true rfl) (ok_X11_isTold (G := zs G) e3) ?_
  show X G t_X11_routeArc [] 6 [some (.ref a0), some (.int a1), some (.int a2)] [.int v1, .ref a0] M2 0 0 _
  refine X.if_eq (tgt := 35) (pc' := 9) dX11_routeArc_6 (by decide) rfl (fun hc => ?_) (fun hc => ?_)
  · rw [if_pos hc] at h
    exact ok_X11_routeArc_35 h
  · rw [if_neg hc] at h
    refine X.iload_n (x := a2) (pc' := 10) dX11_routeArc_9 rfl rfl rfl ?_
    refine X.iconst (v := 0) (pc' := 11) dX11_routeArc_10 rfl (by decide) ?_
    refine X.aload_n (x := a0) (pc' := 12) dX11_routeArc_11 rfl rfl rfl ?_
    obtain ⟨r5, e6, h⟩ := bindE h
    refine X.getf (pc' := 15) dX11_routeArc_12 rfl fq_X11_7 (gP_spec e6) ?_
    refine X.bipush (v := 70) (pc' := 17) dX11_routeArc_15 rfl (by decide) ?_
    refine X.bipush (v := 8) (pc' := 19) dX11_routeArc_17 rfl (by decide) ?_
    refine X.iload_n (x := a1) (pc' := 20) dX11_routeArc_19 rfl rfl rfl ?_
    refine X.imul (pc' := 21) dX11_routeArc_20 rfl ?_
    refine X.iadd (pc' := 22) dX11_routeArc_21 rfl ?_
    obtain ⟨v8, e7, h⟩ := bindE h
    refine X.iald (pc' := 23) dX11_routeArc_22 rfl e7 ?_
    refine X.iconst (v := 1) (pc' := 24) dX11_routeArc_23 rfl (by decide) ?_
    refine X.isub (pc' := 25) dX11_routeArc_24 rfl ?_
    obtain ⟨v9, M10, e11, h⟩ := bd2E h
    refine X.callS (v := some (.int v9)) (As := [.int a2, .int 0, .int (v8 - 1)]) (st := [.ref a0]) (M' := M10) (pc' := 28) dX11_routeArc_25 rfl cl_X11_72 ms_X11_isIn ⟨⟨Nat.le_of_ble_eq_true rfl, Nat.le_of_ble_eq_true rfl⟩, Nat.le_of_ble_eq_true rfl, Nat.le_of_ble_eq_true rfl⟩ rfl (Nat.le_of_ble_eq_true rfl) (ok_X11_isIn (G := zs G) e11) ?_
    show X G t_X11_routeArc [] 28 [some (.ref a0), some (.int a1), some (.int a2)] [.int v9, .ref a0] M10 0 0 _
    refine X.if_eq (tgt := 35) (pc' := 31) dX11_routeArc_28 (by decide) rfl (fun hc => ?_) (fun hc => ?_)
    · rw [if_pos hc] at h
      exact ok_X11_routeArc_35 h
    · rw [if_neg hc] at h
      refine X.iconst (v := 0) (pc' := 32) dX11_routeArc_31 rfl (by decide) ?_
      refine X.goto (pc' := 36) dX11_routeArc_32 (by decide) ?_
      exact ok_X11_routeArc_36 h
def f_X11_numberOf (fu : Nat) (a0 : Nat) (a1 : Int32) (a2 : Int32) (M : List Ob) : Option (Int32 × List Ob) :=
  if a2 = 0 then (bd2 (f_X11_bits fu a1 M) fun v1 M2 =>
  some (v1, M2))
  else if a2 = 1 then ((hasO M a0 11).bind fun _ =>
  bd2 (f_X11_costOf fu a0 a1 0 M) fun v5 M6 =>
  some (v5, M6))
  else if a2 = 2 then ((hasO M a0 11).bind fun _ =>
  bd2 (f_X11_worstOf fu a0 a1 M) fun v9 M10 =>
  some (v9, M10))
  else if a2 = 3 then ((hasO M a0 11).bind fun _ =>
  bd2 (f_X11_witnessOf fu a0 a1 M) fun v13 M14 =>
  some (v13, M14))
  else if a2 = 4 then ((hasO M a0 11).bind fun _ =>
  bd2 (f_X11_regretOf fu a0 a1 0 M) fun v17 M18 =>
  some (v17, M18))
  else ((hasO M a0 11).bind fun _ =>
  bd2 (f_X11_regretOf fu a0 a1 0 M) fun v21 M22 =>
  if v21 = (-1) then (some ((-1), M22))
  else ((gI M22 a0 11 16).bind fun v25 =>
  some (v25, M22)))
set_option maxHeartbeats 4000000 in
theorem ok_X11_numberOf {G : GT} {fu : Nat} {a0 : Nat} {a1 : Int32} {a2 : Int32} {M : List Ob} {out : Int32 × List Ob} (h : f_X11_numberOf fu a0 a1 a2 M = some out) : Sp G t_X11_numberOf [.ref a0, .int a1, .int a2] M (oI out) := by
  refine Sp.of rfl (by decide +kernel) (cat_all rfl) (Nat.le_of_ble_eq_true rfl) ?_
  show X G t_X11_numberOf [] 0 [some (.ref a0), some (.int a1), some (.int a2)] [] M 0 0 (oI out)
  unfold f_X11_numberOf at h
  refine X.iload_n (x := a2) (pc' := 1) dX11_numberOf_0 rfl rfl rfl ?_
  by_cases hc0 : a2 = 0
  · rw [if_pos hc0] at h
    refine X.tableIn (off := 35) (pc' := 36) dX11_numberOf_1 (by rw [hc0]; decide) (by rw [hc0]; decide) (by rw [hc0]; rfl) (by decide) ?_
    refine X.iload_n (x := a1) (pc' := 37) dX11_numberOf_36 rfl rfl rfl ?_
    obtain ⟨v1, M2, e3, h⟩ := bd2E h
    refine X.callS (v := some (.int v1)) (As := [.int a1]) (st := []) (M' := M2) (pc' := 40) dX11_numberOf_37 rfl cl_X11_222 ms_X11_bits ⟨⟨Nat.le_of_ble_eq_true rfl, Nat.le_of_ble_eq_true rfl⟩, Nat.le_of_ble_eq_true rfl, Nat.le_of_ble_eq_true rfl⟩ rfl (Nat.le_of_ble_eq_true rfl) (ok_X11_bits (G := zs G) e3) ?_
    show X G t_X11_numberOf [] 40 [some (.ref a0), some (.int a1), some (.int a2)] [.int v1] M2 0 0 _
    cases h
    exact X.iret (ty := .int) dX11_numberOf_40 rfl rfl (Nat.le_of_ble_eq_true rfl) (Nat.le_of_ble_eq_true rfl) rfl
  rw [if_neg hc0] at h
  by_cases hc1 : a2 = 1
  · rw [if_pos hc1] at h
    refine X.tableIn (off := 40) (pc' := 41) dX11_numberOf_1 (by rw [hc1]; decide) (by rw [hc1]; decide) (by rw [hc1]; rfl) (by decide) ?_
    refine X.aload_n (x := a0) (pc' := 42) dX11_numberOf_41 rfl rfl rfl ?_
    refine X.iload_n (x := a1) (pc' := 43) dX11_numberOf_42 rfl rfl rfl ?_
    refine X.iconst (v := 0) (pc' := 44) dX11_numberOf_43 rfl (by decide) ?_
    obtain ⟨⟨⟩, e8, h⟩ := bindE h
    obtain ⟨v5, M6, e7, h⟩ := bd2E h
    refine X.callV (b := a0) (v := some (.int v5)) (As := [.int a1, .int 0]) (st := []) (M' := M6) (pc' := 47) dX11_numberOf_44 rfl cl_X11_212 mi_X11_costOf me_X11_costOf mr_X11_costOf e8 ⟨⟨Nat.le_of_ble_eq_true rfl, Nat.le_of_ble_eq_true rfl⟩, Nat.le_of_ble_eq_true rfl, Nat.le_of_ble_eq_true rfl⟩ rfl (Nat.le_of_ble_eq_true rfl) (ok_X11_costOf (G := zs G) e7) ?_
    show X G t_X11_numberOf [] 47 [some (.ref a0), some (.int a1), some (.int a2)] [.int v5] M6 0 0 _
    cases h
    exact X.iret (ty := .int) dX11_numberOf_47 rfl rfl (Nat.le_of_ble_eq_true rfl) (Nat.le_of_ble_eq_true rfl) rfl
  rw [if_neg hc1] at h
  by_cases hc2 : a2 = 2
  · rw [if_pos hc2] at h
    refine X.tableIn (off := 47) (pc' := 48) dX11_numberOf_1 (by rw [hc2]; decide) (by rw [hc2]; decide) (by rw [hc2]; rfl) (by decide) ?_
    refine X.aload_n (x := a0) (pc' := 49) dX11_numberOf_48 rfl rfl rfl ?_
    refine X.iload_n (x := a1) (pc' := 50) dX11_numberOf_49 rfl rfl rfl ?_
    obtain ⟨⟨⟩, e12, h⟩ := bindE h
    obtain ⟨v9, M10, e11, h⟩ := bd2E h
    refine X.callV (b := a0) (v := some (.int v9)) (As := [.int a1]) (st := []) (M' := M10) (pc' := 53) dX11_numberOf_50 rfl cl_X11_231 mi_X11_worstOf me_X11_worstOf mr_X11_worstOf e12 ⟨⟨Nat.le_of_ble_eq_true rfl, Nat.le_of_ble_eq_true rfl⟩, Nat.le_of_ble_eq_true rfl, Nat.le_of_ble_eq_true rfl⟩ rfl (Nat.le_of_ble_eq_true rfl) (ok_X11_worstOf (G := zs G) e11) ?_
    show X G t_X11_numberOf [] 53 [some (.ref a0), some (.int a1), some (.int a2)] [.int v9] M10 0 0 _
    cases h
    exact X.iret (ty := .int) dX11_numberOf_53 rfl rfl (Nat.le_of_ble_eq_true rfl) (Nat.le_of_ble_eq_true rfl) rfl
  rw [if_neg hc2] at h
  by_cases hc3 : a2 = 3
  · rw [if_pos hc3] at h
    refine X.tableIn (off := 53) (pc' := 54) dX11_numberOf_1 (by rw [hc3]; decide) (by rw [hc3]; decide) (by rw [hc3]; rfl) (by decide) ?_
    refine X.aload_n (x := a0) (pc' := 55) dX11_numberOf_54 rfl rfl rfl ?_
    refine X.iload_n (x := a1) (pc' := 56) dX11_numberOf_55 rfl rfl rfl ?_
    obtain ⟨⟨⟩, e16, h⟩ := bindE h
    obtain ⟨v13, M14, e15, h⟩ := bd2E h
    refine X.callV (b := a0) (v := some (.int v13)) (As := [.int a1]) (st := []) (M' := M14) (pc' := 59) dX11_numberOf_56 rfl cl_X11_209 mi_X11_witnessOf me_X11_witnessOf mr_X11_witnessOf e16 ⟨⟨Nat.le_of_ble_eq_true rfl, Nat.le_of_ble_eq_true rfl⟩, Nat.le_of_ble_eq_true rfl, Nat.le_of_ble_eq_true rfl⟩ rfl (Nat.le_of_ble_eq_true rfl) (ok_X11_witnessOf (G := zs G) e15) ?_
    show X G t_X11_numberOf [] 59 [some (.ref a0), some (.int a1), some (.int a2)] [.int v13] M14 0 0 _
    cases h
    exact X.iret (ty := .int) dX11_numberOf_59 rfl rfl (Nat.le_of_ble_eq_true rfl) (Nat.le_of_ble_eq_true rfl) rfl
  rw [if_neg hc3] at h
  by_cases hc4 : a2 = 4
  · rw [if_pos hc4] at h
    refine X.tableIn (off := 59) (pc' := 60) dX11_numberOf_1 (by rw [hc4]; decide) (by rw [hc4]; decide) (by rw [hc4]; rfl) (by decide) ?_
    refine X.aload_n (x := a0) (pc' := 61) dX11_numberOf_60 rfl rfl rfl ?_
    refine X.iload_n (x := a1) (pc' := 62) dX11_numberOf_61 rfl rfl rfl ?_
    refine X.iconst (v := 0) (pc' := 63) dX11_numberOf_62 rfl (by decide) ?_
    obtain ⟨⟨⟩, e20, h⟩ := bindE h
    obtain ⟨v17, M18, e19, h⟩ := bd2E h
    refine X.callV (b := a0) (v := some (.int v17)) (As := [.int a1, .int 0]) (st := []) (M' := M18) (pc' := 66) dX11_numberOf_63 rfl cl_X11_234 mi_X11_regretOf me_X11_regretOf mr_X11_regretOf e20 ⟨⟨Nat.le_of_ble_eq_true rfl, Nat.le_of_ble_eq_true rfl⟩, Nat.le_of_ble_eq_true rfl, Nat.le_of_ble_eq_true rfl⟩ rfl (Nat.le_of_ble_eq_true rfl) (ok_X11_regretOf (G := zs G) e19) ?_
    show X G t_X11_numberOf [] 66 [some (.ref a0), some (.int a1), some (.int a2)] [.int v17] M18 0 0 _
    cases h
    exact X.iret (ty := .int) dX11_numberOf_66 rfl rfl (Nat.le_of_ble_eq_true rfl) (Nat.le_of_ble_eq_true rfl) rfl
  rw [if_neg hc4] at h
  refine X.tableOut (pc' := 67) dX11_numberOf_1 (sw_out (n := 4) (by decide) (fun j hj => match j, hj with | 0, _ => hc0 | 1, _ => hc1 | 2, _ => hc2 | 3, _ => hc3 | 4, _ => hc4 | j + 5, hj => absurd hj (by omega))) (by decide) ?_
  refine X.aload_n (x := a0) (pc' := 68) dX11_numberOf_67 rfl rfl rfl ?_
  refine X.iload_n (x := a1) (pc' := 69) dX11_numberOf_68 rfl rfl rfl ?_
  refine X.iconst (v := 0) (pc' := 70) dX11_numberOf_69 rfl (by decide) ?_
  obtain ⟨⟨⟩, e24, h⟩ := bindE h
  obtain ⟨v21, M22, e23, h⟩ := bd2E h
  refine X.callV (b := a0) (v := some (.int v21)) (As := [.int a1, .int 0]) (st := []) (M' := M22) (pc' := 73) dX11_numberOf_70 rfl cl_X11_234 mi_X11_regretOf me_X11_regretOf mr_X11_regretOf e24 ⟨⟨Nat.le_of_ble_eq_true rfl, Nat.le_of_ble_eq_true rfl⟩, Nat.le_of_ble_eq_true rfl, Nat.le_of_ble_eq_true rfl⟩ rfl (Nat.le_of_ble_eq_true rfl) (ok_X11_regretOf (G := zs G) e23) ?_
  show X G t_X11_numberOf [] 73 [some (.ref a0), some (.int a1), some (.int a2)] [.int v21] M22 0 0 _
  refine X.iconst (v := (-1)) (pc' := 74) dX11_numberOf_73 rfl (by decide) ?_
  refine X.icmp_ne (tgt := 81) (pc' := 77) dX11_numberOf_74 (by decide) rfl (fun hc => ?_) (fun hc => ?_)
  · rw [if_neg hc] at h
    refine X.aload_n (x := a0) (pc' := 82) dX11_numberOf_81 rfl rfl rfl ?_
    obtain ⟨v25, e26, h⟩ := bindE h
    refine X.getf (pc' := 85) dX11_numberOf_82 rfl fq_X11_219 (gI_spec e26) ?_
    cases h
    exact X.iret (ty := .int) dX11_numberOf_85 rfl rfl (Nat.le_of_ble_eq_true rfl) (Nat.le_of_ble_eq_true rfl) rfl
  · rw [if_pos hc] at h
    refine X.iconst (v := (-1)) (pc' := 78) dX11_numberOf_77 rfl (by decide) ?_
    refine X.goto (pc' := 85) dX11_numberOf_78 (by decide) ?_
    cases h
    exact X.iret (ty := .int) dX11_numberOf_85 rfl rfl (Nat.le_of_ble_eq_true rfl) (Nat.le_of_ble_eq_true rfl) rfl
def f_X11_isBeaten (fu : Nat) (a0 : Nat) (a1 : Int32) (a2 : Int32) (M : List Ob) : Option (Int32 × List Ob) :=
  (hasO M a0 11).bind fun _ =>
  bd2 (f_X11_toldArcs fu a0 a1 M) fun v1 M2 =>
  if a1 = a2 then (some (0, M2))
  else ((hasO M2 a0 11).bind fun _ =>
  bd2 (f_X11_toldArcs fu a0 a2 M2) fun v5 M6 =>
  (hasO M6 a0 11).bind fun _ =>
  bd2 (f_X11_witnessOf fu a0 v1 M6) fun v9 M10 =>
  (hasO M10 a0 11).bind fun _ =>
  bd2 (f_X11_costOf fu a0 v5 v9 M10) fun v13 M14 =>
  (hasO M14 a0 11).bind fun _ =>
  bd2 (f_X11_worstOf fu a0 v1 M14) fun v17 M18 =>
  if v17 ≤ v13 then (some (0, M18))
  else (some (1, M18)))
set_option maxHeartbeats 4000000 in
theorem ok_X11_isBeaten {G : GT} {fu : Nat} {a0 : Nat} {a1 : Int32} {a2 : Int32} {M : List Ob} {out : Int32 × List Ob} (h : f_X11_isBeaten fu a0 a1 a2 M = some out) : Sp G t_X11_isBeaten [.ref a0, .int a1, .int a2] M (oI out) := by
  refine Sp.of rfl (by decide +kernel) (cat_all rfl) (Nat.le_of_ble_eq_true rfl) ?_
  show X G t_X11_isBeaten [] 0 [some (.ref a0), some (.int a1), some (.int a2), none] [] M 0 0 (oI out)
  unfold f_X11_isBeaten at h
  refine X.aload_n (x := a0) (pc' := 1) dX11_isBeaten_0 rfl rfl rfl ?_
  refine X.iload_n (x := a1) (pc' := 2) dX11_isBeaten_1 rfl rfl rfl ?_
  obtain ⟨⟨⟩, e4, h⟩ := bindE h
  obtain ⟨v1, M2, e3, h⟩ := bd2E h
  refine X.callV (b := a0) (v := some (.int v1)) (As := [.int a1]) (st := []) (M' := M2) (pc' := 5) dX11_isBeaten_2 rfl cl_X11_216 mi_X11_toldArcs me_X11_toldArcs mr_X11_toldArcs e4 ⟨⟨Nat.le_of_ble_eq_true rfl, Nat.le_of_ble_eq_true rfl⟩, Nat.le_of_ble_eq_true rfl, Nat.le_of_ble_eq_true rfl⟩ rfl (Nat.le_of_ble_eq_true rfl) (ok_X11_toldArcs (G := zs G) e3) ?_
  show X G t_X11_isBeaten [] 5 [some (.ref a0), some (.int a1), some (.int a2), none] [.int v1] M2 0 0 _
  refine X.istore_n (L' := [some (.ref a0), some (.int a1), some (.int a2), some (.int v1)]) (pc' := 6) dX11_isBeaten_5 rfl rfl (Nat.le_of_ble_eq_true rfl) rfl ?_
  refine X.iload_n (x := a1) (pc' := 7) dX11_isBeaten_6 rfl rfl rfl ?_
  refine X.iload_n (x := a2) (pc' := 8) dX11_isBeaten_7 rfl rfl rfl ?_
  refine X.icmp_eq (tgt := 37) (pc' := 11) dX11_isBeaten_8 (by decide) rfl (fun hc => ?_) (fun hc => ?_)
  · rw [if_pos hc] at h
    refine X.iconst (v := 0) (pc' := 38) dX11_isBeaten_37 rfl (by decide) ?_
    cases h
    exact X.iret (ty := .boolean) dX11_isBeaten_38 rfl rfl (Nat.le_of_ble_eq_true rfl) (Nat.le_of_ble_eq_true rfl) rfl
  · rw [if_neg hc] at h
    refine X.aload_n (x := a0) (pc' := 12) dX11_isBeaten_11 rfl rfl rfl ?_
    refine X.aload_n (x := a0) (pc' := 13) dX11_isBeaten_12 rfl rfl rfl ?_
    refine X.iload_n (x := a2) (pc' := 14) dX11_isBeaten_13 rfl rfl rfl ?_
    obtain ⟨⟨⟩, e8, h⟩ := bindE h
    obtain ⟨v5, M6, e7, h⟩ := bd2E h
    refine X.callV (b := a0) (v := some (.int v5)) (As := [.int a2]) (st := [.ref a0]) (M' := M6) (pc' := 17) dX11_isBeaten_14 rfl cl_X11_216 mi_X11_toldArcs me_X11_toldArcs mr_X11_toldArcs e8 ⟨⟨Nat.le_of_ble_eq_true rfl, Nat.le_of_ble_eq_true rfl⟩, Nat.le_of_ble_eq_true rfl, Nat.le_of_ble_eq_true rfl⟩ rfl (Nat.le_of_ble_eq_true rfl) (ok_X11_toldArcs (G := zs G) e7) ?_
    show X G t_X11_isBeaten [] 17 [some (.ref a0), some (.int a1), some (.int a2), some (.int v1)] [.int v5, .ref a0] M6 0 0 _
    refine X.aload_n (x := a0) (pc' := 18) dX11_isBeaten_17 rfl rfl rfl ?_
    refine X.iload_n (x := v1) (pc' := 19) dX11_isBeaten_18 rfl rfl rfl ?_
    obtain ⟨⟨⟩, e12, h⟩ := bindE h
    obtain ⟨v9, M10, e11, h⟩ := bd2E h
    refine X.callV (b := a0) (v := some (.int v9)) (As := [.int v1]) (st := [.int v5, .ref a0]) (M' := M10) (pc' := 22) dX11_isBeaten_19 rfl cl_X11_209 mi_X11_witnessOf me_X11_witnessOf mr_X11_witnessOf e12 ⟨⟨Nat.le_of_ble_eq_true rfl, Nat.le_of_ble_eq_true rfl⟩, Nat.le_of_ble_eq_true rfl, Nat.le_of_ble_eq_true rfl⟩ rfl (Nat.le_of_ble_eq_true rfl) (ok_X11_witnessOf (G := zs G) e11) ?_
    show X G t_X11_isBeaten [] 22 [some (.ref a0), some (.int a1), some (.int a2), some (.int v1)] [.int v9, .int v5, .ref a0] M10 0 0 _
    obtain ⟨⟨⟩, e16, h⟩ := bindE h
    obtain ⟨v13, M14, e15, h⟩ := bd2E h
    refine X.callV (b := a0) (v := some (.int v13)) (As := [.int v5, .int v9]) (st := []) (M' := M14) (pc' := 25) dX11_isBeaten_22 rfl cl_X11_212 mi_X11_costOf me_X11_costOf mr_X11_costOf e16 ⟨⟨Nat.le_of_ble_eq_true rfl, Nat.le_of_ble_eq_true rfl⟩, Nat.le_of_ble_eq_true rfl, Nat.le_of_ble_eq_true rfl⟩ rfl (Nat.le_of_ble_eq_true rfl) (ok_X11_costOf (G := zs G) e15) ?_
    show X G t_X11_isBeaten [] 25 [some (.ref a0), some (.int a1), some (.int a2), some (.int v1)] [.int v13] M14 0 0 _
    refine X.aload_n (x := a0) (pc' := 26) dX11_isBeaten_25 rfl rfl rfl ?_
    refine X.iload_n (x := v1) (pc' := 27) dX11_isBeaten_26 rfl rfl rfl ?_
    obtain ⟨⟨⟩, e20, h⟩ := bindE h
    obtain ⟨v17, M18, e19, h⟩ := bd2E h
    refine X.callV (b := a0) (v := some (.int v17)) (As := [.int v1]) (st := [.int v13]) (M' := M18) (pc' := 30) dX11_isBeaten_27 rfl cl_X11_231 mi_X11_worstOf me_X11_worstOf mr_X11_worstOf e20 ⟨⟨Nat.le_of_ble_eq_true rfl, Nat.le_of_ble_eq_true rfl⟩, Nat.le_of_ble_eq_true rfl, Nat.le_of_ble_eq_true rfl⟩ rfl (Nat.le_of_ble_eq_true rfl) (ok_X11_worstOf (G := zs G) e19) ?_
    show X G t_X11_isBeaten [] 30 [some (.ref a0), some (.int a1), some (.int a2), some (.int v1)] [.int v17, .int v13] M18 0 0 _
    refine X.icmp_ge (tgt := 37) (pc' := 33) dX11_isBeaten_30 (by decide) rfl (fun hc => ?_) (fun hc => ?_)
    · rw [if_pos hc] at h
      refine X.iconst (v := 0) (pc' := 38) dX11_isBeaten_37 rfl (by decide) ?_
      cases h
      exact X.iret (ty := .boolean) dX11_isBeaten_38 rfl rfl (Nat.le_of_ble_eq_true rfl) (Nat.le_of_ble_eq_true rfl) rfl
    · rw [if_neg hc] at h
      refine X.iconst (v := 1) (pc' := 34) dX11_isBeaten_33 rfl (by decide) ?_
      refine X.goto (pc' := 38) dX11_isBeaten_34 (by decide) ?_
      cases h
      exact X.iret (ty := .boolean) dX11_isBeaten_38 rfl rfl (Nat.le_of_ble_eq_true rfl) (Nat.le_of_ble_eq_true rfl) rfl
def f_X11_beatenBy_30 (fu : Nat) (a0 : Nat) (a1 : Int32) (a3 : Int32) (b0 : Int32) (b1 : Int32) (M : List Ob) (k4 : Nat → Int32 → Int32 → Int32 → List Ob → Option (Int32 × List Ob)) : Option (Int32 × List Ob) :=
  k4 a0 a1 (b0 + b1) (a3 + 1) M
set_option maxHeartbeats 4000000 in
theorem ok_X11_beatenBy_30 {G : GT} {fu : Nat} {out : Int32 × List Ob} {a0 : Nat} {a1 : Int32} {a3 : Int32} {b0 : Int32} {b1 : Int32} {M : List Ob} {k4 : Nat → Int32 → Int32 → Int32 → List Ob → Option (Int32 × List Ob)} (hk4 : ∀ (a0 : Nat) (a1 : Int32) (a2 : Int32) (a3 : Int32) (M : List Ob), k4 a0 a1 a2 a3 M = some out → X G t_X11_beatenBy [] 4 [some (.ref a0), some (.int a1), some (.int a2), some (.int a3)] [] M 0 0 (oI out)) (h : f_X11_beatenBy_30 fu a0 a1 a3 b0 b1 M k4 = some out) : X G t_X11_beatenBy [] 30 [some (.ref a0), some (.int a1), none, some (.int a3)] [.int b1, .int b0] M 0 0 (oI out) := by
  unfold f_X11_beatenBy_30 at h
  refine X.iadd (pc' := 31) dX11_beatenBy_30 rfl ?_
  refine X.istore_n (L' := [some (.ref a0), some (.int a1), some (.int (b0 + b1)), some (.int a3)]) (pc' := 32) dX11_beatenBy_31 rfl rfl (Nat.le_of_ble_eq_true rfl) rfl ?_
  refine X.iinc (v := (a3 + 1)) (L' := [some (.ref a0), some (.int a1), some (.int (b0 + b1)), some (.int (a3 + 1))]) (pc' := 35) dX11_beatenBy_32 rfl rfl (congrArg (fun y => a3 + y) (show Int32.ofInt 1 = 1 by decide)) (Nat.le_of_ble_eq_true rfl) rfl ?_
  refine X.goto (pc' := 4) dX11_beatenBy_35 (by decide) ?_
  exact hk4 _ _ _ _ _ h
def f_X11_beatenBy_4b (fu : Nat) (a0 : Nat) (a1 : Int32) (a2 : Int32) (a3 : Int32) (M : List Ob) (k4 : Nat → Int32 → Int32 → Int32 → List Ob → Option (Int32 × List Ob)) : Option (Int32 × List Ob) :=
  (gP M a0 11 0).bind fun r1 =>
  (aI M r1 13 69).bind fun v4 =>
  if v4 ≤ a3 then (some (a2, M))
  else ((hasO M a0 11).bind fun _ =>
  bd2 (f_X11_isBeaten fu a0 a1 a3 M) fun v5 M6 =>
  if v5 = 0 then (f_X11_beatenBy_30 fu a0 a1 a3 a2 0 M6 k4)
  else (f_X11_beatenBy_30 fu a0 a1 a3 a2 1 M6 k4))
set_option maxHeartbeats 4000000 in
theorem ok_X11_beatenBy_4b {G : GT} {fu : Nat} {out : Int32 × List Ob} {a0 : Nat} {a1 : Int32} {a2 : Int32} {a3 : Int32} {M : List Ob} {k4 : Nat → Int32 → Int32 → Int32 → List Ob → Option (Int32 × List Ob)} (hk4 : ∀ (a0 : Nat) (a1 : Int32) (a2 : Int32) (a3 : Int32) (M : List Ob), k4 a0 a1 a2 a3 M = some out → X G t_X11_beatenBy [] 4 [some (.ref a0), some (.int a1), some (.int a2), some (.int a3)] [] M 0 0 (oI out)) (h : f_X11_beatenBy_4b fu a0 a1 a2 a3 M k4 = some out) : X G t_X11_beatenBy [] 4 [some (.ref a0), some (.int a1), some (.int a2), some (.int a3)] [] M 0 0 (oI out) := by
  unfold f_X11_beatenBy_4b at h
  refine X.iload_n (x := a3) (pc' := 5) dX11_beatenBy_4 rfl rfl rfl ?_
  refine X.aload_n (x := a0) (pc' := 6) dX11_beatenBy_5 rfl rfl rfl ?_
  obtain ⟨r1, e2, h⟩ := bindE h
  refine X.getf (pc' := 9) dX11_beatenBy_6 rfl fq_X11_7 (gP_spec e2) ?_
  refine X.bipush (v := 69) (pc' := 11) dX11_beatenBy_9 rfl (by decide) ?_
  obtain ⟨v4, e3, h⟩ := bindE h
  refine X.iald (pc' := 12) dX11_beatenBy_11 rfl e3 ?_
  refine X.icmp_ge (tgt := 38) (pc' := 15) dX11_beatenBy_12 (by decide) rfl (fun hc => ?_) (fun hc => ?_)
  · rw [if_pos hc] at h
    refine X.iload_n (x := a2) (pc' := 39) dX11_beatenBy_38 rfl rfl rfl ?_
    cases h
    exact X.iret (ty := .int) dX11_beatenBy_39 rfl rfl (Nat.le_of_ble_eq_true rfl) (Nat.le_of_ble_eq_true rfl) rfl
  · rw [if_neg hc] at h
    refine X.iload_n (x := a2) (pc' := 16) dX11_beatenBy_15 rfl rfl rfl ?_
    refine X.aload_n (x := a0) (pc' := 17) dX11_beatenBy_16 rfl rfl rfl ?_
    refine X.iload_n (x := a1) (pc' := 18) dX11_beatenBy_17 rfl rfl rfl ?_
    refine X.iload_n (x := a3) (pc' := 19) dX11_beatenBy_18 rfl rfl rfl ?_
    obtain ⟨⟨⟩, e8, h⟩ := bindE h
    obtain ⟨v5, M6, e7, h⟩ := bd2E h
    refine X.callV (b := a0) (v := some (.int v5)) (As := [.int a1, .int a3]) (st := [.int a2]) (M' := M6) (pc' := 22) dX11_beatenBy_19 rfl cl_X11_238 mi_X11_isBeaten me_X11_isBeaten mr_X11_isBeaten e8 ⟨⟨Nat.le_of_ble_eq_true rfl, Nat.le_of_ble_eq_true rfl⟩, Nat.le_of_ble_eq_true rfl, Nat.le_of_ble_eq_true rfl⟩ rfl (Nat.le_of_ble_eq_true rfl) (ok_X11_isBeaten (G := zs G) e7) ?_
    show X G t_X11_beatenBy [] 22 [some (.ref a0), some (.int a1), some (.int a2), some (.int a3)] [.int v5, .int a2] M6 0 0 _
    refine X.if_eq (tgt := 29) (pc' := 25) dX11_beatenBy_22 (by decide) rfl (fun hc => ?_) (fun hc => ?_)
    · rw [if_pos hc] at h
      refine X.iconst (v := 0) (pc' := 30) dX11_beatenBy_29 rfl (by decide) ?_
      refine X.sub (L := [some (.ref a0), some (.int a1), none, some (.int a3)]) ?_ (⟨rfl, ⟨rfl, ⟨rfl, trivial⟩⟩⟩)
      exact ok_X11_beatenBy_30 hk4 h
    · rw [if_neg hc] at h
      refine X.iconst (v := 1) (pc' := 26) dX11_beatenBy_25 rfl (by decide) ?_
      refine X.goto (pc' := 30) dX11_beatenBy_26 (by decide) ?_
      refine X.sub (L := [some (.ref a0), some (.int a1), none, some (.int a3)]) ?_ (⟨rfl, ⟨rfl, ⟨rfl, trivial⟩⟩⟩)
      exact ok_X11_beatenBy_30 hk4 h
def f_X11_beatenBy_4 (fu : Nat) : Nat → Nat → Int32 → Int32 → Int32 → List Ob → Option (Int32 × List Ob)
  | 0, _, _, _, _, _ => none
  | n + 1, a0, a1, a2, a3, M => f_X11_beatenBy_4b fu a0 a1 a2 a3 M (fun a0 a1 a2 a3 M => f_X11_beatenBy_4 fu n a0 a1 a2 a3 M)
theorem ok_X11_beatenBy_4 {G : GT} {fu : Nat} {out : Int32 × List Ob} : ∀ (n : Nat) (a0 : Nat) (a1 : Int32) (a2 : Int32) (a3 : Int32) (M : List Ob), f_X11_beatenBy_4 fu n a0 a1 a2 a3 M = some out → X G t_X11_beatenBy [] 4 [some (.ref a0), some (.int a1), some (.int a2), some (.int a3)] [] M 0 0 (oI out) := by
  intro n
  induction n with
  | zero =>
    intro a0 a1 a2 a3 M h
    unfold f_X11_beatenBy_4 at h
    cases h
  | succ n ih =>
    intro a0 a1 a2 a3 M h
    unfold f_X11_beatenBy_4 at h
    exact ok_X11_beatenBy_4b ih h
def f_X11_beatenBy (fu : Nat) (a0 : Nat) (a1 : Int32) (M : List Ob) : Option (Int32 × List Ob) :=
  f_X11_beatenBy_4 fu  fu a0 a1 0 0 M
set_option maxHeartbeats 4000000 in
theorem ok_X11_beatenBy {G : GT} {fu : Nat} {a0 : Nat} {a1 : Int32} {M : List Ob} {out : Int32 × List Ob} (h : f_X11_beatenBy fu a0 a1 M = some out) : Sp G t_X11_beatenBy [.ref a0, .int a1] M (oI out) := by
  refine Sp.of rfl (by decide +kernel) (cat_all rfl) (Nat.le_of_ble_eq_true rfl) ?_
  show X G t_X11_beatenBy [] 0 [some (.ref a0), some (.int a1), none, none] [] M 0 0 (oI out)
  unfold f_X11_beatenBy at h
  refine X.iconst (v := 0) (pc' := 1) dX11_beatenBy_0 rfl (by decide) ?_
  refine X.istore_n (L' := [some (.ref a0), some (.int a1), some (.int 0), none]) (pc' := 2) dX11_beatenBy_1 rfl rfl (Nat.le_of_ble_eq_true rfl) rfl ?_
  refine X.iconst (v := 0) (pc' := 3) dX11_beatenBy_2 rfl (by decide) ?_
  refine X.istore_n (L' := [some (.ref a0), some (.int a1), some (.int 0), some (.int 0)]) (pc' := 4) dX11_beatenBy_3 rfl rfl (Nat.le_of_ble_eq_true rfl) rfl ?_
  refine ok_X11_beatenBy_4  fu _ _ _ _ _ h
def f_X11_route_28 (fu : Nat) (a0 : Nat) (a1 : Int32) (a2 : Int32) (b0 : Nat) (b1 : Int32) (M : List Ob) : Option (Int32 × List Ob) :=
  (pF M b0 11 4 (.int b1)).bind fun M1 =>
  (gI M1 a0 11 4).bind fun v3 =>
  if v3 ≤ 0 then (if a2 = 6 then ((hasO M1 a0 11).bind fun _ =>
  bd2 (f_X11_toldArcs fu a0 a1 M1) fun v17 M18 =>
  (hasO M18 a0 11).bind fun _ =>
  bd2 (f_X11_regretOf fu a0 v17 1 M18) fun v21 M22 =>
  some (v21, M22))
  else (if a2 = 7 then ((hasO M1 a0 11).bind fun _ =>
  bd2 (f_X11_beatenBy fu a0 a1 M1) fun v13 M14 =>
  some (v13, M14))
  else ((hasO M1 a0 11).bind fun _ =>
  bd2 (f_X11_toldArcs fu a0 a1 M1) fun v5 M6 =>
  (hasO M6 a0 11).bind fun _ =>
  bd2 (f_X11_numberOf fu a0 v5 a2 M6) fun v9 M10 =>
  some (v9, M10))))
  else (some (0, M1))
set_option maxHeartbeats 4000000 in
theorem ok_X11_route_28 {G : GT} {fu : Nat} {out : Int32 × List Ob} {a0 : Nat} {a1 : Int32} {a2 : Int32} {b0 : Nat} {b1 : Int32} {M : List Ob} (h : f_X11_route_28 fu a0 a1 a2 b0 b1 M = some out) : X G t_X11_route [] 28 [some (.ref a0), some (.int a1), some (.int a2)] [.int b1, .ref b0] M 0 0 (oI out) := by
  unfold f_X11_route_28 at h
  obtain ⟨M1, e2, h⟩ := bindE h
  refine X.putf (pc' := 31) dX11_route_28 rfl fq_X11_56 rfl rfl e2 ?_
  refine X.aload_n (x := a0) (pc' := 32) dX11_route_31 rfl rfl rfl ?_
  obtain ⟨v3, e4, h⟩ := bindE h
  refine X.getf (pc' := 35) dX11_route_32 rfl fq_X11_56 (gI_spec e4) ?_
  refine X.if_le (tgt := 40) (pc' := 38) dX11_route_35 (by decide) rfl (fun hc => ?_) (fun hc => ?_)
  · rw [if_pos hc] at h
    refine X.iload_n (x := a2) (pc' := 41) dX11_route_40 rfl rfl rfl ?_
    refine X.bipush (v := 6) (pc' := 43) dX11_route_41 rfl (by decide) ?_
    refine X.icmp_ne (tgt := 59) (pc' := 46) dX11_route_43 (by decide) rfl (fun hc => ?_) (fun hc => ?_)
    · rw [if_neg hc] at h
      refine X.iload_n (x := a2) (pc' := 60) dX11_route_59 rfl rfl rfl ?_
      refine X.bipush (v := 7) (pc' := 62) dX11_route_60 rfl (by decide) ?_
      refine X.icmp_ne (tgt := 73) (pc' := 65) dX11_route_62 (by decide) rfl (fun hc => ?_) (fun hc => ?_)
      · rw [if_neg hc] at h
        refine X.aload_n (x := a0) (pc' := 74) dX11_route_73 rfl rfl rfl ?_
        refine X.aload_n (x := a0) (pc' := 75) dX11_route_74 rfl rfl rfl ?_
        refine X.iload_n (x := a1) (pc' := 76) dX11_route_75 rfl rfl rfl ?_
        obtain ⟨⟨⟩, e8, h⟩ := bindE h
        obtain ⟨v5, M6, e7, h⟩ := bd2E h
        refine X.callV (b := a0) (v := some (.int v5)) (As := [.int a1]) (st := [.ref a0]) (M' := M6) (pc' := 79) dX11_route_76 rfl cl_X11_216 mi_X11_toldArcs me_X11_toldArcs mr_X11_toldArcs e8 ⟨⟨Nat.le_of_ble_eq_true rfl, Nat.le_of_ble_eq_true rfl⟩, Nat.le_of_ble_eq_true rfl, Nat.le_of_ble_eq_true rfl⟩ rfl (Nat.le_of_ble_eq_true rfl) (ok_X11_toldArcs (G := zs G) e7) ?_
        show X G t_X11_route [] 79 [some (.ref a0), some (.int a1), some (.int a2)] [.int v5, .ref a0] M6 0 0 _
        refine X.iload_n (x := a2) (pc' := 80) dX11_route_79 rfl rfl rfl ?_
        obtain ⟨⟨⟩, e12, h⟩ := bindE h
        obtain ⟨v9, M10, e11, h⟩ := bd2E h
        refine X.callV (b := a0) (v := some (.int v9)) (As := [.int v5, .int a2]) (st := []) (M' := M10) (pc' := 83) dX11_route_80 rfl cl_X11_244 mi_X11_numberOf me_X11_numberOf mr_X11_numberOf e12 ⟨⟨Nat.le_of_ble_eq_true rfl, Nat.le_of_ble_eq_true rfl⟩, Nat.le_of_ble_eq_true rfl, Nat.le_of_ble_eq_true rfl⟩ rfl (Nat.le_of_ble_eq_true rfl) (ok_X11_numberOf (G := zs G) e11) ?_
        show X G t_X11_route [] 83 [some (.ref a0), some (.int a1), some (.int a2)] [.int v9] M10 0 0 _
        cases h
        exact X.iret (ty := .int) dX11_route_83 rfl rfl (Nat.le_of_ble_eq_true rfl) (Nat.le_of_ble_eq_true rfl) rfl
      · rw [if_pos hc] at h
        refine X.aload_n (x := a0) (pc' := 66) dX11_route_65 rfl rfl rfl ?_
        refine X.iload_n (x := a1) (pc' := 67) dX11_route_66 rfl rfl rfl ?_
        obtain ⟨⟨⟩, e16, h⟩ := bindE h
        obtain ⟨v13, M14, e15, h⟩ := bd2E h
        refine X.callV (b := a0) (v := some (.int v13)) (As := [.int a1]) (st := []) (M' := M14) (pc' := 70) dX11_route_67 rfl cl_X11_241 mi_X11_beatenBy me_X11_beatenBy mr_X11_beatenBy e16 ⟨⟨Nat.le_of_ble_eq_true rfl, Nat.le_of_ble_eq_true rfl⟩, Nat.le_of_ble_eq_true rfl, Nat.le_of_ble_eq_true rfl⟩ rfl (Nat.le_of_ble_eq_true rfl) (ok_X11_beatenBy (G := zs G) e15) ?_
        show X G t_X11_route [] 70 [some (.ref a0), some (.int a1), some (.int a2)] [.int v13] M14 0 0 _
        refine X.goto (pc' := 83) dX11_route_70 (by decide) ?_
        cases h
        exact X.iret (ty := .int) dX11_route_83 rfl rfl (Nat.le_of_ble_eq_true rfl) (Nat.le_of_ble_eq_true rfl) rfl
    · rw [if_pos hc] at h
      refine X.aload_n (x := a0) (pc' := 47) dX11_route_46 rfl rfl rfl ?_
      refine X.aload_n (x := a0) (pc' := 48) dX11_route_47 rfl rfl rfl ?_
      refine X.iload_n (x := a1) (pc' := 49) dX11_route_48 rfl rfl rfl ?_
      obtain ⟨⟨⟩, e20, h⟩ := bindE h
      obtain ⟨v17, M18, e19, h⟩ := bd2E h
      refine X.callV (b := a0) (v := some (.int v17)) (As := [.int a1]) (st := [.ref a0]) (M' := M18) (pc' := 52) dX11_route_49 rfl cl_X11_216 mi_X11_toldArcs me_X11_toldArcs mr_X11_toldArcs e20 ⟨⟨Nat.le_of_ble_eq_true rfl, Nat.le_of_ble_eq_true rfl⟩, Nat.le_of_ble_eq_true rfl, Nat.le_of_ble_eq_true rfl⟩ rfl (Nat.le_of_ble_eq_true rfl) (ok_X11_toldArcs (G := zs G) e19) ?_
      show X G t_X11_route [] 52 [some (.ref a0), some (.int a1), some (.int a2)] [.int v17, .ref a0] M18 0 0 _
      refine X.iconst (v := 1) (pc' := 53) dX11_route_52 rfl (by decide) ?_
      obtain ⟨⟨⟩, e24, h⟩ := bindE h
      obtain ⟨v21, M22, e23, h⟩ := bd2E h
      refine X.callV (b := a0) (v := some (.int v21)) (As := [.int v17, .int 1]) (st := []) (M' := M22) (pc' := 56) dX11_route_53 rfl cl_X11_234 mi_X11_regretOf me_X11_regretOf mr_X11_regretOf e24 ⟨⟨Nat.le_of_ble_eq_true rfl, Nat.le_of_ble_eq_true rfl⟩, Nat.le_of_ble_eq_true rfl, Nat.le_of_ble_eq_true rfl⟩ rfl (Nat.le_of_ble_eq_true rfl) (ok_X11_regretOf (G := zs G) e23) ?_
      show X G t_X11_route [] 56 [some (.ref a0), some (.int a1), some (.int a2)] [.int v21] M22 0 0 _
      refine X.goto (pc' := 83) dX11_route_56 (by decide) ?_
      cases h
      exact X.iret (ty := .int) dX11_route_83 rfl rfl (Nat.le_of_ble_eq_true rfl) (Nat.le_of_ble_eq_true rfl) rfl
  · rw [if_neg hc] at h
    refine X.iconst (v := 0) (pc' := 39) dX11_route_38 rfl (by decide) ?_
    cases h
    exact X.iret (ty := .int) dX11_route_39 rfl rfl (Nat.le_of_ble_eq_true rfl) (Nat.le_of_ble_eq_true rfl) rfl
def f_X11_route (fu : Nat) (a0 : Nat) (a1 : Int32) (a2 : Int32) (M : List Ob) : Option (Int32 × List Ob) :=
  (hasO M a0 11).bind fun _ =>
  bd2 (f_X11_isTold fu a0 a1 M) fun v1 M2 =>
  if v1 = 0 then (f_X11_route_28 fu a0 a1 a2 a0 1 M2)
  else (bd2 (f_X11_isIn fu a2 0 7 M2) fun v5 M6 =>
  if v5 = 0 then (f_X11_route_28 fu a0 a1 a2 a0 2 M6)
  else (f_X11_route_28 fu a0 a1 a2 a0 0 M6))
set_option maxHeartbeats 4000000 in
theorem ok_X11_route {G : GT} {fu : Nat} {a0 : Nat} {a1 : Int32} {a2 : Int32} {M : List Ob} {out : Int32 × List Ob} (h : f_X11_route fu a0 a1 a2 M = some out) : Sp G t_X11_route [.ref a0, .int a1, .int a2] M (oI out) := by
  refine Sp.of rfl (by decide +kernel) (cat_all rfl) (Nat.le_of_ble_eq_true rfl) ?_
  show X G t_X11_route [] 0 [some (.ref a0), some (.int a1), some (.int a2)] [] M 0 0 (oI out)
  unfold f_X11_route at h
  refine X.aload_n (x := a0) (pc' := 1) dX11_route_0 rfl rfl rfl ?_
  refine X.aload_n (x := a0) (pc' := 2) dX11_route_1 rfl rfl rfl ?_
  refine X.iload_n (x := a1) (pc' := 3) dX11_route_2 rfl rfl rfl ?_
  obtain ⟨⟨⟩, e4, h⟩ := bindE h
  obtain ⟨v1, M2, e3, h⟩ := bd2E h
  refine X.callV (b := a0) (v := some (.int v1)) (As := [.int a1]) (st := [.ref a0]) (M' := M2) (pc' := 6) dX11_route_3 rfl cl_X11_206 mi_X11_isTold me_X11_isTold mr_X11_isTold e4 ⟨⟨Nat.le_of_ble_eq_true rfl, Nat.le_of_ble_eq_true rfl⟩, Nat.le_of_ble_eq_true rfl, Nat.le_of_ble_eq_true rfl⟩ rfl (Nat.le_of_ble_eq_true rfl) (ok_X11_isTold (G := zs G) e3) ?_
  show X G t_X11_route [] 6 [some (.ref a0), some (.int a1), some (.int a2)] [.int v1, .ref a0] M2 0 0 _
  refine X.if_ne (tgt := 13) (pc' := 9) dX11_route_6 (by decide) rfl (fun hc => ?_) (fun hc => ?_)
  · rw [if_neg hc] at h
    refine X.iload_n (x := a2) (pc' := 14) dX11_route_13 rfl rfl rfl ?_
    refine X.iconst (v := 0) (pc' := 15) dX11_route_14 rfl (by decide) ?_
    refine X.bipush (v := 7) (pc' := 17) dX11_route_15 rfl (by decide) ?_
    obtain ⟨v5, M6, e7, h⟩ := bd2E h
    refine X.callS (v := some (.int v5)) (As := [.int a2, .int 0, .int 7]) (st := [.ref a0]) (M' := M6) (pc' := 20) dX11_route_17 rfl cl_X11_72 ms_X11_isIn ⟨⟨Nat.le_of_ble_eq_true rfl, Nat.le_of_ble_eq_true rfl⟩, Nat.le_of_ble_eq_true rfl, Nat.le_of_ble_eq_true rfl⟩ rfl (Nat.le_of_ble_eq_true rfl) (ok_X11_isIn (G := zs G) e7) ?_
    show X G t_X11_route [] 20 [some (.ref a0), some (.int a1), some (.int a2)] [.int v5, .ref a0] M6 0 0 _
    refine X.if_eq (tgt := 27) (pc' := 23) dX11_route_20 (by decide) rfl (fun hc => ?_) (fun hc => ?_)
    · rw [if_pos hc] at h
      refine X.iconst (v := 2) (pc' := 28) dX11_route_27 rfl (by decide) ?_
      exact ok_X11_route_28 h
    · rw [if_neg hc] at h
      refine X.iconst (v := 0) (pc' := 24) dX11_route_23 rfl (by decide) ?_
      refine X.goto (pc' := 28) dX11_route_24 (by decide) ?_
      exact ok_X11_route_28 h
  · rw [if_pos hc] at h
    refine X.iconst (v := 1) (pc' := 10) dX11_route_9 rfl (by decide) ?_
    refine X.goto (pc' := 28) dX11_route_10 (by decide) ?_
    exact ok_X11_route_28 h
def f_X11_cost_14 (fu : Nat) (a0 : Nat) (a1 : Int32) (a2 : Int32) (b0 : Nat) (b1 : Int32) (M : List Ob) : Option (Int32 × List Ob) :=
  (pF M b0 11 4 (.int b1)).bind fun M1 =>
  (gI M1 a0 11 4).bind fun v3 =>
  if v3 ≤ 0 then ((hasO M1 a0 11).bind fun _ =>
  bd2 (f_X11_toldArcs fu a0 a1 M1) fun v5 M6 =>
  (hasO M6 a0 11).bind fun _ =>
  bd2 (f_X11_costOf fu a0 v5 a2 M6) fun v9 M10 =>
  some (v9, M10))
  else (some (0, M1))
set_option maxHeartbeats 4000000 in
theorem ok_X11_cost_14 {G : GT} {fu : Nat} {out : Int32 × List Ob} {a0 : Nat} {a1 : Int32} {a2 : Int32} {b0 : Nat} {b1 : Int32} {M : List Ob} (h : f_X11_cost_14 fu a0 a1 a2 b0 b1 M = some out) : X G t_X11_cost [] 14 [some (.ref a0), some (.int a1), some (.int a2)] [.int b1, .ref b0] M 0 0 (oI out) := by
  unfold f_X11_cost_14 at h
  obtain ⟨M1, e2, h⟩ := bindE h
  refine X.putf (pc' := 17) dX11_cost_14 rfl fq_X11_56 rfl rfl e2 ?_
  refine X.aload_n (x := a0) (pc' := 18) dX11_cost_17 rfl rfl rfl ?_
  obtain ⟨v3, e4, h⟩ := bindE h
  refine X.getf (pc' := 21) dX11_cost_18 rfl fq_X11_56 (gI_spec e4) ?_
  refine X.if_le (tgt := 28) (pc' := 24) dX11_cost_21 (by decide) rfl (fun hc => ?_) (fun hc => ?_)
  · rw [if_pos hc] at h
    refine X.aload_n (x := a0) (pc' := 29) dX11_cost_28 rfl rfl rfl ?_
    refine X.aload_n (x := a0) (pc' := 30) dX11_cost_29 rfl rfl rfl ?_
    refine X.iload_n (x := a1) (pc' := 31) dX11_cost_30 rfl rfl rfl ?_
    obtain ⟨⟨⟩, e8, h⟩ := bindE h
    obtain ⟨v5, M6, e7, h⟩ := bd2E h
    refine X.callV (b := a0) (v := some (.int v5)) (As := [.int a1]) (st := [.ref a0]) (M' := M6) (pc' := 34) dX11_cost_31 rfl cl_X11_216 mi_X11_toldArcs me_X11_toldArcs mr_X11_toldArcs e8 ⟨⟨Nat.le_of_ble_eq_true rfl, Nat.le_of_ble_eq_true rfl⟩, Nat.le_of_ble_eq_true rfl, Nat.le_of_ble_eq_true rfl⟩ rfl (Nat.le_of_ble_eq_true rfl) (ok_X11_toldArcs (G := zs G) e7) ?_
    show X G t_X11_cost [] 34 [some (.ref a0), some (.int a1), some (.int a2)] [.int v5, .ref a0] M6 0 0 _
    refine X.iload_n (x := a2) (pc' := 35) dX11_cost_34 rfl rfl rfl ?_
    obtain ⟨⟨⟩, e12, h⟩ := bindE h
    obtain ⟨v9, M10, e11, h⟩ := bd2E h
    refine X.callV (b := a0) (v := some (.int v9)) (As := [.int v5, .int a2]) (st := []) (M' := M10) (pc' := 38) dX11_cost_35 rfl cl_X11_212 mi_X11_costOf me_X11_costOf mr_X11_costOf e12 ⟨⟨Nat.le_of_ble_eq_true rfl, Nat.le_of_ble_eq_true rfl⟩, Nat.le_of_ble_eq_true rfl, Nat.le_of_ble_eq_true rfl⟩ rfl (Nat.le_of_ble_eq_true rfl) (ok_X11_costOf (G := zs G) e11) ?_
    show X G t_X11_cost [] 38 [some (.ref a0), some (.int a1), some (.int a2)] [.int v9] M10 0 0 _
    cases h
    exact X.iret (ty := .int) dX11_cost_38 rfl rfl (Nat.le_of_ble_eq_true rfl) (Nat.le_of_ble_eq_true rfl) rfl
  · rw [if_neg hc] at h
    refine X.iconst (v := 0) (pc' := 25) dX11_cost_24 rfl (by decide) ?_
    refine X.goto (pc' := 38) dX11_cost_25 (by decide) ?_
    cases h
    exact X.iret (ty := .int) dX11_cost_38 rfl rfl (Nat.le_of_ble_eq_true rfl) (Nat.le_of_ble_eq_true rfl) rfl
def f_X11_cost (fu : Nat) (a0 : Nat) (a1 : Int32) (a2 : Int32) (M : List Ob) : Option (Int32 × List Ob) :=
  (hasO M a0 11).bind fun _ =>
  bd2 (f_X11_isTold fu a0 a1 M) fun v1 M2 =>
  if v1 = 0 then (f_X11_cost_14 fu a0 a1 a2 a0 1 M2)
  else (f_X11_cost_14 fu a0 a1 a2 a0 0 M2)
set_option maxHeartbeats 4000000 in
theorem ok_X11_cost {G : GT} {fu : Nat} {a0 : Nat} {a1 : Int32} {a2 : Int32} {M : List Ob} {out : Int32 × List Ob} (h : f_X11_cost fu a0 a1 a2 M = some out) : Sp G t_X11_cost [.ref a0, .int a1, .int a2] M (oI out) := by
  refine Sp.of rfl (by decide +kernel) (cat_all rfl) (Nat.le_of_ble_eq_true rfl) ?_
  show X G t_X11_cost [] 0 [some (.ref a0), some (.int a1), some (.int a2)] [] M 0 0 (oI out)
  unfold f_X11_cost at h
  refine X.aload_n (x := a0) (pc' := 1) dX11_cost_0 rfl rfl rfl ?_
  refine X.aload_n (x := a0) (pc' := 2) dX11_cost_1 rfl rfl rfl ?_
  refine X.iload_n (x := a1) (pc' := 3) dX11_cost_2 rfl rfl rfl ?_
  obtain ⟨⟨⟩, e4, h⟩ := bindE h
  obtain ⟨v1, M2, e3, h⟩ := bd2E h
  refine X.callV (b := a0) (v := some (.int v1)) (As := [.int a1]) (st := [.ref a0]) (M' := M2) (pc' := 6) dX11_cost_3 rfl cl_X11_206 mi_X11_isTold me_X11_isTold mr_X11_isTold e4 ⟨⟨Nat.le_of_ble_eq_true rfl, Nat.le_of_ble_eq_true rfl⟩, Nat.le_of_ble_eq_true rfl, Nat.le_of_ble_eq_true rfl⟩ rfl (Nat.le_of_ble_eq_true rfl) (ok_X11_isTold (G := zs G) e3) ?_
  show X G t_X11_cost [] 6 [some (.ref a0), some (.int a1), some (.int a2)] [.int v1, .ref a0] M2 0 0 _
  refine X.if_eq (tgt := 13) (pc' := 9) dX11_cost_6 (by decide) rfl (fun hc => ?_) (fun hc => ?_)
  · rw [if_pos hc] at h
    refine X.iconst (v := 1) (pc' := 14) dX11_cost_13 rfl (by decide) ?_
    exact ok_X11_cost_14 h
  · rw [if_neg hc] at h
    refine X.iconst (v := 0) (pc' := 10) dX11_cost_9 rfl (by decide) ?_
    refine X.goto (pc' := 14) dX11_cost_10 (by decide) ?_
    exact ok_X11_cost_14 h
def f_X11_chosen_63 (fu : Nat) (a0 : Nat) (a1 : Int32) (a2 : Int32) (a3 : Int32) (M : List Ob) (k26 : Nat → Int32 → Int32 → Int32 → List Ob → Option (Int32 × List Ob)) : Option (Int32 × List Ob) :=
  k26 a0 a1 a2 (a3 + 1) M
set_option maxHeartbeats 4000000 in
theorem ok_X11_chosen_63 {G : GT} {fu : Nat} {out : Int32 × List Ob} {a0 : Nat} {a1 : Int32} {a2 : Int32} {a3 : Int32} {M : List Ob} {k26 : Nat → Int32 → Int32 → Int32 → List Ob → Option (Int32 × List Ob)} (hk26 : ∀ (a0 : Nat) (a1 : Int32) (a2 : Int32) (a3 : Int32) (M : List Ob), k26 a0 a1 a2 a3 M = some out → X G t_X11_chosen [] 26 [some (.ref a0), some (.int a1), some (.int a2), some (.int a3), none] [] M 0 0 (oI out)) (h : f_X11_chosen_63 fu a0 a1 a2 a3 M k26 = some out) : X G t_X11_chosen [] 63 [some (.ref a0), some (.int a1), some (.int a2), some (.int a3), none] [] M 0 0 (oI out) := by
  unfold f_X11_chosen_63 at h
  refine X.iinc (v := (a3 + 1)) (L' := [some (.ref a0), some (.int a1), some (.int a2), some (.int (a3 + 1)), none]) (pc' := 66) dX11_chosen_63 rfl rfl (congrArg (fun y => a3 + y) (show Int32.ofInt 1 = 1 by decide)) (Nat.le_of_ble_eq_true rfl) rfl ?_
  refine X.goto (pc' := 26) dX11_chosen_66 (by decide) ?_
  exact hk26 _ _ _ _ _ h
def f_X11_chosen_26b (fu : Nat) (a0 : Nat) (a1 : Int32) (a2 : Int32) (a3 : Int32) (M : List Ob) (k26 : Nat → Int32 → Int32 → Int32 → List Ob → Option (Int32 × List Ob)) : Option (Int32 × List Ob) :=
  (gP M a0 11 0).bind fun r1 =>
  (aI M r1 13 69).bind fun v4 =>
  if v4 ≤ a3 then (some (a1, M))
  else ((hasO M a0 11).bind fun _ =>
  bd2 (f_X11_toldArcs fu a0 a3 M) fun v5 M6 =>
  (hasO M6 a0 11).bind fun _ =>
  bd2 (f_X11_regretOf fu a0 v5 1 M6) fun v9 M10 =>
  if v9 < a2 then (f_X11_chosen_63 fu a0 a3 v9 a3 M10 k26)
  else (f_X11_chosen_63 fu a0 a1 a2 a3 M10 k26))
set_option maxHeartbeats 4000000 in
theorem ok_X11_chosen_26b {G : GT} {fu : Nat} {out : Int32 × List Ob} {a0 : Nat} {a1 : Int32} {a2 : Int32} {a3 : Int32} {M : List Ob} {k26 : Nat → Int32 → Int32 → Int32 → List Ob → Option (Int32 × List Ob)} (hk26 : ∀ (a0 : Nat) (a1 : Int32) (a2 : Int32) (a3 : Int32) (M : List Ob), k26 a0 a1 a2 a3 M = some out → X G t_X11_chosen [] 26 [some (.ref a0), some (.int a1), some (.int a2), some (.int a3), none] [] M 0 0 (oI out)) (h : f_X11_chosen_26b fu a0 a1 a2 a3 M k26 = some out) : X G t_X11_chosen [] 26 [some (.ref a0), some (.int a1), some (.int a2), some (.int a3), none] [] M 0 0 (oI out) := by
  unfold f_X11_chosen_26b at h
  refine X.iload_n (x := a3) (pc' := 27) dX11_chosen_26 rfl rfl rfl ?_
  refine X.aload_n (x := a0) (pc' := 28) dX11_chosen_27 rfl rfl rfl ?_
  obtain ⟨r1, e2, h⟩ := bindE h
  refine X.getf (pc' := 31) dX11_chosen_28 rfl fq_X11_7 (gP_spec e2) ?_
  refine X.bipush (v := 69) (pc' := 33) dX11_chosen_31 rfl (by decide) ?_
  obtain ⟨v4, e3, h⟩ := bindE h
  refine X.iald (pc' := 34) dX11_chosen_33 rfl e3 ?_
  refine X.icmp_ge (tgt := 69) (pc' := 37) dX11_chosen_34 (by decide) rfl (fun hc => ?_) (fun hc => ?_)
  · rw [if_pos hc] at h
    refine X.iload_n (x := a1) (pc' := 70) dX11_chosen_69 rfl rfl rfl ?_
    cases h
    exact X.iret (ty := .int) dX11_chosen_70 rfl rfl (Nat.le_of_ble_eq_true rfl) (Nat.le_of_ble_eq_true rfl) rfl
  · rw [if_neg hc] at h
    refine X.aload_n (x := a0) (pc' := 38) dX11_chosen_37 rfl rfl rfl ?_
    refine X.aload_n (x := a0) (pc' := 39) dX11_chosen_38 rfl rfl rfl ?_
    refine X.iload_n (x := a3) (pc' := 40) dX11_chosen_39 rfl rfl rfl ?_
    obtain ⟨⟨⟩, e8, h⟩ := bindE h
    obtain ⟨v5, M6, e7, h⟩ := bd2E h
    refine X.callV (b := a0) (v := some (.int v5)) (As := [.int a3]) (st := [.ref a0]) (M' := M6) (pc' := 43) dX11_chosen_40 rfl cl_X11_216 mi_X11_toldArcs me_X11_toldArcs mr_X11_toldArcs e8 ⟨⟨Nat.le_of_ble_eq_true rfl, Nat.le_of_ble_eq_true rfl⟩, Nat.le_of_ble_eq_true rfl, Nat.le_of_ble_eq_true rfl⟩ rfl (Nat.le_of_ble_eq_true rfl) (ok_X11_toldArcs (G := zs G) e7) ?_
    show X G t_X11_chosen [] 43 [some (.ref a0), some (.int a1), some (.int a2), some (.int a3), none] [.int v5, .ref a0] M6 0 0 _
    refine X.iconst (v := 1) (pc' := 44) dX11_chosen_43 rfl (by decide) ?_
    obtain ⟨⟨⟩, e12, h⟩ := bindE h
    obtain ⟨v9, M10, e11, h⟩ := bd2E h
    refine X.callV (b := a0) (v := some (.int v9)) (As := [.int v5, .int 1]) (st := []) (M' := M10) (pc' := 47) dX11_chosen_44 rfl cl_X11_234 mi_X11_regretOf me_X11_regretOf mr_X11_regretOf e12 ⟨⟨Nat.le_of_ble_eq_true rfl, Nat.le_of_ble_eq_true rfl⟩, Nat.le_of_ble_eq_true rfl, Nat.le_of_ble_eq_true rfl⟩ rfl (Nat.le_of_ble_eq_true rfl) (ok_X11_regretOf (G := zs G) e11) ?_
    show X G t_X11_chosen [] 47 [some (.ref a0), some (.int a1), some (.int a2), some (.int a3), none] [.int v9] M10 0 0 _
    refine X.istore (L' := [some (.ref a0), some (.int a1), some (.int a2), some (.int a3), some (.int v9)]) (pc' := 49) dX11_chosen_47 rfl (Nat.le_of_ble_eq_true rfl) rfl ?_
    refine X.iload (x := v9) (pc' := 51) dX11_chosen_49 rfl rfl ?_
    refine X.iload_n (x := a2) (pc' := 52) dX11_chosen_51 rfl rfl rfl ?_
    refine X.icmp_lt (tgt := 58) (pc' := 55) dX11_chosen_52 (by decide) rfl (fun hc => ?_) (fun hc => ?_)
    · rw [if_pos hc] at h
      refine X.iload_n (x := a3) (pc' := 59) dX11_chosen_58 rfl rfl rfl ?_
      refine X.istore_n (L' := [some (.ref a0), some (.int a3), some (.int a2), some (.int a3), some (.int v9)]) (pc' := 60) dX11_chosen_59 rfl rfl (Nat.le_of_ble_eq_true rfl) rfl ?_
      refine X.iload (x := v9) (pc' := 62) dX11_chosen_60 rfl rfl ?_
      refine X.istore_n (L' := [some (.ref a0), some (.int a3), some (.int v9), some (.int a3), some (.int v9)]) (pc' := 63) dX11_chosen_62 rfl rfl (Nat.le_of_ble_eq_true rfl) rfl ?_
      refine X.sub (L := [some (.ref a0), some (.int a3), some (.int v9), some (.int a3), none]) ?_ (⟨rfl, ⟨rfl, ⟨rfl, ⟨rfl, trivial⟩⟩⟩⟩)
      exact ok_X11_chosen_63 hk26 h
    · rw [if_neg hc] at h
      refine X.goto (pc' := 63) dX11_chosen_55 (by decide) ?_
      refine X.sub (L := [some (.ref a0), some (.int a1), some (.int a2), some (.int a3), none]) ?_ (⟨rfl, ⟨rfl, ⟨rfl, ⟨rfl, trivial⟩⟩⟩⟩)
      exact ok_X11_chosen_63 hk26 h
def f_X11_chosen_26 (fu : Nat) : Nat → Nat → Int32 → Int32 → Int32 → List Ob → Option (Int32 × List Ob)
  | 0, _, _, _, _, _ => none
  | n + 1, a0, a1, a2, a3, M => f_X11_chosen_26b fu a0 a1 a2 a3 M (fun a0 a1 a2 a3 M => f_X11_chosen_26 fu n a0 a1 a2 a3 M)
theorem ok_X11_chosen_26 {G : GT} {fu : Nat} {out : Int32 × List Ob} : ∀ (n : Nat) (a0 : Nat) (a1 : Int32) (a2 : Int32) (a3 : Int32) (M : List Ob), f_X11_chosen_26 fu n a0 a1 a2 a3 M = some out → X G t_X11_chosen [] 26 [some (.ref a0), some (.int a1), some (.int a2), some (.int a3), none] [] M 0 0 (oI out) := by
  intro n
  induction n with
  | zero =>
    intro a0 a1 a2 a3 M h
    unfold f_X11_chosen_26 at h
    cases h
  | succ n ih =>
    intro a0 a1 a2 a3 M h
    unfold f_X11_chosen_26 at h
    exact ok_X11_chosen_26b ih h
def f_X11_chosen_16 (fu : Nat) (a0 : Nat) (b0 : Nat) (b1 : Int32) (M : List Ob) : Option (Int32 × List Ob) :=
  (pF M b0 11 4 (.int b1)).bind fun M1 =>
  f_X11_chosen_26 fu  fu a0 0 999999 0 M1
set_option maxHeartbeats 4000000 in
theorem ok_X11_chosen_16 {G : GT} {fu : Nat} {out : Int32 × List Ob} {a0 : Nat} {b0 : Nat} {b1 : Int32} {M : List Ob} (h : f_X11_chosen_16 fu a0 b0 b1 M = some out) : X G t_X11_chosen [] 16 [some (.ref a0), none, none, none, none] [.int b1, .ref b0] M 0 0 (oI out) := by
  unfold f_X11_chosen_16 at h
  obtain ⟨M1, e2, h⟩ := bindE h
  refine X.putf (pc' := 19) dX11_chosen_16 rfl fq_X11_56 rfl rfl e2 ?_
  refine X.iconst (v := 0) (pc' := 20) dX11_chosen_19 rfl (by decide) ?_
  refine X.istore_n (L' := [some (.ref a0), some (.int 0), none, none, none]) (pc' := 21) dX11_chosen_20 rfl rfl (Nat.le_of_ble_eq_true rfl) rfl ?_
  refine X.ldc (v := 999999) (pc' := 23) dX11_chosen_21 rfl (TBg_of 1523 (by decide +kernel) rfl) ?_
  refine X.istore_n (L' := [some (.ref a0), some (.int 0), some (.int 999999), none, none]) (pc' := 24) dX11_chosen_23 rfl rfl (Nat.le_of_ble_eq_true rfl) rfl ?_
  refine X.iconst (v := 0) (pc' := 25) dX11_chosen_24 rfl (by decide) ?_
  refine X.istore_n (L' := [some (.ref a0), some (.int 0), some (.int 999999), some (.int 0), none]) (pc' := 26) dX11_chosen_25 rfl rfl (Nat.le_of_ble_eq_true rfl) rfl ?_
  refine ok_X11_chosen_26  fu _ _ _ _ _ h
def f_X11_chosen (fu : Nat) (a0 : Nat) (M : List Ob) : Option (Int32 × List Ob) :=
  (gP M a0 11 0).bind fun r1 =>
  (aI M r1 13 69).bind fun v4 =>
  if v4 = 0 then (f_X11_chosen_16 fu a0 a0 1 M)
  else (f_X11_chosen_16 fu a0 a0 0 M)
set_option maxHeartbeats 4000000 in
theorem ok_X11_chosen {G : GT} {fu : Nat} {a0 : Nat} {M : List Ob} {out : Int32 × List Ob} (h : f_X11_chosen fu a0 M = some out) : Sp G t_X11_chosen [.ref a0] M (oI out) := by
  refine Sp.of rfl (by decide +kernel) (cat_all rfl) (Nat.le_of_ble_eq_true rfl) ?_
  show X G t_X11_chosen [] 0 [some (.ref a0), none, none, none, none] [] M 0 0 (oI out)
  unfold f_X11_chosen at h
  refine X.aload_n (x := a0) (pc' := 1) dX11_chosen_0 rfl rfl rfl ?_
  refine X.aload_n (x := a0) (pc' := 2) dX11_chosen_1 rfl rfl rfl ?_
  obtain ⟨r1, e2, h⟩ := bindE h
  refine X.getf (pc' := 5) dX11_chosen_2 rfl fq_X11_7 (gP_spec e2) ?_
  refine X.bipush (v := 69) (pc' := 7) dX11_chosen_5 rfl (by decide) ?_
  obtain ⟨v4, e3, h⟩ := bindE h
  refine X.iald (pc' := 8) dX11_chosen_7 rfl e3 ?_
  refine X.if_ne (tgt := 15) (pc' := 11) dX11_chosen_8 (by decide) rfl (fun hc => ?_) (fun hc => ?_)
  · rw [if_neg hc] at h
    refine X.iconst (v := 0) (pc' := 16) dX11_chosen_15 rfl (by decide) ?_
    exact ok_X11_chosen_16 h
  · rw [if_pos hc] at h
    refine X.iconst (v := 1) (pc' := 12) dX11_chosen_11 rfl (by decide) ?_
    refine X.goto (pc' := 16) dX11_chosen_12 (by decide) ?_
    exact ok_X11_chosen_16 h
def f_X11_beats_22 (fu : Nat) (a0 : Nat) (a1 : Int32) (a2 : Int32) (b0 : Nat) (b1 : Int32) (M : List Ob) : Option (Int32 × List Ob) :=
  (pF M b0 11 4 (.int b1)).bind fun M1 =>
  (gI M1 a0 11 4).bind fun v3 =>
  if v3 = 0 then ((hasO M1 a0 11).bind fun _ =>
  bd2 (f_X11_isBeaten fu a0 a2 a1 M1) fun v5 M6 =>
  if v5 = 0 then (some (0, M6))
  else (some (1, M6)))
  else (some (0, M1))
set_option maxHeartbeats 4000000 in
theorem ok_X11_beats_22 {G : GT} {fu : Nat} {out : Int32 × List Ob} {a0 : Nat} {a1 : Int32} {a2 : Int32} {b0 : Nat} {b1 : Int32} {M : List Ob} (h : f_X11_beats_22 fu a0 a1 a2 b0 b1 M = some out) : X G t_X11_beats [] 22 [some (.ref a0), some (.int a1), some (.int a2)] [.int b1, .ref b0] M 0 0 (oI out) := by
  unfold f_X11_beats_22 at h
  obtain ⟨M1, e2, h⟩ := bindE h
  refine X.putf (pc' := 25) dX11_beats_22 rfl fq_X11_56 rfl rfl e2 ?_
  refine X.aload_n (x := a0) (pc' := 26) dX11_beats_25 rfl rfl rfl ?_
  obtain ⟨v3, e4, h⟩ := bindE h
  refine X.getf (pc' := 29) dX11_beats_26 rfl fq_X11_56 (gI_spec e4) ?_
  refine X.if_ne (tgt := 45) (pc' := 32) dX11_beats_29 (by decide) rfl (fun hc => ?_) (fun hc => ?_)
  · rw [if_neg hc] at h
    refine X.iconst (v := 0) (pc' := 46) dX11_beats_45 rfl (by decide) ?_
    cases h
    exact X.iret (ty := .boolean) dX11_beats_46 rfl rfl (Nat.le_of_ble_eq_true rfl) (Nat.le_of_ble_eq_true rfl) rfl
  · rw [if_pos hc] at h
    refine X.aload_n (x := a0) (pc' := 33) dX11_beats_32 rfl rfl rfl ?_
    refine X.iload_n (x := a2) (pc' := 34) dX11_beats_33 rfl rfl rfl ?_
    refine X.iload_n (x := a1) (pc' := 35) dX11_beats_34 rfl rfl rfl ?_
    obtain ⟨⟨⟩, e8, h⟩ := bindE h
    obtain ⟨v5, M6, e7, h⟩ := bd2E h
    refine X.callV (b := a0) (v := some (.int v5)) (As := [.int a2, .int a1]) (st := []) (M' := M6) (pc' := 38) dX11_beats_35 rfl cl_X11_238 mi_X11_isBeaten me_X11_isBeaten mr_X11_isBeaten e8 ⟨⟨Nat.le_of_ble_eq_true rfl, Nat.le_of_ble_eq_true rfl⟩, Nat.le_of_ble_eq_true rfl, Nat.le_of_ble_eq_true rfl⟩ rfl (Nat.le_of_ble_eq_true rfl) (ok_X11_isBeaten (G := zs G) e7) ?_
    show X G t_X11_beats [] 38 [some (.ref a0), some (.int a1), some (.int a2)] [.int v5] M6 0 0 _
    refine X.if_eq (tgt := 45) (pc' := 41) dX11_beats_38 (by decide) rfl (fun hc => ?_) (fun hc => ?_)
    · rw [if_pos hc] at h
      refine X.iconst (v := 0) (pc' := 46) dX11_beats_45 rfl (by decide) ?_
      cases h
      exact X.iret (ty := .boolean) dX11_beats_46 rfl rfl (Nat.le_of_ble_eq_true rfl) (Nat.le_of_ble_eq_true rfl) rfl
    · rw [if_neg hc] at h
      refine X.iconst (v := 1) (pc' := 42) dX11_beats_41 rfl (by decide) ?_
      refine X.goto (pc' := 46) dX11_beats_42 (by decide) ?_
      cases h
      exact X.iret (ty := .boolean) dX11_beats_46 rfl rfl (Nat.le_of_ble_eq_true rfl) (Nat.le_of_ble_eq_true rfl) rfl
def f_X11_beats_21 (fu : Nat) (a0 : Nat) (a1 : Int32) (a2 : Int32) (b0 : Nat) (M : List Ob) : Option (Int32 × List Ob) :=
  f_X11_beats_22 fu a0 a1 a2 b0 1 M
set_option maxHeartbeats 4000000 in
theorem ok_X11_beats_21 {G : GT} {fu : Nat} {out : Int32 × List Ob} {a0 : Nat} {a1 : Int32} {a2 : Int32} {b0 : Nat} {M : List Ob} (h : f_X11_beats_21 fu a0 a1 a2 b0 M = some out) : X G t_X11_beats [] 21 [some (.ref a0), some (.int a1), some (.int a2)] [.ref b0] M 0 0 (oI out) := by
  unfold f_X11_beats_21 at h
  refine X.iconst (v := 1) (pc' := 22) dX11_beats_21 rfl (by decide) ?_
  exact ok_X11_beats_22 h
def f_X11_beats (fu : Nat) (a0 : Nat) (a1 : Int32) (a2 : Int32) (M : List Ob) : Option (Int32 × List Ob) :=
  (hasO M a0 11).bind fun _ =>
  bd2 (f_X11_isTold fu a0 a1 M) fun v1 M2 =>
  if v1 = 0 then (f_X11_beats_21 fu a0 a1 a2 a0 M2)
  else ((hasO M2 a0 11).bind fun _ =>
  bd2 (f_X11_isTold fu a0 a2 M2) fun v5 M6 =>
  if v5 = 0 then (f_X11_beats_21 fu a0 a1 a2 a0 M6)
  else (f_X11_beats_22 fu a0 a1 a2 a0 0 M6))
set_option maxHeartbeats 4000000 in
theorem ok_X11_beats {G : GT} {fu : Nat} {a0 : Nat} {a1 : Int32} {a2 : Int32} {M : List Ob} {out : Int32 × List Ob} (h : f_X11_beats fu a0 a1 a2 M = some out) : Sp G t_X11_beats [.ref a0, .int a1, .int a2] M (oI out) := by
  refine Sp.of rfl (by decide +kernel) (cat_all rfl) (Nat.le_of_ble_eq_true rfl) ?_
  show X G t_X11_beats [] 0 [some (.ref a0), some (.int a1), some (.int a2)] [] M 0 0 (oI out)
  unfold f_X11_beats at h
  refine X.aload_n (x := a0) (pc' := 1) dX11_beats_0 rfl rfl rfl ?_
  refine X.aload_n (x := a0) (pc' := 2) dX11_beats_1 rfl rfl rfl ?_
  refine X.iload_n (x := a1) (pc' := 3) dX11_beats_2 rfl rfl rfl ?_
  obtain ⟨⟨⟩, e4, h⟩ := bindE h
  obtain ⟨v1, M2, e3, h⟩ := bd2E h
  refine X.callV (b := a0) (v := some (.int v1)) (As := [.int a1]) (st := [.ref a0]) (M' := M2) (pc' := 6) dX11_beats_3 rfl cl_X11_206 mi_X11_isTold me_X11_isTold mr_X11_isTold e4 ⟨⟨Nat.le_of_ble_eq_true rfl, Nat.le_of_ble_eq_true rfl⟩, Nat.le_of_ble_eq_true rfl, Nat.le_of_ble_eq_true rfl⟩ rfl (Nat.le_of_ble_eq_true rfl) (ok_X11_isTold (G := zs G) e3) ?_
  show X G t_X11_beats [] 6 [some (.ref a0), some (.int a1), some (.int a2)] [.int v1, .ref a0] M2 0 0 _
  refine X.if_eq (tgt := 21) (pc' := 9) dX11_beats_6 (by decide) rfl (fun hc => ?_) (fun hc => ?_)
  · rw [if_pos hc] at h
    exact ok_X11_beats_21 h
  · rw [if_neg hc] at h
    refine X.aload_n (x := a0) (pc' := 10) dX11_beats_9 rfl rfl rfl ?_
    refine X.iload_n (x := a2) (pc' := 11) dX11_beats_10 rfl rfl rfl ?_
    obtain ⟨⟨⟩, e8, h⟩ := bindE h
    obtain ⟨v5, M6, e7, h⟩ := bd2E h
    refine X.callV (b := a0) (v := some (.int v5)) (As := [.int a2]) (st := [.ref a0]) (M' := M6) (pc' := 14) dX11_beats_11 rfl cl_X11_206 mi_X11_isTold me_X11_isTold mr_X11_isTold e8 ⟨⟨Nat.le_of_ble_eq_true rfl, Nat.le_of_ble_eq_true rfl⟩, Nat.le_of_ble_eq_true rfl, Nat.le_of_ble_eq_true rfl⟩ rfl (Nat.le_of_ble_eq_true rfl) (ok_X11_isTold (G := zs G) e7) ?_
    show X G t_X11_beats [] 14 [some (.ref a0), some (.int a1), some (.int a2)] [.int v5, .ref a0] M6 0 0 _
    refine X.if_eq (tgt := 21) (pc' := 17) dX11_beats_14 (by decide) rfl (fun hc => ?_) (fun hc => ?_)
    · rw [if_pos hc] at h
      exact ok_X11_beats_21 h
    · rw [if_neg hc] at h
      refine X.iconst (v := 0) (pc' := 18) dX11_beats_17 rfl (by decide) ?_
      refine X.goto (pc' := 22) dX11_beats_18 (by decide) ?_
      exact ok_X11_beats_22 h
def f_X11_strain_14 (fu : Nat) (a0 : Nat) (a1 : Int32) (b0 : Nat) (b1 : Int32) (M : List Ob) : Option (UInt32 × List Ob) :=
  (pF M b0 11 4 (.int b1)).bind fun M1 =>
  (gI M1 a0 11 4).bind fun v3 =>
  if v3 ≤ 0 then ((hasO M1 a0 11).bind fun _ =>
  bd2 (f_X11_toldArcs fu a0 a1 M1) fun v5 M6 =>
  (hasO M6 a0 11).bind fun _ =>
  bd2 (f_X11_costOf fu a0 v5 0 M6) fun v9 M10 =>
  if v9 = 0 then (some (FP.fconst1, M10))
  else ((hasO M10 a0 11).bind fun _ =>
  bd2 (f_X11_toldArcs fu a0 a1 M10) fun v13 M14 =>
  (hasO M14 a0 11).bind fun _ =>
  bd2 (f_X11_worstOf fu a0 v13 M14) fun v17 M18 =>
  if (FP.fdiv (FP.i2f v17) (FP.i2f v9)) &&& 0x7fffffff ≤ 0x7f800000 then
  (some ((FP.fdiv (FP.i2f v17) (FP.i2f v9)), M18))
  else none))
  else (some (FP.fconst0, M1))
set_option maxHeartbeats 4000000 in
theorem ok_X11_strain_14 {G : GT} {fu : Nat} {out : UInt32 × List Ob} {a0 : Nat} {a1 : Int32} {b0 : Nat} {b1 : Int32} {M : List Ob} (h : f_X11_strain_14 fu a0 a1 b0 b1 M = some out) : X G t_X11_strain [] 14 [some (.ref a0), some (.int a1), none] [.int b1, .ref b0] M 0 0 (oF out) := by
  unfold f_X11_strain_14 at h
  obtain ⟨M1, e2, h⟩ := bindE h
  refine X.putf (pc' := 17) dX11_strain_14 rfl fq_X11_56 rfl rfl e2 ?_
  refine X.aload_n (x := a0) (pc' := 18) dX11_strain_17 rfl rfl rfl ?_
  obtain ⟨v3, e4, h⟩ := bindE h
  refine X.getf (pc' := 21) dX11_strain_18 rfl fq_X11_56 (gI_spec e4) ?_
  refine X.if_le (tgt := 26) (pc' := 24) dX11_strain_21 (by decide) rfl (fun hc => ?_) (fun hc => ?_)
  · rw [if_pos hc] at h
    refine X.aload_n (x := a0) (pc' := 27) dX11_strain_26 rfl rfl rfl ?_
    refine X.aload_n (x := a0) (pc' := 28) dX11_strain_27 rfl rfl rfl ?_
    refine X.iload_n (x := a1) (pc' := 29) dX11_strain_28 rfl rfl rfl ?_
    obtain ⟨⟨⟩, e8, h⟩ := bindE h
    obtain ⟨v5, M6, e7, h⟩ := bd2E h
    refine X.callV (b := a0) (v := some (.int v5)) (As := [.int a1]) (st := [.ref a0]) (M' := M6) (pc' := 32) dX11_strain_29 rfl cl_X11_216 mi_X11_toldArcs me_X11_toldArcs mr_X11_toldArcs e8 ⟨⟨Nat.le_of_ble_eq_true rfl, Nat.le_of_ble_eq_true rfl⟩, Nat.le_of_ble_eq_true rfl, Nat.le_of_ble_eq_true rfl⟩ rfl (Nat.le_of_ble_eq_true rfl) (ok_X11_toldArcs (G := zs G) e7) ?_
    show X G t_X11_strain [] 32 [some (.ref a0), some (.int a1), none] [.int v5, .ref a0] M6 0 0 _
    refine X.iconst (v := 0) (pc' := 33) dX11_strain_32 rfl (by decide) ?_
    obtain ⟨⟨⟩, e12, h⟩ := bindE h
    obtain ⟨v9, M10, e11, h⟩ := bd2E h
    refine X.callV (b := a0) (v := some (.int v9)) (As := [.int v5, .int 0]) (st := []) (M' := M10) (pc' := 36) dX11_strain_33 rfl cl_X11_212 mi_X11_costOf me_X11_costOf mr_X11_costOf e12 ⟨⟨Nat.le_of_ble_eq_true rfl, Nat.le_of_ble_eq_true rfl⟩, Nat.le_of_ble_eq_true rfl, Nat.le_of_ble_eq_true rfl⟩ rfl (Nat.le_of_ble_eq_true rfl) (ok_X11_costOf (G := zs G) e11) ?_
    show X G t_X11_strain [] 36 [some (.ref a0), some (.int a1), none] [.int v9] M10 0 0 _
    refine X.istore_n (L' := [some (.ref a0), some (.int a1), some (.int v9)]) (pc' := 37) dX11_strain_36 rfl rfl (Nat.le_of_ble_eq_true rfl) rfl ?_
    refine X.iload_n (x := v9) (pc' := 38) dX11_strain_37 rfl rfl rfl ?_
    refine X.if_ne (tgt := 45) (pc' := 41) dX11_strain_38 (by decide) rfl (fun hc => ?_) (fun hc => ?_)
    · rw [if_neg hc] at h
      refine X.aload_n (x := a0) (pc' := 46) dX11_strain_45 rfl rfl rfl ?_
      refine X.aload_n (x := a0) (pc' := 47) dX11_strain_46 rfl rfl rfl ?_
      refine X.iload_n (x := a1) (pc' := 48) dX11_strain_47 rfl rfl rfl ?_
      obtain ⟨⟨⟩, e16, h⟩ := bindE h
      obtain ⟨v13, M14, e15, h⟩ := bd2E h
      refine X.callV (b := a0) (v := some (.int v13)) (As := [.int a1]) (st := [.ref a0]) (M' := M14) (pc' := 51) dX11_strain_48 rfl cl_X11_216 mi_X11_toldArcs me_X11_toldArcs mr_X11_toldArcs e16 ⟨⟨Nat.le_of_ble_eq_true rfl, Nat.le_of_ble_eq_true rfl⟩, Nat.le_of_ble_eq_true rfl, Nat.le_of_ble_eq_true rfl⟩ rfl (Nat.le_of_ble_eq_true rfl) (ok_X11_toldArcs (G := zs G) e15) ?_
      show X G t_X11_strain [] 51 [some (.ref a0), some (.int a1), some (.int v9)] [.int v13, .ref a0] M14 0 0 _
      obtain ⟨⟨⟩, e20, h⟩ := bindE h
      obtain ⟨v17, M18, e19, h⟩ := bd2E h
      refine X.callV (b := a0) (v := some (.int v17)) (As := [.int v13]) (st := []) (M' := M18) (pc' := 54) dX11_strain_51 rfl cl_X11_231 mi_X11_worstOf me_X11_worstOf mr_X11_worstOf e20 ⟨⟨Nat.le_of_ble_eq_true rfl, Nat.le_of_ble_eq_true rfl⟩, Nat.le_of_ble_eq_true rfl, Nat.le_of_ble_eq_true rfl⟩ rfl (Nat.le_of_ble_eq_true rfl) (ok_X11_worstOf (G := zs G) e19) ?_
      show X G t_X11_strain [] 54 [some (.ref a0), some (.int a1), some (.int v9)] [.int v17] M18 0 0 _
      refine X.i2f (pc' := 55) dX11_strain_54 rfl ?_
      refine X.iload_n (x := v9) (pc' := 56) dX11_strain_55 rfl rfl rfl ?_
      refine X.i2f (pc' := 57) dX11_strain_56 rfl ?_
      split at h
      rotate_left
      · cases h
      rename_i hn9
      refine X.fdiv (pc' := 58) dX11_strain_57 rfl hn9 ?_
      cases h
      exact X.fret dX11_strain_58 rfl (Nat.le_of_ble_eq_true rfl) (Nat.le_of_ble_eq_true rfl) rfl
    · rw [if_pos hc] at h
      refine X.fconst1 (pc' := 42) dX11_strain_41 rfl ?_
      refine X.goto (pc' := 58) dX11_strain_42 (by decide) ?_
      cases h
      exact X.fret dX11_strain_58 rfl (Nat.le_of_ble_eq_true rfl) (Nat.le_of_ble_eq_true rfl) rfl
  · rw [if_neg hc] at h
    refine X.fconst0 (pc' := 25) dX11_strain_24 rfl ?_
    cases h
    exact X.fret dX11_strain_25 rfl (Nat.le_of_ble_eq_true rfl) (Nat.le_of_ble_eq_true rfl) rfl
def f_X11_strain (fu : Nat) (a0 : Nat) (a1 : Int32) (M : List Ob) : Option (UInt32 × List Ob) :=
  (hasO M a0 11).bind fun _ =>
  bd2 (f_X11_isTold fu a0 a1 M) fun v1 M2 =>
  if v1 = 0 then (f_X11_strain_14 fu a0 a1 a0 1 M2)
  else (f_X11_strain_14 fu a0 a1 a0 0 M2)
set_option maxHeartbeats 4000000 in
theorem ok_X11_strain {G : GT} {fu : Nat} {a0 : Nat} {a1 : Int32} {M : List Ob} {out : UInt32 × List Ob} (h : f_X11_strain fu a0 a1 M = some out) : Sp G t_X11_strain [.ref a0, .int a1] M (oF out) := by
  refine Sp.of rfl (by decide +kernel) (cat_all rfl) (Nat.le_of_ble_eq_true rfl) ?_
  show X G t_X11_strain [] 0 [some (.ref a0), some (.int a1), none] [] M 0 0 (oF out)
  unfold f_X11_strain at h
  refine X.aload_n (x := a0) (pc' := 1) dX11_strain_0 rfl rfl rfl ?_
  refine X.aload_n (x := a0) (pc' := 2) dX11_strain_1 rfl rfl rfl ?_
  refine X.iload_n (x := a1) (pc' := 3) dX11_strain_2 rfl rfl rfl ?_
  obtain ⟨⟨⟩, e4, h⟩ := bindE h
  obtain ⟨v1, M2, e3, h⟩ := bd2E h
  refine X.callV (b := a0) (v := some (.int v1)) (As := [.int a1]) (st := [.ref a0]) (M' := M2) (pc' := 6) dX11_strain_3 rfl cl_X11_206 mi_X11_isTold me_X11_isTold mr_X11_isTold e4 ⟨⟨Nat.le_of_ble_eq_true rfl, Nat.le_of_ble_eq_true rfl⟩, Nat.le_of_ble_eq_true rfl, Nat.le_of_ble_eq_true rfl⟩ rfl (Nat.le_of_ble_eq_true rfl) (ok_X11_isTold (G := zs G) e3) ?_
  show X G t_X11_strain [] 6 [some (.ref a0), some (.int a1), none] [.int v1, .ref a0] M2 0 0 _
  refine X.if_eq (tgt := 13) (pc' := 9) dX11_strain_6 (by decide) rfl (fun hc => ?_) (fun hc => ?_)
  · rw [if_pos hc] at h
    refine X.iconst (v := 1) (pc' := 14) dX11_strain_13 rfl (by decide) ?_
    exact ok_X11_strain_14 h
  · rw [if_neg hc] at h
    refine X.iconst (v := 0) (pc' := 10) dX11_strain_9 rfl (by decide) ?_
    refine X.goto (pc' := 14) dX11_strain_10 (by decide) ?_
    exact ok_X11_strain_14 h
def f_X11_shortest_18 (fu : Nat) (a0 : Nat) (a2 : Int32) (b0 : Nat) (b1 : Int32) (M : List Ob) : Option (Int32 × List Ob) :=
  (pF M b0 11 4 (.int b1)).bind fun M1 =>
  (gI M1 a0 11 4).bind fun v3 =>
  if v3 ≤ 0 then (some (a2, M1))
  else (some (0, M1))
set_option maxHeartbeats 4000000 in
theorem ok_X11_shortest_18 {G : GT} {fu : Nat} {out : Int32 × List Ob} {a0 : Nat} {a2 : Int32} {b0 : Nat} {b1 : Int32} {M : List Ob} (h : f_X11_shortest_18 fu a0 a2 b0 b1 M = some out) : X G t_X11_shortest [] 18 [some (.ref a0), none, some (.int a2)] [.int b1, .ref b0] M 0 0 (oI out) := by
  unfold f_X11_shortest_18 at h
  obtain ⟨M1, e2, h⟩ := bindE h
  refine X.putf (pc' := 21) dX11_shortest_18 rfl fq_X11_56 rfl rfl e2 ?_
  refine X.aload_n (x := a0) (pc' := 22) dX11_shortest_21 rfl rfl rfl ?_
  obtain ⟨v3, e4, h⟩ := bindE h
  refine X.getf (pc' := 25) dX11_shortest_22 rfl fq_X11_56 (gI_spec e4) ?_
  refine X.if_le (tgt := 32) (pc' := 28) dX11_shortest_25 (by decide) rfl (fun hc => ?_) (fun hc => ?_)
  · rw [if_pos hc] at h
    refine X.iload_n (x := a2) (pc' := 33) dX11_shortest_32 rfl rfl rfl ?_
    cases h
    exact X.iret (ty := .int) dX11_shortest_33 rfl rfl (Nat.le_of_ble_eq_true rfl) (Nat.le_of_ble_eq_true rfl) rfl
  · rw [if_neg hc] at h
    refine X.iconst (v := 0) (pc' := 29) dX11_shortest_28 rfl (by decide) ?_
    refine X.goto (pc' := 33) dX11_shortest_29 (by decide) ?_
    cases h
    exact X.iret (ty := .int) dX11_shortest_33 rfl rfl (Nat.le_of_ble_eq_true rfl) (Nat.le_of_ble_eq_true rfl) rfl
def f_X11_shortest (fu : Nat) (a0 : Nat) (a1 : Int32) (M : List Ob) : Option (Int32 × List Ob) :=
  (hasO M a0 11).bind fun _ =>
  bd2 (f_X11_shortestBy fu a0 a1 M) fun v1 M2 =>
  if v1 < 999999 then (f_X11_shortest_18 fu a0 v1 a0 0 M2)
  else (f_X11_shortest_18 fu a0 v1 a0 1 M2)
set_option maxHeartbeats 4000000 in
theorem ok_X11_shortest {G : GT} {fu : Nat} {a0 : Nat} {a1 : Int32} {M : List Ob} {out : Int32 × List Ob} (h : f_X11_shortest fu a0 a1 M = some out) : Sp G t_X11_shortest [.ref a0, .int a1] M (oI out) := by
  refine Sp.of rfl (by decide +kernel) (cat_all rfl) (Nat.le_of_ble_eq_true rfl) ?_
  show X G t_X11_shortest [] 0 [some (.ref a0), some (.int a1), none] [] M 0 0 (oI out)
  unfold f_X11_shortest at h
  refine X.aload_n (x := a0) (pc' := 1) dX11_shortest_0 rfl rfl rfl ?_
  refine X.iload_n (x := a1) (pc' := 2) dX11_shortest_1 rfl rfl rfl ?_
  obtain ⟨⟨⟩, e4, h⟩ := bindE h
  obtain ⟨v1, M2, e3, h⟩ := bd2E h
  refine X.callV (b := a0) (v := some (.int v1)) (As := [.int a1]) (st := []) (M' := M2) (pc' := 5) dX11_shortest_2 rfl cl_X11_228 mi_X11_shortestBy me_X11_shortestBy mr_X11_shortestBy e4 ⟨⟨Nat.le_of_ble_eq_true rfl, Nat.le_of_ble_eq_true rfl⟩, Nat.le_of_ble_eq_true rfl, Nat.le_of_ble_eq_true rfl⟩ rfl (Nat.le_of_ble_eq_true rfl) (ok_X11_shortestBy (G := zs G) e3) ?_
  show X G t_X11_shortest [] 5 [some (.ref a0), some (.int a1), none] [.int v1] M2 0 0 _
  refine X.istore_n (L' := [some (.ref a0), some (.int a1), some (.int v1)]) (pc' := 6) dX11_shortest_5 rfl rfl (Nat.le_of_ble_eq_true rfl) rfl ?_
  refine X.aload_n (x := a0) (pc' := 7) dX11_shortest_6 rfl rfl rfl ?_
  refine X.iload_n (x := v1) (pc' := 8) dX11_shortest_7 rfl rfl rfl ?_
  refine X.ldc (v := 999999) (pc' := 10) dX11_shortest_8 rfl (TBg_of 1523 (by decide +kernel) rfl) ?_
  refine X.icmp_lt (tgt := 17) (pc' := 13) dX11_shortest_10 (by decide) rfl (fun hc => ?_) (fun hc => ?_)
  · rw [if_pos hc] at h
    refine X.iconst (v := 0) (pc' := 18) dX11_shortest_17 rfl (by decide) ?_
    refine X.sub (L := [some (.ref a0), none, some (.int v1)]) ?_ (⟨rfl, ⟨rfl, trivial⟩⟩)
    exact ok_X11_shortest_18 h
  · rw [if_neg hc] at h
    refine X.iconst (v := 1) (pc' := 14) dX11_shortest_13 rfl (by decide) ?_
    refine X.goto (pc' := 18) dX11_shortest_14 (by decide) ?_
    refine X.sub (L := [some (.ref a0), none, some (.int v1)]) ?_ (⟨rfl, ⟨rfl, trivial⟩⟩)
    exact ok_X11_shortest_18 h
def f_X11_bestOf_45b (fu : Nat) (a0 : Nat) (a2 : Int32) (a3 : Int32) (a4 : Int32) (M : List Ob) (k45 : Nat → Int32 → Int32 → Int32 → List Ob → Option (Int32 × List Ob)) (k72 : Nat → Int32 → Int32 → List Ob → Option (Int32 × List Ob)) : Option (Int32 × List Ob) :=
  (gI M a0 11 20).bind fun v1 =>
  if v1 ≤ a4 then (k72 a0 a2 a3 M)
  else ((gP M a0 11 18).bind fun r3 =>
  (aI M r3 13 a4).bind fun v6 =>
  k45 a0 a2 (a3 ||| (1 <<< (v6 &&& 31))) (a4 + 1) M)
set_option maxHeartbeats 4000000 in
theorem ok_X11_bestOf_45b {G : GT} {fu : Nat} {out : Int32 × List Ob} {a0 : Nat} {a2 : Int32} {a3 : Int32} {a4 : Int32} {M : List Ob} {k45 : Nat → Int32 → Int32 → Int32 → List Ob → Option (Int32 × List Ob)} {k72 : Nat → Int32 → Int32 → List Ob → Option (Int32 × List Ob)} (hk45 : ∀ (a0 : Nat) (a2 : Int32) (a3 : Int32) (a4 : Int32) (M : List Ob), k45 a0 a2 a3 a4 M = some out → X G t_X11_bestOf [] 45 [some (.ref a0), none, some (.int a2), some (.int a3), some (.int a4)] [] M 0 0 (oI out)) (hk72 : ∀ (a0 : Nat) (a2 : Int32) (a3 : Int32) (M : List Ob), k72 a0 a2 a3 M = some out → X G t_X11_bestOf [] 72 [some (.ref a0), none, some (.int a2), some (.int a3), none] [] M 0 0 (oI out)) (h : f_X11_bestOf_45b fu a0 a2 a3 a4 M k45 k72 = some out) : X G t_X11_bestOf [] 45 [some (.ref a0), none, some (.int a2), some (.int a3), some (.int a4)] [] M 0 0 (oI out) := by
  unfold f_X11_bestOf_45b at h
  refine X.iload (x := a4) (pc' := 47) dX11_bestOf_45 rfl rfl ?_
  refine X.aload_n (x := a0) (pc' := 48) dX11_bestOf_47 rfl rfl rfl ?_
  obtain ⟨v1, e2, h⟩ := bindE h
  refine X.getf (pc' := 51) dX11_bestOf_48 rfl fq_X11_259 (gI_spec e2) ?_
  refine X.icmp_ge (tgt := 72) (pc' := 54) dX11_bestOf_51 (by decide) rfl (fun hc => ?_) (fun hc => ?_)
  · rw [if_pos hc] at h
    refine X.sub (L := [some (.ref a0), none, some (.int a2), some (.int a3), none]) ?_ (⟨rfl, ⟨rfl, ⟨rfl, trivial⟩⟩⟩)
    exact hk72 _ _ _ _ h
  · rw [if_neg hc] at h
    refine X.iload_n (x := a3) (pc' := 55) dX11_bestOf_54 rfl rfl rfl ?_
    refine X.iconst (v := 1) (pc' := 56) dX11_bestOf_55 rfl (by decide) ?_
    refine X.aload_n (x := a0) (pc' := 57) dX11_bestOf_56 rfl rfl rfl ?_
    obtain ⟨r3, e4, h⟩ := bindE h
    refine X.getf (pc' := 60) dX11_bestOf_57 rfl fq_X11_32 (gP_spec e4) ?_
    refine X.iload (x := a4) (pc' := 62) dX11_bestOf_60 rfl rfl ?_
    obtain ⟨v6, e5, h⟩ := bindE h
    refine X.iald (pc' := 63) dX11_bestOf_62 rfl e5 ?_
    refine X.ishl (pc' := 64) dX11_bestOf_63 rfl ?_
    refine X.ior (pc' := 65) dX11_bestOf_64 rfl ?_
    refine X.istore_n (L' := [some (.ref a0), none, some (.int a2), some (.int (a3 ||| (1 <<< (v6 &&& 31)))), some (.int a4)]) (pc' := 66) dX11_bestOf_65 rfl rfl (Nat.le_of_ble_eq_true rfl) rfl ?_
    refine X.iinc (v := (a4 + 1)) (L' := [some (.ref a0), none, some (.int a2), some (.int (a3 ||| (1 <<< (v6 &&& 31)))), some (.int (a4 + 1))]) (pc' := 69) dX11_bestOf_66 rfl rfl (congrArg (fun y => a4 + y) (show Int32.ofInt 1 = 1 by decide)) (Nat.le_of_ble_eq_true rfl) rfl ?_
    refine X.goto (pc' := 45) dX11_bestOf_69 (by decide) ?_
    exact hk45 _ _ _ _ _ h
def f_X11_bestOf_45 (fu : Nat) (k72 : Nat → Int32 → Int32 → List Ob → Option (Int32 × List Ob)) : Nat → Nat → Int32 → Int32 → Int32 → List Ob → Option (Int32 × List Ob)
  | 0, _, _, _, _, _ => none
  | n + 1, a0, a2, a3, a4, M => f_X11_bestOf_45b fu a0 a2 a3 a4 M (fun a0 a2 a3 a4 M => f_X11_bestOf_45 fu k72 n a0 a2 a3 a4 M) k72
theorem ok_X11_bestOf_45 {G : GT} {fu : Nat} {out : Int32 × List Ob} {k72 : Nat → Int32 → Int32 → List Ob → Option (Int32 × List Ob)} (hk72 : ∀ (a0 : Nat) (a2 : Int32) (a3 : Int32) (M : List Ob), k72 a0 a2 a3 M = some out → X G t_X11_bestOf [] 72 [some (.ref a0), none, some (.int a2), some (.int a3), none] [] M 0 0 (oI out)) : ∀ (n : Nat) (a0 : Nat) (a2 : Int32) (a3 : Int32) (a4 : Int32) (M : List Ob), f_X11_bestOf_45 fu k72 n a0 a2 a3 a4 M = some out → X G t_X11_bestOf [] 45 [some (.ref a0), none, some (.int a2), some (.int a3), some (.int a4)] [] M 0 0 (oI out) := by
  intro n
  induction n with
  | zero =>
    intro a0 a2 a3 a4 M h
    unfold f_X11_bestOf_45 at h
    cases h
  | succ n ih =>
    intro a0 a2 a3 a4 M h
    unfold f_X11_bestOf_45 at h
    exact ok_X11_bestOf_45b ih hk72 h
def f_X11_bestOf_72 (fu : Nat) (a0 : Nat) (a2 : Int32) (a3 : Int32) (M : List Ob) : Option (Int32 × List Ob) :=
  (hasO M a0 11).bind fun _ =>
  bd2 (f_X11_numberOf fu a0 a3 a2 M) fun v1 M2 =>
  some (v1, M2)
set_option maxHeartbeats 4000000 in
theorem ok_X11_bestOf_72 {G : GT} {fu : Nat} {out : Int32 × List Ob} {a0 : Nat} {a2 : Int32} {a3 : Int32} {M : List Ob} (h : f_X11_bestOf_72 fu a0 a2 a3 M = some out) : X G t_X11_bestOf [] 72 [some (.ref a0), none, some (.int a2), some (.int a3), none] [] M 0 0 (oI out) := by
  unfold f_X11_bestOf_72 at h
  refine X.aload_n (x := a0) (pc' := 73) dX11_bestOf_72 rfl rfl rfl ?_
  refine X.iload_n (x := a3) (pc' := 74) dX11_bestOf_73 rfl rfl rfl ?_
  refine X.iload_n (x := a2) (pc' := 75) dX11_bestOf_74 rfl rfl rfl ?_
  obtain ⟨⟨⟩, e4, h⟩ := bindE h
  obtain ⟨v1, M2, e3, h⟩ := bd2E h
  refine X.callV (b := a0) (v := some (.int v1)) (As := [.int a3, .int a2]) (st := []) (M' := M2) (pc' := 78) dX11_bestOf_75 rfl cl_X11_244 mi_X11_numberOf me_X11_numberOf mr_X11_numberOf e4 ⟨⟨Nat.le_of_ble_eq_true rfl, Nat.le_of_ble_eq_true rfl⟩, Nat.le_of_ble_eq_true rfl, Nat.le_of_ble_eq_true rfl⟩ rfl (Nat.le_of_ble_eq_true rfl) (ok_X11_numberOf (G := zs G) e3) ?_
  show X G t_X11_bestOf [] 78 [some (.ref a0), none, some (.int a2), some (.int a3), none] [.int v1] M2 0 0 _
  cases h
  exact X.iret (ty := .int) dX11_bestOf_78 rfl rfl (Nat.le_of_ble_eq_true rfl) (Nat.le_of_ble_eq_true rfl) rfl
def f_X11_bestOf_28 (fu : Nat) (a0 : Nat) (a2 : Int32) (b0 : Nat) (b1 : Int32) (M : List Ob) : Option (Int32 × List Ob) :=
  (pF M b0 11 4 (.int b1)).bind fun M1 =>
  (gI M1 a0 11 4).bind fun v3 =>
  if v3 ≤ 0 then (f_X11_bestOf_45 fu (fun x5 x6 x7 M8 => f_X11_bestOf_72 fu x5 x6 x7 M8) fu a0 a2 0 0 M1)
  else (some (0, M1))
set_option maxHeartbeats 4000000 in
theorem ok_X11_bestOf_28 {G : GT} {fu : Nat} {out : Int32 × List Ob} {a0 : Nat} {a2 : Int32} {b0 : Nat} {b1 : Int32} {M : List Ob} (h : f_X11_bestOf_28 fu a0 a2 b0 b1 M = some out) : X G t_X11_bestOf [] 28 [some (.ref a0), none, some (.int a2), none, none] [.int b1, .ref b0] M 0 0 (oI out) := by
  unfold f_X11_bestOf_28 at h
  obtain ⟨M1, e2, h⟩ := bindE h
  refine X.putf (pc' := 31) dX11_bestOf_28 rfl fq_X11_56 rfl rfl e2 ?_
  refine X.aload_n (x := a0) (pc' := 32) dX11_bestOf_31 rfl rfl rfl ?_
  obtain ⟨v3, e4, h⟩ := bindE h
  refine X.getf (pc' := 35) dX11_bestOf_32 rfl fq_X11_56 (gI_spec e4) ?_
  refine X.if_le (tgt := 40) (pc' := 38) dX11_bestOf_35 (by decide) rfl (fun hc => ?_) (fun hc => ?_)
  · rw [if_pos hc] at h
    refine X.iconst (v := 0) (pc' := 41) dX11_bestOf_40 rfl (by decide) ?_
    refine X.istore_n (L' := [some (.ref a0), none, some (.int a2), some (.int 0), none]) (pc' := 42) dX11_bestOf_41 rfl rfl (Nat.le_of_ble_eq_true rfl) rfl ?_
    refine X.iconst (v := 0) (pc' := 43) dX11_bestOf_42 rfl (by decide) ?_
    refine X.istore (L' := [some (.ref a0), none, some (.int a2), some (.int 0), some (.int 0)]) (pc' := 45) dX11_bestOf_43 rfl (Nat.le_of_ble_eq_true rfl) rfl ?_
    refine ok_X11_bestOf_45 ?_ fu _ _ _ _ _ h
    · intro x5 x6 x7 M8 h
      exact ok_X11_bestOf_72 h
  · rw [if_neg hc] at h
    refine X.iconst (v := 0) (pc' := 39) dX11_bestOf_38 rfl (by decide) ?_
    cases h
    exact X.iret (ty := .int) dX11_bestOf_39 rfl rfl (Nat.le_of_ble_eq_true rfl) (Nat.le_of_ble_eq_true rfl) rfl
def f_X11_bestOf (fu : Nat) (a0 : Nat) (a1 : Int32) (a2 : Int32) (M : List Ob) : Option (Int32 × List Ob) :=
  bd2 (f_X11_isIn fu a2 0 5 M) fun v1 M2 =>
  if v1 = 0 then (f_X11_bestOf_28 fu a0 a2 a0 1 M2)
  else ((hasO M2 a0 11).bind fun _ =>
  bd2 (f_X11_walksAll fu a0 a1 0 M2) fun v5 M6 =>
  if v5 = 0 then (f_X11_bestOf_28 fu a0 a2 a0 2 M6)
  else (f_X11_bestOf_28 fu a0 a2 a0 0 M6))
set_option maxHeartbeats 4000000 in
theorem ok_X11_bestOf {G : GT} {fu : Nat} {a0 : Nat} {a1 : Int32} {a2 : Int32} {M : List Ob} {out : Int32 × List Ob} (h : f_X11_bestOf fu a0 a1 a2 M = some out) : Sp G t_X11_bestOf [.ref a0, .int a1, .int a2] M (oI out) := by
  refine Sp.of rfl (by decide +kernel) (cat_all rfl) (Nat.le_of_ble_eq_true rfl) ?_
  show X G t_X11_bestOf [] 0 [some (.ref a0), some (.int a1), some (.int a2), none, none] [] M 0 0 (oI out)
  unfold f_X11_bestOf at h
  refine X.aload_n (x := a0) (pc' := 1) dX11_bestOf_0 rfl rfl rfl ?_
  refine X.iload_n (x := a2) (pc' := 2) dX11_bestOf_1 rfl rfl rfl ?_
  refine X.iconst (v := 0) (pc' := 3) dX11_bestOf_2 rfl (by decide) ?_
  refine X.iconst (v := 5) (pc' := 4) dX11_bestOf_3 rfl (by decide) ?_
  obtain ⟨v1, M2, e3, h⟩ := bd2E h
  refine X.callS (v := some (.int v1)) (As := [.int a2, .int 0, .int 5]) (st := [.ref a0]) (M' := M2) (pc' := 7) dX11_bestOf_4 rfl cl_X11_72 ms_X11_isIn ⟨⟨Nat.le_of_ble_eq_true rfl, Nat.le_of_ble_eq_true rfl⟩, Nat.le_of_ble_eq_true rfl, Nat.le_of_ble_eq_true rfl⟩ rfl (Nat.le_of_ble_eq_true rfl) (ok_X11_isIn (G := zs G) e3) ?_
  show X G t_X11_bestOf [] 7 [some (.ref a0), some (.int a1), some (.int a2), none, none] [.int v1, .ref a0] M2 0 0 _
  refine X.if_ne (tgt := 14) (pc' := 10) dX11_bestOf_7 (by decide) rfl (fun hc => ?_) (fun hc => ?_)
  · rw [if_neg hc] at h
    refine X.aload_n (x := a0) (pc' := 15) dX11_bestOf_14 rfl rfl rfl ?_
    refine X.iload_n (x := a1) (pc' := 16) dX11_bestOf_15 rfl rfl rfl ?_
    refine X.iconst (v := 0) (pc' := 17) dX11_bestOf_16 rfl (by decide) ?_
    obtain ⟨⟨⟩, e8, h⟩ := bindE h
    obtain ⟨v5, M6, e7, h⟩ := bd2E h
    refine X.callV (b := a0) (v := some (.int v5)) (As := [.int a1, .int 0]) (st := [.ref a0]) (M' := M6) (pc' := 20) dX11_bestOf_17 rfl cl_X11_183 mi_X11_walksAll me_X11_walksAll mr_X11_walksAll e8 ⟨⟨Nat.le_of_ble_eq_true rfl, Nat.le_of_ble_eq_true rfl⟩, Nat.le_of_ble_eq_true rfl, Nat.le_of_ble_eq_true rfl⟩ rfl (Nat.le_of_ble_eq_true rfl) (ok_X11_walksAll (G := zs G) e7) ?_
    show X G t_X11_bestOf [] 20 [some (.ref a0), some (.int a1), some (.int a2), none, none] [.int v5, .ref a0] M6 0 0 _
    refine X.if_ne (tgt := 27) (pc' := 23) dX11_bestOf_20 (by decide) rfl (fun hc => ?_) (fun hc => ?_)
    · rw [if_neg hc] at h
      refine X.iconst (v := 0) (pc' := 28) dX11_bestOf_27 rfl (by decide) ?_
      refine X.sub (L := [some (.ref a0), none, some (.int a2), none, none]) ?_ (⟨rfl, ⟨rfl, trivial⟩⟩)
      exact ok_X11_bestOf_28 h
    · rw [if_pos hc] at h
      refine X.iconst (v := 2) (pc' := 24) dX11_bestOf_23 rfl (by decide) ?_
      refine X.goto (pc' := 28) dX11_bestOf_24 (by decide) ?_
      refine X.sub (L := [some (.ref a0), none, some (.int a2), none, none]) ?_ (⟨rfl, ⟨rfl, trivial⟩⟩)
      exact ok_X11_bestOf_28 h
  · rw [if_pos hc] at h
    refine X.iconst (v := 1) (pc' := 11) dX11_bestOf_10 rfl (by decide) ?_
    refine X.goto (pc' := 28) dX11_bestOf_11 (by decide) ?_
    refine X.sub (L := [some (.ref a0), none, some (.int a2), none, none]) ?_ (⟨rfl, ⟨rfl, trivial⟩⟩)
    exact ok_X11_bestOf_28 h
def f_X11_robust (fu : Nat) (a0 : Nat) (a1 : Int32) (M : List Ob) : Option (Int32 × List Ob) :=
  (hasO M a0 11).bind fun _ =>
  bd2 (f_X11_bestOf fu a0 2 a1 M) fun v1 M2 =>
  some (v1, M2)
set_option maxHeartbeats 4000000 in
theorem ok_X11_robust {G : GT} {fu : Nat} {a0 : Nat} {a1 : Int32} {M : List Ob} {out : Int32 × List Ob} (h : f_X11_robust fu a0 a1 M = some out) : Sp G t_X11_robust [.ref a0, .int a1] M (oI out) := by
  refine Sp.of rfl (by decide +kernel) (cat_all rfl) (Nat.le_of_ble_eq_true rfl) ?_
  show X G t_X11_robust [] 0 [some (.ref a0), some (.int a1)] [] M 0 0 (oI out)
  unfold f_X11_robust at h
  refine X.aload_n (x := a0) (pc' := 1) dX11_robust_0 rfl rfl rfl ?_
  refine X.iconst (v := 2) (pc' := 2) dX11_robust_1 rfl (by decide) ?_
  refine X.iload_n (x := a1) (pc' := 3) dX11_robust_2 rfl rfl rfl ?_
  obtain ⟨⟨⟩, e4, h⟩ := bindE h
  obtain ⟨v1, M2, e3, h⟩ := bd2E h
  refine X.callV (b := a0) (v := some (.int v1)) (As := [.int 2, .int a1]) (st := []) (M' := M2) (pc' := 6) dX11_robust_3 rfl cl_X11_269 mi_X11_bestOf me_X11_bestOf mr_X11_bestOf e4 ⟨⟨Nat.le_of_ble_eq_true rfl, Nat.le_of_ble_eq_true rfl⟩, Nat.le_of_ble_eq_true rfl, Nat.le_of_ble_eq_true rfl⟩ rfl (Nat.le_of_ble_eq_true rfl) (ok_X11_bestOf (G := zs G) e3) ?_
  show X G t_X11_robust [] 6 [some (.ref a0), some (.int a1)] [.int v1] M2 0 0 _
  cases h
  exact X.iret (ty := .int) dX11_robust_6 rfl rfl (Nat.le_of_ble_eq_true rfl) (Nat.le_of_ble_eq_true rfl) rfl
def f_X11_calm (fu : Nat) (a0 : Nat) (a1 : Int32) (M : List Ob) : Option (Int32 × List Ob) :=
  (hasO M a0 11).bind fun _ =>
  bd2 (f_X11_bestOf fu a0 3 a1 M) fun v1 M2 =>
  some (v1, M2)
set_option maxHeartbeats 4000000 in
theorem ok_X11_calm {G : GT} {fu : Nat} {a0 : Nat} {a1 : Int32} {M : List Ob} {out : Int32 × List Ob} (h : f_X11_calm fu a0 a1 M = some out) : Sp G t_X11_calm [.ref a0, .int a1] M (oI out) := by
  refine Sp.of rfl (by decide +kernel) (cat_all rfl) (Nat.le_of_ble_eq_true rfl) ?_
  show X G t_X11_calm [] 0 [some (.ref a0), some (.int a1)] [] M 0 0 (oI out)
  unfold f_X11_calm at h
  refine X.aload_n (x := a0) (pc' := 1) dX11_calm_0 rfl rfl rfl ?_
  refine X.iconst (v := 3) (pc' := 2) dX11_calm_1 rfl (by decide) ?_
  refine X.iload_n (x := a1) (pc' := 3) dX11_calm_2 rfl rfl rfl ?_
  obtain ⟨⟨⟩, e4, h⟩ := bindE h
  obtain ⟨v1, M2, e3, h⟩ := bd2E h
  refine X.callV (b := a0) (v := some (.int v1)) (As := [.int 3, .int a1]) (st := []) (M' := M2) (pc' := 6) dX11_calm_3 rfl cl_X11_269 mi_X11_bestOf me_X11_bestOf mr_X11_bestOf e4 ⟨⟨Nat.le_of_ble_eq_true rfl, Nat.le_of_ble_eq_true rfl⟩, Nat.le_of_ble_eq_true rfl, Nat.le_of_ble_eq_true rfl⟩ rfl (Nat.le_of_ble_eq_true rfl) (ok_X11_bestOf (G := zs G) e3) ?_
  show X G t_X11_calm [] 6 [some (.ref a0), some (.int a1)] [.int v1] M2 0 0 _
  cases h
  exact X.iret (ty := .int) dX11_calm_6 rfl rfl (Nat.le_of_ble_eq_true rfl) (Nat.le_of_ble_eq_true rfl) rfl
def f_X11_bestArc_43 (fu : Nat) (a0 : Nat) (a2 : Int32) (b0 : Nat) (b1 : Int32) (M : List Ob) : Option (Int32 × List Ob) :=
  (pF M b0 11 4 (.int b1)).bind fun M1 =>
  (gI M1 a0 11 4).bind fun v3 =>
  if v3 ≤ 0 then ((gP M1 a0 11 18).bind fun r5 =>
  (aI M1 r5 13 a2).bind fun v8 =>
  some (v8, M1))
  else (some (0, M1))
set_option maxHeartbeats 4000000 in
theorem ok_X11_bestArc_43 {G : GT} {fu : Nat} {out : Int32 × List Ob} {a0 : Nat} {a2 : Int32} {b0 : Nat} {b1 : Int32} {M : List Ob} (h : f_X11_bestArc_43 fu a0 a2 b0 b1 M = some out) : X G t_X11_bestArc [] 43 [some (.ref a0), none, some (.int a2), none] [.int b1, .ref b0] M 0 0 (oI out) := by
  unfold f_X11_bestArc_43 at h
  obtain ⟨M1, e2, h⟩ := bindE h
  refine X.putf (pc' := 46) dX11_bestArc_43 rfl fq_X11_56 rfl rfl e2 ?_
  refine X.aload_n (x := a0) (pc' := 47) dX11_bestArc_46 rfl rfl rfl ?_
  obtain ⟨v3, e4, h⟩ := bindE h
  refine X.getf (pc' := 50) dX11_bestArc_47 rfl fq_X11_56 (gI_spec e4) ?_
  refine X.if_le (tgt := 57) (pc' := 53) dX11_bestArc_50 (by decide) rfl (fun hc => ?_) (fun hc => ?_)
  · rw [if_pos hc] at h
    refine X.aload_n (x := a0) (pc' := 58) dX11_bestArc_57 rfl rfl rfl ?_
    obtain ⟨r5, e6, h⟩ := bindE h
    refine X.getf (pc' := 61) dX11_bestArc_58 rfl fq_X11_32 (gP_spec e6) ?_
    refine X.iload_n (x := a2) (pc' := 62) dX11_bestArc_61 rfl rfl rfl ?_
    obtain ⟨v8, e7, h⟩ := bindE h
    refine X.iald (pc' := 63) dX11_bestArc_62 rfl e7 ?_
    cases h
    exact X.iret (ty := .int) dX11_bestArc_63 rfl rfl (Nat.le_of_ble_eq_true rfl) (Nat.le_of_ble_eq_true rfl) rfl
  · rw [if_neg hc] at h
    refine X.iconst (v := 0) (pc' := 54) dX11_bestArc_53 rfl (by decide) ?_
    refine X.goto (pc' := 63) dX11_bestArc_54 (by decide) ?_
    cases h
    exact X.iret (ty := .int) dX11_bestArc_63 rfl rfl (Nat.le_of_ble_eq_true rfl) (Nat.le_of_ble_eq_true rfl) rfl
def f_X11_bestArc_25 (fu : Nat) (a0 : Nat) (a2 : Int32) (b0 : Int32) (M : List Ob) : Option (Int32 × List Ob) :=
  bd2 (f_X11_isIn fu a2 0 (b0 - 1) M) fun v1 M2 =>
  if v1 = 0 then (f_X11_bestArc_43 fu a0 a2 a0 1 M2)
  else (f_X11_bestArc_43 fu a0 a2 a0 0 M2)
set_option maxHeartbeats 4000000 in
theorem ok_X11_bestArc_25 {G : GT} {fu : Nat} {out : Int32 × List Ob} {a0 : Nat} {a2 : Int32} {b0 : Int32} {M : List Ob} (h : f_X11_bestArc_25 fu a0 a2 b0 M = some out) : X G t_X11_bestArc [] 25 [some (.ref a0), none, some (.int a2), none] [.int b0] M 0 0 (oI out) := by
  unfold f_X11_bestArc_25 at h
  refine X.istore_n (L' := [some (.ref a0), none, some (.int a2), some (.int b0)]) (pc' := 26) dX11_bestArc_25 rfl rfl (Nat.le_of_ble_eq_true rfl) rfl ?_
  refine X.aload_n (x := a0) (pc' := 27) dX11_bestArc_26 rfl rfl rfl ?_
  refine X.iload_n (x := a2) (pc' := 28) dX11_bestArc_27 rfl rfl rfl ?_
  refine X.iconst (v := 0) (pc' := 29) dX11_bestArc_28 rfl (by decide) ?_
  refine X.iload_n (x := b0) (pc' := 30) dX11_bestArc_29 rfl rfl rfl ?_
  refine X.iconst (v := 1) (pc' := 31) dX11_bestArc_30 rfl (by decide) ?_
  refine X.isub (pc' := 32) dX11_bestArc_31 rfl ?_
  obtain ⟨v1, M2, e3, h⟩ := bd2E h
  refine X.callS (v := some (.int v1)) (As := [.int a2, .int 0, .int (b0 - 1)]) (st := [.ref a0]) (M' := M2) (pc' := 35) dX11_bestArc_32 rfl cl_X11_72 ms_X11_isIn ⟨⟨Nat.le_of_ble_eq_true rfl, Nat.le_of_ble_eq_true rfl⟩, Nat.le_of_ble_eq_true rfl, Nat.le_of_ble_eq_true rfl⟩ rfl (Nat.le_of_ble_eq_true rfl) (ok_X11_isIn (G := zs G) e3) ?_
  show X G t_X11_bestArc [] 35 [some (.ref a0), none, some (.int a2), some (.int b0)] [.int v1, .ref a0] M2 0 0 _
  refine X.if_eq (tgt := 42) (pc' := 38) dX11_bestArc_35 (by decide) rfl (fun hc => ?_) (fun hc => ?_)
  · rw [if_pos hc] at h
    refine X.iconst (v := 1) (pc' := 43) dX11_bestArc_42 rfl (by decide) ?_
    refine X.sub (L := [some (.ref a0), none, some (.int a2), none]) ?_ (⟨rfl, ⟨rfl, trivial⟩⟩)
    exact ok_X11_bestArc_43 h
  · rw [if_neg hc] at h
    refine X.iconst (v := 0) (pc' := 39) dX11_bestArc_38 rfl (by decide) ?_
    refine X.goto (pc' := 43) dX11_bestArc_39 (by decide) ?_
    refine X.sub (L := [some (.ref a0), none, some (.int a2), none]) ?_ (⟨rfl, ⟨rfl, trivial⟩⟩)
    exact ok_X11_bestArc_43 h
def f_X11_bestArc_10 (fu : Nat) (a0 : Nat) (a2 : Int32) (b0 : Nat) (b1 : Int32) (M : List Ob) : Option (Int32 × List Ob) :=
  (hasO M b0 11).bind fun _ =>
  bd2 (f_X11_walksAll fu b0 b1 0 M) fun v1 M2 =>
  if v1 = 0 then (f_X11_bestArc_25 fu a0 a2 0 M2)
  else ((gI M2 a0 11 20).bind fun v5 =>
  f_X11_bestArc_25 fu a0 a2 v5 M2)
set_option maxHeartbeats 4000000 in
theorem ok_X11_bestArc_10 {G : GT} {fu : Nat} {out : Int32 × List Ob} {a0 : Nat} {a2 : Int32} {b0 : Nat} {b1 : Int32} {M : List Ob} (h : f_X11_bestArc_10 fu a0 a2 b0 b1 M = some out) : X G t_X11_bestArc [] 10 [some (.ref a0), none, some (.int a2), none] [.int b1, .ref b0] M 0 0 (oI out) := by
  unfold f_X11_bestArc_10 at h
  refine X.iconst (v := 0) (pc' := 11) dX11_bestArc_10 rfl (by decide) ?_
  obtain ⟨⟨⟩, e4, h⟩ := bindE h
  obtain ⟨v1, M2, e3, h⟩ := bd2E h
  refine X.callV (b := b0) (v := some (.int v1)) (As := [.int b1, .int 0]) (st := []) (M' := M2) (pc' := 14) dX11_bestArc_11 rfl cl_X11_183 mi_X11_walksAll me_X11_walksAll mr_X11_walksAll e4 ⟨⟨Nat.le_of_ble_eq_true rfl, Nat.le_of_ble_eq_true rfl⟩, Nat.le_of_ble_eq_true rfl, Nat.le_of_ble_eq_true rfl⟩ rfl (Nat.le_of_ble_eq_true rfl) (ok_X11_walksAll (G := zs G) e3) ?_
  show X G t_X11_bestArc [] 14 [some (.ref a0), none, some (.int a2), none] [.int v1] M2 0 0 _
  refine X.if_ne (tgt := 21) (pc' := 17) dX11_bestArc_14 (by decide) rfl (fun hc => ?_) (fun hc => ?_)
  · rw [if_neg hc] at h
    refine X.aload_n (x := a0) (pc' := 22) dX11_bestArc_21 rfl rfl rfl ?_
    obtain ⟨v5, e6, h⟩ := bindE h
    refine X.getf (pc' := 25) dX11_bestArc_22 rfl fq_X11_259 (gI_spec e6) ?_
    exact ok_X11_bestArc_25 h
  · rw [if_pos hc] at h
    refine X.iconst (v := 0) (pc' := 18) dX11_bestArc_17 rfl (by decide) ?_
    refine X.goto (pc' := 25) dX11_bestArc_18 (by decide) ?_
    exact ok_X11_bestArc_25 h
def f_X11_bestArc (fu : Nat) (a0 : Nat) (a1 : Int32) (a2 : Int32) (M : List Ob) : Option (Int32 × List Ob) :=
  if a1 = 0 then (f_X11_bestArc_10 fu a0 a2 a0 2 M)
  else (f_X11_bestArc_10 fu a0 a2 a0 3 M)
set_option maxHeartbeats 4000000 in
theorem ok_X11_bestArc {G : GT} {fu : Nat} {a0 : Nat} {a1 : Int32} {a2 : Int32} {M : List Ob} {out : Int32 × List Ob} (h : f_X11_bestArc fu a0 a1 a2 M = some out) : Sp G t_X11_bestArc [.ref a0, .int a1, .int a2] M (oI out) := by
  refine Sp.of rfl (by decide +kernel) (cat_all rfl) (Nat.le_of_ble_eq_true rfl) ?_
  show X G t_X11_bestArc [] 0 [some (.ref a0), some (.int a1), some (.int a2), none] [] M 0 0 (oI out)
  unfold f_X11_bestArc at h
  refine X.aload_n (x := a0) (pc' := 1) dX11_bestArc_0 rfl rfl rfl ?_
  refine X.iload_n (x := a1) (pc' := 2) dX11_bestArc_1 rfl rfl rfl ?_
  refine X.if_eq (tgt := 9) (pc' := 5) dX11_bestArc_2 (by decide) rfl (fun hc => ?_) (fun hc => ?_)
  · rw [if_pos hc] at h
    refine X.iconst (v := 2) (pc' := 10) dX11_bestArc_9 rfl (by decide) ?_
    refine X.sub (L := [some (.ref a0), none, some (.int a2), none]) ?_ (⟨rfl, ⟨rfl, trivial⟩⟩)
    exact ok_X11_bestArc_10 h
  · rw [if_neg hc] at h
    refine X.iconst (v := 3) (pc' := 6) dX11_bestArc_5 rfl (by decide) ?_
    refine X.goto (pc' := 10) dX11_bestArc_6 (by decide) ?_
    refine X.sub (L := [some (.ref a0), none, some (.int a2), none]) ?_ (⟨rfl, ⟨rfl, trivial⟩⟩)
    exact ok_X11_bestArc_10 h
def f_X11_within (fu : Nat) (a0 : Nat) (a1 : Int32) (M : List Ob) : Option (Int32 × List Ob) :=
  (pF M a0 11 4 (.int 0)).bind fun M1 =>
  (hasO M1 a0 11).bind fun _ =>
  bd2 (f_X11_walksAll fu a0 1 a1 M1) fun v3 M4 =>
  some (v3, M4)
set_option maxHeartbeats 4000000 in
theorem ok_X11_within {G : GT} {fu : Nat} {a0 : Nat} {a1 : Int32} {M : List Ob} {out : Int32 × List Ob} (h : f_X11_within fu a0 a1 M = some out) : Sp G t_X11_within [.ref a0, .int a1] M (oI out) := by
  refine Sp.of rfl (by decide +kernel) (cat_all rfl) (Nat.le_of_ble_eq_true rfl) ?_
  show X G t_X11_within [] 0 [some (.ref a0), some (.int a1)] [] M 0 0 (oI out)
  unfold f_X11_within at h
  refine X.aload_n (x := a0) (pc' := 1) dX11_within_0 rfl rfl rfl ?_
  refine X.iconst (v := 0) (pc' := 2) dX11_within_1 rfl (by decide) ?_
  obtain ⟨M1, e2, h⟩ := bindE h
  refine X.putf (pc' := 5) dX11_within_2 rfl fq_X11_56 rfl rfl e2 ?_
  refine X.aload_n (x := a0) (pc' := 6) dX11_within_5 rfl rfl rfl ?_
  refine X.iconst (v := 1) (pc' := 7) dX11_within_6 rfl (by decide) ?_
  refine X.iload_n (x := a1) (pc' := 8) dX11_within_7 rfl rfl rfl ?_
  obtain ⟨⟨⟩, e6, h⟩ := bindE h
  obtain ⟨v3, M4, e5, h⟩ := bd2E h
  refine X.callV (b := a0) (v := some (.int v3)) (As := [.int 1, .int a1]) (st := []) (M' := M4) (pc' := 11) dX11_within_8 rfl cl_X11_183 mi_X11_walksAll me_X11_walksAll mr_X11_walksAll e6 ⟨⟨Nat.le_of_ble_eq_true rfl, Nat.le_of_ble_eq_true rfl⟩, Nat.le_of_ble_eq_true rfl, Nat.le_of_ble_eq_true rfl⟩ rfl (Nat.le_of_ble_eq_true rfl) (ok_X11_walksAll (G := zs G) e5) ?_
  show X G t_X11_within [] 11 [some (.ref a0), some (.int a1)] [.int v3] M4 0 0 _
  cases h
  exact X.iret (ty := .int) dX11_within_11 rfl rfl (Nat.le_of_ble_eq_true rfl) (Nat.le_of_ble_eq_true rfl) rfl
def f_X11_gameOf_66 (fu : Nat) (a5 : Int32) (b0 : Int32) (M : List Ob) : Option (Int32 × List Ob) :=
  if a5 ≤ b0 then (some (b0, M))
  else (some (a5, M))
set_option maxHeartbeats 4000000 in
theorem ok_X11_gameOf_66 {G : GT} {fu : Nat} {out : Int32 × List Ob} {a5 : Int32} {b0 : Int32} {M : List Ob} (h : f_X11_gameOf_66 fu a5 b0 M = some out) : X G t_X11_gameOf [] 66 [none, none, none, none, none, some (.int a5), none] [.int b0] M 0 0 (oI out) := by
  unfold f_X11_gameOf_66 at h
  refine X.istore (L' := [none, none, none, none, none, some (.int a5), some (.int b0)]) (pc' := 68) dX11_gameOf_66 rfl (Nat.le_of_ble_eq_true rfl) rfl ?_
  refine X.iload (x := a5) (pc' := 70) dX11_gameOf_68 rfl rfl ?_
  refine X.iload (x := b0) (pc' := 72) dX11_gameOf_70 rfl rfl ?_
  refine X.icmp_le (tgt := 80) (pc' := 75) dX11_gameOf_72 (by decide) rfl (fun hc => ?_) (fun hc => ?_)
  · rw [if_pos hc] at h
    refine X.iload (x := b0) (pc' := 82) dX11_gameOf_80 rfl rfl ?_
    cases h
    exact X.iret (ty := .int) dX11_gameOf_82 rfl rfl (Nat.le_of_ble_eq_true rfl) (Nat.le_of_ble_eq_true rfl) rfl
  · rw [if_neg hc] at h
    refine X.iload (x := a5) (pc' := 77) dX11_gameOf_75 rfl rfl ?_
    refine X.goto (pc' := 82) dX11_gameOf_77 (by decide) ?_
    cases h
    exact X.iret (ty := .int) dX11_gameOf_82 rfl rfl (Nat.le_of_ble_eq_true rfl) (Nat.le_of_ble_eq_true rfl) rfl
def f_X11_gameOf (fu : Nat) (a0 : Nat) (a1 : Nat) (a2 : Int32) (a3 : Int32) (M : List Ob) : Option (Int32 × List Ob) :=
  (hasO M a0 11).bind fun _ =>
  bd2 (f_X11_of fu a0 a2 1 M) fun v1 M2 =>
  (aI M2 a1 13 ((7 * v1) + a3)).bind fun v6 =>
  if v6 < 999999 then ((hasO M2 a0 11).bind fun _ =>
  bd2 (f_X11_of fu a0 a2 2 M2) fun v7 M8 =>
  (aI M8 a1 13 ((7 * v1) + a3)).bind fun v12 =>
  if a3 = 0 then (f_X11_gameOf_66 fu (v7 + v12) 0 M8)
  else ((hasO M8 a0 11).bind fun _ =>
  bd2 (f_X11_of fu a0 a2 2 M8) fun v13 M14 =>
  (hasO M14 a0 11).bind fun _ =>
  bd2 (f_X11_of fu a0 a2 3 M14) fun v17 M18 =>
  (aI M18 a1 13 (((7 * v1) + a3) - 1)).bind fun v22 =>
  f_X11_gameOf_66 fu (v7 + v12) ((v13 + v17) + v22) M18))
  else (some (999999, M2))
set_option maxHeartbeats 4000000 in
theorem ok_X11_gameOf {G : GT} {fu : Nat} {a0 : Nat} {a1 : Nat} {a2 : Int32} {a3 : Int32} {M : List Ob} {out : Int32 × List Ob} (h : f_X11_gameOf fu a0 a1 a2 a3 M = some out) : Sp G t_X11_gameOf [.ref a0, .ref a1, .int a2, .int a3] M (oI out) := by
  refine Sp.of rfl (by decide +kernel) (cat_all rfl) (Nat.le_of_ble_eq_true rfl) ?_
  show X G t_X11_gameOf [] 0 [some (.ref a0), some (.ref a1), some (.int a2), some (.int a3), none, none, none] [] M 0 0 (oI out)
  unfold f_X11_gameOf at h
  refine X.bipush (v := 7) (pc' := 2) dX11_gameOf_0 rfl (by decide) ?_
  refine X.aload_n (x := a0) (pc' := 3) dX11_gameOf_2 rfl rfl rfl ?_
  refine X.iload_n (x := a2) (pc' := 4) dX11_gameOf_3 rfl rfl rfl ?_
  refine X.iconst (v := 1) (pc' := 5) dX11_gameOf_4 rfl (by decide) ?_
  obtain ⟨⟨⟩, e4, h⟩ := bindE h
  obtain ⟨v1, M2, e3, h⟩ := bd2E h
  refine X.callV (b := a0) (v := some (.int v1)) (As := [.int a2, .int 1]) (st := [.int 7]) (M' := M2) (pc' := 8) dX11_gameOf_5 rfl cl_X11_190 mi_X11_of me_X11_of mr_X11_of e4 ⟨⟨Nat.le_of_ble_eq_true rfl, Nat.le_of_ble_eq_true rfl⟩, Nat.le_of_ble_eq_true rfl, Nat.le_of_ble_eq_true rfl⟩ rfl (Nat.le_of_ble_eq_true rfl) (ok_X11_of (G := zs G) e3) ?_
  show X G t_X11_gameOf [] 8 [some (.ref a0), some (.ref a1), some (.int a2), some (.int a3), none, none, none] [.int v1, .int 7] M2 0 0 _
  refine X.imul (pc' := 9) dX11_gameOf_8 rfl ?_
  refine X.iload_n (x := a3) (pc' := 10) dX11_gameOf_9 rfl rfl rfl ?_
  refine X.iadd (pc' := 11) dX11_gameOf_10 rfl ?_
  refine X.istore (L' := [some (.ref a0), some (.ref a1), some (.int a2), some (.int a3), some (.int ((7 * v1) + a3)), none, none]) (pc' := 13) dX11_gameOf_11 rfl (Nat.le_of_ble_eq_true rfl) rfl ?_
  refine X.aload_n (x := a1) (pc' := 14) dX11_gameOf_13 rfl rfl rfl ?_
  refine X.iload (x := ((7 * v1) + a3)) (pc' := 16) dX11_gameOf_14 rfl rfl ?_
  obtain ⟨v6, e5, h⟩ := bindE h
  refine X.iald (pc' := 17) dX11_gameOf_16 rfl e5 ?_
  refine X.ldc (v := 999999) (pc' := 19) dX11_gameOf_17 rfl (TBg_of 1523 (by decide +kernel) rfl) ?_
  refine X.icmp_lt (tgt := 25) (pc' := 22) dX11_gameOf_19 (by decide) rfl (fun hc => ?_) (fun hc => ?_)
  · rw [if_pos hc] at h
    refine X.aload_n (x := a0) (pc' := 26) dX11_gameOf_25 rfl rfl rfl ?_
    refine X.iload_n (x := a2) (pc' := 27) dX11_gameOf_26 rfl rfl rfl ?_
    refine X.iconst (v := 2) (pc' := 28) dX11_gameOf_27 rfl (by decide) ?_
    obtain ⟨⟨⟩, e10, h⟩ := bindE h
    obtain ⟨v7, M8, e9, h⟩ := bd2E h
    refine X.callV (b := a0) (v := some (.int v7)) (As := [.int a2, .int 2]) (st := []) (M' := M8) (pc' := 31) dX11_gameOf_28 rfl cl_X11_190 mi_X11_of me_X11_of mr_X11_of e10 ⟨⟨Nat.le_of_ble_eq_true rfl, Nat.le_of_ble_eq_true rfl⟩, Nat.le_of_ble_eq_true rfl, Nat.le_of_ble_eq_true rfl⟩ rfl (Nat.le_of_ble_eq_true rfl) (ok_X11_of (G := zs G) e9) ?_
    show X G t_X11_gameOf [] 31 [some (.ref a0), some (.ref a1), some (.int a2), some (.int a3), some (.int ((7 * v1) + a3)), none, none] [.int v7] M8 0 0 _
    refine X.aload_n (x := a1) (pc' := 32) dX11_gameOf_31 rfl rfl rfl ?_
    refine X.iload (x := ((7 * v1) + a3)) (pc' := 34) dX11_gameOf_32 rfl rfl ?_
    obtain ⟨v12, e11, h⟩ := bindE h
    refine X.iald (pc' := 35) dX11_gameOf_34 rfl e11 ?_
    refine X.iadd (pc' := 36) dX11_gameOf_35 rfl ?_
    refine X.istore (L' := [some (.ref a0), some (.ref a1), some (.int a2), some (.int a3), some (.int ((7 * v1) + a3)), some (.int (v7 + v12)), none]) (pc' := 38) dX11_gameOf_36 rfl (Nat.le_of_ble_eq_true rfl) rfl ?_
    refine X.iload_n (x := a3) (pc' := 39) dX11_gameOf_38 rfl rfl rfl ?_
    refine X.if_ne (tgt := 46) (pc' := 42) dX11_gameOf_39 (by decide) rfl (fun hc => ?_) (fun hc => ?_)
    · rw [if_neg hc] at h
      refine X.aload_n (x := a0) (pc' := 47) dX11_gameOf_46 rfl rfl rfl ?_
      refine X.iload_n (x := a2) (pc' := 48) dX11_gameOf_47 rfl rfl rfl ?_
      refine X.iconst (v := 2) (pc' := 49) dX11_gameOf_48 rfl (by decide) ?_
      obtain ⟨⟨⟩, e16, h⟩ := bindE h
      obtain ⟨v13, M14, e15, h⟩ := bd2E h
      refine X.callV (b := a0) (v := some (.int v13)) (As := [.int a2, .int 2]) (st := []) (M' := M14) (pc' := 52) dX11_gameOf_49 rfl cl_X11_190 mi_X11_of me_X11_of mr_X11_of e16 ⟨⟨Nat.le_of_ble_eq_true rfl, Nat.le_of_ble_eq_true rfl⟩, Nat.le_of_ble_eq_true rfl, Nat.le_of_ble_eq_true rfl⟩ rfl (Nat.le_of_ble_eq_true rfl) (ok_X11_of (G := zs G) e15) ?_
      show X G t_X11_gameOf [] 52 [some (.ref a0), some (.ref a1), some (.int a2), some (.int a3), some (.int ((7 * v1) + a3)), some (.int (v7 + v12)), none] [.int v13] M14 0 0 _
      refine X.aload_n (x := a0) (pc' := 53) dX11_gameOf_52 rfl rfl rfl ?_
      refine X.iload_n (x := a2) (pc' := 54) dX11_gameOf_53 rfl rfl rfl ?_
      refine X.iconst (v := 3) (pc' := 55) dX11_gameOf_54 rfl (by decide) ?_
      obtain ⟨⟨⟩, e20, h⟩ := bindE h
      obtain ⟨v17, M18, e19, h⟩ := bd2E h
      refine X.callV (b := a0) (v := some (.int v17)) (As := [.int a2, .int 3]) (st := [.int v13]) (M' := M18) (pc' := 58) dX11_gameOf_55 rfl cl_X11_190 mi_X11_of me_X11_of mr_X11_of e20 ⟨⟨Nat.le_of_ble_eq_true rfl, Nat.le_of_ble_eq_true rfl⟩, Nat.le_of_ble_eq_true rfl, Nat.le_of_ble_eq_true rfl⟩ rfl (Nat.le_of_ble_eq_true rfl) (ok_X11_of (G := zs G) e19) ?_
      show X G t_X11_gameOf [] 58 [some (.ref a0), some (.ref a1), some (.int a2), some (.int a3), some (.int ((7 * v1) + a3)), some (.int (v7 + v12)), none] [.int v17, .int v13] M18 0 0 _
      refine X.iadd (pc' := 59) dX11_gameOf_58 rfl ?_
      refine X.aload_n (x := a1) (pc' := 60) dX11_gameOf_59 rfl rfl rfl ?_
      refine X.iload (x := ((7 * v1) + a3)) (pc' := 62) dX11_gameOf_60 rfl rfl ?_
      refine X.iconst (v := 1) (pc' := 63) dX11_gameOf_62 rfl (by decide) ?_
      refine X.isub (pc' := 64) dX11_gameOf_63 rfl ?_
      obtain ⟨v22, e21, h⟩ := bindE h
      refine X.iald (pc' := 65) dX11_gameOf_64 rfl e21 ?_
      refine X.iadd (pc' := 66) dX11_gameOf_65 rfl ?_
      refine X.sub (L := [none, none, none, none, none, some (.int (v7 + v12)), none]) ?_ (⟨rfl, trivial⟩)
      exact ok_X11_gameOf_66 h
    · rw [if_pos hc] at h
      refine X.iconst (v := 0) (pc' := 43) dX11_gameOf_42 rfl (by decide) ?_
      refine X.goto (pc' := 66) dX11_gameOf_43 (by decide) ?_
      refine X.sub (L := [none, none, none, none, none, some (.int (v7 + v12)), none]) ?_ (⟨rfl, trivial⟩)
      exact ok_X11_gameOf_66 h
  · rw [if_neg hc] at h
    refine X.ldc (v := 999999) (pc' := 24) dX11_gameOf_22 rfl (TBg_of 1523 (by decide +kernel) rfl) ?_
    cases h
    exact X.iret (ty := .int) dX11_gameOf_24 rfl rfl (Nat.le_of_ble_eq_true rfl) (Nat.le_of_ble_eq_true rfl) rfl
def f_X11_bestBy_73 (fu : Nat) (a0 : Nat) (a1 : Nat) (a2 : Int32) (a3 : Int32) (a4 : Int32) (a5 : Int32) (M : List Ob) (k6 : Nat → Nat → Int32 → Int32 → Int32 → Int32 → List Ob → Option (Int32 × List Ob)) : Option (Int32 × List Ob) :=
  k6 a0 a1 a2 a3 a4 (a5 + 1) M
set_option maxHeartbeats 4000000 in
theorem ok_X11_bestBy_73 {G : GT} {fu : Nat} {out : Int32 × List Ob} {a0 : Nat} {a1 : Nat} {a2 : Int32} {a3 : Int32} {a4 : Int32} {a5 : Int32} {M : List Ob} {k6 : Nat → Nat → Int32 → Int32 → Int32 → Int32 → List Ob → Option (Int32 × List Ob)} (hk6 : ∀ (a0 : Nat) (a1 : Nat) (a2 : Int32) (a3 : Int32) (a4 : Int32) (a5 : Int32) (M : List Ob), k6 a0 a1 a2 a3 a4 a5 M = some out → X G t_X11_bestBy [] 6 [some (.ref a0), some (.ref a1), some (.int a2), some (.int a3), some (.int a4), some (.int a5)] [] M 0 0 (oI out)) (h : f_X11_bestBy_73 fu a0 a1 a2 a3 a4 a5 M k6 = some out) : X G t_X11_bestBy [] 73 [some (.ref a0), some (.ref a1), some (.int a2), some (.int a3), some (.int a4), some (.int a5)] [] M 0 0 (oI out) := by
  unfold f_X11_bestBy_73 at h
  refine X.iinc (v := (a5 + 1)) (L' := [some (.ref a0), some (.ref a1), some (.int a2), some (.int a3), some (.int a4), some (.int (a5 + 1))]) (pc' := 76) dX11_bestBy_73 rfl rfl (congrArg (fun y => a5 + y) (show Int32.ofInt 1 = 1 by decide)) (Nat.le_of_ble_eq_true rfl) rfl ?_
  refine X.goto (pc' := 6) dX11_bestBy_76 (by decide) ?_
  exact hk6 _ _ _ _ _ _ _ h
def f_X11_bestBy_69 (fu : Nat) (a0 : Nat) (a1 : Nat) (a2 : Int32) (a3 : Int32) (a5 : Int32) (M : List Ob) (k6 : Nat → Nat → Int32 → Int32 → Int32 → Int32 → List Ob → Option (Int32 × List Ob)) : Option (Int32 × List Ob) :=
  f_X11_bestBy_73 fu a0 a1 a2 a3 a5 a5 M k6
set_option maxHeartbeats 4000000 in
theorem ok_X11_bestBy_69 {G : GT} {fu : Nat} {out : Int32 × List Ob} {a0 : Nat} {a1 : Nat} {a2 : Int32} {a3 : Int32} {a5 : Int32} {M : List Ob} {k6 : Nat → Nat → Int32 → Int32 → Int32 → Int32 → List Ob → Option (Int32 × List Ob)} (hk6 : ∀ (a0 : Nat) (a1 : Nat) (a2 : Int32) (a3 : Int32) (a4 : Int32) (a5 : Int32) (M : List Ob), k6 a0 a1 a2 a3 a4 a5 M = some out → X G t_X11_bestBy [] 6 [some (.ref a0), some (.ref a1), some (.int a2), some (.int a3), some (.int a4), some (.int a5)] [] M 0 0 (oI out)) (h : f_X11_bestBy_69 fu a0 a1 a2 a3 a5 M k6 = some out) : X G t_X11_bestBy [] 69 [some (.ref a0), some (.ref a1), some (.int a2), some (.int a3), none, some (.int a5)] [] M 0 0 (oI out) := by
  unfold f_X11_bestBy_69 at h
  refine X.iload (x := a5) (pc' := 71) dX11_bestBy_69 rfl rfl ?_
  refine X.istore (L' := [some (.ref a0), some (.ref a1), some (.int a2), some (.int a3), some (.int a5), some (.int a5)]) (pc' := 73) dX11_bestBy_71 rfl (Nat.le_of_ble_eq_true rfl) rfl ?_
  exact ok_X11_bestBy_73 hk6 h
def f_X11_bestBy_6b (fu : Nat) (a0 : Nat) (a1 : Nat) (a2 : Int32) (a3 : Int32) (a4 : Int32) (a5 : Int32) (M : List Ob) (k6 : Nat → Nat → Int32 → Int32 → Int32 → Int32 → List Ob → Option (Int32 × List Ob)) : Option (Int32 × List Ob) :=
  (gP M a0 11 0).bind fun r1 =>
  (aI M r1 13 4).bind fun v4 =>
  if v4 ≤ a5 then (some (a4, M))
  else ((hasO M a0 11).bind fun _ =>
  bd2 (f_X11_of fu a0 a5 0 M) fun v5 M6 =>
  if v5 = a2 then ((hasO M6 a0 11).bind fun _ =>
  bd2 (f_X11_gameOf fu a0 a1 a5 a3 M6) fun v9 M10 =>
  if v9 < 999999 then (if a4 = (-1) then (f_X11_bestBy_69 fu a0 a1 a2 a3 a5 M10 k6)
  else ((hasO M10 a0 11).bind fun _ =>
  bd2 (f_X11_gameOf fu a0 a1 a5 a3 M10) fun v13 M14 =>
  (hasO M14 a0 11).bind fun _ =>
  bd2 (f_X11_gameOf fu a0 a1 a4 a3 M14) fun v17 M18 =>
  if v17 ≤ v13 then (f_X11_bestBy_73 fu a0 a1 a2 a3 a4 a5 M18 k6)
  else (f_X11_bestBy_69 fu a0 a1 a2 a3 a5 M18 k6)))
  else (f_X11_bestBy_73 fu a0 a1 a2 a3 a4 a5 M10 k6))
  else (f_X11_bestBy_73 fu a0 a1 a2 a3 a4 a5 M6 k6))
set_option maxHeartbeats 4000000 in
theorem ok_X11_bestBy_6b {G : GT} {fu : Nat} {out : Int32 × List Ob} {a0 : Nat} {a1 : Nat} {a2 : Int32} {a3 : Int32} {a4 : Int32} {a5 : Int32} {M : List Ob} {k6 : Nat → Nat → Int32 → Int32 → Int32 → Int32 → List Ob → Option (Int32 × List Ob)} (hk6 : ∀ (a0 : Nat) (a1 : Nat) (a2 : Int32) (a3 : Int32) (a4 : Int32) (a5 : Int32) (M : List Ob), k6 a0 a1 a2 a3 a4 a5 M = some out → X G t_X11_bestBy [] 6 [some (.ref a0), some (.ref a1), some (.int a2), some (.int a3), some (.int a4), some (.int a5)] [] M 0 0 (oI out)) (h : f_X11_bestBy_6b fu a0 a1 a2 a3 a4 a5 M k6 = some out) : X G t_X11_bestBy [] 6 [some (.ref a0), some (.ref a1), some (.int a2), some (.int a3), some (.int a4), some (.int a5)] [] M 0 0 (oI out) := by
  unfold f_X11_bestBy_6b at h
  refine X.iload (x := a5) (pc' := 8) dX11_bestBy_6 rfl rfl ?_
  refine X.aload_n (x := a0) (pc' := 9) dX11_bestBy_8 rfl rfl rfl ?_
  obtain ⟨r1, e2, h⟩ := bindE h
  refine X.getf (pc' := 12) dX11_bestBy_9 rfl fq_X11_7 (gP_spec e2) ?_
  refine X.iconst (v := 4) (pc' := 13) dX11_bestBy_12 rfl (by decide) ?_
  obtain ⟨v4, e3, h⟩ := bindE h
  refine X.iald (pc' := 14) dX11_bestBy_13 rfl e3 ?_
  refine X.icmp_ge (tgt := 79) (pc' := 17) dX11_bestBy_14 (by decide) rfl (fun hc => ?_) (fun hc => ?_)
  · rw [if_pos hc] at h
    refine X.iload (x := a4) (pc' := 81) dX11_bestBy_79 rfl rfl ?_
    cases h
    exact X.iret (ty := .int) dX11_bestBy_81 rfl rfl (Nat.le_of_ble_eq_true rfl) (Nat.le_of_ble_eq_true rfl) rfl
  · rw [if_neg hc] at h
    refine X.aload_n (x := a0) (pc' := 18) dX11_bestBy_17 rfl rfl rfl ?_
    refine X.iload (x := a5) (pc' := 20) dX11_bestBy_18 rfl rfl ?_
    refine X.iconst (v := 0) (pc' := 21) dX11_bestBy_20 rfl (by decide) ?_
    obtain ⟨⟨⟩, e8, h⟩ := bindE h
    obtain ⟨v5, M6, e7, h⟩ := bd2E h
    refine X.callV (b := a0) (v := some (.int v5)) (As := [.int a5, .int 0]) (st := []) (M' := M6) (pc' := 24) dX11_bestBy_21 rfl cl_X11_190 mi_X11_of me_X11_of mr_X11_of e8 ⟨⟨Nat.le_of_ble_eq_true rfl, Nat.le_of_ble_eq_true rfl⟩, Nat.le_of_ble_eq_true rfl, Nat.le_of_ble_eq_true rfl⟩ rfl (Nat.le_of_ble_eq_true rfl) (ok_X11_of (G := zs G) e7) ?_
    show X G t_X11_bestBy [] 24 [some (.ref a0), some (.ref a1), some (.int a2), some (.int a3), some (.int a4), some (.int a5)] [.int v5] M6 0 0 _
    refine X.iload_n (x := a2) (pc' := 25) dX11_bestBy_24 rfl rfl rfl ?_
    refine X.icmp_ne (tgt := 73) (pc' := 28) dX11_bestBy_25 (by decide) rfl (fun hc => ?_) (fun hc => ?_)
    · rw [if_neg hc] at h
      exact ok_X11_bestBy_73 hk6 h
    · rw [if_pos hc] at h
      refine X.aload_n (x := a0) (pc' := 29) dX11_bestBy_28 rfl rfl rfl ?_
      refine X.aload_n (x := a1) (pc' := 30) dX11_bestBy_29 rfl rfl rfl ?_
      refine X.iload (x := a5) (pc' := 32) dX11_bestBy_30 rfl rfl ?_
      refine X.iload_n (x := a3) (pc' := 33) dX11_bestBy_32 rfl rfl rfl ?_
      obtain ⟨⟨⟩, e12, h⟩ := bindE h
      obtain ⟨v9, M10, e11, h⟩ := bd2E h
      refine X.callV (b := a0) (v := some (.int v9)) (As := [.ref a1, .int a5, .int a3]) (st := []) (M' := M10) (pc' := 36) dX11_bestBy_33 rfl cl_X11_272 mi_X11_gameOf me_X11_gameOf mr_X11_gameOf e12 ⟨⟨Nat.le_of_ble_eq_true rfl, Nat.le_of_ble_eq_true rfl⟩, Nat.le_of_ble_eq_true rfl, Nat.le_of_ble_eq_true rfl⟩ rfl (Nat.le_of_ble_eq_true rfl) (ok_X11_gameOf (G := zs G) e11) ?_
      show X G t_X11_bestBy [] 36 [some (.ref a0), some (.ref a1), some (.int a2), some (.int a3), some (.int a4), some (.int a5)] [.int v9] M10 0 0 _
      refine X.ldc (v := 999999) (pc' := 38) dX11_bestBy_36 rfl (TBg_of 1523 (by decide +kernel) rfl) ?_
      refine X.icmp_lt (tgt := 44) (pc' := 41) dX11_bestBy_38 (by decide) rfl (fun hc => ?_) (fun hc => ?_)
      · rw [if_pos hc] at h
        refine X.iload (x := a4) (pc' := 46) dX11_bestBy_44 rfl rfl ?_
        refine X.iconst (v := (-1)) (pc' := 47) dX11_bestBy_46 rfl (by decide) ?_
        refine X.icmp_eq (tgt := 69) (pc' := 50) dX11_bestBy_47 (by decide) rfl (fun hc => ?_) (fun hc => ?_)
        · rw [if_pos hc] at h
          refine X.sub (L := [some (.ref a0), some (.ref a1), some (.int a2), some (.int a3), none, some (.int a5)]) ?_ (⟨rfl, ⟨rfl, ⟨rfl, ⟨rfl, ⟨rfl, trivial⟩⟩⟩⟩⟩)
          exact ok_X11_bestBy_69 hk6 h
        · rw [if_neg hc] at h
          refine X.aload_n (x := a0) (pc' := 51) dX11_bestBy_50 rfl rfl rfl ?_
          refine X.aload_n (x := a1) (pc' := 52) dX11_bestBy_51 rfl rfl rfl ?_
          refine X.iload (x := a5) (pc' := 54) dX11_bestBy_52 rfl rfl ?_
          refine X.iload_n (x := a3) (pc' := 55) dX11_bestBy_54 rfl rfl rfl ?_
          obtain ⟨⟨⟩, e16, h⟩ := bindE h
          obtain ⟨v13, M14, e15, h⟩ := bd2E h
          refine X.callV (b := a0) (v := some (.int v13)) (As := [.ref a1, .int a5, .int a3]) (st := []) (M' := M14) (pc' := 58) dX11_bestBy_55 rfl cl_X11_272 mi_X11_gameOf me_X11_gameOf mr_X11_gameOf e16 ⟨⟨Nat.le_of_ble_eq_true rfl, Nat.le_of_ble_eq_true rfl⟩, Nat.le_of_ble_eq_true rfl, Nat.le_of_ble_eq_true rfl⟩ rfl (Nat.le_of_ble_eq_true rfl) (ok_X11_gameOf (G := zs G) e15) ?_
          show X G t_X11_bestBy [] 58 [some (.ref a0), some (.ref a1), some (.int a2), some (.int a3), some (.int a4), some (.int a5)] [.int v13] M14 0 0 _
          refine X.aload_n (x := a0) (pc' := 59) dX11_bestBy_58 rfl rfl rfl ?_
          refine X.aload_n (x := a1) (pc' := 60) dX11_bestBy_59 rfl rfl rfl ?_
          refine X.iload (x := a4) (pc' := 62) dX11_bestBy_60 rfl rfl ?_
          refine X.iload_n (x := a3) (pc' := 63) dX11_bestBy_62 rfl rfl rfl ?_
          obtain ⟨⟨⟩, e20, h⟩ := bindE h
          obtain ⟨v17, M18, e19, h⟩ := bd2E h
          refine X.callV (b := a0) (v := some (.int v17)) (As := [.ref a1, .int a4, .int a3]) (st := [.int v13]) (M' := M18) (pc' := 66) dX11_bestBy_63 rfl cl_X11_272 mi_X11_gameOf me_X11_gameOf mr_X11_gameOf e20 ⟨⟨Nat.le_of_ble_eq_true rfl, Nat.le_of_ble_eq_true rfl⟩, Nat.le_of_ble_eq_true rfl, Nat.le_of_ble_eq_true rfl⟩ rfl (Nat.le_of_ble_eq_true rfl) (ok_X11_gameOf (G := zs G) e19) ?_
          show X G t_X11_bestBy [] 66 [some (.ref a0), some (.ref a1), some (.int a2), some (.int a3), some (.int a4), some (.int a5)] [.int v17, .int v13] M18 0 0 _
          refine X.icmp_ge (tgt := 73) (pc' := 69) dX11_bestBy_66 (by decide) rfl (fun hc => ?_) (fun hc => ?_)
          · rw [if_pos hc] at h
            exact ok_X11_bestBy_73 hk6 h
          · rw [if_neg hc] at h
            refine X.sub (L := [some (.ref a0), some (.ref a1), some (.int a2), some (.int a3), none, some (.int a5)]) ?_ (⟨rfl, ⟨rfl, ⟨rfl, ⟨rfl, ⟨rfl, trivial⟩⟩⟩⟩⟩)
            exact ok_X11_bestBy_69 hk6 h
      · rw [if_neg hc] at h
        refine X.goto (pc' := 73) dX11_bestBy_41 (by decide) ?_
        exact ok_X11_bestBy_73 hk6 h
def f_X11_bestBy_6 (fu : Nat) : Nat → Nat → Nat → Int32 → Int32 → Int32 → Int32 → List Ob → Option (Int32 × List Ob)
  | 0, _, _, _, _, _, _, _ => none
  | n + 1, a0, a1, a2, a3, a4, a5, M => f_X11_bestBy_6b fu a0 a1 a2 a3 a4 a5 M (fun a0 a1 a2 a3 a4 a5 M => f_X11_bestBy_6 fu n a0 a1 a2 a3 a4 a5 M)
theorem ok_X11_bestBy_6 {G : GT} {fu : Nat} {out : Int32 × List Ob} : ∀ (n : Nat) (a0 : Nat) (a1 : Nat) (a2 : Int32) (a3 : Int32) (a4 : Int32) (a5 : Int32) (M : List Ob), f_X11_bestBy_6 fu n a0 a1 a2 a3 a4 a5 M = some out → X G t_X11_bestBy [] 6 [some (.ref a0), some (.ref a1), some (.int a2), some (.int a3), some (.int a4), some (.int a5)] [] M 0 0 (oI out) := by
  intro n
  induction n with
  | zero =>
    intro a0 a1 a2 a3 a4 a5 M h
    unfold f_X11_bestBy_6 at h
    cases h
  | succ n ih =>
    intro a0 a1 a2 a3 a4 a5 M h
    unfold f_X11_bestBy_6 at h
    exact ok_X11_bestBy_6b ih h
def f_X11_bestBy (fu : Nat) (a0 : Nat) (a1 : Nat) (a2 : Int32) (a3 : Int32) (M : List Ob) : Option (Int32 × List Ob) :=
  f_X11_bestBy_6 fu  fu a0 a1 a2 a3 (-1) 0 M
set_option maxHeartbeats 4000000 in
theorem ok_X11_bestBy {G : GT} {fu : Nat} {a0 : Nat} {a1 : Nat} {a2 : Int32} {a3 : Int32} {M : List Ob} {out : Int32 × List Ob} (h : f_X11_bestBy fu a0 a1 a2 a3 M = some out) : Sp G t_X11_bestBy [.ref a0, .ref a1, .int a2, .int a3] M (oI out) := by
  refine Sp.of rfl (by decide +kernel) (cat_all rfl) (Nat.le_of_ble_eq_true rfl) ?_
  show X G t_X11_bestBy [] 0 [some (.ref a0), some (.ref a1), some (.int a2), some (.int a3), none, none] [] M 0 0 (oI out)
  unfold f_X11_bestBy at h
  refine X.iconst (v := (-1)) (pc' := 1) dX11_bestBy_0 rfl (by decide) ?_
  refine X.istore (L' := [some (.ref a0), some (.ref a1), some (.int a2), some (.int a3), some (.int (-1)), none]) (pc' := 3) dX11_bestBy_1 rfl (Nat.le_of_ble_eq_true rfl) rfl ?_
  refine X.iconst (v := 0) (pc' := 4) dX11_bestBy_3 rfl (by decide) ?_
  refine X.istore (L' := [some (.ref a0), some (.ref a1), some (.int a2), some (.int a3), some (.int (-1)), some (.int 0)]) (pc' := 6) dX11_bestBy_4 rfl (Nat.le_of_ble_eq_true rfl) rfl ?_
  refine ok_X11_bestBy_6  fu _ _ _ _ _ _ _ h
def f_X11_plays_32 (fu : Nat) (a0 : Nat) (a1 : Int32) (b0 : Nat) (b1 : Int32) (b2 : Int32) (M : List Ob) (k2 : Nat → Int32 → List Ob → Option (Unit × List Ob)) (k39 : Nat → List Ob → Option (Unit × List Ob)) : Option (Unit × List Ob) :=
  (aSet M b0 13 b1 (.int b2)).bind fun M2 =>
  k2 a0 (a1 + 1) M2
set_option maxHeartbeats 4000000 in
theorem ok_X11_plays_32 {G : GT} {fu : Nat} {out : Unit × List Ob} {a0 : Nat} {a1 : Int32} {b0 : Nat} {b1 : Int32} {b2 : Int32} {M : List Ob} {k2 : Nat → Int32 → List Ob → Option (Unit × List Ob)} {k39 : Nat → List Ob → Option (Unit × List Ob)} (hk2 : ∀ (a0 : Nat) (a1 : Int32) (M : List Ob), k2 a0 a1 M = some out → X G t_X11_plays [] 2 [some (.ref a0), some (.int a1), none, none] [] M 0 0 (oU out)) (hk39 : ∀ (a0 : Nat) (M : List Ob), k39 a0 M = some out → X G t_X11_plays [] 39 [some (.ref a0), none, none, none] [] M 0 0 (oU out)) (h : f_X11_plays_32 fu a0 a1 b0 b1 b2 M k2 k39 = some out) : X G t_X11_plays [] 32 [some (.ref a0), some (.int a1), none, none] [.int b2, .int b1, .ref b0] M 0 0 (oU out) := by
  unfold f_X11_plays_32 at h
  obtain ⟨M2, e1, h⟩ := bindE h
  refine X.iast (pc' := 33) dX11_plays_32 rfl e1 ?_
  refine X.iinc (v := (a1 + 1)) (L' := [some (.ref a0), some (.int (a1 + 1)), none, none]) (pc' := 36) dX11_plays_33 rfl rfl (congrArg (fun y => a1 + y) (show Int32.ofInt 1 = 1 by decide)) (Nat.le_of_ble_eq_true rfl) rfl ?_
  refine X.goto (pc' := 2) dX11_plays_36 (by decide) ?_
  exact hk2 _ _ _ h
def f_X11_plays_2b (fu : Nat) (a0 : Nat) (a1 : Int32) (M : List Ob) (k2 : Nat → Int32 → List Ob → Option (Unit × List Ob)) (k39 : Nat → List Ob → Option (Unit × List Ob)) : Option (Unit × List Ob) :=
  if 56 ≤ a1 then (k39 a0 M)
  else ((gP M a0 11 24).bind fun r1 =>
  (gP M a0 11 0).bind fun r3 =>
  (aI M r3 13 2).bind fun v6 =>
  if (a1 / 7) = v6 then (f_X11_plays_32 fu a0 a1 r1 a1 0 M k2 k39)
  else (f_X11_plays_32 fu a0 a1 r1 a1 999999 M k2 k39))
set_option maxHeartbeats 4000000 in
theorem ok_X11_plays_2b {G : GT} {fu : Nat} {out : Unit × List Ob} {a0 : Nat} {a1 : Int32} {M : List Ob} {k2 : Nat → Int32 → List Ob → Option (Unit × List Ob)} {k39 : Nat → List Ob → Option (Unit × List Ob)} (hk2 : ∀ (a0 : Nat) (a1 : Int32) (M : List Ob), k2 a0 a1 M = some out → X G t_X11_plays [] 2 [some (.ref a0), some (.int a1), none, none] [] M 0 0 (oU out)) (hk39 : ∀ (a0 : Nat) (M : List Ob), k39 a0 M = some out → X G t_X11_plays [] 39 [some (.ref a0), none, none, none] [] M 0 0 (oU out)) (h : f_X11_plays_2b fu a0 a1 M k2 k39 = some out) : X G t_X11_plays [] 2 [some (.ref a0), some (.int a1), none, none] [] M 0 0 (oU out) := by
  unfold f_X11_plays_2b at h
  refine X.iload_n (x := a1) (pc' := 3) dX11_plays_2 rfl rfl rfl ?_
  refine X.bipush (v := 56) (pc' := 5) dX11_plays_3 rfl (by decide) ?_
  refine X.icmp_ge (tgt := 39) (pc' := 8) dX11_plays_5 (by decide) rfl (fun hc => ?_) (fun hc => ?_)
  · rw [if_pos hc] at h
    refine X.sub (L := [some (.ref a0), none, none, none]) ?_ (⟨rfl, trivial⟩)
    exact hk39 _ _ h
  · rw [if_neg hc] at h
    refine X.aload_n (x := a0) (pc' := 9) dX11_plays_8 rfl rfl rfl ?_
    obtain ⟨r1, e2, h⟩ := bindE h
    refine X.getf (pc' := 12) dX11_plays_9 rfl fq_X11_35 (gP_spec e2) ?_
    refine X.iload_n (x := a1) (pc' := 13) dX11_plays_12 rfl rfl rfl ?_
    refine X.iload_n (x := a1) (pc' := 14) dX11_plays_13 rfl rfl rfl ?_
    refine X.bipush (v := 7) (pc' := 16) dX11_plays_14 rfl (by decide) ?_
    refine X.idiv (pc' := 17) dX11_plays_16 rfl (by decide) ?_
    refine X.aload_n (x := a0) (pc' := 18) dX11_plays_17 rfl rfl rfl ?_
    obtain ⟨r3, e4, h⟩ := bindE h
    refine X.getf (pc' := 21) dX11_plays_18 rfl fq_X11_7 (gP_spec e4) ?_
    refine X.iconst (v := 2) (pc' := 22) dX11_plays_21 rfl (by decide) ?_
    obtain ⟨v6, e5, h⟩ := bindE h
    refine X.iald (pc' := 23) dX11_plays_22 rfl e5 ?_
    refine X.icmp_ne (tgt := 30) (pc' := 26) dX11_plays_23 (by decide) rfl (fun hc => ?_) (fun hc => ?_)
    · rw [if_neg hc] at h
      refine X.ldc (v := 999999) (pc' := 32) dX11_plays_30 rfl (TBg_of 1523 (by decide +kernel) rfl) ?_
      exact ok_X11_plays_32 hk2 hk39 h
    · rw [if_pos hc] at h
      refine X.iconst (v := 0) (pc' := 27) dX11_plays_26 rfl (by decide) ?_
      refine X.goto (pc' := 32) dX11_plays_27 (by decide) ?_
      exact ok_X11_plays_32 hk2 hk39 h
def f_X11_plays_2 (fu : Nat) (k39 : Nat → List Ob → Option (Unit × List Ob)) : Nat → Nat → Int32 → List Ob → Option (Unit × List Ob)
  | 0, _, _, _ => none
  | n + 1, a0, a1, M => f_X11_plays_2b fu a0 a1 M (fun a0 a1 M => f_X11_plays_2 fu k39 n a0 a1 M) k39
theorem ok_X11_plays_2 {G : GT} {fu : Nat} {out : Unit × List Ob} {k39 : Nat → List Ob → Option (Unit × List Ob)} (hk39 : ∀ (a0 : Nat) (M : List Ob), k39 a0 M = some out → X G t_X11_plays [] 39 [some (.ref a0), none, none, none] [] M 0 0 (oU out)) : ∀ (n : Nat) (a0 : Nat) (a1 : Int32) (M : List Ob), f_X11_plays_2 fu k39 n a0 a1 M = some out → X G t_X11_plays [] 2 [some (.ref a0), some (.int a1), none, none] [] M 0 0 (oU out) := by
  intro n
  induction n with
  | zero =>
    intro a0 a1 M h
    unfold f_X11_plays_2 at h
    cases h
  | succ n ih =>
    intro a0 a1 M h
    unfold f_X11_plays_2 at h
    exact ok_X11_plays_2b ih hk39 h
def f_X11_plays_49b (fu : Nat) (a0 : Nat) (a1 : Int32) (a2 : Int32) (M : List Ob) (k49 : Nat → Int32 → Int32 → List Ob → Option (Unit × List Ob)) (k73 : Nat → Int32 → List Ob → Option (Unit × List Ob)) : Option (Unit × List Ob) :=
  if 56 ≤ a2 then (k73 a0 a1 M)
  else ((gP M a0 11 25).bind fun r1 =>
  (gP M a0 11 24).bind fun r3 =>
  (aI M r3 13 a2).bind fun v6 =>
  (aSet M r1 13 a2 (.int v6)).bind fun M8 =>
  k49 a0 a1 (a2 + 1) M8)
set_option maxHeartbeats 4000000 in
theorem ok_X11_plays_49b {G : GT} {fu : Nat} {out : Unit × List Ob} {a0 : Nat} {a1 : Int32} {a2 : Int32} {M : List Ob} {k49 : Nat → Int32 → Int32 → List Ob → Option (Unit × List Ob)} {k73 : Nat → Int32 → List Ob → Option (Unit × List Ob)} (hk49 : ∀ (a0 : Nat) (a1 : Int32) (a2 : Int32) (M : List Ob), k49 a0 a1 a2 M = some out → X G t_X11_plays [] 49 [some (.ref a0), some (.int a1), some (.int a2), none] [] M 0 0 (oU out)) (hk73 : ∀ (a0 : Nat) (a1 : Int32) (M : List Ob), k73 a0 a1 M = some out → X G t_X11_plays [] 73 [some (.ref a0), some (.int a1), none, none] [] M 0 0 (oU out)) (h : f_X11_plays_49b fu a0 a1 a2 M k49 k73 = some out) : X G t_X11_plays [] 49 [some (.ref a0), some (.int a1), some (.int a2), none] [] M 0 0 (oU out) := by
  unfold f_X11_plays_49b at h
  refine X.iload_n (x := a2) (pc' := 50) dX11_plays_49 rfl rfl rfl ?_
  refine X.bipush (v := 56) (pc' := 52) dX11_plays_50 rfl (by decide) ?_
  refine X.icmp_ge (tgt := 73) (pc' := 55) dX11_plays_52 (by decide) rfl (fun hc => ?_) (fun hc => ?_)
  · rw [if_pos hc] at h
    refine X.sub (L := [some (.ref a0), some (.int a1), none, none]) ?_ (⟨rfl, ⟨rfl, trivial⟩⟩)
    exact hk73 _ _ _ h
  · rw [if_neg hc] at h
    refine X.aload_n (x := a0) (pc' := 56) dX11_plays_55 rfl rfl rfl ?_
    obtain ⟨r1, e2, h⟩ := bindE h
    refine X.getf (pc' := 59) dX11_plays_56 rfl fq_X11_38 (gP_spec e2) ?_
    refine X.iload_n (x := a2) (pc' := 60) dX11_plays_59 rfl rfl rfl ?_
    refine X.aload_n (x := a0) (pc' := 61) dX11_plays_60 rfl rfl rfl ?_
    obtain ⟨r3, e4, h⟩ := bindE h
    refine X.getf (pc' := 64) dX11_plays_61 rfl fq_X11_35 (gP_spec e4) ?_
    refine X.iload_n (x := a2) (pc' := 65) dX11_plays_64 rfl rfl rfl ?_
    obtain ⟨v6, e5, h⟩ := bindE h
    refine X.iald (pc' := 66) dX11_plays_65 rfl e5 ?_
    obtain ⟨M8, e7, h⟩ := bindE h
    refine X.iast (pc' := 67) dX11_plays_66 rfl e7 ?_
    refine X.iinc (v := (a2 + 1)) (L' := [some (.ref a0), some (.int a1), some (.int (a2 + 1)), none]) (pc' := 70) dX11_plays_67 rfl rfl (congrArg (fun y => a2 + y) (show Int32.ofInt 1 = 1 by decide)) (Nat.le_of_ble_eq_true rfl) rfl ?_
    refine X.goto (pc' := 49) dX11_plays_70 (by decide) ?_
    exact hk49 _ _ _ _ h
def f_X11_plays_49 (fu : Nat) (k73 : Nat → Int32 → List Ob → Option (Unit × List Ob)) : Nat → Nat → Int32 → Int32 → List Ob → Option (Unit × List Ob)
  | 0, _, _, _, _ => none
  | n + 1, a0, a1, a2, M => f_X11_plays_49b fu a0 a1 a2 M (fun a0 a1 a2 M => f_X11_plays_49 fu k73 n a0 a1 a2 M) k73
theorem ok_X11_plays_49 {G : GT} {fu : Nat} {out : Unit × List Ob} {k73 : Nat → Int32 → List Ob → Option (Unit × List Ob)} (hk73 : ∀ (a0 : Nat) (a1 : Int32) (M : List Ob), k73 a0 a1 M = some out → X G t_X11_plays [] 73 [some (.ref a0), some (.int a1), none, none] [] M 0 0 (oU out)) : ∀ (n : Nat) (a0 : Nat) (a1 : Int32) (a2 : Int32) (M : List Ob), f_X11_plays_49 fu k73 n a0 a1 a2 M = some out → X G t_X11_plays [] 49 [some (.ref a0), some (.int a1), some (.int a2), none] [] M 0 0 (oU out) := by
  intro n
  induction n with
  | zero =>
    intro a0 a1 a2 M h
    unfold f_X11_plays_49 at h
    cases h
  | succ n ih =>
    intro a0 a1 a2 M h
    unfold f_X11_plays_49 at h
    exact ok_X11_plays_49b ih hk73 h
def f_X11_plays_150 (fu : Nat) (a0 : Nat) (a1 : Int32) (a2 : Int32) (M : List Ob) (k75 : Nat → Int32 → Int32 → List Ob → Option (Unit × List Ob)) (k156 : Nat → Int32 → List Ob → Option (Unit × List Ob)) : Option (Unit × List Ob) :=
  k75 a0 a1 (a2 + 1) M
set_option maxHeartbeats 4000000 in
theorem ok_X11_plays_150 {G : GT} {fu : Nat} {out : Unit × List Ob} {a0 : Nat} {a1 : Int32} {a2 : Int32} {M : List Ob} {k75 : Nat → Int32 → Int32 → List Ob → Option (Unit × List Ob)} {k156 : Nat → Int32 → List Ob → Option (Unit × List Ob)} (hk75 : ∀ (a0 : Nat) (a1 : Int32) (a2 : Int32) (M : List Ob), k75 a0 a1 a2 M = some out → X G t_X11_plays [] 75 [some (.ref a0), some (.int a1), some (.int a2), none] [] M 0 0 (oU out)) (hk156 : ∀ (a0 : Nat) (a1 : Int32) (M : List Ob), k156 a0 a1 M = some out → X G t_X11_plays [] 156 [some (.ref a0), some (.int a1), none, none] [] M 0 0 (oU out)) (h : f_X11_plays_150 fu a0 a1 a2 M k75 k156 = some out) : X G t_X11_plays [] 150 [some (.ref a0), some (.int a1), some (.int a2), none] [] M 0 0 (oU out) := by
  unfold f_X11_plays_150 at h
  refine X.iinc (v := (a2 + 1)) (L' := [some (.ref a0), some (.int a1), some (.int (a2 + 1)), none]) (pc' := 153) dX11_plays_150 rfl rfl (congrArg (fun y => a2 + y) (show Int32.ofInt 1 = 1 by decide)) (Nat.le_of_ble_eq_true rfl) rfl ?_
  refine X.goto (pc' := 75) dX11_plays_153 (by decide) ?_
  exact hk75 _ _ _ _ h
def f_X11_plays_149 (fu : Nat) (a0 : Nat) (a1 : Int32) (a2 : Int32) (b0 : Nat) (b1 : Int32) (b2 : Int32) (M : List Ob) (k75 : Nat → Int32 → Int32 → List Ob → Option (Unit × List Ob)) (k156 : Nat → Int32 → List Ob → Option (Unit × List Ob)) : Option (Unit × List Ob) :=
  (aSet M b0 13 b1 (.int b2)).bind fun M2 =>
  f_X11_plays_150 fu a0 a1 a2 M2 k75 k156
set_option maxHeartbeats 4000000 in
theorem ok_X11_plays_149 {G : GT} {fu : Nat} {out : Unit × List Ob} {a0 : Nat} {a1 : Int32} {a2 : Int32} {b0 : Nat} {b1 : Int32} {b2 : Int32} {M : List Ob} {k75 : Nat → Int32 → Int32 → List Ob → Option (Unit × List Ob)} {k156 : Nat → Int32 → List Ob → Option (Unit × List Ob)} (hk75 : ∀ (a0 : Nat) (a1 : Int32) (a2 : Int32) (M : List Ob), k75 a0 a1 a2 M = some out → X G t_X11_plays [] 75 [some (.ref a0), some (.int a1), some (.int a2), none] [] M 0 0 (oU out)) (hk156 : ∀ (a0 : Nat) (a1 : Int32) (M : List Ob), k156 a0 a1 M = some out → X G t_X11_plays [] 156 [some (.ref a0), some (.int a1), none, none] [] M 0 0 (oU out)) (h : f_X11_plays_149 fu a0 a1 a2 b0 b1 b2 M k75 k156 = some out) : X G t_X11_plays [] 149 [some (.ref a0), some (.int a1), some (.int a2), none] [.int b2, .int b1, .ref b0] M 0 0 (oU out) := by
  unfold f_X11_plays_149 at h
  obtain ⟨M2, e1, h⟩ := bindE h
  refine X.iast (pc' := 150) dX11_plays_149 rfl e1 ?_
  exact ok_X11_plays_150 hk75 hk156 h
def f_X11_plays_75b (fu : Nat) (a0 : Nat) (a1 : Int32) (a2 : Int32) (M : List Ob) (k75 : Nat → Int32 → Int32 → List Ob → Option (Unit × List Ob)) (k156 : Nat → Int32 → List Ob → Option (Unit × List Ob)) : Option (Unit × List Ob) :=
  (gP M a0 11 0).bind fun r1 =>
  (aI M r1 13 0).bind fun v4 =>
  if (7 * v4) ≤ a2 then (k156 a0 a1 M)
  else ((gP M a0 11 0).bind fun r5 =>
  (aI M r5 13 2).bind fun v8 =>
  if (a2 / 7) = v8 then (f_X11_plays_150 fu a0 a1 a2 M k75 k156)
  else ((gP M a0 11 25).bind fun r9 =>
  (hasO M a0 11).bind fun _ =>
  bd2 (f_X11_bestBy fu a0 r9 (a2 / 7) (a2 - a2 / 7 * 7) M) fun v11 M12 =>
  (gP M12 a0 11 24).bind fun r15 =>
  if v11 = (-1) then (f_X11_plays_149 fu a0 a1 a2 r15 a2 999999 M12 k75 k156)
  else ((gP M12 a0 11 25).bind fun r17 =>
  (hasO M12 a0 11).bind fun _ =>
  bd2 (f_X11_gameOf fu a0 r17 v11 (a2 - a2 / 7 * 7) M12) fun v19 M20 =>
  f_X11_plays_149 fu a0 a1 a2 r15 a2 v19 M20 k75 k156)))
set_option maxHeartbeats 4000000 in
theorem ok_X11_plays_75b {G : GT} {fu : Nat} {out : Unit × List Ob} {a0 : Nat} {a1 : Int32} {a2 : Int32} {M : List Ob} {k75 : Nat → Int32 → Int32 → List Ob → Option (Unit × List Ob)} {k156 : Nat → Int32 → List Ob → Option (Unit × List Ob)} (hk75 : ∀ (a0 : Nat) (a1 : Int32) (a2 : Int32) (M : List Ob), k75 a0 a1 a2 M = some out → X G t_X11_plays [] 75 [some (.ref a0), some (.int a1), some (.int a2), none] [] M 0 0 (oU out)) (hk156 : ∀ (a0 : Nat) (a1 : Int32) (M : List Ob), k156 a0 a1 M = some out → X G t_X11_plays [] 156 [some (.ref a0), some (.int a1), none, none] [] M 0 0 (oU out)) (h : f_X11_plays_75b fu a0 a1 a2 M k75 k156 = some out) : X G t_X11_plays [] 75 [some (.ref a0), some (.int a1), some (.int a2), none] [] M 0 0 (oU out) := by
  unfold f_X11_plays_75b at h
  refine X.iload_n (x := a2) (pc' := 76) dX11_plays_75 rfl rfl rfl ?_
  refine X.bipush (v := 7) (pc' := 78) dX11_plays_76 rfl (by decide) ?_
  refine X.aload_n (x := a0) (pc' := 79) dX11_plays_78 rfl rfl rfl ?_
  obtain ⟨r1, e2, h⟩ := bindE h
  refine X.getf (pc' := 82) dX11_plays_79 rfl fq_X11_7 (gP_spec e2) ?_
  refine X.iconst (v := 0) (pc' := 83) dX11_plays_82 rfl (by decide) ?_
  obtain ⟨v4, e3, h⟩ := bindE h
  refine X.iald (pc' := 84) dX11_plays_83 rfl e3 ?_
  refine X.imul (pc' := 85) dX11_plays_84 rfl ?_
  refine X.icmp_ge (tgt := 156) (pc' := 88) dX11_plays_85 (by decide) rfl (fun hc => ?_) (fun hc => ?_)
  · rw [if_pos hc] at h
    refine X.sub (L := [some (.ref a0), some (.int a1), none, none]) ?_ (⟨rfl, ⟨rfl, trivial⟩⟩)
    exact hk156 _ _ _ h
  · rw [if_neg hc] at h
    refine X.iload_n (x := a2) (pc' := 89) dX11_plays_88 rfl rfl rfl ?_
    refine X.bipush (v := 7) (pc' := 91) dX11_plays_89 rfl (by decide) ?_
    refine X.idiv (pc' := 92) dX11_plays_91 rfl (by decide) ?_
    refine X.aload_n (x := a0) (pc' := 93) dX11_plays_92 rfl rfl rfl ?_
    obtain ⟨r5, e6, h⟩ := bindE h
    refine X.getf (pc' := 96) dX11_plays_93 rfl fq_X11_7 (gP_spec e6) ?_
    refine X.iconst (v := 2) (pc' := 97) dX11_plays_96 rfl (by decide) ?_
    obtain ⟨v8, e7, h⟩ := bindE h
    refine X.iald (pc' := 98) dX11_plays_97 rfl e7 ?_
    refine X.icmp_ne (tgt := 104) (pc' := 101) dX11_plays_98 (by decide) rfl (fun hc => ?_) (fun hc => ?_)
    · rw [if_neg hc] at h
      refine X.aload_n (x := a0) (pc' := 105) dX11_plays_104 rfl rfl rfl ?_
      refine X.aload_n (x := a0) (pc' := 106) dX11_plays_105 rfl rfl rfl ?_
      obtain ⟨r9, e10, h⟩ := bindE h
      refine X.getf (pc' := 109) dX11_plays_106 rfl fq_X11_38 (gP_spec e10) ?_
      refine X.iload_n (x := a2) (pc' := 110) dX11_plays_109 rfl rfl rfl ?_
      refine X.bipush (v := 7) (pc' := 112) dX11_plays_110 rfl (by decide) ?_
      refine X.idiv (pc' := 113) dX11_plays_112 rfl (by decide) ?_
      refine X.iload_n (x := a2) (pc' := 114) dX11_plays_113 rfl rfl rfl ?_
      refine X.bipush (v := 7) (pc' := 116) dX11_plays_114 rfl (by decide) ?_
      refine X.irem (pc' := 117) dX11_plays_116 rfl (by decide) ?_
      obtain ⟨⟨⟩, e14, h⟩ := bindE h
      obtain ⟨v11, M12, e13, h⟩ := bd2E h
      refine X.callV (b := a0) (v := some (.int v11)) (As := [.ref r9, .int (a2 / 7), .int (a2 - a2 / 7 * 7)]) (st := []) (M' := M12) (pc' := 120) dX11_plays_117 rfl cl_X11_275 mi_X11_bestBy me_X11_bestBy mr_X11_bestBy e14 ⟨⟨Nat.le_of_ble_eq_true rfl, Nat.le_of_ble_eq_true rfl⟩, Nat.le_of_ble_eq_true rfl, Nat.le_of_ble_eq_true rfl⟩ rfl (Nat.le_of_ble_eq_true rfl) (ok_X11_bestBy (G := zs G) e13) ?_
      show X G t_X11_plays [] 120 [some (.ref a0), some (.int a1), some (.int a2), none] [.int v11] M12 0 0 _
      refine X.istore_n (L' := [some (.ref a0), some (.int a1), some (.int a2), some (.int v11)]) (pc' := 121) dX11_plays_120 rfl rfl (Nat.le_of_ble_eq_true rfl) rfl ?_
      refine X.aload_n (x := a0) (pc' := 122) dX11_plays_121 rfl rfl rfl ?_
      obtain ⟨r15, e16, h⟩ := bindE h
      refine X.getf (pc' := 125) dX11_plays_122 rfl fq_X11_35 (gP_spec e16) ?_
      refine X.iload_n (x := a2) (pc' := 126) dX11_plays_125 rfl rfl rfl ?_
      refine X.iload_n (x := v11) (pc' := 127) dX11_plays_126 rfl rfl rfl ?_
      refine X.iconst (v := (-1)) (pc' := 128) dX11_plays_127 rfl (by decide) ?_
      refine X.icmp_ne (tgt := 136) (pc' := 131) dX11_plays_128 (by decide) rfl (fun hc => ?_) (fun hc => ?_)
      · rw [if_neg hc] at h
        refine X.aload_n (x := a0) (pc' := 137) dX11_plays_136 rfl rfl rfl ?_
        refine X.aload_n (x := a0) (pc' := 138) dX11_plays_137 rfl rfl rfl ?_
        obtain ⟨r17, e18, h⟩ := bindE h
        refine X.getf (pc' := 141) dX11_plays_138 rfl fq_X11_38 (gP_spec e18) ?_
        refine X.iload_n (x := v11) (pc' := 142) dX11_plays_141 rfl rfl rfl ?_
        refine X.iload_n (x := a2) (pc' := 143) dX11_plays_142 rfl rfl rfl ?_
        refine X.bipush (v := 7) (pc' := 145) dX11_plays_143 rfl (by decide) ?_
        refine X.irem (pc' := 146) dX11_plays_145 rfl (by decide) ?_
        obtain ⟨⟨⟩, e22, h⟩ := bindE h
        obtain ⟨v19, M20, e21, h⟩ := bd2E h
        refine X.callV (b := a0) (v := some (.int v19)) (As := [.ref r17, .int v11, .int (a2 - a2 / 7 * 7)]) (st := [.int a2, .ref r15]) (M' := M20) (pc' := 149) dX11_plays_146 rfl cl_X11_272 mi_X11_gameOf me_X11_gameOf mr_X11_gameOf e22 ⟨⟨Nat.le_of_ble_eq_true rfl, Nat.le_of_ble_eq_true rfl⟩, Nat.le_of_ble_eq_true rfl, Nat.le_of_ble_eq_true rfl⟩ rfl (Nat.le_of_ble_eq_true rfl) (ok_X11_gameOf (G := zs G) e21) ?_
        show X G t_X11_plays [] 149 [some (.ref a0), some (.int a1), some (.int a2), some (.int v11)] [.int v19, .int a2, .ref r15] M20 0 0 _
        refine X.sub (L := [some (.ref a0), some (.int a1), some (.int a2), none]) ?_ (⟨rfl, ⟨rfl, ⟨rfl, trivial⟩⟩⟩)
        exact ok_X11_plays_149 hk75 hk156 h
      · rw [if_pos hc] at h
        refine X.ldc (v := 999999) (pc' := 133) dX11_plays_131 rfl (TBg_of 1523 (by decide +kernel) rfl) ?_
        refine X.goto (pc' := 149) dX11_plays_133 (by decide) ?_
        refine X.sub (L := [some (.ref a0), some (.int a1), some (.int a2), none]) ?_ (⟨rfl, ⟨rfl, ⟨rfl, trivial⟩⟩⟩)
        exact ok_X11_plays_149 hk75 hk156 h
    · rw [if_pos hc] at h
      refine X.goto (pc' := 150) dX11_plays_101 (by decide) ?_
      exact ok_X11_plays_150 hk75 hk156 h
def f_X11_plays_75 (fu : Nat) (k156 : Nat → Int32 → List Ob → Option (Unit × List Ob)) : Nat → Nat → Int32 → Int32 → List Ob → Option (Unit × List Ob)
  | 0, _, _, _, _ => none
  | n + 1, a0, a1, a2, M => f_X11_plays_75b fu a0 a1 a2 M (fun a0 a1 a2 M => f_X11_plays_75 fu k156 n a0 a1 a2 M) k156
theorem ok_X11_plays_75 {G : GT} {fu : Nat} {out : Unit × List Ob} {k156 : Nat → Int32 → List Ob → Option (Unit × List Ob)} (hk156 : ∀ (a0 : Nat) (a1 : Int32) (M : List Ob), k156 a0 a1 M = some out → X G t_X11_plays [] 156 [some (.ref a0), some (.int a1), none, none] [] M 0 0 (oU out)) : ∀ (n : Nat) (a0 : Nat) (a1 : Int32) (a2 : Int32) (M : List Ob), f_X11_plays_75 fu k156 n a0 a1 a2 M = some out → X G t_X11_plays [] 75 [some (.ref a0), some (.int a1), some (.int a2), none] [] M 0 0 (oU out) := by
  intro n
  induction n with
  | zero =>
    intro a0 a1 a2 M h
    unfold f_X11_plays_75 at h
    cases h
  | succ n ih =>
    intro a0 a1 a2 M h
    unfold f_X11_plays_75 at h
    exact ok_X11_plays_75b ih hk156 h
def f_X11_plays_156 (fu : Nat) (a0 : Nat) (a1 : Int32) (M : List Ob) (k41 : Nat → Int32 → List Ob → Option (Unit × List Ob)) : Option (Unit × List Ob) :=
  k41 a0 (a1 + 1) M
set_option maxHeartbeats 4000000 in
theorem ok_X11_plays_156 {G : GT} {fu : Nat} {out : Unit × List Ob} {a0 : Nat} {a1 : Int32} {M : List Ob} {k41 : Nat → Int32 → List Ob → Option (Unit × List Ob)} (hk41 : ∀ (a0 : Nat) (a1 : Int32) (M : List Ob), k41 a0 a1 M = some out → X G t_X11_plays [] 41 [some (.ref a0), some (.int a1), none, none] [] M 0 0 (oU out)) (h : f_X11_plays_156 fu a0 a1 M k41 = some out) : X G t_X11_plays [] 156 [some (.ref a0), some (.int a1), none, none] [] M 0 0 (oU out) := by
  unfold f_X11_plays_156 at h
  refine X.iinc (v := (a1 + 1)) (L' := [some (.ref a0), some (.int (a1 + 1)), none, none]) (pc' := 159) dX11_plays_156 rfl rfl (congrArg (fun y => a1 + y) (show Int32.ofInt 1 = 1 by decide)) (Nat.le_of_ble_eq_true rfl) rfl ?_
  refine X.goto (pc' := 41) dX11_plays_159 (by decide) ?_
  exact hk41 _ _ _ h
def f_X11_plays_73 (fu : Nat) (a0 : Nat) (a1 : Int32) (M : List Ob) (k41 : Nat → Int32 → List Ob → Option (Unit × List Ob)) : Option (Unit × List Ob) :=
  f_X11_plays_75 fu (fun x1 x2 M3 => f_X11_plays_156 fu x1 x2 M3 k41) fu a0 a1 0 M
set_option maxHeartbeats 4000000 in
theorem ok_X11_plays_73 {G : GT} {fu : Nat} {out : Unit × List Ob} {a0 : Nat} {a1 : Int32} {M : List Ob} {k41 : Nat → Int32 → List Ob → Option (Unit × List Ob)} (hk41 : ∀ (a0 : Nat) (a1 : Int32) (M : List Ob), k41 a0 a1 M = some out → X G t_X11_plays [] 41 [some (.ref a0), some (.int a1), none, none] [] M 0 0 (oU out)) (h : f_X11_plays_73 fu a0 a1 M k41 = some out) : X G t_X11_plays [] 73 [some (.ref a0), some (.int a1), none, none] [] M 0 0 (oU out) := by
  unfold f_X11_plays_73 at h
  refine X.iconst (v := 0) (pc' := 74) dX11_plays_73 rfl (by decide) ?_
  refine X.istore_n (L' := [some (.ref a0), some (.int a1), some (.int 0), none]) (pc' := 75) dX11_plays_74 rfl rfl (Nat.le_of_ble_eq_true rfl) rfl ?_
  refine ok_X11_plays_75 ?_ fu _ _ _ _ h
  · intro x1 x2 M3 h
    exact ok_X11_plays_156 hk41 h
def f_X11_plays_41b (fu : Nat) (a0 : Nat) (a1 : Int32) (M : List Ob) (k41 : Nat → Int32 → List Ob → Option (Unit × List Ob)) : Option (Unit × List Ob) :=
  if 64 ≤ a1 then (some ((), M))
  else (f_X11_plays_49 fu (fun x1 x2 M3 => f_X11_plays_73 fu x1 x2 M3 k41) fu a0 a1 0 M)
set_option maxHeartbeats 4000000 in
theorem ok_X11_plays_41b {G : GT} {fu : Nat} {out : Unit × List Ob} {a0 : Nat} {a1 : Int32} {M : List Ob} {k41 : Nat → Int32 → List Ob → Option (Unit × List Ob)} (hk41 : ∀ (a0 : Nat) (a1 : Int32) (M : List Ob), k41 a0 a1 M = some out → X G t_X11_plays [] 41 [some (.ref a0), some (.int a1), none, none] [] M 0 0 (oU out)) (h : f_X11_plays_41b fu a0 a1 M k41 = some out) : X G t_X11_plays [] 41 [some (.ref a0), some (.int a1), none, none] [] M 0 0 (oU out) := by
  unfold f_X11_plays_41b at h
  refine X.iload_n (x := a1) (pc' := 42) dX11_plays_41 rfl rfl rfl ?_
  refine X.bipush (v := 64) (pc' := 44) dX11_plays_42 rfl (by decide) ?_
  refine X.icmp_ge (tgt := 162) (pc' := 47) dX11_plays_44 (by decide) rfl (fun hc => ?_) (fun hc => ?_)
  · rw [if_pos hc] at h
    cases h
    exact X.vret dX11_plays_162 rfl (Nat.le_of_ble_eq_true rfl) (Nat.le_of_ble_eq_true rfl) rfl
  · rw [if_neg hc] at h
    refine X.iconst (v := 0) (pc' := 48) dX11_plays_47 rfl (by decide) ?_
    refine X.istore_n (L' := [some (.ref a0), some (.int a1), some (.int 0), none]) (pc' := 49) dX11_plays_48 rfl rfl (Nat.le_of_ble_eq_true rfl) rfl ?_
    refine ok_X11_plays_49 ?_ fu _ _ _ _ h
    · intro x1 x2 M3 h
      exact ok_X11_plays_73 hk41 h
def f_X11_plays_41 (fu : Nat) : Nat → Nat → Int32 → List Ob → Option (Unit × List Ob)
  | 0, _, _, _ => none
  | n + 1, a0, a1, M => f_X11_plays_41b fu a0 a1 M (fun a0 a1 M => f_X11_plays_41 fu n a0 a1 M)
theorem ok_X11_plays_41 {G : GT} {fu : Nat} {out : Unit × List Ob} : ∀ (n : Nat) (a0 : Nat) (a1 : Int32) (M : List Ob), f_X11_plays_41 fu n a0 a1 M = some out → X G t_X11_plays [] 41 [some (.ref a0), some (.int a1), none, none] [] M 0 0 (oU out) := by
  intro n
  induction n with
  | zero =>
    intro a0 a1 M h
    unfold f_X11_plays_41 at h
    cases h
  | succ n ih =>
    intro a0 a1 M h
    unfold f_X11_plays_41 at h
    exact ok_X11_plays_41b ih h
def f_X11_plays_39 (fu : Nat) (a0 : Nat) (M : List Ob) : Option (Unit × List Ob) :=
  f_X11_plays_41 fu  fu a0 0 M
set_option maxHeartbeats 4000000 in
theorem ok_X11_plays_39 {G : GT} {fu : Nat} {out : Unit × List Ob} {a0 : Nat} {M : List Ob} (h : f_X11_plays_39 fu a0 M = some out) : X G t_X11_plays [] 39 [some (.ref a0), none, none, none] [] M 0 0 (oU out) := by
  unfold f_X11_plays_39 at h
  refine X.iconst (v := 0) (pc' := 40) dX11_plays_39 rfl (by decide) ?_
  refine X.istore_n (L' := [some (.ref a0), some (.int 0), none, none]) (pc' := 41) dX11_plays_40 rfl rfl (Nat.le_of_ble_eq_true rfl) rfl ?_
  refine ok_X11_plays_41  fu _ _ _ h
def f_X11_plays (fu : Nat) (a0 : Nat) (M : List Ob) : Option (Unit × List Ob) :=
  f_X11_plays_2 fu (fun x1 M2 => f_X11_plays_39 fu x1 M2) fu a0 0 M
set_option maxHeartbeats 4000000 in
theorem ok_X11_plays {G : GT} {fu : Nat} {a0 : Nat} {M : List Ob} {out : Unit × List Ob} (h : f_X11_plays fu a0 M = some out) : Sp G t_X11_plays [.ref a0] M (oU out) := by
  refine Sp.of rfl (by decide +kernel) (cat_all rfl) (Nat.le_of_ble_eq_true rfl) ?_
  show X G t_X11_plays [] 0 [some (.ref a0), none, none, none] [] M 0 0 (oU out)
  unfold f_X11_plays at h
  refine X.iconst (v := 0) (pc' := 1) dX11_plays_0 rfl (by decide) ?_
  refine X.istore_n (L' := [some (.ref a0), some (.int 0), none, none]) (pc' := 2) dX11_plays_1 rfl rfl (Nat.le_of_ble_eq_true rfl) rfl ?_
  refine ok_X11_plays_2 ?_ fu _ _ _ h
  · intro x1 M2 h
    exact ok_X11_plays_39 h
def f_X11_valueOf (fu : Nat) (a0 : Nat) (a1 : Int32) (a2 : Int32) (M : List Ob) : Option (Int32 × List Ob) :=
  (gP M a0 11 24).bind fun r1 =>
  (aI M r1 13 ((7 * a1) + a2)).bind fun v4 =>
  if v4 < 999999 then ((gP M a0 11 24).bind fun r5 =>
  (aI M r5 13 ((7 * a1) + a2)).bind fun v8 =>
  some (v8, M))
  else (some ((-1), M))
set_option maxHeartbeats 4000000 in
theorem ok_X11_valueOf {G : GT} {fu : Nat} {a0 : Nat} {a1 : Int32} {a2 : Int32} {M : List Ob} {out : Int32 × List Ob} (h : f_X11_valueOf fu a0 a1 a2 M = some out) : Sp G t_X11_valueOf [.ref a0, .int a1, .int a2] M (oI out) := by
  refine Sp.of rfl (by decide +kernel) (cat_all rfl) (Nat.le_of_ble_eq_true rfl) ?_
  show X G t_X11_valueOf [] 0 [some (.ref a0), some (.int a1), some (.int a2)] [] M 0 0 (oI out)
  unfold f_X11_valueOf at h
  refine X.aload_n (x := a0) (pc' := 1) dX11_valueOf_0 rfl rfl rfl ?_
  obtain ⟨r1, e2, h⟩ := bindE h
  refine X.getf (pc' := 4) dX11_valueOf_1 rfl fq_X11_35 (gP_spec e2) ?_
  refine X.bipush (v := 7) (pc' := 6) dX11_valueOf_4 rfl (by decide) ?_
  refine X.iload_n (x := a1) (pc' := 7) dX11_valueOf_6 rfl rfl rfl ?_
  refine X.imul (pc' := 8) dX11_valueOf_7 rfl ?_
  refine X.iload_n (x := a2) (pc' := 9) dX11_valueOf_8 rfl rfl rfl ?_
  refine X.iadd (pc' := 10) dX11_valueOf_9 rfl ?_
  obtain ⟨v4, e3, h⟩ := bindE h
  refine X.iald (pc' := 11) dX11_valueOf_10 rfl e3 ?_
  refine X.ldc (v := 999999) (pc' := 13) dX11_valueOf_11 rfl (TBg_of 1523 (by decide +kernel) rfl) ?_
  refine X.icmp_lt (tgt := 20) (pc' := 16) dX11_valueOf_13 (by decide) rfl (fun hc => ?_) (fun hc => ?_)
  · rw [if_pos hc] at h
    refine X.aload_n (x := a0) (pc' := 21) dX11_valueOf_20 rfl rfl rfl ?_
    obtain ⟨r5, e6, h⟩ := bindE h
    refine X.getf (pc' := 24) dX11_valueOf_21 rfl fq_X11_35 (gP_spec e6) ?_
    refine X.bipush (v := 7) (pc' := 26) dX11_valueOf_24 rfl (by decide) ?_
    refine X.iload_n (x := a1) (pc' := 27) dX11_valueOf_26 rfl rfl rfl ?_
    refine X.imul (pc' := 28) dX11_valueOf_27 rfl ?_
    refine X.iload_n (x := a2) (pc' := 29) dX11_valueOf_28 rfl rfl rfl ?_
    refine X.iadd (pc' := 30) dX11_valueOf_29 rfl ?_
    obtain ⟨v8, e7, h⟩ := bindE h
    refine X.iald (pc' := 31) dX11_valueOf_30 rfl e7 ?_
    cases h
    exact X.iret (ty := .int) dX11_valueOf_31 rfl rfl (Nat.le_of_ble_eq_true rfl) (Nat.le_of_ble_eq_true rfl) rfl
  · rw [if_neg hc] at h
    refine X.iconst (v := (-1)) (pc' := 17) dX11_valueOf_16 rfl (by decide) ?_
    refine X.goto (pc' := 31) dX11_valueOf_17 (by decide) ?_
    cases h
    exact X.iret (ty := .int) dX11_valueOf_31 rfl rfl (Nat.le_of_ble_eq_true rfl) (Nat.le_of_ble_eq_true rfl) rfl
def f_X11_value_28 (fu : Nat) (a0 : Nat) (a1 : Int32) (a2 : Int32) (b0 : Nat) (b1 : Int32) (M : List Ob) : Option (Int32 × List Ob) :=
  (pF M b0 11 4 (.int b1)).bind fun M1 =>
  (gI M1 a0 11 4).bind fun v3 =>
  if v3 ≤ 0 then ((hasO M1 a0 11).bind fun _ =>
  bd2 (f_X11_plays fu a0 M1) fun _ M6 =>
  (hasO M6 a0 11).bind fun _ =>
  bd2 (f_X11_valueOf fu a0 a1 a2 M6) fun v9 M10 =>
  some (v9, M10))
  else (some (0, M1))
set_option maxHeartbeats 4000000 in
theorem ok_X11_value_28 {G : GT} {fu : Nat} {out : Int32 × List Ob} {a0 : Nat} {a1 : Int32} {a2 : Int32} {b0 : Nat} {b1 : Int32} {M : List Ob} (h : f_X11_value_28 fu a0 a1 a2 b0 b1 M = some out) : X G t_X11_value [] 28 [some (.ref a0), some (.int a1), some (.int a2)] [.int b1, .ref b0] M 0 0 (oI out) := by
  unfold f_X11_value_28 at h
  obtain ⟨M1, e2, h⟩ := bindE h
  refine X.putf (pc' := 31) dX11_value_28 rfl fq_X11_56 rfl rfl e2 ?_
  refine X.aload_n (x := a0) (pc' := 32) dX11_value_31 rfl rfl rfl ?_
  obtain ⟨v3, e4, h⟩ := bindE h
  refine X.getf (pc' := 35) dX11_value_32 rfl fq_X11_56 (gI_spec e4) ?_
  refine X.if_le (tgt := 40) (pc' := 38) dX11_value_35 (by decide) rfl (fun hc => ?_) (fun hc => ?_)
  · rw [if_pos hc] at h
    refine X.aload_n (x := a0) (pc' := 41) dX11_value_40 rfl rfl rfl ?_
    obtain ⟨⟨⟩, e8, h⟩ := bindE h
    obtain ⟨r5, M6, e7, h⟩ := bd2E h
    refine X.callV (b := a0) (v := none) (As := []) (st := []) (M' := M6) (pc' := 44) dX11_value_41 rfl cl_X11_278 mi_X11_plays me_X11_plays mr_X11_plays e8 ⟨⟨Nat.le_of_ble_eq_true rfl, Nat.le_of_ble_eq_true rfl⟩, Nat.le_of_ble_eq_true rfl, Nat.le_of_ble_eq_true rfl⟩ rfl (Nat.le_of_ble_eq_true rfl) (ok_X11_plays (G := zs G) e7) ?_
    show X G t_X11_value [] 44 [some (.ref a0), some (.int a1), some (.int a2)] [] M6 0 0 _
    refine X.aload_n (x := a0) (pc' := 45) dX11_value_44 rfl rfl rfl ?_
    refine X.iload_n (x := a1) (pc' := 46) dX11_value_45 rfl rfl rfl ?_
    refine X.iload_n (x := a2) (pc' := 47) dX11_value_46 rfl rfl rfl ?_
    obtain ⟨⟨⟩, e12, h⟩ := bindE h
    obtain ⟨v9, M10, e11, h⟩ := bd2E h
    refine X.callV (b := a0) (v := some (.int v9)) (As := [.int a1, .int a2]) (st := []) (M' := M10) (pc' := 50) dX11_value_47 rfl cl_X11_281 mi_X11_valueOf me_X11_valueOf mr_X11_valueOf e12 ⟨⟨Nat.le_of_ble_eq_true rfl, Nat.le_of_ble_eq_true rfl⟩, Nat.le_of_ble_eq_true rfl, Nat.le_of_ble_eq_true rfl⟩ rfl (Nat.le_of_ble_eq_true rfl) (ok_X11_valueOf (G := zs G) e11) ?_
    show X G t_X11_value [] 50 [some (.ref a0), some (.int a1), some (.int a2)] [.int v9] M10 0 0 _
    cases h
    exact X.iret (ty := .int) dX11_value_50 rfl rfl (Nat.le_of_ble_eq_true rfl) (Nat.le_of_ble_eq_true rfl) rfl
  · rw [if_neg hc] at h
    refine X.iconst (v := 0) (pc' := 39) dX11_value_38 rfl (by decide) ?_
    cases h
    exact X.iret (ty := .int) dX11_value_39 rfl rfl (Nat.le_of_ble_eq_true rfl) (Nat.le_of_ble_eq_true rfl) rfl
def f_X11_value (fu : Nat) (a0 : Nat) (a1 : Int32) (a2 : Int32) (M : List Ob) : Option (Int32 × List Ob) :=
  (hasO M a0 11).bind fun _ =>
  bd2 (f_X11_isNode fu a0 a1 M) fun v1 M2 =>
  if v1 = 0 then (f_X11_value_28 fu a0 a1 a2 a0 1 M2)
  else (bd2 (f_X11_isIn fu a2 0 6 M2) fun v5 M6 =>
  if v5 = 0 then (f_X11_value_28 fu a0 a1 a2 a0 2 M6)
  else (f_X11_value_28 fu a0 a1 a2 a0 0 M6))
set_option maxHeartbeats 4000000 in
theorem ok_X11_value {G : GT} {fu : Nat} {a0 : Nat} {a1 : Int32} {a2 : Int32} {M : List Ob} {out : Int32 × List Ob} (h : f_X11_value fu a0 a1 a2 M = some out) : Sp G t_X11_value [.ref a0, .int a1, .int a2] M (oI out) := by
  refine Sp.of rfl (by decide +kernel) (cat_all rfl) (Nat.le_of_ble_eq_true rfl) ?_
  show X G t_X11_value [] 0 [some (.ref a0), some (.int a1), some (.int a2)] [] M 0 0 (oI out)
  unfold f_X11_value at h
  refine X.aload_n (x := a0) (pc' := 1) dX11_value_0 rfl rfl rfl ?_
  refine X.aload_n (x := a0) (pc' := 2) dX11_value_1 rfl rfl rfl ?_
  refine X.iload_n (x := a1) (pc' := 3) dX11_value_2 rfl rfl rfl ?_
  obtain ⟨⟨⟩, e4, h⟩ := bindE h
  obtain ⟨v1, M2, e3, h⟩ := bd2E h
  refine X.callV (b := a0) (v := some (.int v1)) (As := [.int a1]) (st := [.ref a0]) (M' := M2) (pc' := 6) dX11_value_3 rfl cl_X11_193 mi_X11_isNode me_X11_isNode mr_X11_isNode e4 ⟨⟨Nat.le_of_ble_eq_true rfl, Nat.le_of_ble_eq_true rfl⟩, Nat.le_of_ble_eq_true rfl, Nat.le_of_ble_eq_true rfl⟩ rfl (Nat.le_of_ble_eq_true rfl) (ok_X11_isNode (G := zs G) e3) ?_
  show X G t_X11_value [] 6 [some (.ref a0), some (.int a1), some (.int a2)] [.int v1, .ref a0] M2 0 0 _
  refine X.if_ne (tgt := 13) (pc' := 9) dX11_value_6 (by decide) rfl (fun hc => ?_) (fun hc => ?_)
  · rw [if_neg hc] at h
    refine X.iload_n (x := a2) (pc' := 14) dX11_value_13 rfl rfl rfl ?_
    refine X.iconst (v := 0) (pc' := 15) dX11_value_14 rfl (by decide) ?_
    refine X.bipush (v := 6) (pc' := 17) dX11_value_15 rfl (by decide) ?_
    obtain ⟨v5, M6, e7, h⟩ := bd2E h
    refine X.callS (v := some (.int v5)) (As := [.int a2, .int 0, .int 6]) (st := [.ref a0]) (M' := M6) (pc' := 20) dX11_value_17 rfl cl_X11_72 ms_X11_isIn ⟨⟨Nat.le_of_ble_eq_true rfl, Nat.le_of_ble_eq_true rfl⟩, Nat.le_of_ble_eq_true rfl, Nat.le_of_ble_eq_true rfl⟩ rfl (Nat.le_of_ble_eq_true rfl) (ok_X11_isIn (G := zs G) e7) ?_
    show X G t_X11_value [] 20 [some (.ref a0), some (.int a1), some (.int a2)] [.int v5, .ref a0] M6 0 0 _
    refine X.if_eq (tgt := 27) (pc' := 23) dX11_value_20 (by decide) rfl (fun hc => ?_) (fun hc => ?_)
    · rw [if_pos hc] at h
      refine X.iconst (v := 2) (pc' := 28) dX11_value_27 rfl (by decide) ?_
      exact ok_X11_value_28 h
    · rw [if_neg hc] at h
      refine X.iconst (v := 0) (pc' := 24) dX11_value_23 rfl (by decide) ?_
      refine X.goto (pc' := 28) dX11_value_24 (by decide) ?_
      exact ok_X11_value_28 h
  · rw [if_pos hc] at h
    refine X.iconst (v := 1) (pc' := 10) dX11_value_9 rfl (by decide) ?_
    refine X.goto (pc' := 28) dX11_value_10 (by decide) ?_
    exact ok_X11_value_28 h
def f_X11_bestNext_28 (fu : Nat) (a0 : Nat) (a1 : Int32) (a2 : Int32) (b0 : Nat) (b1 : Int32) (M : List Ob) : Option (Int32 × List Ob) :=
  (pF M b0 11 4 (.int b1)).bind fun M1 =>
  (gI M1 a0 11 4).bind fun v3 =>
  if v3 ≤ 0 then ((hasO M1 a0 11).bind fun _ =>
  bd2 (f_X11_plays fu a0 M1) fun _ M6 =>
  (gP M6 a0 11 0).bind fun r9 =>
  (aI M6 r9 13 2).bind fun v12 =>
  if a1 = v12 then (some ((-1), M6))
  else ((gP M6 a0 11 24).bind fun r13 =>
  (hasO M6 a0 11).bind fun _ =>
  bd2 (f_X11_bestBy fu a0 r13 a1 a2 M6) fun v15 M16 =>
  some (v15, M16)))
  else (some (0, M1))
set_option maxHeartbeats 4000000 in
theorem ok_X11_bestNext_28 {G : GT} {fu : Nat} {out : Int32 × List Ob} {a0 : Nat} {a1 : Int32} {a2 : Int32} {b0 : Nat} {b1 : Int32} {M : List Ob} (h : f_X11_bestNext_28 fu a0 a1 a2 b0 b1 M = some out) : X G t_X11_bestNext [] 28 [some (.ref a0), some (.int a1), some (.int a2)] [.int b1, .ref b0] M 0 0 (oI out) := by
  unfold f_X11_bestNext_28 at h
  obtain ⟨M1, e2, h⟩ := bindE h
  refine X.putf (pc' := 31) dX11_bestNext_28 rfl fq_X11_56 rfl rfl e2 ?_
  refine X.aload_n (x := a0) (pc' := 32) dX11_bestNext_31 rfl rfl rfl ?_
  obtain ⟨v3, e4, h⟩ := bindE h
  refine X.getf (pc' := 35) dX11_bestNext_32 rfl fq_X11_56 (gI_spec e4) ?_
  refine X.if_le (tgt := 40) (pc' := 38) dX11_bestNext_35 (by decide) rfl (fun hc => ?_) (fun hc => ?_)
  · rw [if_pos hc] at h
    refine X.aload_n (x := a0) (pc' := 41) dX11_bestNext_40 rfl rfl rfl ?_
    obtain ⟨⟨⟩, e8, h⟩ := bindE h
    obtain ⟨r5, M6, e7, h⟩ := bd2E h
    refine X.callV (b := a0) (v := none) (As := []) (st := []) (M' := M6) (pc' := 44) dX11_bestNext_41 rfl cl_X11_278 mi_X11_plays me_X11_plays mr_X11_plays e8 ⟨⟨Nat.le_of_ble_eq_true rfl, Nat.le_of_ble_eq_true rfl⟩, Nat.le_of_ble_eq_true rfl, Nat.le_of_ble_eq_true rfl⟩ rfl (Nat.le_of_ble_eq_true rfl) (ok_X11_plays (G := zs G) e7) ?_
    show X G t_X11_bestNext [] 44 [some (.ref a0), some (.int a1), some (.int a2)] [] M6 0 0 _
    refine X.iload_n (x := a1) (pc' := 45) dX11_bestNext_44 rfl rfl rfl ?_
    refine X.aload_n (x := a0) (pc' := 46) dX11_bestNext_45 rfl rfl rfl ?_
    obtain ⟨r9, e10, h⟩ := bindE h
    refine X.getf (pc' := 49) dX11_bestNext_46 rfl fq_X11_7 (gP_spec e10) ?_
    refine X.iconst (v := 2) (pc' := 50) dX11_bestNext_49 rfl (by decide) ?_
    obtain ⟨v12, e11, h⟩ := bindE h
    refine X.iald (pc' := 51) dX11_bestNext_50 rfl e11 ?_
    refine X.icmp_ne (tgt := 58) (pc' := 54) dX11_bestNext_51 (by decide) rfl (fun hc => ?_) (fun hc => ?_)
    · rw [if_neg hc] at h
      refine X.aload_n (x := a0) (pc' := 59) dX11_bestNext_58 rfl rfl rfl ?_
      refine X.aload_n (x := a0) (pc' := 60) dX11_bestNext_59 rfl rfl rfl ?_
      obtain ⟨r13, e14, h⟩ := bindE h
      refine X.getf (pc' := 63) dX11_bestNext_60 rfl fq_X11_35 (gP_spec e14) ?_
      refine X.iload_n (x := a1) (pc' := 64) dX11_bestNext_63 rfl rfl rfl ?_
      refine X.iload_n (x := a2) (pc' := 65) dX11_bestNext_64 rfl rfl rfl ?_
      obtain ⟨⟨⟩, e18, h⟩ := bindE h
      obtain ⟨v15, M16, e17, h⟩ := bd2E h
      refine X.callV (b := a0) (v := some (.int v15)) (As := [.ref r13, .int a1, .int a2]) (st := []) (M' := M16) (pc' := 68) dX11_bestNext_65 rfl cl_X11_275 mi_X11_bestBy me_X11_bestBy mr_X11_bestBy e18 ⟨⟨Nat.le_of_ble_eq_true rfl, Nat.le_of_ble_eq_true rfl⟩, Nat.le_of_ble_eq_true rfl, Nat.le_of_ble_eq_true rfl⟩ rfl (Nat.le_of_ble_eq_true rfl) (ok_X11_bestBy (G := zs G) e17) ?_
      show X G t_X11_bestNext [] 68 [some (.ref a0), some (.int a1), some (.int a2)] [.int v15] M16 0 0 _
      cases h
      exact X.iret (ty := .int) dX11_bestNext_68 rfl rfl (Nat.le_of_ble_eq_true rfl) (Nat.le_of_ble_eq_true rfl) rfl
    · rw [if_pos hc] at h
      refine X.iconst (v := (-1)) (pc' := 55) dX11_bestNext_54 rfl (by decide) ?_
      refine X.goto (pc' := 68) dX11_bestNext_55 (by decide) ?_
      cases h
      exact X.iret (ty := .int) dX11_bestNext_68 rfl rfl (Nat.le_of_ble_eq_true rfl) (Nat.le_of_ble_eq_true rfl) rfl
  · rw [if_neg hc] at h
    refine X.iconst (v := 0) (pc' := 39) dX11_bestNext_38 rfl (by decide) ?_
    cases h
    exact X.iret (ty := .int) dX11_bestNext_39 rfl rfl (Nat.le_of_ble_eq_true rfl) (Nat.le_of_ble_eq_true rfl) rfl
def f_X11_bestNext (fu : Nat) (a0 : Nat) (a1 : Int32) (a2 : Int32) (M : List Ob) : Option (Int32 × List Ob) :=
  (hasO M a0 11).bind fun _ =>
  bd2 (f_X11_isNode fu a0 a1 M) fun v1 M2 =>
  if v1 = 0 then (f_X11_bestNext_28 fu a0 a1 a2 a0 1 M2)
  else (bd2 (f_X11_isIn fu a2 0 6 M2) fun v5 M6 =>
  if v5 = 0 then (f_X11_bestNext_28 fu a0 a1 a2 a0 2 M6)
  else (f_X11_bestNext_28 fu a0 a1 a2 a0 0 M6))
set_option maxHeartbeats 4000000 in
theorem ok_X11_bestNext {G : GT} {fu : Nat} {a0 : Nat} {a1 : Int32} {a2 : Int32} {M : List Ob} {out : Int32 × List Ob} (h : f_X11_bestNext fu a0 a1 a2 M = some out) : Sp G t_X11_bestNext [.ref a0, .int a1, .int a2] M (oI out) := by
  refine Sp.of rfl (by decide +kernel) (cat_all rfl) (Nat.le_of_ble_eq_true rfl) ?_
  show X G t_X11_bestNext [] 0 [some (.ref a0), some (.int a1), some (.int a2)] [] M 0 0 (oI out)
  unfold f_X11_bestNext at h
  refine X.aload_n (x := a0) (pc' := 1) dX11_bestNext_0 rfl rfl rfl ?_
  refine X.aload_n (x := a0) (pc' := 2) dX11_bestNext_1 rfl rfl rfl ?_
  refine X.iload_n (x := a1) (pc' := 3) dX11_bestNext_2 rfl rfl rfl ?_
  obtain ⟨⟨⟩, e4, h⟩ := bindE h
  obtain ⟨v1, M2, e3, h⟩ := bd2E h
  refine X.callV (b := a0) (v := some (.int v1)) (As := [.int a1]) (st := [.ref a0]) (M' := M2) (pc' := 6) dX11_bestNext_3 rfl cl_X11_193 mi_X11_isNode me_X11_isNode mr_X11_isNode e4 ⟨⟨Nat.le_of_ble_eq_true rfl, Nat.le_of_ble_eq_true rfl⟩, Nat.le_of_ble_eq_true rfl, Nat.le_of_ble_eq_true rfl⟩ rfl (Nat.le_of_ble_eq_true rfl) (ok_X11_isNode (G := zs G) e3) ?_
  show X G t_X11_bestNext [] 6 [some (.ref a0), some (.int a1), some (.int a2)] [.int v1, .ref a0] M2 0 0 _
  refine X.if_ne (tgt := 13) (pc' := 9) dX11_bestNext_6 (by decide) rfl (fun hc => ?_) (fun hc => ?_)
  · rw [if_neg hc] at h
    refine X.iload_n (x := a2) (pc' := 14) dX11_bestNext_13 rfl rfl rfl ?_
    refine X.iconst (v := 0) (pc' := 15) dX11_bestNext_14 rfl (by decide) ?_
    refine X.bipush (v := 6) (pc' := 17) dX11_bestNext_15 rfl (by decide) ?_
    obtain ⟨v5, M6, e7, h⟩ := bd2E h
    refine X.callS (v := some (.int v5)) (As := [.int a2, .int 0, .int 6]) (st := [.ref a0]) (M' := M6) (pc' := 20) dX11_bestNext_17 rfl cl_X11_72 ms_X11_isIn ⟨⟨Nat.le_of_ble_eq_true rfl, Nat.le_of_ble_eq_true rfl⟩, Nat.le_of_ble_eq_true rfl, Nat.le_of_ble_eq_true rfl⟩ rfl (Nat.le_of_ble_eq_true rfl) (ok_X11_isIn (G := zs G) e7) ?_
    show X G t_X11_bestNext [] 20 [some (.ref a0), some (.int a1), some (.int a2)] [.int v5, .ref a0] M6 0 0 _
    refine X.if_eq (tgt := 27) (pc' := 23) dX11_bestNext_20 (by decide) rfl (fun hc => ?_) (fun hc => ?_)
    · rw [if_pos hc] at h
      refine X.iconst (v := 2) (pc' := 28) dX11_bestNext_27 rfl (by decide) ?_
      exact ok_X11_bestNext_28 h
    · rw [if_neg hc] at h
      refine X.iconst (v := 0) (pc' := 24) dX11_bestNext_23 rfl (by decide) ?_
      refine X.goto (pc' := 28) dX11_bestNext_24 (by decide) ?_
      exact ok_X11_bestNext_28 h
  · rw [if_pos hc] at h
    refine X.iconst (v := 1) (pc' := 10) dX11_bestNext_9 rfl (by decide) ?_
    refine X.goto (pc' := 28) dX11_bestNext_10 (by decide) ?_
    exact ok_X11_bestNext_28 h
def f_X11_canStep_60 (fu : Nat) (M : List Ob) : Option (Int32 × List Ob) :=
  some (1, M)
set_option maxHeartbeats 4000000 in
theorem ok_X11_canStep_60 {G : GT} {fu : Nat} {out : Int32 × List Ob} {M : List Ob} (h : f_X11_canStep_60 fu  M = some out) : X G t_X11_canStep [] 60 [none, none, none] [] M 0 0 (oI out) := by
  unfold f_X11_canStep_60 at h
  refine X.iconst (v := 1) (pc' := 61) dX11_canStep_60 rfl (by decide) ?_
  refine X.goto (pc' := 65) dX11_canStep_61 (by decide) ?_
  cases h
  exact X.iret (ty := .boolean) dX11_canStep_65 rfl rfl (Nat.le_of_ble_eq_true rfl) (Nat.le_of_ble_eq_true rfl) rfl
def f_X11_canStep (fu : Nat) (a0 : Nat) (a1 : Int32) (a2 : Int32) (M : List Ob) : Option (Int32 × List Ob) :=
  (gP M a0 11 0).bind fun r1 =>
  (aI M r1 13 126).bind fun v4 =>
  (gP M a0 11 0).bind fun r5 =>
  (aI M r5 13 2).bind fun v8 =>
  if v4 = v8 then (some (0, M))
  else ((gP M a0 11 0).bind fun r9 =>
  (aI M r9 13 129).bind fun v12 =>
  if 20 ≤ v12 then (some (0, M))
  else ((hasO M a0 11).bind fun _ =>
  bd2 (f_X11_of fu a0 a1 0 M) fun v13 M14 =>
  (gP M14 a0 11 0).bind fun r17 =>
  (aI M14 r17 13 126).bind fun v20 =>
  if v13 = v20 then (if a2 = 0 then (f_X11_canStep_60 fu M14)
  else ((gP M14 a0 11 0).bind fun r21 =>
  (aI M14 r21 13 128).bind fun v24 =>
  if v24 ≤ 0 then (some (0, M14))
  else (f_X11_canStep_60 fu M14)))
  else (some (0, M14))))
set_option maxHeartbeats 4000000 in
theorem ok_X11_canStep {G : GT} {fu : Nat} {a0 : Nat} {a1 : Int32} {a2 : Int32} {M : List Ob} {out : Int32 × List Ob} (h : f_X11_canStep fu a0 a1 a2 M = some out) : Sp G t_X11_canStep [.ref a0, .int a1, .int a2] M (oI out) := by
  refine Sp.of rfl (by decide +kernel) (cat_all rfl) (Nat.le_of_ble_eq_true rfl) ?_
  show X G t_X11_canStep [] 0 [some (.ref a0), some (.int a1), some (.int a2)] [] M 0 0 (oI out)
  unfold f_X11_canStep at h
  refine X.aload_n (x := a0) (pc' := 1) dX11_canStep_0 rfl rfl rfl ?_
  obtain ⟨r1, e2, h⟩ := bindE h
  refine X.getf (pc' := 4) dX11_canStep_1 rfl fq_X11_7 (gP_spec e2) ?_
  refine X.bipush (v := 126) (pc' := 6) dX11_canStep_4 rfl (by decide) ?_
  obtain ⟨v4, e3, h⟩ := bindE h
  refine X.iald (pc' := 7) dX11_canStep_6 rfl e3 ?_
  refine X.aload_n (x := a0) (pc' := 8) dX11_canStep_7 rfl rfl rfl ?_
  obtain ⟨r5, e6, h⟩ := bindE h
  refine X.getf (pc' := 11) dX11_canStep_8 rfl fq_X11_7 (gP_spec e6) ?_
  refine X.iconst (v := 2) (pc' := 12) dX11_canStep_11 rfl (by decide) ?_
  obtain ⟨v8, e7, h⟩ := bindE h
  refine X.iald (pc' := 13) dX11_canStep_12 rfl e7 ?_
  refine X.icmp_eq (tgt := 64) (pc' := 16) dX11_canStep_13 (by decide) rfl (fun hc => ?_) (fun hc => ?_)
  · rw [if_pos hc] at h
    refine X.iconst (v := 0) (pc' := 65) dX11_canStep_64 rfl (by decide) ?_
    cases h
    exact X.iret (ty := .boolean) dX11_canStep_65 rfl rfl (Nat.le_of_ble_eq_true rfl) (Nat.le_of_ble_eq_true rfl) rfl
  · rw [if_neg hc] at h
    refine X.aload_n (x := a0) (pc' := 17) dX11_canStep_16 rfl rfl rfl ?_
    obtain ⟨r9, e10, h⟩ := bindE h
    refine X.getf (pc' := 20) dX11_canStep_17 rfl fq_X11_7 (gP_spec e10) ?_
    refine X.sipush (v := 129) (pc' := 23) dX11_canStep_20 rfl (by decide) ?_
    obtain ⟨v12, e11, h⟩ := bindE h
    refine X.iald (pc' := 24) dX11_canStep_23 rfl e11 ?_
    refine X.bipush (v := 20) (pc' := 26) dX11_canStep_24 rfl (by decide) ?_
    refine X.icmp_ge (tgt := 64) (pc' := 29) dX11_canStep_26 (by decide) rfl (fun hc => ?_) (fun hc => ?_)
    · rw [if_pos hc] at h
      refine X.iconst (v := 0) (pc' := 65) dX11_canStep_64 rfl (by decide) ?_
      cases h
      exact X.iret (ty := .boolean) dX11_canStep_65 rfl rfl (Nat.le_of_ble_eq_true rfl) (Nat.le_of_ble_eq_true rfl) rfl
    · rw [if_neg hc] at h
      refine X.aload_n (x := a0) (pc' := 30) dX11_canStep_29 rfl rfl rfl ?_
      refine X.iload_n (x := a1) (pc' := 31) dX11_canStep_30 rfl rfl rfl ?_
      refine X.iconst (v := 0) (pc' := 32) dX11_canStep_31 rfl (by decide) ?_
      obtain ⟨⟨⟩, e16, h⟩ := bindE h
      obtain ⟨v13, M14, e15, h⟩ := bd2E h
      refine X.callV (b := a0) (v := some (.int v13)) (As := [.int a1, .int 0]) (st := []) (M' := M14) (pc' := 35) dX11_canStep_32 rfl cl_X11_190 mi_X11_of me_X11_of mr_X11_of e16 ⟨⟨Nat.le_of_ble_eq_true rfl, Nat.le_of_ble_eq_true rfl⟩, Nat.le_of_ble_eq_true rfl, Nat.le_of_ble_eq_true rfl⟩ rfl (Nat.le_of_ble_eq_true rfl) (ok_X11_of (G := zs G) e15) ?_
      show X G t_X11_canStep [] 35 [some (.ref a0), some (.int a1), some (.int a2)] [.int v13] M14 0 0 _
      refine X.aload_n (x := a0) (pc' := 36) dX11_canStep_35 rfl rfl rfl ?_
      obtain ⟨r17, e18, h⟩ := bindE h
      refine X.getf (pc' := 39) dX11_canStep_36 rfl fq_X11_7 (gP_spec e18) ?_
      refine X.bipush (v := 126) (pc' := 41) dX11_canStep_39 rfl (by decide) ?_
      obtain ⟨v20, e19, h⟩ := bindE h
      refine X.iald (pc' := 42) dX11_canStep_41 rfl e19 ?_
      refine X.icmp_ne (tgt := 64) (pc' := 45) dX11_canStep_42 (by decide) rfl (fun hc => ?_) (fun hc => ?_)
      · rw [if_neg hc] at h
        refine X.iconst (v := 0) (pc' := 65) dX11_canStep_64 rfl (by decide) ?_
        cases h
        exact X.iret (ty := .boolean) dX11_canStep_65 rfl rfl (Nat.le_of_ble_eq_true rfl) (Nat.le_of_ble_eq_true rfl) rfl
      · rw [if_pos hc] at h
        refine X.iload_n (x := a2) (pc' := 46) dX11_canStep_45 rfl rfl rfl ?_
        refine X.if_eq (tgt := 60) (pc' := 49) dX11_canStep_46 (by decide) rfl (fun hc => ?_) (fun hc => ?_)
        · rw [if_pos hc] at h
          refine X.sub (L := [none, none, none]) ?_ (trivial)
          exact ok_X11_canStep_60 h
        · rw [if_neg hc] at h
          refine X.aload_n (x := a0) (pc' := 50) dX11_canStep_49 rfl rfl rfl ?_
          obtain ⟨r21, e22, h⟩ := bindE h
          refine X.getf (pc' := 53) dX11_canStep_50 rfl fq_X11_7 (gP_spec e22) ?_
          refine X.sipush (v := 128) (pc' := 56) dX11_canStep_53 rfl (by decide) ?_
          obtain ⟨v24, e23, h⟩ := bindE h
          refine X.iald (pc' := 57) dX11_canStep_56 rfl e23 ?_
          refine X.if_le (tgt := 64) (pc' := 60) dX11_canStep_57 (by decide) rfl (fun hc => ?_) (fun hc => ?_)
          · rw [if_pos hc] at h
            refine X.iconst (v := 0) (pc' := 65) dX11_canStep_64 rfl (by decide) ?_
            cases h
            exact X.iret (ty := .boolean) dX11_canStep_65 rfl rfl (Nat.le_of_ble_eq_true rfl) (Nat.le_of_ble_eq_true rfl) rfl
          · rw [if_neg hc] at h
            refine X.sub (L := [none, none, none]) ?_ (trivial)
            exact ok_X11_canStep_60 h
def f_X11_step_146 (fu : Nat) (a0 : Nat) (b0 : Nat) (b1 : Int32) (b2 : Int32) (b3 : Int32) (M : List Ob) : Option (Int32 × List Ob) :=
  (aSet M b0 13 b1 (.int (b2 - b3))).bind fun M2 =>
  (gP M2 a0 11 0).bind fun r3 =>
  (aI M2 r3 13 127).bind fun v6 =>
  some (v6, M2)
set_option maxHeartbeats 4000000 in
theorem ok_X11_step_146 {G : GT} {fu : Nat} {out : Int32 × List Ob} {a0 : Nat} {b0 : Nat} {b1 : Int32} {b2 : Int32} {b3 : Int32} {M : List Ob} (h : f_X11_step_146 fu a0 b0 b1 b2 b3 M = some out) : X G t_X11_step [] 146 [some (.ref a0), none, none] [.int b3, .int b2, .int b1, .ref b0] M 0 0 (oI out) := by
  unfold f_X11_step_146 at h
  refine X.isub (pc' := 147) dX11_step_146 rfl ?_
  obtain ⟨M2, e1, h⟩ := bindE h
  refine X.iast (pc' := 148) dX11_step_147 rfl e1 ?_
  refine X.aload_n (x := a0) (pc' := 149) dX11_step_148 rfl rfl rfl ?_
  obtain ⟨r3, e4, h⟩ := bindE h
  refine X.getf (pc' := 152) dX11_step_149 rfl fq_X11_7 (gP_spec e4) ?_
  refine X.bipush (v := 127) (pc' := 154) dX11_step_152 rfl (by decide) ?_
  obtain ⟨v6, e5, h⟩ := bindE h
  refine X.iald (pc' := 155) dX11_step_154 rfl e5 ?_
  cases h
  exact X.iret (ty := .int) dX11_step_155 rfl rfl (Nat.le_of_ble_eq_true rfl) (Nat.le_of_ble_eq_true rfl) rfl
def f_X11_step_125 (fu : Nat) (a0 : Nat) (a2 : Int32) (b0 : Nat) (b1 : Int32) (b2 : Int32) (b3 : Int32) (b4 : Int32) (M : List Ob) : Option (Int32 × List Ob) :=
  (aSet M b0 13 b1 (.int (b2 + (b3 + b4)))).bind fun M2 =>
  (gP M2 a0 11 0).bind fun r3 =>
  (aI M2 r3 13 128).bind fun v6 =>
  if a2 = 0 then (f_X11_step_146 fu a0 r3 128 v6 0 M2)
  else (f_X11_step_146 fu a0 r3 128 v6 1 M2)
set_option maxHeartbeats 4000000 in
theorem ok_X11_step_125 {G : GT} {fu : Nat} {out : Int32 × List Ob} {a0 : Nat} {a2 : Int32} {b0 : Nat} {b1 : Int32} {b2 : Int32} {b3 : Int32} {b4 : Int32} {M : List Ob} (h : f_X11_step_125 fu a0 a2 b0 b1 b2 b3 b4 M = some out) : X G t_X11_step [] 125 [some (.ref a0), none, some (.int a2)] [.int b4, .int b3, .int b2, .int b1, .ref b0] M 0 0 (oI out) := by
  unfold f_X11_step_125 at h
  refine X.iadd (pc' := 126) dX11_step_125 rfl ?_
  refine X.iadd (pc' := 127) dX11_step_126 rfl ?_
  obtain ⟨M2, e1, h⟩ := bindE h
  refine X.iast (pc' := 128) dX11_step_127 rfl e1 ?_
  refine X.aload_n (x := a0) (pc' := 129) dX11_step_128 rfl rfl rfl ?_
  obtain ⟨r3, e4, h⟩ := bindE h
  refine X.getf (pc' := 132) dX11_step_129 rfl fq_X11_7 (gP_spec e4) ?_
  refine X.sipush (v := 128) (pc' := 135) dX11_step_132 rfl (by decide) ?_
  refine X.dup2 (pc' := 136) dX11_step_135 rfl rfl rfl ?_
  obtain ⟨v6, e5, h⟩ := bindE h
  refine X.iald (pc' := 137) dX11_step_136 rfl e5 ?_
  refine X.iload_n (x := a2) (pc' := 138) dX11_step_137 rfl rfl rfl ?_
  refine X.if_eq (tgt := 145) (pc' := 141) dX11_step_138 (by decide) rfl (fun hc => ?_) (fun hc => ?_)
  · rw [if_pos hc] at h
    refine X.iconst (v := 0) (pc' := 146) dX11_step_145 rfl (by decide) ?_
    refine X.sub (L := [some (.ref a0), none, none]) ?_ (⟨rfl, trivial⟩)
    exact ok_X11_step_146 h
  · rw [if_neg hc] at h
    refine X.iconst (v := 1) (pc' := 142) dX11_step_141 rfl (by decide) ?_
    refine X.goto (pc' := 146) dX11_step_142 (by decide) ?_
    refine X.sub (L := [some (.ref a0), none, none]) ?_ (⟨rfl, trivial⟩)
    exact ok_X11_step_146 h
def f_X11_step_70 (fu : Nat) (a0 : Nat) (a1 : Int32) (a2 : Int32) (b0 : Nat) (b1 : Int32) (b2 : Int32) (b3 : Int32) (M : List Ob) : Option (Int32 × List Ob) :=
  (aSet M b0 13 b1 (.int (b2 + b3))).bind fun M2 =>
  (gP M2 a0 11 0).bind fun r3 =>
  (aI M2 r3 13 129).bind fun v6 =>
  (aSet M2 r3 13 129 (.int (v6 + 1))).bind fun M8 =>
  (gP M8 a0 11 0).bind fun r9 =>
  (hasO M8 a0 11).bind fun _ =>
  bd2 (f_X11_of fu a0 a1 1 M8) fun v11 M12 =>
  (aSet M12 r9 13 126 (.int v11)).bind fun M16 =>
  (gP M16 a0 11 0).bind fun r17 =>
  (aI M16 r17 13 127).bind fun v20 =>
  (hasO M16 a0 11).bind fun _ =>
  bd2 (f_X11_of fu a0 a1 2 M16) fun v21 M22 =>
  if a2 = 0 then (f_X11_step_125 fu a0 a2 r17 127 v20 v21 0 M22)
  else ((hasO M22 a0 11).bind fun _ =>
  bd2 (f_X11_of fu a0 a1 3 M22) fun v25 M26 =>
  f_X11_step_125 fu a0 a2 r17 127 v20 v21 v25 M26)
set_option maxHeartbeats 4000000 in
theorem ok_X11_step_70 {G : GT} {fu : Nat} {out : Int32 × List Ob} {a0 : Nat} {a1 : Int32} {a2 : Int32} {b0 : Nat} {b1 : Int32} {b2 : Int32} {b3 : Int32} {M : List Ob} (h : f_X11_step_70 fu a0 a1 a2 b0 b1 b2 b3 M = some out) : X G t_X11_step [] 70 [some (.ref a0), some (.int a1), some (.int a2)] [.int b3, .int b2, .int b1, .ref b0] M 0 0 (oI out) := by
  unfold f_X11_step_70 at h
  refine X.iadd (pc' := 71) dX11_step_70 rfl ?_
  obtain ⟨M2, e1, h⟩ := bindE h
  refine X.iast (pc' := 72) dX11_step_71 rfl e1 ?_
  refine X.aload_n (x := a0) (pc' := 73) dX11_step_72 rfl rfl rfl ?_
  obtain ⟨r3, e4, h⟩ := bindE h
  refine X.getf (pc' := 76) dX11_step_73 rfl fq_X11_7 (gP_spec e4) ?_
  refine X.sipush (v := 129) (pc' := 79) dX11_step_76 rfl (by decide) ?_
  refine X.dup2 (pc' := 80) dX11_step_79 rfl rfl rfl ?_
  obtain ⟨v6, e5, h⟩ := bindE h
  refine X.iald (pc' := 81) dX11_step_80 rfl e5 ?_
  refine X.iconst (v := 1) (pc' := 82) dX11_step_81 rfl (by decide) ?_
  refine X.iadd (pc' := 83) dX11_step_82 rfl ?_
  obtain ⟨M8, e7, h⟩ := bindE h
  refine X.iast (pc' := 84) dX11_step_83 rfl e7 ?_
  refine X.aload_n (x := a0) (pc' := 85) dX11_step_84 rfl rfl rfl ?_
  obtain ⟨r9, e10, h⟩ := bindE h
  refine X.getf (pc' := 88) dX11_step_85 rfl fq_X11_7 (gP_spec e10) ?_
  refine X.bipush (v := 126) (pc' := 90) dX11_step_88 rfl (by decide) ?_
  refine X.aload_n (x := a0) (pc' := 91) dX11_step_90 rfl rfl rfl ?_
  refine X.iload_n (x := a1) (pc' := 92) dX11_step_91 rfl rfl rfl ?_
  refine X.iconst (v := 1) (pc' := 93) dX11_step_92 rfl (by decide) ?_
  obtain ⟨⟨⟩, e14, h⟩ := bindE h
  obtain ⟨v11, M12, e13, h⟩ := bd2E h
  refine X.callV (b := a0) (v := some (.int v11)) (As := [.int a1, .int 1]) (st := [.int 126, .ref r9]) (M' := M12) (pc' := 96) dX11_step_93 rfl cl_X11_190 mi_X11_of me_X11_of mr_X11_of e14 ⟨⟨Nat.le_of_ble_eq_true rfl, Nat.le_of_ble_eq_true rfl⟩, Nat.le_of_ble_eq_true rfl, Nat.le_of_ble_eq_true rfl⟩ rfl (Nat.le_of_ble_eq_true rfl) (ok_X11_of (G := zs G) e13) ?_
  show X G t_X11_step [] 96 [some (.ref a0), some (.int a1), some (.int a2)] [.int v11, .int 126, .ref r9] M12 0 0 _
  obtain ⟨M16, e15, h⟩ := bindE h
  refine X.iast (pc' := 97) dX11_step_96 rfl e15 ?_
  refine X.aload_n (x := a0) (pc' := 98) dX11_step_97 rfl rfl rfl ?_
  obtain ⟨r17, e18, h⟩ := bindE h
  refine X.getf (pc' := 101) dX11_step_98 rfl fq_X11_7 (gP_spec e18) ?_
  refine X.bipush (v := 127) (pc' := 103) dX11_step_101 rfl (by decide) ?_
  refine X.dup2 (pc' := 104) dX11_step_103 rfl rfl rfl ?_
  obtain ⟨v20, e19, h⟩ := bindE h
  refine X.iald (pc' := 105) dX11_step_104 rfl e19 ?_
  refine X.aload_n (x := a0) (pc' := 106) dX11_step_105 rfl rfl rfl ?_
  refine X.iload_n (x := a1) (pc' := 107) dX11_step_106 rfl rfl rfl ?_
  refine X.iconst (v := 2) (pc' := 108) dX11_step_107 rfl (by decide) ?_
  obtain ⟨⟨⟩, e24, h⟩ := bindE h
  obtain ⟨v21, M22, e23, h⟩ := bd2E h
  refine X.callV (b := a0) (v := some (.int v21)) (As := [.int a1, .int 2]) (st := [.int v20, .int 127, .ref r17]) (M' := M22) (pc' := 111) dX11_step_108 rfl cl_X11_190 mi_X11_of me_X11_of mr_X11_of e24 ⟨⟨Nat.le_of_ble_eq_true rfl, Nat.le_of_ble_eq_true rfl⟩, Nat.le_of_ble_eq_true rfl, Nat.le_of_ble_eq_true rfl⟩ rfl (Nat.le_of_ble_eq_true rfl) (ok_X11_of (G := zs G) e23) ?_
  show X G t_X11_step [] 111 [some (.ref a0), some (.int a1), some (.int a2)] [.int v21, .int v20, .int 127, .ref r17] M22 0 0 _
  refine X.iload_n (x := a2) (pc' := 112) dX11_step_111 rfl rfl rfl ?_
  refine X.if_eq (tgt := 124) (pc' := 115) dX11_step_112 (by decide) rfl (fun hc => ?_) (fun hc => ?_)
  · rw [if_pos hc] at h
    refine X.iconst (v := 0) (pc' := 125) dX11_step_124 rfl (by decide) ?_
    refine X.sub (L := [some (.ref a0), none, some (.int a2)]) ?_ (⟨rfl, ⟨rfl, trivial⟩⟩)
    exact ok_X11_step_125 h
  · rw [if_neg hc] at h
    refine X.aload_n (x := a0) (pc' := 116) dX11_step_115 rfl rfl rfl ?_
    refine X.iload_n (x := a1) (pc' := 117) dX11_step_116 rfl rfl rfl ?_
    refine X.iconst (v := 3) (pc' := 118) dX11_step_117 rfl (by decide) ?_
    obtain ⟨⟨⟩, e28, h⟩ := bindE h
    obtain ⟨v25, M26, e27, h⟩ := bd2E h
    refine X.callV (b := a0) (v := some (.int v25)) (As := [.int a1, .int 3]) (st := [.int v21, .int v20, .int 127, .ref r17]) (M' := M26) (pc' := 121) dX11_step_118 rfl cl_X11_190 mi_X11_of me_X11_of mr_X11_of e28 ⟨⟨Nat.le_of_ble_eq_true rfl, Nat.le_of_ble_eq_true rfl⟩, Nat.le_of_ble_eq_true rfl, Nat.le_of_ble_eq_true rfl⟩ rfl (Nat.le_of_ble_eq_true rfl) (ok_X11_of (G := zs G) e27) ?_
    show X G t_X11_step [] 121 [some (.ref a0), some (.int a1), some (.int a2)] [.int v25, .int v21, .int v20, .int 127, .ref r17] M26 0 0 _
    refine X.goto (pc' := 125) dX11_step_121 (by decide) ?_
    refine X.sub (L := [some (.ref a0), none, some (.int a2)]) ?_ (⟨rfl, ⟨rfl, trivial⟩⟩)
    exact ok_X11_step_125 h
def f_X11_step_27 (fu : Nat) (a0 : Nat) (a1 : Int32) (a2 : Int32) (b0 : Nat) (b1 : Int32) (M : List Ob) : Option (Int32 × List Ob) :=
  (pF M b0 11 4 (.int b1)).bind fun M1 =>
  (gI M1 a0 11 4).bind fun v3 =>
  if v3 ≤ 0 then ((hasO M1 a0 11).bind fun _ =>
  bd2 (f_X11_keeps fu a0 M1) fun _ M6 =>
  (gP M6 a0 11 0).bind fun r9 =>
  (gP M6 a0 11 0).bind fun r11 =>
  (aI M6 r11 13 129).bind fun v14 =>
  if a2 = 0 then (f_X11_step_70 fu a0 a1 a2 r9 (130 + v14) a1 0 M6)
  else (f_X11_step_70 fu a0 a1 a2 r9 (130 + v14) a1 100 M6))
  else (some (0, M1))
set_option maxHeartbeats 4000000 in
theorem ok_X11_step_27 {G : GT} {fu : Nat} {out : Int32 × List Ob} {a0 : Nat} {a1 : Int32} {a2 : Int32} {b0 : Nat} {b1 : Int32} {M : List Ob} (h : f_X11_step_27 fu a0 a1 a2 b0 b1 M = some out) : X G t_X11_step [] 27 [some (.ref a0), some (.int a1), some (.int a2)] [.int b1, .ref b0] M 0 0 (oI out) := by
  unfold f_X11_step_27 at h
  obtain ⟨M1, e2, h⟩ := bindE h
  refine X.putf (pc' := 30) dX11_step_27 rfl fq_X11_56 rfl rfl e2 ?_
  refine X.aload_n (x := a0) (pc' := 31) dX11_step_30 rfl rfl rfl ?_
  obtain ⟨v3, e4, h⟩ := bindE h
  refine X.getf (pc' := 34) dX11_step_31 rfl fq_X11_56 (gI_spec e4) ?_
  refine X.if_le (tgt := 39) (pc' := 37) dX11_step_34 (by decide) rfl (fun hc => ?_) (fun hc => ?_)
  · rw [if_pos hc] at h
    refine X.aload_n (x := a0) (pc' := 40) dX11_step_39 rfl rfl rfl ?_
    obtain ⟨⟨⟩, e8, h⟩ := bindE h
    obtain ⟨r5, M6, e7, h⟩ := bd2E h
    refine X.callV (b := a0) (v := none) (As := []) (st := []) (M' := M6) (pc' := 43) dX11_step_40 rfl cl_X11_176 mi_X11_keeps me_X11_keeps mr_X11_keeps e8 ⟨⟨Nat.le_of_ble_eq_true rfl, Nat.le_of_ble_eq_true rfl⟩, Nat.le_of_ble_eq_true rfl, Nat.le_of_ble_eq_true rfl⟩ rfl (Nat.le_of_ble_eq_true rfl) (ok_X11_keeps (G := zs G) e7) ?_
    show X G t_X11_step [] 43 [some (.ref a0), some (.int a1), some (.int a2)] [] M6 0 0 _
    refine X.aload_n (x := a0) (pc' := 44) dX11_step_43 rfl rfl rfl ?_
    obtain ⟨r9, e10, h⟩ := bindE h
    refine X.getf (pc' := 47) dX11_step_44 rfl fq_X11_7 (gP_spec e10) ?_
    refine X.sipush (v := 130) (pc' := 50) dX11_step_47 rfl (by decide) ?_
    refine X.aload_n (x := a0) (pc' := 51) dX11_step_50 rfl rfl rfl ?_
    obtain ⟨r11, e12, h⟩ := bindE h
    refine X.getf (pc' := 54) dX11_step_51 rfl fq_X11_7 (gP_spec e12) ?_
    refine X.sipush (v := 129) (pc' := 57) dX11_step_54 rfl (by decide) ?_
    obtain ⟨v14, e13, h⟩ := bindE h
    refine X.iald (pc' := 58) dX11_step_57 rfl e13 ?_
    refine X.iadd (pc' := 59) dX11_step_58 rfl ?_
    refine X.iload_n (x := a1) (pc' := 60) dX11_step_59 rfl rfl rfl ?_
    refine X.iload_n (x := a2) (pc' := 61) dX11_step_60 rfl rfl rfl ?_
    refine X.if_eq (tgt := 69) (pc' := 64) dX11_step_61 (by decide) rfl (fun hc => ?_) (fun hc => ?_)
    · rw [if_pos hc] at h
      refine X.iconst (v := 0) (pc' := 70) dX11_step_69 rfl (by decide) ?_
      exact ok_X11_step_70 h
    · rw [if_neg hc] at h
      refine X.bipush (v := 100) (pc' := 66) dX11_step_64 rfl (by decide) ?_
      refine X.goto (pc' := 70) dX11_step_66 (by decide) ?_
      exact ok_X11_step_70 h
  · rw [if_neg hc] at h
    refine X.iconst (v := 0) (pc' := 38) dX11_step_37 rfl (by decide) ?_
    cases h
    exact X.iret (ty := .int) dX11_step_38 rfl rfl (Nat.le_of_ble_eq_true rfl) (Nat.le_of_ble_eq_true rfl) rfl
def f_X11_step (fu : Nat) (a0 : Nat) (a1 : Int32) (a2 : Int32) (M : List Ob) : Option (Int32 × List Ob) :=
  (hasO M a0 11).bind fun _ =>
  bd2 (f_X11_isArc fu a0 a1 M) fun v1 M2 =>
  if v1 = 0 then (f_X11_step_27 fu a0 a1 a2 a0 1 M2)
  else ((hasO M2 a0 11).bind fun _ =>
  bd2 (f_X11_canStep fu a0 a1 a2 M2) fun v5 M6 =>
  if v5 = 0 then (f_X11_step_27 fu a0 a1 a2 a0 2 M6)
  else (f_X11_step_27 fu a0 a1 a2 a0 0 M6))
set_option maxHeartbeats 4000000 in
theorem ok_X11_step {G : GT} {fu : Nat} {a0 : Nat} {a1 : Int32} {a2 : Int32} {M : List Ob} {out : Int32 × List Ob} (h : f_X11_step fu a0 a1 a2 M = some out) : Sp G t_X11_step [.ref a0, .int a1, .int a2] M (oI out) := by
  refine Sp.of rfl (by decide +kernel) (cat_all rfl) (Nat.le_of_ble_eq_true rfl) ?_
  show X G t_X11_step [] 0 [some (.ref a0), some (.int a1), some (.int a2)] [] M 0 0 (oI out)
  unfold f_X11_step at h
  refine X.aload_n (x := a0) (pc' := 1) dX11_step_0 rfl rfl rfl ?_
  refine X.aload_n (x := a0) (pc' := 2) dX11_step_1 rfl rfl rfl ?_
  refine X.iload_n (x := a1) (pc' := 3) dX11_step_2 rfl rfl rfl ?_
  obtain ⟨⟨⟩, e4, h⟩ := bindE h
  obtain ⟨v1, M2, e3, h⟩ := bd2E h
  refine X.callV (b := a0) (v := some (.int v1)) (As := [.int a1]) (st := [.ref a0]) (M' := M2) (pc' := 6) dX11_step_3 rfl cl_X11_187 mi_X11_isArc me_X11_isArc mr_X11_isArc e4 ⟨⟨Nat.le_of_ble_eq_true rfl, Nat.le_of_ble_eq_true rfl⟩, Nat.le_of_ble_eq_true rfl, Nat.le_of_ble_eq_true rfl⟩ rfl (Nat.le_of_ble_eq_true rfl) (ok_X11_isArc (G := zs G) e3) ?_
  show X G t_X11_step [] 6 [some (.ref a0), some (.int a1), some (.int a2)] [.int v1, .ref a0] M2 0 0 _
  refine X.if_ne (tgt := 13) (pc' := 9) dX11_step_6 (by decide) rfl (fun hc => ?_) (fun hc => ?_)
  · rw [if_neg hc] at h
    refine X.aload_n (x := a0) (pc' := 14) dX11_step_13 rfl rfl rfl ?_
    refine X.iload_n (x := a1) (pc' := 15) dX11_step_14 rfl rfl rfl ?_
    refine X.iload_n (x := a2) (pc' := 16) dX11_step_15 rfl rfl rfl ?_
    obtain ⟨⟨⟩, e8, h⟩ := bindE h
    obtain ⟨v5, M6, e7, h⟩ := bd2E h
    refine X.callV (b := a0) (v := some (.int v5)) (As := [.int a1, .int a2]) (st := [.ref a0]) (M' := M6) (pc' := 19) dX11_step_16 rfl cl_X11_284 mi_X11_canStep me_X11_canStep mr_X11_canStep e8 ⟨⟨Nat.le_of_ble_eq_true rfl, Nat.le_of_ble_eq_true rfl⟩, Nat.le_of_ble_eq_true rfl, Nat.le_of_ble_eq_true rfl⟩ rfl (Nat.le_of_ble_eq_true rfl) (ok_X11_canStep (G := zs G) e7) ?_
    show X G t_X11_step [] 19 [some (.ref a0), some (.int a1), some (.int a2)] [.int v5, .ref a0] M6 0 0 _
    refine X.if_eq (tgt := 26) (pc' := 22) dX11_step_19 (by decide) rfl (fun hc => ?_) (fun hc => ?_)
    · rw [if_pos hc] at h
      refine X.iconst (v := 2) (pc' := 27) dX11_step_26 rfl (by decide) ?_
      exact ok_X11_step_27 h
    · rw [if_neg hc] at h
      refine X.iconst (v := 0) (pc' := 23) dX11_step_22 rfl (by decide) ?_
      refine X.goto (pc' := 27) dX11_step_23 (by decide) ?_
      exact ok_X11_step_27 h
  · rw [if_pos hc] at h
    refine X.iconst (v := 1) (pc' := 10) dX11_step_9 rfl (by decide) ?_
    refine X.goto (pc' := 27) dX11_step_10 (by decide) ?_
    exact ok_X11_step_27 h
def f_X11_restart (fu : Nat) (a0 : Nat) (M : List Ob) : Option (Int32 × List Ob) :=
  (pF M a0 11 4 (.int 0)).bind fun M1 =>
  (hasO M1 a0 11).bind fun _ =>
  bd2 (f_X11_keeps fu a0 M1) fun _ M4 =>
  (gP M4 a0 11 0).bind fun r7 =>
  (aI M4 r7 13 129).bind fun v10 =>
  (gP M4 a0 11 0).bind fun r11 =>
  bd2 (f_X11_setsOut fu r11 M4) fun _ M14 =>
  some (v10, M14)
set_option maxHeartbeats 4000000 in
theorem ok_X11_restart {G : GT} {fu : Nat} {a0 : Nat} {M : List Ob} {out : Int32 × List Ob} (h : f_X11_restart fu a0 M = some out) : Sp G t_X11_restart [.ref a0] M (oI out) := by
  refine Sp.of rfl (by decide +kernel) (cat_all rfl) (Nat.le_of_ble_eq_true rfl) ?_
  show X G t_X11_restart [] 0 [some (.ref a0), none] [] M 0 0 (oI out)
  unfold f_X11_restart at h
  refine X.aload_n (x := a0) (pc' := 1) dX11_restart_0 rfl rfl rfl ?_
  refine X.iconst (v := 0) (pc' := 2) dX11_restart_1 rfl (by decide) ?_
  obtain ⟨M1, e2, h⟩ := bindE h
  refine X.putf (pc' := 5) dX11_restart_2 rfl fq_X11_56 rfl rfl e2 ?_
  refine X.aload_n (x := a0) (pc' := 6) dX11_restart_5 rfl rfl rfl ?_
  obtain ⟨⟨⟩, e6, h⟩ := bindE h
  obtain ⟨r3, M4, e5, h⟩ := bd2E h
  refine X.callV (b := a0) (v := none) (As := []) (st := []) (M' := M4) (pc' := 9) dX11_restart_6 rfl cl_X11_176 mi_X11_keeps me_X11_keeps mr_X11_keeps e6 ⟨⟨Nat.le_of_ble_eq_true rfl, Nat.le_of_ble_eq_true rfl⟩, Nat.le_of_ble_eq_true rfl, Nat.le_of_ble_eq_true rfl⟩ rfl (Nat.le_of_ble_eq_true rfl) (ok_X11_keeps (G := zs G) e5) ?_
  show X G t_X11_restart [] 9 [some (.ref a0), none] [] M4 0 0 _
  refine X.aload_n (x := a0) (pc' := 10) dX11_restart_9 rfl rfl rfl ?_
  obtain ⟨r7, e8, h⟩ := bindE h
  refine X.getf (pc' := 13) dX11_restart_10 rfl fq_X11_7 (gP_spec e8) ?_
  refine X.sipush (v := 129) (pc' := 16) dX11_restart_13 rfl (by decide) ?_
  obtain ⟨v10, e9, h⟩ := bindE h
  refine X.iald (pc' := 17) dX11_restart_16 rfl e9 ?_
  refine X.istore_n (L' := [some (.ref a0), some (.int v10)]) (pc' := 18) dX11_restart_17 rfl rfl (Nat.le_of_ble_eq_true rfl) rfl ?_
  refine X.aload_n (x := a0) (pc' := 19) dX11_restart_18 rfl rfl rfl ?_
  obtain ⟨r11, e12, h⟩ := bindE h
  refine X.getf (pc' := 22) dX11_restart_19 rfl fq_X11_7 (gP_spec e12) ?_
  obtain ⟨r13, M14, e15, h⟩ := bd2E h
  refine X.callS (v := none) (As := [.ref r11]) (st := []) (M' := M14) (pc' := 25) dX11_restart_22 rfl cl_X11_52 ms_X11_setsOut ⟨⟨Nat.le_of_ble_eq_true rfl, Nat.le_of_ble_eq_true rfl⟩, Nat.le_of_ble_eq_true rfl, Nat.le_of_ble_eq_true rfl⟩ rfl (Nat.le_of_ble_eq_true rfl) (ok_X11_setsOut (G := zs G) e15) ?_
  show X G t_X11_restart [] 25 [some (.ref a0), some (.int v10)] [] M14 0 0 _
  refine X.iload_n (x := v10) (pc' := 26) dX11_restart_25 rfl rfl rfl ?_
  cases h
  exact X.iret (ty := .int) dX11_restart_26 rfl rfl (Nat.le_of_ble_eq_true rfl) (Nat.le_of_ble_eq_true rfl) rfl
def f_X11_promise_33 (fu : Nat) (a0 : Nat) (b0 : Nat) (b1 : Int32) (M : List Ob) : Option (Int32 × List Ob) :=
  (pF M b0 11 4 (.int b1)).bind fun M1 =>
  (gI M1 a0 11 4).bind fun v3 =>
  if v3 ≤ 0 then ((gP M1 a0 11 0).bind fun r5 =>
  (aI M1 r5 13 127).bind fun v8 =>
  (gP M1 a0 11 0).bind fun r9 =>
  (aI M1 r9 13 126).bind fun v12 =>
  (gP M1 a0 11 0).bind fun r13 =>
  (aI M1 r13 13 128).bind fun v16 =>
  (hasO M1 a0 11).bind fun _ =>
  bd2 (f_X11_valueOf fu a0 v12 v16 M1) fun v17 M18 =>
  some ((v8 + v17), M18))
  else (some (0, M1))
set_option maxHeartbeats 4000000 in
theorem ok_X11_promise_33 {G : GT} {fu : Nat} {out : Int32 × List Ob} {a0 : Nat} {b0 : Nat} {b1 : Int32} {M : List Ob} (h : f_X11_promise_33 fu a0 b0 b1 M = some out) : X G t_X11_promise [] 33 [some (.ref a0)] [.int b1, .ref b0] M 0 0 (oI out) := by
  unfold f_X11_promise_33 at h
  obtain ⟨M1, e2, h⟩ := bindE h
  refine X.putf (pc' := 36) dX11_promise_33 rfl fq_X11_56 rfl rfl e2 ?_
  refine X.aload_n (x := a0) (pc' := 37) dX11_promise_36 rfl rfl rfl ?_
  obtain ⟨v3, e4, h⟩ := bindE h
  refine X.getf (pc' := 40) dX11_promise_37 rfl fq_X11_56 (gI_spec e4) ?_
  refine X.if_le (tgt := 47) (pc' := 43) dX11_promise_40 (by decide) rfl (fun hc => ?_) (fun hc => ?_)
  · rw [if_pos hc] at h
    refine X.aload_n (x := a0) (pc' := 48) dX11_promise_47 rfl rfl rfl ?_
    obtain ⟨r5, e6, h⟩ := bindE h
    refine X.getf (pc' := 51) dX11_promise_48 rfl fq_X11_7 (gP_spec e6) ?_
    refine X.bipush (v := 127) (pc' := 53) dX11_promise_51 rfl (by decide) ?_
    obtain ⟨v8, e7, h⟩ := bindE h
    refine X.iald (pc' := 54) dX11_promise_53 rfl e7 ?_
    refine X.aload_n (x := a0) (pc' := 55) dX11_promise_54 rfl rfl rfl ?_
    refine X.aload_n (x := a0) (pc' := 56) dX11_promise_55 rfl rfl rfl ?_
    obtain ⟨r9, e10, h⟩ := bindE h
    refine X.getf (pc' := 59) dX11_promise_56 rfl fq_X11_7 (gP_spec e10) ?_
    refine X.bipush (v := 126) (pc' := 61) dX11_promise_59 rfl (by decide) ?_
    obtain ⟨v12, e11, h⟩ := bindE h
    refine X.iald (pc' := 62) dX11_promise_61 rfl e11 ?_
    refine X.aload_n (x := a0) (pc' := 63) dX11_promise_62 rfl rfl rfl ?_
    obtain ⟨r13, e14, h⟩ := bindE h
    refine X.getf (pc' := 66) dX11_promise_63 rfl fq_X11_7 (gP_spec e14) ?_
    refine X.sipush (v := 128) (pc' := 69) dX11_promise_66 rfl (by decide) ?_
    obtain ⟨v16, e15, h⟩ := bindE h
    refine X.iald (pc' := 70) dX11_promise_69 rfl e15 ?_
    obtain ⟨⟨⟩, e20, h⟩ := bindE h
    obtain ⟨v17, M18, e19, h⟩ := bd2E h
    refine X.callV (b := a0) (v := some (.int v17)) (As := [.int v12, .int v16]) (st := [.int v8]) (M' := M18) (pc' := 73) dX11_promise_70 rfl cl_X11_281 mi_X11_valueOf me_X11_valueOf mr_X11_valueOf e20 ⟨⟨Nat.le_of_ble_eq_true rfl, Nat.le_of_ble_eq_true rfl⟩, Nat.le_of_ble_eq_true rfl, Nat.le_of_ble_eq_true rfl⟩ rfl (Nat.le_of_ble_eq_true rfl) (ok_X11_valueOf (G := zs G) e19) ?_
    show X G t_X11_promise [] 73 [some (.ref a0)] [.int v17, .int v8] M18 0 0 _
    refine X.iadd (pc' := 74) dX11_promise_73 rfl ?_
    cases h
    exact X.iret (ty := .int) dX11_promise_74 rfl rfl (Nat.le_of_ble_eq_true rfl) (Nat.le_of_ble_eq_true rfl) rfl
  · rw [if_neg hc] at h
    refine X.iconst (v := 0) (pc' := 44) dX11_promise_43 rfl (by decide) ?_
    refine X.goto (pc' := 74) dX11_promise_44 (by decide) ?_
    cases h
    exact X.iret (ty := .int) dX11_promise_74 rfl rfl (Nat.le_of_ble_eq_true rfl) (Nat.le_of_ble_eq_true rfl) rfl
def f_X11_promise (fu : Nat) (a0 : Nat) (M : List Ob) : Option (Int32 × List Ob) :=
  (hasO M a0 11).bind fun _ =>
  bd2 (f_X11_plays fu a0 M) fun _ M2 =>
  (gP M2 a0 11 0).bind fun r5 =>
  (aI M2 r5 13 126).bind fun v8 =>
  (gP M2 a0 11 0).bind fun r9 =>
  (aI M2 r9 13 128).bind fun v12 =>
  (hasO M2 a0 11).bind fun _ =>
  bd2 (f_X11_valueOf fu a0 v8 v12 M2) fun v13 M14 =>
  if v13 = (-1) then (f_X11_promise_33 fu a0 a0 1 M14)
  else (f_X11_promise_33 fu a0 a0 0 M14)
set_option maxHeartbeats 4000000 in
theorem ok_X11_promise {G : GT} {fu : Nat} {a0 : Nat} {M : List Ob} {out : Int32 × List Ob} (h : f_X11_promise fu a0 M = some out) : Sp G t_X11_promise [.ref a0] M (oI out) := by
  refine Sp.of rfl (by decide +kernel) (cat_all rfl) (Nat.le_of_ble_eq_true rfl) ?_
  show X G t_X11_promise [] 0 [some (.ref a0)] [] M 0 0 (oI out)
  unfold f_X11_promise at h
  refine X.aload_n (x := a0) (pc' := 1) dX11_promise_0 rfl rfl rfl ?_
  obtain ⟨⟨⟩, e4, h⟩ := bindE h
  obtain ⟨r1, M2, e3, h⟩ := bd2E h
  refine X.callV (b := a0) (v := none) (As := []) (st := []) (M' := M2) (pc' := 4) dX11_promise_1 rfl cl_X11_278 mi_X11_plays me_X11_plays mr_X11_plays e4 ⟨⟨Nat.le_of_ble_eq_true rfl, Nat.le_of_ble_eq_true rfl⟩, Nat.le_of_ble_eq_true rfl, Nat.le_of_ble_eq_true rfl⟩ rfl (Nat.le_of_ble_eq_true rfl) (ok_X11_plays (G := zs G) e3) ?_
  show X G t_X11_promise [] 4 [some (.ref a0)] [] M2 0 0 _
  refine X.aload_n (x := a0) (pc' := 5) dX11_promise_4 rfl rfl rfl ?_
  refine X.aload_n (x := a0) (pc' := 6) dX11_promise_5 rfl rfl rfl ?_
  refine X.aload_n (x := a0) (pc' := 7) dX11_promise_6 rfl rfl rfl ?_
  obtain ⟨r5, e6, h⟩ := bindE h
  refine X.getf (pc' := 10) dX11_promise_7 rfl fq_X11_7 (gP_spec e6) ?_
  refine X.bipush (v := 126) (pc' := 12) dX11_promise_10 rfl (by decide) ?_
  obtain ⟨v8, e7, h⟩ := bindE h
  refine X.iald (pc' := 13) dX11_promise_12 rfl e7 ?_
  refine X.aload_n (x := a0) (pc' := 14) dX11_promise_13 rfl rfl rfl ?_
  obtain ⟨r9, e10, h⟩ := bindE h
  refine X.getf (pc' := 17) dX11_promise_14 rfl fq_X11_7 (gP_spec e10) ?_
  refine X.sipush (v := 128) (pc' := 20) dX11_promise_17 rfl (by decide) ?_
  obtain ⟨v12, e11, h⟩ := bindE h
  refine X.iald (pc' := 21) dX11_promise_20 rfl e11 ?_
  obtain ⟨⟨⟩, e16, h⟩ := bindE h
  obtain ⟨v13, M14, e15, h⟩ := bd2E h
  refine X.callV (b := a0) (v := some (.int v13)) (As := [.int v8, .int v12]) (st := [.ref a0]) (M' := M14) (pc' := 24) dX11_promise_21 rfl cl_X11_281 mi_X11_valueOf me_X11_valueOf mr_X11_valueOf e16 ⟨⟨Nat.le_of_ble_eq_true rfl, Nat.le_of_ble_eq_true rfl⟩, Nat.le_of_ble_eq_true rfl, Nat.le_of_ble_eq_true rfl⟩ rfl (Nat.le_of_ble_eq_true rfl) (ok_X11_valueOf (G := zs G) e15) ?_
  show X G t_X11_promise [] 24 [some (.ref a0)] [.int v13, .ref a0] M14 0 0 _
  refine X.iconst (v := (-1)) (pc' := 25) dX11_promise_24 rfl (by decide) ?_
  refine X.icmp_ne (tgt := 32) (pc' := 28) dX11_promise_25 (by decide) rfl (fun hc => ?_) (fun hc => ?_)
  · rw [if_neg hc] at h
    refine X.iconst (v := 0) (pc' := 33) dX11_promise_32 rfl (by decide) ?_
    exact ok_X11_promise_33 h
  · rw [if_pos hc] at h
    refine X.iconst (v := 1) (pc' := 29) dX11_promise_28 rfl (by decide) ?_
    refine X.goto (pc' := 33) dX11_promise_29 (by decide) ?_
    exact ok_X11_promise_33 h
def f_X11_leftAhead_35 (fu : Nat) (a0 : Nat) (a1 : Int32) (a3 : Int32) (b0 : Int32) (b1 : Int32) (M : List Ob) (k9 : Nat → Int32 → Int32 → Int32 → List Ob → Option (Int32 × List Ob)) : Option (Int32 × List Ob) :=
  k9 a0 a1 (b0 - b1) (a3 + 1) M
set_option maxHeartbeats 4000000 in
theorem ok_X11_leftAhead_35 {G : GT} {fu : Nat} {out : Int32 × List Ob} {a0 : Nat} {a1 : Int32} {a3 : Int32} {b0 : Int32} {b1 : Int32} {M : List Ob} {k9 : Nat → Int32 → Int32 → Int32 → List Ob → Option (Int32 × List Ob)} (hk9 : ∀ (a0 : Nat) (a1 : Int32) (a2 : Int32) (a3 : Int32) (M : List Ob), k9 a0 a1 a2 a3 M = some out → X G t_X11_leftAhead [] 9 [some (.ref a0), some (.int a1), some (.int a2), some (.int a3)] [] M 0 0 (oI out)) (h : f_X11_leftAhead_35 fu a0 a1 a3 b0 b1 M k9 = some out) : X G t_X11_leftAhead [] 35 [some (.ref a0), some (.int a1), none, some (.int a3)] [.int b1, .int b0] M 0 0 (oI out) := by
  unfold f_X11_leftAhead_35 at h
  refine X.isub (pc' := 36) dX11_leftAhead_35 rfl ?_
  refine X.istore_n (L' := [some (.ref a0), some (.int a1), some (.int (b0 - b1)), some (.int a3)]) (pc' := 37) dX11_leftAhead_36 rfl rfl (Nat.le_of_ble_eq_true rfl) rfl ?_
  refine X.iinc (v := (a3 + 1)) (L' := [some (.ref a0), some (.int a1), some (.int (b0 - b1)), some (.int (a3 + 1))]) (pc' := 40) dX11_leftAhead_37 rfl rfl (congrArg (fun y => a3 + y) (show Int32.ofInt 1 = 1 by decide)) (Nat.le_of_ble_eq_true rfl) rfl ?_
  refine X.goto (pc' := 9) dX11_leftAhead_40 (by decide) ?_
  exact hk9 _ _ _ _ _ h
def f_X11_leftAhead_9b (fu : Nat) (a0 : Nat) (a1 : Int32) (a2 : Int32) (a3 : Int32) (M : List Ob) (k9 : Nat → Int32 → Int32 → Int32 → List Ob → Option (Int32 × List Ob)) : Option (Int32 × List Ob) :=
  if a1 ≤ a3 then (some (a2, M))
  else ((gP M a0 11 0).bind fun r1 =>
  (aI M r1 13 (130 + a3)).bind fun v4 =>
  if v4 < 100 then (f_X11_leftAhead_35 fu a0 a1 a3 a2 0 M k9)
  else (f_X11_leftAhead_35 fu a0 a1 a3 a2 1 M k9))
set_option maxHeartbeats 4000000 in
theorem ok_X11_leftAhead_9b {G : GT} {fu : Nat} {out : Int32 × List Ob} {a0 : Nat} {a1 : Int32} {a2 : Int32} {a3 : Int32} {M : List Ob} {k9 : Nat → Int32 → Int32 → Int32 → List Ob → Option (Int32 × List Ob)} (hk9 : ∀ (a0 : Nat) (a1 : Int32) (a2 : Int32) (a3 : Int32) (M : List Ob), k9 a0 a1 a2 a3 M = some out → X G t_X11_leftAhead [] 9 [some (.ref a0), some (.int a1), some (.int a2), some (.int a3)] [] M 0 0 (oI out)) (h : f_X11_leftAhead_9b fu a0 a1 a2 a3 M k9 = some out) : X G t_X11_leftAhead [] 9 [some (.ref a0), some (.int a1), some (.int a2), some (.int a3)] [] M 0 0 (oI out) := by
  unfold f_X11_leftAhead_9b at h
  refine X.iload_n (x := a3) (pc' := 10) dX11_leftAhead_9 rfl rfl rfl ?_
  refine X.iload_n (x := a1) (pc' := 11) dX11_leftAhead_10 rfl rfl rfl ?_
  refine X.icmp_ge (tgt := 43) (pc' := 14) dX11_leftAhead_11 (by decide) rfl (fun hc => ?_) (fun hc => ?_)
  · rw [if_pos hc] at h
    refine X.iload_n (x := a2) (pc' := 44) dX11_leftAhead_43 rfl rfl rfl ?_
    cases h
    exact X.iret (ty := .int) dX11_leftAhead_44 rfl rfl (Nat.le_of_ble_eq_true rfl) (Nat.le_of_ble_eq_true rfl) rfl
  · rw [if_neg hc] at h
    refine X.iload_n (x := a2) (pc' := 15) dX11_leftAhead_14 rfl rfl rfl ?_
    refine X.aload_n (x := a0) (pc' := 16) dX11_leftAhead_15 rfl rfl rfl ?_
    obtain ⟨r1, e2, h⟩ := bindE h
    refine X.getf (pc' := 19) dX11_leftAhead_16 rfl fq_X11_7 (gP_spec e2) ?_
    refine X.sipush (v := 130) (pc' := 22) dX11_leftAhead_19 rfl (by decide) ?_
    refine X.iload_n (x := a3) (pc' := 23) dX11_leftAhead_22 rfl rfl rfl ?_
    refine X.iadd (pc' := 24) dX11_leftAhead_23 rfl ?_
    obtain ⟨v4, e3, h⟩ := bindE h
    refine X.iald (pc' := 25) dX11_leftAhead_24 rfl e3 ?_
    refine X.bipush (v := 100) (pc' := 27) dX11_leftAhead_25 rfl (by decide) ?_
    refine X.icmp_lt (tgt := 34) (pc' := 30) dX11_leftAhead_27 (by decide) rfl (fun hc => ?_) (fun hc => ?_)
    · rw [if_pos hc] at h
      refine X.iconst (v := 0) (pc' := 35) dX11_leftAhead_34 rfl (by decide) ?_
      refine X.sub (L := [some (.ref a0), some (.int a1), none, some (.int a3)]) ?_ (⟨rfl, ⟨rfl, ⟨rfl, trivial⟩⟩⟩)
      exact ok_X11_leftAhead_35 hk9 h
    · rw [if_neg hc] at h
      refine X.iconst (v := 1) (pc' := 31) dX11_leftAhead_30 rfl (by decide) ?_
      refine X.goto (pc' := 35) dX11_leftAhead_31 (by decide) ?_
      refine X.sub (L := [some (.ref a0), some (.int a1), none, some (.int a3)]) ?_ (⟨rfl, ⟨rfl, ⟨rfl, trivial⟩⟩⟩)
      exact ok_X11_leftAhead_35 hk9 h
def f_X11_leftAhead_9 (fu : Nat) : Nat → Nat → Int32 → Int32 → Int32 → List Ob → Option (Int32 × List Ob)
  | 0, _, _, _, _, _ => none
  | n + 1, a0, a1, a2, a3, M => f_X11_leftAhead_9b fu a0 a1 a2 a3 M (fun a0 a1 a2 a3 M => f_X11_leftAhead_9 fu n a0 a1 a2 a3 M)
theorem ok_X11_leftAhead_9 {G : GT} {fu : Nat} {out : Int32 × List Ob} : ∀ (n : Nat) (a0 : Nat) (a1 : Int32) (a2 : Int32) (a3 : Int32) (M : List Ob), f_X11_leftAhead_9 fu n a0 a1 a2 a3 M = some out → X G t_X11_leftAhead [] 9 [some (.ref a0), some (.int a1), some (.int a2), some (.int a3)] [] M 0 0 (oI out) := by
  intro n
  induction n with
  | zero =>
    intro a0 a1 a2 a3 M h
    unfold f_X11_leftAhead_9 at h
    cases h
  | succ n ih =>
    intro a0 a1 a2 a3 M h
    unfold f_X11_leftAhead_9 at h
    exact ok_X11_leftAhead_9b ih h
def f_X11_leftAhead (fu : Nat) (a0 : Nat) (a1 : Int32) (M : List Ob) : Option (Int32 × List Ob) :=
  (gP M a0 11 0).bind fun r1 =>
  (aI M r1 13 3).bind fun v4 =>
  f_X11_leftAhead_9 fu  fu a0 a1 v4 0 M
set_option maxHeartbeats 4000000 in
theorem ok_X11_leftAhead {G : GT} {fu : Nat} {a0 : Nat} {a1 : Int32} {M : List Ob} {out : Int32 × List Ob} (h : f_X11_leftAhead fu a0 a1 M = some out) : Sp G t_X11_leftAhead [.ref a0, .int a1] M (oI out) := by
  refine Sp.of rfl (by decide +kernel) (cat_all rfl) (Nat.le_of_ble_eq_true rfl) ?_
  show X G t_X11_leftAhead [] 0 [some (.ref a0), some (.int a1), none, none] [] M 0 0 (oI out)
  unfold f_X11_leftAhead at h
  refine X.aload_n (x := a0) (pc' := 1) dX11_leftAhead_0 rfl rfl rfl ?_
  obtain ⟨r1, e2, h⟩ := bindE h
  refine X.getf (pc' := 4) dX11_leftAhead_1 rfl fq_X11_7 (gP_spec e2) ?_
  refine X.iconst (v := 3) (pc' := 5) dX11_leftAhead_4 rfl (by decide) ?_
  obtain ⟨v4, e3, h⟩ := bindE h
  refine X.iald (pc' := 6) dX11_leftAhead_5 rfl e3 ?_
  refine X.istore_n (L' := [some (.ref a0), some (.int a1), some (.int v4), none]) (pc' := 7) dX11_leftAhead_6 rfl rfl (Nat.le_of_ble_eq_true rfl) rfl ?_
  refine X.iconst (v := 0) (pc' := 8) dX11_leftAhead_7 rfl (by decide) ?_
  refine X.istore_n (L' := [some (.ref a0), some (.int a1), some (.int v4), some (.int 0)]) (pc' := 9) dX11_leftAhead_8 rfl rfl (Nat.le_of_ble_eq_true rfl) rfl ?_
  refine ok_X11_leftAhead_9  fu _ _ _ _ _ h
def f_X11_grief_163 (fu : Nat) (a4 : Int32) (a5 : Int32) (b0 : Int32) (b1 : Int32) (M : List Ob) : Option (Int32 × List Ob) :=
  some ((((b0 + b1) + a5) - a4), M)
set_option maxHeartbeats 4000000 in
theorem ok_X11_grief_163 {G : GT} {fu : Nat} {out : Int32 × List Ob} {a4 : Int32} {a5 : Int32} {b0 : Int32} {b1 : Int32} {M : List Ob} (h : f_X11_grief_163 fu a4 a5 b0 b1 M = some out) : X G t_X11_grief [] 163 [none, none, none, none, some (.int a4), some (.int a5)] [.int b1, .int b0] M 0 0 (oI out) := by
  unfold f_X11_grief_163 at h
  refine X.iadd (pc' := 164) dX11_grief_163 rfl ?_
  refine X.iload (x := a5) (pc' := 166) dX11_grief_164 rfl rfl ?_
  refine X.iadd (pc' := 167) dX11_grief_166 rfl ?_
  refine X.iload (x := a4) (pc' := 169) dX11_grief_167 rfl rfl ?_
  refine X.isub (pc' := 170) dX11_grief_169 rfl ?_
  cases h
  exact X.iret (ty := .int) dX11_grief_170 rfl rfl (Nat.le_of_ble_eq_true rfl) (Nat.le_of_ble_eq_true rfl) rfl
def f_X11_grief_129 (fu : Nat) (a0 : Nat) (a2 : Int32) (a3 : Int32) (a4 : Int32) (a5 : Int32) (b0 : Nat) (b1 : Int32) (M : List Ob) : Option (Int32 × List Ob) :=
  (pF M b0 11 4 (.int b1)).bind fun M1 =>
  (gI M1 a0 11 4).bind fun v3 =>
  if v3 ≤ 0 then ((hasO M1 a0 11).bind fun _ =>
  bd2 (f_X11_of fu a0 a2 2 M1) fun v5 M6 =>
  if a3 = 0 then (f_X11_grief_163 fu a4 a5 v5 0 M6)
  else ((hasO M6 a0 11).bind fun _ =>
  bd2 (f_X11_of fu a0 a2 3 M6) fun v9 M10 =>
  f_X11_grief_163 fu a4 a5 v5 v9 M10))
  else (some (0, M1))
set_option maxHeartbeats 4000000 in
theorem ok_X11_grief_129 {G : GT} {fu : Nat} {out : Int32 × List Ob} {a0 : Nat} {a2 : Int32} {a3 : Int32} {a4 : Int32} {a5 : Int32} {b0 : Nat} {b1 : Int32} {M : List Ob} (h : f_X11_grief_129 fu a0 a2 a3 a4 a5 b0 b1 M = some out) : X G t_X11_grief [] 129 [some (.ref a0), none, some (.int a2), some (.int a3), some (.int a4), some (.int a5)] [.int b1, .ref b0] M 0 0 (oI out) := by
  unfold f_X11_grief_129 at h
  obtain ⟨M1, e2, h⟩ := bindE h
  refine X.putf (pc' := 132) dX11_grief_129 rfl fq_X11_56 rfl rfl e2 ?_
  refine X.aload_n (x := a0) (pc' := 133) dX11_grief_132 rfl rfl rfl ?_
  obtain ⟨v3, e4, h⟩ := bindE h
  refine X.getf (pc' := 136) dX11_grief_133 rfl fq_X11_56 (gI_spec e4) ?_
  refine X.if_le (tgt := 143) (pc' := 139) dX11_grief_136 (by decide) rfl (fun hc => ?_) (fun hc => ?_)
  · rw [if_pos hc] at h
    refine X.aload_n (x := a0) (pc' := 144) dX11_grief_143 rfl rfl rfl ?_
    refine X.iload_n (x := a2) (pc' := 145) dX11_grief_144 rfl rfl rfl ?_
    refine X.iconst (v := 2) (pc' := 146) dX11_grief_145 rfl (by decide) ?_
    obtain ⟨⟨⟩, e8, h⟩ := bindE h
    obtain ⟨v5, M6, e7, h⟩ := bd2E h
    refine X.callV (b := a0) (v := some (.int v5)) (As := [.int a2, .int 2]) (st := []) (M' := M6) (pc' := 149) dX11_grief_146 rfl cl_X11_190 mi_X11_of me_X11_of mr_X11_of e8 ⟨⟨Nat.le_of_ble_eq_true rfl, Nat.le_of_ble_eq_true rfl⟩, Nat.le_of_ble_eq_true rfl, Nat.le_of_ble_eq_true rfl⟩ rfl (Nat.le_of_ble_eq_true rfl) (ok_X11_of (G := zs G) e7) ?_
    show X G t_X11_grief [] 149 [some (.ref a0), none, some (.int a2), some (.int a3), some (.int a4), some (.int a5)] [.int v5] M6 0 0 _
    refine X.iload_n (x := a3) (pc' := 150) dX11_grief_149 rfl rfl rfl ?_
    refine X.if_eq (tgt := 162) (pc' := 153) dX11_grief_150 (by decide) rfl (fun hc => ?_) (fun hc => ?_)
    · rw [if_pos hc] at h
      refine X.iconst (v := 0) (pc' := 163) dX11_grief_162 rfl (by decide) ?_
      refine X.sub (L := [none, none, none, none, some (.int a4), some (.int a5)]) ?_ (⟨rfl, ⟨rfl, trivial⟩⟩)
      exact ok_X11_grief_163 h
    · rw [if_neg hc] at h
      refine X.aload_n (x := a0) (pc' := 154) dX11_grief_153 rfl rfl rfl ?_
      refine X.iload_n (x := a2) (pc' := 155) dX11_grief_154 rfl rfl rfl ?_
      refine X.iconst (v := 3) (pc' := 156) dX11_grief_155 rfl (by decide) ?_
      obtain ⟨⟨⟩, e12, h⟩ := bindE h
      obtain ⟨v9, M10, e11, h⟩ := bd2E h
      refine X.callV (b := a0) (v := some (.int v9)) (As := [.int a2, .int 3]) (st := [.int v5]) (M' := M10) (pc' := 159) dX11_grief_156 rfl cl_X11_190 mi_X11_of me_X11_of mr_X11_of e12 ⟨⟨Nat.le_of_ble_eq_true rfl, Nat.le_of_ble_eq_true rfl⟩, Nat.le_of_ble_eq_true rfl, Nat.le_of_ble_eq_true rfl⟩ rfl (Nat.le_of_ble_eq_true rfl) (ok_X11_of (G := zs G) e11) ?_
      show X G t_X11_grief [] 159 [some (.ref a0), none, some (.int a2), some (.int a3), some (.int a4), some (.int a5)] [.int v9, .int v5] M10 0 0 _
      refine X.goto (pc' := 163) dX11_grief_159 (by decide) ?_
      refine X.sub (L := [none, none, none, none, some (.int a4), some (.int a5)]) ?_ (⟨rfl, ⟨rfl, trivial⟩⟩)
      exact ok_X11_grief_163 h
  · rw [if_neg hc] at h
    refine X.iconst (v := 0) (pc' := 140) dX11_grief_139 rfl (by decide) ?_
    refine X.goto (pc' := 170) dX11_grief_140 (by decide) ?_
    cases h
    exact X.iret (ty := .int) dX11_grief_170 rfl rfl (Nat.le_of_ble_eq_true rfl) (Nat.le_of_ble_eq_true rfl) rfl
def f_X11_grief_124 (fu : Nat) (a0 : Nat) (a2 : Int32) (a3 : Int32) (a4 : Int32) (a5 : Int32) (b0 : Nat) (M : List Ob) : Option (Int32 × List Ob) :=
  f_X11_grief_129 fu a0 a2 a3 a4 a5 b0 2 M
set_option maxHeartbeats 4000000 in
theorem ok_X11_grief_124 {G : GT} {fu : Nat} {out : Int32 × List Ob} {a0 : Nat} {a2 : Int32} {a3 : Int32} {a4 : Int32} {a5 : Int32} {b0 : Nat} {M : List Ob} (h : f_X11_grief_124 fu a0 a2 a3 a4 a5 b0 M = some out) : X G t_X11_grief [] 124 [some (.ref a0), none, some (.int a2), some (.int a3), some (.int a4), some (.int a5)] [.ref b0] M 0 0 (oI out) := by
  unfold f_X11_grief_124 at h
  refine X.iconst (v := 2) (pc' := 125) dX11_grief_124 rfl (by decide) ?_
  refine X.goto (pc' := 129) dX11_grief_125 (by decide) ?_
  exact ok_X11_grief_129 h
def f_X11_grief_74 (fu : Nat) (a0 : Nat) (a1 : Int32) (a2 : Int32) (b0 : Int32) (M : List Ob) : Option (Int32 × List Ob) :=
  (hasO M a0 11).bind fun _ =>
  bd2 (f_X11_of fu a0 a2 0 M) fun v1 M2 =>
  (hasO M2 a0 11).bind fun _ =>
  bd2 (f_X11_leftAhead fu a0 a1 M2) fun v5 M6 =>
  (hasO M6 a0 11).bind fun _ =>
  bd2 (f_X11_valueOf fu a0 v1 v5 M6) fun v9 M10 =>
  (hasO M10 a0 11).bind fun _ =>
  bd2 (f_X11_of fu a0 a2 1 M10) fun v13 M14 =>
  (hasO M14 a0 11).bind fun _ =>
  bd2 (f_X11_leftAhead fu a0 (a1 + 1) M14) fun v17 M18 =>
  (hasO M18 a0 11).bind fun _ =>
  bd2 (f_X11_valueOf fu a0 v13 v17 M18) fun v21 M22 =>
  if v9 = (-1) then (f_X11_grief_124 fu a0 a2 b0 v9 v21 a0 M22)
  else (if v21 = (-1) then (f_X11_grief_124 fu a0 a2 b0 v9 v21 a0 M22)
  else (f_X11_grief_129 fu a0 a2 b0 v9 v21 a0 0 M22))
set_option maxHeartbeats 4000000 in
theorem ok_X11_grief_74 {G : GT} {fu : Nat} {out : Int32 × List Ob} {a0 : Nat} {a1 : Int32} {a2 : Int32} {b0 : Int32} {M : List Ob} (h : f_X11_grief_74 fu a0 a1 a2 b0 M = some out) : X G t_X11_grief [] 74 [some (.ref a0), some (.int a1), some (.int a2), none, none, none] [.int b0] M 0 0 (oI out) := by
  unfold f_X11_grief_74 at h
  refine X.istore_n (L' := [some (.ref a0), some (.int a1), some (.int a2), some (.int b0), none, none]) (pc' := 75) dX11_grief_74 rfl rfl (Nat.le_of_ble_eq_true rfl) rfl ?_
  refine X.aload_n (x := a0) (pc' := 76) dX11_grief_75 rfl rfl rfl ?_
  refine X.aload_n (x := a0) (pc' := 77) dX11_grief_76 rfl rfl rfl ?_
  refine X.iload_n (x := a2) (pc' := 78) dX11_grief_77 rfl rfl rfl ?_
  refine X.iconst (v := 0) (pc' := 79) dX11_grief_78 rfl (by decide) ?_
  obtain ⟨⟨⟩, e4, h⟩ := bindE h
  obtain ⟨v1, M2, e3, h⟩ := bd2E h
  refine X.callV (b := a0) (v := some (.int v1)) (As := [.int a2, .int 0]) (st := [.ref a0]) (M' := M2) (pc' := 82) dX11_grief_79 rfl cl_X11_190 mi_X11_of me_X11_of mr_X11_of e4 ⟨⟨Nat.le_of_ble_eq_true rfl, Nat.le_of_ble_eq_true rfl⟩, Nat.le_of_ble_eq_true rfl, Nat.le_of_ble_eq_true rfl⟩ rfl (Nat.le_of_ble_eq_true rfl) (ok_X11_of (G := zs G) e3) ?_
  show X G t_X11_grief [] 82 [some (.ref a0), some (.int a1), some (.int a2), some (.int b0), none, none] [.int v1, .ref a0] M2 0 0 _
  refine X.aload_n (x := a0) (pc' := 83) dX11_grief_82 rfl rfl rfl ?_
  refine X.iload_n (x := a1) (pc' := 84) dX11_grief_83 rfl rfl rfl ?_
  obtain ⟨⟨⟩, e8, h⟩ := bindE h
  obtain ⟨v5, M6, e7, h⟩ := bd2E h
  refine X.callV (b := a0) (v := some (.int v5)) (As := [.int a1]) (st := [.int v1, .ref a0]) (M' := M6) (pc' := 87) dX11_grief_84 rfl cl_X11_287 mi_X11_leftAhead me_X11_leftAhead mr_X11_leftAhead e8 ⟨⟨Nat.le_of_ble_eq_true rfl, Nat.le_of_ble_eq_true rfl⟩, Nat.le_of_ble_eq_true rfl, Nat.le_of_ble_eq_true rfl⟩ rfl (Nat.le_of_ble_eq_true rfl) (ok_X11_leftAhead (G := zs G) e7) ?_
  show X G t_X11_grief [] 87 [some (.ref a0), some (.int a1), some (.int a2), some (.int b0), none, none] [.int v5, .int v1, .ref a0] M6 0 0 _
  obtain ⟨⟨⟩, e12, h⟩ := bindE h
  obtain ⟨v9, M10, e11, h⟩ := bd2E h
  refine X.callV (b := a0) (v := some (.int v9)) (As := [.int v1, .int v5]) (st := []) (M' := M10) (pc' := 90) dX11_grief_87 rfl cl_X11_281 mi_X11_valueOf me_X11_valueOf mr_X11_valueOf e12 ⟨⟨Nat.le_of_ble_eq_true rfl, Nat.le_of_ble_eq_true rfl⟩, Nat.le_of_ble_eq_true rfl, Nat.le_of_ble_eq_true rfl⟩ rfl (Nat.le_of_ble_eq_true rfl) (ok_X11_valueOf (G := zs G) e11) ?_
  show X G t_X11_grief [] 90 [some (.ref a0), some (.int a1), some (.int a2), some (.int b0), none, none] [.int v9] M10 0 0 _
  refine X.istore (L' := [some (.ref a0), some (.int a1), some (.int a2), some (.int b0), some (.int v9), none]) (pc' := 92) dX11_grief_90 rfl (Nat.le_of_ble_eq_true rfl) rfl ?_
  refine X.aload_n (x := a0) (pc' := 93) dX11_grief_92 rfl rfl rfl ?_
  refine X.aload_n (x := a0) (pc' := 94) dX11_grief_93 rfl rfl rfl ?_
  refine X.iload_n (x := a2) (pc' := 95) dX11_grief_94 rfl rfl rfl ?_
  refine X.iconst (v := 1) (pc' := 96) dX11_grief_95 rfl (by decide) ?_
  obtain ⟨⟨⟩, e16, h⟩ := bindE h
  obtain ⟨v13, M14, e15, h⟩ := bd2E h
  refine X.callV (b := a0) (v := some (.int v13)) (As := [.int a2, .int 1]) (st := [.ref a0]) (M' := M14) (pc' := 99) dX11_grief_96 rfl cl_X11_190 mi_X11_of me_X11_of mr_X11_of e16 ⟨⟨Nat.le_of_ble_eq_true rfl, Nat.le_of_ble_eq_true rfl⟩, Nat.le_of_ble_eq_true rfl, Nat.le_of_ble_eq_true rfl⟩ rfl (Nat.le_of_ble_eq_true rfl) (ok_X11_of (G := zs G) e15) ?_
  show X G t_X11_grief [] 99 [some (.ref a0), some (.int a1), some (.int a2), some (.int b0), some (.int v9), none] [.int v13, .ref a0] M14 0 0 _
  refine X.aload_n (x := a0) (pc' := 100) dX11_grief_99 rfl rfl rfl ?_
  refine X.iload_n (x := a1) (pc' := 101) dX11_grief_100 rfl rfl rfl ?_
  refine X.iconst (v := 1) (pc' := 102) dX11_grief_101 rfl (by decide) ?_
  refine X.iadd (pc' := 103) dX11_grief_102 rfl ?_
  obtain ⟨⟨⟩, e20, h⟩ := bindE h
  obtain ⟨v17, M18, e19, h⟩ := bd2E h
  refine X.callV (b := a0) (v := some (.int v17)) (As := [.int (a1 + 1)]) (st := [.int v13, .ref a0]) (M' := M18) (pc' := 106) dX11_grief_103 rfl cl_X11_287 mi_X11_leftAhead me_X11_leftAhead mr_X11_leftAhead e20 ⟨⟨Nat.le_of_ble_eq_true rfl, Nat.le_of_ble_eq_true rfl⟩, Nat.le_of_ble_eq_true rfl, Nat.le_of_ble_eq_true rfl⟩ rfl (Nat.le_of_ble_eq_true rfl) (ok_X11_leftAhead (G := zs G) e19) ?_
  show X G t_X11_grief [] 106 [some (.ref a0), some (.int a1), some (.int a2), some (.int b0), some (.int v9), none] [.int v17, .int v13, .ref a0] M18 0 0 _
  obtain ⟨⟨⟩, e24, h⟩ := bindE h
  obtain ⟨v21, M22, e23, h⟩ := bd2E h
  refine X.callV (b := a0) (v := some (.int v21)) (As := [.int v13, .int v17]) (st := []) (M' := M22) (pc' := 109) dX11_grief_106 rfl cl_X11_281 mi_X11_valueOf me_X11_valueOf mr_X11_valueOf e24 ⟨⟨Nat.le_of_ble_eq_true rfl, Nat.le_of_ble_eq_true rfl⟩, Nat.le_of_ble_eq_true rfl, Nat.le_of_ble_eq_true rfl⟩ rfl (Nat.le_of_ble_eq_true rfl) (ok_X11_valueOf (G := zs G) e23) ?_
  show X G t_X11_grief [] 109 [some (.ref a0), some (.int a1), some (.int a2), some (.int b0), some (.int v9), none] [.int v21] M22 0 0 _
  refine X.istore (L' := [some (.ref a0), some (.int a1), some (.int a2), some (.int b0), some (.int v9), some (.int v21)]) (pc' := 111) dX11_grief_109 rfl (Nat.le_of_ble_eq_true rfl) rfl ?_
  refine X.aload_n (x := a0) (pc' := 112) dX11_grief_111 rfl rfl rfl ?_
  refine X.iload (x := v9) (pc' := 114) dX11_grief_112 rfl rfl ?_
  refine X.iconst (v := (-1)) (pc' := 115) dX11_grief_114 rfl (by decide) ?_
  refine X.icmp_eq (tgt := 124) (pc' := 118) dX11_grief_115 (by decide) rfl (fun hc => ?_) (fun hc => ?_)
  · rw [if_pos hc] at h
    refine X.sub (L := [some (.ref a0), none, some (.int a2), some (.int b0), some (.int v9), some (.int v21)]) ?_ (⟨rfl, ⟨rfl, ⟨rfl, ⟨rfl, ⟨rfl, trivial⟩⟩⟩⟩⟩)
    exact ok_X11_grief_124 h
  · rw [if_neg hc] at h
    refine X.iload (x := v21) (pc' := 120) dX11_grief_118 rfl rfl ?_
    refine X.iconst (v := (-1)) (pc' := 121) dX11_grief_120 rfl (by decide) ?_
    refine X.icmp_ne (tgt := 128) (pc' := 124) dX11_grief_121 (by decide) rfl (fun hc => ?_) (fun hc => ?_)
    · rw [if_neg hc] at h
      refine X.iconst (v := 0) (pc' := 129) dX11_grief_128 rfl (by decide) ?_
      refine X.sub (L := [some (.ref a0), none, some (.int a2), some (.int b0), some (.int v9), some (.int v21)]) ?_ (⟨rfl, ⟨rfl, ⟨rfl, ⟨rfl, ⟨rfl, trivial⟩⟩⟩⟩⟩)
      exact ok_X11_grief_129 h
    · rw [if_pos hc] at h
      refine X.sub (L := [some (.ref a0), none, some (.int a2), some (.int b0), some (.int v9), some (.int v21)]) ?_ (⟨rfl, ⟨rfl, ⟨rfl, ⟨rfl, ⟨rfl, trivial⟩⟩⟩⟩⟩)
      exact ok_X11_grief_124 h
def f_X11_grief_24 (fu : Nat) (a0 : Nat) (a1 : Int32) (b0 : Nat) (b1 : Int32) (M : List Ob) : Option (Int32 × List Ob) :=
  (pF M b0 11 4 (.int b1)).bind fun M1 =>
  (gI M1 a0 11 4).bind fun v3 =>
  if v3 ≤ 0 then ((hasO M1 a0 11).bind fun _ =>
  bd2 (f_X11_plays fu a0 M1) fun _ M6 =>
  (gP M6 a0 11 0).bind fun r9 =>
  (aI M6 r9 13 (130 + a1)).bind fun v12 =>
  (gP M6 a0 11 0).bind fun r13 =>
  (aI M6 r13 13 (130 + a1)).bind fun v16 =>
  if v16 < 100 then (f_X11_grief_74 fu a0 a1 (v12 - v12 / 100 * 100) 0 M6)
  else (f_X11_grief_74 fu a0 a1 (v12 - v12 / 100 * 100) 1 M6))
  else (some (0, M1))
set_option maxHeartbeats 4000000 in
theorem ok_X11_grief_24 {G : GT} {fu : Nat} {out : Int32 × List Ob} {a0 : Nat} {a1 : Int32} {b0 : Nat} {b1 : Int32} {M : List Ob} (h : f_X11_grief_24 fu a0 a1 b0 b1 M = some out) : X G t_X11_grief [] 24 [some (.ref a0), some (.int a1), none, none, none, none] [.int b1, .ref b0] M 0 0 (oI out) := by
  unfold f_X11_grief_24 at h
  obtain ⟨M1, e2, h⟩ := bindE h
  refine X.putf (pc' := 27) dX11_grief_24 rfl fq_X11_56 rfl rfl e2 ?_
  refine X.aload_n (x := a0) (pc' := 28) dX11_grief_27 rfl rfl rfl ?_
  obtain ⟨v3, e4, h⟩ := bindE h
  refine X.getf (pc' := 31) dX11_grief_28 rfl fq_X11_56 (gI_spec e4) ?_
  refine X.if_le (tgt := 36) (pc' := 34) dX11_grief_31 (by decide) rfl (fun hc => ?_) (fun hc => ?_)
  · rw [if_pos hc] at h
    refine X.aload_n (x := a0) (pc' := 37) dX11_grief_36 rfl rfl rfl ?_
    obtain ⟨⟨⟩, e8, h⟩ := bindE h
    obtain ⟨r5, M6, e7, h⟩ := bd2E h
    refine X.callV (b := a0) (v := none) (As := []) (st := []) (M' := M6) (pc' := 40) dX11_grief_37 rfl cl_X11_278 mi_X11_plays me_X11_plays mr_X11_plays e8 ⟨⟨Nat.le_of_ble_eq_true rfl, Nat.le_of_ble_eq_true rfl⟩, Nat.le_of_ble_eq_true rfl, Nat.le_of_ble_eq_true rfl⟩ rfl (Nat.le_of_ble_eq_true rfl) (ok_X11_plays (G := zs G) e7) ?_
    show X G t_X11_grief [] 40 [some (.ref a0), some (.int a1), none, none, none, none] [] M6 0 0 _
    refine X.aload_n (x := a0) (pc' := 41) dX11_grief_40 rfl rfl rfl ?_
    obtain ⟨r9, e10, h⟩ := bindE h
    refine X.getf (pc' := 44) dX11_grief_41 rfl fq_X11_7 (gP_spec e10) ?_
    refine X.sipush (v := 130) (pc' := 47) dX11_grief_44 rfl (by decide) ?_
    refine X.iload_n (x := a1) (pc' := 48) dX11_grief_47 rfl rfl rfl ?_
    refine X.iadd (pc' := 49) dX11_grief_48 rfl ?_
    obtain ⟨v12, e11, h⟩ := bindE h
    refine X.iald (pc' := 50) dX11_grief_49 rfl e11 ?_
    refine X.bipush (v := 100) (pc' := 52) dX11_grief_50 rfl (by decide) ?_
    refine X.irem (pc' := 53) dX11_grief_52 rfl (by decide) ?_
    refine X.istore_n (L' := [some (.ref a0), some (.int a1), some (.int (v12 - v12 / 100 * 100)), none, none, none]) (pc' := 54) dX11_grief_53 rfl rfl (Nat.le_of_ble_eq_true rfl) rfl ?_
    refine X.aload_n (x := a0) (pc' := 55) dX11_grief_54 rfl rfl rfl ?_
    obtain ⟨r13, e14, h⟩ := bindE h
    refine X.getf (pc' := 58) dX11_grief_55 rfl fq_X11_7 (gP_spec e14) ?_
    refine X.sipush (v := 130) (pc' := 61) dX11_grief_58 rfl (by decide) ?_
    refine X.iload_n (x := a1) (pc' := 62) dX11_grief_61 rfl rfl rfl ?_
    refine X.iadd (pc' := 63) dX11_grief_62 rfl ?_
    obtain ⟨v16, e15, h⟩ := bindE h
    refine X.iald (pc' := 64) dX11_grief_63 rfl e15 ?_
    refine X.bipush (v := 100) (pc' := 66) dX11_grief_64 rfl (by decide) ?_
    refine X.icmp_lt (tgt := 73) (pc' := 69) dX11_grief_66 (by decide) rfl (fun hc => ?_) (fun hc => ?_)
    · rw [if_pos hc] at h
      refine X.iconst (v := 0) (pc' := 74) dX11_grief_73 rfl (by decide) ?_
      exact ok_X11_grief_74 h
    · rw [if_neg hc] at h
      refine X.iconst (v := 1) (pc' := 70) dX11_grief_69 rfl (by decide) ?_
      refine X.goto (pc' := 74) dX11_grief_70 (by decide) ?_
      exact ok_X11_grief_74 h
  · rw [if_neg hc] at h
    refine X.iconst (v := 0) (pc' := 35) dX11_grief_34 rfl (by decide) ?_
    cases h
    exact X.iret (ty := .int) dX11_grief_35 rfl rfl (Nat.le_of_ble_eq_true rfl) (Nat.le_of_ble_eq_true rfl) rfl
def f_X11_grief (fu : Nat) (a0 : Nat) (a1 : Int32) (M : List Ob) : Option (Int32 × List Ob) :=
  (gP M a0 11 0).bind fun r1 =>
  (aI M r1 13 129).bind fun v4 =>
  bd2 (f_X11_isIn fu a1 0 (v4 - 1) M) fun v5 M6 =>
  if v5 = 0 then (f_X11_grief_24 fu a0 a1 a0 1 M6)
  else (f_X11_grief_24 fu a0 a1 a0 0 M6)
set_option maxHeartbeats 4000000 in
theorem ok_X11_grief {G : GT} {fu : Nat} {a0 : Nat} {a1 : Int32} {M : List Ob} {out : Int32 × List Ob} (h : f_X11_grief fu a0 a1 M = some out) : Sp G t_X11_grief [.ref a0, .int a1] M (oI out) := by
  refine Sp.of rfl (by decide +kernel) (cat_all rfl) (Nat.le_of_ble_eq_true rfl) ?_
  show X G t_X11_grief [] 0 [some (.ref a0), some (.int a1), none, none, none, none] [] M 0 0 (oI out)
  unfold f_X11_grief at h
  refine X.aload_n (x := a0) (pc' := 1) dX11_grief_0 rfl rfl rfl ?_
  refine X.iload_n (x := a1) (pc' := 2) dX11_grief_1 rfl rfl rfl ?_
  refine X.iconst (v := 0) (pc' := 3) dX11_grief_2 rfl (by decide) ?_
  refine X.aload_n (x := a0) (pc' := 4) dX11_grief_3 rfl rfl rfl ?_
  obtain ⟨r1, e2, h⟩ := bindE h
  refine X.getf (pc' := 7) dX11_grief_4 rfl fq_X11_7 (gP_spec e2) ?_
  refine X.sipush (v := 129) (pc' := 10) dX11_grief_7 rfl (by decide) ?_
  obtain ⟨v4, e3, h⟩ := bindE h
  refine X.iald (pc' := 11) dX11_grief_10 rfl e3 ?_
  refine X.iconst (v := 1) (pc' := 12) dX11_grief_11 rfl (by decide) ?_
  refine X.isub (pc' := 13) dX11_grief_12 rfl ?_
  obtain ⟨v5, M6, e7, h⟩ := bd2E h
  refine X.callS (v := some (.int v5)) (As := [.int a1, .int 0, .int (v4 - 1)]) (st := [.ref a0]) (M' := M6) (pc' := 16) dX11_grief_13 rfl cl_X11_72 ms_X11_isIn ⟨⟨Nat.le_of_ble_eq_true rfl, Nat.le_of_ble_eq_true rfl⟩, Nat.le_of_ble_eq_true rfl, Nat.le_of_ble_eq_true rfl⟩ rfl (Nat.le_of_ble_eq_true rfl) (ok_X11_isIn (G := zs G) e7) ?_
  show X G t_X11_grief [] 16 [some (.ref a0), some (.int a1), none, none, none, none] [.int v5, .ref a0] M6 0 0 _
  refine X.if_eq (tgt := 23) (pc' := 19) dX11_grief_16 (by decide) rfl (fun hc => ?_) (fun hc => ?_)
  · rw [if_pos hc] at h
    refine X.iconst (v := 1) (pc' := 24) dX11_grief_23 rfl (by decide) ?_
    exact ok_X11_grief_24 h
  · rw [if_neg hc] at h
    refine X.iconst (v := 0) (pc' := 20) dX11_grief_19 rfl (by decide) ?_
    refine X.goto (pc' := 24) dX11_grief_20 (by decide) ?_
    exact ok_X11_grief_24 h
def f_X11_writeRoute_114 (fu : Nat) (a0 : Nat) (a1 : Int32) (a2 : Int32) (a3 : Int32) (a4 : Int32) (b0 : Nat) (b1 : Int32) (b2 : Int32) (M : List Ob) (k58 : Nat → Int32 → Int32 → Int32 → List Ob → Option (Int32 × List Ob)) (k152 : Nat → List Ob → Option (Int32 × List Ob)) : Option (Int32 × List Ob) :=
  (aSet M b0 13 b1 (.int b2)).bind fun M2 =>
  (gP M2 a0 11 26).bind fun r3 =>
  (gI M2 a0 11 27).bind fun v5 =>
  (hasO M2 a0 11).bind fun _ =>
  bd2 (f_X11_of fu a0 a4 1 M2) fun v7 M8 =>
  (aSet M8 r3 13 (v5 + 1) (.int (48 + v7))).bind fun M12 =>
  (gI M12 a0 11 27).bind fun v13 =>
  (pF M12 a0 11 27 (.int (v13 + 2))).bind fun M15 =>
  k58 a0 a1 a2 (a3 + 1) M15
set_option maxHeartbeats 4000000 in
theorem ok_X11_writeRoute_114 {G : GT} {fu : Nat} {out : Int32 × List Ob} {a0 : Nat} {a1 : Int32} {a2 : Int32} {a3 : Int32} {a4 : Int32} {b0 : Nat} {b1 : Int32} {b2 : Int32} {M : List Ob} {k58 : Nat → Int32 → Int32 → Int32 → List Ob → Option (Int32 × List Ob)} {k152 : Nat → List Ob → Option (Int32 × List Ob)} (hk58 : ∀ (a0 : Nat) (a1 : Int32) (a2 : Int32) (a3 : Int32) (M : List Ob), k58 a0 a1 a2 a3 M = some out → X G t_X11_writeRoute [] 58 [some (.ref a0), some (.int a1), some (.int a2), some (.int a3), none] [] M 0 0 (oI out)) (hk152 : ∀ (a0 : Nat) (M : List Ob), k152 a0 M = some out → X G t_X11_writeRoute [] 152 [some (.ref a0), none, none, none, none] [] M 0 0 (oI out)) (h : f_X11_writeRoute_114 fu a0 a1 a2 a3 a4 b0 b1 b2 M k58 k152 = some out) : X G t_X11_writeRoute [] 114 [some (.ref a0), some (.int a1), some (.int a2), some (.int a3), some (.int a4)] [.int b2, .int b1, .ref b0] M 0 0 (oI out) := by
  unfold f_X11_writeRoute_114 at h
  obtain ⟨M2, e1, h⟩ := bindE h
  refine X.iast (pc' := 115) dX11_writeRoute_114 rfl e1 ?_
  refine X.aload_n (x := a0) (pc' := 116) dX11_writeRoute_115 rfl rfl rfl ?_
  obtain ⟨r3, e4, h⟩ := bindE h
  refine X.getf (pc' := 119) dX11_writeRoute_116 rfl fq_X11_41 (gP_spec e4) ?_
  refine X.aload_n (x := a0) (pc' := 120) dX11_writeRoute_119 rfl rfl rfl ?_
  obtain ⟨v5, e6, h⟩ := bindE h
  refine X.getf (pc' := 123) dX11_writeRoute_120 rfl fq_X11_290 (gI_spec e6) ?_
  refine X.iconst (v := 1) (pc' := 124) dX11_writeRoute_123 rfl (by decide) ?_
  refine X.iadd (pc' := 125) dX11_writeRoute_124 rfl ?_
  refine X.bipush (v := 48) (pc' := 127) dX11_writeRoute_125 rfl (by decide) ?_
  refine X.aload_n (x := a0) (pc' := 128) dX11_writeRoute_127 rfl rfl rfl ?_
  refine X.iload (x := a4) (pc' := 130) dX11_writeRoute_128 rfl rfl ?_
  refine X.iconst (v := 1) (pc' := 131) dX11_writeRoute_130 rfl (by decide) ?_
  obtain ⟨⟨⟩, e10, h⟩ := bindE h
  obtain ⟨v7, M8, e9, h⟩ := bd2E h
  refine X.callV (b := a0) (v := some (.int v7)) (As := [.int a4, .int 1]) (st := [.int 48, .int (v5 + 1), .ref r3]) (M' := M8) (pc' := 134) dX11_writeRoute_131 rfl cl_X11_190 mi_X11_of me_X11_of mr_X11_of e10 ⟨⟨Nat.le_of_ble_eq_true rfl, Nat.le_of_ble_eq_true rfl⟩, Nat.le_of_ble_eq_true rfl, Nat.le_of_ble_eq_true rfl⟩ rfl (Nat.le_of_ble_eq_true rfl) (ok_X11_of (G := zs G) e9) ?_
  show X G t_X11_writeRoute [] 134 [some (.ref a0), some (.int a1), some (.int a2), some (.int a3), some (.int a4)] [.int v7, .int 48, .int (v5 + 1), .ref r3] M8 0 0 _
  refine X.iadd (pc' := 135) dX11_writeRoute_134 rfl ?_
  obtain ⟨M12, e11, h⟩ := bindE h
  refine X.iast (pc' := 136) dX11_writeRoute_135 rfl e11 ?_
  refine X.aload_n (x := a0) (pc' := 137) dX11_writeRoute_136 rfl rfl rfl ?_
  refine X.dup (pc' := 138) dX11_writeRoute_137 rfl rfl ?_
  obtain ⟨v13, e14, h⟩ := bindE h
  refine X.getf (pc' := 141) dX11_writeRoute_138 rfl fq_X11_290 (gI_spec e14) ?_
  refine X.iconst (v := 2) (pc' := 142) dX11_writeRoute_141 rfl (by decide) ?_
  refine X.iadd (pc' := 143) dX11_writeRoute_142 rfl ?_
  obtain ⟨M15, e16, h⟩ := bindE h
  refine X.putf (pc' := 146) dX11_writeRoute_143 rfl fq_X11_290 rfl rfl e16 ?_
  refine X.iinc (v := (a3 + 1)) (L' := [some (.ref a0), some (.int a1), some (.int a2), some (.int (a3 + 1)), some (.int a4)]) (pc' := 149) dX11_writeRoute_146 rfl rfl (congrArg (fun y => a3 + y) (show Int32.ofInt 1 = 1 by decide)) (Nat.le_of_ble_eq_true rfl) rfl ?_
  refine X.goto (pc' := 58) dX11_writeRoute_149 (by decide) ?_
  refine X.sub (L := [some (.ref a0), some (.int a1), some (.int a2), some (.int (a3 + 1)), none]) ?_ (⟨rfl, ⟨rfl, ⟨rfl, ⟨rfl, trivial⟩⟩⟩⟩)
  exact hk58 _ _ _ _ _ h
def f_X11_writeRoute_58b (fu : Nat) (a0 : Nat) (a1 : Int32) (a2 : Int32) (a3 : Int32) (M : List Ob) (k58 : Nat → Int32 → Int32 → Int32 → List Ob → Option (Int32 × List Ob)) (k152 : Nat → List Ob → Option (Int32 × List Ob)) : Option (Int32 × List Ob) :=
  (gP M a0 11 0).bind fun r1 =>
  (aI M r1 13 (70 + (8 * a1))).bind fun v4 =>
  if v4 < a3 then (k152 a0 M)
  else ((gP M a0 11 0).bind fun r5 =>
  (aI M r5 13 ((70 + (8 * a1)) + a3)).bind fun v8 =>
  (gP M a0 11 26).bind fun r9 =>
  (gI M a0 11 27).bind fun v11 =>
  bd2 (f_X11_has fu a2 v8 M) fun v13 M14 =>
  if v13 = 0 then (f_X11_writeRoute_114 fu a0 a1 a2 a3 v8 r9 v11 45 M14 k58 k152)
  else (f_X11_writeRoute_114 fu a0 a1 a2 a3 v8 r9 v11 43 M14 k58 k152))
set_option maxHeartbeats 4000000 in
theorem ok_X11_writeRoute_58b {G : GT} {fu : Nat} {out : Int32 × List Ob} {a0 : Nat} {a1 : Int32} {a2 : Int32} {a3 : Int32} {M : List Ob} {k58 : Nat → Int32 → Int32 → Int32 → List Ob → Option (Int32 × List Ob)} {k152 : Nat → List Ob → Option (Int32 × List Ob)} (hk58 : ∀ (a0 : Nat) (a1 : Int32) (a2 : Int32) (a3 : Int32) (M : List Ob), k58 a0 a1 a2 a3 M = some out → X G t_X11_writeRoute [] 58 [some (.ref a0), some (.int a1), some (.int a2), some (.int a3), none] [] M 0 0 (oI out)) (hk152 : ∀ (a0 : Nat) (M : List Ob), k152 a0 M = some out → X G t_X11_writeRoute [] 152 [some (.ref a0), none, none, none, none] [] M 0 0 (oI out)) (h : f_X11_writeRoute_58b fu a0 a1 a2 a3 M k58 k152 = some out) : X G t_X11_writeRoute [] 58 [some (.ref a0), some (.int a1), some (.int a2), some (.int a3), none] [] M 0 0 (oI out) := by
  unfold f_X11_writeRoute_58b at h
  refine X.iload_n (x := a3) (pc' := 59) dX11_writeRoute_58 rfl rfl rfl ?_
  refine X.aload_n (x := a0) (pc' := 60) dX11_writeRoute_59 rfl rfl rfl ?_
  obtain ⟨r1, e2, h⟩ := bindE h
  refine X.getf (pc' := 63) dX11_writeRoute_60 rfl fq_X11_7 (gP_spec e2) ?_
  refine X.bipush (v := 70) (pc' := 65) dX11_writeRoute_63 rfl (by decide) ?_
  refine X.bipush (v := 8) (pc' := 67) dX11_writeRoute_65 rfl (by decide) ?_
  refine X.iload_n (x := a1) (pc' := 68) dX11_writeRoute_67 rfl rfl rfl ?_
  refine X.imul (pc' := 69) dX11_writeRoute_68 rfl ?_
  refine X.iadd (pc' := 70) dX11_writeRoute_69 rfl ?_
  obtain ⟨v4, e3, h⟩ := bindE h
  refine X.iald (pc' := 71) dX11_writeRoute_70 rfl e3 ?_
  refine X.icmp_gt (tgt := 152) (pc' := 74) dX11_writeRoute_71 (by decide) rfl (fun hc => ?_) (fun hc => ?_)
  · rw [if_pos hc] at h
    refine X.sub (L := [some (.ref a0), none, none, none, none]) ?_ (⟨rfl, trivial⟩)
    exact hk152 _ _ h
  · rw [if_neg hc] at h
    refine X.aload_n (x := a0) (pc' := 75) dX11_writeRoute_74 rfl rfl rfl ?_
    obtain ⟨r5, e6, h⟩ := bindE h
    refine X.getf (pc' := 78) dX11_writeRoute_75 rfl fq_X11_7 (gP_spec e6) ?_
    refine X.bipush (v := 70) (pc' := 80) dX11_writeRoute_78 rfl (by decide) ?_
    refine X.bipush (v := 8) (pc' := 82) dX11_writeRoute_80 rfl (by decide) ?_
    refine X.iload_n (x := a1) (pc' := 83) dX11_writeRoute_82 rfl rfl rfl ?_
    refine X.imul (pc' := 84) dX11_writeRoute_83 rfl ?_
    refine X.iadd (pc' := 85) dX11_writeRoute_84 rfl ?_
    refine X.iload_n (x := a3) (pc' := 86) dX11_writeRoute_85 rfl rfl rfl ?_
    refine X.iadd (pc' := 87) dX11_writeRoute_86 rfl ?_
    obtain ⟨v8, e7, h⟩ := bindE h
    refine X.iald (pc' := 88) dX11_writeRoute_87 rfl e7 ?_
    refine X.istore (L' := [some (.ref a0), some (.int a1), some (.int a2), some (.int a3), some (.int v8)]) (pc' := 90) dX11_writeRoute_88 rfl (Nat.le_of_ble_eq_true rfl) rfl ?_
    refine X.aload_n (x := a0) (pc' := 91) dX11_writeRoute_90 rfl rfl rfl ?_
    obtain ⟨r9, e10, h⟩ := bindE h
    refine X.getf (pc' := 94) dX11_writeRoute_91 rfl fq_X11_41 (gP_spec e10) ?_
    refine X.aload_n (x := a0) (pc' := 95) dX11_writeRoute_94 rfl rfl rfl ?_
    obtain ⟨v11, e12, h⟩ := bindE h
    refine X.getf (pc' := 98) dX11_writeRoute_95 rfl fq_X11_290 (gI_spec e12) ?_
    refine X.iload_n (x := a2) (pc' := 99) dX11_writeRoute_98 rfl rfl rfl ?_
    refine X.iload (x := v8) (pc' := 101) dX11_writeRoute_99 rfl rfl ?_
    obtain ⟨v13, M14, e15, h⟩ := bd2E h
    refine X.callS (v := some (.int v13)) (As := [.int a2, .int v8]) (st := [.int v11, .ref r9]) (M' := M14) (pc' := 104) dX11_writeRoute_101 rfl cl_X11_59 ms_X11_has ⟨⟨Nat.le_of_ble_eq_true rfl, Nat.le_of_ble_eq_true rfl⟩, Nat.le_of_ble_eq_true rfl, Nat.le_of_ble_eq_true rfl⟩ rfl (Nat.le_of_ble_eq_true rfl) (ok_X11_has (G := zs G) e15) ?_
    show X G t_X11_writeRoute [] 104 [some (.ref a0), some (.int a1), some (.int a2), some (.int a3), some (.int v8)] [.int v13, .int v11, .ref r9] M14 0 0 _
    refine X.if_eq (tgt := 112) (pc' := 107) dX11_writeRoute_104 (by decide) rfl (fun hc => ?_) (fun hc => ?_)
    · rw [if_pos hc] at h
      refine X.bipush (v := 45) (pc' := 114) dX11_writeRoute_112 rfl (by decide) ?_
      exact ok_X11_writeRoute_114 hk58 hk152 h
    · rw [if_neg hc] at h
      refine X.bipush (v := 43) (pc' := 109) dX11_writeRoute_107 rfl (by decide) ?_
      refine X.goto (pc' := 114) dX11_writeRoute_109 (by decide) ?_
      exact ok_X11_writeRoute_114 hk58 hk152 h
def f_X11_writeRoute_58 (fu : Nat) (k152 : Nat → List Ob → Option (Int32 × List Ob)) : Nat → Nat → Int32 → Int32 → Int32 → List Ob → Option (Int32 × List Ob)
  | 0, _, _, _, _, _ => none
  | n + 1, a0, a1, a2, a3, M => f_X11_writeRoute_58b fu a0 a1 a2 a3 M (fun a0 a1 a2 a3 M => f_X11_writeRoute_58 fu k152 n a0 a1 a2 a3 M) k152
theorem ok_X11_writeRoute_58 {G : GT} {fu : Nat} {out : Int32 × List Ob} {k152 : Nat → List Ob → Option (Int32 × List Ob)} (hk152 : ∀ (a0 : Nat) (M : List Ob), k152 a0 M = some out → X G t_X11_writeRoute [] 152 [some (.ref a0), none, none, none, none] [] M 0 0 (oI out)) : ∀ (n : Nat) (a0 : Nat) (a1 : Int32) (a2 : Int32) (a3 : Int32) (M : List Ob), f_X11_writeRoute_58 fu k152 n a0 a1 a2 a3 M = some out → X G t_X11_writeRoute [] 58 [some (.ref a0), some (.int a1), some (.int a2), some (.int a3), none] [] M 0 0 (oI out) := by
  intro n
  induction n with
  | zero =>
    intro a0 a1 a2 a3 M h
    unfold f_X11_writeRoute_58 at h
    cases h
  | succ n ih =>
    intro a0 a1 a2 a3 M h
    unfold f_X11_writeRoute_58 at h
    exact ok_X11_writeRoute_58b ih hk152 h
def f_X11_writeRoute_152 (fu : Nat) (a0 : Nat) (M : List Ob) : Option (Int32 × List Ob) :=
  (gI M a0 11 27).bind fun v1 =>
  some (v1, M)
set_option maxHeartbeats 4000000 in
theorem ok_X11_writeRoute_152 {G : GT} {fu : Nat} {out : Int32 × List Ob} {a0 : Nat} {M : List Ob} (h : f_X11_writeRoute_152 fu a0 M = some out) : X G t_X11_writeRoute [] 152 [some (.ref a0), none, none, none, none] [] M 0 0 (oI out) := by
  unfold f_X11_writeRoute_152 at h
  refine X.aload_n (x := a0) (pc' := 153) dX11_writeRoute_152 rfl rfl rfl ?_
  obtain ⟨v1, e2, h⟩ := bindE h
  refine X.getf (pc' := 156) dX11_writeRoute_153 rfl fq_X11_290 (gI_spec e2) ?_
  cases h
  exact X.iret (ty := .int) dX11_writeRoute_156 rfl rfl (Nat.le_of_ble_eq_true rfl) (Nat.le_of_ble_eq_true rfl) rfl
def f_X11_writeRoute_14 (fu : Nat) (a0 : Nat) (a1 : Int32) (b0 : Nat) (b1 : Int32) (M : List Ob) : Option (Int32 × List Ob) :=
  (pF M b0 11 4 (.int b1)).bind fun M1 =>
  (gI M1 a0 11 4).bind fun v3 =>
  if v3 ≤ 0 then ((hasO M1 a0 11).bind fun _ =>
  bd2 (f_X11_toldArcs fu a0 a1 M1) fun v5 M6 =>
  (hasO M6 a0 11).bind fun _ =>
  bd2 (f_X11_witnessOf fu a0 v5 M6) fun v9 M10 =>
  (gP M10 a0 11 26).bind fun r13 =>
  (gP M10 a0 11 0).bind fun r15 =>
  (aI M10 r15 13 1).bind fun v18 =>
  (aSet M10 r13 13 0 (.int (48 + v18))).bind fun M20 =>
  (pF M20 a0 11 27 (.int 1)).bind fun M21 =>
  f_X11_writeRoute_58 fu (fun x23 M24 => f_X11_writeRoute_152 fu x23 M24) fu a0 a1 v9 1 M21)
  else (some (0, M1))
set_option maxHeartbeats 4000000 in
theorem ok_X11_writeRoute_14 {G : GT} {fu : Nat} {out : Int32 × List Ob} {a0 : Nat} {a1 : Int32} {b0 : Nat} {b1 : Int32} {M : List Ob} (h : f_X11_writeRoute_14 fu a0 a1 b0 b1 M = some out) : X G t_X11_writeRoute [] 14 [some (.ref a0), some (.int a1), none, none, none] [.int b1, .ref b0] M 0 0 (oI out) := by
  unfold f_X11_writeRoute_14 at h
  obtain ⟨M1, e2, h⟩ := bindE h
  refine X.putf (pc' := 17) dX11_writeRoute_14 rfl fq_X11_56 rfl rfl e2 ?_
  refine X.aload_n (x := a0) (pc' := 18) dX11_writeRoute_17 rfl rfl rfl ?_
  obtain ⟨v3, e4, h⟩ := bindE h
  refine X.getf (pc' := 21) dX11_writeRoute_18 rfl fq_X11_56 (gI_spec e4) ?_
  refine X.if_le (tgt := 26) (pc' := 24) dX11_writeRoute_21 (by decide) rfl (fun hc => ?_) (fun hc => ?_)
  · rw [if_pos hc] at h
    refine X.aload_n (x := a0) (pc' := 27) dX11_writeRoute_26 rfl rfl rfl ?_
    refine X.aload_n (x := a0) (pc' := 28) dX11_writeRoute_27 rfl rfl rfl ?_
    refine X.iload_n (x := a1) (pc' := 29) dX11_writeRoute_28 rfl rfl rfl ?_
    obtain ⟨⟨⟩, e8, h⟩ := bindE h
    obtain ⟨v5, M6, e7, h⟩ := bd2E h
    refine X.callV (b := a0) (v := some (.int v5)) (As := [.int a1]) (st := [.ref a0]) (M' := M6) (pc' := 32) dX11_writeRoute_29 rfl cl_X11_216 mi_X11_toldArcs me_X11_toldArcs mr_X11_toldArcs e8 ⟨⟨Nat.le_of_ble_eq_true rfl, Nat.le_of_ble_eq_true rfl⟩, Nat.le_of_ble_eq_true rfl, Nat.le_of_ble_eq_true rfl⟩ rfl (Nat.le_of_ble_eq_true rfl) (ok_X11_toldArcs (G := zs G) e7) ?_
    show X G t_X11_writeRoute [] 32 [some (.ref a0), some (.int a1), none, none, none] [.int v5, .ref a0] M6 0 0 _
    obtain ⟨⟨⟩, e12, h⟩ := bindE h
    obtain ⟨v9, M10, e11, h⟩ := bd2E h
    refine X.callV (b := a0) (v := some (.int v9)) (As := [.int v5]) (st := []) (M' := M10) (pc' := 35) dX11_writeRoute_32 rfl cl_X11_209 mi_X11_witnessOf me_X11_witnessOf mr_X11_witnessOf e12 ⟨⟨Nat.le_of_ble_eq_true rfl, Nat.le_of_ble_eq_true rfl⟩, Nat.le_of_ble_eq_true rfl, Nat.le_of_ble_eq_true rfl⟩ rfl (Nat.le_of_ble_eq_true rfl) (ok_X11_witnessOf (G := zs G) e11) ?_
    show X G t_X11_writeRoute [] 35 [some (.ref a0), some (.int a1), none, none, none] [.int v9] M10 0 0 _
    refine X.istore_n (L' := [some (.ref a0), some (.int a1), some (.int v9), none, none]) (pc' := 36) dX11_writeRoute_35 rfl rfl (Nat.le_of_ble_eq_true rfl) rfl ?_
    refine X.aload_n (x := a0) (pc' := 37) dX11_writeRoute_36 rfl rfl rfl ?_
    obtain ⟨r13, e14, h⟩ := bindE h
    refine X.getf (pc' := 40) dX11_writeRoute_37 rfl fq_X11_41 (gP_spec e14) ?_
    refine X.iconst (v := 0) (pc' := 41) dX11_writeRoute_40 rfl (by decide) ?_
    refine X.bipush (v := 48) (pc' := 43) dX11_writeRoute_41 rfl (by decide) ?_
    refine X.aload_n (x := a0) (pc' := 44) dX11_writeRoute_43 rfl rfl rfl ?_
    obtain ⟨r15, e16, h⟩ := bindE h
    refine X.getf (pc' := 47) dX11_writeRoute_44 rfl fq_X11_7 (gP_spec e16) ?_
    refine X.iconst (v := 1) (pc' := 48) dX11_writeRoute_47 rfl (by decide) ?_
    obtain ⟨v18, e17, h⟩ := bindE h
    refine X.iald (pc' := 49) dX11_writeRoute_48 rfl e17 ?_
    refine X.iadd (pc' := 50) dX11_writeRoute_49 rfl ?_
    obtain ⟨M20, e19, h⟩ := bindE h
    refine X.iast (pc' := 51) dX11_writeRoute_50 rfl e19 ?_
    refine X.aload_n (x := a0) (pc' := 52) dX11_writeRoute_51 rfl rfl rfl ?_
    refine X.iconst (v := 1) (pc' := 53) dX11_writeRoute_52 rfl (by decide) ?_
    obtain ⟨M21, e22, h⟩ := bindE h
    refine X.putf (pc' := 56) dX11_writeRoute_53 rfl fq_X11_290 rfl rfl e22 ?_
    refine X.iconst (v := 1) (pc' := 57) dX11_writeRoute_56 rfl (by decide) ?_
    refine X.istore_n (L' := [some (.ref a0), some (.int a1), some (.int v9), some (.int 1), none]) (pc' := 58) dX11_writeRoute_57 rfl rfl (Nat.le_of_ble_eq_true rfl) rfl ?_
    refine ok_X11_writeRoute_58 ?_ fu _ _ _ _ _ h
    · intro x23 M24 h
      exact ok_X11_writeRoute_152 h
  · rw [if_neg hc] at h
    refine X.iconst (v := 0) (pc' := 25) dX11_writeRoute_24 rfl (by decide) ?_
    cases h
    exact X.iret (ty := .int) dX11_writeRoute_25 rfl rfl (Nat.le_of_ble_eq_true rfl) (Nat.le_of_ble_eq_true rfl) rfl
def f_X11_writeRoute (fu : Nat) (a0 : Nat) (a1 : Int32) (M : List Ob) : Option (Int32 × List Ob) :=
  (hasO M a0 11).bind fun _ =>
  bd2 (f_X11_isTold fu a0 a1 M) fun v1 M2 =>
  if v1 = 0 then (f_X11_writeRoute_14 fu a0 a1 a0 1 M2)
  else (f_X11_writeRoute_14 fu a0 a1 a0 0 M2)
set_option maxHeartbeats 4000000 in
theorem ok_X11_writeRoute {G : GT} {fu : Nat} {a0 : Nat} {a1 : Int32} {M : List Ob} {out : Int32 × List Ob} (h : f_X11_writeRoute fu a0 a1 M = some out) : Sp G t_X11_writeRoute [.ref a0, .int a1] M (oI out) := by
  refine Sp.of rfl (by decide +kernel) (cat_all rfl) (Nat.le_of_ble_eq_true rfl) ?_
  show X G t_X11_writeRoute [] 0 [some (.ref a0), some (.int a1), none, none, none] [] M 0 0 (oI out)
  unfold f_X11_writeRoute at h
  refine X.aload_n (x := a0) (pc' := 1) dX11_writeRoute_0 rfl rfl rfl ?_
  refine X.aload_n (x := a0) (pc' := 2) dX11_writeRoute_1 rfl rfl rfl ?_
  refine X.iload_n (x := a1) (pc' := 3) dX11_writeRoute_2 rfl rfl rfl ?_
  obtain ⟨⟨⟩, e4, h⟩ := bindE h
  obtain ⟨v1, M2, e3, h⟩ := bd2E h
  refine X.callV (b := a0) (v := some (.int v1)) (As := [.int a1]) (st := [.ref a0]) (M' := M2) (pc' := 6) dX11_writeRoute_3 rfl cl_X11_206 mi_X11_isTold me_X11_isTold mr_X11_isTold e4 ⟨⟨Nat.le_of_ble_eq_true rfl, Nat.le_of_ble_eq_true rfl⟩, Nat.le_of_ble_eq_true rfl, Nat.le_of_ble_eq_true rfl⟩ rfl (Nat.le_of_ble_eq_true rfl) (ok_X11_isTold (G := zs G) e3) ?_
  show X G t_X11_writeRoute [] 6 [some (.ref a0), some (.int a1), none, none, none] [.int v1, .ref a0] M2 0 0 _
  refine X.if_eq (tgt := 13) (pc' := 9) dX11_writeRoute_6 (by decide) rfl (fun hc => ?_) (fun hc => ?_)
  · rw [if_pos hc] at h
    refine X.iconst (v := 1) (pc' := 14) dX11_writeRoute_13 rfl (by decide) ?_
    exact ok_X11_writeRoute_14 h
  · rw [if_neg hc] at h
    refine X.iconst (v := 0) (pc' := 10) dX11_writeRoute_9 rfl (by decide) ?_
    refine X.goto (pc' := 14) dX11_writeRoute_10 (by decide) ?_
    exact ok_X11_writeRoute_14 h
def f_X11_writtenByte_20 (fu : Nat) (a0 : Nat) (a1 : Int32) (b0 : Nat) (b1 : Int32) (M : List Ob) : Option (Int32 × List Ob) :=
  (pF M b0 11 4 (.int b1)).bind fun M1 =>
  (gI M1 a0 11 4).bind fun v3 =>
  if v3 ≤ 0 then ((gP M1 a0 11 26).bind fun r5 =>
  (aI M1 r5 13 a1).bind fun v8 =>
  some (v8, M1))
  else (some (0, M1))
set_option maxHeartbeats 4000000 in
theorem ok_X11_writtenByte_20 {G : GT} {fu : Nat} {out : Int32 × List Ob} {a0 : Nat} {a1 : Int32} {b0 : Nat} {b1 : Int32} {M : List Ob} (h : f_X11_writtenByte_20 fu a0 a1 b0 b1 M = some out) : X G t_X11_writtenByte [] 20 [some (.ref a0), some (.int a1)] [.int b1, .ref b0] M 0 0 (oI out) := by
  unfold f_X11_writtenByte_20 at h
  obtain ⟨M1, e2, h⟩ := bindE h
  refine X.putf (pc' := 23) dX11_writtenByte_20 rfl fq_X11_56 rfl rfl e2 ?_
  refine X.aload_n (x := a0) (pc' := 24) dX11_writtenByte_23 rfl rfl rfl ?_
  obtain ⟨v3, e4, h⟩ := bindE h
  refine X.getf (pc' := 27) dX11_writtenByte_24 rfl fq_X11_56 (gI_spec e4) ?_
  refine X.if_le (tgt := 34) (pc' := 30) dX11_writtenByte_27 (by decide) rfl (fun hc => ?_) (fun hc => ?_)
  · rw [if_pos hc] at h
    refine X.aload_n (x := a0) (pc' := 35) dX11_writtenByte_34 rfl rfl rfl ?_
    obtain ⟨r5, e6, h⟩ := bindE h
    refine X.getf (pc' := 38) dX11_writtenByte_35 rfl fq_X11_41 (gP_spec e6) ?_
    refine X.iload_n (x := a1) (pc' := 39) dX11_writtenByte_38 rfl rfl rfl ?_
    obtain ⟨v8, e7, h⟩ := bindE h
    refine X.iald (pc' := 40) dX11_writtenByte_39 rfl e7 ?_
    cases h
    exact X.iret (ty := .int) dX11_writtenByte_40 rfl rfl (Nat.le_of_ble_eq_true rfl) (Nat.le_of_ble_eq_true rfl) rfl
  · rw [if_neg hc] at h
    refine X.iconst (v := 0) (pc' := 31) dX11_writtenByte_30 rfl (by decide) ?_
    refine X.goto (pc' := 40) dX11_writtenByte_31 (by decide) ?_
    cases h
    exact X.iret (ty := .int) dX11_writtenByte_40 rfl rfl (Nat.le_of_ble_eq_true rfl) (Nat.le_of_ble_eq_true rfl) rfl
def f_X11_writtenByte (fu : Nat) (a0 : Nat) (a1 : Int32) (M : List Ob) : Option (Int32 × List Ob) :=
  (gI M a0 11 27).bind fun v1 =>
  bd2 (f_X11_isIn fu a1 0 (v1 - 1) M) fun v3 M4 =>
  if v3 = 0 then (f_X11_writtenByte_20 fu a0 a1 a0 1 M4)
  else (f_X11_writtenByte_20 fu a0 a1 a0 0 M4)
set_option maxHeartbeats 4000000 in
theorem ok_X11_writtenByte {G : GT} {fu : Nat} {a0 : Nat} {a1 : Int32} {M : List Ob} {out : Int32 × List Ob} (h : f_X11_writtenByte fu a0 a1 M = some out) : Sp G t_X11_writtenByte [.ref a0, .int a1] M (oI out) := by
  refine Sp.of rfl (by decide +kernel) (cat_all rfl) (Nat.le_of_ble_eq_true rfl) ?_
  show X G t_X11_writtenByte [] 0 [some (.ref a0), some (.int a1)] [] M 0 0 (oI out)
  unfold f_X11_writtenByte at h
  refine X.aload_n (x := a0) (pc' := 1) dX11_writtenByte_0 rfl rfl rfl ?_
  refine X.iload_n (x := a1) (pc' := 2) dX11_writtenByte_1 rfl rfl rfl ?_
  refine X.iconst (v := 0) (pc' := 3) dX11_writtenByte_2 rfl (by decide) ?_
  refine X.aload_n (x := a0) (pc' := 4) dX11_writtenByte_3 rfl rfl rfl ?_
  obtain ⟨v1, e2, h⟩ := bindE h
  refine X.getf (pc' := 7) dX11_writtenByte_4 rfl fq_X11_290 (gI_spec e2) ?_
  refine X.iconst (v := 1) (pc' := 8) dX11_writtenByte_7 rfl (by decide) ?_
  refine X.isub (pc' := 9) dX11_writtenByte_8 rfl ?_
  obtain ⟨v3, M4, e5, h⟩ := bd2E h
  refine X.callS (v := some (.int v3)) (As := [.int a1, .int 0, .int (v1 - 1)]) (st := [.ref a0]) (M' := M4) (pc' := 12) dX11_writtenByte_9 rfl cl_X11_72 ms_X11_isIn ⟨⟨Nat.le_of_ble_eq_true rfl, Nat.le_of_ble_eq_true rfl⟩, Nat.le_of_ble_eq_true rfl, Nat.le_of_ble_eq_true rfl⟩ rfl (Nat.le_of_ble_eq_true rfl) (ok_X11_isIn (G := zs G) e5) ?_
  show X G t_X11_writtenByte [] 12 [some (.ref a0), some (.int a1)] [.int v3, .ref a0] M4 0 0 _
  refine X.if_eq (tgt := 19) (pc' := 15) dX11_writtenByte_12 (by decide) rfl (fun hc => ?_) (fun hc => ?_)
  · rw [if_pos hc] at h
    refine X.iconst (v := 1) (pc' := 20) dX11_writtenByte_19 rfl (by decide) ?_
    exact ok_X11_writtenByte_20 h
  · rw [if_neg hc] at h
    refine X.iconst (v := 0) (pc' := 16) dX11_writtenByte_15 rfl (by decide) ?_
    refine X.goto (pc' := 20) dX11_writtenByte_16 (by decide) ?_
    exact ok_X11_writtenByte_20 h
