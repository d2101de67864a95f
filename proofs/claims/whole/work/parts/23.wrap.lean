/-! the law's own methods -/
theorem pass_nil {α : Type} {P : α → Prop} : ∀ z ∈ ([] : List α), P z := fun z h => by cases h
theorem pass_cons {α : Type} {P : α → Prop} {a : α} {l : List α} (h : P a) (hl : ∀ z ∈ l, P z) : ∀ z ∈ a :: l, P z := fun z hz => by
  rcases List.mem_cons.mp hz with rfl | hz
  · exact h
  · exact hl z hz
def f_L_append (fu : Nat) (a0 : Nat) (a1 : Int32) (a2 : Int32) (a3 : Int32) (a4 : Int32) (a5 : Int32) (a6 : Nat) (M : List Ob) : Option (Int32 × List Ob) :=
  (hasO M a0 10).bind fun _ =>
  bdW (f_X10_append fu a0 a1 a2 a3 a4 a5 M) (fun v1 M2 =>
  (aSet M2 a6 17 0 (.long ((v1 : Int32).toInt64))).bind fun M7 =>
  some (0, M7))
  (fun E5 M2 => if E5 = "java/lang/IllegalStateException" then (some (1, M2))
  else none)
set_option maxHeartbeats 4000000 in
theorem ok_L_append {G : GT} (hz : gZ G = false) {fu : Nat} {a0 : Nat} {a1 : Int32} {a2 : Int32} {a3 : Int32} {a4 : Int32} {a5 : Int32} {a6 : Nat} {M : List Ob} {out : Int32 × List Ob} (h : f_L_append fu a0 a1 a2 a3 a4 a5 a6 M = some out) : SpW G t_L_append [(0, 16, 19, 13)] [.ref a0, .int a1, .int a2, .int a3, .int a4, .int a5, .ref a6] M (oI out) := by
  refine SpW.of rfl (by decide +kernel) (cat_all rfl) (Nat.le_of_ble_eq_true rfl) ?_
  show X G t_L_append [(0, 16, 19, 13)] 0 [some (.ref a0), some (.int a1), some (.int a2), some (.int a3), some (.int a4), some (.int a5), some (.ref a6), none] [] M 0 0 (oI out)
  unfold f_L_append at h
  refine X.aload (x := a6) (pc' := 2) dL_append_0 rfl rfl ?_
  refine X.iconst (v := 0) (pc' := 3) dL_append_2 rfl (by decide) ?_
  refine X.aload_n (x := a0) (pc' := 4) dL_append_3 rfl rfl rfl ?_
  refine X.iload_n (x := a1) (pc' := 5) dL_append_4 rfl rfl rfl ?_
  refine X.iload_n (x := a2) (pc' := 6) dL_append_5 rfl rfl rfl ?_
  refine X.iload_n (x := a3) (pc' := 7) dL_append_6 rfl rfl rfl ?_
  refine X.iload (x := a4) (pc' := 9) dL_append_7 rfl rfl ?_
  refine X.iload (x := a5) (pc' := 11) dL_append_9 rfl rfl ?_
  obtain ⟨⟨⟩, e4, h⟩ := bindE h
  rcases bdWE h with ⟨v1, M2, e3, h⟩ | ⟨E5, M2, e3, h⟩
  rotate_left
  · -- thrown
    by_cases hE0 : E5 = "java/lang/IllegalStateException"
    · rw [if_pos hE0] at h
      subst hE0
      refine X.callVh (b := a0) (E := "java/lang/IllegalStateException") (As := [.int a1, .int a2, .int a3, .int a4, .int a5]) (st := [.int 0, .ref a6]) (M' := M2) (i := 7) (pc2 := 21) (L' := [some (.ref a0), some (.int a1), some (.int a2), some (.int a3), some (.int a4), some (.int a5), some (.ref a6), none]) (pre := []) (x := ⟨0, 16, 19, 13⟩) (suf := []) dL_append_11 cl_L_7 mi_X10_append me_X10_append mr_X10_append e4 ⟨⟨Nat.le_of_ble_eq_true rfl, Nat.le_of_ble_eq_true rfl⟩, Nat.le_of_ble_eq_true rfl, Nat.le_of_ble_eq_true rfl⟩ rfl (Nat.le_of_ble_eq_true rfl) hz (ok_X10_append (G := zs G) (hz := hz) e3) rfl pass_nil rfl (by decide) (TBg_of 563 (by decide +kernel) rfl) (by decide +kernel) (Or.inl ⟨dL_append_19, rfl⟩) (by decide) rfl ?_
      show X G t_L_append [(0, 16, 19, 13)] 21 [some (.ref a0), some (.int a1), some (.int a2), some (.int a3), some (.int a4), some (.int a5), some (.ref a6), none] [] M2 1 6 _
      refine X.iconst (v := 1) (pc' := 22) dL_append_21 rfl (by decide) ?_
      cases h
      exact X.iret (ty := .int) dL_append_22 rfl (by decide) (Nat.le_of_ble_eq_true rfl) (Nat.le_of_ble_eq_true rfl) rfl
    rw [if_neg hE0] at h
    cases h
  refine X.callVq (b := a0) (v := some (.int v1)) (As := [.int a1, .int a2, .int a3, .int a4, .int a5]) (st := [.int 0, .ref a6]) (M' := M2) (pc' := 14) dL_append_11 rfl cl_L_7 mi_X10_append me_X10_append mr_X10_append e4 ⟨⟨Nat.le_of_ble_eq_true rfl, Nat.le_of_ble_eq_true rfl⟩, Nat.le_of_ble_eq_true rfl, Nat.le_of_ble_eq_true rfl⟩ rfl (Nat.le_of_ble_eq_true rfl) (ok_X10_append (G := zs G) (hz := hz) e3) ?_
  show X G t_L_append [(0, 16, 19, 13)] 14 [some (.ref a0), some (.int a1), some (.int a2), some (.int a3), some (.int a4), some (.int a5), some (.ref a6), none] [.int v1, .int 0, .ref a6] M2 1 6 _
  refine X.i2l (pc' := 15) dL_append_14 rfl ?_
  obtain ⟨M7, e6, h⟩ := bindE h
  refine X.last (pc' := 16) dL_append_15 rfl e6 ?_
  refine X.goto (pc' := 23) dL_append_16 (by decide) ?_
  refine X.iconst (v := 0) (pc' := 24) dL_append_23 rfl (by decide) ?_
  cases h
  exact X.iret (ty := .int) dL_append_24 rfl (by decide) (Nat.le_of_ble_eq_true rfl) (Nat.le_of_ble_eq_true rfl) rfl
def f_L_load (fu : Nat) (a0 : Nat) (a1 : Int32) (a2 : Nat) (M : List Ob) : Option (Int32 × List Ob) :=
  (hasO M a0 10).bind fun _ =>
  bdW (f_X10_load fu a0 a1 M) (fun v1 M2 =>
  (aSet M2 a2 17 0 (.long ((v1 : Int32).toInt64))).bind fun M7 =>
  some (0, M7))
  (fun E5 M2 => if E5 = "java/lang/IllegalArgumentException" then (some (1, M2))
  else none)
set_option maxHeartbeats 4000000 in
theorem ok_L_load {G : GT} (hz : gZ G = false) {fu : Nat} {a0 : Nat} {a1 : Int32} {a2 : Nat} {M : List Ob} {out : Int32 × List Ob} (h : f_L_load fu a0 a1 a2 M = some out) : SpW G t_L_load [(0, 9, 12, 19)] [.ref a0, .int a1, .ref a2] M (oI out) := by
  refine SpW.of rfl (by decide +kernel) (cat_all rfl) (Nat.le_of_ble_eq_true rfl) ?_
  show X G t_L_load [(0, 9, 12, 19)] 0 [some (.ref a0), some (.int a1), some (.ref a2), none] [] M 0 0 (oI out)
  unfold f_L_load at h
  refine X.aload_n (x := a2) (pc' := 1) dL_load_0 rfl rfl rfl ?_
  refine X.iconst (v := 0) (pc' := 2) dL_load_1 rfl (by decide) ?_
  refine X.aload_n (x := a0) (pc' := 3) dL_load_2 rfl rfl rfl ?_
  refine X.iload_n (x := a1) (pc' := 4) dL_load_3 rfl rfl rfl ?_
  obtain ⟨⟨⟩, e4, h⟩ := bindE h
  rcases bdWE h with ⟨v1, M2, e3, h⟩ | ⟨E5, M2, e3, h⟩
  rotate_left
  · -- thrown
    by_cases hE0 : E5 = "java/lang/IllegalArgumentException"
    · rw [if_pos hE0] at h
      subst hE0
      refine X.callVh (b := a0) (E := "java/lang/IllegalArgumentException") (As := [.int a1]) (st := [.int 0, .ref a2]) (M' := M2) (i := 3) (pc2 := 13) (L' := [some (.ref a0), some (.int a1), some (.ref a2), none]) (pre := []) (x := ⟨0, 9, 12, 19⟩) (suf := []) dL_load_4 cl_L_15 mi_X10_load me_X10_load mr_X10_load e4 ⟨⟨Nat.le_of_ble_eq_true rfl, Nat.le_of_ble_eq_true rfl⟩, Nat.le_of_ble_eq_true rfl, Nat.le_of_ble_eq_true rfl⟩ rfl (Nat.le_of_ble_eq_true rfl) hz (ok_X10_load (G := zs G) (hz := hz) e3) rfl pass_nil rfl (by decide) (TBg_of 643 (by decide +kernel) rfl) (by decide +kernel) (Or.inr ⟨_, dL_load_12, rfl, rfl⟩) (by decide) rfl ?_
      show X G t_L_load [(0, 9, 12, 19)] 13 [some (.ref a0), some (.int a1), some (.ref a2), none] [] M2 1 6 _
      refine X.iconst (v := 1) (pc' := 14) dL_load_13 rfl (by decide) ?_
      cases h
      exact X.iret (ty := .int) dL_load_14 rfl (by decide) (Nat.le_of_ble_eq_true rfl) (Nat.le_of_ble_eq_true rfl) rfl
    rw [if_neg hE0] at h
    cases h
  refine X.callVq (b := a0) (v := some (.int v1)) (As := [.int a1]) (st := [.int 0, .ref a2]) (M' := M2) (pc' := 7) dL_load_4 rfl cl_L_15 mi_X10_load me_X10_load mr_X10_load e4 ⟨⟨Nat.le_of_ble_eq_true rfl, Nat.le_of_ble_eq_true rfl⟩, Nat.le_of_ble_eq_true rfl, Nat.le_of_ble_eq_true rfl⟩ rfl (Nat.le_of_ble_eq_true rfl) (ok_X10_load (G := zs G) (hz := hz) e3) ?_
  show X G t_L_load [(0, 9, 12, 19)] 7 [some (.ref a0), some (.int a1), some (.ref a2), none] [.int v1, .int 0, .ref a2] M2 1 6 _
  refine X.i2l (pc' := 8) dL_load_7 rfl ?_
  obtain ⟨M7, e6, h⟩ := bindE h
  refine X.last (pc' := 9) dL_load_8 rfl e6 ?_
  refine X.goto (pc' := 15) dL_load_9 (by decide) ?_
  refine X.iconst (v := 0) (pc' := 16) dL_load_15 rfl (by decide) ?_
  cases h
  exact X.iret (ty := .int) dL_load_16 rfl (by decide) (Nat.le_of_ble_eq_true rfl) (Nat.le_of_ble_eq_true rfl) rfl
def f_L_count (fu : Nat) (a0 : Nat) (a1 : Int32) (a2 : Nat) (M : List Ob) : Option (Int32 × List Ob) :=
  (hasO M a0 10).bind fun _ =>
  bdW (f_X10_count fu a0 a1 M) (fun v1 M2 =>
  (aSet M2 a2 17 0 (.long ((v1 : Int32).toInt64))).bind fun M7 =>
  some (0, M7))
  (fun E5 M2 => if E5 = "java/lang/IllegalArgumentException" then (some (1, M2))
  else none)
set_option maxHeartbeats 4000000 in
theorem ok_L_count {G : GT} (hz : gZ G = false) {fu : Nat} {a0 : Nat} {a1 : Int32} {a2 : Nat} {M : List Ob} {out : Int32 × List Ob} (h : f_L_count fu a0 a1 a2 M = some out) : SpW G t_L_count [(0, 9, 12, 19)] [.ref a0, .int a1, .ref a2] M (oI out) := by
  refine SpW.of rfl (by decide +kernel) (cat_all rfl) (Nat.le_of_ble_eq_true rfl) ?_
  show X G t_L_count [(0, 9, 12, 19)] 0 [some (.ref a0), some (.int a1), some (.ref a2), none] [] M 0 0 (oI out)
  unfold f_L_count at h
  refine X.aload_n (x := a2) (pc' := 1) dL_count_0 rfl rfl rfl ?_
  refine X.iconst (v := 0) (pc' := 2) dL_count_1 rfl (by decide) ?_
  refine X.aload_n (x := a0) (pc' := 3) dL_count_2 rfl rfl rfl ?_
  refine X.iload_n (x := a1) (pc' := 4) dL_count_3 rfl rfl rfl ?_
  obtain ⟨⟨⟩, e4, h⟩ := bindE h
  rcases bdWE h with ⟨v1, M2, e3, h⟩ | ⟨E5, M2, e3, h⟩
  rotate_left
  · -- thrown
    by_cases hE0 : E5 = "java/lang/IllegalArgumentException"
    · rw [if_pos hE0] at h
      subst hE0
      refine X.callVh (b := a0) (E := "java/lang/IllegalArgumentException") (As := [.int a1]) (st := [.int 0, .ref a2]) (M' := M2) (i := 3) (pc2 := 13) (L' := [some (.ref a0), some (.int a1), some (.ref a2), none]) (pre := []) (x := ⟨0, 9, 12, 19⟩) (suf := []) dL_count_4 cl_L_21 mi_X10_count me_X10_count mr_X10_count e4 ⟨⟨Nat.le_of_ble_eq_true rfl, Nat.le_of_ble_eq_true rfl⟩, Nat.le_of_ble_eq_true rfl, Nat.le_of_ble_eq_true rfl⟩ rfl (Nat.le_of_ble_eq_true rfl) hz (ok_X10_count (G := zs G) (hz := hz) e3) rfl pass_nil rfl (by decide) (TBg_of 643 (by decide +kernel) rfl) (by decide +kernel) (Or.inr ⟨_, dL_count_12, rfl, rfl⟩) (by decide) rfl ?_
      show X G t_L_count [(0, 9, 12, 19)] 13 [some (.ref a0), some (.int a1), some (.ref a2), none] [] M2 1 6 _
      refine X.iconst (v := 1) (pc' := 14) dL_count_13 rfl (by decide) ?_
      cases h
      exact X.iret (ty := .int) dL_count_14 rfl (by decide) (Nat.le_of_ble_eq_true rfl) (Nat.le_of_ble_eq_true rfl) rfl
    rw [if_neg hE0] at h
    cases h
  refine X.callVq (b := a0) (v := some (.int v1)) (As := [.int a1]) (st := [.int 0, .ref a2]) (M' := M2) (pc' := 7) dL_count_4 rfl cl_L_21 mi_X10_count me_X10_count mr_X10_count e4 ⟨⟨Nat.le_of_ble_eq_true rfl, Nat.le_of_ble_eq_true rfl⟩, Nat.le_of_ble_eq_true rfl, Nat.le_of_ble_eq_true rfl⟩ rfl (Nat.le_of_ble_eq_true rfl) (ok_X10_count (G := zs G) (hz := hz) e3) ?_
  show X G t_L_count [(0, 9, 12, 19)] 7 [some (.ref a0), some (.int a1), some (.ref a2), none] [.int v1, .int 0, .ref a2] M2 1 6 _
  refine X.i2l (pc' := 8) dL_count_7 rfl ?_
  obtain ⟨M7, e6, h⟩ := bindE h
  refine X.last (pc' := 9) dL_count_8 rfl e6 ?_
  refine X.goto (pc' := 15) dL_count_9 (by decide) ?_
  refine X.iconst (v := 0) (pc' := 16) dL_count_15 rfl (by decide) ?_
  cases h
  exact X.iret (ty := .int) dL_count_16 rfl (by decide) (Nat.le_of_ble_eq_true rfl) (Nat.le_of_ble_eq_true rfl) rfl
def f_L_arc (fu : Nat) (a0 : Nat) (a1 : Int32) (a2 : Int32) (a3 : Nat) (M : List Ob) : Option (Int32 × List Ob) :=
  (hasO M a0 10).bind fun _ =>
  bdW (f_X10_arc fu a0 a1 a2 M) (fun v1 M2 =>
  (aSet M2 a3 17 0 (.long ((v1 : Int32).toInt64))).bind fun M7 =>
  some (0, M7))
  (fun E5 M2 => if E5 = "java/lang/IndexOutOfBoundsException" then (some (1, M2))
  else if E5 = "java/lang/IllegalArgumentException" then (some (2, M2))
  else none)
set_option maxHeartbeats 4000000 in
theorem ok_L_arc {G : GT} (hz : gZ G = false) {fu : Nat} {a0 : Nat} {a1 : Int32} {a2 : Int32} {a3 : Nat} {M : List Ob} {out : Int32 × List Ob} (h : f_L_arc fu a0 a1 a2 a3 M = some out) : SpW G t_L_arc [(0, 10, 13, 28), (0, 10, 17, 19)] [.ref a0, .int a1, .int a2, .ref a3] M (oI out) := by
  refine SpW.of rfl (by decide +kernel) (cat_all rfl) (Nat.le_of_ble_eq_true rfl) ?_
  show X G t_L_arc [(0, 10, 13, 28), (0, 10, 17, 19)] 0 [some (.ref a0), some (.int a1), some (.int a2), some (.ref a3), none] [] M 0 0 (oI out)
  unfold f_L_arc at h
  refine X.aload_n (x := a3) (pc' := 1) dL_arc_0 rfl rfl rfl ?_
  refine X.iconst (v := 0) (pc' := 2) dL_arc_1 rfl (by decide) ?_
  refine X.aload_n (x := a0) (pc' := 3) dL_arc_2 rfl rfl rfl ?_
  refine X.iload_n (x := a1) (pc' := 4) dL_arc_3 rfl rfl rfl ?_
  refine X.iload_n (x := a2) (pc' := 5) dL_arc_4 rfl rfl rfl ?_
  obtain ⟨⟨⟩, e4, h⟩ := bindE h
  rcases bdWE h with ⟨v1, M2, e3, h⟩ | ⟨E5, M2, e3, h⟩
  rotate_left
  · -- thrown
    by_cases hE0 : E5 = "java/lang/IndexOutOfBoundsException"
    · rw [if_pos hE0] at h
      subst hE0
      refine X.callVh (b := a0) (E := "java/lang/IndexOutOfBoundsException") (As := [.int a1, .int a2]) (st := [.int 0, .ref a3]) (M' := M2) (i := 4) (pc2 := 15) (L' := [some (.ref a0), some (.int a1), some (.int a2), some (.ref a3), none]) (pre := []) (x := ⟨0, 10, 13, 28⟩) (suf := [⟨0, 10, 17, 19⟩]) dL_arc_5 cl_L_24 mi_X10_arc me_X10_arc mr_X10_arc e4 ⟨⟨Nat.le_of_ble_eq_true rfl, Nat.le_of_ble_eq_true rfl⟩, Nat.le_of_ble_eq_true rfl, Nat.le_of_ble_eq_true rfl⟩ rfl (Nat.le_of_ble_eq_true rfl) hz (ok_X10_arc (G := zs G) (hz := hz) e3) rfl pass_nil rfl (by decide) (TBg_of 825 (by decide +kernel) rfl) (by decide +kernel) (Or.inl ⟨dL_arc_13, rfl⟩) (by decide) rfl ?_
      show X G t_L_arc [(0, 10, 13, 28), (0, 10, 17, 19)] 15 [some (.ref a0), some (.int a1), some (.int a2), some (.ref a3), none] [] M2 2 12 _
      refine X.iconst (v := 1) (pc' := 16) dL_arc_15 rfl (by decide) ?_
      cases h
      exact X.iret (ty := .int) dL_arc_16 rfl (by decide) (Nat.le_of_ble_eq_true rfl) (Nat.le_of_ble_eq_true rfl) rfl
    rw [if_neg hE0] at h
    by_cases hE1 : E5 = "java/lang/IllegalArgumentException"
    · rw [if_pos hE1] at h
      subst hE1
      refine X.callVh (b := a0) (E := "java/lang/IllegalArgumentException") (As := [.int a1, .int a2]) (st := [.int 0, .ref a3]) (M' := M2) (i := 4) (pc2 := 19) (L' := [some (.ref a0), some (.int a1), some (.int a2), some (.ref a3), none]) (pre := [⟨0, 10, 13, 28⟩]) (x := ⟨0, 10, 17, 19⟩) (suf := []) dL_arc_5 cl_L_24 mi_X10_arc me_X10_arc mr_X10_arc e4 ⟨⟨Nat.le_of_ble_eq_true rfl, Nat.le_of_ble_eq_true rfl⟩, Nat.le_of_ble_eq_true rfl, Nat.le_of_ble_eq_true rfl⟩ rfl (Nat.le_of_ble_eq_true rfl) hz (ok_X10_arc (G := zs G) (hz := hz) e3) rfl (pass_cons ⟨by decide, "java/lang/IndexOutOfBoundsException", TBg_of 825 (by decide +kernel) rfl, by decide +kernel⟩ pass_nil) rfl (by decide) (TBg_of 643 (by decide +kernel) rfl) (by decide +kernel) (Or.inl ⟨dL_arc_17, rfl⟩) (by decide) rfl ?_
      show X G t_L_arc [(0, 10, 13, 28), (0, 10, 17, 19)] 19 [some (.ref a0), some (.int a1), some (.int a2), some (.ref a3), none] [] M2 2 12 _
      refine X.iconst (v := 2) (pc' := 20) dL_arc_19 rfl (by decide) ?_
      cases h
      exact X.iret (ty := .int) dL_arc_20 rfl (by decide) (Nat.le_of_ble_eq_true rfl) (Nat.le_of_ble_eq_true rfl) rfl
    rw [if_neg hE1] at h
    cases h
  refine X.callVq (b := a0) (v := some (.int v1)) (As := [.int a1, .int a2]) (st := [.int 0, .ref a3]) (M' := M2) (pc' := 8) dL_arc_5 rfl cl_L_24 mi_X10_arc me_X10_arc mr_X10_arc e4 ⟨⟨Nat.le_of_ble_eq_true rfl, Nat.le_of_ble_eq_true rfl⟩, Nat.le_of_ble_eq_true rfl, Nat.le_of_ble_eq_true rfl⟩ rfl (Nat.le_of_ble_eq_true rfl) (ok_X10_arc (G := zs G) (hz := hz) e3) ?_
  show X G t_L_arc [(0, 10, 13, 28), (0, 10, 17, 19)] 8 [some (.ref a0), some (.int a1), some (.int a2), some (.ref a3), none] [.int v1, .int 0, .ref a3] M2 2 12 _
  refine X.i2l (pc' := 9) dL_arc_8 rfl ?_
  obtain ⟨M7, e6, h⟩ := bindE h
  refine X.last (pc' := 10) dL_arc_9 rfl e6 ?_
  refine X.goto (pc' := 21) dL_arc_10 (by decide) ?_
  refine X.iconst (v := 0) (pc' := 22) dL_arc_21 rfl (by decide) ?_
  cases h
  exact X.iret (ty := .int) dL_arc_22 rfl (by decide) (Nat.le_of_ble_eq_true rfl) (Nat.le_of_ble_eq_true rfl) rfl
def f_L_addArc (fu : Nat) (a0 : Nat) (a1 : Int32) (a2 : Int32) (a3 : Int32) (a4 : Int32) (a5 : Nat) (M : List Ob) : Option (Int32 × List Ob) :=
  (hasO M a0 10).bind fun _ =>
  bdW (f_X10_addArc fu a0 a1 a2 a3 a4 M) (fun v1 M2 =>
  (aSet M2 a5 17 0 (.long ((v1 : Int32).toInt64))).bind fun M7 =>
  some (0, M7))
  (fun E5 M2 => if E5 = "java/lang/IndexOutOfBoundsException" then (some (1, M2))
  else if E5 = "java/lang/IllegalArgumentException" then (some (2, M2))
  else if E5 = "java/lang/IllegalStateException" then (some (3, M2))
  else none)
set_option maxHeartbeats 4000000 in
theorem ok_L_addArc {G : GT} (hz : gZ G = false) {fu : Nat} {a0 : Nat} {a1 : Int32} {a2 : Int32} {a3 : Int32} {a4 : Int32} {a5 : Nat} {M : List Ob} {out : Int32 × List Ob} (h : f_L_addArc fu a0 a1 a2 a3 a4 a5 M = some out) : SpW G t_L_addArc [(0, 14, 17, 28), (0, 14, 21, 19), (0, 14, 25, 13)] [.ref a0, .int a1, .int a2, .int a3, .int a4, .ref a5] M (oI out) := by
  refine SpW.of rfl (by decide +kernel) (cat_all rfl) (Nat.le_of_ble_eq_true rfl) ?_
  show X G t_L_addArc [(0, 14, 17, 28), (0, 14, 21, 19), (0, 14, 25, 13)] 0 [some (.ref a0), some (.int a1), some (.int a2), some (.int a3), some (.int a4), some (.ref a5), none] [] M 0 0 (oI out)
  unfold f_L_addArc at h
  refine X.aload (x := a5) (pc' := 2) dL_addArc_0 rfl rfl ?_
  refine X.iconst (v := 0) (pc' := 3) dL_addArc_2 rfl (by decide) ?_
  refine X.aload_n (x := a0) (pc' := 4) dL_addArc_3 rfl rfl rfl ?_
  refine X.iload_n (x := a1) (pc' := 5) dL_addArc_4 rfl rfl rfl ?_
  refine X.iload_n (x := a2) (pc' := 6) dL_addArc_5 rfl rfl rfl ?_
  refine X.iload_n (x := a3) (pc' := 7) dL_addArc_6 rfl rfl rfl ?_
  refine X.iload (x := a4) (pc' := 9) dL_addArc_7 rfl rfl ?_
  obtain ⟨⟨⟩, e4, h⟩ := bindE h
  rcases bdWE h with ⟨v1, M2, e3, h⟩ | ⟨E5, M2, e3, h⟩
  rotate_left
  · -- thrown
    by_cases hE0 : E5 = "java/lang/IndexOutOfBoundsException"
    · rw [if_pos hE0] at h
      subst hE0
      refine X.callVh (b := a0) (E := "java/lang/IndexOutOfBoundsException") (As := [.int a1, .int a2, .int a3, .int a4]) (st := [.int 0, .ref a5]) (M' := M2) (i := 6) (pc2 := 19) (L' := [some (.ref a0), some (.int a1), some (.int a2), some (.int a3), some (.int a4), some (.ref a5), none]) (pre := []) (x := ⟨0, 14, 17, 28⟩) (suf := [⟨0, 14, 21, 19⟩, ⟨0, 14, 25, 13⟩]) dL_addArc_9 cl_L_30 mi_X10_addArc me_X10_addArc mr_X10_addArc e4 ⟨⟨Nat.le_of_ble_eq_true rfl, Nat.le_of_ble_eq_true rfl⟩, Nat.le_of_ble_eq_true rfl, Nat.le_of_ble_eq_true rfl⟩ rfl (Nat.le_of_ble_eq_true rfl) hz (ok_X10_addArc (G := zs G) (hz := hz) e3) rfl pass_nil rfl (by decide) (TBg_of 825 (by decide +kernel) rfl) (by decide +kernel) (Or.inl ⟨dL_addArc_17, rfl⟩) (by decide) rfl ?_
      show X G t_L_addArc [(0, 14, 17, 28), (0, 14, 21, 19), (0, 14, 25, 13)] 19 [some (.ref a0), some (.int a1), some (.int a2), some (.int a3), some (.int a4), some (.ref a5), none] [] M2 4 24 _
      refine X.iconst (v := 1) (pc' := 20) dL_addArc_19 rfl (by decide) ?_
      cases h
      exact X.iret (ty := .int) dL_addArc_20 rfl (by decide) (Nat.le_of_ble_eq_true rfl) (Nat.le_of_ble_eq_true rfl) rfl
    rw [if_neg hE0] at h
    by_cases hE1 : E5 = "java/lang/IllegalArgumentException"
    · rw [if_pos hE1] at h
      subst hE1
      refine X.callVh (b := a0) (E := "java/lang/IllegalArgumentException") (As := [.int a1, .int a2, .int a3, .int a4]) (st := [.int 0, .ref a5]) (M' := M2) (i := 6) (pc2 := 23) (L' := [some (.ref a0), some (.int a1), some (.int a2), some (.int a3), some (.int a4), some (.ref a5), none]) (pre := [⟨0, 14, 17, 28⟩]) (x := ⟨0, 14, 21, 19⟩) (suf := [⟨0, 14, 25, 13⟩]) dL_addArc_9 cl_L_30 mi_X10_addArc me_X10_addArc mr_X10_addArc e4 ⟨⟨Nat.le_of_ble_eq_true rfl, Nat.le_of_ble_eq_true rfl⟩, Nat.le_of_ble_eq_true rfl, Nat.le_of_ble_eq_true rfl⟩ rfl (Nat.le_of_ble_eq_true rfl) hz (ok_X10_addArc (G := zs G) (hz := hz) e3) rfl (pass_cons ⟨by decide, "java/lang/IndexOutOfBoundsException", TBg_of 825 (by decide +kernel) rfl, by decide +kernel⟩ pass_nil) rfl (by decide) (TBg_of 643 (by decide +kernel) rfl) (by decide +kernel) (Or.inl ⟨dL_addArc_21, rfl⟩) (by decide) rfl ?_
      show X G t_L_addArc [(0, 14, 17, 28), (0, 14, 21, 19), (0, 14, 25, 13)] 23 [some (.ref a0), some (.int a1), some (.int a2), some (.int a3), some (.int a4), some (.ref a5), none] [] M2 4 24 _
      refine X.iconst (v := 2) (pc' := 24) dL_addArc_23 rfl (by decide) ?_
      cases h
      exact X.iret (ty := .int) dL_addArc_24 rfl (by decide) (Nat.le_of_ble_eq_true rfl) (Nat.le_of_ble_eq_true rfl) rfl
    rw [if_neg hE1] at h
    by_cases hE2 : E5 = "java/lang/IllegalStateException"
    · rw [if_pos hE2] at h
      subst hE2
      refine X.callVh (b := a0) (E := "java/lang/IllegalStateException") (As := [.int a1, .int a2, .int a3, .int a4]) (st := [.int 0, .ref a5]) (M' := M2) (i := 6) (pc2 := 27) (L' := [some (.ref a0), some (.int a1), some (.int a2), some (.int a3), some (.int a4), some (.ref a5), none]) (pre := [⟨0, 14, 17, 28⟩, ⟨0, 14, 21, 19⟩]) (x := ⟨0, 14, 25, 13⟩) (suf := []) dL_addArc_9 cl_L_30 mi_X10_addArc me_X10_addArc mr_X10_addArc e4 ⟨⟨Nat.le_of_ble_eq_true rfl, Nat.le_of_ble_eq_true rfl⟩, Nat.le_of_ble_eq_true rfl, Nat.le_of_ble_eq_true rfl⟩ rfl (Nat.le_of_ble_eq_true rfl) hz (ok_X10_addArc (G := zs G) (hz := hz) e3) rfl (pass_cons ⟨by decide, "java/lang/IndexOutOfBoundsException", TBg_of 825 (by decide +kernel) rfl, by decide +kernel⟩ (pass_cons ⟨by decide, "java/lang/IllegalArgumentException", TBg_of 643 (by decide +kernel) rfl, by decide +kernel⟩ pass_nil)) rfl (by decide) (TBg_of 563 (by decide +kernel) rfl) (by decide +kernel) (Or.inl ⟨dL_addArc_25, rfl⟩) (by decide) rfl ?_
      show X G t_L_addArc [(0, 14, 17, 28), (0, 14, 21, 19), (0, 14, 25, 13)] 27 [some (.ref a0), some (.int a1), some (.int a2), some (.int a3), some (.int a4), some (.ref a5), none] [] M2 4 24 _
      refine X.iconst (v := 3) (pc' := 28) dL_addArc_27 rfl (by decide) ?_
      cases h
      exact X.iret (ty := .int) dL_addArc_28 rfl (by decide) (Nat.le_of_ble_eq_true rfl) (Nat.le_of_ble_eq_true rfl) rfl
    rw [if_neg hE2] at h
    cases h
  refine X.callVq (b := a0) (v := some (.int v1)) (As := [.int a1, .int a2, .int a3, .int a4]) (st := [.int 0, .ref a5]) (M' := M2) (pc' := 12) dL_addArc_9 rfl cl_L_30 mi_X10_addArc me_X10_addArc mr_X10_addArc e4 ⟨⟨Nat.le_of_ble_eq_true rfl, Nat.le_of_ble_eq_true rfl⟩, Nat.le_of_ble_eq_true rfl, Nat.le_of_ble_eq_true rfl⟩ rfl (Nat.le_of_ble_eq_true rfl) (ok_X10_addArc (G := zs G) (hz := hz) e3) ?_
  show X G t_L_addArc [(0, 14, 17, 28), (0, 14, 21, 19), (0, 14, 25, 13)] 12 [some (.ref a0), some (.int a1), some (.int a2), some (.int a3), some (.int a4), some (.ref a5), none] [.int v1, .int 0, .ref a5] M2 4 24 _
  refine X.i2l (pc' := 13) dL_addArc_12 rfl ?_
  obtain ⟨M7, e6, h⟩ := bindE h
  refine X.last (pc' := 14) dL_addArc_13 rfl e6 ?_
  refine X.goto (pc' := 29) dL_addArc_14 (by decide) ?_
  refine X.iconst (v := 0) (pc' := 30) dL_addArc_29 rfl (by decide) ?_
  cases h
  exact X.iret (ty := .int) dL_addArc_30 rfl (by decide) (Nat.le_of_ble_eq_true rfl) (Nat.le_of_ble_eq_true rfl) rfl
def f_L_removeArc (fu : Nat) (a0 : Nat) (a1 : Int32) (a2 : Nat) (M : List Ob) : Option (Int32 × List Ob) :=
  (hasO M a0 10).bind fun _ =>
  bdW (f_X10_removeArc fu a0 a1 M) (fun v1 M2 =>
  (aSet M2 a2 17 0 (.long ((v1 : Int32).toInt64))).bind fun M7 =>
  some (0, M7))
  (fun E5 M2 => if E5 = "java/lang/IndexOutOfBoundsException" then (some (1, M2))
  else if E5 = "java/lang/IllegalStateException" then (some (2, M2))
  else none)
set_option maxHeartbeats 4000000 in
theorem ok_L_removeArc {G : GT} (hz : gZ G = false) {fu : Nat} {a0 : Nat} {a1 : Int32} {a2 : Nat} {M : List Ob} {out : Int32 × List Ob} (h : f_L_removeArc fu a0 a1 a2 M = some out) : SpW G t_L_removeArc [(0, 9, 12, 28), (0, 9, 15, 13)] [.ref a0, .int a1, .ref a2] M (oI out) := by
  refine SpW.of rfl (by decide +kernel) (cat_all rfl) (Nat.le_of_ble_eq_true rfl) ?_
  show X G t_L_removeArc [(0, 9, 12, 28), (0, 9, 15, 13)] 0 [some (.ref a0), some (.int a1), some (.ref a2), none] [] M 0 0 (oI out)
  unfold f_L_removeArc at h
  refine X.aload_n (x := a2) (pc' := 1) dL_removeArc_0 rfl rfl rfl ?_
  refine X.iconst (v := 0) (pc' := 2) dL_removeArc_1 rfl (by decide) ?_
  refine X.aload_n (x := a0) (pc' := 3) dL_removeArc_2 rfl rfl rfl ?_
  refine X.iload_n (x := a1) (pc' := 4) dL_removeArc_3 rfl rfl rfl ?_
  obtain ⟨⟨⟩, e4, h⟩ := bindE h
  rcases bdWE h with ⟨v1, M2, e3, h⟩ | ⟨E5, M2, e3, h⟩
  rotate_left
  · -- thrown
    by_cases hE0 : E5 = "java/lang/IndexOutOfBoundsException"
    · rw [if_pos hE0] at h
      subst hE0
      refine X.callVh (b := a0) (E := "java/lang/IndexOutOfBoundsException") (As := [.int a1]) (st := [.int 0, .ref a2]) (M' := M2) (i := 3) (pc2 := 13) (L' := [some (.ref a0), some (.int a1), some (.ref a2), none]) (pre := []) (x := ⟨0, 9, 12, 28⟩) (suf := [⟨0, 9, 15, 13⟩]) dL_removeArc_4 cl_L_34 mi_X10_removeArc me_X10_removeArc mr_X10_removeArc e4 ⟨⟨Nat.le_of_ble_eq_true rfl, Nat.le_of_ble_eq_true rfl⟩, Nat.le_of_ble_eq_true rfl, Nat.le_of_ble_eq_true rfl⟩ rfl (Nat.le_of_ble_eq_true rfl) hz (ok_X10_removeArc (G := zs G) (hz := hz) e3) rfl pass_nil rfl (by decide) (TBg_of 825 (by decide +kernel) rfl) (by decide +kernel) (Or.inr ⟨_, dL_removeArc_12, rfl, rfl⟩) (by decide) rfl ?_
      show X G t_L_removeArc [(0, 9, 12, 28), (0, 9, 15, 13)] 13 [some (.ref a0), some (.int a1), some (.ref a2), none] [] M2 2 12 _
      refine X.iconst (v := 1) (pc' := 14) dL_removeArc_13 rfl (by decide) ?_
      cases h
      exact X.iret (ty := .int) dL_removeArc_14 rfl (by decide) (Nat.le_of_ble_eq_true rfl) (Nat.le_of_ble_eq_true rfl) rfl
    rw [if_neg hE0] at h
    by_cases hE1 : E5 = "java/lang/IllegalStateException"
    · rw [if_pos hE1] at h
      subst hE1
      refine X.callVh (b := a0) (E := "java/lang/IllegalStateException") (As := [.int a1]) (st := [.int 0, .ref a2]) (M' := M2) (i := 3) (pc2 := 16) (L' := [some (.ref a0), some (.int a1), some (.ref a2), none]) (pre := [⟨0, 9, 12, 28⟩]) (x := ⟨0, 9, 15, 13⟩) (suf := []) dL_removeArc_4 cl_L_34 mi_X10_removeArc me_X10_removeArc mr_X10_removeArc e4 ⟨⟨Nat.le_of_ble_eq_true rfl, Nat.le_of_ble_eq_true rfl⟩, Nat.le_of_ble_eq_true rfl, Nat.le_of_ble_eq_true rfl⟩ rfl (Nat.le_of_ble_eq_true rfl) hz (ok_X10_removeArc (G := zs G) (hz := hz) e3) rfl (pass_cons ⟨by decide, "java/lang/IndexOutOfBoundsException", TBg_of 825 (by decide +kernel) rfl, by decide +kernel⟩ pass_nil) rfl (by decide) (TBg_of 563 (by decide +kernel) rfl) (by decide +kernel) (Or.inr ⟨_, dL_removeArc_15, rfl, rfl⟩) (by decide) rfl ?_
      show X G t_L_removeArc [(0, 9, 12, 28), (0, 9, 15, 13)] 16 [some (.ref a0), some (.int a1), some (.ref a2), none] [] M2 2 12 _
      refine X.iconst (v := 2) (pc' := 17) dL_removeArc_16 rfl (by decide) ?_
      cases h
      exact X.iret (ty := .int) dL_removeArc_17 rfl (by decide) (Nat.le_of_ble_eq_true rfl) (Nat.le_of_ble_eq_true rfl) rfl
    rw [if_neg hE1] at h
    cases h
  refine X.callVq (b := a0) (v := some (.int v1)) (As := [.int a1]) (st := [.int 0, .ref a2]) (M' := M2) (pc' := 7) dL_removeArc_4 rfl cl_L_34 mi_X10_removeArc me_X10_removeArc mr_X10_removeArc e4 ⟨⟨Nat.le_of_ble_eq_true rfl, Nat.le_of_ble_eq_true rfl⟩, Nat.le_of_ble_eq_true rfl, Nat.le_of_ble_eq_true rfl⟩ rfl (Nat.le_of_ble_eq_true rfl) (ok_X10_removeArc (G := zs G) (hz := hz) e3) ?_
  show X G t_L_removeArc [(0, 9, 12, 28), (0, 9, 15, 13)] 7 [some (.ref a0), some (.int a1), some (.ref a2), none] [.int v1, .int 0, .ref a2] M2 2 12 _
  refine X.i2l (pc' := 8) dL_removeArc_7 rfl ?_
  obtain ⟨M7, e6, h⟩ := bindE h
  refine X.last (pc' := 9) dL_removeArc_8 rfl e6 ?_
  refine X.goto (pc' := 18) dL_removeArc_9 (by decide) ?_
  refine X.iconst (v := 0) (pc' := 19) dL_removeArc_18 rfl (by decide) ?_
  cases h
  exact X.iret (ty := .int) dL_removeArc_19 rfl (by decide) (Nat.le_of_ble_eq_true rfl) (Nat.le_of_ble_eq_true rfl) rfl
def f_L_setArc (fu : Nat) (a0 : Nat) (a1 : Int32) (a2 : Int32) (a3 : Int32) (a4 : Nat) (M : List Ob) : Option (Int32 × List Ob) :=
  (hasO M a0 10).bind fun _ =>
  bdW (f_X10_setArc fu a0 a1 a2 a3 M) (fun v1 M2 =>
  (aSet M2 a4 17 0 (.long ((v1 : Int32).toInt64))).bind fun M7 =>
  some (0, M7))
  (fun E5 M2 => if E5 = "java/lang/IndexOutOfBoundsException" then (some (1, M2))
  else if E5 = "java/lang/IllegalArgumentException" then (some (2, M2))
  else none)
set_option maxHeartbeats 4000000 in
theorem ok_L_setArc {G : GT} (hz : gZ G = false) {fu : Nat} {a0 : Nat} {a1 : Int32} {a2 : Int32} {a3 : Int32} {a4 : Nat} {M : List Ob} {out : Int32 × List Ob} (h : f_L_setArc fu a0 a1 a2 a3 a4 M = some out) : SpW G t_L_setArc [(0, 12, 15, 28), (0, 12, 19, 19)] [.ref a0, .int a1, .int a2, .int a3, .ref a4] M (oI out) := by
  refine SpW.of rfl (by decide +kernel) (cat_all rfl) (Nat.le_of_ble_eq_true rfl) ?_
  show X G t_L_setArc [(0, 12, 15, 28), (0, 12, 19, 19)] 0 [some (.ref a0), some (.int a1), some (.int a2), some (.int a3), some (.ref a4), none] [] M 0 0 (oI out)
  unfold f_L_setArc at h
  refine X.aload (x := a4) (pc' := 2) dL_setArc_0 rfl rfl ?_
  refine X.iconst (v := 0) (pc' := 3) dL_setArc_2 rfl (by decide) ?_
  refine X.aload_n (x := a0) (pc' := 4) dL_setArc_3 rfl rfl rfl ?_
  refine X.iload_n (x := a1) (pc' := 5) dL_setArc_4 rfl rfl rfl ?_
  refine X.iload_n (x := a2) (pc' := 6) dL_setArc_5 rfl rfl rfl ?_
  refine X.iload_n (x := a3) (pc' := 7) dL_setArc_6 rfl rfl rfl ?_
  obtain ⟨⟨⟩, e4, h⟩ := bindE h
  rcases bdWE h with ⟨v1, M2, e3, h⟩ | ⟨E5, M2, e3, h⟩
  rotate_left
  · -- thrown
    by_cases hE0 : E5 = "java/lang/IndexOutOfBoundsException"
    · rw [if_pos hE0] at h
      subst hE0
      refine X.callVh (b := a0) (E := "java/lang/IndexOutOfBoundsException") (As := [.int a1, .int a2, .int a3]) (st := [.int 0, .ref a4]) (M' := M2) (i := 5) (pc2 := 17) (L' := [some (.ref a0), some (.int a1), some (.int a2), some (.int a3), some (.ref a4), none]) (pre := []) (x := ⟨0, 12, 15, 28⟩) (suf := [⟨0, 12, 19, 19⟩]) dL_setArc_7 cl_L_37 mi_X10_setArc me_X10_setArc mr_X10_setArc e4 ⟨⟨Nat.le_of_ble_eq_true rfl, Nat.le_of_ble_eq_true rfl⟩, Nat.le_of_ble_eq_true rfl, Nat.le_of_ble_eq_true rfl⟩ rfl (Nat.le_of_ble_eq_true rfl) hz (ok_X10_setArc (G := zs G) (hz := hz) e3) rfl pass_nil rfl (by decide) (TBg_of 825 (by decide +kernel) rfl) (by decide +kernel) (Or.inl ⟨dL_setArc_15, rfl⟩) (by decide) rfl ?_
      show X G t_L_setArc [(0, 12, 15, 28), (0, 12, 19, 19)] 17 [some (.ref a0), some (.int a1), some (.int a2), some (.int a3), some (.ref a4), none] [] M2 2 12 _
      refine X.iconst (v := 1) (pc' := 18) dL_setArc_17 rfl (by decide) ?_
      cases h
      exact X.iret (ty := .int) dL_setArc_18 rfl (by decide) (Nat.le_of_ble_eq_true rfl) (Nat.le_of_ble_eq_true rfl) rfl
    rw [if_neg hE0] at h
    by_cases hE1 : E5 = "java/lang/IllegalArgumentException"
    · rw [if_pos hE1] at h
      subst hE1
      refine X.callVh (b := a0) (E := "java/lang/IllegalArgumentException") (As := [.int a1, .int a2, .int a3]) (st := [.int 0, .ref a4]) (M' := M2) (i := 5) (pc2 := 21) (L' := [some (.ref a0), some (.int a1), some (.int a2), some (.int a3), some (.ref a4), none]) (pre := [⟨0, 12, 15, 28⟩]) (x := ⟨0, 12, 19, 19⟩) (suf := []) dL_setArc_7 cl_L_37 mi_X10_setArc me_X10_setArc mr_X10_setArc e4 ⟨⟨Nat.le_of_ble_eq_true rfl, Nat.le_of_ble_eq_true rfl⟩, Nat.le_of_ble_eq_true rfl, Nat.le_of_ble_eq_true rfl⟩ rfl (Nat.le_of_ble_eq_true rfl) hz (ok_X10_setArc (G := zs G) (hz := hz) e3) rfl (pass_cons ⟨by decide, "java/lang/IndexOutOfBoundsException", TBg_of 825 (by decide +kernel) rfl, by decide +kernel⟩ pass_nil) rfl (by decide) (TBg_of 643 (by decide +kernel) rfl) (by decide +kernel) (Or.inl ⟨dL_setArc_19, rfl⟩) (by decide) rfl ?_
      show X G t_L_setArc [(0, 12, 15, 28), (0, 12, 19, 19)] 21 [some (.ref a0), some (.int a1), some (.int a2), some (.int a3), some (.ref a4), none] [] M2 2 12 _
      refine X.iconst (v := 2) (pc' := 22) dL_setArc_21 rfl (by decide) ?_
      cases h
      exact X.iret (ty := .int) dL_setArc_22 rfl (by decide) (Nat.le_of_ble_eq_true rfl) (Nat.le_of_ble_eq_true rfl) rfl
    rw [if_neg hE1] at h
    cases h
  refine X.callVq (b := a0) (v := some (.int v1)) (As := [.int a1, .int a2, .int a3]) (st := [.int 0, .ref a4]) (M' := M2) (pc' := 10) dL_setArc_7 rfl cl_L_37 mi_X10_setArc me_X10_setArc mr_X10_setArc e4 ⟨⟨Nat.le_of_ble_eq_true rfl, Nat.le_of_ble_eq_true rfl⟩, Nat.le_of_ble_eq_true rfl, Nat.le_of_ble_eq_true rfl⟩ rfl (Nat.le_of_ble_eq_true rfl) (ok_X10_setArc (G := zs G) (hz := hz) e3) ?_
  show X G t_L_setArc [(0, 12, 15, 28), (0, 12, 19, 19)] 10 [some (.ref a0), some (.int a1), some (.int a2), some (.int a3), some (.ref a4), none] [.int v1, .int 0, .ref a4] M2 2 12 _
  refine X.i2l (pc' := 11) dL_setArc_10 rfl ?_
  obtain ⟨M7, e6, h⟩ := bindE h
  refine X.last (pc' := 12) dL_setArc_11 rfl e6 ?_
  refine X.goto (pc' := 23) dL_setArc_12 (by decide) ?_
  refine X.iconst (v := 0) (pc' := 24) dL_setArc_23 rfl (by decide) ?_
  cases h
  exact X.iret (ty := .int) dL_setArc_24 rfl (by decide) (Nat.le_of_ble_eq_true rfl) (Nat.le_of_ble_eq_true rfl) rfl
def f_L_setBudget (fu : Nat) (a0 : Nat) (a1 : Int32) (a2 : Nat) (M : List Ob) : Option (Int32 × List Ob) :=
  (hasO M a0 10).bind fun _ =>
  bdW (f_X10_setBudget fu a0 a1 M) (fun v1 M2 =>
  (aSet M2 a2 17 0 (.long ((v1 : Int32).toInt64))).bind fun M7 =>
  some (0, M7))
  (fun E5 M2 => if E5 = "java/lang/IllegalArgumentException" then (some (1, M2))
  else none)
set_option maxHeartbeats 4000000 in
theorem ok_L_setBudget {G : GT} (hz : gZ G = false) {fu : Nat} {a0 : Nat} {a1 : Int32} {a2 : Nat} {M : List Ob} {out : Int32 × List Ob} (h : f_L_setBudget fu a0 a1 a2 M = some out) : SpW G t_L_setBudget [(0, 9, 12, 19)] [.ref a0, .int a1, .ref a2] M (oI out) := by
  refine SpW.of rfl (by decide +kernel) (cat_all rfl) (Nat.le_of_ble_eq_true rfl) ?_
  show X G t_L_setBudget [(0, 9, 12, 19)] 0 [some (.ref a0), some (.int a1), some (.ref a2), none] [] M 0 0 (oI out)
  unfold f_L_setBudget at h
  refine X.aload_n (x := a2) (pc' := 1) dL_setBudget_0 rfl rfl rfl ?_
  refine X.iconst (v := 0) (pc' := 2) dL_setBudget_1 rfl (by decide) ?_
  refine X.aload_n (x := a0) (pc' := 3) dL_setBudget_2 rfl rfl rfl ?_
  refine X.iload_n (x := a1) (pc' := 4) dL_setBudget_3 rfl rfl rfl ?_
  obtain ⟨⟨⟩, e4, h⟩ := bindE h
  rcases bdWE h with ⟨v1, M2, e3, h⟩ | ⟨E5, M2, e3, h⟩
  rotate_left
  · -- thrown
    by_cases hE0 : E5 = "java/lang/IllegalArgumentException"
    · rw [if_pos hE0] at h
      subst hE0
      refine X.callVh (b := a0) (E := "java/lang/IllegalArgumentException") (As := [.int a1]) (st := [.int 0, .ref a2]) (M' := M2) (i := 3) (pc2 := 13) (L' := [some (.ref a0), some (.int a1), some (.ref a2), none]) (pre := []) (x := ⟨0, 9, 12, 19⟩) (suf := []) dL_setBudget_4 cl_L_41 mi_X10_setBudget me_X10_setBudget mr_X10_setBudget e4 ⟨⟨Nat.le_of_ble_eq_true rfl, Nat.le_of_ble_eq_true rfl⟩, Nat.le_of_ble_eq_true rfl, Nat.le_of_ble_eq_true rfl⟩ rfl (Nat.le_of_ble_eq_true rfl) hz (ok_X10_setBudget (G := zs G) (hz := hz) e3) rfl pass_nil rfl (by decide) (TBg_of 643 (by decide +kernel) rfl) (by decide +kernel) (Or.inr ⟨_, dL_setBudget_12, rfl, rfl⟩) (by decide) rfl ?_
      show X G t_L_setBudget [(0, 9, 12, 19)] 13 [some (.ref a0), some (.int a1), some (.ref a2), none] [] M2 1 6 _
      refine X.iconst (v := 1) (pc' := 14) dL_setBudget_13 rfl (by decide) ?_
      cases h
      exact X.iret (ty := .int) dL_setBudget_14 rfl (by decide) (Nat.le_of_ble_eq_true rfl) (Nat.le_of_ble_eq_true rfl) rfl
    rw [if_neg hE0] at h
    cases h
  refine X.callVq (b := a0) (v := some (.int v1)) (As := [.int a1]) (st := [.int 0, .ref a2]) (M' := M2) (pc' := 7) dL_setBudget_4 rfl cl_L_41 mi_X10_setBudget me_X10_setBudget mr_X10_setBudget e4 ⟨⟨Nat.le_of_ble_eq_true rfl, Nat.le_of_ble_eq_true rfl⟩, Nat.le_of_ble_eq_true rfl, Nat.le_of_ble_eq_true rfl⟩ rfl (Nat.le_of_ble_eq_true rfl) (ok_X10_setBudget (G := zs G) (hz := hz) e3) ?_
  show X G t_L_setBudget [(0, 9, 12, 19)] 7 [some (.ref a0), some (.int a1), some (.ref a2), none] [.int v1, .int 0, .ref a2] M2 1 6 _
  refine X.i2l (pc' := 8) dL_setBudget_7 rfl ?_
  obtain ⟨M7, e6, h⟩ := bindE h
  refine X.last (pc' := 9) dL_setBudget_8 rfl e6 ?_
  refine X.goto (pc' := 15) dL_setBudget_9 (by decide) ?_
  refine X.iconst (v := 0) (pc' := 16) dL_setBudget_15 rfl (by decide) ?_
  cases h
  exact X.iret (ty := .int) dL_setBudget_16 rfl (by decide) (Nat.le_of_ble_eq_true rfl) (Nat.le_of_ble_eq_true rfl) rfl
def f_L_draft (fu : Nat) (a0 : Nat) (a1 : Int32) (a2 : Nat) (M : List Ob) : Option (Int32 × List Ob) :=
  (hasO M a0 10).bind fun _ =>
  bdW (f_X10_draft fu a0 a1 M) (fun v1 M2 =>
  (aSet M2 a2 17 0 (.long ((v1 : Int32).toInt64))).bind fun M7 =>
  some (0, M7))
  (fun E5 M2 => if E5 = "java/lang/IndexOutOfBoundsException" then (some (1, M2))
  else if E5 = "java/lang/IllegalStateException" then (some (2, M2))
  else none)
set_option maxHeartbeats 4000000 in
theorem ok_L_draft {G : GT} (hz : gZ G = false) {fu : Nat} {a0 : Nat} {a1 : Int32} {a2 : Nat} {M : List Ob} {out : Int32 × List Ob} (h : f_L_draft fu a0 a1 a2 M = some out) : SpW G t_L_draft [(0, 9, 12, 28), (0, 9, 15, 13)] [.ref a0, .int a1, .ref a2] M (oI out) := by
  refine SpW.of rfl (by decide +kernel) (cat_all rfl) (Nat.le_of_ble_eq_true rfl) ?_
  show X G t_L_draft [(0, 9, 12, 28), (0, 9, 15, 13)] 0 [some (.ref a0), some (.int a1), some (.ref a2), none] [] M 0 0 (oI out)
  unfold f_L_draft at h
  refine X.aload_n (x := a2) (pc' := 1) dL_draft_0 rfl rfl rfl ?_
  refine X.iconst (v := 0) (pc' := 2) dL_draft_1 rfl (by decide) ?_
  refine X.aload_n (x := a0) (pc' := 3) dL_draft_2 rfl rfl rfl ?_
  refine X.iload_n (x := a1) (pc' := 4) dL_draft_3 rfl rfl rfl ?_
  obtain ⟨⟨⟩, e4, h⟩ := bindE h
  rcases bdWE h with ⟨v1, M2, e3, h⟩ | ⟨E5, M2, e3, h⟩
  rotate_left
  · -- thrown
    by_cases hE0 : E5 = "java/lang/IndexOutOfBoundsException"
    · rw [if_pos hE0] at h
      subst hE0
      refine X.callVh (b := a0) (E := "java/lang/IndexOutOfBoundsException") (As := [.int a1]) (st := [.int 0, .ref a2]) (M' := M2) (i := 3) (pc2 := 13) (L' := [some (.ref a0), some (.int a1), some (.ref a2), none]) (pre := []) (x := ⟨0, 9, 12, 28⟩) (suf := [⟨0, 9, 15, 13⟩]) dL_draft_4 cl_L_44 mi_X10_draft me_X10_draft mr_X10_draft e4 ⟨⟨Nat.le_of_ble_eq_true rfl, Nat.le_of_ble_eq_true rfl⟩, Nat.le_of_ble_eq_true rfl, Nat.le_of_ble_eq_true rfl⟩ rfl (Nat.le_of_ble_eq_true rfl) hz (ok_X10_draft (G := zs G) (hz := hz) e3) rfl pass_nil rfl (by decide) (TBg_of 825 (by decide +kernel) rfl) (by decide +kernel) (Or.inr ⟨_, dL_draft_12, rfl, rfl⟩) (by decide) rfl ?_
      show X G t_L_draft [(0, 9, 12, 28), (0, 9, 15, 13)] 13 [some (.ref a0), some (.int a1), some (.ref a2), none] [] M2 2 12 _
      refine X.iconst (v := 1) (pc' := 14) dL_draft_13 rfl (by decide) ?_
      cases h
      exact X.iret (ty := .int) dL_draft_14 rfl (by decide) (Nat.le_of_ble_eq_true rfl) (Nat.le_of_ble_eq_true rfl) rfl
    rw [if_neg hE0] at h
    by_cases hE1 : E5 = "java/lang/IllegalStateException"
    · rw [if_pos hE1] at h
      subst hE1
      refine X.callVh (b := a0) (E := "java/lang/IllegalStateException") (As := [.int a1]) (st := [.int 0, .ref a2]) (M' := M2) (i := 3) (pc2 := 16) (L' := [some (.ref a0), some (.int a1), some (.ref a2), none]) (pre := [⟨0, 9, 12, 28⟩]) (x := ⟨0, 9, 15, 13⟩) (suf := []) dL_draft_4 cl_L_44 mi_X10_draft me_X10_draft mr_X10_draft e4 ⟨⟨Nat.le_of_ble_eq_true rfl, Nat.le_of_ble_eq_true rfl⟩, Nat.le_of_ble_eq_true rfl, Nat.le_of_ble_eq_true rfl⟩ rfl (Nat.le_of_ble_eq_true rfl) hz (ok_X10_draft (G := zs G) (hz := hz) e3) rfl (pass_cons ⟨by decide, "java/lang/IndexOutOfBoundsException", TBg_of 825 (by decide +kernel) rfl, by decide +kernel⟩ pass_nil) rfl (by decide) (TBg_of 563 (by decide +kernel) rfl) (by decide +kernel) (Or.inr ⟨_, dL_draft_15, rfl, rfl⟩) (by decide) rfl ?_
      show X G t_L_draft [(0, 9, 12, 28), (0, 9, 15, 13)] 16 [some (.ref a0), some (.int a1), some (.ref a2), none] [] M2 2 12 _
      refine X.iconst (v := 2) (pc' := 17) dL_draft_16 rfl (by decide) ?_
      cases h
      exact X.iret (ty := .int) dL_draft_17 rfl (by decide) (Nat.le_of_ble_eq_true rfl) (Nat.le_of_ble_eq_true rfl) rfl
    rw [if_neg hE1] at h
    cases h
  refine X.callVq (b := a0) (v := some (.int v1)) (As := [.int a1]) (st := [.int 0, .ref a2]) (M' := M2) (pc' := 7) dL_draft_4 rfl cl_L_44 mi_X10_draft me_X10_draft mr_X10_draft e4 ⟨⟨Nat.le_of_ble_eq_true rfl, Nat.le_of_ble_eq_true rfl⟩, Nat.le_of_ble_eq_true rfl, Nat.le_of_ble_eq_true rfl⟩ rfl (Nat.le_of_ble_eq_true rfl) (ok_X10_draft (G := zs G) (hz := hz) e3) ?_
  show X G t_L_draft [(0, 9, 12, 28), (0, 9, 15, 13)] 7 [some (.ref a0), some (.int a1), some (.ref a2), none] [.int v1, .int 0, .ref a2] M2 2 12 _
  refine X.i2l (pc' := 8) dL_draft_7 rfl ?_
  obtain ⟨M7, e6, h⟩ := bindE h
  refine X.last (pc' := 9) dL_draft_8 rfl e6 ?_
  refine X.goto (pc' := 18) dL_draft_9 (by decide) ?_
  refine X.iconst (v := 0) (pc' := 19) dL_draft_18 rfl (by decide) ?_
  cases h
  exact X.iret (ty := .int) dL_draft_19 rfl (by decide) (Nat.le_of_ble_eq_true rfl) (Nat.le_of_ble_eq_true rfl) rfl
def f_L_drop (fu : Nat) (a0 : Nat) (a1 : Nat) (M : List Ob) : Option (Int32 × List Ob) :=
  (hasO M a0 10).bind fun _ =>
  bdW (f_X10_drop fu a0 M) (fun v1 M2 =>
  (aSet M2 a1 17 0 (.long ((v1 : Int32).toInt64))).bind fun M7 =>
  some (0, M7))
  (fun E5 M2 => if E5 = "java/lang/IllegalStateException" then (some (1, M2))
  else none)
set_option maxHeartbeats 4000000 in
theorem ok_L_drop {G : GT} (hz : gZ G = false) {fu : Nat} {a0 : Nat} {a1 : Nat} {M : List Ob} {out : Int32 × List Ob} (h : f_L_drop fu a0 a1 M = some out) : SpW G t_L_drop [(0, 8, 11, 13)] [.ref a0, .ref a1] M (oI out) := by
  refine SpW.of rfl (by decide +kernel) (cat_all rfl) (Nat.le_of_ble_eq_true rfl) ?_
  show X G t_L_drop [(0, 8, 11, 13)] 0 [some (.ref a0), some (.ref a1), none] [] M 0 0 (oI out)
  unfold f_L_drop at h
  refine X.aload_n (x := a1) (pc' := 1) dL_drop_0 rfl rfl rfl ?_
  refine X.iconst (v := 0) (pc' := 2) dL_drop_1 rfl (by decide) ?_
  refine X.aload_n (x := a0) (pc' := 3) dL_drop_2 rfl rfl rfl ?_
  obtain ⟨⟨⟩, e4, h⟩ := bindE h
  rcases bdWE h with ⟨v1, M2, e3, h⟩ | ⟨E5, M2, e3, h⟩
  rotate_left
  · -- thrown
    by_cases hE0 : E5 = "java/lang/IllegalStateException"
    · rw [if_pos hE0] at h
      subst hE0
      refine X.callVh (b := a0) (E := "java/lang/IllegalStateException") (As := []) (st := [.int 0, .ref a1]) (M' := M2) (i := 2) (pc2 := 12) (L' := [some (.ref a0), some (.ref a1), none]) (pre := []) (x := ⟨0, 8, 11, 13⟩) (suf := []) dL_drop_3 cl_L_47 mi_X10_drop me_X10_drop mr_X10_drop e4 ⟨⟨Nat.le_of_ble_eq_true rfl, Nat.le_of_ble_eq_true rfl⟩, Nat.le_of_ble_eq_true rfl, Nat.le_of_ble_eq_true rfl⟩ rfl (Nat.le_of_ble_eq_true rfl) hz (ok_X10_drop (G := zs G) (hz := hz) e3) rfl pass_nil rfl (by decide) (TBg_of 563 (by decide +kernel) rfl) (by decide +kernel) (Or.inr ⟨_, dL_drop_11, rfl, rfl⟩) (by decide) rfl ?_
      show X G t_L_drop [(0, 8, 11, 13)] 12 [some (.ref a0), some (.ref a1), none] [] M2 1 6 _
      refine X.iconst (v := 1) (pc' := 13) dL_drop_12 rfl (by decide) ?_
      cases h
      exact X.iret (ty := .int) dL_drop_13 rfl (by decide) (Nat.le_of_ble_eq_true rfl) (Nat.le_of_ble_eq_true rfl) rfl
    rw [if_neg hE0] at h
    cases h
  refine X.callVq (b := a0) (v := some (.int v1)) (As := []) (st := [.int 0, .ref a1]) (M' := M2) (pc' := 6) dL_drop_3 rfl cl_L_47 mi_X10_drop me_X10_drop mr_X10_drop e4 ⟨⟨Nat.le_of_ble_eq_true rfl, Nat.le_of_ble_eq_true rfl⟩, Nat.le_of_ble_eq_true rfl, Nat.le_of_ble_eq_true rfl⟩ rfl (Nat.le_of_ble_eq_true rfl) (ok_X10_drop (G := zs G) (hz := hz) e3) ?_
  show X G t_L_drop [(0, 8, 11, 13)] 6 [some (.ref a0), some (.ref a1), none] [.int v1, .int 0, .ref a1] M2 1 6 _
  refine X.i2l (pc' := 7) dL_drop_6 rfl ?_
  obtain ⟨M7, e6, h⟩ := bindE h
  refine X.last (pc' := 8) dL_drop_7 rfl e6 ?_
  refine X.goto (pc' := 14) dL_drop_8 (by decide) ?_
  refine X.iconst (v := 0) (pc' := 15) dL_drop_14 rfl (by decide) ?_
  cases h
  exact X.iret (ty := .int) dL_drop_15 rfl (by decide) (Nat.le_of_ble_eq_true rfl) (Nat.le_of_ble_eq_true rfl) rfl
def f_L_tell (fu : Nat) (a0 : Nat) (a1 : Nat) (M : List Ob) : Option (Int32 × List Ob) :=
  (hasO M a0 10).bind fun _ =>
  bdW (f_X10_tell fu a0 M) (fun v1 M2 =>
  (aSet M2 a1 17 0 (.long ((v1 : Int32).toInt64))).bind fun M7 =>
  some (0, M7))
  (fun E5 M2 => if E5 = "java/lang/IllegalStateException" then (some (1, M2))
  else none)
set_option maxHeartbeats 4000000 in
theorem ok_L_tell {G : GT} (hz : gZ G = false) {fu : Nat} {a0 : Nat} {a1 : Nat} {M : List Ob} {out : Int32 × List Ob} (h : f_L_tell fu a0 a1 M = some out) : SpW G t_L_tell [(0, 8, 11, 13)] [.ref a0, .ref a1] M (oI out) := by
  refine SpW.of rfl (by decide +kernel) (cat_all rfl) (Nat.le_of_ble_eq_true rfl) ?_
  show X G t_L_tell [(0, 8, 11, 13)] 0 [some (.ref a0), some (.ref a1), none] [] M 0 0 (oI out)
  unfold f_L_tell at h
  refine X.aload_n (x := a1) (pc' := 1) dL_tell_0 rfl rfl rfl ?_
  refine X.iconst (v := 0) (pc' := 2) dL_tell_1 rfl (by decide) ?_
  refine X.aload_n (x := a0) (pc' := 3) dL_tell_2 rfl rfl rfl ?_
  obtain ⟨⟨⟩, e4, h⟩ := bindE h
  rcases bdWE h with ⟨v1, M2, e3, h⟩ | ⟨E5, M2, e3, h⟩
  rotate_left
  · -- thrown
    by_cases hE0 : E5 = "java/lang/IllegalStateException"
    · rw [if_pos hE0] at h
      subst hE0
      refine X.callVh (b := a0) (E := "java/lang/IllegalStateException") (As := []) (st := [.int 0, .ref a1]) (M' := M2) (i := 2) (pc2 := 12) (L' := [some (.ref a0), some (.ref a1), none]) (pre := []) (x := ⟨0, 8, 11, 13⟩) (suf := []) dL_tell_3 cl_L_51 mi_X10_tell me_X10_tell mr_X10_tell e4 ⟨⟨Nat.le_of_ble_eq_true rfl, Nat.le_of_ble_eq_true rfl⟩, Nat.le_of_ble_eq_true rfl, Nat.le_of_ble_eq_true rfl⟩ rfl (Nat.le_of_ble_eq_true rfl) hz (ok_X10_tell (G := zs G) (hz := hz) e3) rfl pass_nil rfl (by decide) (TBg_of 563 (by decide +kernel) rfl) (by decide +kernel) (Or.inr ⟨_, dL_tell_11, rfl, rfl⟩) (by decide) rfl ?_
      show X G t_L_tell [(0, 8, 11, 13)] 12 [some (.ref a0), some (.ref a1), none] [] M2 1 6 _
      refine X.iconst (v := 1) (pc' := 13) dL_tell_12 rfl (by decide) ?_
      cases h
      exact X.iret (ty := .int) dL_tell_13 rfl (by decide) (Nat.le_of_ble_eq_true rfl) (Nat.le_of_ble_eq_true rfl) rfl
    rw [if_neg hE0] at h
    cases h
  refine X.callVq (b := a0) (v := some (.int v1)) (As := []) (st := [.int 0, .ref a1]) (M' := M2) (pc' := 6) dL_tell_3 rfl cl_L_51 mi_X10_tell me_X10_tell mr_X10_tell e4 ⟨⟨Nat.le_of_ble_eq_true rfl, Nat.le_of_ble_eq_true rfl⟩, Nat.le_of_ble_eq_true rfl, Nat.le_of_ble_eq_true rfl⟩ rfl (Nat.le_of_ble_eq_true rfl) (ok_X10_tell (G := zs G) (hz := hz) e3) ?_
  show X G t_L_tell [(0, 8, 11, 13)] 6 [some (.ref a0), some (.ref a1), none] [.int v1, .int 0, .ref a1] M2 1 6 _
  refine X.i2l (pc' := 7) dL_tell_6 rfl ?_
  obtain ⟨M7, e6, h⟩ := bindE h
  refine X.last (pc' := 8) dL_tell_7 rfl e6 ?_
  refine X.goto (pc' := 14) dL_tell_8 (by decide) ?_
  refine X.iconst (v := 0) (pc' := 15) dL_tell_14 rfl (by decide) ?_
  cases h
  exact X.iret (ty := .int) dL_tell_15 rfl (by decide) (Nat.le_of_ble_eq_true rfl) (Nat.le_of_ble_eq_true rfl) rfl
def f_L_forget (fu : Nat) (a0 : Nat) (a1 : Int32) (a2 : Nat) (M : List Ob) : Option (Int32 × List Ob) :=
  (hasO M a0 10).bind fun _ =>
  bdW (f_X10_forget fu a0 a1 M) (fun v1 M2 =>
  (aSet M2 a2 17 0 (.long ((v1 : Int32).toInt64))).bind fun M7 =>
  some (0, M7))
  (fun E5 M2 => if E5 = "java/lang/IndexOutOfBoundsException" then (some (1, M2))
  else none)
set_option maxHeartbeats 4000000 in
theorem ok_L_forget {G : GT} (hz : gZ G = false) {fu : Nat} {a0 : Nat} {a1 : Int32} {a2 : Nat} {M : List Ob} {out : Int32 × List Ob} (h : f_L_forget fu a0 a1 a2 M = some out) : SpW G t_L_forget [(0, 9, 12, 28)] [.ref a0, .int a1, .ref a2] M (oI out) := by
  refine SpW.of rfl (by decide +kernel) (cat_all rfl) (Nat.le_of_ble_eq_true rfl) ?_
  show X G t_L_forget [(0, 9, 12, 28)] 0 [some (.ref a0), some (.int a1), some (.ref a2), none] [] M 0 0 (oI out)
  unfold f_L_forget at h
  refine X.aload_n (x := a2) (pc' := 1) dL_forget_0 rfl rfl rfl ?_
  refine X.iconst (v := 0) (pc' := 2) dL_forget_1 rfl (by decide) ?_
  refine X.aload_n (x := a0) (pc' := 3) dL_forget_2 rfl rfl rfl ?_
  refine X.iload_n (x := a1) (pc' := 4) dL_forget_3 rfl rfl rfl ?_
  obtain ⟨⟨⟩, e4, h⟩ := bindE h
  rcases bdWE h with ⟨v1, M2, e3, h⟩ | ⟨E5, M2, e3, h⟩
  rotate_left
  · -- thrown
    by_cases hE0 : E5 = "java/lang/IndexOutOfBoundsException"
    · rw [if_pos hE0] at h
      subst hE0
      refine X.callVh (b := a0) (E := "java/lang/IndexOutOfBoundsException") (As := [.int a1]) (st := [.int 0, .ref a2]) (M' := M2) (i := 3) (pc2 := 13) (L' := [some (.ref a0), some (.int a1), some (.ref a2), none]) (pre := []) (x := ⟨0, 9, 12, 28⟩) (suf := []) dL_forget_4 cl_L_54 mi_X10_forget me_X10_forget mr_X10_forget e4 ⟨⟨Nat.le_of_ble_eq_true rfl, Nat.le_of_ble_eq_true rfl⟩, Nat.le_of_ble_eq_true rfl, Nat.le_of_ble_eq_true rfl⟩ rfl (Nat.le_of_ble_eq_true rfl) hz (ok_X10_forget (G := zs G) (hz := hz) e3) rfl pass_nil rfl (by decide) (TBg_of 825 (by decide +kernel) rfl) (by decide +kernel) (Or.inr ⟨_, dL_forget_12, rfl, rfl⟩) (by decide) rfl ?_
      show X G t_L_forget [(0, 9, 12, 28)] 13 [some (.ref a0), some (.int a1), some (.ref a2), none] [] M2 1 6 _
      refine X.iconst (v := 1) (pc' := 14) dL_forget_13 rfl (by decide) ?_
      cases h
      exact X.iret (ty := .int) dL_forget_14 rfl (by decide) (Nat.le_of_ble_eq_true rfl) (Nat.le_of_ble_eq_true rfl) rfl
    rw [if_neg hE0] at h
    cases h
  refine X.callVq (b := a0) (v := some (.int v1)) (As := [.int a1]) (st := [.int 0, .ref a2]) (M' := M2) (pc' := 7) dL_forget_4 rfl cl_L_54 mi_X10_forget me_X10_forget mr_X10_forget e4 ⟨⟨Nat.le_of_ble_eq_true rfl, Nat.le_of_ble_eq_true rfl⟩, Nat.le_of_ble_eq_true rfl, Nat.le_of_ble_eq_true rfl⟩ rfl (Nat.le_of_ble_eq_true rfl) (ok_X10_forget (G := zs G) (hz := hz) e3) ?_
  show X G t_L_forget [(0, 9, 12, 28)] 7 [some (.ref a0), some (.int a1), some (.ref a2), none] [.int v1, .int 0, .ref a2] M2 1 6 _
  refine X.i2l (pc' := 8) dL_forget_7 rfl ?_
  obtain ⟨M7, e6, h⟩ := bindE h
  refine X.last (pc' := 9) dL_forget_8 rfl e6 ?_
  refine X.goto (pc' := 15) dL_forget_9 (by decide) ?_
  refine X.iconst (v := 0) (pc' := 16) dL_forget_15 rfl (by decide) ?_
  cases h
  exact X.iret (ty := .int) dL_forget_16 rfl (by decide) (Nat.le_of_ble_eq_true rfl) (Nat.le_of_ble_eq_true rfl) rfl
def f_L_routeArc (fu : Nat) (a0 : Nat) (a1 : Int32) (a2 : Int32) (a3 : Nat) (M : List Ob) : Option (Int32 × List Ob) :=
  (hasO M a0 10).bind fun _ =>
  bdW (f_X10_routeArc fu a0 a1 a2 M) (fun v1 M2 =>
  (aSet M2 a3 17 0 (.long ((v1 : Int32).toInt64))).bind fun M7 =>
  some (0, M7))
  (fun E5 M2 => if E5 = "java/lang/IndexOutOfBoundsException" then (some (1, M2))
  else none)
set_option maxHeartbeats 4000000 in
theorem ok_L_routeArc {G : GT} (hz : gZ G = false) {fu : Nat} {a0 : Nat} {a1 : Int32} {a2 : Int32} {a3 : Nat} {M : List Ob} {out : Int32 × List Ob} (h : f_L_routeArc fu a0 a1 a2 a3 M = some out) : SpW G t_L_routeArc [(0, 10, 13, 28)] [.ref a0, .int a1, .int a2, .ref a3] M (oI out) := by
  refine SpW.of rfl (by decide +kernel) (cat_all rfl) (Nat.le_of_ble_eq_true rfl) ?_
  show X G t_L_routeArc [(0, 10, 13, 28)] 0 [some (.ref a0), some (.int a1), some (.int a2), some (.ref a3), none] [] M 0 0 (oI out)
  unfold f_L_routeArc at h
  refine X.aload_n (x := a3) (pc' := 1) dL_routeArc_0 rfl rfl rfl ?_
  refine X.iconst (v := 0) (pc' := 2) dL_routeArc_1 rfl (by decide) ?_
  refine X.aload_n (x := a0) (pc' := 3) dL_routeArc_2 rfl rfl rfl ?_
  refine X.iload_n (x := a1) (pc' := 4) dL_routeArc_3 rfl rfl rfl ?_
  refine X.iload_n (x := a2) (pc' := 5) dL_routeArc_4 rfl rfl rfl ?_
  obtain ⟨⟨⟩, e4, h⟩ := bindE h
  rcases bdWE h with ⟨v1, M2, e3, h⟩ | ⟨E5, M2, e3, h⟩
  rotate_left
  · -- thrown
    by_cases hE0 : E5 = "java/lang/IndexOutOfBoundsException"
    · rw [if_pos hE0] at h
      subst hE0
      refine X.callVh (b := a0) (E := "java/lang/IndexOutOfBoundsException") (As := [.int a1, .int a2]) (st := [.int 0, .ref a3]) (M' := M2) (i := 4) (pc2 := 15) (L' := [some (.ref a0), some (.int a1), some (.int a2), some (.ref a3), none]) (pre := []) (x := ⟨0, 10, 13, 28⟩) (suf := []) dL_routeArc_5 cl_L_57 mi_X10_routeArc me_X10_routeArc mr_X10_routeArc e4 ⟨⟨Nat.le_of_ble_eq_true rfl, Nat.le_of_ble_eq_true rfl⟩, Nat.le_of_ble_eq_true rfl, Nat.le_of_ble_eq_true rfl⟩ rfl (Nat.le_of_ble_eq_true rfl) hz (ok_X10_routeArc (G := zs G) (hz := hz) e3) rfl pass_nil rfl (by decide) (TBg_of 825 (by decide +kernel) rfl) (by decide +kernel) (Or.inl ⟨dL_routeArc_13, rfl⟩) (by decide) rfl ?_
      show X G t_L_routeArc [(0, 10, 13, 28)] 15 [some (.ref a0), some (.int a1), some (.int a2), some (.ref a3), none] [] M2 2 12 _
      refine X.iconst (v := 1) (pc' := 16) dL_routeArc_15 rfl (by decide) ?_
      cases h
      exact X.iret (ty := .int) dL_routeArc_16 rfl (by decide) (Nat.le_of_ble_eq_true rfl) (Nat.le_of_ble_eq_true rfl) rfl
    rw [if_neg hE0] at h
    cases h
  refine X.callVq (b := a0) (v := some (.int v1)) (As := [.int a1, .int a2]) (st := [.int 0, .ref a3]) (M' := M2) (pc' := 8) dL_routeArc_5 rfl cl_L_57 mi_X10_routeArc me_X10_routeArc mr_X10_routeArc e4 ⟨⟨Nat.le_of_ble_eq_true rfl, Nat.le_of_ble_eq_true rfl⟩, Nat.le_of_ble_eq_true rfl, Nat.le_of_ble_eq_true rfl⟩ rfl (Nat.le_of_ble_eq_true rfl) (ok_X10_routeArc (G := zs G) (hz := hz) e3) ?_
  show X G t_L_routeArc [(0, 10, 13, 28)] 8 [some (.ref a0), some (.int a1), some (.int a2), some (.ref a3), none] [.int v1, .int 0, .ref a3] M2 2 12 _
  refine X.i2l (pc' := 9) dL_routeArc_8 rfl ?_
  obtain ⟨M7, e6, h⟩ := bindE h
  refine X.last (pc' := 10) dL_routeArc_9 rfl e6 ?_
  refine X.goto (pc' := 17) dL_routeArc_10 (by decide) ?_
  refine X.iconst (v := 0) (pc' := 18) dL_routeArc_17 rfl (by decide) ?_
  cases h
  exact X.iret (ty := .int) dL_routeArc_18 rfl (by decide) (Nat.le_of_ble_eq_true rfl) (Nat.le_of_ble_eq_true rfl) rfl
def f_L_route (fu : Nat) (a0 : Nat) (a1 : Int32) (a2 : Int32) (a3 : Nat) (M : List Ob) : Option (Int32 × List Ob) :=
  (hasO M a0 10).bind fun _ =>
  bdW (f_X10_route fu a0 a1 a2 M) (fun v1 M2 =>
  (aSet M2 a3 17 0 (.long ((v1 : Int32).toInt64))).bind fun M7 =>
  some (0, M7))
  (fun E5 M2 => if E5 = "java/lang/IndexOutOfBoundsException" then (some (1, M2))
  else if E5 = "java/lang/IllegalArgumentException" then (some (2, M2))
  else none)
set_option maxHeartbeats 4000000 in
theorem ok_L_route {G : GT} (hz : gZ G = false) {fu : Nat} {a0 : Nat} {a1 : Int32} {a2 : Int32} {a3 : Nat} {M : List Ob} {out : Int32 × List Ob} (h : f_L_route fu a0 a1 a2 a3 M = some out) : SpW G t_L_route [(0, 10, 13, 28), (0, 10, 17, 19)] [.ref a0, .int a1, .int a2, .ref a3] M (oI out) := by
  refine SpW.of rfl (by decide +kernel) (cat_all rfl) (Nat.le_of_ble_eq_true rfl) ?_
  show X G t_L_route [(0, 10, 13, 28), (0, 10, 17, 19)] 0 [some (.ref a0), some (.int a1), some (.int a2), some (.ref a3), none] [] M 0 0 (oI out)
  unfold f_L_route at h
  refine X.aload_n (x := a3) (pc' := 1) dL_route_0 rfl rfl rfl ?_
  refine X.iconst (v := 0) (pc' := 2) dL_route_1 rfl (by decide) ?_
  refine X.aload_n (x := a0) (pc' := 3) dL_route_2 rfl rfl rfl ?_
  refine X.iload_n (x := a1) (pc' := 4) dL_route_3 rfl rfl rfl ?_
  refine X.iload_n (x := a2) (pc' := 5) dL_route_4 rfl rfl rfl ?_
  obtain ⟨⟨⟩, e4, h⟩ := bindE h
  rcases bdWE h with ⟨v1, M2, e3, h⟩ | ⟨E5, M2, e3, h⟩
  rotate_left
  · -- thrown
    by_cases hE0 : E5 = "java/lang/IndexOutOfBoundsException"
    · rw [if_pos hE0] at h
      subst hE0
      refine X.callVh (b := a0) (E := "java/lang/IndexOutOfBoundsException") (As := [.int a1, .int a2]) (st := [.int 0, .ref a3]) (M' := M2) (i := 4) (pc2 := 15) (L' := [some (.ref a0), some (.int a1), some (.int a2), some (.ref a3), none]) (pre := []) (x := ⟨0, 10, 13, 28⟩) (suf := [⟨0, 10, 17, 19⟩]) dL_route_5 cl_L_60 mi_X10_route me_X10_route mr_X10_route e4 ⟨⟨Nat.le_of_ble_eq_true rfl, Nat.le_of_ble_eq_true rfl⟩, Nat.le_of_ble_eq_true rfl, Nat.le_of_ble_eq_true rfl⟩ rfl (Nat.le_of_ble_eq_true rfl) hz (ok_X10_route (G := zs G) (hz := hz) e3) rfl pass_nil rfl (by decide) (TBg_of 825 (by decide +kernel) rfl) (by decide +kernel) (Or.inl ⟨dL_route_13, rfl⟩) (by decide) rfl ?_
      show X G t_L_route [(0, 10, 13, 28), (0, 10, 17, 19)] 15 [some (.ref a0), some (.int a1), some (.int a2), some (.ref a3), none] [] M2 2 12 _
      refine X.iconst (v := 1) (pc' := 16) dL_route_15 rfl (by decide) ?_
      cases h
      exact X.iret (ty := .int) dL_route_16 rfl (by decide) (Nat.le_of_ble_eq_true rfl) (Nat.le_of_ble_eq_true rfl) rfl
    rw [if_neg hE0] at h
    by_cases hE1 : E5 = "java/lang/IllegalArgumentException"
    · rw [if_pos hE1] at h
      subst hE1
      refine X.callVh (b := a0) (E := "java/lang/IllegalArgumentException") (As := [.int a1, .int a2]) (st := [.int 0, .ref a3]) (M' := M2) (i := 4) (pc2 := 19) (L' := [some (.ref a0), some (.int a1), some (.int a2), some (.ref a3), none]) (pre := [⟨0, 10, 13, 28⟩]) (x := ⟨0, 10, 17, 19⟩) (suf := []) dL_route_5 cl_L_60 mi_X10_route me_X10_route mr_X10_route e4 ⟨⟨Nat.le_of_ble_eq_true rfl, Nat.le_of_ble_eq_true rfl⟩, Nat.le_of_ble_eq_true rfl, Nat.le_of_ble_eq_true rfl⟩ rfl (Nat.le_of_ble_eq_true rfl) hz (ok_X10_route (G := zs G) (hz := hz) e3) rfl (pass_cons ⟨by decide, "java/lang/IndexOutOfBoundsException", TBg_of 825 (by decide +kernel) rfl, by decide +kernel⟩ pass_nil) rfl (by decide) (TBg_of 643 (by decide +kernel) rfl) (by decide +kernel) (Or.inl ⟨dL_route_17, rfl⟩) (by decide) rfl ?_
      show X G t_L_route [(0, 10, 13, 28), (0, 10, 17, 19)] 19 [some (.ref a0), some (.int a1), some (.int a2), some (.ref a3), none] [] M2 2 12 _
      refine X.iconst (v := 2) (pc' := 20) dL_route_19 rfl (by decide) ?_
      cases h
      exact X.iret (ty := .int) dL_route_20 rfl (by decide) (Nat.le_of_ble_eq_true rfl) (Nat.le_of_ble_eq_true rfl) rfl
    rw [if_neg hE1] at h
    cases h
  refine X.callVq (b := a0) (v := some (.int v1)) (As := [.int a1, .int a2]) (st := [.int 0, .ref a3]) (M' := M2) (pc' := 8) dL_route_5 rfl cl_L_60 mi_X10_route me_X10_route mr_X10_route e4 ⟨⟨Nat.le_of_ble_eq_true rfl, Nat.le_of_ble_eq_true rfl⟩, Nat.le_of_ble_eq_true rfl, Nat.le_of_ble_eq_true rfl⟩ rfl (Nat.le_of_ble_eq_true rfl) (ok_X10_route (G := zs G) (hz := hz) e3) ?_
  show X G t_L_route [(0, 10, 13, 28), (0, 10, 17, 19)] 8 [some (.ref a0), some (.int a1), some (.int a2), some (.ref a3), none] [.int v1, .int 0, .ref a3] M2 2 12 _
  refine X.i2l (pc' := 9) dL_route_8 rfl ?_
  obtain ⟨M7, e6, h⟩ := bindE h
  refine X.last (pc' := 10) dL_route_9 rfl e6 ?_
  refine X.goto (pc' := 21) dL_route_10 (by decide) ?_
  refine X.iconst (v := 0) (pc' := 22) dL_route_21 rfl (by decide) ?_
  cases h
  exact X.iret (ty := .int) dL_route_22 rfl (by decide) (Nat.le_of_ble_eq_true rfl) (Nat.le_of_ble_eq_true rfl) rfl
def f_L_cost (fu : Nat) (a0 : Nat) (a1 : Int32) (a2 : Int32) (a3 : Nat) (M : List Ob) : Option (Int32 × List Ob) :=
  (hasO M a0 10).bind fun _ =>
  bdW (f_X10_cost fu a0 a1 a2 M) (fun v1 M2 =>
  (aSet M2 a3 17 0 (.long ((v1 : Int32).toInt64))).bind fun M7 =>
  some (0, M7))
  (fun E5 M2 => if E5 = "java/lang/IndexOutOfBoundsException" then (some (1, M2))
  else none)
set_option maxHeartbeats 4000000 in
theorem ok_L_cost {G : GT} (hz : gZ G = false) {fu : Nat} {a0 : Nat} {a1 : Int32} {a2 : Int32} {a3 : Nat} {M : List Ob} {out : Int32 × List Ob} (h : f_L_cost fu a0 a1 a2 a3 M = some out) : SpW G t_L_cost [(0, 10, 13, 28)] [.ref a0, .int a1, .int a2, .ref a3] M (oI out) := by
  refine SpW.of rfl (by decide +kernel) (cat_all rfl) (Nat.le_of_ble_eq_true rfl) ?_
  show X G t_L_cost [(0, 10, 13, 28)] 0 [some (.ref a0), some (.int a1), some (.int a2), some (.ref a3), none] [] M 0 0 (oI out)
  unfold f_L_cost at h
  refine X.aload_n (x := a3) (pc' := 1) dL_cost_0 rfl rfl rfl ?_
  refine X.iconst (v := 0) (pc' := 2) dL_cost_1 rfl (by decide) ?_
  refine X.aload_n (x := a0) (pc' := 3) dL_cost_2 rfl rfl rfl ?_
  refine X.iload_n (x := a1) (pc' := 4) dL_cost_3 rfl rfl rfl ?_
  refine X.iload_n (x := a2) (pc' := 5) dL_cost_4 rfl rfl rfl ?_
  obtain ⟨⟨⟩, e4, h⟩ := bindE h
  rcases bdWE h with ⟨v1, M2, e3, h⟩ | ⟨E5, M2, e3, h⟩
  rotate_left
  · -- thrown
    by_cases hE0 : E5 = "java/lang/IndexOutOfBoundsException"
    · rw [if_pos hE0] at h
      subst hE0
      refine X.callVh (b := a0) (E := "java/lang/IndexOutOfBoundsException") (As := [.int a1, .int a2]) (st := [.int 0, .ref a3]) (M' := M2) (i := 4) (pc2 := 15) (L' := [some (.ref a0), some (.int a1), some (.int a2), some (.ref a3), none]) (pre := []) (x := ⟨0, 10, 13, 28⟩) (suf := []) dL_cost_5 cl_L_63 mi_X10_cost me_X10_cost mr_X10_cost e4 ⟨⟨Nat.le_of_ble_eq_true rfl, Nat.le_of_ble_eq_true rfl⟩, Nat.le_of_ble_eq_true rfl, Nat.le_of_ble_eq_true rfl⟩ rfl (Nat.le_of_ble_eq_true rfl) hz (ok_X10_cost (G := zs G) (hz := hz) e3) rfl pass_nil rfl (by decide) (TBg_of 825 (by decide +kernel) rfl) (by decide +kernel) (Or.inl ⟨dL_cost_13, rfl⟩) (by decide) rfl ?_
      show X G t_L_cost [(0, 10, 13, 28)] 15 [some (.ref a0), some (.int a1), some (.int a2), some (.ref a3), none] [] M2 1 6 _
      refine X.iconst (v := 1) (pc' := 16) dL_cost_15 rfl (by decide) ?_
      cases h
      exact X.iret (ty := .int) dL_cost_16 rfl (by decide) (Nat.le_of_ble_eq_true rfl) (Nat.le_of_ble_eq_true rfl) rfl
    rw [if_neg hE0] at h
    cases h
  refine X.callVq (b := a0) (v := some (.int v1)) (As := [.int a1, .int a2]) (st := [.int 0, .ref a3]) (M' := M2) (pc' := 8) dL_cost_5 rfl cl_L_63 mi_X10_cost me_X10_cost mr_X10_cost e4 ⟨⟨Nat.le_of_ble_eq_true rfl, Nat.le_of_ble_eq_true rfl⟩, Nat.le_of_ble_eq_true rfl, Nat.le_of_ble_eq_true rfl⟩ rfl (Nat.le_of_ble_eq_true rfl) (ok_X10_cost (G := zs G) (hz := hz) e3) ?_
  show X G t_L_cost [(0, 10, 13, 28)] 8 [some (.ref a0), some (.int a1), some (.int a2), some (.ref a3), none] [.int v1, .int 0, .ref a3] M2 1 6 _
  refine X.i2l (pc' := 9) dL_cost_8 rfl ?_
  obtain ⟨M7, e6, h⟩ := bindE h
  refine X.last (pc' := 10) dL_cost_9 rfl e6 ?_
  refine X.goto (pc' := 17) dL_cost_10 (by decide) ?_
  refine X.iconst (v := 0) (pc' := 18) dL_cost_17 rfl (by decide) ?_
  cases h
  exact X.iret (ty := .int) dL_cost_18 rfl (by decide) (Nat.le_of_ble_eq_true rfl) (Nat.le_of_ble_eq_true rfl) rfl
def f_L_chosen (fu : Nat) (a0 : Nat) (a1 : Nat) (M : List Ob) : Option (Int32 × List Ob) :=
  (hasO M a0 10).bind fun _ =>
  bdW (f_X10_chosen fu a0 M) (fun v1 M2 =>
  (aSet M2 a1 17 0 (.long ((v1 : Int32).toInt64))).bind fun M7 =>
  some (0, M7))
  (fun E5 M2 => if E5 = "java/util/NoSuchElementException" then (some (1, M2))
  else none)
set_option maxHeartbeats 4000000 in
theorem ok_L_chosen {G : GT} (hz : gZ G = false) {fu : Nat} {a0 : Nat} {a1 : Nat} {M : List Ob} {out : Int32 × List Ob} (h : f_L_chosen fu a0 a1 M = some out) : SpW G t_L_chosen [(0, 8, 11, 69)] [.ref a0, .ref a1] M (oI out) := by
  refine SpW.of rfl (by decide +kernel) (cat_all rfl) (Nat.le_of_ble_eq_true rfl) ?_
  show X G t_L_chosen [(0, 8, 11, 69)] 0 [some (.ref a0), some (.ref a1), none] [] M 0 0 (oI out)
  unfold f_L_chosen at h
  refine X.aload_n (x := a1) (pc' := 1) dL_chosen_0 rfl rfl rfl ?_
  refine X.iconst (v := 0) (pc' := 2) dL_chosen_1 rfl (by decide) ?_
  refine X.aload_n (x := a0) (pc' := 3) dL_chosen_2 rfl rfl rfl ?_
  obtain ⟨⟨⟩, e4, h⟩ := bindE h
  rcases bdWE h with ⟨v1, M2, e3, h⟩ | ⟨E5, M2, e3, h⟩
  rotate_left
  · -- thrown
    by_cases hE0 : E5 = "java/util/NoSuchElementException"
    · rw [if_pos hE0] at h
      subst hE0
      refine X.callVh (b := a0) (E := "java/util/NoSuchElementException") (As := []) (st := [.int 0, .ref a1]) (M' := M2) (i := 2) (pc2 := 12) (L' := [some (.ref a0), some (.ref a1), none]) (pre := []) (x := ⟨0, 8, 11, 69⟩) (suf := []) dL_chosen_3 cl_L_66 mi_X10_chosen me_X10_chosen mr_X10_chosen e4 ⟨⟨Nat.le_of_ble_eq_true rfl, Nat.le_of_ble_eq_true rfl⟩, Nat.le_of_ble_eq_true rfl, Nat.le_of_ble_eq_true rfl⟩ rfl (Nat.le_of_ble_eq_true rfl) hz (ok_X10_chosen (G := zs G) (hz := hz) e3) rfl pass_nil rfl (by decide) (TBg_of 1056 (by decide +kernel) rfl) (by decide +kernel) (Or.inr ⟨_, dL_chosen_11, rfl, rfl⟩) (by decide) rfl ?_
      show X G t_L_chosen [(0, 8, 11, 69)] 12 [some (.ref a0), some (.ref a1), none] [] M2 1 6 _
      refine X.iconst (v := 1) (pc' := 13) dL_chosen_12 rfl (by decide) ?_
      cases h
      exact X.iret (ty := .int) dL_chosen_13 rfl (by decide) (Nat.le_of_ble_eq_true rfl) (Nat.le_of_ble_eq_true rfl) rfl
    rw [if_neg hE0] at h
    cases h
  refine X.callVq (b := a0) (v := some (.int v1)) (As := []) (st := [.int 0, .ref a1]) (M' := M2) (pc' := 6) dL_chosen_3 rfl cl_L_66 mi_X10_chosen me_X10_chosen mr_X10_chosen e4 ⟨⟨Nat.le_of_ble_eq_true rfl, Nat.le_of_ble_eq_true rfl⟩, Nat.le_of_ble_eq_true rfl, Nat.le_of_ble_eq_true rfl⟩ rfl (Nat.le_of_ble_eq_true rfl) (ok_X10_chosen (G := zs G) (hz := hz) e3) ?_
  show X G t_L_chosen [(0, 8, 11, 69)] 6 [some (.ref a0), some (.ref a1), none] [.int v1, .int 0, .ref a1] M2 1 6 _
  refine X.i2l (pc' := 7) dL_chosen_6 rfl ?_
  obtain ⟨M7, e6, h⟩ := bindE h
  refine X.last (pc' := 8) dL_chosen_7 rfl e6 ?_
  refine X.goto (pc' := 14) dL_chosen_8 (by decide) ?_
  refine X.iconst (v := 0) (pc' := 15) dL_chosen_14 rfl (by decide) ?_
  cases h
  exact X.iret (ty := .int) dL_chosen_15 rfl (by decide) (Nat.le_of_ble_eq_true rfl) (Nat.le_of_ble_eq_true rfl) rfl
def f_L_beats (fu : Nat) (a0 : Nat) (a1 : Int32) (a2 : Int32) (a3 : Nat) (M : List Ob) : Option (Int32 × List Ob) :=
  (hasO M a0 10).bind fun _ =>
  bdW (f_X10_beats fu a0 a1 a2 M) (fun v1 M2 =>
  if v1 = 0 then ((aSet M2 a3 17 0 (.long 0)).bind fun M7 =>
  some (0, M7))
  else ((aSet M2 a3 17 0 (.long 1)).bind fun M9 =>
  some (0, M9)))
  (fun E5 M2 => if E5 = "java/lang/IndexOutOfBoundsException" then (some (1, M2))
  else none)
set_option maxHeartbeats 4000000 in
theorem ok_L_beats {G : GT} (hz : gZ G = false) {fu : Nat} {a0 : Nat} {a1 : Int32} {a2 : Int32} {a3 : Nat} {M : List Ob} {out : Int32 × List Ob} (h : f_L_beats fu a0 a1 a2 a3 M = some out) : SpW G t_L_beats [(0, 17, 20, 28)] [.ref a0, .int a1, .int a2, .ref a3] M (oI out) := by
  refine SpW.of rfl (by decide +kernel) (cat_all rfl) (Nat.le_of_ble_eq_true rfl) ?_
  show X G t_L_beats [(0, 17, 20, 28)] 0 [some (.ref a0), some (.int a1), some (.int a2), some (.ref a3), none] [] M 0 0 (oI out)
  unfold f_L_beats at h
  refine X.aload_n (x := a3) (pc' := 1) dL_beats_0 rfl rfl rfl ?_
  refine X.iconst (v := 0) (pc' := 2) dL_beats_1 rfl (by decide) ?_
  refine X.aload_n (x := a0) (pc' := 3) dL_beats_2 rfl rfl rfl ?_
  refine X.iload_n (x := a1) (pc' := 4) dL_beats_3 rfl rfl rfl ?_
  refine X.iload_n (x := a2) (pc' := 5) dL_beats_4 rfl rfl rfl ?_
  obtain ⟨⟨⟩, e4, h⟩ := bindE h
  rcases bdWE h with ⟨v1, M2, e3, h⟩ | ⟨E5, M2, e3, h⟩
  rotate_left
  · -- thrown
    by_cases hE0 : E5 = "java/lang/IndexOutOfBoundsException"
    · rw [if_pos hE0] at h
      subst hE0
      refine X.callVh (b := a0) (E := "java/lang/IndexOutOfBoundsException") (As := [.int a1, .int a2]) (st := [.int 0, .ref a3]) (M' := M2) (i := 4) (pc2 := 22) (L' := [some (.ref a0), some (.int a1), some (.int a2), some (.ref a3), none]) (pre := []) (x := ⟨0, 17, 20, 28⟩) (suf := []) dL_beats_5 cl_L_71 mi_X10_beats me_X10_beats mr_X10_beats e4 ⟨⟨Nat.le_of_ble_eq_true rfl, Nat.le_of_ble_eq_true rfl⟩, Nat.le_of_ble_eq_true rfl, Nat.le_of_ble_eq_true rfl⟩ rfl (Nat.le_of_ble_eq_true rfl) hz (ok_X10_beats (G := zs G) (hz := hz) e3) rfl pass_nil rfl (by decide) (TBg_of 825 (by decide +kernel) rfl) (by decide +kernel) (Or.inl ⟨dL_beats_20, rfl⟩) (by decide) rfl ?_
      show X G t_L_beats [(0, 17, 20, 28)] 22 [some (.ref a0), some (.int a1), some (.int a2), some (.ref a3), none] [] M2 2 12 _
      refine X.iconst (v := 1) (pc' := 23) dL_beats_22 rfl (by decide) ?_
      cases h
      exact X.iret (ty := .int) dL_beats_23 rfl (by decide) (Nat.le_of_ble_eq_true rfl) (Nat.le_of_ble_eq_true rfl) rfl
    rw [if_neg hE0] at h
    cases h
  refine X.callVq (b := a0) (v := some (.int v1)) (As := [.int a1, .int a2]) (st := [.int 0, .ref a3]) (M' := M2) (pc' := 8) dL_beats_5 rfl cl_L_71 mi_X10_beats me_X10_beats mr_X10_beats e4 ⟨⟨Nat.le_of_ble_eq_true rfl, Nat.le_of_ble_eq_true rfl⟩, Nat.le_of_ble_eq_true rfl, Nat.le_of_ble_eq_true rfl⟩ rfl (Nat.le_of_ble_eq_true rfl) (ok_X10_beats (G := zs G) (hz := hz) e3) ?_
  show X G t_L_beats [(0, 17, 20, 28)] 8 [some (.ref a0), some (.int a1), some (.int a2), some (.ref a3), none] [.int v1, .int 0, .ref a3] M2 2 12 _
  refine X.if_eq (tgt := 15) (pc' := 11) dL_beats_8 (by decide) rfl (fun hc => ?_) (fun hc => ?_)
  · rw [if_pos hc] at h
    refine X.lconst (v := 0) (pc' := 16) dL_beats_15 rfl (by decide) ?_
    obtain ⟨M7, e6, h⟩ := bindE h
    refine X.last (pc' := 17) dL_beats_16 rfl e6 ?_
    refine X.goto (pc' := 24) dL_beats_17 (by decide) ?_
    refine X.iconst (v := 0) (pc' := 25) dL_beats_24 rfl (by decide) ?_
    cases h
    exact X.iret (ty := .int) dL_beats_25 rfl (by decide) (Nat.le_of_ble_eq_true rfl) (Nat.le_of_ble_eq_true rfl) rfl
  · rw [if_neg hc] at h
    refine X.lconst (v := 1) (pc' := 12) dL_beats_11 rfl (by decide) ?_
    refine X.goto (pc' := 16) dL_beats_12 (by decide) ?_
    obtain ⟨M9, e8, h⟩ := bindE h
    refine X.last (pc' := 17) dL_beats_16 rfl e8 ?_
    refine X.goto (pc' := 24) dL_beats_17 (by decide) ?_
    refine X.iconst (v := 0) (pc' := 25) dL_beats_24 rfl (by decide) ?_
    cases h
    exact X.iret (ty := .int) dL_beats_25 rfl (by decide) (Nat.le_of_ble_eq_true rfl) (Nat.le_of_ble_eq_true rfl) rfl
def f_L_strain (fu : Nat) (a0 : Nat) (a1 : Int32) (a2 : Nat) (M : List Ob) : Option (Int32 × List Ob) :=
  (hasO M a0 10).bind fun _ =>
  bdW (f_X10_strain fu a0 a1 M) (fun r1 M2 =>
  if (FP.f2d r1) &&& 0x7fffffffffffffff ≤ 0x7ff0000000000000 then
  ((aSet M2 a2 18 0 (.double (FP.f2d r1))).bind fun M7 =>
  some (0, M7))
  else none)
  (fun E5 M2 => if E5 = "java/lang/IndexOutOfBoundsException" then (some (1, M2))
  else none)
set_option maxHeartbeats 4000000 in
theorem ok_L_strain {G : GT} (hz : gZ G = false) {fu : Nat} {a0 : Nat} {a1 : Int32} {a2 : Nat} {M : List Ob} {out : Int32 × List Ob} (h : f_L_strain fu a0 a1 a2 M = some out) : SpW G t_L_strain [(0, 9, 12, 28)] [.ref a0, .int a1, .ref a2] M (oI out) := by
  refine SpW.of rfl (by decide +kernel) (cat_all rfl) (Nat.le_of_ble_eq_true rfl) ?_
  show X G t_L_strain [(0, 9, 12, 28)] 0 [some (.ref a0), some (.int a1), some (.ref a2), none] [] M 0 0 (oI out)
  unfold f_L_strain at h
  refine X.aload_n (x := a2) (pc' := 1) dL_strain_0 rfl rfl rfl ?_
  refine X.iconst (v := 0) (pc' := 2) dL_strain_1 rfl (by decide) ?_
  refine X.aload_n (x := a0) (pc' := 3) dL_strain_2 rfl rfl rfl ?_
  refine X.iload_n (x := a1) (pc' := 4) dL_strain_3 rfl rfl rfl ?_
  obtain ⟨⟨⟩, e4, h⟩ := bindE h
  rcases bdWE h with ⟨r1, M2, e3, h⟩ | ⟨E5, M2, e3, h⟩
  rotate_left
  · -- thrown
    by_cases hE0 : E5 = "java/lang/IndexOutOfBoundsException"
    · rw [if_pos hE0] at h
      subst hE0
      refine X.callVh (b := a0) (E := "java/lang/IndexOutOfBoundsException") (As := [.int a1]) (st := [.int 0, .ref a2]) (M' := M2) (i := 3) (pc2 := 13) (L' := [some (.ref a0), some (.int a1), some (.ref a2), none]) (pre := []) (x := ⟨0, 9, 12, 28⟩) (suf := []) dL_strain_4 cl_L_75 mi_X10_strain me_X10_strain mr_X10_strain e4 ⟨⟨Nat.le_of_ble_eq_true rfl, Nat.le_of_ble_eq_true rfl⟩, Nat.le_of_ble_eq_true rfl, Nat.le_of_ble_eq_true rfl⟩ rfl (Nat.le_of_ble_eq_true rfl) hz (ok_X10_strain (G := zs G) (hz := hz) e3) rfl pass_nil rfl (by decide) (TBg_of 825 (by decide +kernel) rfl) (by decide +kernel) (Or.inr ⟨_, dL_strain_12, rfl, rfl⟩) (by decide) rfl ?_
      show X G t_L_strain [(0, 9, 12, 28)] 13 [some (.ref a0), some (.int a1), some (.ref a2), none] [] M2 1 6 _
      refine X.iconst (v := 1) (pc' := 14) dL_strain_13 rfl (by decide) ?_
      cases h
      exact X.iret (ty := .int) dL_strain_14 rfl (by decide) (Nat.le_of_ble_eq_true rfl) (Nat.le_of_ble_eq_true rfl) rfl
    rw [if_neg hE0] at h
    cases h
  refine X.callVq (b := a0) (v := some (.float r1)) (As := [.int a1]) (st := [.int 0, .ref a2]) (M' := M2) (pc' := 7) dL_strain_4 rfl cl_L_75 mi_X10_strain me_X10_strain mr_X10_strain e4 ⟨⟨Nat.le_of_ble_eq_true rfl, Nat.le_of_ble_eq_true rfl⟩, Nat.le_of_ble_eq_true rfl, Nat.le_of_ble_eq_true rfl⟩ rfl (Nat.le_of_ble_eq_true rfl) (ok_X10_strain (G := zs G) (hz := hz) e3) ?_
  show X G t_L_strain [(0, 9, 12, 28)] 7 [some (.ref a0), some (.int a1), some (.ref a2), none] [.float r1, .int 0, .ref a2] M2 1 6 _
  split at h
  rotate_left
  · cases h
  rename_i hn9
  refine X.f2d (pc' := 8) dL_strain_7 rfl hn9 ?_
  obtain ⟨M7, e6, h⟩ := bindE h
  refine X.dast (pc' := 9) dL_strain_8 rfl e6 ?_
  refine X.goto (pc' := 15) dL_strain_9 (by decide) ?_
  refine X.iconst (v := 0) (pc' := 16) dL_strain_15 rfl (by decide) ?_
  cases h
  exact X.iret (ty := .int) dL_strain_16 rfl (by decide) (Nat.le_of_ble_eq_true rfl) (Nat.le_of_ble_eq_true rfl) rfl
def f_L_shortest (fu : Nat) (a0 : Nat) (a1 : Int32) (a2 : Nat) (M : List Ob) : Option (Int32 × List Ob) :=
  (hasO M a0 10).bind fun _ =>
  bdW (f_X10_shortest fu a0 a1 M) (fun v1 M2 =>
  (aSet M2 a2 17 0 (.long ((v1 : Int32).toInt64))).bind fun M7 =>
  some (0, M7))
  (fun E5 M2 => if E5 = "java/util/NoSuchElementException" then (some (1, M2))
  else none)
set_option maxHeartbeats 4000000 in
theorem ok_L_shortest {G : GT} (hz : gZ G = false) {fu : Nat} {a0 : Nat} {a1 : Int32} {a2 : Nat} {M : List Ob} {out : Int32 × List Ob} (h : f_L_shortest fu a0 a1 a2 M = some out) : SpW G t_L_shortest [(0, 9, 12, 69)] [.ref a0, .int a1, .ref a2] M (oI out) := by
  refine SpW.of rfl (by decide +kernel) (cat_all rfl) (Nat.le_of_ble_eq_true rfl) ?_
  show X G t_L_shortest [(0, 9, 12, 69)] 0 [some (.ref a0), some (.int a1), some (.ref a2), none] [] M 0 0 (oI out)
  unfold f_L_shortest at h
  refine X.aload_n (x := a2) (pc' := 1) dL_shortest_0 rfl rfl rfl ?_
  refine X.iconst (v := 0) (pc' := 2) dL_shortest_1 rfl (by decide) ?_
  refine X.aload_n (x := a0) (pc' := 3) dL_shortest_2 rfl rfl rfl ?_
  refine X.iload_n (x := a1) (pc' := 4) dL_shortest_3 rfl rfl rfl ?_
  obtain ⟨⟨⟩, e4, h⟩ := bindE h
  rcases bdWE h with ⟨v1, M2, e3, h⟩ | ⟨E5, M2, e3, h⟩
  rotate_left
  · -- thrown
    by_cases hE0 : E5 = "java/util/NoSuchElementException"
    · rw [if_pos hE0] at h
      subst hE0
      refine X.callVh (b := a0) (E := "java/util/NoSuchElementException") (As := [.int a1]) (st := [.int 0, .ref a2]) (M' := M2) (i := 3) (pc2 := 13) (L' := [some (.ref a0), some (.int a1), some (.ref a2), none]) (pre := []) (x := ⟨0, 9, 12, 69⟩) (suf := []) dL_shortest_4 cl_L_79 mi_X10_shortest me_X10_shortest mr_X10_shortest e4 ⟨⟨Nat.le_of_ble_eq_true rfl, Nat.le_of_ble_eq_true rfl⟩, Nat.le_of_ble_eq_true rfl, Nat.le_of_ble_eq_true rfl⟩ rfl (Nat.le_of_ble_eq_true rfl) hz (ok_X10_shortest (G := zs G) (hz := hz) e3) rfl pass_nil rfl (by decide) (TBg_of 1056 (by decide +kernel) rfl) (by decide +kernel) (Or.inr ⟨_, dL_shortest_12, rfl, rfl⟩) (by decide) rfl ?_
      show X G t_L_shortest [(0, 9, 12, 69)] 13 [some (.ref a0), some (.int a1), some (.ref a2), none] [] M2 1 6 _
      refine X.iconst (v := 1) (pc' := 14) dL_shortest_13 rfl (by decide) ?_
      cases h
      exact X.iret (ty := .int) dL_shortest_14 rfl (by decide) (Nat.le_of_ble_eq_true rfl) (Nat.le_of_ble_eq_true rfl) rfl
    rw [if_neg hE0] at h
    cases h
  refine X.callVq (b := a0) (v := some (.int v1)) (As := [.int a1]) (st := [.int 0, .ref a2]) (M' := M2) (pc' := 7) dL_shortest_4 rfl cl_L_79 mi_X10_shortest me_X10_shortest mr_X10_shortest e4 ⟨⟨Nat.le_of_ble_eq_true rfl, Nat.le_of_ble_eq_true rfl⟩, Nat.le_of_ble_eq_true rfl, Nat.le_of_ble_eq_true rfl⟩ rfl (Nat.le_of_ble_eq_true rfl) (ok_X10_shortest (G := zs G) (hz := hz) e3) ?_
  show X G t_L_shortest [(0, 9, 12, 69)] 7 [some (.ref a0), some (.int a1), some (.ref a2), none] [.int v1, .int 0, .ref a2] M2 1 6 _
  refine X.i2l (pc' := 8) dL_shortest_7 rfl ?_
  obtain ⟨M7, e6, h⟩ := bindE h
  refine X.last (pc' := 9) dL_shortest_8 rfl e6 ?_
  refine X.goto (pc' := 15) dL_shortest_9 (by decide) ?_
  refine X.iconst (v := 0) (pc' := 16) dL_shortest_15 rfl (by decide) ?_
  cases h
  exact X.iret (ty := .int) dL_shortest_16 rfl (by decide) (Nat.le_of_ble_eq_true rfl) (Nat.le_of_ble_eq_true rfl) rfl
def f_L_robust (fu : Nat) (a0 : Nat) (a1 : Int32) (a2 : Nat) (M : List Ob) : Option (Int32 × List Ob) :=
  (hasO M a0 10).bind fun _ =>
  bdW (f_X10_robust fu a0 a1 M) (fun v1 M2 =>
  (aSet M2 a2 17 0 (.long ((v1 : Int32).toInt64))).bind fun M7 =>
  some (0, M7))
  (fun E5 M2 => if E5 = "java/lang/IllegalArgumentException" then (some (1, M2))
  else if E5 = "java/util/NoSuchElementException" then (some (2, M2))
  else none)
set_option maxHeartbeats 4000000 in
theorem ok_L_robust {G : GT} (hz : gZ G = false) {fu : Nat} {a0 : Nat} {a1 : Int32} {a2 : Nat} {M : List Ob} {out : Int32 × List Ob} (h : f_L_robust fu a0 a1 a2 M = some out) : SpW G t_L_robust [(0, 9, 12, 19), (0, 9, 15, 69)] [.ref a0, .int a1, .ref a2] M (oI out) := by
  refine SpW.of rfl (by decide +kernel) (cat_all rfl) (Nat.le_of_ble_eq_true rfl) ?_
  show X G t_L_robust [(0, 9, 12, 19), (0, 9, 15, 69)] 0 [some (.ref a0), some (.int a1), some (.ref a2), none] [] M 0 0 (oI out)
  unfold f_L_robust at h
  refine X.aload_n (x := a2) (pc' := 1) dL_robust_0 rfl rfl rfl ?_
  refine X.iconst (v := 0) (pc' := 2) dL_robust_1 rfl (by decide) ?_
  refine X.aload_n (x := a0) (pc' := 3) dL_robust_2 rfl rfl rfl ?_
  refine X.iload_n (x := a1) (pc' := 4) dL_robust_3 rfl rfl rfl ?_
  obtain ⟨⟨⟩, e4, h⟩ := bindE h
  rcases bdWE h with ⟨v1, M2, e3, h⟩ | ⟨E5, M2, e3, h⟩
  rotate_left
  · -- thrown
    by_cases hE0 : E5 = "java/lang/IllegalArgumentException"
    · rw [if_pos hE0] at h
      subst hE0
      refine X.callVh (b := a0) (E := "java/lang/IllegalArgumentException") (As := [.int a1]) (st := [.int 0, .ref a2]) (M' := M2) (i := 3) (pc2 := 13) (L' := [some (.ref a0), some (.int a1), some (.ref a2), none]) (pre := []) (x := ⟨0, 9, 12, 19⟩) (suf := [⟨0, 9, 15, 69⟩]) dL_robust_4 cl_L_82 mi_X10_robust me_X10_robust mr_X10_robust e4 ⟨⟨Nat.le_of_ble_eq_true rfl, Nat.le_of_ble_eq_true rfl⟩, Nat.le_of_ble_eq_true rfl, Nat.le_of_ble_eq_true rfl⟩ rfl (Nat.le_of_ble_eq_true rfl) hz (ok_X10_robust (G := zs G) (hz := hz) e3) rfl pass_nil rfl (by decide) (TBg_of 643 (by decide +kernel) rfl) (by decide +kernel) (Or.inr ⟨_, dL_robust_12, rfl, rfl⟩) (by decide) rfl ?_
      show X G t_L_robust [(0, 9, 12, 19), (0, 9, 15, 69)] 13 [some (.ref a0), some (.int a1), some (.ref a2), none] [] M2 2 12 _
      refine X.iconst (v := 1) (pc' := 14) dL_robust_13 rfl (by decide) ?_
      cases h
      exact X.iret (ty := .int) dL_robust_14 rfl (by decide) (Nat.le_of_ble_eq_true rfl) (Nat.le_of_ble_eq_true rfl) rfl
    rw [if_neg hE0] at h
    by_cases hE1 : E5 = "java/util/NoSuchElementException"
    · rw [if_pos hE1] at h
      subst hE1
      refine X.callVh (b := a0) (E := "java/util/NoSuchElementException") (As := [.int a1]) (st := [.int 0, .ref a2]) (M' := M2) (i := 3) (pc2 := 16) (L' := [some (.ref a0), some (.int a1), some (.ref a2), none]) (pre := [⟨0, 9, 12, 19⟩]) (x := ⟨0, 9, 15, 69⟩) (suf := []) dL_robust_4 cl_L_82 mi_X10_robust me_X10_robust mr_X10_robust e4 ⟨⟨Nat.le_of_ble_eq_true rfl, Nat.le_of_ble_eq_true rfl⟩, Nat.le_of_ble_eq_true rfl, Nat.le_of_ble_eq_true rfl⟩ rfl (Nat.le_of_ble_eq_true rfl) hz (ok_X10_robust (G := zs G) (hz := hz) e3) rfl (pass_cons ⟨by decide, "java/lang/IllegalArgumentException", TBg_of 643 (by decide +kernel) rfl, by decide +kernel⟩ pass_nil) rfl (by decide) (TBg_of 1056 (by decide +kernel) rfl) (by decide +kernel) (Or.inr ⟨_, dL_robust_15, rfl, rfl⟩) (by decide) rfl ?_
      show X G t_L_robust [(0, 9, 12, 19), (0, 9, 15, 69)] 16 [some (.ref a0), some (.int a1), some (.ref a2), none] [] M2 2 12 _
      refine X.iconst (v := 2) (pc' := 17) dL_robust_16 rfl (by decide) ?_
      cases h
      exact X.iret (ty := .int) dL_robust_17 rfl (by decide) (Nat.le_of_ble_eq_true rfl) (Nat.le_of_ble_eq_true rfl) rfl
    rw [if_neg hE1] at h
    cases h
  refine X.callVq (b := a0) (v := some (.int v1)) (As := [.int a1]) (st := [.int 0, .ref a2]) (M' := M2) (pc' := 7) dL_robust_4 rfl cl_L_82 mi_X10_robust me_X10_robust mr_X10_robust e4 ⟨⟨Nat.le_of_ble_eq_true rfl, Nat.le_of_ble_eq_true rfl⟩, Nat.le_of_ble_eq_true rfl, Nat.le_of_ble_eq_true rfl⟩ rfl (Nat.le_of_ble_eq_true rfl) (ok_X10_robust (G := zs G) (hz := hz) e3) ?_
  show X G t_L_robust [(0, 9, 12, 19), (0, 9, 15, 69)] 7 [some (.ref a0), some (.int a1), some (.ref a2), none] [.int v1, .int 0, .ref a2] M2 2 12 _
  refine X.i2l (pc' := 8) dL_robust_7 rfl ?_
  obtain ⟨M7, e6, h⟩ := bindE h
  refine X.last (pc' := 9) dL_robust_8 rfl e6 ?_
  refine X.goto (pc' := 18) dL_robust_9 (by decide) ?_
  refine X.iconst (v := 0) (pc' := 19) dL_robust_18 rfl (by decide) ?_
  cases h
  exact X.iret (ty := .int) dL_robust_19 rfl (by decide) (Nat.le_of_ble_eq_true rfl) (Nat.le_of_ble_eq_true rfl) rfl
def f_L_calm (fu : Nat) (a0 : Nat) (a1 : Int32) (a2 : Nat) (M : List Ob) : Option (Int32 × List Ob) :=
  (hasO M a0 10).bind fun _ =>
  bdW (f_X10_calm fu a0 a1 M) (fun v1 M2 =>
  (aSet M2 a2 17 0 (.long ((v1 : Int32).toInt64))).bind fun M7 =>
  some (0, M7))
  (fun E5 M2 => if E5 = "java/lang/IllegalArgumentException" then (some (1, M2))
  else if E5 = "java/util/NoSuchElementException" then (some (2, M2))
  else none)
set_option maxHeartbeats 4000000 in
theorem ok_L_calm {G : GT} (hz : gZ G = false) {fu : Nat} {a0 : Nat} {a1 : Int32} {a2 : Nat} {M : List Ob} {out : Int32 × List Ob} (h : f_L_calm fu a0 a1 a2 M = some out) : SpW G t_L_calm [(0, 9, 12, 19), (0, 9, 15, 69)] [.ref a0, .int a1, .ref a2] M (oI out) := by
  refine SpW.of rfl (by decide +kernel) (cat_all rfl) (Nat.le_of_ble_eq_true rfl) ?_
  show X G t_L_calm [(0, 9, 12, 19), (0, 9, 15, 69)] 0 [some (.ref a0), some (.int a1), some (.ref a2), none] [] M 0 0 (oI out)
  unfold f_L_calm at h
  refine X.aload_n (x := a2) (pc' := 1) dL_calm_0 rfl rfl rfl ?_
  refine X.iconst (v := 0) (pc' := 2) dL_calm_1 rfl (by decide) ?_
  refine X.aload_n (x := a0) (pc' := 3) dL_calm_2 rfl rfl rfl ?_
  refine X.iload_n (x := a1) (pc' := 4) dL_calm_3 rfl rfl rfl ?_
  obtain ⟨⟨⟩, e4, h⟩ := bindE h
  rcases bdWE h with ⟨v1, M2, e3, h⟩ | ⟨E5, M2, e3, h⟩
  rotate_left
  · -- thrown
    by_cases hE0 : E5 = "java/lang/IllegalArgumentException"
    · rw [if_pos hE0] at h
      subst hE0
      refine X.callVh (b := a0) (E := "java/lang/IllegalArgumentException") (As := [.int a1]) (st := [.int 0, .ref a2]) (M' := M2) (i := 3) (pc2 := 13) (L' := [some (.ref a0), some (.int a1), some (.ref a2), none]) (pre := []) (x := ⟨0, 9, 12, 19⟩) (suf := [⟨0, 9, 15, 69⟩]) dL_calm_4 cl_L_85 mi_X10_calm me_X10_calm mr_X10_calm e4 ⟨⟨Nat.le_of_ble_eq_true rfl, Nat.le_of_ble_eq_true rfl⟩, Nat.le_of_ble_eq_true rfl, Nat.le_of_ble_eq_true rfl⟩ rfl (Nat.le_of_ble_eq_true rfl) hz (ok_X10_calm (G := zs G) (hz := hz) e3) rfl pass_nil rfl (by decide) (TBg_of 643 (by decide +kernel) rfl) (by decide +kernel) (Or.inr ⟨_, dL_calm_12, rfl, rfl⟩) (by decide) rfl ?_
      show X G t_L_calm [(0, 9, 12, 19), (0, 9, 15, 69)] 13 [some (.ref a0), some (.int a1), some (.ref a2), none] [] M2 2 12 _
      refine X.iconst (v := 1) (pc' := 14) dL_calm_13 rfl (by decide) ?_
      cases h
      exact X.iret (ty := .int) dL_calm_14 rfl (by decide) (Nat.le_of_ble_eq_true rfl) (Nat.le_of_ble_eq_true rfl) rfl
    rw [if_neg hE0] at h
    by_cases hE1 : E5 = "java/util/NoSuchElementException"
    · rw [if_pos hE1] at h
      subst hE1
      refine X.callVh (b := a0) (E := "java/util/NoSuchElementException") (As := [.int a1]) (st := [.int 0, .ref a2]) (M' := M2) (i := 3) (pc2 := 16) (L' := [some (.ref a0), some (.int a1), some (.ref a2), none]) (pre := [⟨0, 9, 12, 19⟩]) (x := ⟨0, 9, 15, 69⟩) (suf := []) dL_calm_4 cl_L_85 mi_X10_calm me_X10_calm mr_X10_calm e4 ⟨⟨Nat.le_of_ble_eq_true rfl, Nat.le_of_ble_eq_true rfl⟩, Nat.le_of_ble_eq_true rfl, Nat.le_of_ble_eq_true rfl⟩ rfl (Nat.le_of_ble_eq_true rfl) hz (ok_X10_calm (G := zs G) (hz := hz) e3) rfl (pass_cons ⟨by decide, "java/lang/IllegalArgumentException", TBg_of 643 (by decide +kernel) rfl, by decide +kernel⟩ pass_nil) rfl (by decide) (TBg_of 1056 (by decide +kernel) rfl) (by decide +kernel) (Or.inr ⟨_, dL_calm_15, rfl, rfl⟩) (by decide) rfl ?_
      show X G t_L_calm [(0, 9, 12, 19), (0, 9, 15, 69)] 16 [some (.ref a0), some (.int a1), some (.ref a2), none] [] M2 2 12 _
      refine X.iconst (v := 2) (pc' := 17) dL_calm_16 rfl (by decide) ?_
      cases h
      exact X.iret (ty := .int) dL_calm_17 rfl (by decide) (Nat.le_of_ble_eq_true rfl) (Nat.le_of_ble_eq_true rfl) rfl
    rw [if_neg hE1] at h
    cases h
  refine X.callVq (b := a0) (v := some (.int v1)) (As := [.int a1]) (st := [.int 0, .ref a2]) (M' := M2) (pc' := 7) dL_calm_4 rfl cl_L_85 mi_X10_calm me_X10_calm mr_X10_calm e4 ⟨⟨Nat.le_of_ble_eq_true rfl, Nat.le_of_ble_eq_true rfl⟩, Nat.le_of_ble_eq_true rfl, Nat.le_of_ble_eq_true rfl⟩ rfl (Nat.le_of_ble_eq_true rfl) (ok_X10_calm (G := zs G) (hz := hz) e3) ?_
  show X G t_L_calm [(0, 9, 12, 19), (0, 9, 15, 69)] 7 [some (.ref a0), some (.int a1), some (.ref a2), none] [.int v1, .int 0, .ref a2] M2 2 12 _
  refine X.i2l (pc' := 8) dL_calm_7 rfl ?_
  obtain ⟨M7, e6, h⟩ := bindE h
  refine X.last (pc' := 9) dL_calm_8 rfl e6 ?_
  refine X.goto (pc' := 18) dL_calm_9 (by decide) ?_
  refine X.iconst (v := 0) (pc' := 19) dL_calm_18 rfl (by decide) ?_
  cases h
  exact X.iret (ty := .int) dL_calm_19 rfl (by decide) (Nat.le_of_ble_eq_true rfl) (Nat.le_of_ble_eq_true rfl) rfl
def f_L_bestArc (fu : Nat) (a0 : Nat) (a1 : Int32) (a2 : Int32) (a3 : Nat) (M : List Ob) : Option (Int32 × List Ob) :=
  (hasO M a0 10).bind fun _ =>
  bdW (f_X10_bestArc fu a0 a1 a2 M) (fun v1 M2 =>
  (aSet M2 a3 17 0 (.long ((v1 : Int32).toInt64))).bind fun M7 =>
  some (0, M7))
  (fun E5 M2 => if E5 = "java/lang/IndexOutOfBoundsException" then (some (1, M2))
  else none)
set_option maxHeartbeats 4000000 in
theorem ok_L_bestArc {G : GT} (hz : gZ G = false) {fu : Nat} {a0 : Nat} {a1 : Int32} {a2 : Int32} {a3 : Nat} {M : List Ob} {out : Int32 × List Ob} (h : f_L_bestArc fu a0 a1 a2 a3 M = some out) : SpW G t_L_bestArc [(0, 10, 13, 28)] [.ref a0, .int a1, .int a2, .ref a3] M (oI out) := by
  refine SpW.of rfl (by decide +kernel) (cat_all rfl) (Nat.le_of_ble_eq_true rfl) ?_
  show X G t_L_bestArc [(0, 10, 13, 28)] 0 [some (.ref a0), some (.int a1), some (.int a2), some (.ref a3), none] [] M 0 0 (oI out)
  unfold f_L_bestArc at h
  refine X.aload_n (x := a3) (pc' := 1) dL_bestArc_0 rfl rfl rfl ?_
  refine X.iconst (v := 0) (pc' := 2) dL_bestArc_1 rfl (by decide) ?_
  refine X.aload_n (x := a0) (pc' := 3) dL_bestArc_2 rfl rfl rfl ?_
  refine X.iload_n (x := a1) (pc' := 4) dL_bestArc_3 rfl rfl rfl ?_
  refine X.iload_n (x := a2) (pc' := 5) dL_bestArc_4 rfl rfl rfl ?_
  obtain ⟨⟨⟩, e4, h⟩ := bindE h
  rcases bdWE h with ⟨v1, M2, e3, h⟩ | ⟨E5, M2, e3, h⟩
  rotate_left
  · -- thrown
    by_cases hE0 : E5 = "java/lang/IndexOutOfBoundsException"
    · rw [if_pos hE0] at h
      subst hE0
      refine X.callVh (b := a0) (E := "java/lang/IndexOutOfBoundsException") (As := [.int a1, .int a2]) (st := [.int 0, .ref a3]) (M' := M2) (i := 4) (pc2 := 15) (L' := [some (.ref a0), some (.int a1), some (.int a2), some (.ref a3), none]) (pre := []) (x := ⟨0, 10, 13, 28⟩) (suf := []) dL_bestArc_5 cl_L_88 mi_X10_bestArc me_X10_bestArc mr_X10_bestArc e4 ⟨⟨Nat.le_of_ble_eq_true rfl, Nat.le_of_ble_eq_true rfl⟩, Nat.le_of_ble_eq_true rfl, Nat.le_of_ble_eq_true rfl⟩ rfl (Nat.le_of_ble_eq_true rfl) hz (ok_X10_bestArc (G := zs G) (hz := hz) e3) rfl pass_nil rfl (by decide) (TBg_of 825 (by decide +kernel) rfl) (by decide +kernel) (Or.inl ⟨dL_bestArc_13, rfl⟩) (by decide) rfl ?_
      show X G t_L_bestArc [(0, 10, 13, 28)] 15 [some (.ref a0), some (.int a1), some (.int a2), some (.ref a3), none] [] M2 1 6 _
      refine X.iconst (v := 1) (pc' := 16) dL_bestArc_15 rfl (by decide) ?_
      cases h
      exact X.iret (ty := .int) dL_bestArc_16 rfl (by decide) (Nat.le_of_ble_eq_true rfl) (Nat.le_of_ble_eq_true rfl) rfl
    rw [if_neg hE0] at h
    cases h
  refine X.callVq (b := a0) (v := some (.int v1)) (As := [.int a1, .int a2]) (st := [.int 0, .ref a3]) (M' := M2) (pc' := 8) dL_bestArc_5 rfl cl_L_88 mi_X10_bestArc me_X10_bestArc mr_X10_bestArc e4 ⟨⟨Nat.le_of_ble_eq_true rfl, Nat.le_of_ble_eq_true rfl⟩, Nat.le_of_ble_eq_true rfl, Nat.le_of_ble_eq_true rfl⟩ rfl (Nat.le_of_ble_eq_true rfl) (ok_X10_bestArc (G := zs G) (hz := hz) e3) ?_
  show X G t_L_bestArc [(0, 10, 13, 28)] 8 [some (.ref a0), some (.int a1), some (.int a2), some (.ref a3), none] [.int v1, .int 0, .ref a3] M2 1 6 _
  refine X.i2l (pc' := 9) dL_bestArc_8 rfl ?_
  obtain ⟨M7, e6, h⟩ := bindE h
  refine X.last (pc' := 10) dL_bestArc_9 rfl e6 ?_
  refine X.goto (pc' := 17) dL_bestArc_10 (by decide) ?_
  refine X.iconst (v := 0) (pc' := 18) dL_bestArc_17 rfl (by decide) ?_
  cases h
  exact X.iret (ty := .int) dL_bestArc_18 rfl (by decide) (Nat.le_of_ble_eq_true rfl) (Nat.le_of_ble_eq_true rfl) rfl
def f_L_value (fu : Nat) (a0 : Nat) (a1 : Int32) (a2 : Int32) (a3 : Nat) (M : List Ob) : Option (Int32 × List Ob) :=
  (hasO M a0 10).bind fun _ =>
  bdW (f_X10_value fu a0 a1 a2 M) (fun v1 M2 =>
  (aSet M2 a3 17 0 (.long ((v1 : Int32).toInt64))).bind fun M7 =>
  some (0, M7))
  (fun E5 M2 => if E5 = "java/lang/IndexOutOfBoundsException" then (some (1, M2))
  else if E5 = "java/lang/IllegalArgumentException" then (some (2, M2))
  else none)
set_option maxHeartbeats 4000000 in
theorem ok_L_value {G : GT} (hz : gZ G = false) {fu : Nat} {a0 : Nat} {a1 : Int32} {a2 : Int32} {a3 : Nat} {M : List Ob} {out : Int32 × List Ob} (h : f_L_value fu a0 a1 a2 a3 M = some out) : SpW G t_L_value [(0, 10, 13, 28), (0, 10, 17, 19)] [.ref a0, .int a1, .int a2, .ref a3] M (oI out) := by
  refine SpW.of rfl (by decide +kernel) (cat_all rfl) (Nat.le_of_ble_eq_true rfl) ?_
  show X G t_L_value [(0, 10, 13, 28), (0, 10, 17, 19)] 0 [some (.ref a0), some (.int a1), some (.int a2), some (.ref a3), none] [] M 0 0 (oI out)
  unfold f_L_value at h
  refine X.aload_n (x := a3) (pc' := 1) dL_value_0 rfl rfl rfl ?_
  refine X.iconst (v := 0) (pc' := 2) dL_value_1 rfl (by decide) ?_
  refine X.aload_n (x := a0) (pc' := 3) dL_value_2 rfl rfl rfl ?_
  refine X.iload_n (x := a1) (pc' := 4) dL_value_3 rfl rfl rfl ?_
  refine X.iload_n (x := a2) (pc' := 5) dL_value_4 rfl rfl rfl ?_
  obtain ⟨⟨⟩, e4, h⟩ := bindE h
  rcases bdWE h with ⟨v1, M2, e3, h⟩ | ⟨E5, M2, e3, h⟩
  rotate_left
  · -- thrown
    by_cases hE0 : E5 = "java/lang/IndexOutOfBoundsException"
    · rw [if_pos hE0] at h
      subst hE0
      refine X.callVh (b := a0) (E := "java/lang/IndexOutOfBoundsException") (As := [.int a1, .int a2]) (st := [.int 0, .ref a3]) (M' := M2) (i := 4) (pc2 := 15) (L' := [some (.ref a0), some (.int a1), some (.int a2), some (.ref a3), none]) (pre := []) (x := ⟨0, 10, 13, 28⟩) (suf := [⟨0, 10, 17, 19⟩]) dL_value_5 cl_L_92 mi_X10_value me_X10_value mr_X10_value e4 ⟨⟨Nat.le_of_ble_eq_true rfl, Nat.le_of_ble_eq_true rfl⟩, Nat.le_of_ble_eq_true rfl, Nat.le_of_ble_eq_true rfl⟩ rfl (Nat.le_of_ble_eq_true rfl) hz (ok_X10_value (G := zs G) (hz := hz) e3) rfl pass_nil rfl (by decide) (TBg_of 825 (by decide +kernel) rfl) (by decide +kernel) (Or.inl ⟨dL_value_13, rfl⟩) (by decide) rfl ?_
      show X G t_L_value [(0, 10, 13, 28), (0, 10, 17, 19)] 15 [some (.ref a0), some (.int a1), some (.int a2), some (.ref a3), none] [] M2 2 12 _
      refine X.iconst (v := 1) (pc' := 16) dL_value_15 rfl (by decide) ?_
      cases h
      exact X.iret (ty := .int) dL_value_16 rfl (by decide) (Nat.le_of_ble_eq_true rfl) (Nat.le_of_ble_eq_true rfl) rfl
    rw [if_neg hE0] at h
    by_cases hE1 : E5 = "java/lang/IllegalArgumentException"
    · rw [if_pos hE1] at h
      subst hE1
      refine X.callVh (b := a0) (E := "java/lang/IllegalArgumentException") (As := [.int a1, .int a2]) (st := [.int 0, .ref a3]) (M' := M2) (i := 4) (pc2 := 19) (L' := [some (.ref a0), some (.int a1), some (.int a2), some (.ref a3), none]) (pre := [⟨0, 10, 13, 28⟩]) (x := ⟨0, 10, 17, 19⟩) (suf := []) dL_value_5 cl_L_92 mi_X10_value me_X10_value mr_X10_value e4 ⟨⟨Nat.le_of_ble_eq_true rfl, Nat.le_of_ble_eq_true rfl⟩, Nat.le_of_ble_eq_true rfl, Nat.le_of_ble_eq_true rfl⟩ rfl (Nat.le_of_ble_eq_true rfl) hz (ok_X10_value (G := zs G) (hz := hz) e3) rfl (pass_cons ⟨by decide, "java/lang/IndexOutOfBoundsException", TBg_of 825 (by decide +kernel) rfl, by decide +kernel⟩ pass_nil) rfl (by decide) (TBg_of 643 (by decide +kernel) rfl) (by decide +kernel) (Or.inl ⟨dL_value_17, rfl⟩) (by decide) rfl ?_
      show X G t_L_value [(0, 10, 13, 28), (0, 10, 17, 19)] 19 [some (.ref a0), some (.int a1), some (.int a2), some (.ref a3), none] [] M2 2 12 _
      refine X.iconst (v := 2) (pc' := 20) dL_value_19 rfl (by decide) ?_
      cases h
      exact X.iret (ty := .int) dL_value_20 rfl (by decide) (Nat.le_of_ble_eq_true rfl) (Nat.le_of_ble_eq_true rfl) rfl
    rw [if_neg hE1] at h
    cases h
  refine X.callVq (b := a0) (v := some (.int v1)) (As := [.int a1, .int a2]) (st := [.int 0, .ref a3]) (M' := M2) (pc' := 8) dL_value_5 rfl cl_L_92 mi_X10_value me_X10_value mr_X10_value e4 ⟨⟨Nat.le_of_ble_eq_true rfl, Nat.le_of_ble_eq_true rfl⟩, Nat.le_of_ble_eq_true rfl, Nat.le_of_ble_eq_true rfl⟩ rfl (Nat.le_of_ble_eq_true rfl) (ok_X10_value (G := zs G) (hz := hz) e3) ?_
  show X G t_L_value [(0, 10, 13, 28), (0, 10, 17, 19)] 8 [some (.ref a0), some (.int a1), some (.int a2), some (.ref a3), none] [.int v1, .int 0, .ref a3] M2 2 12 _
  refine X.i2l (pc' := 9) dL_value_8 rfl ?_
  obtain ⟨M7, e6, h⟩ := bindE h
  refine X.last (pc' := 10) dL_value_9 rfl e6 ?_
  refine X.goto (pc' := 21) dL_value_10 (by decide) ?_
  refine X.iconst (v := 0) (pc' := 22) dL_value_21 rfl (by decide) ?_
  cases h
  exact X.iret (ty := .int) dL_value_22 rfl (by decide) (Nat.le_of_ble_eq_true rfl) (Nat.le_of_ble_eq_true rfl) rfl
def f_L_bestNext (fu : Nat) (a0 : Nat) (a1 : Int32) (a2 : Int32) (a3 : Nat) (M : List Ob) : Option (Int32 × List Ob) :=
  (hasO M a0 10).bind fun _ =>
  bdW (f_X10_bestNext fu a0 a1 a2 M) (fun v1 M2 =>
  (aSet M2 a3 17 0 (.long ((v1 : Int32).toInt64))).bind fun M7 =>
  some (0, M7))
  (fun E5 M2 => if E5 = "java/lang/IndexOutOfBoundsException" then (some (1, M2))
  else if E5 = "java/lang/IllegalArgumentException" then (some (2, M2))
  else none)
set_option maxHeartbeats 4000000 in
theorem ok_L_bestNext {G : GT} (hz : gZ G = false) {fu : Nat} {a0 : Nat} {a1 : Int32} {a2 : Int32} {a3 : Nat} {M : List Ob} {out : Int32 × List Ob} (h : f_L_bestNext fu a0 a1 a2 a3 M = some out) : SpW G t_L_bestNext [(0, 10, 13, 28), (0, 10, 17, 19)] [.ref a0, .int a1, .int a2, .ref a3] M (oI out) := by
  refine SpW.of rfl (by decide +kernel) (cat_all rfl) (Nat.le_of_ble_eq_true rfl) ?_
  show X G t_L_bestNext [(0, 10, 13, 28), (0, 10, 17, 19)] 0 [some (.ref a0), some (.int a1), some (.int a2), some (.ref a3), none] [] M 0 0 (oI out)
  unfold f_L_bestNext at h
  refine X.aload_n (x := a3) (pc' := 1) dL_bestNext_0 rfl rfl rfl ?_
  refine X.iconst (v := 0) (pc' := 2) dL_bestNext_1 rfl (by decide) ?_
  refine X.aload_n (x := a0) (pc' := 3) dL_bestNext_2 rfl rfl rfl ?_
  refine X.iload_n (x := a1) (pc' := 4) dL_bestNext_3 rfl rfl rfl ?_
  refine X.iload_n (x := a2) (pc' := 5) dL_bestNext_4 rfl rfl rfl ?_
  obtain ⟨⟨⟩, e4, h⟩ := bindE h
  rcases bdWE h with ⟨v1, M2, e3, h⟩ | ⟨E5, M2, e3, h⟩
  rotate_left
  · -- thrown
    by_cases hE0 : E5 = "java/lang/IndexOutOfBoundsException"
    · rw [if_pos hE0] at h
      subst hE0
      refine X.callVh (b := a0) (E := "java/lang/IndexOutOfBoundsException") (As := [.int a1, .int a2]) (st := [.int 0, .ref a3]) (M' := M2) (i := 4) (pc2 := 15) (L' := [some (.ref a0), some (.int a1), some (.int a2), some (.ref a3), none]) (pre := []) (x := ⟨0, 10, 13, 28⟩) (suf := [⟨0, 10, 17, 19⟩]) dL_bestNext_5 cl_L_95 mi_X10_bestNext me_X10_bestNext mr_X10_bestNext e4 ⟨⟨Nat.le_of_ble_eq_true rfl, Nat.le_of_ble_eq_true rfl⟩, Nat.le_of_ble_eq_true rfl, Nat.le_of_ble_eq_true rfl⟩ rfl (Nat.le_of_ble_eq_true rfl) hz (ok_X10_bestNext (G := zs G) (hz := hz) e3) rfl pass_nil rfl (by decide) (TBg_of 825 (by decide +kernel) rfl) (by decide +kernel) (Or.inl ⟨dL_bestNext_13, rfl⟩) (by decide) rfl ?_
      show X G t_L_bestNext [(0, 10, 13, 28), (0, 10, 17, 19)] 15 [some (.ref a0), some (.int a1), some (.int a2), some (.ref a3), none] [] M2 2 12 _
      refine X.iconst (v := 1) (pc' := 16) dL_bestNext_15 rfl (by decide) ?_
      cases h
      exact X.iret (ty := .int) dL_bestNext_16 rfl (by decide) (Nat.le_of_ble_eq_true rfl) (Nat.le_of_ble_eq_true rfl) rfl
    rw [if_neg hE0] at h
    by_cases hE1 : E5 = "java/lang/IllegalArgumentException"
    · rw [if_pos hE1] at h
      subst hE1
      refine X.callVh (b := a0) (E := "java/lang/IllegalArgumentException") (As := [.int a1, .int a2]) (st := [.int 0, .ref a3]) (M' := M2) (i := 4) (pc2 := 19) (L' := [some (.ref a0), some (.int a1), some (.int a2), some (.ref a3), none]) (pre := [⟨0, 10, 13, 28⟩]) (x := ⟨0, 10, 17, 19⟩) (suf := []) dL_bestNext_5 cl_L_95 mi_X10_bestNext me_X10_bestNext mr_X10_bestNext e4 ⟨⟨Nat.le_of_ble_eq_true rfl, Nat.le_of_ble_eq_true rfl⟩, Nat.le_of_ble_eq_true rfl, Nat.le_of_ble_eq_true rfl⟩ rfl (Nat.le_of_ble_eq_true rfl) hz (ok_X10_bestNext (G := zs G) (hz := hz) e3) rfl (pass_cons ⟨by decide, "java/lang/IndexOutOfBoundsException", TBg_of 825 (by decide +kernel) rfl, by decide +kernel⟩ pass_nil) rfl (by decide) (TBg_of 643 (by decide +kernel) rfl) (by decide +kernel) (Or.inl ⟨dL_bestNext_17, rfl⟩) (by decide) rfl ?_
      show X G t_L_bestNext [(0, 10, 13, 28), (0, 10, 17, 19)] 19 [some (.ref a0), some (.int a1), some (.int a2), some (.ref a3), none] [] M2 2 12 _
      refine X.iconst (v := 2) (pc' := 20) dL_bestNext_19 rfl (by decide) ?_
      cases h
      exact X.iret (ty := .int) dL_bestNext_20 rfl (by decide) (Nat.le_of_ble_eq_true rfl) (Nat.le_of_ble_eq_true rfl) rfl
    rw [if_neg hE1] at h
    cases h
  refine X.callVq (b := a0) (v := some (.int v1)) (As := [.int a1, .int a2]) (st := [.int 0, .ref a3]) (M' := M2) (pc' := 8) dL_bestNext_5 rfl cl_L_95 mi_X10_bestNext me_X10_bestNext mr_X10_bestNext e4 ⟨⟨Nat.le_of_ble_eq_true rfl, Nat.le_of_ble_eq_true rfl⟩, Nat.le_of_ble_eq_true rfl, Nat.le_of_ble_eq_true rfl⟩ rfl (Nat.le_of_ble_eq_true rfl) (ok_X10_bestNext (G := zs G) (hz := hz) e3) ?_
  show X G t_L_bestNext [(0, 10, 13, 28), (0, 10, 17, 19)] 8 [some (.ref a0), some (.int a1), some (.int a2), some (.ref a3), none] [.int v1, .int 0, .ref a3] M2 2 12 _
  refine X.i2l (pc' := 9) dL_bestNext_8 rfl ?_
  obtain ⟨M7, e6, h⟩ := bindE h
  refine X.last (pc' := 10) dL_bestNext_9 rfl e6 ?_
  refine X.goto (pc' := 21) dL_bestNext_10 (by decide) ?_
  refine X.iconst (v := 0) (pc' := 22) dL_bestNext_21 rfl (by decide) ?_
  cases h
  exact X.iret (ty := .int) dL_bestNext_22 rfl (by decide) (Nat.le_of_ble_eq_true rfl) (Nat.le_of_ble_eq_true rfl) rfl
def f_L_step (fu : Nat) (a0 : Nat) (a1 : Int32) (a2 : Int32) (a3 : Nat) (M : List Ob) : Option (Int32 × List Ob) :=
  (hasO M a0 10).bind fun _ =>
  bdW (f_X10_step fu a0 a1 a2 M) (fun v1 M2 =>
  (aSet M2 a3 17 0 (.long ((v1 : Int32).toInt64))).bind fun M7 =>
  some (0, M7))
  (fun E5 M2 => if E5 = "java/lang/IndexOutOfBoundsException" then (some (1, M2))
  else if E5 = "java/lang/IllegalStateException" then (some (2, M2))
  else none)
set_option maxHeartbeats 4000000 in
theorem ok_L_step {G : GT} (hz : gZ G = false) {fu : Nat} {a0 : Nat} {a1 : Int32} {a2 : Int32} {a3 : Nat} {M : List Ob} {out : Int32 × List Ob} (h : f_L_step fu a0 a1 a2 a3 M = some out) : SpW G t_L_step [(0, 10, 13, 28), (0, 10, 17, 13)] [.ref a0, .int a1, .int a2, .ref a3] M (oI out) := by
  refine SpW.of rfl (by decide +kernel) (cat_all rfl) (Nat.le_of_ble_eq_true rfl) ?_
  show X G t_L_step [(0, 10, 13, 28), (0, 10, 17, 13)] 0 [some (.ref a0), some (.int a1), some (.int a2), some (.ref a3), none] [] M 0 0 (oI out)
  unfold f_L_step at h
  refine X.aload_n (x := a3) (pc' := 1) dL_step_0 rfl rfl rfl ?_
  refine X.iconst (v := 0) (pc' := 2) dL_step_1 rfl (by decide) ?_
  refine X.aload_n (x := a0) (pc' := 3) dL_step_2 rfl rfl rfl ?_
  refine X.iload_n (x := a1) (pc' := 4) dL_step_3 rfl rfl rfl ?_
  refine X.iload_n (x := a2) (pc' := 5) dL_step_4 rfl rfl rfl ?_
  obtain ⟨⟨⟩, e4, h⟩ := bindE h
  rcases bdWE h with ⟨v1, M2, e3, h⟩ | ⟨E5, M2, e3, h⟩
  rotate_left
  · -- thrown
    by_cases hE0 : E5 = "java/lang/IndexOutOfBoundsException"
    · rw [if_pos hE0] at h
      subst hE0
      refine X.callVh (b := a0) (E := "java/lang/IndexOutOfBoundsException") (As := [.int a1, .int a2]) (st := [.int 0, .ref a3]) (M' := M2) (i := 4) (pc2 := 15) (L' := [some (.ref a0), some (.int a1), some (.int a2), some (.ref a3), none]) (pre := []) (x := ⟨0, 10, 13, 28⟩) (suf := [⟨0, 10, 17, 13⟩]) dL_step_5 cl_L_98 mi_X10_step me_X10_step mr_X10_step e4 ⟨⟨Nat.le_of_ble_eq_true rfl, Nat.le_of_ble_eq_true rfl⟩, Nat.le_of_ble_eq_true rfl, Nat.le_of_ble_eq_true rfl⟩ rfl (Nat.le_of_ble_eq_true rfl) hz (ok_X10_step (G := zs G) (hz := hz) e3) rfl pass_nil rfl (by decide) (TBg_of 825 (by decide +kernel) rfl) (by decide +kernel) (Or.inl ⟨dL_step_13, rfl⟩) (by decide) rfl ?_
      show X G t_L_step [(0, 10, 13, 28), (0, 10, 17, 13)] 15 [some (.ref a0), some (.int a1), some (.int a2), some (.ref a3), none] [] M2 2 12 _
      refine X.iconst (v := 1) (pc' := 16) dL_step_15 rfl (by decide) ?_
      cases h
      exact X.iret (ty := .int) dL_step_16 rfl (by decide) (Nat.le_of_ble_eq_true rfl) (Nat.le_of_ble_eq_true rfl) rfl
    rw [if_neg hE0] at h
    by_cases hE1 : E5 = "java/lang/IllegalStateException"
    · rw [if_pos hE1] at h
      subst hE1
      refine X.callVh (b := a0) (E := "java/lang/IllegalStateException") (As := [.int a1, .int a2]) (st := [.int 0, .ref a3]) (M' := M2) (i := 4) (pc2 := 19) (L' := [some (.ref a0), some (.int a1), some (.int a2), some (.ref a3), none]) (pre := [⟨0, 10, 13, 28⟩]) (x := ⟨0, 10, 17, 13⟩) (suf := []) dL_step_5 cl_L_98 mi_X10_step me_X10_step mr_X10_step e4 ⟨⟨Nat.le_of_ble_eq_true rfl, Nat.le_of_ble_eq_true rfl⟩, Nat.le_of_ble_eq_true rfl, Nat.le_of_ble_eq_true rfl⟩ rfl (Nat.le_of_ble_eq_true rfl) hz (ok_X10_step (G := zs G) (hz := hz) e3) rfl (pass_cons ⟨by decide, "java/lang/IndexOutOfBoundsException", TBg_of 825 (by decide +kernel) rfl, by decide +kernel⟩ pass_nil) rfl (by decide) (TBg_of 563 (by decide +kernel) rfl) (by decide +kernel) (Or.inl ⟨dL_step_17, rfl⟩) (by decide) rfl ?_
      show X G t_L_step [(0, 10, 13, 28), (0, 10, 17, 13)] 19 [some (.ref a0), some (.int a1), some (.int a2), some (.ref a3), none] [] M2 2 12 _
      refine X.iconst (v := 2) (pc' := 20) dL_step_19 rfl (by decide) ?_
      cases h
      exact X.iret (ty := .int) dL_step_20 rfl (by decide) (Nat.le_of_ble_eq_true rfl) (Nat.le_of_ble_eq_true rfl) rfl
    rw [if_neg hE1] at h
    cases h
  refine X.callVq (b := a0) (v := some (.int v1)) (As := [.int a1, .int a2]) (st := [.int 0, .ref a3]) (M' := M2) (pc' := 8) dL_step_5 rfl cl_L_98 mi_X10_step me_X10_step mr_X10_step e4 ⟨⟨Nat.le_of_ble_eq_true rfl, Nat.le_of_ble_eq_true rfl⟩, Nat.le_of_ble_eq_true rfl, Nat.le_of_ble_eq_true rfl⟩ rfl (Nat.le_of_ble_eq_true rfl) (ok_X10_step (G := zs G) (hz := hz) e3) ?_
  show X G t_L_step [(0, 10, 13, 28), (0, 10, 17, 13)] 8 [some (.ref a0), some (.int a1), some (.int a2), some (.ref a3), none] [.int v1, .int 0, .ref a3] M2 2 12 _
  refine X.i2l (pc' := 9) dL_step_8 rfl ?_
  obtain ⟨M7, e6, h⟩ := bindE h
  refine X.last (pc' := 10) dL_step_9 rfl e6 ?_
  refine X.goto (pc' := 21) dL_step_10 (by decide) ?_
  refine X.iconst (v := 0) (pc' := 22) dL_step_21 rfl (by decide) ?_
  cases h
  exact X.iret (ty := .int) dL_step_22 rfl (by decide) (Nat.le_of_ble_eq_true rfl) (Nat.le_of_ble_eq_true rfl) rfl
def f_L_promise (fu : Nat) (a0 : Nat) (a1 : Nat) (M : List Ob) : Option (Int32 × List Ob) :=
  (hasO M a0 10).bind fun _ =>
  bdW (f_X10_promise fu a0 M) (fun v1 M2 =>
  (aSet M2 a1 17 0 (.long ((v1 : Int32).toInt64))).bind fun M7 =>
  some (0, M7))
  (fun E5 M2 => if E5 = "java/util/NoSuchElementException" then (some (1, M2))
  else none)
set_option maxHeartbeats 4000000 in
theorem ok_L_promise {G : GT} (hz : gZ G = false) {fu : Nat} {a0 : Nat} {a1 : Nat} {M : List Ob} {out : Int32 × List Ob} (h : f_L_promise fu a0 a1 M = some out) : SpW G t_L_promise [(0, 8, 11, 69)] [.ref a0, .ref a1] M (oI out) := by
  refine SpW.of rfl (by decide +kernel) (cat_all rfl) (Nat.le_of_ble_eq_true rfl) ?_
  show X G t_L_promise [(0, 8, 11, 69)] 0 [some (.ref a0), some (.ref a1), none] [] M 0 0 (oI out)
  unfold f_L_promise at h
  refine X.aload_n (x := a1) (pc' := 1) dL_promise_0 rfl rfl rfl ?_
  refine X.iconst (v := 0) (pc' := 2) dL_promise_1 rfl (by decide) ?_
  refine X.aload_n (x := a0) (pc' := 3) dL_promise_2 rfl rfl rfl ?_
  obtain ⟨⟨⟩, e4, h⟩ := bindE h
  rcases bdWE h with ⟨v1, M2, e3, h⟩ | ⟨E5, M2, e3, h⟩
  rotate_left
  · -- thrown
    by_cases hE0 : E5 = "java/util/NoSuchElementException"
    · rw [if_pos hE0] at h
      subst hE0
      refine X.callVh (b := a0) (E := "java/util/NoSuchElementException") (As := []) (st := [.int 0, .ref a1]) (M' := M2) (i := 2) (pc2 := 12) (L' := [some (.ref a0), some (.ref a1), none]) (pre := []) (x := ⟨0, 8, 11, 69⟩) (suf := []) dL_promise_3 cl_L_102 mi_X10_promise me_X10_promise mr_X10_promise e4 ⟨⟨Nat.le_of_ble_eq_true rfl, Nat.le_of_ble_eq_true rfl⟩, Nat.le_of_ble_eq_true rfl, Nat.le_of_ble_eq_true rfl⟩ rfl (Nat.le_of_ble_eq_true rfl) hz (ok_X10_promise (G := zs G) (hz := hz) e3) rfl pass_nil rfl (by decide) (TBg_of 1056 (by decide +kernel) rfl) (by decide +kernel) (Or.inr ⟨_, dL_promise_11, rfl, rfl⟩) (by decide) rfl ?_
      show X G t_L_promise [(0, 8, 11, 69)] 12 [some (.ref a0), some (.ref a1), none] [] M2 1 6 _
      refine X.iconst (v := 1) (pc' := 13) dL_promise_12 rfl (by decide) ?_
      cases h
      exact X.iret (ty := .int) dL_promise_13 rfl (by decide) (Nat.le_of_ble_eq_true rfl) (Nat.le_of_ble_eq_true rfl) rfl
    rw [if_neg hE0] at h
    cases h
  refine X.callVq (b := a0) (v := some (.int v1)) (As := []) (st := [.int 0, .ref a1]) (M' := M2) (pc' := 6) dL_promise_3 rfl cl_L_102 mi_X10_promise me_X10_promise mr_X10_promise e4 ⟨⟨Nat.le_of_ble_eq_true rfl, Nat.le_of_ble_eq_true rfl⟩, Nat.le_of_ble_eq_true rfl, Nat.le_of_ble_eq_true rfl⟩ rfl (Nat.le_of_ble_eq_true rfl) (ok_X10_promise (G := zs G) (hz := hz) e3) ?_
  show X G t_L_promise [(0, 8, 11, 69)] 6 [some (.ref a0), some (.ref a1), none] [.int v1, .int 0, .ref a1] M2 1 6 _
  refine X.i2l (pc' := 7) dL_promise_6 rfl ?_
  obtain ⟨M7, e6, h⟩ := bindE h
  refine X.last (pc' := 8) dL_promise_7 rfl e6 ?_
  refine X.goto (pc' := 14) dL_promise_8 (by decide) ?_
  refine X.iconst (v := 0) (pc' := 15) dL_promise_14 rfl (by decide) ?_
  cases h
  exact X.iret (ty := .int) dL_promise_15 rfl (by decide) (Nat.le_of_ble_eq_true rfl) (Nat.le_of_ble_eq_true rfl) rfl
def f_L_grief (fu : Nat) (a0 : Nat) (a1 : Int32) (a2 : Nat) (M : List Ob) : Option (Int32 × List Ob) :=
  (hasO M a0 10).bind fun _ =>
  bdW (f_X10_grief fu a0 a1 M) (fun v1 M2 =>
  (aSet M2 a2 17 0 (.long ((v1 : Int32).toInt64))).bind fun M7 =>
  some (0, M7))
  (fun E5 M2 => if E5 = "java/lang/IndexOutOfBoundsException" then (some (1, M2))
  else if E5 = "java/util/NoSuchElementException" then (some (2, M2))
  else none)
set_option maxHeartbeats 4000000 in
theorem ok_L_grief {G : GT} (hz : gZ G = false) {fu : Nat} {a0 : Nat} {a1 : Int32} {a2 : Nat} {M : List Ob} {out : Int32 × List Ob} (h : f_L_grief fu a0 a1 a2 M = some out) : SpW G t_L_grief [(0, 9, 12, 28), (0, 9, 15, 69)] [.ref a0, .int a1, .ref a2] M (oI out) := by
  refine SpW.of rfl (by decide +kernel) (cat_all rfl) (Nat.le_of_ble_eq_true rfl) ?_
  show X G t_L_grief [(0, 9, 12, 28), (0, 9, 15, 69)] 0 [some (.ref a0), some (.int a1), some (.ref a2), none] [] M 0 0 (oI out)
  unfold f_L_grief at h
  refine X.aload_n (x := a2) (pc' := 1) dL_grief_0 rfl rfl rfl ?_
  refine X.iconst (v := 0) (pc' := 2) dL_grief_1 rfl (by decide) ?_
  refine X.aload_n (x := a0) (pc' := 3) dL_grief_2 rfl rfl rfl ?_
  refine X.iload_n (x := a1) (pc' := 4) dL_grief_3 rfl rfl rfl ?_
  obtain ⟨⟨⟩, e4, h⟩ := bindE h
  rcases bdWE h with ⟨v1, M2, e3, h⟩ | ⟨E5, M2, e3, h⟩
  rotate_left
  · -- thrown
    by_cases hE0 : E5 = "java/lang/IndexOutOfBoundsException"
    · rw [if_pos hE0] at h
      subst hE0
      refine X.callVh (b := a0) (E := "java/lang/IndexOutOfBoundsException") (As := [.int a1]) (st := [.int 0, .ref a2]) (M' := M2) (i := 3) (pc2 := 13) (L' := [some (.ref a0), some (.int a1), some (.ref a2), none]) (pre := []) (x := ⟨0, 9, 12, 28⟩) (suf := [⟨0, 9, 15, 69⟩]) dL_grief_4 cl_L_105 mi_X10_grief me_X10_grief mr_X10_grief e4 ⟨⟨Nat.le_of_ble_eq_true rfl, Nat.le_of_ble_eq_true rfl⟩, Nat.le_of_ble_eq_true rfl, Nat.le_of_ble_eq_true rfl⟩ rfl (Nat.le_of_ble_eq_true rfl) hz (ok_X10_grief (G := zs G) (hz := hz) e3) rfl pass_nil rfl (by decide) (TBg_of 825 (by decide +kernel) rfl) (by decide +kernel) (Or.inr ⟨_, dL_grief_12, rfl, rfl⟩) (by decide) rfl ?_
      show X G t_L_grief [(0, 9, 12, 28), (0, 9, 15, 69)] 13 [some (.ref a0), some (.int a1), some (.ref a2), none] [] M2 2 12 _
      refine X.iconst (v := 1) (pc' := 14) dL_grief_13 rfl (by decide) ?_
      cases h
      exact X.iret (ty := .int) dL_grief_14 rfl (by decide) (Nat.le_of_ble_eq_true rfl) (Nat.le_of_ble_eq_true rfl) rfl
    rw [if_neg hE0] at h
    by_cases hE1 : E5 = "java/util/NoSuchElementException"
    · rw [if_pos hE1] at h
      subst hE1
      refine X.callVh (b := a0) (E := "java/util/NoSuchElementException") (As := [.int a1]) (st := [.int 0, .ref a2]) (M' := M2) (i := 3) (pc2 := 16) (L' := [some (.ref a0), some (.int a1), some (.ref a2), none]) (pre := [⟨0, 9, 12, 28⟩]) (x := ⟨0, 9, 15, 69⟩) (suf := []) dL_grief_4 cl_L_105 mi_X10_grief me_X10_grief mr_X10_grief e4 ⟨⟨Nat.le_of_ble_eq_true rfl, Nat.le_of_ble_eq_true rfl⟩, Nat.le_of_ble_eq_true rfl, Nat.le_of_ble_eq_true rfl⟩ rfl (Nat.le_of_ble_eq_true rfl) hz (ok_X10_grief (G := zs G) (hz := hz) e3) rfl (pass_cons ⟨by decide, "java/lang/IndexOutOfBoundsException", TBg_of 825 (by decide +kernel) rfl, by decide +kernel⟩ pass_nil) rfl (by decide) (TBg_of 1056 (by decide +kernel) rfl) (by decide +kernel) (Or.inr ⟨_, dL_grief_15, rfl, rfl⟩) (by decide) rfl ?_
      show X G t_L_grief [(0, 9, 12, 28), (0, 9, 15, 69)] 16 [some (.ref a0), some (.int a1), some (.ref a2), none] [] M2 2 12 _
      refine X.iconst (v := 2) (pc' := 17) dL_grief_16 rfl (by decide) ?_
      cases h
      exact X.iret (ty := .int) dL_grief_17 rfl (by decide) (Nat.le_of_ble_eq_true rfl) (Nat.le_of_ble_eq_true rfl) rfl
    rw [if_neg hE1] at h
    cases h
  refine X.callVq (b := a0) (v := some (.int v1)) (As := [.int a1]) (st := [.int 0, .ref a2]) (M' := M2) (pc' := 7) dL_grief_4 rfl cl_L_105 mi_X10_grief me_X10_grief mr_X10_grief e4 ⟨⟨Nat.le_of_ble_eq_true rfl, Nat.le_of_ble_eq_true rfl⟩, Nat.le_of_ble_eq_true rfl, Nat.le_of_ble_eq_true rfl⟩ rfl (Nat.le_of_ble_eq_true rfl) (ok_X10_grief (G := zs G) (hz := hz) e3) ?_
  show X G t_L_grief [(0, 9, 12, 28), (0, 9, 15, 69)] 7 [some (.ref a0), some (.int a1), some (.ref a2), none] [.int v1, .int 0, .ref a2] M2 2 12 _
  refine X.i2l (pc' := 8) dL_grief_7 rfl ?_
  obtain ⟨M7, e6, h⟩ := bindE h
  refine X.last (pc' := 9) dL_grief_8 rfl e6 ?_
  refine X.goto (pc' := 18) dL_grief_9 (by decide) ?_
  refine X.iconst (v := 0) (pc' := 19) dL_grief_18 rfl (by decide) ?_
  cases h
  exact X.iret (ty := .int) dL_grief_19 rfl (by decide) (Nat.le_of_ble_eq_true rfl) (Nat.le_of_ble_eq_true rfl) rfl
def f_L_writeRoute (fu : Nat) (a0 : Nat) (a1 : Int32) (a2 : Nat) (M : List Ob) : Option (Int32 × List Ob) :=
  (hasO M a0 10).bind fun _ =>
  bdW (f_X10_writeRoute fu a0 a1 M) (fun v1 M2 =>
  (aSet M2 a2 17 0 (.long ((v1 : Int32).toInt64))).bind fun M7 =>
  some (0, M7))
  (fun E5 M2 => if E5 = "java/lang/IndexOutOfBoundsException" then (some (1, M2))
  else none)
set_option maxHeartbeats 4000000 in
theorem ok_L_writeRoute {G : GT} (hz : gZ G = false) {fu : Nat} {a0 : Nat} {a1 : Int32} {a2 : Nat} {M : List Ob} {out : Int32 × List Ob} (h : f_L_writeRoute fu a0 a1 a2 M = some out) : SpW G t_L_writeRoute [(0, 9, 12, 28)] [.ref a0, .int a1, .ref a2] M (oI out) := by
  refine SpW.of rfl (by decide +kernel) (cat_all rfl) (Nat.le_of_ble_eq_true rfl) ?_
  show X G t_L_writeRoute [(0, 9, 12, 28)] 0 [some (.ref a0), some (.int a1), some (.ref a2), none] [] M 0 0 (oI out)
  unfold f_L_writeRoute at h
  refine X.aload_n (x := a2) (pc' := 1) dL_writeRoute_0 rfl rfl rfl ?_
  refine X.iconst (v := 0) (pc' := 2) dL_writeRoute_1 rfl (by decide) ?_
  refine X.aload_n (x := a0) (pc' := 3) dL_writeRoute_2 rfl rfl rfl ?_
  refine X.iload_n (x := a1) (pc' := 4) dL_writeRoute_3 rfl rfl rfl ?_
  obtain ⟨⟨⟩, e4, h⟩ := bindE h
  rcases bdWE h with ⟨v1, M2, e3, h⟩ | ⟨E5, M2, e3, h⟩
  rotate_left
  · -- thrown
    by_cases hE0 : E5 = "java/lang/IndexOutOfBoundsException"
    · rw [if_pos hE0] at h
      subst hE0
      refine X.callVh (b := a0) (E := "java/lang/IndexOutOfBoundsException") (As := [.int a1]) (st := [.int 0, .ref a2]) (M' := M2) (i := 3) (pc2 := 13) (L' := [some (.ref a0), some (.int a1), some (.ref a2), none]) (pre := []) (x := ⟨0, 9, 12, 28⟩) (suf := []) dL_writeRoute_4 cl_L_108 mi_X10_writeRoute me_X10_writeRoute mr_X10_writeRoute e4 ⟨⟨Nat.le_of_ble_eq_true rfl, Nat.le_of_ble_eq_true rfl⟩, Nat.le_of_ble_eq_true rfl, Nat.le_of_ble_eq_true rfl⟩ rfl (Nat.le_of_ble_eq_true rfl) hz (ok_X10_writeRoute (G := zs G) (hz := hz) e3) rfl pass_nil rfl (by decide) (TBg_of 825 (by decide +kernel) rfl) (by decide +kernel) (Or.inr ⟨_, dL_writeRoute_12, rfl, rfl⟩) (by decide) rfl ?_
      show X G t_L_writeRoute [(0, 9, 12, 28)] 13 [some (.ref a0), some (.int a1), some (.ref a2), none] [] M2 1 6 _
      refine X.iconst (v := 1) (pc' := 14) dL_writeRoute_13 rfl (by decide) ?_
      cases h
      exact X.iret (ty := .int) dL_writeRoute_14 rfl (by decide) (Nat.le_of_ble_eq_true rfl) (Nat.le_of_ble_eq_true rfl) rfl
    rw [if_neg hE0] at h
    cases h
  refine X.callVq (b := a0) (v := some (.int v1)) (As := [.int a1]) (st := [.int 0, .ref a2]) (M' := M2) (pc' := 7) dL_writeRoute_4 rfl cl_L_108 mi_X10_writeRoute me_X10_writeRoute mr_X10_writeRoute e4 ⟨⟨Nat.le_of_ble_eq_true rfl, Nat.le_of_ble_eq_true rfl⟩, Nat.le_of_ble_eq_true rfl, Nat.le_of_ble_eq_true rfl⟩ rfl (Nat.le_of_ble_eq_true rfl) (ok_X10_writeRoute (G := zs G) (hz := hz) e3) ?_
  show X G t_L_writeRoute [(0, 9, 12, 28)] 7 [some (.ref a0), some (.int a1), some (.ref a2), none] [.int v1, .int 0, .ref a2] M2 1 6 _
  refine X.i2l (pc' := 8) dL_writeRoute_7 rfl ?_
  obtain ⟨M7, e6, h⟩ := bindE h
  refine X.last (pc' := 9) dL_writeRoute_8 rfl e6 ?_
  refine X.goto (pc' := 15) dL_writeRoute_9 (by decide) ?_
  refine X.iconst (v := 0) (pc' := 16) dL_writeRoute_15 rfl (by decide) ?_
  cases h
  exact X.iret (ty := .int) dL_writeRoute_16 rfl (by decide) (Nat.le_of_ble_eq_true rfl) (Nat.le_of_ble_eq_true rfl) rfl
def f_L_writtenByte (fu : Nat) (a0 : Nat) (a1 : Int32) (a2 : Nat) (M : List Ob) : Option (Int32 × List Ob) :=
  (hasO M a0 10).bind fun _ =>
  bdW (f_X10_writtenByte fu a0 a1 M) (fun v1 M2 =>
  (aSet M2 a2 17 0 (.long ((v1 : Int32).toInt64))).bind fun M7 =>
  some (0, M7))
  (fun E5 M2 => if E5 = "java/lang/IndexOutOfBoundsException" then (some (1, M2))
  else none)
set_option maxHeartbeats 4000000 in
theorem ok_L_writtenByte {G : GT} (hz : gZ G = false) {fu : Nat} {a0 : Nat} {a1 : Int32} {a2 : Nat} {M : List Ob} {out : Int32 × List Ob} (h : f_L_writtenByte fu a0 a1 a2 M = some out) : SpW G t_L_writtenByte [(0, 9, 12, 28)] [.ref a0, .int a1, .ref a2] M (oI out) := by
  refine SpW.of rfl (by decide +kernel) (cat_all rfl) (Nat.le_of_ble_eq_true rfl) ?_
  show X G t_L_writtenByte [(0, 9, 12, 28)] 0 [some (.ref a0), some (.int a1), some (.ref a2), none] [] M 0 0 (oI out)
  unfold f_L_writtenByte at h
  refine X.aload_n (x := a2) (pc' := 1) dL_writtenByte_0 rfl rfl rfl ?_
  refine X.iconst (v := 0) (pc' := 2) dL_writtenByte_1 rfl (by decide) ?_
  refine X.aload_n (x := a0) (pc' := 3) dL_writtenByte_2 rfl rfl rfl ?_
  refine X.iload_n (x := a1) (pc' := 4) dL_writtenByte_3 rfl rfl rfl ?_
  obtain ⟨⟨⟩, e4, h⟩ := bindE h
  rcases bdWE h with ⟨v1, M2, e3, h⟩ | ⟨E5, M2, e3, h⟩
  rotate_left
  · -- thrown
    by_cases hE0 : E5 = "java/lang/IndexOutOfBoundsException"
    · rw [if_pos hE0] at h
      subst hE0
      refine X.callVh (b := a0) (E := "java/lang/IndexOutOfBoundsException") (As := [.int a1]) (st := [.int 0, .ref a2]) (M' := M2) (i := 3) (pc2 := 13) (L' := [some (.ref a0), some (.int a1), some (.ref a2), none]) (pre := []) (x := ⟨0, 9, 12, 28⟩) (suf := []) dL_writtenByte_4 cl_L_111 mi_X10_writtenByte me_X10_writtenByte mr_X10_writtenByte e4 ⟨⟨Nat.le_of_ble_eq_true rfl, Nat.le_of_ble_eq_true rfl⟩, Nat.le_of_ble_eq_true rfl, Nat.le_of_ble_eq_true rfl⟩ rfl (Nat.le_of_ble_eq_true rfl) hz (ok_X10_writtenByte (G := zs G) (hz := hz) e3) rfl pass_nil rfl (by decide) (TBg_of 825 (by decide +kernel) rfl) (by decide +kernel) (Or.inr ⟨_, dL_writtenByte_12, rfl, rfl⟩) (by decide) rfl ?_
      show X G t_L_writtenByte [(0, 9, 12, 28)] 13 [some (.ref a0), some (.int a1), some (.ref a2), none] [] M2 1 6 _
      refine X.iconst (v := 1) (pc' := 14) dL_writtenByte_13 rfl (by decide) ?_
      cases h
      exact X.iret (ty := .int) dL_writtenByte_14 rfl (by decide) (Nat.le_of_ble_eq_true rfl) (Nat.le_of_ble_eq_true rfl) rfl
    rw [if_neg hE0] at h
    cases h
  refine X.callVq (b := a0) (v := some (.int v1)) (As := [.int a1]) (st := [.int 0, .ref a2]) (M' := M2) (pc' := 7) dL_writtenByte_4 rfl cl_L_111 mi_X10_writtenByte me_X10_writtenByte mr_X10_writtenByte e4 ⟨⟨Nat.le_of_ble_eq_true rfl, Nat.le_of_ble_eq_true rfl⟩, Nat.le_of_ble_eq_true rfl, Nat.le_of_ble_eq_true rfl⟩ rfl (Nat.le_of_ble_eq_true rfl) (ok_X10_writtenByte (G := zs G) (hz := hz) e3) ?_
  show X G t_L_writtenByte [(0, 9, 12, 28)] 7 [some (.ref a0), some (.int a1), some (.ref a2), none] [.int v1, .int 0, .ref a2] M2 1 6 _
  refine X.i2l (pc' := 8) dL_writtenByte_7 rfl ?_
  obtain ⟨M7, e6, h⟩ := bindE h
  refine X.last (pc' := 9) dL_writtenByte_8 rfl e6 ?_
  refine X.goto (pc' := 15) dL_writtenByte_9 (by decide) ?_
  refine X.iconst (v := 0) (pc' := 16) dL_writtenByte_15 rfl (by decide) ?_
  cases h
  exact X.iret (ty := .int) dL_writtenByte_16 rfl (by decide) (Nat.le_of_ble_eq_true rfl) (Nat.le_of_ble_eq_true rfl) rfl
def f_L_undo (fu : Nat) (a0 : Nat) (a1 : Nat) (M : List Ob) : Option (Int32 × List Ob) :=
  (hasO M a0 10).bind fun _ =>
  bdW (f_X10_undo fu a0 M) (fun v1 M2 =>
  (aSet M2 a1 17 0 (.long ((v1 : Int32).toInt64))).bind fun M7 =>
  some (0, M7))
  (fun E5 M2 => if E5 = "java/lang/IllegalStateException" then (some (1, M2))
  else none)
set_option maxHeartbeats 4000000 in
theorem ok_L_undo {G : GT} (hz : gZ G = false) {fu : Nat} {a0 : Nat} {a1 : Nat} {M : List Ob} {out : Int32 × List Ob} (h : f_L_undo fu a0 a1 M = some out) : SpW G t_L_undo [(0, 8, 11, 13)] [.ref a0, .ref a1] M (oI out) := by
  refine SpW.of rfl (by decide +kernel) (cat_all rfl) (Nat.le_of_ble_eq_true rfl) ?_
  show X G t_L_undo [(0, 8, 11, 13)] 0 [some (.ref a0), some (.ref a1), none] [] M 0 0 (oI out)
  unfold f_L_undo at h
  refine X.aload_n (x := a1) (pc' := 1) dL_undo_0 rfl rfl rfl ?_
  refine X.iconst (v := 0) (pc' := 2) dL_undo_1 rfl (by decide) ?_
  refine X.aload_n (x := a0) (pc' := 3) dL_undo_2 rfl rfl rfl ?_
  obtain ⟨⟨⟩, e4, h⟩ := bindE h
  rcases bdWE h with ⟨v1, M2, e3, h⟩ | ⟨E5, M2, e3, h⟩
  rotate_left
  · -- thrown
    by_cases hE0 : E5 = "java/lang/IllegalStateException"
    · rw [if_pos hE0] at h
      subst hE0
      refine X.callVh (b := a0) (E := "java/lang/IllegalStateException") (As := []) (st := [.int 0, .ref a1]) (M' := M2) (i := 2) (pc2 := 12) (L' := [some (.ref a0), some (.ref a1), none]) (pre := []) (x := ⟨0, 8, 11, 13⟩) (suf := []) dL_undo_3 cl_L_114 mi_X10_undo me_X10_undo mr_X10_undo e4 ⟨⟨Nat.le_of_ble_eq_true rfl, Nat.le_of_ble_eq_true rfl⟩, Nat.le_of_ble_eq_true rfl, Nat.le_of_ble_eq_true rfl⟩ rfl (Nat.le_of_ble_eq_true rfl) hz (ok_X10_undo (G := zs G) (hz := hz) e3) rfl pass_nil rfl (by decide) (TBg_of 563 (by decide +kernel) rfl) (by decide +kernel) (Or.inr ⟨_, dL_undo_11, rfl, rfl⟩) (by decide) rfl ?_
      show X G t_L_undo [(0, 8, 11, 13)] 12 [some (.ref a0), some (.ref a1), none] [] M2 1 6 _
      refine X.iconst (v := 1) (pc' := 13) dL_undo_12 rfl (by decide) ?_
      cases h
      exact X.iret (ty := .int) dL_undo_13 rfl (by decide) (Nat.le_of_ble_eq_true rfl) (Nat.le_of_ble_eq_true rfl) rfl
    rw [if_neg hE0] at h
    cases h
  refine X.callVq (b := a0) (v := some (.int v1)) (As := []) (st := [.int 0, .ref a1]) (M' := M2) (pc' := 6) dL_undo_3 rfl cl_L_114 mi_X10_undo me_X10_undo mr_X10_undo e4 ⟨⟨Nat.le_of_ble_eq_true rfl, Nat.le_of_ble_eq_true rfl⟩, Nat.le_of_ble_eq_true rfl, Nat.le_of_ble_eq_true rfl⟩ rfl (Nat.le_of_ble_eq_true rfl) (ok_X10_undo (G := zs G) (hz := hz) e3) ?_
  show X G t_L_undo [(0, 8, 11, 13)] 6 [some (.ref a0), some (.ref a1), none] [.int v1, .int 0, .ref a1] M2 1 6 _
  refine X.i2l (pc' := 7) dL_undo_6 rfl ?_
  obtain ⟨M7, e6, h⟩ := bindE h
  refine X.last (pc' := 8) dL_undo_7 rfl e6 ?_
  refine X.goto (pc' := 14) dL_undo_8 (by decide) ?_
  refine X.iconst (v := 0) (pc' := 15) dL_undo_14 rfl (by decide) ?_
  cases h
  exact X.iret (ty := .int) dL_undo_15 rfl (by decide) (Nat.le_of_ble_eq_true rfl) (Nat.le_of_ble_eq_true rfl) rfl
