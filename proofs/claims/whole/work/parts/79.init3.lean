section X10
variable {P T M : List Ob} {vs : List Value} {fu b c r j k ci y : Nat} {x : Ob}
theorem v_new (hT : T.length = c) (hr : c + 1 = r) (h : r < 1000000) : newO ((10, vs) :: T) x = some (r, (10, vs) :: (T ++ [x])) := by
  unfold newO
  rw [List.length_cons, hT, hr, if_pos h]; rfl
theorem v_call {f : Nat → List Ob → Option (Unit × List Ob)} {S : Nat → List Ob} (hT : T.length = c) (hr : c + 1 = r) (hb : r < b) (h : ((10, vs) :: T).length < b → f ((10, vs) :: T).length (((10, vs) :: T) ++ [x]) = some ((), ((10, vs) :: T) ++ S ((10, vs) :: T).length)) : f r ((10, vs) :: (T ++ [x])) = some ((), (10, vs) :: (T ++ S r)) := by
  have e : ((10, vs) :: T).length = r := by rw [List.length_cons, hT, hr]
  rw [e] at h
  exact h hb
theorem v_set {v : Value} (hk : Nat.ble (k + 1) vs.length = true) : pF ((10, vs) :: T) 0 10 k v = some ((10, vs.set k v) :: T) := by
  unfold pF
  show (if 10 = 10 ∧ k < vs.length then some ((10, vs.set k v) :: T) else none) = _
  rw [if_pos ⟨rfl, Nat.le_of_ble_eq_true hk⟩]
theorem v_get (hv : vs[k]? = some (.ref y)) : gP ((10, vs) :: T) 0 10 k = some y := by
  unfold gP oGet
  show (match (if 10 = 10 then vs[k]? else none) with | some (.ref x) => some x | _ => none) = _
  rw [if_pos rfl, hv]
theorem v_in (h : gP T j ci k = some y) : gP ((10, vs) :: T) (j + 1) ci k = some y := by
  unfold gP oGet at h ⊢
  rw [List.getElem?_cons_succ]; exact h
theorem v_has (h : T[j]? = some x) : hasO ((10, vs) :: T) (j + 1) x.1 = some () := by
  unfold hasO
  rw [List.getElem?_cons_succ, h]
  show (if x.1 = x.1 then some () else none) = _
  rw [if_pos rfl]
theorem x10_go {A : List Ob} (hA : A.length = 25) (hg : gP A 0 8 0 = some 2) (hb : f_X8_begin fu 1 2 0 1 ((10, [.ref 1, .null, .null, .null, .null, .null, .null, .null, .null, .int 0]) :: S8 1) = some ((), (10, [.ref 1, .null, .null, .null, .null, .null, .null, .null, .null, .int 0]) :: A)) : f_X10_init fu 0 [(10, [.null, .null, .null, .null, .null, .null, .null, .null, .null, .int 0])] = some ((), (10, [.ref 1, .ref 26, .ref 228, .ref 230, .ref 255, .ref 258, .ref 260, .ref 265, .ref 282, .int 0]) :: (((((((((A ++ S1 26) ++ S9 228) ++ S8 230) ++ S7 255 2) ++ S3 258 1 2) ++ S6 260 2 255 258) ++ S0 265 2) ++ [(12, List.replicate 15 (.int 0))]))) := by
  unfold f_X10_init
  rw [show newO [(10, [.null, .null, .null, .null, .null, .null, .null, .null, .null, .int 0])] (8, [.null, .null, .null, .int 0, .null]) = some (1, (10, [.null, .null, .null, .null, .null, .null, .null, .null, .null, .int 0]) :: ([] ++ [(8, [.null, .null, .null, .int 0, .null])])) from v_new (c := 0) rfl rfl (by decide), bd2_some]
  rw [v_call (f := fun r M => f_X8_init fu r M) (S := S8) (T := []) (c := 0) (r := 1) (b := 999800) rfl rfl (by decide) (fun hb => iS8 _ hb), bd2_some, v_set rfl, Option.bind_some]
  rw [show gP ((10, List.set [.null, .null, .null, .null, .null, .null, .null, .null, .null, .int 0] 0 (.ref 1)) :: ([] ++ S8 1)) 0 10 0 = some 1 from v_get rfl, Option.bind_some]
  rw [show hasO ((10, List.set [.null, .null, .null, .null, .null, .null, .null, .null, .null, .int 0] 0 (.ref 1)) :: ([] ++ S8 1)) 1 8 = some () from rfl, Option.bind_some]
  rw [show f_X8_begin fu 1 2 0 1 ((10, List.set [.null, .null, .null, .null, .null, .null, .null, .null, .null, .int 0] 0 (.ref 1)) :: ([] ++ S8 1)) = some ((), (10, [.ref 1, .null, .null, .null, .null, .null, .null, .null, .null, .int 0]) :: A) from hb, bd2_some]
  have g1 : gP (A ++ S1 26) 0 8 0 = some 2 := gP_P hg
  have l1 : (A ++ S1 26).length = 227 := by rw [List.length_append, hA, S1_len]
  rw [v_new hA (r := 26) rfl (by decide), bd2_some, v_call (f := fun r M => f_X1_init fu r M) (S := S1) (b := 998000) hA (r := 26) rfl (by decide) (fun hb => iS1 _ hb), bd2_some, v_set rfl, Option.bind_some]
  generalize hT1 : A ++ S1 26 = T1 at g1 l1 ⊢
  have g2 : gP (T1 ++ S9 228) 0 8 0 = some 2 := gP_P g1
  have l2 : (T1 ++ S9 228).length = 229 := by rw [List.length_append, l1, S9_len]
  rw [v_new l1 (r := 228) rfl (by decide), bd2_some, v_call (f := fun r M => f_X9_init fu r M) (S := S9) (b := 999900) l1 (r := 228) rfl (by decide) (fun hb => iS9 _ hb), bd2_some, v_set rfl, Option.bind_some]
  generalize hT2 : T1 ++ S9 228 = T2 at g2 l2 ⊢
  have g3 : gP (T2 ++ S8 230) 0 8 0 = some 2 := gP_P g2
  have l3 : (T2 ++ S8 230).length = 254 := by rw [List.length_append, l2, S8_len]
  rw [v_new l2 (r := 230) rfl (by decide), bd2_some, v_call (f := fun r M => f_X8_init fu r M) (S := S8) (b := 999800) l2 (r := 230) rfl (by decide) (fun hb => iS8 _ hb), bd2_some, v_set rfl, Option.bind_some]
  generalize hT3 : T2 ++ S8 230 = T3 at g3 l3 ⊢
  have g4 : gP (T3 ++ S7 255 2) 0 8 0 = some 2 := gP_P g3
  have g3' : gP (T3 ++ [(7, [.null, .null])]) 0 8 0 = some 2 := gP_P g3
  have l4 : (T3 ++ S7 255 2).length = 257 := by rw [List.length_append, l3, S7_len]
  rw [v_new l3 (r := 255) rfl (by decide), bd2_some, v_get (y := 1) rfl, Option.bind_some, v_in (j := 0) g3', Option.bind_some, v_call (f := fun r M => f_X7_init fu r 2 M) (S := fun r => S7 r 2) (b := 999800) l3 (r := 255) rfl (by decide) (fun hb => iS7 _ hb), bd2_some, v_set rfl, Option.bind_some]
  generalize hT4 : T3 ++ S7 255 2 = T4 at g4 l4 ⊢
  have g5 : gP (T4 ++ S3 258 1 2) 0 8 0 = some 2 := gP_P g4
  have l5 : (T4 ++ S3 258 1 2).length = 259 := by rw [List.length_append, l4, S3_len]
  rw [v_new l4 (r := 258) rfl (by decide), bd2_some, v_get (y := 1) rfl, Option.bind_some, v_call (f := fun r M => f_X3_init fu r 1 M) (S := fun r => S3 r 1 2) (b := 999900) l4 (r := 258) rfl (by decide) (fun hb => iS3 _ hb (v_in (j := 0) g4)), bd2_some, v_set rfl, Option.bind_some]
  generalize hT5 : T4 ++ S3 258 1 2 = T5 at g5 l5 ⊢
  have g6 : gP (T5 ++ S6 260 2 255 258) 0 8 0 = some 2 := gP_P g5
  have g5' : gP (T5 ++ [(6, [.null, .null, .null, .null, .null, .int 0, .int 0, .int 0, .int 0, .int 0])]) 0 8 0 = some 2 := gP_P g5
  have l6 : (T5 ++ S6 260 2 255 258).length = 264 := by rw [List.length_append, l5, S6_len]
  rw [v_new l5 (r := 260) rfl (by decide), bd2_some, v_get (k := 0) (y := 1) rfl, Option.bind_some, v_in (j := 0) g5', Option.bind_some, v_get (k := 4) (y := 255) rfl, Option.bind_some, v_get (k := 5) (y := 258) rfl, Option.bind_some, v_call (f := fun r M => f_X6_init fu r 2 255 258 M) (S := fun r => S6 r 2 255 258) (b := 999800) l5 (r := 260) rfl (by decide) (fun hb => iS6 _ hb), bd2_some, v_set rfl, Option.bind_some]
  generalize hT6 : T5 ++ S6 260 2 255 258 = T6 at g6 l6 ⊢
  have g6' : gP (T6 ++ [(0, [.null, .null, .null, .int 0])]) 0 8 0 = some 2 := gP_P g6
  have l7 : (T6 ++ S0 265 2).length = 281 := by rw [List.length_append, l6, S0_len]
  rw [v_new l6 (r := 265) rfl (by decide), bd2_some, v_get (k := 0) (y := 1) rfl, Option.bind_some, v_in (j := 0) g6', Option.bind_some, v_call (f := fun r M => f_X0_init fu r 2 M) (S := fun r => S0 r 2) (b := 999800) l6 (r := 265) rfl (by decide) (fun hb => iS0 _ hb), bd2_some, v_set rfl, Option.bind_some]
  rw [v_new l7 (r := 282) rfl (by decide), bd2_some, v_set rfl, Option.bind_some, v_set rfl, Option.bind_some]
  rfl
theorem beg0 : f_X8_begin fu 1 2 0 1 ((10, [.ref 1, .null, .null, .null, .null, .null, .null, .null, .null, .int 0]) :: S8 1) = some ((), (10, [.ref 1, .null, .null, .null, .null, .null, .null, .null, .null, .int 0]) :: S8b 1) := iBeg [(10, [.ref 1, .null, .null, .null, .null, .null, .null, .null, .null, .int 0])]
def C10 : List Ob := (10, [.ref 1, .ref 26, .ref 228, .ref 230, .ref 255, .ref 258, .ref 260, .ref 265, .ref 282, .int 0]) :: (((((((((S8b 1 ++ S1 26) ++ S9 228) ++ S8 230) ++ S7 255 2) ++ S3 258 1 2) ++ S6 260 2 255 258) ++ S0 265 2) ++ [(12, List.replicate 15 (.int 0))]))
theorem C10_len : C10.length = 283 := by
  unfold C10
  simp only [List.length_append, S8_len, S8b_len, S1_len, S9_len, S7_len, S3_len, S6_len, S0_len, List.length_cons, List.length_nil]
theorem x10_init : f_X10_init fu 0 [(10, [.null, .null, .null, .null, .null, .null, .null, .null, .null, .int 0])] = some ((), C10) := x10_go (S8b_len 1) rfl beg0
end X10
section X11
variable {M P : List Ob} {a0 r d s fu : Nat} {D R : List Value} {F G : Ob → List Ob}
theorem set_self {α : Type} {l : List α} {i : Nat} {a : α} (h : l[i]? = some a) : l.set i a = l := by
  obtain ⟨hl, rfl⟩ := List.getElem?_eq_some_iff.mp h
  exact List.set_getElem_self hl
theorem aSet_of {kd : Nat} {i : Nat} {v : Value} {vs : List Value} (h : M[r]? = some (kd, vs)) (hi : i < vs.length) (hi2 : i < 2147483648) : aSet M r kd (iI i) v = some (M.set r (kd, vs.set i v)) := by
  unfold aSet
  rw [h]
  have e : (iI (i : Int)).toNatClampNeg = i := by rw [iI_clamp (by omega) (by omega)]; rfl
  show (if kd = kd ∧ ¬ iI (i : Int) < 0 ∧ (iI (i : Int)).toNatClampNeg < vs.length then some (M.set r (kd, vs.set (iI (i : Int)).toNatClampNeg v)) else none) = _
  rw [e, if_pos ⟨rfl, iI_nneg (by omega) (by omega), hi⟩]
theorem aI_of {kd : Nat} {i : Nat} {v : Int32} {vs : List Value} (h : M[r]? = some (kd, vs)) (hi2 : i < 2147483648) (hv : vs[i]? = some (.int v)) : aI M r kd (iI i) = some v := by
  unfold aI aGet
  rw [h]
  have e : (iI (i : Int)).toNatClampNeg = i := by rw [iI_clamp (by omega) (by omega)]; rfl
  show (match (if kd = kd ∧ ¬ iI (i : Int) < 0 then vs[(iI (i : Int)).toNatClampNeg]? else none) with | some (.int x) => some x | _ => none) = _
  rw [e, if_pos ⟨rfl, iI_nneg (by omega) (by omega)⟩, hv]
theorem beg_id {K : Nat → Int32 → Int32 → Int32 → List Ob → Option (Unit × List Ob)} {a1 a2 a3 : Int32} (hp : gP M a0 11 1 = some r) (hr : M[r]? = some (13, List.replicate 150 (.int 0))) : ∀ (d n j : Nat), j + d = 150 → d < n → f_X11_begins_3 fu K n a0 a1 a2 a3 (iI j) M = K a0 a1 a2 a3 M := by
  intro d
  induction d with
  | zero =>
    intro n j h1 h2
    obtain ⟨n, rfl⟩ : ∃ k, n = k + 1 := ⟨n - 1, by omega⟩
    rw [f_X11_begins_3, f_X11_begins_3b]
    simp (disch := omega) only [n_69, n_50, n_13, Option.bind_some, bd2_some, bdX_ok, bdX_er, nm_eq, n_0, n_1, n_2, n_3, n_4, n_5, n_6, n_7, n_8, n_9, n_10, n_11, n_12, n_14, n_15, n_16, n_17, n_18, n_19, n_20, n_21, n_24, n_27, n_28, n_32, n_43, n_45, n_48, n_56, n_57, n_59, n_64, n_70, n_97, n_99, n_100, n_104, n_118, n_122, n_126, n_127, n_128, n_129, n_130, n_150, n_255, n_600, n_1000, n_1050, n_1200, n_999999, n_1000000, iI_neg, iI_add, iI_sub, iI_mul, ile, ilt, ieq]
    rw [if_pos (by omega)]
  | succ d ih =>
    intro n j h1 h2
    obtain ⟨n, rfl⟩ : ∃ k, n = k + 1 := ⟨n - 1, by omega⟩
    rw [f_X11_begins_3, f_X11_begins_3b]
    have e : aSet M r 13 (iI j) (.int (iI 0)) = some M := by
      rw [aSet_of hr (by simp; omega) (by omega), show (Value.int (iI 0)) = .int 0 from rfl, List.set_replicate_self, set_self hr]
    simp (disch := omega) only [n_69, n_50, n_13, Option.bind_some, bd2_some, bdX_ok, bdX_er, nm_eq, n_0, n_1, n_2, n_3, n_4, n_5, n_6, n_7, n_8, n_9, n_10, n_11, n_12, n_14, n_15, n_16, n_17, n_18, n_19, n_20, n_21, n_24, n_27, n_28, n_32, n_43, n_45, n_48, n_56, n_57, n_59, n_64, n_70, n_97, n_99, n_100, n_104, n_118, n_122, n_126, n_127, n_128, n_129, n_130, n_150, n_255, n_600, n_1000, n_1050, n_1200, n_999999, n_1000000, iI_neg, iI_add, iI_sub, iI_mul, ile, ilt, ieq, hp, e]
    rw [if_neg (by omega), show ((j : Int) + 1) = ((j + 1 : Nat) : Int) from by omega]
    exact ih n (j + 1) (by omega) (by omega)
theorem row_step {j : Nat} {v : Value} (hD : D.length = 150) (hR : R.length = 150) (hj : j < 150) (hv : R[j]? = some v) : (R.take j ++ D.drop j).set j v = R.take (j + 1) ++ D.drop (j + 1) := by
  rw [List.set_append_right _ _ (by rw [List.length_take]; omega), List.length_take, show j - min j R.length = 0 from by omega, List.drop_eq_getElem_cons (by omega), List.set_cons_zero, List.take_succ, hv]
  simp
theorem bec_go {g : Nat → Int32} (hs0 : s ≠ d) (ha0 : a0 ≠ d) (hR : R.length = 150) (hD : D.length = 150) (hg : ∀ j, j < 150 → R[j]? = some (.int (g j))) : ∀ (k n j : Nat) (M : List Ob), j + k = 150 → k < n → gP M a0 11 0 = some d → M[s]? = some (13, R) → M[d]? = some (13, R.take j ++ D.drop j) → f_X11_becomes_2 fu n a0 s 0 (iI j) M = some ((), M.set d (13, R)) := by
  intro k
  induction k with
  | zero =>
    intro n j M h1 h2 hp hs hd
    obtain ⟨n, rfl⟩ : ∃ k, n = k + 1 := ⟨n - 1, by omega⟩
    rw [f_X11_becomes_2, f_X11_becomes_2b]
    have e : (13, R.take j ++ D.drop j) = (13, R) := by rw [List.take_of_length_le (by omega), List.drop_eq_nil_of_le (by omega), List.append_nil]
    rw [e] at hd
    simp (disch := omega) only [n_69, n_50, n_13, Option.bind_some, bd2_some, bdX_ok, bdX_er, nm_eq, n_0, n_1, n_2, n_3, n_4, n_5, n_6, n_7, n_8, n_9, n_10, n_11, n_12, n_14, n_15, n_16, n_17, n_18, n_19, n_20, n_21, n_24, n_27, n_28, n_32, n_43, n_45, n_48, n_56, n_57, n_59, n_64, n_70, n_97, n_99, n_100, n_104, n_118, n_122, n_126, n_127, n_128, n_129, n_130, n_150, n_255, n_600, n_1000, n_1050, n_1200, n_999999, n_1000000, iI_neg, iI_add, iI_sub, iI_mul, ile, ilt, ieq]
    rw [if_pos (by omega), set_self hd]
  | succ k ih =>
    intro n j M h1 h2 hp hs hd
    obtain ⟨n, rfl⟩ : ∃ k, n = k + 1 := ⟨n - 1, by omega⟩
    rw [f_X11_becomes_2, f_X11_becomes_2b]
    have hv := hg j (by omega)
    have e1 : aI M s 13 (iI j) = some (g j) := aI_of hs (by omega) hv
    have hld := (List.getElem?_eq_some_iff.mp hd).1
    have e2 : aSet M d 13 (iI j) (.int (g j)) = some (M.set d (13, R.take (j + 1) ++ D.drop (j + 1))) := by
      rw [aSet_of hd (by rw [List.length_append, List.length_take, List.length_drop]; omega) (by omega), row_step hD hR (by omega) hv]
    simp (disch := omega) only [n_69, n_50, n_13, Option.bind_some, bd2_some, bdX_ok, bdX_er, nm_eq, n_0, n_1, n_2, n_3, n_4, n_5, n_6, n_7, n_8, n_9, n_10, n_11, n_12, n_14, n_15, n_16, n_17, n_18, n_19, n_20, n_21, n_24, n_27, n_28, n_32, n_43, n_45, n_48, n_56, n_57, n_59, n_64, n_70, n_97, n_99, n_100, n_104, n_118, n_122, n_126, n_127, n_128, n_129, n_130, n_150, n_255, n_600, n_1000, n_1050, n_1200, n_999999, n_1000000, iI_neg, iI_add, iI_sub, iI_mul, ile, ilt, ieq, hp, Int.zero_add, e1, e2]
    rw [if_neg (by omega), show ((j : Int) + 1) = ((j + 1 : Nat) : Int) from by omega]
    have := ih n (j + 1) (M.set d (13, R.take (j + 1) ++ D.drop (j + 1))) (by omega) (by omega) (by
      unfold gP oGet at hp ⊢
      rw [List.getElem?_set_ne (Ne.symm ha0)]; exact hp) (by rw [List.getElem?_set_ne (Ne.symm hs0)]; exact hs) (by rw [List.getElem?_set_self hld])
    rw [List.set_set] at this
    exact this
end X11
