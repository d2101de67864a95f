/-! the methods of texts -/
def t_J0_coder_7d493 : Mt := (yJ0_coder_7d493, cJ0_coder_7d493, 1, (some (.byte)), (0, 0), (0, 0), false)
theorem mw_J0_coder_7d493 : Cond.initialized (mN t_J0_coder_7d493).cls ∈ TBg ∧ Cond.code (mN t_J0_coder_7d493) (mB t_J0_coder_7d493) (mL t_J0_coder_7d493) (mR t_J0_coder_7d493) ∈ TBg ∧ (mN t_J0_coder_7d493).cls ≠ "java/lang/invoke/MethodHandle" ∧ (mN t_J0_coder_7d493).cls ≠ "java/lang/invoke/VarHandle" ∧ (parseMethodDescriptor (mN t_J0_coder_7d493).desc).map (fun d => d.parameters.length) = some 0 := ⟨TBg_of 67 (by decide +kernel) rfl, TBg_of 701 (by decide +kernel) rfl, show yJ0_coder_7d493.cls ≠ "java/lang/invoke/MethodHandle" by decide, show yJ0_coder_7d493.cls ≠ "java/lang/invoke/VarHandle" by decide, show (parseMethodDescriptor yJ0_coder_7d493.desc).map (fun d => d.parameters.length) = some 0 by decide +kernel⟩
theorem mi_J0_coder_7d493 : Cond.instanceMethod (mN t_J0_coder_7d493) ∈ TBg := TBg_of 699 (show lw_tbl[699]? = some (Cond.instanceMethod yJ0_coder_7d493) by decide +kernel) rfl
theorem me_J0_coder_7d493 : Cond.selects (mN t_J0_coder_7d493).cls (mN t_J0_coder_7d493) (mN t_J0_coder_7d493) ∈ TBg := TBg_of 700 (show lw_tbl[700]? = some (Cond.selects yJ0_coder_7d493.cls yJ0_coder_7d493 yJ0_coder_7d493) by decide +kernel) rfl
def t_J0_isLatin1_aae02 : Mt := (yJ0_isLatin1_aae02, cJ0_isLatin1_aae02, 1, (some (.boolean)), (0, 0), (0, 0), false)
theorem mw_J0_isLatin1_aae02 : Cond.initialized (mN t_J0_isLatin1_aae02).cls ∈ TBg ∧ Cond.code (mN t_J0_isLatin1_aae02) (mB t_J0_isLatin1_aae02) (mL t_J0_isLatin1_aae02) (mR t_J0_isLatin1_aae02) ∈ TBg ∧ (mN t_J0_isLatin1_aae02).cls ≠ "java/lang/invoke/MethodHandle" ∧ (mN t_J0_isLatin1_aae02).cls ≠ "java/lang/invoke/VarHandle" ∧ (parseMethodDescriptor (mN t_J0_isLatin1_aae02).desc).map (fun d => d.parameters.length) = some 0 := ⟨TBg_of 67 (by decide +kernel) rfl, TBg_of 711 (by decide +kernel) rfl, show yJ0_isLatin1_aae02.cls ≠ "java/lang/invoke/MethodHandle" by decide, show yJ0_isLatin1_aae02.cls ≠ "java/lang/invoke/VarHandle" by decide, show (parseMethodDescriptor yJ0_isLatin1_aae02.desc).map (fun d => d.parameters.length) = some 0 by decide +kernel⟩
theorem mi_J0_isLatin1_aae02 : Cond.instanceMethod (mN t_J0_isLatin1_aae02) ∈ TBg := TBg_of 709 (show lw_tbl[709]? = some (Cond.instanceMethod yJ0_isLatin1_aae02) by decide +kernel) rfl
theorem me_J0_isLatin1_aae02 : Cond.selects (mN t_J0_isLatin1_aae02).cls (mN t_J0_isLatin1_aae02) (mN t_J0_isLatin1_aae02) ∈ TBg := TBg_of 710 (show lw_tbl[710]? = some (Cond.selects yJ0_isLatin1_aae02.cls yJ0_isLatin1_aae02 yJ0_isLatin1_aae02) by decide +kernel) rfl
def t_J3_checkIndex_8e157 : Mt := (yJ3_checkIndex_8e157, cJ3_checkIndex_8e157, 3, (some (.int)), (0, 0), (0, 0), false)
theorem mw_J3_checkIndex_8e157 : Cond.initialized (mN t_J3_checkIndex_8e157).cls ∈ TBg ∧ Cond.code (mN t_J3_checkIndex_8e157) (mB t_J3_checkIndex_8e157) (mL t_J3_checkIndex_8e157) (mR t_J3_checkIndex_8e157) ∈ TBg ∧ (mN t_J3_checkIndex_8e157).cls ≠ "java/lang/invoke/MethodHandle" ∧ (mN t_J3_checkIndex_8e157).cls ≠ "java/lang/invoke/VarHandle" ∧ (parseMethodDescriptor (mN t_J3_checkIndex_8e157).desc).map (fun d => d.parameters.length) = some 3 := ⟨TBg_of 69 (by decide +kernel) rfl, TBg_of 722 (by decide +kernel) rfl, show yJ3_checkIndex_8e157.cls ≠ "java/lang/invoke/MethodHandle" by decide, show yJ3_checkIndex_8e157.cls ≠ "java/lang/invoke/VarHandle" by decide, show (parseMethodDescriptor yJ3_checkIndex_8e157.desc).map (fun d => d.parameters.length) = some 3 by decide +kernel⟩
theorem ms_J3_checkIndex_8e157 : Cond.static (mN t_J3_checkIndex_8e157) ∈ TBg := TBg_of 721 (by decide +kernel) rfl
def t_J0_checkIndex_df160 : Mt := (yJ0_checkIndex_df160, cJ0_checkIndex_df160, 2, none, (1, 22), (0, 0), false)
theorem mw_J0_checkIndex_df160 : Cond.initialized (mN t_J0_checkIndex_df160).cls ∈ TBg ∧ Cond.code (mN t_J0_checkIndex_df160) (mB t_J0_checkIndex_df160) (mL t_J0_checkIndex_df160) (mR t_J0_checkIndex_df160) ∈ TBg ∧ (mN t_J0_checkIndex_df160).cls ≠ "java/lang/invoke/MethodHandle" ∧ (mN t_J0_checkIndex_df160).cls ≠ "java/lang/invoke/VarHandle" ∧ (parseMethodDescriptor (mN t_J0_checkIndex_df160).desc).map (fun d => d.parameters.length) = some 2 := ⟨TBg_of 67 (by decide +kernel) rfl, TBg_of 717 (by decide +kernel) rfl, show yJ0_checkIndex_df160.cls ≠ "java/lang/invoke/MethodHandle" by decide, show yJ0_checkIndex_df160.cls ≠ "java/lang/invoke/VarHandle" by decide, show (parseMethodDescriptor yJ0_checkIndex_df160.desc).map (fun d => d.parameters.length) = some 2 by decide +kernel⟩
theorem ms_J0_checkIndex_df160 : Cond.static (mN t_J0_checkIndex_df160) ∈ TBg := TBg_of 716 (by decide +kernel) rfl
def t_J1_charAt_3b067 : Mt := (yJ1_charAt_3b067, cJ1_charAt_3b067, 2, (some (.char)), (2, 43), (0, 0), false)
theorem mw_J1_charAt_3b067 : Cond.initialized (mN t_J1_charAt_3b067).cls ∈ TBg ∧ Cond.code (mN t_J1_charAt_3b067) (mB t_J1_charAt_3b067) (mL t_J1_charAt_3b067) (mR t_J1_charAt_3b067) ∈ TBg ∧ (mN t_J1_charAt_3b067).cls ≠ "java/lang/invoke/MethodHandle" ∧ (mN t_J1_charAt_3b067).cls ≠ "java/lang/invoke/VarHandle" ∧ (parseMethodDescriptor (mN t_J1_charAt_3b067).desc).map (fun d => d.parameters.length) = some 2 := ⟨TBg_of 68 (by decide +kernel) rfl, TBg_of 714 (by decide +kernel) rfl, show yJ1_charAt_3b067.cls ≠ "java/lang/invoke/MethodHandle" by decide, show yJ1_charAt_3b067.cls ≠ "java/lang/invoke/VarHandle" by decide, show (parseMethodDescriptor yJ1_charAt_3b067.desc).map (fun d => d.parameters.length) = some 2 by decide +kernel⟩
theorem ms_J1_charAt_3b067 : Cond.static (mN t_J1_charAt_3b067) ∈ TBg := TBg_of 713 (by decide +kernel) rfl
theorem cl_J0_335 : Cl RJ0 335 t_J0_coder_7d493 0 := ⟨TBg_of 698 (show lw_tbl[698]? = some (Cond.methodLink RJ0 335 yJ0_coder_7d493) by decide +kernel) rfl, mw_J0_coder_7d493.1, mw_J0_coder_7d493.2.1, mw_J0_coder_7d493.2.2.1, mw_J0_coder_7d493.2.2.2.1, mw_J0_coder_7d493.2.2.2.2⟩
theorem cl_J0_492 : Cl RJ0 492 t_J0_isLatin1_aae02 0 := ⟨TBg_of 708 (show lw_tbl[708]? = some (Cond.methodLink RJ0 492 yJ0_isLatin1_aae02) by decide +kernel) rfl, mw_J0_isLatin1_aae02.1, mw_J0_isLatin1_aae02.2.1, mw_J0_isLatin1_aae02.2.2.1, mw_J0_isLatin1_aae02.2.2.2.1, mw_J0_isLatin1_aae02.2.2.2.2⟩
theorem cl_J0_495 : Cl RJ0 495 t_J1_charAt_3b067 2 := ⟨TBg_of 712 (show lw_tbl[712]? = some (Cond.methodLink RJ0 495 yJ1_charAt_3b067) by decide +kernel) rfl, mw_J1_charAt_3b067.1, mw_J1_charAt_3b067.2.1, mw_J1_charAt_3b067.2.2.1, mw_J1_charAt_3b067.2.2.2.1, mw_J1_charAt_3b067.2.2.2.2⟩
theorem cl_J0_1059 : Cl RJ0 1059 t_J3_checkIndex_8e157 3 := ⟨TBg_of 720 (show lw_tbl[720]? = some (Cond.methodLink RJ0 1059 yJ3_checkIndex_8e157) by decide +kernel) rfl, mw_J3_checkIndex_8e157.1, mw_J3_checkIndex_8e157.2.1, mw_J3_checkIndex_8e157.2.2.1, mw_J3_checkIndex_8e157.2.2.2.1, mw_J3_checkIndex_8e157.2.2.2.2⟩
theorem cl_J1_9 : Cl RJ1 9 t_J0_checkIndex_df160 2 := ⟨TBg_of 715 (show lw_tbl[715]? = some (Cond.methodLink RJ1 9 yJ0_checkIndex_df160) by decide +kernel) rfl, mw_J0_checkIndex_df160.1, mw_J0_checkIndex_df160.2.1, mw_J0_checkIndex_df160.2.2.1, mw_J0_checkIndex_df160.2.2.2.1, mw_J0_checkIndex_df160.2.2.2.2⟩
/-! the JDK's own methods of texts: what they answer of the four texts -/
def f_J0_length_8abf5 (fu : Nat) (a0 : Nat) (M : List Ob) : Option (Int32 × List Ob) := if 1000000 ≤ a0 ∧ a0 < 1000004 then some (Int32.ofNat (lensT.getD (a0 - 1000000) 0), M) else none
def f_J0_charAt_5068e (fu : Nat) (a0 : Nat) (a1 : Int32) (M : List Ob) : Option (Int32 × List Ob) := if 1000000 ≤ a0 ∧ a0 < 1000004 ∧ ¬ a1 < 0 ∧ a1.toNatClampNeg < lensT.getD (a0 - 1000000) 0 then some ((bytsT.getD (a0 - 1000000) []).getD a1.toNatClampNeg 0, M) else none
theorem str_in_J0_length_8abf5 {fu a0 : Nat} {M : List Ob} {x : Int32 × List Ob} (h : f_J0_length_8abf5 fu a0 M = some x) : 1000000 ≤ a0 ∧ a0 < 1000004 := by
  unfold f_J0_length_8abf5 at h
  split at h
  · assumption
  · cases h
theorem str_in_J0_charAt_5068e {fu a0 : Nat} {a1 : Int32} {M : List Ob} {x : Int32 × List Ob} (h : f_J0_charAt_5068e fu a0 a1 M = some x) : 1000000 ≤ a0 ∧ a0 < 1000004 := by
  unfold f_J0_charAt_5068e at h
  split at h
  · rename_i q; exact ⟨q.1, q.2.1⟩
  · cases h
theorem ok_J0_coder {G : GT} {j : Nat} (hj : j < 4) {M : List Ob} : Sp G t_J0_coder_7d493 [.ref (1000000 + j)] M (.inl (some (.int 0)), M) := by
  refine Sp.of rfl (by decide +kernel) (cat_all rfl) (Nat.le_of_ble_eq_true rfl) ?_
  show X G t_J0_coder_7d493 [] 0 [some (.ref (1000000 + j))] [] M 0 0 _
  refine X.getsZ (pc' := 3) dJ0_coder_7d493_0 rfl (TBg_of 702 (by decide +kernel) rfl) ?_
  refine X.if_eq (tgt := 13) (pc' := 6) dJ0_coder_7d493_3 (by decide) rfl (fun hc => absurd hc (by decide)) (fun hc => ?_)
  refine X.aload_n (x := 1000000 + j) (pc' := 7) dJ0_coder_7d493_6 rfl rfl rfl ?_
  refine X.getC (pc' := 10) dJ0_coder_7d493_7 rfl (TBg_of 1730 (by decide +kernel) rfl) hj ?_
  refine X.goto (pc' := 14) dJ0_coder_7d493_10 (by decide) ?_
  exact X.iret (ty := .byte) dJ0_coder_7d493_14 rfl (by decide) (Nat.le_of_ble_eq_true rfl) (Nat.le_of_ble_eq_true rfl) rfl
theorem ok_J0_isLatin1 {G : GT} {j : Nat} (hj : j < 4) {M : List Ob} : Sp G t_J0_isLatin1_aae02 [.ref (1000000 + j)] M (.inl (some (.int 1)), M) := by
  refine Sp.of rfl (by decide +kernel) (cat_all rfl) (Nat.le_of_ble_eq_true rfl) ?_
  show X G t_J0_isLatin1_aae02 [] 0 [some (.ref (1000000 + j))] [] M 0 0 _
  refine X.getsZ (pc' := 3) dJ0_isLatin1_aae02_0 rfl (TBg_of 702 (by decide +kernel) rfl) ?_
  refine X.if_eq (tgt := 17) (pc' := 6) dJ0_isLatin1_aae02_3 (by decide) rfl (fun hc => absurd hc (by decide)) (fun hc => ?_)
  refine X.aload_n (x := 1000000 + j) (pc' := 7) dJ0_isLatin1_aae02_6 rfl rfl rfl ?_
  refine X.getC (pc' := 10) dJ0_isLatin1_aae02_7 rfl (TBg_of 1730 (by decide +kernel) rfl) hj ?_
  refine X.if_ne (tgt := 17) (pc' := 13) dJ0_isLatin1_aae02_10 (by decide) rfl (fun hc => absurd rfl hc) (fun hc => ?_)
  refine X.iconst (v := 1) (pc' := 14) dJ0_isLatin1_aae02_13 rfl (by decide) ?_
  refine X.goto (pc' := 18) dJ0_isLatin1_aae02_14 (by decide) ?_
  exact X.iret (ty := .boolean) dJ0_isLatin1_aae02_18 rfl (by decide) (Nat.le_of_ble_eq_true rfl) (Nat.le_of_ble_eq_true rfl) rfl
theorem ok_J3_checkIndex {G : GT} {i n : Int32} {v : Value} (hv : v.category = 1) (h0 : ¬ i < 0) (h1 : i < n) {M : List Ob} : Sp G t_J3_checkIndex_8e157 [.int i, .int n, v] M (.inl (some (.int i)), M) := by
  refine Sp.of rfl (by decide +kernel) (fun w hw => ?_) (Nat.le_of_ble_eq_true rfl) ?_
  · simp only [List.mem_cons, List.not_mem_nil, or_false] at hw
    rcases hw with rfl | rfl | rfl
    · rfl
    · rfl
    · exact hv
  show X G t_J3_checkIndex_8e157 [] 0 [some (.int i), some (.int n), some v] [] M 0 0 _
  refine X.iload_n (x := i) (pc' := 1) dJ3_checkIndex_8e157_0 rfl rfl rfl ?_
  refine X.if_lt (tgt := 9) (pc' := 4) dJ3_checkIndex_8e157_1 (by decide) rfl (fun hc => absurd hc h0) (fun hc => ?_)
  refine X.iload_n (x := i) (pc' := 5) dJ3_checkIndex_8e157_4 rfl rfl rfl ?_
  refine X.iload_n (x := n) (pc' := 6) dJ3_checkIndex_8e157_5 rfl rfl rfl ?_
  refine X.icmp_lt (tgt := 16) (pc' := 9) dJ3_checkIndex_8e157_6 (by decide) rfl (fun hc => ?_) (fun hc => absurd h1 hc)
  refine X.iload_n (x := i) (pc' := 17) dJ3_checkIndex_8e157_16 rfl rfl rfl ?_
  exact X.iret (ty := .int) dJ3_checkIndex_8e157_17 rfl rfl (Nat.le_of_ble_eq_true rfl) (Nat.le_of_ble_eq_true rfl) rfl
theorem ok_J0_checkIndex {G : GT} {i n : Int32} (h0 : ¬ i < 0) (h1 : i < n) {M : List Ob} : Sp G t_J0_checkIndex_df160 [.int i, .int n] M (.inl none, M) := by
  refine Sp.of rfl (by decide +kernel) (cat_all rfl) (Nat.le_of_ble_eq_true rfl) ?_
  show X G t_J0_checkIndex_df160 [] 0 [some (.int i), some (.int n)] [] M 0 0 _
  refine X.iload_n (x := i) (pc' := 1) dJ0_checkIndex_df160_0 rfl rfl rfl ?_
  refine X.iload_n (x := n) (pc' := 2) dJ0_checkIndex_df160_1 rfl rfl rfl ?_
  refine X.getsF (pc' := 5) dJ0_checkIndex_df160_2 rfl (TBg_of 718 (by decide +kernel) rfl) (fun v hv => ?_)
  refine X.callS (v := some (.int i)) (As := [.int i, .int n, v]) (st := []) (M' := M) (pc' := 8) dJ0_checkIndex_df160_5 rfl cl_J0_1059 ms_J3_checkIndex_8e157 ⟨⟨Nat.le_of_ble_eq_true rfl, Nat.le_of_ble_eq_true rfl⟩, Nat.le_of_ble_eq_true rfl, Nat.le_of_ble_eq_true rfl⟩ rfl (Nat.le_of_ble_eq_true rfl) (ok_J3_checkIndex hv h0 h1) ?_
  refine X.pop (pc' := 9) dJ0_checkIndex_df160_8 rfl rfl ?_
  exact X.vret dJ0_checkIndex_df160_9 rfl (Nat.le_of_ble_eq_true rfl) (Nat.le_of_ble_eq_true rfl) rfl
theorem tx_lt {i : Int32} {j : Nat} (hj : j < 4) (h0 : ¬ i < 0) (h1 : i.toNatClampNeg < lensT.getD j 0) : i < Int32.ofNat (lensT.getD j 0) ∧ vp_in i (lensT.getD j 0) := by
  have hb : lensT.getD j 0 < 2 ^ 31 := (by decide : ∀ i, i < 4 → lensT.getD i 0 < 2 ^ 31) j hj
  refine ⟨?_, fun q => ?_⟩
  · apply Int32.lt_iff_toInt_lt.mpr
    rw [Int32.toInt_ofNat_of_lt hb]
    have h0' : (0 : Int) ≤ i.toInt := by
      have := Int32.not_lt.mp h0
      simpa using Int32.le_iff_toInt_le.mp this
    have : i.toNatClampNeg = i.toInt.toNat := rfl
    omega
  · rcases q with q | q
    · exact h0 q
    · omega
theorem tx_ch : ∀ j, j < 4 → ∀ q, q < lensT.getD j 0 → ((((bytsT.getD j []).getD q 0) &&& 255).toUInt32 % 65536).toInt32 = (bytsT.getD j []).getD q 0 ∧ narrow .char (.int ((bytsT.getD j []).getD q 0)) = .int ((bytsT.getD j []).getD q 0) := by decide +kernel
theorem ok_J1_charAt {G : GT} {j : Nat} {i : Int32} (hj : j < 4) (h0 : ¬ i < 0) (h1 : i.toNatClampNeg < lensT.getD j 0) {M : List Ob} : Sp G t_J1_charAt_3b067 [.ref (2000000 + j), .int i] M (.inl (some (.int ((bytsT.getD j []).getD i.toNatClampNeg 0))), M) := by
  obtain ⟨h2, h3⟩ := tx_lt hj h0 h1
  refine Sp.of rfl (by decide +kernel) (cat_all rfl) (Nat.le_of_ble_eq_true rfl) ?_
  show X G t_J1_charAt_3b067 [] 0 [some (.ref (2000000 + j)), some (.int i)] [] M 0 0 _
  refine X.iload_n (x := i) (pc' := 1) dJ1_charAt_3b067_0 rfl rfl rfl ?_
  refine X.aload_n (x := 2000000 + j) (pc' := 2) dJ1_charAt_3b067_1 rfl rfl rfl ?_
  refine X.tlen (pc' := 3) dJ1_charAt_3b067_2 rfl hj ?_
  refine X.callS (v := none) (As := [.int i, .int (Int32.ofNat (lensT.getD j 0))]) (st := []) (M' := M) (pc' := 6) dJ1_charAt_3b067_3 rfl cl_J1_9 ms_J0_checkIndex_df160 ⟨⟨Nat.le_of_ble_eq_true rfl, Nat.le_of_ble_eq_true rfl⟩, Nat.le_of_ble_eq_true rfl, Nat.le_of_ble_eq_true rfl⟩ rfl (Nat.le_of_ble_eq_true rfl) (ok_J0_checkIndex h0 h2) ?_
  refine X.aload_n (x := 2000000 + j) (pc' := 7) dJ1_charAt_3b067_6 rfl rfl rfl ?_
  refine X.iload_n (x := i) (pc' := 8) dJ1_charAt_3b067_7 rfl rfl rfl ?_
  refine X.tbld (pc' := 9) dJ1_charAt_3b067_8 rfl hj h3 ?_
  refine X.sipush (v := 255) (pc' := 12) dJ1_charAt_3b067_9 rfl (by decide) ?_
  refine X.iand (pc' := 13) dJ1_charAt_3b067_12 rfl ?_
  refine X.i2c (pc' := 14) dJ1_charAt_3b067_13 rfl (tx_ch j hj _ h1).1 ?_
  exact X.iret (ty := .char) dJ1_charAt_3b067_14 rfl (tx_ch j hj _ h1).2 (Nat.le_of_ble_eq_true rfl) (Nat.le_of_ble_eq_true rfl) rfl
theorem ok_J0_length_8abf5 {G : GT} {fu a0 : Nat} {M : List Ob} {x : Int32 × List Ob} (h : f_J0_length_8abf5 fu a0 M = some x) : Sp G t_J0_length_8abf5 [.ref a0] M (oI x) := by
  obtain ⟨r1, r2⟩ := str_in_J0_length_8abf5 h
  obtain ⟨j, rfl⟩ : ∃ j, a0 = 1000000 + j := ⟨a0 - 1000000, by omega⟩
  have hj : j < 4 := by omega
  unfold f_J0_length_8abf5 at h
  rw [if_pos ⟨r1, r2⟩, show 1000000 + j - 1000000 = j by omega] at h
  cases h
  refine Sp.of rfl (by decide +kernel) (cat_all rfl) (Nat.le_of_ble_eq_true rfl) ?_
  show X G t_J0_length_8abf5 [] 0 [some (.ref (1000000 + j))] [] M 0 0 _
  refine X.aload_n (x := 1000000 + j) (pc' := 1) dJ0_length_8abf5_0 rfl rfl rfl ?_
  refine X.getV (pc' := 4) dJ0_length_8abf5_1 rfl (TBg_of 1729 (by decide +kernel) rfl) hj ?_
  refine X.tlen (pc' := 5) dJ0_length_8abf5_4 rfl hj ?_
  refine X.aload_n (x := 1000000 + j) (pc' := 6) dJ0_length_8abf5_5 rfl rfl rfl ?_
  refine X.callT (b := 1000000 + j) (v := some (.int 0)) (As := []) (st := [.int (Int32.ofNat (lensT.getD j 0))]) (M' := M) (pc' := 9) dJ0_length_8abf5_6 rfl cl_J0_335 mi_J0_coder_7d493 me_J0_coder_7d493 ⟨r1, r2⟩ ⟨⟨Nat.le_of_ble_eq_true rfl, Nat.le_of_ble_eq_true rfl⟩, Nat.le_of_ble_eq_true rfl, Nat.le_of_ble_eq_true rfl⟩ rfl (Nat.le_of_ble_eq_true rfl) (ok_J0_coder hj) ?_
  refine X.ishr (pc' := 10) dJ0_length_8abf5_9 rfl ?_
  rw [(by decide : ∀ j, j < 4 → Int32.ofNat (lensT.getD j 0) >>> ((0 : Int32) &&& 31) = Int32.ofNat (lensT.getD j 0)) j hj]
  exact X.iret (ty := .int) dJ0_length_8abf5_10 rfl rfl (Nat.le_of_ble_eq_true rfl) (Nat.le_of_ble_eq_true rfl) rfl
theorem ok_J0_charAt_5068e {G : GT} {fu a0 : Nat} {a1 : Int32} {M : List Ob} {x : Int32 × List Ob} (h : f_J0_charAt_5068e fu a0 a1 M = some x) : Sp G t_J0_charAt_5068e [.ref a0, .int a1] M (oI x) := by
  obtain ⟨r1, r2⟩ := str_in_J0_charAt_5068e h
  obtain ⟨j, rfl⟩ : ∃ j, a0 = 1000000 + j := ⟨a0 - 1000000, by omega⟩
  have hj : j < 4 := by omega
  unfold f_J0_charAt_5068e at h
  split at h
  rotate_left
  · cases h
  rename_i hq
  obtain ⟨-, -, h0, h1⟩ := hq
  rw [show 1000000 + j - 1000000 = j by omega] at h h1
  cases h
  refine Sp.of rfl (by decide +kernel) (cat_all rfl) (Nat.le_of_ble_eq_true rfl) ?_
  show X G t_J0_charAt_5068e [] 0 [some (.ref (1000000 + j)), some (.int a1)] [] M 0 0 _
  refine X.aload_n (x := 1000000 + j) (pc' := 1) dJ0_charAt_5068e_0 rfl rfl rfl ?_
  refine X.callT (b := 1000000 + j) (v := some (.int 1)) (As := []) (st := []) (M' := M) (pc' := 4) dJ0_charAt_5068e_1 rfl cl_J0_492 mi_J0_isLatin1_aae02 me_J0_isLatin1_aae02 ⟨r1, r2⟩ ⟨⟨Nat.le_of_ble_eq_true rfl, Nat.le_of_ble_eq_true rfl⟩, Nat.le_of_ble_eq_true rfl, Nat.le_of_ble_eq_true rfl⟩ rfl (Nat.le_of_ble_eq_true rfl) (ok_J0_isLatin1 hj) ?_
  refine X.if_eq (tgt := 16) (pc' := 7) dJ0_charAt_5068e_4 (by decide) rfl (fun hc => absurd hc (by decide)) (fun hc => ?_)
  refine X.aload_n (x := 1000000 + j) (pc' := 8) dJ0_charAt_5068e_7 rfl rfl rfl ?_
  refine X.getV (pc' := 11) dJ0_charAt_5068e_8 rfl (TBg_of 1729 (by decide +kernel) rfl) hj ?_
  refine X.iload_n (x := a1) (pc' := 12) dJ0_charAt_5068e_11 rfl rfl rfl ?_
  refine X.callS (v := some (.int ((bytsT.getD j []).getD a1.toNatClampNeg 0))) (As := [.ref (2000000 + j), .int a1]) (st := []) (M' := M) (pc' := 15) dJ0_charAt_5068e_12 rfl cl_J0_495 ms_J1_charAt_3b067 ⟨⟨Nat.le_of_ble_eq_true rfl, Nat.le_of_ble_eq_true rfl⟩, Nat.le_of_ble_eq_true rfl, Nat.le_of_ble_eq_true rfl⟩ rfl (Nat.le_of_ble_eq_true rfl) (ok_J1_charAt hj h0 h1) ?_
  exact X.iret (ty := .char) dJ0_charAt_5068e_15 rfl (tx_ch j hj _ h1).2 (Nat.le_of_ble_eq_true rfl) (Nat.le_of_ble_eq_true rfl) rfl
