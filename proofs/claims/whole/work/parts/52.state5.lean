/-! journeys and the states before changes -/
def canJ (N : Nt) (S : List Int) (a del : Int) : Prop := (S.length : Int) < 20 ∧ (jst N S).1 ≠ nT N ∧ aTl N a = (jst N S).1 ∧ (del = 0 ∨ 0 < (jst N S).2.2)
theorem jst_snoc {N : Nt} {S : List Int} {c : Int} : jst N (S ++ [c]) = jst1 N (jst N S) c := by unfold jst; rw [List.foldl_append]; rfl
def SOK (N : Nt) (S : List Int) : Prop := ∀ c ∈ S, 0 ≤ c ∧ c < 200 ∧ c % 100 < nA N
theorem jst_r {N : Nt} (hW : WFN N) : ∀ (n : Nat) (S : List Int), S.length = n → SOK N S → 0 ≤ (jst N S).1 ∧ (jst N S).1 < nN N ∧ 0 ≤ (jst N S).2.1 ∧ (jst N S).2.1 ≤ 198 * n ∧ nB N - n ≤ (jst N S).2.2 ∧ (jst N S).2.2 ≤ nB N := by
  have hw := hW.1
  intro n
  induction n with
  | zero =>
    intro S hl _
    have : S = [] := List.eq_nil_of_length_eq_zero hl
    subst this
    show 0 ≤ nS N ∧ nS N < nN N ∧ (0 : Int) ≤ 0 ∧ (0 : Int) ≤ _ ∧ nB N - _ ≤ nB N ∧ nB N ≤ nB N
    omega
  | succ n ih =>
    intro S hl h
    rcases List.eq_nil_or_concat S with rfl | ⟨S0, c, rfl⟩
    · simp at hl
    · rw [List.concat_eq_append] at hl h ⊢
      have hi := ih S0 (by simpa using hl) (fun k hk => h k (by simp [hk]))
      have hc := h c (by simp)
      have hA := hW.arc (k := c % 100) (by omega) hc.2.2
      rw [jst_snoc]
      unfold jst1
      simp only []
      by_cases q : 100 ≤ c
      · rw [if_pos q, if_pos q]; omega
      · rw [if_neg q, if_neg q]; omega
section JO
variable {w : Wl} {m : Mm} {fu p q : Nat} {N : Nt} {S : List Int} {a del : Int}
theorem jnow (h : jRep m q N S) : m (q + 1) S.length = (jst N S).1 ∧ m (q + 2) S.length = (jst N S).2.1 ∧ m (q + 3) S.length = (jst N S).2.2 := by
  have := h.2.2.2 S.length (Nat.le_refl _)
  rw [List.take_length] at this
  exact this
theorem nodeNow_eq (h : jRep m q N S) : f_X2_nodeNow fu q (mem w m) = some (iI (jst N S).1, mem w m) := by
  have h20 := h.2.2.1
  unfold f_X2_nodeNow
  simp (disch := omega) only [Option.bind_some, bd2_some, bdX_ok, bdX_er, nm_eq, n_0, n_1, n_2, n_3, n_4, n_5, n_6, n_7, n_8, n_9, n_10, n_11, n_12, n_14, n_15, n_16, n_17, n_18, n_19, n_20, n_21, n_24, n_27, n_28, n_32, n_43, n_45, n_48, n_56, n_57, n_59, n_64, n_70, n_97, n_99, n_100, n_104, n_118, n_122, n_126, n_127, n_128, n_129, n_130, n_150, n_255, n_600, n_1000, n_1050, n_1200, n_999999, n_1000000, iI_neg, iI_add, iI_sub, iI_mul, ile, ilt, ieq, J_has h.1, J_0 h.1, J_p0 h.1, J_1 h.1, J_2 h.1, J_3 h.1, J_g1 h.1, J_g2 h.1, J_g3 h.1, J_s1 h.1, J_s2 h.1, J_s3 h.1, h.2.1, (jnow h).1]
theorem timeNow_eq (h : jRep m q N S) : f_X2_timeNow fu q (mem w m) = some (iI (jst N S).2.1, mem w m) := by
  have h20 := h.2.2.1
  unfold f_X2_timeNow
  simp (disch := omega) only [Option.bind_some, bd2_some, bdX_ok, bdX_er, nm_eq, n_0, n_1, n_2, n_3, n_4, n_5, n_6, n_7, n_8, n_9, n_10, n_11, n_12, n_14, n_15, n_16, n_17, n_18, n_19, n_20, n_21, n_24, n_27, n_28, n_32, n_43, n_45, n_48, n_56, n_57, n_59, n_64, n_70, n_97, n_99, n_100, n_104, n_118, n_122, n_126, n_127, n_128, n_129, n_130, n_150, n_255, n_600, n_1000, n_1050, n_1200, n_999999, n_1000000, iI_neg, iI_add, iI_sub, iI_mul, ile, ilt, ieq, J_has h.1, J_0 h.1, J_p0 h.1, J_1 h.1, J_2 h.1, J_3 h.1, J_g1 h.1, J_g2 h.1, J_g3 h.1, J_s1 h.1, J_s2 h.1, J_s3 h.1, h.2.1, (jnow h).2.1]
theorem leftNow_eq (h : jRep m q N S) : f_X2_leftNow fu q (mem w m) = some (iI (jst N S).2.2, mem w m) := by
  have h20 := h.2.2.1
  unfold f_X2_leftNow
  simp (disch := omega) only [Option.bind_some, bd2_some, bdX_ok, bdX_er, nm_eq, n_0, n_1, n_2, n_3, n_4, n_5, n_6, n_7, n_8, n_9, n_10, n_11, n_12, n_14, n_15, n_16, n_17, n_18, n_19, n_20, n_21, n_24, n_27, n_28, n_32, n_43, n_45, n_48, n_56, n_57, n_59, n_64, n_70, n_97, n_99, n_100, n_104, n_118, n_122, n_126, n_127, n_128, n_129, n_130, n_150, n_255, n_600, n_1000, n_1050, n_1200, n_999999, n_1000000, iI_neg, iI_add, iI_sub, iI_mul, ile, ilt, ieq, J_has h.1, J_0 h.1, J_p0 h.1, J_1 h.1, J_2 h.1, J_3 h.1, J_g1 h.1, J_g2 h.1, J_g3 h.1, J_s1 h.1, J_s2 h.1, J_s3 h.1, h.2.1, (jnow h).2.2]
theorem canGo_eq (hN : isNet m p N) (h : jRep m q N S) (hS : SOK N S) (ha : 0 ≤ a ∧ a < nA N) (hd : del = 0 ∨ del = 1) : (canJ N S a del → f_X2_canGo fu q p (iI a) (iI del) (mem w m) = some (iI 1, mem w m)) ∧ (¬ canJ N S a del → f_X2_canGo fu q p (iI a) (iI del) (mem w m) = some (iI 0, mem w m)) := by
  have h20 := h.2.2.1
  have hw := hN.2.2.1
  have hj := jst_r hN.2.2 _ S rfl hS
  have hA := hN.2.2.arc ha.1 ha.2
  unfold f_X2_canGo f_X2_canGo_46 canJ
  simp (disch := omega) only [Option.bind_some, bd2_some, bdX_ok, bdX_er, nm_eq, n_0, n_1, n_2, n_3, n_4, n_5, n_6, n_7, n_8, n_9, n_10, n_11, n_12, n_14, n_15, n_16, n_17, n_18, n_19, n_20, n_21, n_24, n_27, n_28, n_32, n_43, n_45, n_48, n_56, n_57, n_59, n_64, n_70, n_97, n_99, n_100, n_104, n_118, n_122, n_126, n_127, n_128, n_129, n_130, n_150, n_255, n_600, n_1000, n_1050, n_1200, n_999999, n_1000000, iI_neg, iI_add, iI_sub, iI_mul, ile, ilt, ieq, J_has h.1, J_0 h.1, J_p0 h.1, J_1 h.1, J_2 h.1, J_3 h.1, J_g1 h.1, J_g2 h.1, J_g3 h.1, J_s1 h.1, J_s2 h.1, J_s3 h.1, h.2.1, nodeNow_eq h, leftNow_eq h, K_has hN, K_0 hN, K_1 hN, K_2 hN, K_3 hN, K_4 hN, K_5 hN, K_6 hN, K_7 hN, K_8 hN, K_tl hN, K_hd hN, K_co hN, K_ex hN]
  by_cases c1 : (20 : Int) ≤ S.length
  · rw [if_pos c1]
    exact ⟨fun q => by omega, fun _ => rfl⟩
  · rw [if_neg c1]
    by_cases c2 : (jst N S).1 = nT N
    · rw [if_pos c2]
      exact ⟨fun q => absurd c2 q.2.1, fun _ => rfl⟩
    · rw [if_neg c2]
      by_cases c3 : aTl N a = (jst N S).1
      · rw [if_pos c3]
        by_cases c4 : del = 0
        · rw [if_pos c4]
          exact ⟨fun _ => rfl, fun q => absurd ⟨by omega, c2, c3, Or.inl c4⟩ q⟩
        · rw [if_neg c4]
          by_cases c5 : (jst N S).2.2 ≤ 0
          · rw [if_pos c5]
            exact ⟨fun q => by omega, fun _ => rfl⟩
          · rw [if_neg c5]
            exact ⟨fun _ => rfl, fun q => absurd ⟨by omega, c2, c3, Or.inr (by omega)⟩ q⟩
      · rw [if_neg c3]
        exact ⟨fun q => absurd q.2.2.1 c3, fun _ => rfl⟩
theorem go_eq (hN : isNet m p N) (h : jRep m q N S) (h20 : (S.length : Int) < 20) (ha : 0 ≤ a ∧ a < nA N) (hd : del = 0 ∨ del = 1) (hpq : p + 5 ≤ q ∨ q + 4 ≤ p) : ∃ m', f_X2_go fu q p (iI a) (iI del) (mem w m) = some ((), mem w m') ∧ (∀ r, (r < q ∨ q + 4 ≤ r) → m' r = m r) ∧ jRep m' q N (S ++ [a + 100 * del]) := by
  have hw := hN.2.2.1
  have hj := h.1
  obtain ⟨n1, n2, n3⟩ := jnow h
  have hN1 : isNet (up m (q + 1) ((S.length : Int) + 1) (aHd N a)) p N := hN.cong (up_ne (by omega)) (up_ne (by omega)) (up_ne (by omega)) (up_ne (by omega)) (up_ne (by omega))
  have ht : f_X2_timeNow fu q (mem w (up m (q + 1) ((S.length : Int) + 1) (aHd N a))) = some (iI (jst N S).2.1, mem w (up m (q + 1) ((S.length : Int) + 1) (aHd N a))) := by
    unfold f_X2_timeNow
    simp (disch := omega) only [Option.bind_some, bd2_some, bdX_ok, bdX_er, nm_eq, n_0, n_1, n_2, n_3, n_4, n_5, n_6, n_7, n_8, n_9, n_10, n_11, n_12, n_14, n_15, n_16, n_17, n_18, n_19, n_20, n_21, n_24, n_27, n_28, n_32, n_43, n_45, n_48, n_56, n_57, n_59, n_64, n_70, n_97, n_99, n_100, n_104, n_118, n_122, n_126, n_127, n_128, n_129, n_130, n_150, n_255, n_600, n_1000, n_1050, n_1200, n_999999, n_1000000, iI_neg, iI_add, iI_sub, iI_mul, ile, ilt, ieq, J_has hj, J_0 hj, J_p0 hj, J_1 hj, J_2 hj, J_3 hj, J_g1 hj, J_g2 hj, J_g3 hj, J_s1 hj, J_s2 hj, J_s3 hj, up_ne, h.2.1, n2]
  have key : ∀ e : Int, ∃ m', f_X2_go_23 fu q p (iI a) (iI del) (iI e) (mem w m) = some ((), mem w m') ∧ (∀ r, (r < q ∨ q + 4 ≤ r) → m' r = m r) ∧ (e = (if 100 ≤ a + 100 * del then aEx N a else 0) → jRep m' q N (S ++ [a + 100 * del])) := by
    intro e
    have hl : f_X2_leftNow fu q (mem w (up (up m (q + 1) ((S.length : Int) + 1) (aHd N a)) (q + 2) ((S.length : Int) + 1) ((jst N S).2.1 + aCo N a + e))) = some (iI (jst N S).2.2, mem w (up (up m (q + 1) ((S.length : Int) + 1) (aHd N a)) (q + 2) ((S.length : Int) + 1) ((jst N S).2.1 + aCo N a + e))) := by
      unfold f_X2_leftNow
      simp (disch := omega) only [Option.bind_some, bd2_some, bdX_ok, bdX_er, nm_eq, n_0, n_1, n_2, n_3, n_4, n_5, n_6, n_7, n_8, n_9, n_10, n_11, n_12, n_14, n_15, n_16, n_17, n_18, n_19, n_20, n_21, n_24, n_27, n_28, n_32, n_43, n_45, n_48, n_56, n_57, n_59, n_64, n_70, n_97, n_99, n_100, n_104, n_118, n_122, n_126, n_127, n_128, n_129, n_130, n_150, n_255, n_600, n_1000, n_1050, n_1200, n_999999, n_1000000, iI_neg, iI_add, iI_sub, iI_mul, ile, ilt, ieq, J_has hj, J_0 hj, J_p0 hj, J_1 hj, J_2 hj, J_3 hj, J_g1 hj, J_g2 hj, J_g3 hj, J_s1 hj, J_s2 hj, J_s3 hj, up_ne, h.2.1, n3]
    have fin : ∀ (lf : Int) (e9 : e = (if 100 ≤ a + 100 * del then aEx N a else 0)) (l9 : lf = (jst N S).2.2 - (if 100 ≤ a + 100 * del then 1 else 0)), jRep (up (up (up (up m (q + 1) ((S.length : Int) + 1) (aHd N a)) (q + 2) ((S.length : Int) + 1) ((jst N S).2.1 + aCo N a + e)) (q + 3) ((S.length : Int) + 1) lf) q 0 ((S.length : Int) + 1)) q N (S ++ [a + 100 * del]) := by
      intro lf e9 l9
      refine ⟨hj, by rw [up_at]; simp, by simp; omega, fun j hj9 => ?_⟩
      simp (disch := omega) only [up_ne]
      have hmod : (a + 100 * del) % 100 = a := by rcases hd with rfl | rfl <;> omega
      by_cases c : j = S.length + 1
      · subst c
        rw [show S.length + 1 = (S ++ [a + 100 * del]).length by simp, List.take_length, jst_snoc]
        rw [show (((S ++ [a + 100 * del]).length : Nat) : Int) = (S.length : Int) + 1 by simp]
        simp (disch := omega) only [up_ne, up_at]
        unfold jst1
        rw [hmod]
        exact ⟨rfl, by rw [e9], l9⟩
      · have hj8 : j ≤ S.length := by simp at hj9; omega
        rw [List.take_append_of_le_length hj8]
        simp (disch := omega) only [up_ne, up_off]
        exact h.2.2.2 j hj8
    unfold f_X2_go_23 f_X2_go_94
    simp (disch := omega) only [Option.bind_some, bd2_some, bdX_ok, bdX_er, nm_eq, n_0, n_1, n_2, n_3, n_4, n_5, n_6, n_7, n_8, n_9, n_10, n_11, n_12, n_14, n_15, n_16, n_17, n_18, n_19, n_20, n_21, n_24, n_27, n_28, n_32, n_43, n_45, n_48, n_56, n_57, n_59, n_64, n_70, n_97, n_99, n_100, n_104, n_118, n_122, n_126, n_127, n_128, n_129, n_130, n_150, n_255, n_600, n_1000, n_1050, n_1200, n_999999, n_1000000, iI_neg, iI_add, iI_sub, iI_mul, ile, ilt, ieq, J_has hj, J_0 hj, J_p0 hj, J_1 hj, J_2 hj, J_3 hj, J_g1 hj, J_g2 hj, J_g3 hj, J_s1 hj, J_s2 hj, J_s3 hj, K_has hN, K_0 hN, K_1 hN, K_2 hN, K_3 hN, K_4 hN, K_5 hN, K_6 hN, K_7 hN, K_8 hN, K_tl hN, K_hd hN, K_co hN, K_ex hN, K_has hN1, K_0 hN1, K_1 hN1, K_2 hN1, K_3 hN1, K_4 hN1, K_5 hN1, K_6 hN1, K_7 hN1, K_8 hN1, K_tl hN1, K_hd hN1, K_co hN1, K_ex hN1, up_ne, h.2.1, ht, hl]
    by_cases c : del = 0
    · rw [if_pos c]
      refine ⟨_, rfl, fun r hr => by simp (disch := omega) only [up_ne], fun e9 => fin _ e9 ?_⟩
      rw [if_neg (by omega)]; omega
    · rw [if_neg c]
      refine ⟨_, rfl, fun r hr => by simp (disch := omega) only [up_ne], fun e9 => fin _ e9 ?_⟩
      rw [if_pos (by omega)]
  unfold f_X2_go
  simp (disch := omega) only [Option.bind_some, bd2_some, bdX_ok, bdX_er, nm_eq, n_0, n_1, n_2, n_3, n_4, n_5, n_6, n_7, n_8, n_9, n_10, n_11, n_12, n_14, n_15, n_16, n_17, n_18, n_19, n_20, n_21, n_24, n_27, n_28, n_32, n_43, n_45, n_48, n_56, n_57, n_59, n_64, n_70, n_97, n_99, n_100, n_104, n_118, n_122, n_126, n_127, n_128, n_129, n_130, n_150, n_255, n_600, n_1000, n_1050, n_1200, n_999999, n_1000000, iI_neg, iI_add, iI_sub, iI_mul, ile, ilt, ieq, J_has hj, J_0 hj, J_p0 hj, J_1 hj, J_2 hj, J_3 hj, J_g1 hj, J_g2 hj, J_g3 hj, J_s1 hj, J_s2 hj, J_s3 hj, K_has hN, K_0 hN, K_1 hN, K_2 hN, K_3 hN, K_4 hN, K_5 hN, K_6 hN, K_7 hN, K_8 hN, K_tl hN, K_hd hN, K_co hN, K_ex hN, h.2.1]
  rw [if_neg (by omega)]
  by_cases c : del = 0
  · rw [if_pos c]
    obtain ⟨m', k1, k2, k3⟩ := key 0
    exact ⟨m', k1, k2, k3 (by rw [if_neg (by omega)])⟩
  · rw [if_neg c]
    obtain ⟨m', k1, k2, k3⟩ := key (aEx N a)
    exact ⟨m', k1, k2, k3 (by rw [if_pos (by omega)])⟩
end JO
/-- the states before the latest changes, the newest first -/
def slotH (nx i : Nat) : Nat := 28 + 25 * ((nx + 7 - i) % 8)
def HR (m : Mm) (H : List Sg) : Prop := ∃ nx : Nat, nx < 8 ∧ m 26 1 = nx ∧ m 26 2 = H.length ∧ H.length ≤ 8 ∧ ∀ (i : Nat) (x : Sg), H[i]? = some x → cRep m (slotH nx i) x
section HI
variable {w : Wl} {m : Mm} {fu : Nat} {H : List Sg} {x : Sg} {v : Int}
theorem sk26 : SK[26]? = some (1, [some 27, none, none]) := by decide +kernel
theorem sk27 : SK[27]? = some (15, [some 28, some 53, some 78, some 103, some 128, some 153, some 178, some 203]) := by decide +kernel
theorem G1_0 : gP (mem w m) 26 1 0 = some 27 := gP_mem sk26 rfl
theorem G1_1 : gI (mem w m) 26 1 1 = some (iI (m 26 1)) := gI_mem sk26 rfl
theorem G1_2 : gI (mem w m) 26 1 2 = some (iI (m 26 2)) := gI_mem sk26 rfl
theorem U1_1 : pF (mem w m) 26 1 1 (.int (iI v)) = some (mem w (up m 26 1 v)) := pF_mem sk26 rfl
theorem U1_2 : pF (mem w m) 26 1 2 (.int (iI v)) = some (mem w (up m 26 2 v)) := pF_mem sk26 rfl
theorem H1 : hasO (mem w m) 26 1 = some () := hasO_mem sk26
theorem R1 {i : Nat} (hi : i < 8) : aP (mem w m) 27 15 (iI (i : Int)) = some (28 + 25 * i) := by
  refine aP_mem sk27 (by omega) (by omega) ?_
  rw [Int.toNat_natCast]
  rcases (show i = 0 ∨ i = 1 ∨ i = 2 ∨ i = 3 ∨ i = 4 ∨ i = 5 ∨ i = 6 ∨ i = 7 by omega) with rfl | rfl | rfl | rfl | rfl | rfl | rfl | rfl <;> rfl
theorem isS_h {i : Nat} (hi : i < 8) : isS (28 + 25 * i) := by
  have h : ∀ i, i < 8 → 28 + 25 * i ∈ basesS := by decide +kernel
  exact isS_all _ (h i hi)
theorem keep_eq (hfu : 100 ≤ fu) (hH : HR m H) (hx : cRep m 1 x) : ∃ m', f_X1_keep fu 26 1 (mem w m) = some ((), mem w m') ∧ (∀ p, (p < 26 ∨ 228 ≤ p) → m' p = m p) ∧ HR m' ((x :: H).take 8) := by
  obtain ⟨nx, h1, h2, h3, h4, h5⟩ := hH
  obtain ⟨m1, p1, p2, p3⟩ := scopy_eq (w := w) (m := m) (fu := fu) (isS_h h1) hx.1 (by omega) hfu
  have hs : ∀ nx', nx' < 8 → (∀ i : Nat, i ≤ 6 → slotH nx' (i + 1) = slotH nx i) → slotH nx' 0 = 28 + 25 * nx → ∀ m' : Mm, (∀ p, p ≠ 26 → m' p = m1 p) → ∀ (i : Nat) (y : Sg), ((x :: H).take 8)[i]? = some y → cRep m' (slotH nx' i) y := by
    intro nx' hn e1 e0 m' hm' i y hi
    have hi8 : i < 8 := by
      have := (List.getElem?_eq_some_iff.mp hi).1
      simp at this; omega
    cases i with
    | zero =>
      rw [List.getElem?_take, if_pos (by omega)] at hi
      have : x = y := by simpa using hi
      subst this
      rw [e0]
      exact (p3 x hx).cong (fun p a b => hm' p (by omega))
    | succ i =>
      rw [List.getElem?_take, if_pos hi8, List.getElem?_cons_succ] at hi
      rw [e1 i (by omega)]
      refine (h5 i y hi).cong (fun p a b => ?_)
      have hne : (nx + 7 - i) % 8 ≠ nx := by omega
      have hlt : (nx + 7 - i) % 8 < 8 := Nat.mod_lt _ (by omega)
      unfold slotH at a b
      rw [hm' p (by omega), p2 p (by omega)]
  have hlen : ((x :: H).take 8).length = min 8 (H.length + 1) := by rw [List.length_take, List.length_cons]
  unfold f_X1_keep f_X1_keep_33
  simp (disch := omega) only [Option.bind_some, bd2_some, bdX_ok, bdX_er, nm_eq, n_0, n_1, n_2, n_3, n_4, n_5, n_6, n_7, n_8, n_9, n_10, n_11, n_12, n_14, n_15, n_16, n_17, n_18, n_19, n_20, n_21, n_24, n_27, n_28, n_32, n_43, n_45, n_48, n_56, n_57, n_59, n_64, n_70, n_97, n_99, n_100, n_104, n_118, n_122, n_126, n_127, n_128, n_129, n_130, n_150, n_255, n_600, n_1000, n_1050, n_1200, n_999999, n_1000000, iI_neg, iI_add, iI_sub, iI_mul, ile, ilt, ieq, G1_0, G1_1, G1_2, H1, h2, h3, R1 h1, S_has (isS_h h1), p1, p2 26 (by omega)]
  have fin : ∀ nv : Nat, (nv : Int) = (if (nx : Int) = 7 then 0 else (nx : Int) + 1) → ∃ m', ((pF (mem w m1) 26 1 1 (.int (iI (nv : Int)))).bind fun M1 => (gI M1 26 1 2).bind fun v3 => (pF M1 26 1 2 (.int (if v3 + iI 1 < iI 8 then v3 + iI 1 else iI 8))).bind fun M5 => some ((), M5)) = some ((), mem w m') ∧ (∀ p, (p < 26 ∨ 228 ≤ p) → m' p = m p) ∧ HR m' ((x :: H).take 8) := by
    intro nv hnv
    simp (disch := omega) only [Option.bind_some, bd2_some, bdX_ok, bdX_er, nm_eq, n_0, n_1, n_2, n_3, n_4, n_5, n_6, n_7, n_8, n_9, n_10, n_11, n_12, n_14, n_15, n_16, n_17, n_18, n_19, n_20, n_21, n_24, n_27, n_28, n_32, n_43, n_45, n_48, n_56, n_57, n_59, n_64, n_70, n_97, n_99, n_100, n_104, n_118, n_122, n_126, n_127, n_128, n_129, n_130, n_150, n_255, n_600, n_1000, n_1050, n_1200, n_999999, n_1000000, iI_neg, iI_add, iI_sub, iI_mul, ile, ilt, ieq, U1_1, G1_2]
    have e2 : up m1 26 1 (nv : Int) 26 2 = H.length := by rw [up_off (by omega), p2 26 (by omega), h3]
    rw [e2]
    simp (disch := omega) only [Option.bind_some, bd2_some, bdX_ok, bdX_er, nm_eq, n_0, n_1, n_2, n_3, n_4, n_5, n_6, n_7, n_8, n_9, n_10, n_11, n_12, n_14, n_15, n_16, n_17, n_18, n_19, n_20, n_21, n_24, n_27, n_28, n_32, n_43, n_45, n_48, n_56, n_57, n_59, n_64, n_70, n_97, n_99, n_100, n_104, n_118, n_122, n_126, n_127, n_128, n_129, n_130, n_150, n_255, n_600, n_1000, n_1050, n_1200, n_999999, n_1000000, iI_neg, iI_add, iI_sub, iI_mul, ile, ilt, ieq]
    have ei : (if (H.length : Int) + 1 < 8 then iI ((H.length : Int) + 1) else iI 8) = iI ((min 8 (H.length + 1) : Nat) : Int) := by
      split
      · congr 1; omega
      · congr 1; omega
    rw [ei, U1_2]
    refine ⟨_, rfl, fun p hp => by rw [up_ne (by omega), up_ne (by omega), p2 p (by omega)], nv, ?_, by rw [up_off (by omega), up_at], by rw [up_at, hlen], by rw [hlen]; omega, hs nv ?_ ?_ ?_ _ (fun p hp => by rw [up_ne hp, up_ne hp])⟩
    · split at hnv <;> omega
    · split at hnv <;> omega
    · intro i hi
      unfold slotH
      congr 2
      split at hnv <;> omega
    · unfold slotH
      congr 2
      split at hnv <;> omega
  by_cases c : (nx : Int) = 7
  · rw [if_pos c]
    exact fin 0 (by rw [if_pos c]; rfl)
  · rw [if_neg c]
    have := fin (nx + 1) (by rw [if_neg c]; omega)
    rw [show ((nx + 1 : Nat) : Int) = (nx : Int) + 1 by omega] at this
    exact this
theorem takeBack_eq (hfu : 100 ≤ fu) (hH : HR m (x :: H)) (hS : isS 1) : ∃ m', f_X1_takeBack fu 26 1 (mem w m) = some ((), mem w m') ∧ (∀ p, (p < 1 ∨ (26 ≤ p ∧ p ≠ 26)) → m' p = m p) ∧ HR m' H ∧ cRep m' 1 x := by
  obtain ⟨nx, h1, h2, h3, h4, h5⟩ := hH
  have hlen : (x :: H).length = H.length + 1 := by simp
  have go : ∀ nv : Nat, nv < 8 → (nv + 1) % 8 = nx → ∃ m', f_X1_takeBack_26 fu 26 1 26 (iI (nv : Int)) (mem w m) = some ((), mem w m') ∧ (∀ p, (p < 1 ∨ (26 ≤ p ∧ p ≠ 26)) → m' p = m p) ∧ HR m' H ∧ cRep m' 1 x := by
    intro nv hv hvx
    obtain ⟨m1, p1, p2, p3⟩ := scopy_eq (w := w) (m := up (up m 26 1 (nv : Int)) 26 2 (H.length : Int)) (fu := fu) hS (isS_h hv) (by omega) hfu
    have e0 : slotH nx 0 = 28 + 25 * nv := by unfold slotH; congr 2; omega
    unfold f_X1_takeBack_26
    simp (disch := omega) only [Option.bind_some, bd2_some, bdX_ok, bdX_er, nm_eq, n_0, n_1, n_2, n_3, n_4, n_5, n_6, n_7, n_8, n_9, n_10, n_11, n_12, n_14, n_15, n_16, n_17, n_18, n_19, n_20, n_21, n_24, n_27, n_28, n_32, n_43, n_45, n_48, n_56, n_57, n_59, n_64, n_70, n_97, n_99, n_100, n_104, n_118, n_122, n_126, n_127, n_128, n_129, n_130, n_150, n_255, n_600, n_1000, n_1050, n_1200, n_999999, n_1000000, iI_neg, iI_add, iI_sub, iI_mul, ile, ilt, ieq, U1_1, U1_2, G1_0, G1_1, G1_2, up_off, up_at, h3, hlen]
    rw [show ((H.length + 1 : Nat) : Int) - 1 = (H.length : Int) by omega]
    simp (disch := omega) only [Option.bind_some, bd2_some, bdX_ok, bdX_er, nm_eq, n_0, n_1, n_2, n_3, n_4, n_5, n_6, n_7, n_8, n_9, n_10, n_11, n_12, n_14, n_15, n_16, n_17, n_18, n_19, n_20, n_21, n_24, n_27, n_28, n_32, n_43, n_45, n_48, n_56, n_57, n_59, n_64, n_70, n_97, n_99, n_100, n_104, n_118, n_122, n_126, n_127, n_128, n_129, n_130, n_150, n_255, n_600, n_1000, n_1050, n_1200, n_999999, n_1000000, iI_neg, iI_add, iI_sub, iI_mul, ile, ilt, ieq, U1_1, U1_2, G1_0, G1_1, G1_2, up_off, up_at, R1 hv, S_has hS, p1]
    have fr : ∀ p, (26 ≤ p ∧ p ≠ 26) → m1 p = m p := fun p hp => by rw [p2 p (by omega), up_ne (by omega), up_ne (by omega)]
    refine ⟨m1, rfl, fun p hp => ?_, ⟨nv, hv, ?_, ?_, by omega, fun i y hi => ?_⟩, p3 x ?_⟩
    · rw [p2 p (by omega), up_ne (by omega), up_ne (by omega)]
    · rw [p2 26 (by omega), up_off (by omega), up_at]
    · rw [p2 26 (by omega), up_at]
    · have := h5 (i + 1) y (by rw [List.getElem?_cons_succ]; exact hi)
      have es : slotH nx (i + 1) = slotH nv i := by
        have := (List.getElem?_eq_some_iff.mp hi).1
        unfold slotH; congr 2; omega
      rw [es] at this
      refine this.cong (fun p a b => fr p ?_)
      unfold slotH at a
      omega
    · have := h5 0 x rfl
      rw [e0] at this
      exact this.cong (fun p a b => by rw [up_ne (by omega), up_ne (by omega)])
  unfold f_X1_takeBack
  simp (disch := omega) only [Option.bind_some, bd2_some, bdX_ok, bdX_er, nm_eq, n_0, n_1, n_2, n_3, n_4, n_5, n_6, n_7, n_8, n_9, n_10, n_11, n_12, n_14, n_15, n_16, n_17, n_18, n_19, n_20, n_21, n_24, n_27, n_28, n_32, n_43, n_45, n_48, n_56, n_57, n_59, n_64, n_70, n_97, n_99, n_100, n_104, n_118, n_122, n_126, n_127, n_128, n_129, n_130, n_150, n_255, n_600, n_1000, n_1050, n_1200, n_999999, n_1000000, iI_neg, iI_add, iI_sub, iI_mul, ile, ilt, ieq, G1_1, G1_2, h2, h3, hlen]
  rw [if_neg (by omega)]
  by_cases c : (nx : Int) = 0
  · rw [if_pos c]
    exact go 7 (by omega) (by omega)
  · rw [if_neg c]
    have := go (nx - 1) (by omega) (by omega)
    rw [show ((nx - 1 : Nat) : Int) = (nx : Int) - 1 by omega] at this
    exact this
end HI
