/-! texts -/
def sg (b : Int) : Int := if b < 128 then b else b - 256
def spB (c : Int) : Bool := decide (c = 32)
def dgB (c : Int) : Bool := decide (48 ≤ c ∧ c ≤ 57)
def ltB (c : Int) : Bool := decide (97 ≤ c ∧ c ≤ 122)
def smB (c : Int) : Bool := decide (c = 59)
def atB (P : Int → Bool) (t : List Int) (p : Nat) : Bool := match t[p]? with
  | some c => P c
  | none => false
def tw (P : Int → Bool) (t : List Int) (p : Nat) : List Int := (t.drop p).takeWhile P
def run (P : Int → Bool) (t : List Int) (p : Nat) : Nat := p + (tw P t p).length
section TX
variable {P : Int → Bool} {t : List Int} {p : Nat}
theorem at_some (h : atB P t p = true) : ∃ c, t[p]? = some c ∧ P c = true ∧ p < t.length := by
  unfold atB at h
  cases ht : t[p]? with
  | none => rw [ht] at h; cases h
  | some c => rw [ht] at h; exact ⟨c, rfl, h, (List.getElem?_eq_some_iff.mp ht).1⟩
theorem tw_go {c : Int} (h : t[p]? = some c) (hc : P c = true) : tw P t p = c :: tw P t (p + 1) := by
  obtain ⟨hl, e⟩ := List.getElem?_eq_some_iff.mp h
  unfold tw
  rw [List.drop_eq_getElem_cons hl, e, List.takeWhile_cons, hc, if_pos rfl]
theorem tw_stop (h : atB P t p = false) : tw P t p = [] := by
  unfold tw
  unfold atB at h
  cases ht : t[p]? with
  | none =>
    rw [List.drop_eq_nil_of_le (List.getElem?_eq_none_iff.mp ht)]
    rfl
  | some c =>
    rw [ht] at h
    obtain ⟨hl, e⟩ := List.getElem?_eq_some_iff.mp ht
    have h : P c = false := h
    rw [List.drop_eq_getElem_cons hl, e, List.takeWhile_cons, h, if_neg (by decide)]
theorem run_go (h : atB P t p = true) : run P t p = run P t (p + 1) := by
  obtain ⟨c, h1, h2, -⟩ := at_some h
  unfold run
  rw [tw_go h1 h2, List.length_cons]
  omega
theorem run_stop (h : atB P t p = false) : run P t p = p := by unfold run; rw [tw_stop h]; rfl
theorem run_ge : p ≤ run P t p := Nat.le_add_right _ _
theorem run_le (h : p ≤ t.length) : run P t p ≤ t.length := by
  unfold run tw
  have := (List.takeWhile_prefix P : (t.drop p).takeWhile P <+: t.drop p).length_le
  rw [List.length_drop] at this
  omega
theorem run_end : ∀ (d p : Nat), t.length - p ≤ d → atB P t (run P t p) = false := by
  intro d
  induction d with
  | zero =>
    intro p h
    have : atB P t p = false := by
      unfold atB
      rw [List.getElem?_eq_none (by omega)]
    rw [run_stop this]; exact this
  | succ d ih =>
    intro p h
    cases ha : atB P t p with
    | false => rw [run_stop ha]; exact ha
    | true =>
      rw [run_go ha]
      obtain ⟨c, -, -, hl⟩ := at_some ha
      exact ih (p + 1) (by omega)
theorem run_at : atB P t (run P t p) = false := run_end _ _ (Nat.le_refl _)
theorem run_run : run P t (run P t p) = run P t p := run_stop run_at
theorem tw_at {i : Nat} {c : Int} (h : (tw P t p)[i]? = some c) : t[p + i]? = some c ∧ P c = true := by
  have hp : tw P t p <+: t.drop p := List.takeWhile_prefix P
  obtain ⟨r, hr⟩ := hp
  have h1 : (t.drop p)[i]? = some c := by
    rw [← hr, List.getElem?_append_left (List.getElem?_eq_some_iff.mp h).1]
    exact h
  rw [List.getElem?_drop] at h1
  refine ⟨h1, ?_⟩
  have hm := List.mem_of_getElem? h
  have : ∀ l : List Int, ∀ x ∈ l.takeWhile P, P x = true := fun l => by
    induction l with
    | nil => intro x hx; cases hx
    | cons y l ih =>
      intro x hx
      rw [List.takeWhile_cons] at hx
      split at hx
      · rcases List.mem_cons.mp hx with rfl | hx
        · assumption
        · exact ih x hx
      · cases hx
  exact this _ c hm
end TX
/-- numbers: with the class's bound; with the reference's -/
def nC : List Int → Int → Int
  | [], a => a
  | c :: l, a => nC l (if 10 * a + c - 48 < 1000000 then 10 * a + c - 48 else 1000000)
def nR : List Int → Int → Int
  | [], a => a
  | c :: l, a => nR l (if a < 1000 then 10 * a + c - 48 else a)
theorem nCR : ∀ (l : List Int) (a b : Int), (∀ c ∈ l, 48 ≤ c ∧ c ≤ 57) → ((a = b ∧ 0 ≤ a ∧ a < 1000) ∨ (1000 ≤ a ∧ a ≤ 1000000 ∧ 1000 ≤ b ∧ b ≤ 9999)) → ((nC l a = nR l b ∧ 0 ≤ nC l a ∧ nC l a < 1000) ∨ (1000 ≤ nC l a ∧ nC l a ≤ 1000000 ∧ 1000 ≤ nR l b ∧ nR l b ≤ 9999)) := by
  intro l
  induction l with
  | nil => intro a b _ h; exact h
  | cons c l ih =>
    intro a b hl h
    have hc := hl c List.mem_cons_self
    rw [nC, nR]
    refine ih _ _ (fun x hx => hl x (List.mem_cons_of_mem _ hx)) ?_
    rcases h with ⟨h1, h2, h3⟩ | ⟨h1, h2, h3, h4⟩
    · subst h1
      rw [if_pos (by omega), if_pos h3]
      omega
    · rw [if_neg (show ¬ b < 1000 by omega)]
      by_cases q : 10 * a + c - 48 < 1000000
      · rw [if_pos q]; omega
      · rw [if_neg q]; omega
def nvC (t : List Int) (p : Nat) : Int := nC (tw dgB t p) 0
def nvR (t : List Int) (p : Nat) : Int := nR (tw dgB t p) 0
theorem tw_dg {t : List Int} {p : Nat} : ∀ c ∈ tw dgB t p, 48 ≤ c ∧ c ≤ 57 := fun c hc => by
  obtain ⟨i, hi⟩ := List.mem_iff_getElem?.mp hc
  have := (tw_at hi).2
  unfold dgB at this
  simpa using this
theorem nv_rel {t : List Int} {p : Nat} : (nvC t p = nvR t p ∧ 0 ≤ nvC t p ∧ nvC t p < 1000) ∨ (1000 ≤ nvC t p ∧ nvC t p ≤ 1000000 ∧ 1000 ≤ nvR t p ∧ nvR t p ≤ 9999) := nCR _ 0 0 tw_dg (Or.inl ⟨rfl, by omega, by omega⟩)
/-! what is read -/
abbrev Er : Type := Int × Nat
def rnum (t : List Int) (p : Nat) (lo hi un : Int) : Except Er (Int × Nat) :=
  if atB dgB t (run spB t p) = true then (if nvR t (run spB t p) < lo ∨ hi < nvR t (run spB t p) ∨ nvR t (run spB t p) = un then .error (-3, run spB t p) else .ok (nvR t (run spB t p), run dgB t (run spB t p))) else .error (-2, run spB t p)
def rsemi (t : List Int) (p : Nat) : Except Er Nat := if atB smB t (run spB t p) = true then .ok (run spB t p + 1) else .error (-2, run spB t p)
def wordT (k : Nat) : List Int := [[110, 101, 116], [98, 117, 100, 103, 101, 116], [97, 114, 99], [114, 111, 117, 116, 101]].getD k []
theorem word_ok : ∀ k : Nat, k < 4 → lensT.getD k 0 = (wordT k).length ∧ (wordT k).length ≤ 6 ∧ ∀ i : Nat, i < (wordT k).length → (bytsT.getD k []).getD i 0 = iI ((wordT k).getD i 0) ∧ 97 ≤ (wordT k).getD i 0 ∧ (wordT k).getD i 0 ≤ 122 := by decide
section TC
variable {w : Wl} {m m' : Mm} {z v : Int} {fu p : Nat} {t : List Int} {P : Int → Bool} {M : List Ob}
theorem len_eq {k : Nat} (hk : k < 4) : f_J0_length_8abf5 fu (1000000 + k) M = some (iI ((wordT k).length : Int), M) := by
  unfold f_J0_length_8abf5
  rw [if_pos (by omega), show 1000000 + k - 1000000 = k by omega, (word_ok k hk).1]
  rfl
theorem chr_eq {k i : Nat} (hk : k < 4) (hi : i < (wordT k).length) : f_J0_charAt_5068e fu (1000000 + k) (iI (i : Int)) M = some (iI ((wordT k).getD i 0), M) := by
  obtain ⟨h1, h2, h3⟩ := word_ok k hk
  unfold f_J0_charAt_5068e
  rw [show 1000000 + k - 1000000 = k by omega, iI_clamp (by omega) (by omega), Int.toNat_natCast, h1, if_pos ⟨by omega, by omega, iI_nneg (by omega) (by omega), hi⟩, (h3 i hi).1]
theorem up_id {p : Nat} {k : Int} (h : m p k = v) : up m p k v = m := by
  funext p' k'
  unfold up
  split
  · rename_i q; rw [q.1, q.2, h]
  · rfl
theorem up_up {p : Nat} {k v' : Int} : up (up m p k v) p k v' = up m p k v' := by
  funext p' k'
  unfold up
  split <;> rfl
theorem sk228 : SK[228]? = some (9, [some 229, none, none, none, none, none]) := by decide +kernel
theorem sk229 : SK[229]? = some (12, List.replicate 600 none) := by decide +kernel
theorem H9 : hasO (mem w m) 228 9 = some () := hasO_mem sk228
theorem G9_0 : gP (mem w m) 228 9 0 = some 229 := gP_mem sk228 rfl
theorem G9_1 : gI (mem w m) 228 9 1 = some (iI (m 228 1)) := gI_mem sk228 rfl
theorem G9_2 : gI (mem w m) 228 9 2 = some (iI (m 228 2)) := gI_mem sk228 rfl
theorem G9_3 : gI (mem w m) 228 9 3 = some (iI (m 228 3)) := gI_mem sk228 rfl
theorem G9_4 : gI (mem w m) 228 9 4 = some (iI (m 228 4)) := gI_mem sk228 rfl
theorem G9_5 : gI (mem w m) 228 9 5 = some (iI (m 228 5)) := gI_mem sk228 rfl
theorem U9_1 : pF (mem w m) 228 9 1 (.int (iI v)) = some (mem w (up m 228 1 v)) := pF_mem sk228 rfl
theorem U9_2 : pF (mem w m) 228 9 2 (.int (iI v)) = some (mem w (up m 228 2 v)) := pF_mem sk228 rfl
theorem U9_3 : pF (mem w m) 228 9 3 (.int (iI v)) = some (mem w (up m 228 3 v)) := pF_mem sk228 rfl
theorem U9_4 : pF (mem w m) 228 9 4 (.int (iI v)) = some (mem w (up m 228 4 v)) := pF_mem sk228 rfl
theorem U9_5 : pF (mem w m) 228 9 5 (.int (iI v)) = some (mem w (up m 228 5 v)) := pF_mem sk228 rfl
theorem Tx_g (h0 : 0 ≤ z) (h1 : z < 600) : aI (mem w m) 229 12 (iI z) = some (iI (m 229 z)) := aI_mem sk229 h0 h1 (by decide)
theorem Tx_s (h0 : 0 ≤ z) (h1 : z < 600) : aSet (mem w m) 229 12 (iI z) (.int (iI v)) = some (mem w (up m 229 z v)) := aSet_mem sk229 h0 h1 (by decide)
/-- the class reads this text, from this place on -/
def CT (m : Mm) (t : List Int) (p : Nat) : Prop := m 228 2 = t.length ∧ t.length ≤ 600 ∧ m 228 3 = p ∧ p ≤ t.length ∧ ∀ (j : Nat) (b : Int), t[j]? = some b → 0 ≤ b ∧ b < 256 ∧ m 229 j = sg b
theorem CT.up {q : Nat} (h : CT m t p) (hq : q ≤ t.length) : CT (up m 228 3 q) t q := ⟨by rw [up_off (by decide)]; exact h.1, h.2.1, up_at, hq, fun j b hj => by rw [up_ne (by decide)]; exact h.2.2.2.2 j b hj⟩
def pk (t : List Int) (p : Nat) : Int := match t[p]? with
  | some b => sg b
  | none => 0
theorem peek_eq (h : CT m t p) : f_X9_peek fu 228 (mem w m) = some (iI (pk t p), mem w m) := by
  obtain ⟨h1, h2, h3, h4, h5⟩ := h
  unfold f_X9_peek pk
  simp (disch := omega) only [n_69, n_50, n_13, Option.bind_some, bd2_some, bdX_ok, bdX_er, nm_eq, n_0, n_1, n_2, n_3, n_4, n_5, n_6, n_7, n_8, n_9, n_10, n_11, n_12, n_14, n_15, n_16, n_17, n_18, n_19, n_20, n_21, n_24, n_27, n_28, n_32, n_43, n_45, n_48, n_56, n_57, n_59, n_64, n_70, n_97, n_99, n_100, n_104, n_118, n_122, n_126, n_127, n_128, n_129, n_130, n_150, n_255, n_600, n_1000, n_1050, n_1200, n_999999, n_1000000, iI_neg, iI_add, iI_sub, iI_mul, ile, ilt, ieq, G9_0, G9_2, G9_3, h1, h3]
  cases ht : t[p]? with
  | none =>
    have := List.getElem?_eq_none_iff.mp ht
    rw [if_pos (by omega)]
  | some b =>
    have hl := (List.getElem?_eq_some_iff.mp ht).1
    obtain ⟨b1, b2, b3⟩ := h5 p b ht
    rw [if_neg (by omega)]
    simp (disch := omega) only [n_69, n_50, n_13, Option.bind_some, bd2_some, bdX_ok, bdX_er, nm_eq, n_0, n_1, n_2, n_3, n_4, n_5, n_6, n_7, n_8, n_9, n_10, n_11, n_12, n_14, n_15, n_16, n_17, n_18, n_19, n_20, n_21, n_24, n_27, n_28, n_32, n_43, n_45, n_48, n_56, n_57, n_59, n_64, n_70, n_97, n_99, n_100, n_104, n_118, n_122, n_126, n_127, n_128, n_129, n_130, n_150, n_255, n_600, n_1000, n_1050, n_1200, n_999999, n_1000000, iI_neg, iI_add, iI_sub, iI_mul, ile, ilt, ieq, Tx_g, b3]
/-- a byte of a kind, seen through peek -/
theorem pk_is (h : CT m t p) : -128 ≤ pk t p ∧ pk t p < 128 ∧ (pk t p = 32 ↔ atB spB t p = true) ∧ ((48 ≤ pk t p ∧ pk t p ≤ 57) ↔ atB dgB t p = true) ∧ ((97 ≤ pk t p ∧ pk t p ≤ 122) ↔ atB ltB t p = true) ∧ (pk t p = 59 ↔ atB smB t p = true) ∧ (atB dgB t p = true → ∃ c, t[p]? = some c ∧ pk t p = c ∧ 48 ≤ c ∧ c ≤ 57) := by
  unfold pk atB
  cases ht : t[p]? with
  | none => simp
  | some b =>
    obtain ⟨b1, b2, b3⟩ := h.2.2.2.2 p b ht
    unfold spB dgB ltB smB sg
    simp only [decide_eq_true_eq]
    by_cases q : b < 128
    · rw [if_pos q]
      exact ⟨by omega, by omega, Iff.rfl, Iff.rfl, Iff.rfl, Iff.rfl, fun z => ⟨b, rfl, rfl, z⟩⟩
    · rw [if_neg q]
      exact ⟨by omega, by omega, by omega, by omega, by omega, by omega, fun z => by omega⟩
theorem skipSpaces_go : ∀ (d n p : Nat) (m : Mm) (i : Int), CT m t p → t.length - p ≤ d → d < n → 0 ≤ i → i ≤ p → f_X9_skipSpaces_2 fu n 228 (iI i) (mem w m) = some ((), mem w (up m 228 3 (run spB t p))) := by
  intro d
  induction d with
  | zero =>
    intro n p m i h hd hn h0 hi
    have h2 := h.2.1
    have h4 := h.2.2.2.1
    have ha : atB spB t p = false := by unfold atB; rw [List.getElem?_eq_none (by omega)]
    have hk := pk_is h
    have hne : pk t p ≠ 32 := fun q => by rw [hk.2.2.1.mp q] at ha; cases ha
    obtain ⟨n, rfl⟩ : ∃ k, n = k + 1 := ⟨n - 1, by omega⟩
    rw [f_X9_skipSpaces_2, f_X9_skipSpaces_2b, run_stop ha, up_id h.2.2.1]
    simp (disch := omega) only [n_69, n_50, n_13, Option.bind_some, bd2_some, bdX_ok, bdX_er, nm_eq, n_0, n_1, n_2, n_3, n_4, n_5, n_6, n_7, n_8, n_9, n_10, n_11, n_12, n_14, n_15, n_16, n_17, n_18, n_19, n_20, n_21, n_24, n_27, n_28, n_32, n_43, n_45, n_48, n_56, n_57, n_59, n_64, n_70, n_97, n_99, n_100, n_104, n_118, n_122, n_126, n_127, n_128, n_129, n_130, n_150, n_255, n_600, n_1000, n_1050, n_1200, n_999999, n_1000000, iI_neg, iI_add, iI_sub, iI_mul, ile, ilt, ieq, H9, peek_eq h]
    by_cases q : 600 ≤ i
    · rw [if_pos q]
    · rw [if_neg q, if_neg hne]
  | succ d ih =>
    intro n p m i h hd hn h0 hi
    have h2 := h.2.1
    have h4 := h.2.2.2.1
    have hk := pk_is h
    obtain ⟨n, rfl⟩ : ∃ k, n = k + 1 := ⟨n - 1, by omega⟩
    rw [f_X9_skipSpaces_2, f_X9_skipSpaces_2b]
    simp (disch := omega) only [n_69, n_50, n_13, Option.bind_some, bd2_some, bdX_ok, bdX_er, nm_eq, n_0, n_1, n_2, n_3, n_4, n_5, n_6, n_7, n_8, n_9, n_10, n_11, n_12, n_14, n_15, n_16, n_17, n_18, n_19, n_20, n_21, n_24, n_27, n_28, n_32, n_43, n_45, n_48, n_56, n_57, n_59, n_64, n_70, n_97, n_99, n_100, n_104, n_118, n_122, n_126, n_127, n_128, n_129, n_130, n_150, n_255, n_600, n_1000, n_1050, n_1200, n_999999, n_1000000, iI_neg, iI_add, iI_sub, iI_mul, ile, ilt, ieq, H9, peek_eq h, G9_3, h.2.2.1, U9_3]
    cases ha : atB spB t p with
    | false =>
      have hne : pk t p ≠ 32 := fun q => by rw [hk.2.2.1.mp q] at ha; cases ha
      rw [run_stop ha, up_id h.2.2.1, if_neg hne]
      by_cases q : 600 ≤ i
      · rw [if_pos q]
      · rw [if_neg q]
    | true =>
      obtain ⟨c, -, -, hl⟩ := at_some ha
      rw [if_neg (by omega), if_pos (hk.2.2.1.mpr ha), run_go ha]
      have := ih n (p + 1) (up m 228 3 ((p + 1 : Nat) : Int)) (i + 1) (h.up (by omega)) (by omega) (by omega) (by omega) (by omega)
      rw [up_up, show ((p + 1 : Nat) : Int) = (p : Int) + 1 by omega] at this
      exact this
theorem skipSpaces_eq (hfu : 1000 ≤ fu) (h : CT m t p) : f_X9_skipSpaces fu 228 (mem w m) = some ((), mem w (up m 228 3 (run spB t p))) := by
  have h2 := h.2.1
  unfold f_X9_skipSpaces
  simp (disch := omega) only [n_69, n_50, n_13, Option.bind_some, bd2_some, bdX_ok, bdX_er, nm_eq, n_0, n_1, n_2, n_3, n_4, n_5, n_6, n_7, n_8, n_9, n_10, n_11, n_12, n_14, n_15, n_16, n_17, n_18, n_19, n_20, n_21, n_24, n_27, n_28, n_32, n_43, n_45, n_48, n_56, n_57, n_59, n_64, n_70, n_97, n_99, n_100, n_104, n_118, n_122, n_126, n_127, n_128, n_129, n_130, n_150, n_255, n_600, n_1000, n_1050, n_1200, n_999999, n_1000000, iI_neg, iI_add, iI_sub, iI_mul, ile, ilt, ieq]
  exact skipSpaces_go 600 fu p m 0 h (by omega) (by omega) (by omega) (by omega)
theorem isAtDigit_eq (h : CT m t p) : f_X9_isAtDigit fu 228 (mem w m) = some (iI (b2 (atB dgB t p)), mem w m) := by
  have hk := pk_is h
  unfold f_X9_isAtDigit
  simp (disch := omega) only [n_69, n_50, n_13, Option.bind_some, bd2_some, bdX_ok, bdX_er, nm_eq, n_0, n_1, n_2, n_3, n_4, n_5, n_6, n_7, n_8, n_9, n_10, n_11, n_12, n_14, n_15, n_16, n_17, n_18, n_19, n_20, n_21, n_24, n_27, n_28, n_32, n_43, n_45, n_48, n_56, n_57, n_59, n_64, n_70, n_97, n_99, n_100, n_104, n_118, n_122, n_126, n_127, n_128, n_129, n_130, n_150, n_255, n_600, n_1000, n_1050, n_1200, n_999999, n_1000000, iI_neg, iI_add, iI_sub, iI_mul, ile, ilt, ieq, H9, peek_eq h]
  cases ha : atB dgB t p with
  | true =>
    have := hk.2.2.2.1.mpr ha
    rw [if_neg (by omega), if_neg (by omega)]; rfl
  | false =>
    have : ¬ (48 ≤ pk t p ∧ pk t p ≤ 57) := fun q => by rw [hk.2.2.2.1.mp q] at ha; cases ha
    by_cases q : pk t p < 48
    · rw [if_pos q]; rfl
    · rw [if_neg q, if_pos (by omega)]; rfl
theorem isAtLetter_eq (h : CT m t p) : f_X9_isAtLetter fu 228 (mem w m) = some (iI (b2 (atB ltB t p)), mem w m) := by
  have hk := pk_is h
  unfold f_X9_isAtLetter
  simp (disch := omega) only [n_69, n_50, n_13, Option.bind_some, bd2_some, bdX_ok, bdX_er, nm_eq, n_0, n_1, n_2, n_3, n_4, n_5, n_6, n_7, n_8, n_9, n_10, n_11, n_12, n_14, n_15, n_16, n_17, n_18, n_19, n_20, n_21, n_24, n_27, n_28, n_32, n_43, n_45, n_48, n_56, n_57, n_59, n_64, n_70, n_97, n_99, n_100, n_104, n_118, n_122, n_126, n_127, n_128, n_129, n_130, n_150, n_255, n_600, n_1000, n_1050, n_1200, n_999999, n_1000000, iI_neg, iI_add, iI_sub, iI_mul, ile, ilt, ieq, H9, peek_eq h]
  cases ha : atB ltB t p with
  | true =>
    have := hk.2.2.2.2.1.mpr ha
    rw [if_neg (by omega), if_neg (by omega)]; rfl
  | false =>
    have : ¬ (97 ≤ pk t p ∧ pk t p ≤ 122) := fun q => by rw [hk.2.2.2.2.1.mp q] at ha; cases ha
    by_cases q : pk t p < 97
    · rw [if_pos q]; rfl
    · rw [if_neg q, if_pos (by omega)]; rfl
theorem skipWord_go : ∀ (d n p : Nat) (m : Mm) (i : Int), CT m t p → t.length - p ≤ d → d < n → 0 ≤ i → i ≤ p → f_X9_skipWord_2 fu n 228 (iI i) (mem w m) = some ((), mem w (up m 228 3 (run ltB t p))) := by
  intro d
  induction d with
  | zero =>
    intro n p m i h hd hn h0 hi
    have h2 := h.2.1
    have h4 := h.2.2.2.1
    have ha : atB ltB t p = false := by unfold atB; rw [List.getElem?_eq_none (by omega)]
    obtain ⟨n, rfl⟩ : ∃ k, n = k + 1 := ⟨n - 1, by omega⟩
    rw [f_X9_skipWord_2, f_X9_skipWord_2b, run_stop ha, up_id h.2.2.1]
    simp (disch := omega) only [n_69, n_50, n_13, Option.bind_some, bd2_some, bdX_ok, bdX_er, nm_eq, n_0, n_1, n_2, n_3, n_4, n_5, n_6, n_7, n_8, n_9, n_10, n_11, n_12, n_14, n_15, n_16, n_17, n_18, n_19, n_20, n_21, n_24, n_27, n_28, n_32, n_43, n_45, n_48, n_56, n_57, n_59, n_64, n_70, n_97, n_99, n_100, n_104, n_118, n_122, n_126, n_127, n_128, n_129, n_130, n_150, n_255, n_600, n_1000, n_1050, n_1200, n_999999, n_1000000, iI_neg, iI_add, iI_sub, iI_mul, ile, ilt, ieq, H9, isAtLetter_eq h]
    rw [ha, show b2 false = 0 from rfl]
    by_cases q : 600 ≤ i
    · rw [if_pos q]
    · rw [if_neg q, if_pos (by decide)]
  | succ d ih =>
    intro n p m i h hd hn h0 hi
    have h2 := h.2.1
    have h4 := h.2.2.2.1
    obtain ⟨n, rfl⟩ : ∃ k, n = k + 1 := ⟨n - 1, by omega⟩
    rw [f_X9_skipWord_2, f_X9_skipWord_2b]
    simp (disch := omega) only [n_69, n_50, n_13, Option.bind_some, bd2_some, bdX_ok, bdX_er, nm_eq, n_0, n_1, n_2, n_3, n_4, n_5, n_6, n_7, n_8, n_9, n_10, n_11, n_12, n_14, n_15, n_16, n_17, n_18, n_19, n_20, n_21, n_24, n_27, n_28, n_32, n_43, n_45, n_48, n_56, n_57, n_59, n_64, n_70, n_97, n_99, n_100, n_104, n_118, n_122, n_126, n_127, n_128, n_129, n_130, n_150, n_255, n_600, n_1000, n_1050, n_1200, n_999999, n_1000000, iI_neg, iI_add, iI_sub, iI_mul, ile, ilt, ieq, H9, isAtLetter_eq h, G9_3, h.2.2.1, U9_3]
    cases ha : atB ltB t p with
    | false =>
      rw [run_stop ha, up_id h.2.2.1, show b2 false = 0 from rfl]
      by_cases q : 600 ≤ i
      · rw [if_pos q]
      · rw [if_neg q, if_pos (by decide)]
    | true =>
      obtain ⟨c, -, -, hl⟩ := at_some ha
      rw [if_neg (by omega), show b2 true = 1 from rfl, if_neg (by decide), run_go ha]
      have := ih n (p + 1) (up m 228 3 ((p + 1 : Nat) : Int)) (i + 1) (h.up (by omega)) (by omega) (by omega) (by omega) (by omega)
      rw [up_up, show ((p + 1 : Nat) : Int) = (p : Int) + 1 by omega] at this
      exact this
theorem skipWord_eq (hfu : 1000 ≤ fu) (h : CT m t p) : f_X9_skipWord fu 228 (mem w m) = some ((), mem w (up m 228 3 (run ltB t p))) := by
  have h2 := h.2.1
  unfold f_X9_skipWord
  simp (disch := omega) only [n_69, n_50, n_13, Option.bind_some, bd2_some, bdX_ok, bdX_er, nm_eq, n_0, n_1, n_2, n_3, n_4, n_5, n_6, n_7, n_8, n_9, n_10, n_11, n_12, n_14, n_15, n_16, n_17, n_18, n_19, n_20, n_21, n_24, n_27, n_28, n_32, n_43, n_45, n_48, n_56, n_57, n_59, n_64, n_70, n_97, n_99, n_100, n_104, n_118, n_122, n_126, n_127, n_128, n_129, n_130, n_150, n_255, n_600, n_1000, n_1050, n_1200, n_999999, n_1000000, iI_neg, iI_add, iI_sub, iI_mul, ile, ilt, ieq]
  exact skipWord_go 600 fu p m 0 h (by omega) (by omega) (by omega) (by omega)
theorem isWord_go {k s q : Nat} (hk : k < 4) (h : CT m t q) (hs : s + (tw ltB t s).length ≤ t.length) (heq : (tw ltB t s).length = (wordT k).length) : ∀ (suf pre suf' pre' : List Int) (n : Nat), tw ltB t s = pre ++ suf → wordT k = pre' ++ suf' → pre.length = pre'.length → suf.length < n → f_X9_isWord_17 fu n 228 (iI (s : Int)) (1000000 + k) (iI (pre.length : Int)) (mem w m) = some (iI (b2 (decide (suf = suf'))), mem w m) := by
  obtain ⟨o1, o2, o3⟩ := word_ok k hk
  have h2 := h.2.1
  intro suf
  induction suf with
  | nil =>
    intro pre suf' pre' n e e' hp hn
    have hl : (tw ltB t s).length = pre.length := by rw [e]; simp
    have hl' : (wordT k).length = pre'.length + suf'.length := by rw [e']; simp
    have : suf' = [] := List.eq_nil_of_length_eq_zero (by omega)
    subst this
    obtain ⟨n, rfl⟩ : ∃ k, n = k + 1 := ⟨n - 1, by omega⟩
    rw [f_X9_isWord_17, f_X9_isWord_17b, len_eq hk]
    simp (disch := omega) only [n_69, n_50, n_13, Option.bind_some, bd2_some, bdX_ok, bdX_er, nm_eq, n_0, n_1, n_2, n_3, n_4, n_5, n_6, n_7, n_8, n_9, n_10, n_11, n_12, n_14, n_15, n_16, n_17, n_18, n_19, n_20, n_21, n_24, n_27, n_28, n_32, n_43, n_45, n_48, n_56, n_57, n_59, n_64, n_70, n_97, n_99, n_100, n_104, n_118, n_122, n_126, n_127, n_128, n_129, n_130, n_150, n_255, n_600, n_1000, n_1050, n_1200, n_999999, n_1000000, iI_neg, iI_add, iI_sub, iI_mul, ile, ilt, ieq]
    rw [if_pos (by omega)]
    rfl
  | cons c suf ih =>
    intro pre suf' pre' n e e' hp hn
    have hl : (tw ltB t s).length = pre.length + (suf.length + 1) := by rw [e]; simp
    have hl' : (wordT k).length = pre'.length + suf'.length := by rw [e']; simp
    cases suf' with
    | nil => simp at hl'; omega
    | cons c' suf' =>
    simp only [List.length_cons] at hn hl'
    obtain ⟨n, rfl⟩ : ∃ k, n = k + 1 := ⟨n - 1, by omega⟩
    have hc := tw_at (i := pre.length) (c := c) (by rw [e]; exact mid_at)
    have hc' : (wordT k).getD pre.length 0 = c' := by rw [List.getD_eq_getElem?_getD, e', hp, mid_at]; rfl
    have hr := o3 pre.length (by omega)
    rw [hc'] at hr
    have hb := (h.2.2.2.2 _ _ hc.1).2.2
    have hl1 : 97 ≤ c ∧ c ≤ 122 := by have := hc.2; unfold ltB at this; simpa using this
    rw [show sg c = c from if_pos (by omega), show ((s + pre.length : Nat) : Int) = (s : Int) + (pre.length : Int) by omega] at hb
    rw [f_X9_isWord_17, f_X9_isWord_17b, len_eq hk]
    simp (disch := omega) only [n_69, n_50, n_13, Option.bind_some, bd2_some, bdX_ok, bdX_er, nm_eq, n_0, n_1, n_2, n_3, n_4, n_5, n_6, n_7, n_8, n_9, n_10, n_11, n_12, n_14, n_15, n_16, n_17, n_18, n_19, n_20, n_21, n_24, n_27, n_28, n_32, n_43, n_45, n_48, n_56, n_57, n_59, n_64, n_70, n_97, n_99, n_100, n_104, n_118, n_122, n_126, n_127, n_128, n_129, n_130, n_150, n_255, n_600, n_1000, n_1050, n_1200, n_999999, n_1000000, iI_neg, iI_add, iI_sub, iI_mul, ile, ilt, ieq, G9_0, Tx_g, hb]
    rw [if_neg (by omega), chr_eq hk (by omega), hc', bd2_some]
    simp (disch := omega) only [n_69, n_50, n_13, Option.bind_some, bd2_some, bdX_ok, bdX_er, nm_eq, n_0, n_1, n_2, n_3, n_4, n_5, n_6, n_7, n_8, n_9, n_10, n_11, n_12, n_14, n_15, n_16, n_17, n_18, n_19, n_20, n_21, n_24, n_27, n_28, n_32, n_43, n_45, n_48, n_56, n_57, n_59, n_64, n_70, n_97, n_99, n_100, n_104, n_118, n_122, n_126, n_127, n_128, n_129, n_130, n_150, n_255, n_600, n_1000, n_1050, n_1200, n_999999, n_1000000, iI_neg, iI_add, iI_sub, iI_mul, ile, ilt, ieq]
    by_cases q : c = c'
    · rw [if_pos q]
      have := ih (pre ++ [c]) suf' (pre' ++ [c']) n (by rw [e]; simp) (by rw [e']; simp) (by simp [hp]) (by omega)
      rw [show ((pre ++ [c]).length : Int) = (pre.length : Int) + 1 by simp] at this
      rw [this]
      simp [q]
    · rw [if_neg q]; simp [q, b2]
theorem isWord_eq {k s : Nat} (hfu : 1000 ≤ fu) (hk : k < 4) (h : CT m t (run ltB t s)) : f_X9_isWord fu 228 (iI (s : Int)) (1000000 + k) (mem w m) = some (iI (b2 (decide (tw ltB t s = wordT k))), mem w m) := by
  have h2 := h.2.1
  have h4 := h.2.2.2.1
  have e : run ltB t s = s + (tw ltB t s).length := rfl
  obtain ⟨o1, o2, o3⟩ := word_ok k hk
  unfold f_X9_isWord
  rw [G9_3, Option.bind_some, h.2.2.1, len_eq hk, bd2_some, iI_sub, ieq (by omega) (by omega) (by omega) (by omega)]
  by_cases q : (tw ltB t s).length = (wordT k).length
  · rw [if_pos (by omega)]
    exact isWord_go (w := w) hk h (by omega) q (tw ltB t s) [] (wordT k) [] fu rfl rfl rfl (by omega)
  · rw [if_neg (by omega)]
    have : ¬ tw ltB t s = wordT k := fun z => q (by rw [z])
    simp [this, b2]
    exact n_0
theorem digits_go {k85 : Nat → Int32 → Int32 → Int32 → Int32 → Int32 → List Ob → Option (Int32 × List Ob)} {a1 a2 a3 a4 : Int32} : ∀ (d n p : Nat) (m : Mm) (i a : Int), CT m t p → t.length - p ≤ d → d < n → 0 ≤ i → i ≤ p → 0 ≤ a → a ≤ 1000000 → f_X9_readNumber_34 fu k85 n 228 a1 a2 a3 a4 (iI a) (iI i) (mem w m) = k85 228 a1 a2 a3 a4 (iI (nC (tw dgB t p) a)) (mem w (up m 228 3 (run dgB t p))) := by
  intro d
  induction d with
  | zero =>
    intro n p m i a h hd hn h0 hi a0 a1
    have h2 := h.2.1
    have h4 := h.2.2.2.1
    have ha : atB dgB t p = false := by unfold atB; rw [List.getElem?_eq_none (by omega)]
    obtain ⟨n, rfl⟩ : ∃ k, n = k + 1 := ⟨n - 1, by omega⟩
    rw [f_X9_readNumber_34, f_X9_readNumber_34b, run_stop ha, up_id h.2.2.1, tw_stop ha]
    simp (disch := omega) only [n_69, n_50, n_13, Option.bind_some, bd2_some, bdX_ok, bdX_er, nm_eq, n_0, n_1, n_2, n_3, n_4, n_5, n_6, n_7, n_8, n_9, n_10, n_11, n_12, n_14, n_15, n_16, n_17, n_18, n_19, n_20, n_21, n_24, n_27, n_28, n_32, n_43, n_45, n_48, n_56, n_57, n_59, n_64, n_70, n_97, n_99, n_100, n_104, n_118, n_122, n_126, n_127, n_128, n_129, n_130, n_150, n_255, n_600, n_1000, n_1050, n_1200, n_999999, n_1000000, iI_neg, iI_add, iI_sub, iI_mul, ile, ilt, ieq, H9, isAtDigit_eq h]
    rw [ha, show b2 false = 0 from rfl, nC]
    by_cases q : 600 ≤ i
    · rw [if_pos q]
    · rw [if_neg q, if_pos (by decide)]
  | succ d ih =>
    intro n p m i a h hd hn h0 hi a0 a1
    have h2 := h.2.1
    have h4 := h.2.2.2.1
    have hk := pk_is h
    obtain ⟨n, rfl⟩ : ∃ k, n = k + 1 := ⟨n - 1, by omega⟩
    rw [f_X9_readNumber_34, f_X9_readNumber_34b]
    simp (disch := omega) only [n_69, n_50, n_13, Option.bind_some, bd2_some, bdX_ok, bdX_er, nm_eq, n_0, n_1, n_2, n_3, n_4, n_5, n_6, n_7, n_8, n_9, n_10, n_11, n_12, n_14, n_15, n_16, n_17, n_18, n_19, n_20, n_21, n_24, n_27, n_28, n_32, n_43, n_45, n_48, n_56, n_57, n_59, n_64, n_70, n_97, n_99, n_100, n_104, n_118, n_122, n_126, n_127, n_128, n_129, n_130, n_150, n_255, n_600, n_1000, n_1050, n_1200, n_999999, n_1000000, iI_neg, iI_add, iI_sub, iI_mul, ile, ilt, ieq, H9, isAtDigit_eq h, peek_eq h, G9_3, h.2.2.1, U9_3]
    cases ha : atB dgB t p with
    | false =>
      rw [run_stop ha, up_id h.2.2.1, tw_stop ha, show b2 false = 0 from rfl, nC]
      by_cases q : 600 ≤ i
      · rw [if_pos q]
      · rw [if_neg q, if_pos (by decide)]
    | true =>
      obtain ⟨c, hc1, hc2, hl⟩ := at_some ha
      obtain ⟨c', hc3, hc4, hc5⟩ := hk.2.2.2.2.2.2 ha
      have : c' = c := by rw [hc1] at hc3; cases hc3; rfl
      subst this
      rw [if_neg (by omega), show b2 true = 1 from rfl, if_neg (by decide), run_go ha, tw_go hc1 hc2, nC, hc4]
      have e9 : (if 10 * a + c' - 48 < 1000000 then iI (10 * a + c' - 48) else iI 1000000) = iI (if 10 * a + c' - 48 < 1000000 then 10 * a + c' - 48 else 1000000) := by split <;> rfl
      have := ih n (p + 1) (up m 228 3 ((p + 1 : Nat) : Int)) (i + 1) (if 10 * a + c' - 48 < 1000000 then 10 * a + c' - 48 else 1000000) (h.up (by omega)) (by omega) (by omega) (by omega) (by omega) (by split <;> omega) (by split <;> omega)
      rw [up_up, show ((p + 1 : Nat) : Int) = (p : Int) + 1 by omega] at this
      rw [e9]
      exact this
theorem rnum_ok {lo hi un v : Int} {q : Nat} (h : rnum t p lo hi un = .ok (v, q)) : lo ≤ v ∧ v ≤ hi ∧ v ≠ un ∧ v = nvR t (run spB t p) ∧ q = run dgB t (run spB t p) ∧ atB dgB t (run spB t p) = true := by
  unfold rnum at h
  split at h
  · split at h
    · cases h
    · rename_i h1 h2
      have h3 : nvR t (run spB t p) = v ∧ run dgB t (run spB t p) = q := by
        injection h with h
        injection h with a b
        exact ⟨a, b⟩
      obtain ⟨rfl, rfl⟩ := h3
      exact ⟨by omega, by omega, by omega, rfl, rfl, h1⟩
  · cases h
theorem readNumber_eq {lo hi un : Int} (hfu : 1000 ≤ fu) (h : CT m t p) (hlo : 0 ≤ lo ∧ lo ≤ 99) (hhi : -1 ≤ hi ∧ hi ≤ 99) (hun : -1 ≤ un ∧ un ≤ 99) : (∀ v q, rnum t p lo hi un = .ok (v, q) → f_X9_readNumber fu 228 (iI lo) (iI hi) (iI un) (mem w m) = some (iI v, mem w (up m 228 3 (q : Nat))) ∧ q ≤ t.length) ∧ (∀ c s, rnum t p lo hi un = .error (c, s) → ∃ q : Nat, f_X9_readNumber fu 228 (iI lo) (iI hi) (iI un) (mem w m) = some (iI (-1), mem w (up (up (up m 228 3 (q : Nat)) 228 4 c) 228 5 (s : Nat))) ∧ s ≤ t.length) := by
  have h2 := h.2.1
  have hs := run_le (P := spB) h.2.2.2.1
  have hq := run_le (P := dgB) hs
  have hC := h.up hs
  have hrel := nv_rel (t := t) (p := run spB t p)
  have hd := digits_go (w := w) (fu := fu) (k85 := fun x11 x12 x13 x14 x15 x16 M17 => f_X9_readNumber_85 fu x11 x12 x13 x14 x15 x16 M17) (a1 := iI lo) (a2 := iI hi) (a3 := iI un) (a4 := iI (run spB t p : Nat)) 600 fu (run spB t p) _ 0 0 hC (by omega) (by omega) (by omega) (by omega) (by omega) (by omega)
  rw [up_up] at hd
  have e9 : nC (tw dgB t (run spB t p)) 0 = nvC t (run spB t p) := rfl
  rw [e9] at hd
  unfold f_X9_readNumber rnum
  simp (disch := omega) only [n_69, n_50, n_13, Option.bind_some, bd2_some, bdX_ok, bdX_er, nm_eq, n_0, n_1, n_2, n_3, n_4, n_5, n_6, n_7, n_8, n_9, n_10, n_11, n_12, n_14, n_15, n_16, n_17, n_18, n_19, n_20, n_21, n_24, n_27, n_28, n_32, n_43, n_45, n_48, n_56, n_57, n_59, n_64, n_70, n_97, n_99, n_100, n_104, n_118, n_122, n_126, n_127, n_128, n_129, n_130, n_150, n_255, n_600, n_1000, n_1050, n_1200, n_999999, n_1000000, iI_neg, iI_add, iI_sub, iI_mul, ile, ilt, ieq, H9, skipSpaces_eq hfu h, G9_3, up_at, isAtDigit_eq hC]
  cases ha : atB dgB t (run spB t p) with
  | false =>
    rw [show b2 false = 0 from rfl, if_pos (show iI 0 = iI 0 from rfl)]
    unfold f_X9_fail
    simp (disch := omega) only [n_69, n_50, n_13, Option.bind_some, bd2_some, bdX_ok, bdX_er, nm_eq, n_0, n_1, n_2, n_3, n_4, n_5, n_6, n_7, n_8, n_9, n_10, n_11, n_12, n_14, n_15, n_16, n_17, n_18, n_19, n_20, n_21, n_24, n_27, n_28, n_32, n_43, n_45, n_48, n_56, n_57, n_59, n_64, n_70, n_97, n_99, n_100, n_104, n_118, n_122, n_126, n_127, n_128, n_129, n_130, n_150, n_255, n_600, n_1000, n_1050, n_1200, n_999999, n_1000000, iI_neg, iI_add, iI_sub, iI_mul, ile, ilt, ieq, U9_4, U9_5]
    refine ⟨fun v q hv => by simp at hv, fun c s hv => ?_⟩
    have hv : (-2, run spB t p) = (c, s) := by simpa using hv
    injection hv with a b
    subst a; subst b
    exact ⟨run spB t p, rfl, hs⟩
  | true =>
    rw [show b2 true = 1 from rfl, if_neg (show ¬ iI 1 = iI 0 by decide), if_pos (show (true = true) from rfl)]
    rw [hd]
    unfold f_X9_readNumber_85 f_X9_readNumber_103 f_X9_fail
    simp (disch := omega) only [n_69, n_50, n_13, Option.bind_some, bd2_some, bdX_ok, bdX_er, nm_eq, n_0, n_1, n_2, n_3, n_4, n_5, n_6, n_7, n_8, n_9, n_10, n_11, n_12, n_14, n_15, n_16, n_17, n_18, n_19, n_20, n_21, n_24, n_27, n_28, n_32, n_43, n_45, n_48, n_56, n_57, n_59, n_64, n_70, n_97, n_99, n_100, n_104, n_118, n_122, n_126, n_127, n_128, n_129, n_130, n_150, n_255, n_600, n_1000, n_1050, n_1200, n_999999, n_1000000, iI_neg, iI_add, iI_sub, iI_mul, ile, ilt, ieq, H9, U9_4, U9_5]
    have hcond : (nvC t (run spB t p) < lo ∨ hi < nvC t (run spB t p) ∨ nvC t (run spB t p) = un) ↔ (nvR t (run spB t p) < lo ∨ hi < nvR t (run spB t p) ∨ nvR t (run spB t p) = un) := by
      rcases hrel with ⟨r1, r2, r3⟩ | ⟨r1, r2, r3, r4⟩
      · rw [r1]
      · constructor <;> intro _ <;> (right; left; omega)
    by_cases c1 : nvR t (run spB t p) < lo ∨ hi < nvR t (run spB t p) ∨ nvR t (run spB t p) = un
    · have c2 := hcond.mpr c1
      rw [if_pos c1]
      refine ⟨fun v q hv => (by cases hv), fun c s hv => ?_⟩
      have hv : (-3, run spB t p) = (c, s) := by injection hv
      injection hv with a b
      subst a; subst b
      refine ⟨run dgB t (run spB t p), ?_, hs⟩
      rcases c2 with c2 | c2 | c2
      · rw [if_pos c2]
      · by_cases q : nvC t (run spB t p) < lo
        · rw [if_pos q]
        · rw [if_neg q, if_pos c2]
      · by_cases q : nvC t (run spB t p) < lo
        · rw [if_pos q]
        · rw [if_neg q]
          by_cases q2 : hi < nvC t (run spB t p)
          · rw [if_pos q2]
          · rw [if_neg q2, if_pos c2]
    · have c2 : ¬ (nvC t (run spB t p) < lo ∨ hi < nvC t (run spB t p) ∨ nvC t (run spB t p) = un) := fun q => c1 (hcond.mp q)
      have ev : nvC t (run spB t p) = nvR t (run spB t p) := by
        rcases hrel with ⟨r1, -⟩ | ⟨r1, r2, r3, r4⟩
        · exact r1
        · exfalso; exact c1 (Or.inr (Or.inl (by omega)))
      rw [if_neg c1, if_neg (fun q => c2 (Or.inl q)), if_neg (fun q => c2 (Or.inr (Or.inl q))), if_neg (fun q => c2 (Or.inr (Or.inr q)))]
      refine ⟨fun v q hv => ?_, fun c s hv => by cases hv⟩
      have hv : (nvR t (run spB t p), run dgB t (run spB t p)) = (v, q) := by injection hv
      injection hv with a b
      subst a; subst b
      rw [ev]
      exact ⟨rfl, hq⟩
theorem readSemi_eq (hfu : 1000 ≤ fu) (h : CT m t p) : (∀ q, rsemi t p = .ok q → f_X9_readSemicolon fu 228 (mem w m) = some (iI 1, mem w (up m 228 3 (q : Nat))) ∧ q ≤ t.length) ∧ (∀ c s, rsemi t p = .error (c, s) → ∃ q : Nat, f_X9_readSemicolon fu 228 (mem w m) = some (iI 0, mem w (up (up (up m 228 3 (q : Nat)) 228 4 c) 228 5 (s : Nat))) ∧ s ≤ t.length) := by
  have h2 := h.2.1
  have hs := run_le (P := spB) h.2.2.2.1
  have hC := h.up hs
  have hk := pk_is hC
  unfold f_X9_readSemicolon rsemi
  simp (disch := omega) only [n_69, n_50, n_13, Option.bind_some, bd2_some, bdX_ok, bdX_er, nm_eq, n_0, n_1, n_2, n_3, n_4, n_5, n_6, n_7, n_8, n_9, n_10, n_11, n_12, n_14, n_15, n_16, n_17, n_18, n_19, n_20, n_21, n_24, n_27, n_28, n_32, n_43, n_45, n_48, n_56, n_57, n_59, n_64, n_70, n_97, n_99, n_100, n_104, n_118, n_122, n_126, n_127, n_128, n_129, n_130, n_150, n_255, n_600, n_1000, n_1050, n_1200, n_999999, n_1000000, iI_neg, iI_add, iI_sub, iI_mul, ile, ilt, ieq, H9, skipSpaces_eq hfu h, G9_3, up_at, peek_eq hC, U9_3]
  rw [up_up]
  cases ha : atB smB t (run spB t p) with
  | true =>
    obtain ⟨c, -, -, hl⟩ := at_some ha
    rw [if_pos (hk.2.2.2.2.2.1.mpr ha), if_pos rfl]
    refine ⟨fun q hv => ?_, fun c s hv => by cases hv⟩
    have hv : run spB t p + 1 = q := by injection hv
    subst hv
    rw [show ((run spB t p + 1 : Nat) : Int) = (run spB t p : Int) + 1 by omega]
    exact ⟨rfl, by omega⟩
  | false =>
    have hne : pk t (run spB t p) ≠ 59 := fun q => by rw [hk.2.2.2.2.2.1.mp q] at ha; cases ha
    rw [if_neg hne, if_neg (by decide)]
    unfold f_X9_fail
    simp (disch := omega) only [n_69, n_50, n_13, Option.bind_some, bd2_some, bdX_ok, bdX_er, nm_eq, n_0, n_1, n_2, n_3, n_4, n_5, n_6, n_7, n_8, n_9, n_10, n_11, n_12, n_14, n_15, n_16, n_17, n_18, n_19, n_20, n_21, n_24, n_27, n_28, n_32, n_43, n_45, n_48, n_56, n_57, n_59, n_64, n_70, n_97, n_99, n_100, n_104, n_118, n_122, n_126, n_127, n_128, n_129, n_130, n_150, n_255, n_600, n_1000, n_1050, n_1200, n_999999, n_1000000, iI_neg, iI_add, iI_sub, iI_mul, ile, ilt, ieq, U9_4, U9_5]
    rw [and1 (Or.inl rfl)]
    refine ⟨fun q hv => (by cases hv), fun c s hv => ?_⟩
    have hv : (-2, run spB t p) = (c, s) := by injection hv
    injection hv with a b
    subst a; subst b
    exact ⟨run spB t p, rfl, hs⟩
end TC
