/-! the shortest cost against a delay -/
def ck (N : Nt) (D : Int32) (k : Int) : Int := aCo N k + bt D k * aEx N k
def rel1 (N : Nt) (D : Int32) (g : Int → Int) (k : Int) : Int → Int := if g (aTl N k) + ck N D k < g (aHd N k) then upd1 g (aHd N k) (g (aTl N k) + ck N D k) else g
def rnds (N : Nt) (D : Int32) : Nat → Int → Int
  | 0 => fun v => if v = nS N then 0 else 999999
  | j + 1 => (arF N 0).foldl (rel1 N D) (rnds N D j)
/-- 999999 where there is no route -/
def sp (N : Nt) (D : Int32) : Int := rnds N D (nN N - 1).toNat (nT N)
theorem ck_nn {N : Nt} (hW : WFN N) {D : Int32} {k : Int} (h0 : 0 ≤ k) (h1 : k < nA N) : 0 ≤ ck N D k ∧ ck N D k ≤ 198 := by
  have := hW.arc h0 h1
  unfold ck
  rcases bt_01 D k with e | e <;> rw [e] <;> omega
theorem cst_cons {N : Nt} {D : Int32} {a : Int} {l : List Int} : cst N (a :: l) D = ck N D a + cst N l D := rfl
theorem cst_app {N : Nt} {D : Int32} : ∀ (l l' : List Int), cst N (l ++ l') D = cst N l D + cst N l' D := by
  intro l
  induction l with
  | nil => intro l'; simp [cst]
  | cons a l ih => intro l'; rw [List.cons_append, cst_cons, cst_cons, ih]; omega
theorem rel1_le {N : Nt} {D : Int32} (g : Int → Int) (k v : Int) : rel1 N D g k v ≤ g v := by
  unfold rel1
  split
  · unfold upd1
    split
    · rename_i h e; subst e; omega
    · exact Int.le_refl _
  · exact Int.le_refl _
theorem relF_le {N : Nt} {D : Int32} : ∀ (as : List Int) (g : Int → Int) (v : Int), as.foldl (rel1 N D) g v ≤ g v := by
  intro as
  induction as with
  | nil => intro g v; exact Int.le_refl _
  | cons a as ih => intro g v; exact Int.le_trans (ih _ v) (rel1_le g a v)
theorem rel1_hd {N : Nt} {D : Int32} (g : Int → Int) (k : Int) : rel1 N D g k (aHd N k) ≤ g (aTl N k) + ck N D k := by
  unfold rel1
  split
  · unfold upd1; rw [if_pos rfl]; exact Int.le_refl _
  · omega
/-- in a round each arc is relaxed -/
theorem relF_hd {N : Nt} {D : Int32} : ∀ (as : List Int) (g : Int → Int) (k : Int), k ∈ as → as.foldl (rel1 N D) g (aHd N k) ≤ g (aTl N k) + ck N D k := by
  intro as
  induction as with
  | nil => intro g k h; cases h
  | cons a as ih =>
    intro g k h
    rw [List.foldl_cons]
    rcases List.mem_cons.mp h with rfl | h
    · exact Int.le_trans (relF_le as _ _) (rel1_hd g k)
    · have := ih (rel1 N D g a) k h
      have := rel1_le (N := N) (D := D) g a (aTl N k)
      omega
/-- a walk: arcs in a row from the source -/
def wk (N : Nt) (l : List Int) : Prop := ∀ pre a suf, l = pre ++ a :: suf → 0 ≤ a ∧ a < nA N ∧ endOf N pre = aTl N a
theorem wk_nil {N : Nt} : wk N [] := fun pre a suf h => by simp at h
theorem wk_snoc {N : Nt} {l : List Int} {a : Int} (h : wk N l) (h0 : 0 ≤ a) (h1 : a < nA N) (hc : endOf N l = aTl N a) : wk N (l ++ [a]) := by
  intro pre b suf e
  rcases List.eq_nil_or_concat suf with rfl | ⟨suf', c, rfl⟩
  · have := List.append_inj_right' e rfl
    have e2 := List.append_inj_left' e rfl
    cases this
    subst e2
    exact ⟨h0, h1, hc⟩
  · rw [List.concat_eq_append, ← List.cons_append, ← List.append_assoc] at e
    have e2 := List.append_inj_left' e rfl
    exact h pre b suf' e2
theorem wk_init {N : Nt} {l : List Int} {a : Int} (h : wk N (l ++ [a])) : wk N l ∧ 0 ≤ a ∧ a < nA N ∧ endOf N l = aTl N a := by
  refine ⟨fun pre b suf e => h pre b (suf ++ [a]) (by rw [e]; simp), h l a [] rfl⟩
theorem pOK_wk {N : Nt} {l : List Int} (h : pOK N l) : wk N l := fun pre a suf e => by
  obtain ⟨h0, h1, h2⟩ := h pre a suf e
  exact ⟨h0, h1, (canFol_spec h2).1⟩
theorem rnds_walk {N : Nt} {D : Int32} : ∀ (j : Nat) (l : List Int), wk N l → l.length ≤ j → rnds N D j (endOf N l) ≤ cst N l D := by
  intro j
  induction j with
  | zero =>
    intro l _ hl
    have : l = [] := List.eq_nil_of_length_eq_zero (by omega)
    subst this
    show (if nS N = nS N then (0 : Int) else 999999) ≤ 0
    rw [if_pos rfl]; omega
  | succ j ih =>
    intro l hw hl
    rcases List.eq_nil_or_concat l with rfl | ⟨l0, a, rfl⟩
    · exact Int.le_trans (relF_le _ _ _) (ih [] hw (by simp))
    · rw [List.concat_eq_append] at hw hl ⊢
      obtain ⟨h1, h2, h3, h4⟩ := wk_init hw
      have := ih l0 h1 (by simp at hl; omega)
      rw [endOf_snoc, cst_app]
      have h5 := relF_hd (N := N) (D := D) (arF N 0) (rnds N D j) a (arF_mem.mpr ⟨h2, h3⟩)
      rw [h4] at this
      show (arF N 0).foldl (rel1 N D) (rnds N D j) (aHd N a) ≤ _
      simp only [cst]
      unfold ck at h5
      omega
/-- what is reached is the cost of a walk -/
def walked (N : Nt) (D : Int32) (g : Int → Int) : Prop := ∀ v, g v = 999999 ∨ ∃ l, wk N l ∧ endOf N l = v ∧ cst N l D = g v
theorem walked_rel {N : Nt} (hW : WFN N) {D : Int32} {g : Int → Int} {k : Int} (h : walked N D g) (hb : ∀ v, g v ≤ 999999) (h0 : 0 ≤ k) (h1 : k < nA N) : walked N D (rel1 N D g k) ∧ ∀ v, rel1 N D g k v ≤ 999999 := by
  have hc := ck_nn (D := D) hW h0 h1
  refine ⟨fun v => ?_, fun v => Int.le_trans (rel1_le g k v) (hb v)⟩
  unfold rel1
  split
  · rename_i hlt
    unfold upd1
    split
    · rename_i e
      subst e
      have hh := hb (aHd N k)
      rcases h (aTl N k) with ht | ⟨l, w1, w2, w3⟩
      · omega
      · refine Or.inr ⟨l ++ [k], wk_snoc w1 h0 h1 w2, endOf_snoc, ?_⟩
        rw [cst_app, w3]; simp only [cst]; unfold ck; omega
    · exact h v
  · exact h v
theorem walked_relF {N : Nt} (hW : WFN N) {D : Int32} : ∀ (as : List Int) (g : Int → Int), (∀ a ∈ as, 0 ≤ a ∧ a < nA N) → walked N D g → (∀ v, g v ≤ 999999) → walked N D (as.foldl (rel1 N D) g) ∧ ∀ v, as.foldl (rel1 N D) g v ≤ 999999 := by
  intro as
  induction as with
  | nil => intro g _ h hb; exact ⟨h, hb⟩
  | cons a as ih =>
    intro g ha h hb
    obtain ⟨h1, h2⟩ := walked_rel hW h hb (ha a List.mem_cons_self).1 (ha a List.mem_cons_self).2
    exact ih _ (fun b hb => ha b (List.mem_cons_of_mem _ hb)) h1 h2
theorem rnds_walked {N : Nt} (hW : WFN N) {D : Int32} : ∀ j, walked N D (rnds N D j) ∧ ∀ v, rnds N D j v ≤ 999999 := by
  intro j
  induction j with
  | zero =>
    refine ⟨fun v => ?_, fun v => ?_⟩
    · show (if v = nS N then (0 : Int) else 999999) = 999999 ∨ ∃ l, wk N l ∧ endOf N l = v ∧ cst N l D = (if v = nS N then (0 : Int) else 999999)
      by_cases hv : v = nS N
      · rw [if_pos hv]; exact Or.inr ⟨[], wk_nil, by rw [hv]; rfl, rfl⟩
      · rw [if_neg hv]; exact Or.inl rfl
    · show (if v = nS N then (0 : Int) else 999999) ≤ 999999
      split <;> omega
  | succ j ih => exact walked_relF hW _ _ (fun a ha => arF_mem.mp ha) ih.1 ih.2
/-- a node twice on a walk -/
theorem twice {N : Nt} : ∀ (n : Nat) (l : List Int), l.length = n → ¬ (nS N :: l.map (aHd N)).Nodup → ∃ p1 p2 p3, l = p1 ++ p2 ++ p3 ∧ p2 ≠ [] ∧ endOf N p1 = endOf N (p1 ++ p2) := by
  intro n
  induction n with
  | zero => intro l hl h; rw [List.eq_nil_of_length_eq_zero hl] at h; simp at h
  | succ n ih =>
    intro l hl h
    rcases List.eq_nil_or_concat l with rfl | ⟨l0, a, rfl⟩
    · simp at hl
    · rw [List.concat_eq_append] at hl h ⊢
      by_cases h0 : (nS N :: l0.map (aHd N)).Nodup
      · have : aHd N a ∈ nS N :: l0.map (aHd N) := by
          refine Classical.byContradiction fun hn => h ?_
          rw [List.map_append, List.map_singleton, ← List.cons_append]
          refine List.nodup_append.mpr ⟨h0, by simp, fun x hx y hy e => ?_⟩
          rw [List.mem_singleton] at hy
          subst hy; subst e
          exact hn hx
        rcases List.mem_cons.mp this with e | e
        · exact ⟨[], l0 ++ [a], [], by simp, by simp, by rw [List.nil_append, endOf_snoc, endOf_nil, e]⟩
        · obtain ⟨b, hb, e9⟩ := List.mem_map.mp e
          obtain ⟨p, q, rfl⟩ := List.append_of_mem hb
          refine ⟨p ++ [b], q ++ [a], [], by simp, by simp, ?_⟩
          rw [endOf_snoc, ← List.append_assoc, endOf_snoc, e9]
      · obtain ⟨p1, p2, p3, q1, q2, q3⟩ := ih l0 (by simpa using hl) h0
        exact ⟨p1, p2, p3 ++ [a], by rw [q1]; simp, q2, q3⟩
theorem wk_app {N : Nt} {p1 p1' : List Int} (he : endOf N p1 = endOf N p1') (h1 : wk N p1') : ∀ (n : Nat) (q : List Int), q.length = n → wk N (p1 ++ q) → wk N (p1' ++ q) ∧ endOf N (p1 ++ q) = endOf N (p1' ++ q) := by
  intro n
  induction n with
  | zero => intro q hq h; rw [List.eq_nil_of_length_eq_zero hq, List.append_nil, List.append_nil]; exact ⟨h1, he⟩
  | succ n ih =>
    intro q hq h
    rcases List.eq_nil_or_concat q with rfl | ⟨q0, a, rfl⟩
    · simp at hq
    · rw [List.concat_eq_append] at hq h ⊢
      rw [← List.append_assoc] at h ⊢
      rw [← List.append_assoc]
      obtain ⟨g1, g2, g3, g4⟩ := wk_init h
      obtain ⟨i1, i2⟩ := ih q0 (by simpa using hq) g1
      exact ⟨wk_snoc i1 g2 g3 (by rw [← i2]; exact g4), by rw [endOf_snoc, endOf_snoc]⟩
theorem wk_pre {N : Nt} {p q : List Int} (h : wk N (p ++ q)) : wk N p := fun pre a suf e => h pre a (suf ++ q) (by rw [e]; simp)
theorem wk_AOK {N : Nt} {l : List Int} (h : wk N l) : AOK N l := fun a ha => by
  obtain ⟨pre, suf, e⟩ := List.append_of_mem ha
  exact ⟨(h pre a suf e).1, (h pre a suf e).2.1⟩
/-- .. and the same way with so few arcs as there are nodes but one -/
theorem wk_short {N : Nt} (hW : WFN N) {D : Int32} : ∀ (n : Nat) (l : List Int), l.length ≤ n → wk N l → ∃ l', wk N l' ∧ endOf N l' = endOf N l ∧ cst N l' D ≤ cst N l D ∧ (l'.length : Int) ≤ nN N - 1 := by
  intro n
  induction n with
  | zero =>
    intro l hl h
    have hw := hW.1
    exact ⟨l, h, rfl, Int.le_refl _, by omega⟩
  | succ n ih =>
    intro l hl h
    have hw := hW.1
    by_cases hd : (nS N :: l.map (aHd N)).Nodup
    · refine ⟨l, h, rfl, Int.le_refl _, ?_⟩
      have := pigeon (nN N).toNat _ hd (fun x hx => by
        rcases List.mem_cons.mp hx with rfl | hx
        · omega
        · obtain ⟨a, ha, rfl⟩ := List.mem_map.mp hx
          have ha := wk_AOK h a ha
          have := hW.arc ha.1 ha.2
          omega)
      simp only [List.length_cons, List.length_map] at this
      omega
    · obtain ⟨p1, p2, p3, q1, q2, q3⟩ := twice _ l rfl hd
      subst q1
      obtain ⟨w1, w2⟩ := wk_app q3.symm (wk_pre (wk_pre h)) _ p3 rfl h
      obtain ⟨l', a1, a2, a3, a4⟩ := ih (p1 ++ p3) (by
        have : 0 < p2.length := List.length_pos_iff.mpr q2
        simp only [List.length_append] at hl ⊢
        omega) w1
      refine ⟨l', a1, a2.trans w2.symm, Int.le_trans a3 ?_, a4⟩
      rw [cst_app, cst_app, cst_app]
      have := cst_nn (D := D) hW (l := p2) (fun a ha => wk_AOK h a (by simp [ha]))
      omega
theorem rnds_mono {N : Nt} {D : Int32} (v : Int) : ∀ (d j : Nat), rnds N D (j + d) v ≤ rnds N D j v := by
  intro d
  induction d with
  | zero => intro j; exact Int.le_refl _
  | succ d ih => intro j; exact Int.le_trans (relF_le _ _ _) (ih j)
/-- nothing changes behind the last needed round -/
theorem rnds_stable {N : Nt} (hW : WFN N) {D : Int32} {j : Nat} (hj : (nN N - 1).toNat ≤ j) (v : Int) : rnds N D j v = rnds N D (nN N - 1).toNat v := by
  refine Int.le_antisymm ?_ ?_
  · have := rnds_mono (N := N) (D := D) v (j - (nN N - 1).toNat) (nN N - 1).toNat
    rw [show (nN N - 1).toNat + (j - (nN N - 1).toNat) = j by omega] at this
    exact this
  · obtain ⟨h1, h2⟩ := rnds_walked hW (D := D) j
    rcases h1 v with h | ⟨l, w1, w2, w3⟩
    · rw [h]; exact (rnds_walked hW _).2 v
    · obtain ⟨l', a1, a2, a3, a4⟩ := wk_short hW (D := D) _ l (Nat.le_refl _) w1
      have := rnds_walk (D := D) (nN N - 1).toNat l' a1 (by omega)
      rw [a2, w2] at this
      omega
theorem rnds_fix {N : Nt} {D : Int32} {j : Nat} (h : rnds N D (j + 1) = rnds N D j) : ∀ d, rnds N D (j + d) = rnds N D j := by
  intro d
  induction d with
  | zero => rfl
  | succ d ih =>
    show (arF N 0).foldl (rel1 N D) (rnds N D (j + d)) = _
    rw [ih]
    exact h
theorem sp_of {N : Nt} (hW : WFN N) {D : Int32} {J : Nat} (h : 8 ≤ J ∨ rnds N D (J + 1) = rnds N D J) : rnds N D J (nT N) = sp N D := by
  have hw := hW.1
  unfold sp
  by_cases hJ : (nN N - 1).toNat ≤ J
  · exact rnds_stable hW hJ _
  · rcases h with h | h
    · omega
    · have := rnds_fix h ((nN N - 1).toNat - J)
      rw [show J + ((nN N - 1).toNat - J) = (nN N - 1).toNat by omega] at this
      rw [this]
/-- a route is no shorter -/
theorem sp_route {N : Nt} (hW : WFN N) {D : Int32} {l : List Int} (h : pOK N l) (he : endOf N l = nT N) : sp N D ≤ cst N l D := by
  have := rnds_walk (D := D) 7 l (pOK_wk h) (pOK_len hW h)
  have hw := hW.1
  rw [rnds_stable hW (by omega), he] at this
  exact this
theorem sp_nn {N : Nt} (hW : WFN N) {D : Int32} : 0 ≤ sp N D ∧ sp N D ≤ 999999 := by
  obtain ⟨h1, h2⟩ := rnds_walked hW (D := D) (nN N - 1).toNat
  refine ⟨?_, h2 _⟩
  unfold sp
  rcases h1 (nT N) with h | ⟨l, w1, -, w3⟩
  · omega
  · have := cst_nn (D := D) hW (wk_AOK w1)
    omega
