/-! delays as numbers -/
def pcb (n k : Nat) : Nat := if n.testBit k then 1 else 0
theorem iI_ofN (n : Nat) : iI (n : Int) = Int32.ofNat n := rfl
theorem bt_N {n : Nat} {a : Int} (hn : n < 65536) (h0 : 0 ≤ a) (h1 : a < 32) : bt (iI (n : Int)) a = if n.testBit a.toNat then 1 else 0 := by
  unfold bt
  have : (iI (n : Int)).toBitVec = BitVec.ofNat 32 n := rfl
  rw [this, BitVec.getLsbD_ofNat]
  have h : a.toNat < 32 := by omega
  simp [h]
theorem or_N {n : Nat} {a : Int} (hn : n < 65536) (h0 : 0 ≤ a) (h1 : a < 16) : iI (n : Int) ||| (1 <<< (iI a &&& 31)) = iI ((n ||| 2 ^ a.toNat : Nat) : Int) := by
  rw [iI_and31 h0 (by omega)]
  have h : ∀ k : Nat, k < 16 → ((1 : Int32) <<< iI (k : Int)) = iI ((2 ^ k : Nat) : Int) := by decide +kernel
  have h9 := h a.toNat (by omega)
  rw [show ((a.toNat : Nat) : Int) = a by omega] at h9
  rw [h9]
  apply Int32.toBitVec_inj.mp
  rw [Int32.toBitVec_or]
  have e : ∀ k : Nat, (iI (k : Int)).toBitVec = BitVec.ofNat 32 k := fun k => rfl
  rw [e, e, e]
  apply BitVec.eq_of_getLsbD_eq
  intro i hi
  rw [BitVec.getLsbD_or, BitVec.getLsbD_ofNat, BitVec.getLsbD_ofNat, BitVec.getLsbD_ofNat, Nat.testBit_or]
  simp [hi]
theorem or_lt {n a : Nat} (hn : n < 65536) (ha : a < 16) : n ||| 2 ^ a < 65536 := by
  have : 2 ^ a < 2 ^ 16 := Nat.pow_lt_pow_right (by omega) ha
  exact Nat.or_lt_two_pow (n := 16) hn this
def pcN (k n : Nat) : Nat := ((List.range k).map (pcb n)).sum
theorem pcb_succ (n k : Nat) : pcb n (k + 1) = pcb (n / 2) k := by unfold pcb; rw [Nat.testBit_succ]
theorem pcb_zero (n : Nat) : pcb n 0 = n % 2 := by
  unfold pcb
  rw [Nat.testBit_zero]
  have : n % 2 = 0 ∨ n % 2 = 1 := by omega
  rcases this with h | h <;> rw [h] <;> rfl
theorem pcN_succ (k n : Nat) : pcN (k + 1) n = n % 2 + pcN k (n / 2) := by
  unfold pcN
  rw [List.range_succ_eq_map, List.map_cons, List.sum_cons, List.map_map, pcb_zero]
  congr 2
  apply List.map_congr_left
  intro j _
  exact pcb_succ n j
theorem pcN_more : ∀ (k n : Nat), n < 2 ^ k → pcN (k + 1) n = pcN k n := by
  intro k
  induction k with
  | zero => 
    intro n h
    have : n = 0 := by simpa using h
    subst this; decide
  | succ k ih =>
    intro n h
    rw [pcN_succ (k + 1) n, pcN_succ k n, ih (n / 2) (by rw [Nat.pow_succ] at h; omega)]
/-- one more member -/
theorem sum_one {p q : Nat → Nat} {a : Nat} (ha : p a = q a + 1) (hne : ∀ j, j ≠ a → p j = q j) : ∀ (L : List Nat), L.Nodup → (L.map p).sum = (L.map q).sum + (if a ∈ L then 1 else 0) := by
  intro L
  induction L with
  | nil => intro _; simp
  | cons x L ih =>
    intro h
    obtain ⟨h1, h2⟩ := List.nodup_cons.mp h
    have := ih h2
    rw [List.map_cons, List.sum_cons, List.map_cons, List.sum_cons, this]
    by_cases hx : x = a
    · subst hx
      rw [if_neg h1, if_pos List.mem_cons_self, ha]; omega
    · have e : (a ∈ x :: L) ↔ a ∈ L := ⟨fun q => by rcases List.mem_cons.mp q with q | q; exact absurd q.symm hx; exact q, List.mem_cons_of_mem _⟩
      rw [hne x hx]
      by_cases hm : a ∈ L
      · rw [if_pos hm, if_pos (e.mpr hm)]; omega
      · rw [if_neg hm, if_neg (fun q => hm (e.mp q))]; omega
theorem pcN_or {n a : Nat} (ha : a < 16) (h : n.testBit a = false) : pcN 16 (n ||| 2 ^ a) = pcN 16 n + 1 := by
  unfold pcN
  have := sum_one (p := pcb (n ||| 2 ^ a)) (q := pcb n) (a := a) (by
    unfold pcb
    rw [Nat.testBit_or, Nat.testBit_two_pow_self, h]
    rfl) (fun j hj => by
    unfold pcb
    rw [Nat.testBit_or, Nat.testBit_two_pow_of_ne (fun e => hj e.symm), Bool.or_false]) (List.range 16) List.nodup_range
  rw [this, if_pos (List.mem_range.mpr ha)]
/-- the delay of picked places -/
def dl (P : Nat) : List Int → Nat
  | [] => 0
  | a :: l => (if P.testBit 0 then 2 ^ a.toNat else 0) ||| dl (P / 2) l
def okL (l : List Int) : Prop := ∀ a ∈ l, 0 ≤ a ∧ a < 16
theorem dl_lt : ∀ (l : List Int) (P : Nat), okL l → dl P l < 65536 := by
  intro l
  induction l with
  | nil => intro P _; simp [dl]
  | cons a l ih =>
    intro P h
    have ha := h a List.mem_cons_self
    rw [dl]
    refine Nat.or_lt_two_pow (n := 16) ?_ (ih (P / 2) (fun b hb => h b (List.mem_cons_of_mem _ hb)))
    split
    · exact Nat.pow_lt_pow_right (by omega) (by omega)
    · decide
theorem dl_mem : ∀ (l : List Int) (P k : Nat), (dl P l).testBit k = true → ∃ a ∈ l, a.toNat = k := by
  intro l
  induction l with
  | nil => intro P k h; simp [dl] at h
  | cons a l ih =>
    intro P k h
    rw [dl, Nat.testBit_or, Bool.or_eq_true] at h
    rcases h with h | h
    · split at h
      · refine ⟨a, List.mem_cons_self, ?_⟩
        rw [Nat.testBit_two_pow] at h
        simpa using h
      · simp at h
    · obtain ⟨b, hb, e⟩ := ih (P / 2) k h
      exact ⟨b, List.mem_cons_of_mem _ hb, e⟩
theorem dl_onto : ∀ (l : List Int) (d : Nat), okL l → l.Nodup → (∀ k, d.testBit k = true → ∃ a ∈ l, a.toNat = k) → ∃ P, P < 2 ^ l.length ∧ dl P l = d := by
  intro l
  induction l with
  | nil =>
    intro d _ _ h
    refine ⟨0, by simp, ?_⟩
    apply Nat.eq_of_testBit_eq
    intro k
    cases hk : d.testBit k with
    | false => simp [dl]
    | true => obtain ⟨a, ha, -⟩ := h k hk; cases ha
  | cons a l ih =>
    intro d hl hd h
    obtain ⟨n1, n2⟩ := List.nodup_cons.mp hd
    have ha := hl a List.mem_cons_self
    have hne : ∀ b ∈ l, b.toNat ≠ a.toNat := fun b hb e => by
      have := hl b (List.mem_cons_of_mem _ hb)
      have : b = a := by omega
      exact n1 (this ▸ hb)
    by_cases hb : d.testBit a.toNat = true
    · obtain ⟨P, p1, p2⟩ := ih (d ^^^ 2 ^ a.toNat) (fun b hb => hl b (List.mem_cons_of_mem _ hb)) n2 (fun k hk => by
        rw [Nat.testBit_xor, Nat.testBit_two_pow] at hk
        by_cases e : a.toNat = k
        · subst e; rw [hb] at hk; simp at hk
        · simp [e] at hk
          obtain ⟨c, hc, e2⟩ := h k hk
          rcases List.mem_cons.mp hc with rfl | hc
          · exact absurd e2 e
          · exact ⟨c, hc, e2⟩)
      refine ⟨2 * P + 1, by rw [List.length_cons, Nat.pow_succ]; omega, ?_⟩
      rw [dl, show (2 * P + 1) / 2 = P by omega, p2, show (2 * P + 1).testBit 0 = true by rw [Nat.testBit_zero]; simp, if_pos rfl]
      apply Nat.eq_of_testBit_eq
      intro k
      rw [Nat.testBit_or, Nat.testBit_xor, Nat.testBit_two_pow]
      by_cases e : a.toNat = k
      · subst e; simp [hb]
      · simp [e]
    · obtain ⟨P, p1, p2⟩ := ih d (fun b hb => hl b (List.mem_cons_of_mem _ hb)) n2 (fun k hk => by
        obtain ⟨c, hc, e2⟩ := h k hk
        rcases List.mem_cons.mp hc with rfl | hc
        · rw [e2] at hb; exact absurd hk hb
        · exact ⟨c, hc, e2⟩)
      refine ⟨2 * P, by rw [List.length_cons, Nat.pow_succ]; omega, ?_⟩
      rw [dl, show 2 * P / 2 = P by omega, p2, show (2 * P).testBit 0 = false by rw [Nat.testBit_zero]; simp, if_neg (by decide), Nat.zero_or]
theorem dl_pc : ∀ (l : List Int) (P k : Nat), okL l → l.Nodup → P < 2 ^ l.length → l.length ≤ k → pcN 16 (dl P l) = pcN k P := by
  intro l
  induction l with
  | nil =>
    intro P k _ _ hP _
    have : P = 0 := by simpa using hP
    subst this
    have z : ∀ k, pcN k 0 = 0 := fun k => by
      induction k with
      | zero => rfl
      | succ k ih => rw [pcN_succ]; simpa using ih
    rw [z]; exact z 16
  | cons a l ih =>
    intro P k hl hd hP hk
    obtain ⟨n1, n2⟩ := List.nodup_cons.mp hd
    have ha := hl a List.mem_cons_self
    rw [List.length_cons] at hP hk
    obtain ⟨k, rfl⟩ : ∃ k', k = k' + 1 := ⟨k - 1, by omega⟩
    rw [pcN_succ k P, ← ih (P / 2) k (fun b hb => hl b (List.mem_cons_of_mem _ hb)) n2 (by rw [Nat.pow_succ] at hP; omega) (by omega), dl]
    have hb : (dl (P / 2) l).testBit a.toNat = false := by
      cases hq : (dl (P / 2) l).testBit a.toNat with
      | false => rfl
      | true =>
        obtain ⟨b, hb, e⟩ := dl_mem l _ _ hq
        have := hl b (List.mem_cons_of_mem _ hb)
        have : b = a := by omega
        exact absurd (this ▸ hb) n1
    rw [Nat.testBit_zero]
    have : P % 2 = 0 ∨ P % 2 = 1 := by omega
    rcases this with h | h
    · rw [h]; simp
    · rw [h, if_pos (by decide), Nat.or_comm, pcN_or (by omega) hb]; omega
/-- the class's way -/
theorem dlyF_eq {P : Nat} (hP : P < 65536) : ∀ (l : List Int) (i D : Nat), okL l → i + l.length ≤ 16 → D < 65536 → dlyF (iI (P : Int)) l (i : Int) (iI (D : Int)) = iI ((D ||| dl (P >>> i) l : Nat) : Int) := by
  intro l
  induction l with
  | nil => intro i D _ _ _; simp [dlyF, dl]
  | cons a l ih =>
    intro i D hl hi hD
    have ha := hl a List.mem_cons_self
    rw [List.length_cons] at hi
    rw [dlyF, bt_N hP (by omega) (by omega), Int.toNat_natCast, dl, Nat.testBit_shiftRight, Nat.add_zero]
    have hl' : okL l := fun b hb => hl b (List.mem_cons_of_mem _ hb)
    have e2 : (P >>> i) / 2 = P >>> (i + 1) := by rw [Nat.shiftRight_succ]
    rw [e2]
    have e1 : ((i : Int) + 1) = ((i + 1 : Nat) : Int) := by omega
    rw [e1]
    cases hb : P.testBit i with
    | true =>
      rw [if_neg (by decide), or_N hD ha.1 ha.2, ih (i + 1) (D ||| 2 ^ a.toNat) hl' (by omega) (or_lt hD (by omega)), if_pos rfl, Nat.or_assoc]
    | false =>
      rw [if_pos (by rfl), ih (i + 1) D hl' (by omega) hD, if_neg (by decide), Nat.zero_or]
