/-! routes as sets of arcs -/
def mkF : List Int → Int32 → Int32
  | [], D => D
  | a :: l, D => mkF l (D ||| (1 <<< (iI a &&& 31)))
def mkA (l : List Int) : Int32 := mkF l 0
def mkG : List Int → Nat → Nat
  | [], n => n
  | a :: l, n => mkG l (n ||| 2 ^ a.toNat)
def mkN (l : List Int) : Nat := mkG l 0
theorem mkG_lt : ∀ (l : List Int) (n : Nat), okL l → n < 65536 → mkG l n < 65536 := by
  intro l
  induction l with
  | nil => intro n _ h; exact h
  | cons a l ih =>
    intro n hl h
    have ha := hl a List.mem_cons_self
    exact ih _ (fun b hb => hl b (List.mem_cons_of_mem _ hb)) (or_lt h (by omega))
theorem mkF_N : ∀ (l : List Int) (n : Nat), okL l → n < 65536 → mkF l (iI (n : Int)) = iI ((mkG l n : Nat) : Int) := by
  intro l
  induction l with
  | nil => intro n _ _; rfl
  | cons a l ih =>
    intro n hl h
    have ha := hl a List.mem_cons_self
    rw [mkF, or_N h ha.1 ha.2, ih _ (fun b hb => hl b (List.mem_cons_of_mem _ hb)) (or_lt h (by omega))]
    rfl
theorem mkA_N {l : List Int} (hl : okL l) : mkA l = iI ((mkN l : Nat) : Int) := mkF_N l 0 hl (by decide)
theorem mkG_bit : ∀ (l : List Int) (n k : Nat), okL l → ((mkG l n).testBit k = true ↔ n.testBit k = true ∨ ∃ a ∈ l, a.toNat = k) := by
  intro l
  induction l with
  | nil => intro n k _; simp [mkG]
  | cons a l ih =>
    intro n k hl
    rw [mkG, ih _ _ (fun b hb => hl b (List.mem_cons_of_mem _ hb)), Nat.testBit_or, Bool.or_eq_true, Nat.testBit_two_pow]
    constructor
    · rintro ((h | h) | ⟨b, hb, e⟩)
      · exact Or.inl h
      · exact Or.inr ⟨a, List.mem_cons_self, by simpa using h⟩
      · exact Or.inr ⟨b, List.mem_cons_of_mem _ hb, e⟩
    · rintro (h | ⟨b, hb, e⟩)
      · exact Or.inl (Or.inl h)
      · rcases List.mem_cons.mp hb with rfl | hb
        · exact Or.inl (Or.inr (by simpa using e))
        · exact Or.inr ⟨b, hb, e⟩
theorem mkN_bit {l : List Int} (hl : okL l) (k : Nat) : (mkN l).testBit k = true ↔ ∃ a ∈ l, a.toNat = k := by
  unfold mkN
  rw [mkG_bit l 0 k hl]
  simp
theorem mkA_bt {l : List Int} (hl : okL l) {k : Int} (h0 : 0 ≤ k) (h1 : k < 32) : bt (mkA l) k = if k ∈ l then 1 else 0 := by
  have h : mkN l < 65536 := mkG_lt l 0 hl (by decide)
  rw [mkA_N hl, bt_N h h0 h1]
  by_cases q : k ∈ l
  · rw [if_pos q, if_pos ((mkN_bit hl _).mpr ⟨k, q, rfl⟩)]
  · rw [if_neg q, if_neg (fun e => by
      obtain ⟨a, ha, e⟩ := (mkN_bit hl _).mp e
      have := hl a ha
      have : a = k := by omega
      exact q (this ▸ ha))]
theorem pcG : ∀ (l : List Int) (n : Nat), okL l → l.Nodup → (∀ a ∈ l, n.testBit a.toNat = false) → pcN 16 (mkG l n) = pcN 16 n + l.length := by
  intro l
  induction l with
  | nil => intro n _ _ _; rfl
  | cons a l ih =>
    intro n hl hd hn
    obtain ⟨n1, n2⟩ := List.nodup_cons.mp hd
    have ha := hl a List.mem_cons_self
    rw [mkG, ih _ (fun b hb => hl b (List.mem_cons_of_mem _ hb)) n2 (fun b hb => by
      have hb' := hl b (List.mem_cons_of_mem _ hb)
      rw [Nat.testBit_or, hn b (List.mem_cons_of_mem _ hb), Bool.false_or, Nat.testBit_two_pow]
      have : ¬ a.toNat = b.toNat := fun e => by
        have : a = b := by omega
        exact n1 (this ▸ hb)
      simp [this]), pcN_or (by omega) (hn a List.mem_cons_self), List.length_cons]
    omega
theorem pc_mk {l : List Int} (hl : okL l) (hd : l.Nodup) : pcN 16 (mkN l) = l.length := by
  have := pcG l 0 hl hd (fun a _ => by simp)
  have z : pcN 16 0 = 0 := by decide
  unfold mkN
  omega
theorem arF_nodup {N : Nt} {f : Int} : (arF N f).Nodup := by
  unfold arF
  exact List.pairwise_map.mpr (List.nodup_range.imp (fun h e => h (by omega)))
/-- sums over arcs in a set -/
def sm (c : Int → Int) (l : List Int) : List Int → Int
  | [] => 0
  | k :: ks => (if k ∈ l then c k else 0) + sm c l ks
theorem sm_cons {c : Int → Int} {a : Int} {l : List Int} (ha : a ∉ l) : ∀ ks : List Int, ks.Nodup → sm c (a :: l) ks = sm c l ks + (if a ∈ ks then c a else 0) := by
  intro ks
  induction ks with
  | nil => intro _; simp [sm]
  | cons k ks ih =>
    intro h
    obtain ⟨h1, h2⟩ := List.nodup_cons.mp h
    rw [sm, sm, ih h2]
    by_cases e : k = a
    · subst e
      rw [if_pos List.mem_cons_self, if_neg ha, if_neg h1, if_pos List.mem_cons_self]
      omega
    · have q1 : (k ∈ a :: l) ↔ k ∈ l := ⟨fun q => by rcases List.mem_cons.mp q with q | q; exact absurd q e; exact q, List.mem_cons_of_mem _⟩
      have q2 : (a ∈ k :: ks) ↔ a ∈ ks := ⟨fun q => by rcases List.mem_cons.mp q with q | q; exact absurd q.symm e; exact q, List.mem_cons_of_mem _⟩
      by_cases c1 : k ∈ l
      · rw [if_pos (q1.mpr c1), if_pos c1]
        by_cases c2 : a ∈ ks
        · rw [if_pos c2, if_pos (q2.mpr c2)]; omega
        · rw [if_neg c2, if_neg (fun q => c2 (q2.mp q))]; omega
      · rw [if_neg (fun q => c1 (q1.mp q)), if_neg c1]
        by_cases c2 : a ∈ ks
        · rw [if_pos c2, if_pos (q2.mpr c2)]; omega
        · rw [if_neg c2, if_neg (fun q => c2 (q2.mp q))]; omega
theorem sm_cst {N : Nt} {D : Int32} : ∀ l : List Int, AOK N l → l.Nodup → sm (ck N D) l (arF N 0) = cst N l D := by
  intro l
  induction l with
  | nil =>
    intro _ _
    have : ∀ ks : List Int, sm (ck N D) [] ks = 0 := fun ks => by
      induction ks with
      | nil => rfl
      | cons k ks ih => rw [sm, ih]; simp
    exact this _
  | cons a l ih =>
    intro hl hd
    obtain ⟨n1, n2⟩ := List.nodup_cons.mp hd
    rw [sm_cons n1 _ arF_nodup, ih (fun b hb => hl b (List.mem_cons_of_mem _ hb)) n2, if_pos (arF_mem.mpr (hl a List.mem_cons_self)), cst_cons]
    omega
/-- the witness's arcs: the lowest of the greatest -/
def isWt (N : Nt) (D : Int32) (S : Int → Prop) (b : Int) : Prop := (b = -1 ∧ ∀ k, S k → wE N D k = 0) ∨ (S b ∧ 0 < wE N D b ∧ ∀ k, S k → wE N D k < wE N D b ∨ (wE N D k = wE N D b ∧ b ≤ k))
theorem isWt_one {N : Nt} {D : Int32} {S : Int → Prop} {b b' : Int} (h : isWt N D S b) (h' : isWt N D S b') : b = b' := by
  rcases h with ⟨rfl, h⟩ | ⟨h1, h2, h3⟩ <;> rcases h' with ⟨rfl, g⟩ | ⟨g1, g2, g3⟩
  · rfl
  · have := h b' g1; omega
  · have := g b h1; omega
  · have := h3 b' g1
    have := g3 b h1
    omega
theorem wF_is {N : Nt} {D : Int32} : ∀ (l : List Int) (S : Int → Prop) (a g : Int), (∀ k ∈ l, 0 ≤ k ∧ 0 ≤ wE N D k) → (∀ k, S k → 0 ≤ k) → isWt N D S a → ((a = -1 ∧ g = 0) ∨ (a ≠ -1 ∧ g = wE N D a)) → isWt N D (fun k => S k ∨ k ∈ l) (wF N D l a g) := by
  intro l
  induction l with
  | nil =>
    intro S a g _ _ h _
    rw [wF]
    rcases h with ⟨h1, h2⟩ | ⟨h1, h2, h3⟩
    · exact Or.inl ⟨h1, fun k hk => h2 k (by simpa using hk)⟩
    · exact Or.inr ⟨Or.inl h1, h2, fun k hk => h3 k (by simpa using hk)⟩
  | cons k l ih =>
    intro S a g hl hS h hg
    obtain ⟨hk0, hk1⟩ := hl k List.mem_cons_self
    have hl' := fun x hx => hl x (List.mem_cons_of_mem _ hx)
    have hS' : ∀ x, (S x ∨ x = k) → 0 ≤ x := fun x hx => by rcases hx with hx | rfl; exact hS x hx; exact hk0
    have fin : ∀ a' g', isWt N D (fun x => S x ∨ x = k) a' → ((a' = -1 ∧ g' = 0) ∨ (a' ≠ -1 ∧ g' = wE N D a')) → isWt N D (fun x => S x ∨ x ∈ k :: l) (wF N D l a' g') := fun a' g' h1 h2 => by
      have := ih (fun x => S x ∨ x = k) a' g' hl' hS' h1 h2
      have e : (fun x => (S x ∨ x = k) ∨ x ∈ l) = (fun x => S x ∨ x ∈ k :: l) := by
        funext x
        simp only [List.mem_cons, or_assoc]
      rw [← e]; exact this
    -- k is taken
    have tk : g < wE N D k → isWt N D (fun x => S x ∨ x = k) k := fun hlt => by
      refine Or.inr ⟨Or.inr rfl, ?_, fun x hx => ?_⟩
      · rcases hg with ⟨-, e⟩ | ⟨q, e⟩
        · omega
        · rcases h with ⟨e1, -⟩ | ⟨-, e2, -⟩
          · exact absurd e1 q
          · omega
      · rcases hx with hx | rfl
        · rcases hg with ⟨q, e⟩ | ⟨q, e⟩
          · rcases h with ⟨-, e2⟩ | ⟨e1, -, -⟩
            · have := e2 x hx; omega
            · have := hS a e1; omega
          · rcases h with ⟨e1, -⟩ | ⟨-, -, e3⟩
            · exact absurd e1 q
            · have := e3 x hx; omega
        · exact Or.inr ⟨rfl, Int.le_refl _⟩
    have kp : ¬ g < wE N D k → (wE N D k = g → a ≤ k) → isWt N D (fun x => S x ∨ x = k) a := fun h1 h2 => by
      rcases h with ⟨e1, e2⟩ | ⟨e1, e2, e3⟩
      · refine Or.inl ⟨e1, fun x hx => ?_⟩
        rcases hx with hx | rfl
        · exact e2 x hx
        · rcases hg with ⟨-, e⟩ | ⟨q, -⟩
          · omega
          · exact absurd e1 q
      · have ha := hS a e1
        have eg : g = wE N D a := by rcases hg with ⟨q, -⟩ | ⟨-, e⟩; omega; exact e
        refine Or.inr ⟨Or.inl e1, e2, fun x hx => ?_⟩
        rcases hx with hx | rfl
        · exact e3 x hx
        · by_cases q : wE N D x = g
          · exact Or.inr ⟨by omega, h2 q⟩
          · left; omega
    rw [wF]
    by_cases c1 : g < wE N D k
    · rw [if_pos c1]
      exact fin k _ (tk c1) (Or.inr ⟨by omega, rfl⟩)
    · rw [if_neg c1]
      by_cases c2 : wE N D k = g
      · rw [if_pos c2]
        by_cases c3 : a ≤ k
        · rw [if_pos c3]
          exact fin a g (kp c1 (fun _ => c3)) hg
        · rw [if_neg c3]
          have ha : a ≠ -1 := by omega
          have eg : g = wE N D a := by rcases hg with ⟨q, -⟩ | ⟨-, e⟩; exact absurd q ha; exact e
          refine fin k _ ?_ (Or.inr ⟨by omega, rfl⟩)
          rcases h with ⟨e1, -⟩ | ⟨e1, e2, e3⟩
          · exact absurd e1 ha
          · refine Or.inr ⟨Or.inr rfl, by omega, fun x hx => ?_⟩
            rcases hx with hx | rfl
            · have := e3 x hx; omega
            · exact Or.inr ⟨rfl, Int.le_refl _⟩
      · rw [if_neg c2]
        exact fin a g (kp c1 (fun q => absurd q c2)) hg
theorem wE_nn {N : Nt} (hW : WFN N) {D : Int32} {k : Int} (h0 : 0 ≤ k) (h1 : k < nA N) : 0 ≤ wE N D k ∧ wE N D k ≤ 99 := by
  have := hW.arc h0 h1
  unfold wE
  split <;> omega
theorem wArc_is {N : Nt} (hW : WFN N) {D : Int32} {l : List Int} (hl : AOK N l) : isWt N D (fun k => k ∈ l) (wArc N l D) := by
  have := wF_is (N := N) (D := D) l (fun _ => False) (-1) 0 (fun k hk => ⟨(hl k hk).1, (wE_nn hW (hl k hk).1 (hl k hk).2).1⟩) (fun k h => h.elim) (Or.inl ⟨rfl, fun k h => h.elim⟩) (Or.inl ⟨rfl, rfl⟩)
  have e : (fun k => False ∨ k ∈ l) = (fun k : Int => k ∈ l) := by funext k; simp
  rw [e] at this
  exact this
theorem witF_stop {N : Nt} {l : List Int} {D : Int32} (h : wArc N l D = -1) : ∀ n, witF N l n D = D := by
  intro n
  cases n with
  | zero => rfl
  | succ n => rw [witF, if_pos h]
section RF
variable {w : Wl} {m m' : Mm} {z v k a : Int} {fu : Nat} {N : Nt} {D : Int32} {x x' : Sg} {H H' : List Sg} {l : List Int} {T : List (List Int)}
theorem toldArcs_go {r : Int} (hr : 0 ≤ r ∧ r < 6) (hP : rPth (m 284) (70 + 8 * r) l) : ∀ (suf pre : List Int) (n : Nat) (D : Int32), l = pre ++ suf → suf.length < n → f_X11_toldArcs_4 fu n 283 (iI r) D (iI ((pre.length : Int) + 1)) (mem w m) = some (mkF suf D, mem w m) := by
  obtain ⟨d1, d2, d3⟩ := hP
  intro suf
  induction suf with
  | nil =>
    intro pre n D hs hn
    have hlen : l.length = pre.length := by rw [hs]; simp
    obtain ⟨n, rfl⟩ : ∃ k, n = k + 1 := ⟨n - 1, by omega⟩
    rw [f_X11_toldArcs_4, f_X11_toldArcs_4b]
    simp (disch := omega) only [n_69, n_50, n_13, Option.bind_some, bd2_some, bdX_ok, bdX_er, nm_eq, n_0, n_1, n_2, n_3, n_4, n_5, n_6, n_7, n_8, n_9, n_10, n_11, n_12, n_14, n_15, n_16, n_17, n_18, n_19, n_20, n_21, n_24, n_27, n_28, n_32, n_43, n_45, n_48, n_56, n_57, n_59, n_64, n_70, n_97, n_99, n_100, n_104, n_118, n_122, n_126, n_127, n_128, n_129, n_130, n_150, n_255, n_600, n_1000, n_1050, n_1200, n_999999, n_1000000, iI_neg, iI_add, iI_sub, iI_mul, ile, ilt, ieq, Z_has, Z_0, Z_1, Z_2, Z_5, Z_15, Z_17, Z_18, Z_24, Z_25, Z_26, Z_3, Z_4, Z_6, Z_7, Z_8, Z_9, Z_10, Z_11, Z_12, Z_13, Z_14, Z_16, Z_19, Z_20, Z_21, Z_22, Z_23, Z_27, Y_3, Y_4, Y_6, Y_7, Y_8, Y_9, Y_10, Y_11, Y_12, Y_13, Y_14, Y_16, Y_19, Y_20, Y_21, Y_22, Y_23, Y_27, A_g, A_s, up_at, up_ne, up_off, d1]
    rw [if_pos (by omega)]
    rfl
  | cons c suf ih =>
    intro pre n D hs hn
    have hlen : l.length = pre.length + (suf.length + 1) := by rw [hs]; simp
    simp only [List.length_cons] at hn
    obtain ⟨n, rfl⟩ : ∃ k, n = k + 1 := ⟨n - 1, by omega⟩
    have hg : m 284 (70 + 8 * r + ((pre.length : Int) + 1)) = c := by
      have := d3 pre.length c (by rw [hs]; exact mid_at)
      rw [show (70 : Int) + 8 * r + 1 + (pre.length : Int) = 70 + 8 * r + ((pre.length : Int) + 1) by omega] at this
      exact this
    rw [f_X11_toldArcs_4, f_X11_toldArcs_4b]
    simp (disch := omega) only [n_69, n_50, n_13, Option.bind_some, bd2_some, bdX_ok, bdX_er, nm_eq, n_0, n_1, n_2, n_3, n_4, n_5, n_6, n_7, n_8, n_9, n_10, n_11, n_12, n_14, n_15, n_16, n_17, n_18, n_19, n_20, n_21, n_24, n_27, n_28, n_32, n_43, n_45, n_48, n_56, n_57, n_59, n_64, n_70, n_97, n_99, n_100, n_104, n_118, n_122, n_126, n_127, n_128, n_129, n_130, n_150, n_255, n_600, n_1000, n_1050, n_1200, n_999999, n_1000000, iI_neg, iI_add, iI_sub, iI_mul, ile, ilt, ieq, Z_has, Z_0, Z_1, Z_2, Z_5, Z_15, Z_17, Z_18, Z_24, Z_25, Z_26, Z_3, Z_4, Z_6, Z_7, Z_8, Z_9, Z_10, Z_11, Z_12, Z_13, Z_14, Z_16, Z_19, Z_20, Z_21, Z_22, Z_23, Z_27, Y_3, Y_4, Y_6, Y_7, Y_8, Y_9, Y_10, Y_11, Y_12, Y_13, Y_14, Y_16, Y_19, Y_20, Y_21, Y_22, Y_23, Y_27, A_g, A_s, up_at, up_ne, up_off, d1, hg]
    rw [if_neg (by omega)]
    have := ih (pre ++ [c]) n (D ||| (1 <<< (iI c &&& 31))) (by rw [hs]; simp) (by omega)
    rw [show ((pre ++ [c]).length : Int) = (pre.length : Int) + 1 by simp] at this
    exact this
theorem toldArcs_eq {r : Int} (hfu : 100 ≤ fu) (hr : 0 ≤ r ∧ r < 6) (hP : rPth (m 284) (70 + 8 * r) l) : f_X11_toldArcs fu 283 (iI r) (mem w m) = some (mkA l, mem w m) := by
  have h7 := hP.2.1
  unfold f_X11_toldArcs
  have := toldArcs_go (w := w) (fu := fu) hr hP l [] fu 0 rfl (by omega)
  rw [show (([] : List Int).length : Int) + 1 = 1 from rfl] at this
  simp (disch := omega) only [n_69, n_50, n_13, Option.bind_some, bd2_some, bdX_ok, bdX_er, nm_eq, n_0, n_1, n_2, n_3, n_4, n_5, n_6, n_7, n_8, n_9, n_10, n_11, n_12, n_14, n_15, n_16, n_17, n_18, n_19, n_20, n_21, n_24, n_27, n_28, n_32, n_43, n_45, n_48, n_56, n_57, n_59, n_64, n_70, n_97, n_99, n_100, n_104, n_118, n_122, n_126, n_127, n_128, n_129, n_130, n_150, n_255, n_600, n_1000, n_1050, n_1200, n_999999, n_1000000, iI_neg, iI_add, iI_sub, iI_mul, ile, ilt, ieq]
  exact this
theorem costOf_go (hN : rNet (m 284) N) (hl : okL l) : ∀ (d n : Nat) (k s : Int), nA N - k = d → 0 ≤ k → d < n → f_X11_costOf_5 fu n 283 (mkA l) D (iI s) (iI k) (mem w m) = some (iI (s + sm (ck N D) l (arF N k)), mem w m) := by
  have hw := hN.1.1
  have h4 := hN.2.1.2.2.2.2
  intro d
  induction d with
  | zero =>
    intro n k s hd h0 hn
    obtain ⟨n, rfl⟩ : ∃ k, n = k + 1 := ⟨n - 1, by omega⟩
    rw [f_X11_costOf_5, f_X11_costOf_5b, arF_nil (by omega)]
    simp (disch := omega) only [n_69, n_50, n_13, Option.bind_some, bd2_some, bdX_ok, bdX_er, nm_eq, n_0, n_1, n_2, n_3, n_4, n_5, n_6, n_7, n_8, n_9, n_10, n_11, n_12, n_14, n_15, n_16, n_17, n_18, n_19, n_20, n_21, n_24, n_27, n_28, n_32, n_43, n_45, n_48, n_56, n_57, n_59, n_64, n_70, n_97, n_99, n_100, n_104, n_118, n_122, n_126, n_127, n_128, n_129, n_130, n_150, n_255, n_600, n_1000, n_1050, n_1200, n_999999, n_1000000, iI_neg, iI_add, iI_sub, iI_mul, ile, ilt, ieq, Z_has, Z_0, Z_1, Z_2, Z_5, Z_15, Z_17, Z_18, Z_24, Z_25, Z_26, Z_3, Z_4, Z_6, Z_7, Z_8, Z_9, Z_10, Z_11, Z_12, Z_13, Z_14, Z_16, Z_19, Z_20, Z_21, Z_22, Z_23, Z_27, Y_3, Y_4, Y_6, Y_7, Y_8, Y_9, Y_10, Y_11, Y_12, Y_13, Y_14, Y_16, Y_19, Y_20, Y_21, Y_22, Y_23, Y_27, A_g, A_s, up_at, up_ne, up_off, h4]
    rw [if_pos (by omega)]
    simp [sm]
  | succ d ih =>
    intro n k s hd h0 hn
    obtain ⟨n, rfl⟩ : ∃ k, n = k + 1 := ⟨n - 1, by omega⟩
    have hk : k < nA N := by omega
    rw [f_X11_costOf_5, f_X11_costOf_5b, arF_cons hk]
    unfold f_X11_costOf_57 f_X11_costOf_58
    have hb := mkA_bt hl h0 (show k < 32 by omega)
    have hD := bt_01 D k
    simp (disch := omega) only [n_69, n_50, n_13, Option.bind_some, bd2_some, bdX_ok, bdX_er, nm_eq, n_0, n_1, n_2, n_3, n_4, n_5, n_6, n_7, n_8, n_9, n_10, n_11, n_12, n_14, n_15, n_16, n_17, n_18, n_19, n_20, n_21, n_24, n_27, n_28, n_32, n_43, n_45, n_48, n_56, n_57, n_59, n_64, n_70, n_97, n_99, n_100, n_104, n_118, n_122, n_126, n_127, n_128, n_129, n_130, n_150, n_255, n_600, n_1000, n_1050, n_1200, n_999999, n_1000000, iI_neg, iI_add, iI_sub, iI_mul, ile, ilt, ieq, Z_has, Z_0, Z_1, Z_2, Z_5, Z_15, Z_17, Z_18, Z_24, Z_25, Z_26, Z_3, Z_4, Z_6, Z_7, Z_8, Z_9, Z_10, Z_11, Z_12, Z_13, Z_14, Z_16, Z_19, Z_20, Z_21, Z_22, Z_23, Z_27, Y_3, Y_4, Y_6, Y_7, Y_8, Y_9, Y_10, Y_11, Y_12, Y_13, Y_14, Y_16, Y_19, Y_20, Y_21, Y_22, Y_23, Y_27, A_g, A_s, up_at, up_ne, up_off, h4, hasR_eq h0 (show k < 32 by omega), of_2 hN h0 hk, of_3 hN h0 hk, hb]
    rw [if_neg (by omega), sm]
    by_cases q : k ∈ l
    · rw [if_pos q, if_pos q, if_neg (by decide)]
      have e : bt D k = 0 ∨ bt D k = 1 := bt_01 D k
      rcases e with e | e
      · rw [e, if_pos rfl]
        rw [ih n (k + 1) _ (by omega) (by omega) (by omega)]
        have : ck N D k = aCo N k := by unfold ck; rw [e]; omega
        rw [this]
        congr 3; omega
      · rw [e, if_neg (by decide)]
        rw [ih n (k + 1) _ (by omega) (by omega) (by omega)]
        have : ck N D k = aCo N k + aEx N k := by unfold ck; rw [e]; omega
        rw [this]
        congr 3; omega
    · rw [if_neg q, if_neg q, if_pos rfl]
      rw [ih n (k + 1) _ (by omega) (by omega) (by omega)]
      congr 3; omega
theorem costOf_eq (hfu : 100 ≤ fu) (hN : rNet (m 284) N) (hl : PK N l) : f_X11_costOf fu 283 (mkA l) D (mem w m) = some (iI (cst N l D), mem w m) := by
  have hw := hN.1.1
  unfold f_X11_costOf
  simp (disch := omega) only [n_69, n_50, n_13, Option.bind_some, bd2_some, bdX_ok, bdX_er, nm_eq, n_0, n_1, n_2, n_3, n_4, n_5, n_6, n_7, n_8, n_9, n_10, n_11, n_12, n_14, n_15, n_16, n_17, n_18, n_19, n_20, n_21, n_24, n_27, n_28, n_32, n_43, n_45, n_48, n_56, n_57, n_59, n_64, n_70, n_97, n_99, n_100, n_104, n_118, n_122, n_126, n_127, n_128, n_129, n_130, n_150, n_255, n_600, n_1000, n_1050, n_1200, n_999999, n_1000000, iI_neg, iI_add, iI_sub, iI_mul, ile, ilt, ieq]
  rw [costOf_go (w := w) hN (PK_ok hN.1 hl) (nA N).toNat fu 0 0 (by omega) (by omega) (by omega), sm_cst l hl.1 hl.2, Int.zero_add]
theorem witIn_go {k90 : Nat → Int32 → Int32 → Int32 → Int32 → List Ob → Option (Int32 × List Ob)} {a3 : Int32} (hN : rNet (m 284) N) (hl : okL l) : ∀ (d n : Nat) (k b : Int), nA N - k = d → 0 ≤ k → d < n → isWt N D (fun x => x ∈ l ∧ 0 ≤ x ∧ x < k) b → ∃ b', f_X11_witnessOf_20 fu k90 n 283 (mkA l) D a3 (iI b) (iI k) (mem w m) = k90 283 (mkA l) D a3 (iI b') (mem w m) ∧ isWt N D (fun x => x ∈ l ∧ 0 ≤ x ∧ x < nA N) b' := by
  have hw := hN.1.1
  have h4 := hN.2.1.2.2.2.2
  intro d
  induction d with
  | zero =>
    intro n k b hd h0 hn hb
    obtain ⟨n, rfl⟩ : ∃ k, n = k + 1 := ⟨n - 1, by omega⟩
    rw [f_X11_witnessOf_20, f_X11_witnessOf_20b]
    simp (disch := omega) only [n_69, n_50, n_13, Option.bind_some, bd2_some, bdX_ok, bdX_er, nm_eq, n_0, n_1, n_2, n_3, n_4, n_5, n_6, n_7, n_8, n_9, n_10, n_11, n_12, n_14, n_15, n_16, n_17, n_18, n_19, n_20, n_21, n_24, n_27, n_28, n_32, n_43, n_45, n_48, n_56, n_57, n_59, n_64, n_70, n_97, n_99, n_100, n_104, n_118, n_122, n_126, n_127, n_128, n_129, n_130, n_150, n_255, n_600, n_1000, n_1050, n_1200, n_999999, n_1000000, iI_neg, iI_add, iI_sub, iI_mul, ile, ilt, ieq, Z_has, Z_0, Z_1, Z_2, Z_5, Z_15, Z_17, Z_18, Z_24, Z_25, Z_26, Z_3, Z_4, Z_6, Z_7, Z_8, Z_9, Z_10, Z_11, Z_12, Z_13, Z_14, Z_16, Z_19, Z_20, Z_21, Z_22, Z_23, Z_27, Y_3, Y_4, Y_6, Y_7, Y_8, Y_9, Y_10, Y_11, Y_12, Y_13, Y_14, Y_16, Y_19, Y_20, Y_21, Y_22, Y_23, Y_27, A_g, A_s, up_at, up_ne, up_off, h4]
    rw [if_pos (by omega)]
    refine ⟨b, rfl, ?_⟩
    have : nA N = k := by omega
    rw [this]; exact hb
  | succ d ih =>
    intro n k b hd h0 hn hb
    obtain ⟨n, rfl⟩ : ∃ k, n = k + 1 := ⟨n - 1, by omega⟩
    have hk : k < nA N := by omega
    have hA := hN.1.arc h0 hk
    have hm := mkA_bt hl h0 (show k < 32 by omega)
    have hbr : b = -1 ∨ (0 ≤ b ∧ b < nA N ∧ bt D b = 0 ∧ aEx N b = wE N D b) := by
      rcases hb with ⟨e, -⟩ | ⟨⟨-, e1, e2⟩, e3, -⟩
      · exact Or.inl e
      · refine Or.inr ⟨e1, by omega, ?_⟩
        unfold wE at e3 ⊢
        by_cases q : bt D b = 0
        · exact ⟨q, by rw [if_pos q]⟩
        · rw [if_neg q] at e3; omega
    have same : ∀ b', (¬ (k ∈ l) ∨ wE N D k = 0 ∨ (b' = b ∧ b ≠ -1 ∧ wE N D k ≤ wE N D b)) → b' = b → isWt N D (fun x => x ∈ l ∧ 0 ≤ x ∧ x < k + 1) b' := by
      intro b' hc e
      subst e
      rcases hb with ⟨e1, e2⟩ | ⟨⟨e1, e2, e3⟩, e4, e5⟩
      · refine Or.inl ⟨e1, fun y hy => ?_⟩
        by_cases q : y = k
        · subst q
          rcases hc with hc | hc | ⟨-, hc, -⟩
          · exact absurd hy.1 hc
          · exact hc
          · exact absurd e1 hc
        · exact e2 y ⟨hy.1, hy.2.1, by omega⟩
      · refine Or.inr ⟨⟨e1, e2, by omega⟩, e4, fun y hy => ?_⟩
        by_cases q : y = k
        · subst q
          rcases hc with hc | hc | ⟨-, -, hc⟩
          · exact absurd hy.1 hc
          · left; omega
          · by_cases z : wE N D y = wE N D b'
            · exact Or.inr ⟨z, by omega⟩
            · left; omega
        · exact e5 y ⟨hy.1, hy.2.1, by omega⟩
    have take : k ∈ l → 0 < wE N D k → (b = -1 ∨ wE N D b < wE N D k) → isWt N D (fun x => x ∈ l ∧ 0 ≤ x ∧ x < k + 1) k := by
      intro h1 h2 h3
      refine Or.inr ⟨⟨h1, h0, by omega⟩, h2, fun y hy => ?_⟩
      by_cases q : y = k
      · subst q; exact Or.inr ⟨rfl, Int.le_refl _⟩
      · rcases hb with ⟨e1, e2⟩ | ⟨e1, e4, e5⟩
        · have := e2 y ⟨hy.1, hy.2.1, by omega⟩
          left; omega
        · have := e5 y ⟨hy.1, hy.2.1, by omega⟩
          left
          rcases h3 with h3 | h3
          · have := e1.2.1; omega
          · omega
    rw [f_X11_witnessOf_20, f_X11_witnessOf_20b]
    unfold f_X11_witnessOf_80 f_X11_witnessOf_84
    have hx : bt (mkA l &&& (D ^^^ (-1))) k = (if k ∈ l then 1 else 0) * (1 - bt D k) := by rw [bt_and, bt_not h0 (by omega), hm]
    simp (disch := omega) only [n_69, n_50, n_13, Option.bind_some, bd2_some, bdX_ok, bdX_er, nm_eq, n_0, n_1, n_2, n_3, n_4, n_5, n_6, n_7, n_8, n_9, n_10, n_11, n_12, n_14, n_15, n_16, n_17, n_18, n_19, n_20, n_21, n_24, n_27, n_28, n_32, n_43, n_45, n_48, n_56, n_57, n_59, n_64, n_70, n_97, n_99, n_100, n_104, n_118, n_122, n_126, n_127, n_128, n_129, n_130, n_150, n_255, n_600, n_1000, n_1050, n_1200, n_999999, n_1000000, iI_neg, iI_add, iI_sub, iI_mul, ile, ilt, ieq, Z_has, Z_0, Z_1, Z_2, Z_5, Z_15, Z_17, Z_18, Z_24, Z_25, Z_26, Z_3, Z_4, Z_6, Z_7, Z_8, Z_9, Z_10, Z_11, Z_12, Z_13, Z_14, Z_16, Z_19, Z_20, Z_21, Z_22, Z_23, Z_27, Y_3, Y_4, Y_6, Y_7, Y_8, Y_9, Y_10, Y_11, Y_12, Y_13, Y_14, Y_16, Y_19, Y_20, Y_21, Y_22, Y_23, Y_27, A_g, A_s, up_at, up_ne, up_off, h4, of_3 hN h0 hk]
    rw [if_neg (by omega)]
    rw [show (iI (-1)) = (-1 : Int32) from rfl, hasR_eq h0 (show k < 32 by omega), bd2_some, hx]
    have nx := fun b' hb' => ih n (k + 1) b' (by omega) (by omega) (by omega) hb'
    have e01 := bt_01 D k
    by_cases q1 : k ∈ l
    · rw [if_pos q1]
      rcases e01 with e | e
      · rw [e, show (1 : Int) * (1 - 0) = 1 from rfl, if_neg (by decide)]
        simp (disch := omega) only [n_69, n_50, n_13, Option.bind_some, bd2_some, bdX_ok, bdX_er, nm_eq, n_0, n_1, n_2, n_3, n_4, n_5, n_6, n_7, n_8, n_9, n_10, n_11, n_12, n_14, n_15, n_16, n_17, n_18, n_19, n_20, n_21, n_24, n_27, n_28, n_32, n_43, n_45, n_48, n_56, n_57, n_59, n_64, n_70, n_97, n_99, n_100, n_104, n_118, n_122, n_126, n_127, n_128, n_129, n_130, n_150, n_255, n_600, n_1000, n_1050, n_1200, n_999999, n_1000000, iI_neg, iI_add, iI_sub, iI_mul, ile, ilt, ieq, Z_has, Z_0, Z_1, Z_2, Z_5, Z_15, Z_17, Z_18, Z_24, Z_25, Z_26, Z_3, Z_4, Z_6, Z_7, Z_8, Z_9, Z_10, Z_11, Z_12, Z_13, Z_14, Z_16, Z_19, Z_20, Z_21, Z_22, Z_23, Z_27, Y_3, Y_4, Y_6, Y_7, Y_8, Y_9, Y_10, Y_11, Y_12, Y_13, Y_14, Y_16, Y_19, Y_20, Y_21, Y_22, Y_23, Y_27, A_g, A_s, up_at, up_ne, up_off, of_3 hN h0 hk]
        have ew : wE N D k = aEx N k := by unfold wE; rw [if_pos e]
        by_cases q2 : aEx N k = 0
        · rw [if_pos q2]
          exact nx b (same b (Or.inr (Or.inl (by omega))) rfl)
        · rw [if_neg q2]
          rcases hbr with rfl | ⟨b1, b2, b3, b4⟩
          · rw [if_pos rfl]
            exact nx k (take q1 (by omega) (Or.inl rfl))
          · have hAb := hN.1.arc b1 b2
            rw [if_neg (by omega)]
            simp (disch := omega) only [n_69, n_50, n_13, Option.bind_some, bd2_some, bdX_ok, bdX_er, nm_eq, n_0, n_1, n_2, n_3, n_4, n_5, n_6, n_7, n_8, n_9, n_10, n_11, n_12, n_14, n_15, n_16, n_17, n_18, n_19, n_20, n_21, n_24, n_27, n_28, n_32, n_43, n_45, n_48, n_56, n_57, n_59, n_64, n_70, n_97, n_99, n_100, n_104, n_118, n_122, n_126, n_127, n_128, n_129, n_130, n_150, n_255, n_600, n_1000, n_1050, n_1200, n_999999, n_1000000, iI_neg, iI_add, iI_sub, iI_mul, ile, ilt, ieq, Z_has, Z_0, Z_1, Z_2, Z_5, Z_15, Z_17, Z_18, Z_24, Z_25, Z_26, Z_3, Z_4, Z_6, Z_7, Z_8, Z_9, Z_10, Z_11, Z_12, Z_13, Z_14, Z_16, Z_19, Z_20, Z_21, Z_22, Z_23, Z_27, Y_3, Y_4, Y_6, Y_7, Y_8, Y_9, Y_10, Y_11, Y_12, Y_13, Y_14, Y_16, Y_19, Y_20, Y_21, Y_22, Y_23, Y_27, A_g, A_s, up_at, up_ne, up_off, of_3 hN h0 hk, of_3 hN b1 b2]
            by_cases q3 : aEx N k ≤ aEx N b
            · rw [if_pos q3]
              exact nx b (same b (Or.inr (Or.inr ⟨rfl, by omega, by omega⟩)) rfl)
            · rw [if_neg q3]
              exact nx k (take q1 (by omega) (Or.inr (by omega)))
      · rw [e, show (1 : Int) * (1 - 1) = 0 from rfl, if_pos (by decide)]
        have ew : wE N D k = 0 := by unfold wE; rw [if_neg (by omega)]
        exact nx b (same b (Or.inr (Or.inl ew)) rfl)
    · rw [if_neg q1, Int.zero_mul, if_pos (by decide)]
      exact nx b (same b (Or.inl q1) rfl)
theorem witR_go (hfu : 100 ≤ fu) (hN : rNet (m 284) N) (hl : PK N l) : ∀ (d n : Nat) (D : Int32) (i : Int), nB N - i = d → 0 ≤ i → d < n → f_X11_witnessOf_4 fu n 283 (mkA l) D (iI i) (mem w m) = some (witF N l d D, mem w m) := by
  have hw := hN.1.1
  have h3 := hN.2.1.2.2.2.1
  have hok := PK_ok hN.1 hl
  intro d
  induction d with
  | zero =>
    intro n D i hd h0 hn
    obtain ⟨n, rfl⟩ : ∃ k, n = k + 1 := ⟨n - 1, by omega⟩
    rw [f_X11_witnessOf_4, f_X11_witnessOf_4b]
    simp (disch := omega) only [n_69, n_50, n_13, Option.bind_some, bd2_some, bdX_ok, bdX_er, nm_eq, n_0, n_1, n_2, n_3, n_4, n_5, n_6, n_7, n_8, n_9, n_10, n_11, n_12, n_14, n_15, n_16, n_17, n_18, n_19, n_20, n_21, n_24, n_27, n_28, n_32, n_43, n_45, n_48, n_56, n_57, n_59, n_64, n_70, n_97, n_99, n_100, n_104, n_118, n_122, n_126, n_127, n_128, n_129, n_130, n_150, n_255, n_600, n_1000, n_1050, n_1200, n_999999, n_1000000, iI_neg, iI_add, iI_sub, iI_mul, ile, ilt, ieq, Z_has, Z_0, Z_1, Z_2, Z_5, Z_15, Z_17, Z_18, Z_24, Z_25, Z_26, Z_3, Z_4, Z_6, Z_7, Z_8, Z_9, Z_10, Z_11, Z_12, Z_13, Z_14, Z_16, Z_19, Z_20, Z_21, Z_22, Z_23, Z_27, Y_3, Y_4, Y_6, Y_7, Y_8, Y_9, Y_10, Y_11, Y_12, Y_13, Y_14, Y_16, Y_19, Y_20, Y_21, Y_22, Y_23, Y_27, A_g, A_s, up_at, up_ne, up_off, h3]
    rw [if_pos (by omega)]
    rfl
  | succ d ih =>
    intro n D i hd h0 hn
    obtain ⟨n, rfl⟩ : ∃ k, n = k + 1 := ⟨n - 1, by omega⟩
    rw [f_X11_witnessOf_4, f_X11_witnessOf_4b]
    simp (disch := omega) only [n_69, n_50, n_13, Option.bind_some, bd2_some, bdX_ok, bdX_er, nm_eq, n_0, n_1, n_2, n_3, n_4, n_5, n_6, n_7, n_8, n_9, n_10, n_11, n_12, n_14, n_15, n_16, n_17, n_18, n_19, n_20, n_21, n_24, n_27, n_28, n_32, n_43, n_45, n_48, n_56, n_57, n_59, n_64, n_70, n_97, n_99, n_100, n_104, n_118, n_122, n_126, n_127, n_128, n_129, n_130, n_150, n_255, n_600, n_1000, n_1050, n_1200, n_999999, n_1000000, iI_neg, iI_add, iI_sub, iI_mul, ile, ilt, ieq, Z_has, Z_0, Z_1, Z_2, Z_5, Z_15, Z_17, Z_18, Z_24, Z_25, Z_26, Z_3, Z_4, Z_6, Z_7, Z_8, Z_9, Z_10, Z_11, Z_12, Z_13, Z_14, Z_16, Z_19, Z_20, Z_21, Z_22, Z_23, Z_27, Y_3, Y_4, Y_6, Y_7, Y_8, Y_9, Y_10, Y_11, Y_12, Y_13, Y_14, Y_16, Y_19, Y_20, Y_21, Y_22, Y_23, Y_27, A_g, A_s, up_at, up_ne, up_off, h3]
    rw [if_neg (by omega)]
    obtain ⟨b, q1, q2⟩ := witIn_go (w := w) (fu := fu) (D := D) (a3 := iI i) (k90 := fun x5 x6 x7 x8 x9 M10 => f_X11_witnessOf_90 fu x5 x6 x7 x8 x9 M10 (fun a0 a1 a2 a3 M => f_X11_witnessOf_4 fu n a0 a1 a2 a3 M)) hN hok (nA N).toNat fu 0 (-1) (by omega) (by omega) (by omega) (Or.inl ⟨rfl, fun k hk => by omega⟩)
    rw [q1]
    have e : (fun x => x ∈ l ∧ 0 ≤ x ∧ x < nA N) = (fun x : Int => x ∈ l) := by
      funext y
      exact propext ⟨fun q => q.1, fun q => ⟨q, (hl.1 y q).1, (hl.1 y q).2⟩⟩
    rw [e] at q2
    have eb : wArc N l D = b := isWt_one (wArc_is hN.1 hl.1) q2
    have hbr := wArc_in (D := D) hl.1
    unfold f_X11_witnessOf_90 f_X11_witnessOf_105
    simp (disch := omega) only [n_69, n_50, n_13, Option.bind_some, bd2_some, bdX_ok, bdX_er, nm_eq, n_0, n_1, n_2, n_3, n_4, n_5, n_6, n_7, n_8, n_9, n_10, n_11, n_12, n_14, n_15, n_16, n_17, n_18, n_19, n_20, n_21, n_24, n_27, n_28, n_32, n_43, n_45, n_48, n_56, n_57, n_59, n_64, n_70, n_97, n_99, n_100, n_104, n_118, n_122, n_126, n_127, n_128, n_129, n_130, n_150, n_255, n_600, n_1000, n_1050, n_1200, n_999999, n_1000000, iI_neg, iI_add, iI_sub, iI_mul, ile, ilt, ieq, n_m1]
    rw [witF, ← eb]
    rw [eb] at hbr
    rw [← eb] at hbr
    by_cases c : wArc N l D = -1
    · rw [if_pos c, if_pos (by rw [c])]
      rw [ih n _ (i + 1) (by omega) (by omega) (by omega)]
      rw [show D ||| iI 0 = D from by rw [show iI 0 = (0 : Int32) from rfl]; exact Int32.or_zero, witF_stop c]
    · rw [if_neg c, if_neg (by
        first
        | exact c
        | (intro q; exact c (by have := (iI_eq (by omega) (by omega) (by omega) (by omega)).mp q; exact this)))]
      exact ih n _ (i + 1) (by omega) (by omega) (by omega)
theorem witR_eq (hfu : 100 ≤ fu) (hN : rNet (m 284) N) (hl : PK N l) : f_X11_witnessOf fu 283 (mkA l) (mem w m) = some (wit N l, mem w m) := by
  have hw := hN.1.1
  unfold f_X11_witnessOf
  have := witR_go (w := w) hfu hN hl (nB N).toNat fu 0 0 (by omega) (by omega) (by omega)
  simp (disch := omega) only [n_69, n_50, n_13, Option.bind_some, bd2_some, bdX_ok, bdX_er, nm_eq, n_0, n_1, n_2, n_3, n_4, n_5, n_6, n_7, n_8, n_9, n_10, n_11, n_12, n_14, n_15, n_16, n_17, n_18, n_19, n_20, n_21, n_24, n_27, n_28, n_32, n_43, n_45, n_48, n_56, n_57, n_59, n_64, n_70, n_97, n_99, n_100, n_104, n_118, n_122, n_126, n_127, n_128, n_129, n_130, n_150, n_255, n_600, n_1000, n_1050, n_1200, n_999999, n_1000000, iI_neg, iI_add, iI_sub, iI_mul, ile, ilt, ieq]
  exact this
theorem wstR_eq (hfu : 100 ≤ fu) (hN : rNet (m 284) N) (hl : PK N l) : f_X11_worstOf fu 283 (mkA l) (mem w m) = some (iI (wst N l), mem w m) := by
  unfold f_X11_worstOf
  simp (disch := omega) only [n_69, n_50, n_13, Option.bind_some, bd2_some, bdX_ok, bdX_er, nm_eq, n_0, n_1, n_2, n_3, n_4, n_5, n_6, n_7, n_8, n_9, n_10, n_11, n_12, n_14, n_15, n_16, n_17, n_18, n_19, n_20, n_21, n_24, n_27, n_28, n_32, n_43, n_45, n_48, n_56, n_57, n_59, n_64, n_70, n_97, n_99, n_100, n_104, n_118, n_122, n_126, n_127, n_128, n_129, n_130, n_150, n_255, n_600, n_1000, n_1050, n_1200, n_999999, n_1000000, iI_neg, iI_add, iI_sub, iI_mul, ile, ilt, ieq, Z_has, Z_0, Z_1, Z_2, Z_5, Z_15, Z_17, Z_18, Z_24, Z_25, Z_26, Z_3, Z_4, Z_6, Z_7, Z_8, Z_9, Z_10, Z_11, Z_12, Z_13, Z_14, Z_16, Z_19, Z_20, Z_21, Z_22, Z_23, Z_27, Y_3, Y_4, Y_6, Y_7, Y_8, Y_9, Y_10, Y_11, Y_12, Y_13, Y_14, Y_16, Y_19, Y_20, Y_21, Y_22, Y_23, Y_27, A_g, A_s, up_at, up_ne, up_off, witR_eq hfu hN hl, costOf_eq hfu hN hl]
  rfl
theorem pcN_top (n k : Nat) : pcN (k + 1) n = pcN k n + pcb n k := by
  unfold pcN
  rw [List.range_succ, List.map_append, List.sum_append]
  simp
theorem bits_go {n9 : Nat} (h9 : n9 < 65536) : ∀ (d n k : Nat), k + d = 16 → d < n → f_X11_bits_4 fu n (iI (n9 : Int)) (iI ((pcN k n9 : Nat) : Int)) (iI (k : Int)) (mem w m) = some (iI ((pcN 16 n9 : Nat) : Int), mem w m) := by
  intro d
  induction d with
  | zero =>
    intro n k hk hn
    obtain ⟨n, rfl⟩ : ∃ k, n = k + 1 := ⟨n - 1, by omega⟩
    have : k = 16 := by omega
    subst this
    rw [f_X11_bits_4, f_X11_bits_4b]
    simp (disch := omega) only [n_69, n_50, n_13, Option.bind_some, bd2_some, bdX_ok, bdX_er, nm_eq, n_0, n_1, n_2, n_3, n_4, n_5, n_6, n_7, n_8, n_9, n_10, n_11, n_12, n_14, n_15, n_16, n_17, n_18, n_19, n_20, n_21, n_24, n_27, n_28, n_32, n_43, n_45, n_48, n_56, n_57, n_59, n_64, n_70, n_97, n_99, n_100, n_104, n_118, n_122, n_126, n_127, n_128, n_129, n_130, n_150, n_255, n_600, n_1000, n_1050, n_1200, n_999999, n_1000000, iI_neg, iI_add, iI_sub, iI_mul, ile, ilt, ieq]
    rw [if_pos (by omega)]
  | succ d ih =>
    intro n k hk hn
    obtain ⟨n, rfl⟩ : ∃ k, n = k + 1 := ⟨n - 1, by omega⟩
    rw [f_X11_bits_4, f_X11_bits_4b]
    unfold f_X11_bits_24
    simp (disch := omega) only [n_69, n_50, n_13, Option.bind_some, bd2_some, bdX_ok, bdX_er, nm_eq, n_0, n_1, n_2, n_3, n_4, n_5, n_6, n_7, n_8, n_9, n_10, n_11, n_12, n_14, n_15, n_16, n_17, n_18, n_19, n_20, n_21, n_24, n_27, n_28, n_32, n_43, n_45, n_48, n_56, n_57, n_59, n_64, n_70, n_97, n_99, n_100, n_104, n_118, n_122, n_126, n_127, n_128, n_129, n_130, n_150, n_255, n_600, n_1000, n_1050, n_1200, n_999999, n_1000000, iI_neg, iI_add, iI_sub, iI_mul, ile, ilt, ieq, hasR_eq (w := w) (m := m) (fu := fu) (D := iI (n9 : Int)) (k := (k : Int)) (by omega) (by omega)]
    rw [if_neg (by omega), bt_N h9 (by omega) (by omega), Int.toNat_natCast]
    have := ih n (k + 1) (by omega) (by omega)
    rw [pcN_top, show ((k + 1 : Nat) : Int) = (k : Int) + 1 by omega] at this
    unfold pcb at this
    by_cases q : n9.testBit k = true
    · rw [if_pos q] at this
      rw [if_pos q, if_neg (by decide)]
      rw [show ((pcN k n9 + 1 : Nat) : Int) = (pcN k n9 : Int) + 1 by omega] at this
      exact this
    · rw [if_neg q] at this
      rw [if_neg q, if_pos (by decide)]
      rw [show (pcN k n9 : Int) + 0 = ((pcN k n9 + 0 : Nat) : Int) by omega]
      exact this
theorem bits_eq {n9 : Nat} (hfu : 100 ≤ fu) (h9 : n9 < 65536) : f_X11_bits fu (iI (n9 : Int)) (mem w m) = some (iI ((pcN 16 n9 : Nat) : Int), mem w m) := by
  unfold f_X11_bits
  simp (disch := omega) only [n_69, n_50, n_13, Option.bind_some, bd2_some, bdX_ok, bdX_er, nm_eq, n_0, n_1, n_2, n_3, n_4, n_5, n_6, n_7, n_8, n_9, n_10, n_11, n_12, n_14, n_15, n_16, n_17, n_18, n_19, n_20, n_21, n_24, n_27, n_28, n_32, n_43, n_45, n_48, n_56, n_57, n_59, n_64, n_70, n_97, n_99, n_100, n_104, n_118, n_122, n_126, n_127, n_128, n_129, n_130, n_150, n_255, n_600, n_1000, n_1050, n_1200, n_999999, n_1000000, iI_neg, iI_add, iI_sub, iI_mul, ile, ilt, ieq]
  exact bits_go (w := w) h9 16 fu 0 (by omega) (by omega)
end RF
