/-! reading: what the text says -/
abbrev Ps : Type := Nt × List (List Int)
def eb {α β : Type} (r : Except Er α) (k : α → Except Er β) : Except Er β := match r with
  | .ok a => k a
  | .error e => .error e
theorem eb_ok {α β : Type} {a : α} {k : α → Except Er β} : eb (.ok a) k = k a := rfl
theorem eb_er {α β : Type} {e : Er} {k : α → Except Er β} : eb (.error e : Except Er α) k = .error e := rfl
def pRt (t : List Int) (N : Nt) : Nat → List Int → Nat → Except Er (List Int × Nat)
  | 0, _, p => .error (-2, p)
  | f + 1, l, p => if atB dgB t p = true then (if canG N l (nvR t p) = true then (if atB dgB t (run spB t (run dgB t p)) = true then pRt t N f (l ++ [nvR t p]) (run spB t (run dgB t p)) else .ok (l ++ [nvR t p], run spB t (run dgB t p))) else .error (-3, p)) else .error (-2, p)
def pEnd (t : List Int) (x : Ps) (l : List Int) (p : Nat) : Except Er (Ps × Nat) :=
  eb (rsemi t p) fun q => if endOf x.1 l = nT x.1 then (if x.2.any (fun y => decide (y = l)) = true then .error (-3, p) else .ok ((x.1, x.2 ++ [l]), q)) else .error (-2, p)
def pBud (t : List Int) (x : Ps) (p : Nat) : Except Er (Ps × Nat) := eb (rnum t p 0 6 (-1)) fun y => eb (rsemi t y.2) fun q => .ok ((budN x.1 y.1, x.2), q)
def pArc (t : List Int) (x : Ps) (p : Nat) : Except Er (Ps × Nat) := eb (rnum t p 0 (nN x.1 - 1) (-1)) fun a => eb (rnum t a.2 0 (nN x.1 - 1) a.1) fun b => eb (rnum t b.2 0 99 (-1)) fun c => eb (rnum t c.2 0 99 (-1)) fun d => eb (rsemi t d.2) fun q => .ok ((addN x.1 a.1 b.1 c.1 d.1, x.2), q)
def pRoute (t : List Int) (x : Ps) (p : Nat) : Except Er (Ps × Nat) := eb (pRt t x.1 8 [] (run spB t p)) fun y => pEnd t x y.1 y.2
def pStmt (t : List Int) (x : Ps) (p : Nat) : Except Er (Ps × Nat) :=
  if tw ltB t p = wordT 1 then pBud t x (run ltB t p)
  else if tw ltB t p = wordT 2 then (if 16 ≤ nA x.1 then .error (-4, p) else pArc t x (run ltB t p))
  else if tw ltB t p = wordT 3 then (if 6 ≤ x.2.length then .error (-4, p) else pRoute t x (run ltB t p))
  else .error (-2, p)
def pAll (t : List Int) : Nat → Ps → Nat → Except Er Ps
  | 0, x, _ => .ok x
  | f + 1, x, p => if t.length ≤ p then .ok x else eb (pStmt t x p) fun y => pAll t f y.1 (run spB t y.2)
def pHead (t : List Int) : Except Er (Ps × Nat) :=
  if tw ltB t (run spB t 0) = wordT 0 then eb (rnum t (run ltB t (run spB t 0)) 2 8 (-1)) fun n => eb (rnum t n.2 0 (n.1 - 1) (-1)) fun a => eb (rnum t a.2 0 (n.1 - 1) a.1) fun b => eb (rsemi t b.2) fun q => .ok ((begN n.1 a.1 b.1, []), q)
  else .error (-2, run spB t 0)
def pText (t : List Int) : Except Er Ps := eb (pHead t) fun y => pAll t 601 y.1 (run spB t y.2)
def WGp (x : Ps) : Prop := WFN x.1 ∧ x.2.length ≤ 6 ∧ ∀ l ∈ x.2, RT x.1 l
theorem RT_id {N N' : Nt} {l : List Int} (h : RT N l) (hs : nS N' = nS N) (ht : nT N' = nT N) (ha : ∀ a, 0 ≤ a → a < nA N → aTl N' a = aTl N a ∧ aHd N' a = aHd N a ∧ a < nA N') : RT N' l := by
  have := pOK_map (N := N) (N' := N') id hs ht _ l rfl h.1 (fun a hm => by
    have := pOK_AOK h.1 a hm
    obtain ⟨h1, h2, h3⟩ := ha a this.1 this.2
    exact ⟨h1, h2, this.1, h3⟩)
  rw [List.map_id] at this
  exact ⟨this.1, by rw [this.2.1, ht]; exact h.2⟩
theorem pOK_id {N N' : Nt} {l : List Int} (h : pOK N l) (hs : nS N' = nS N) (ht : nT N' = nT N) (ha : ∀ a, 0 ≤ a → a < nA N → aTl N' a = aTl N a ∧ aHd N' a = aHd N a ∧ a < nA N') : pOK N' l := by
  have := pOK_map (N := N) (N' := N') id hs ht _ l rfl h (fun a hm => by
    have := pOK_AOK h a hm
    obtain ⟨h1, h2, h3⟩ := ha a this.1 this.2
    exact ⟨h1, h2, this.1, h3⟩)
  rw [List.map_id] at this
  exact this.1
theorem addN_id {N : Nt} {t h c e a : Int} (h1 : a < nA N) : aTl (addN N t h c e) a = aTl N a ∧ aHd (addN N t h c e) a = aHd N a ∧ a < nA (addN N t h c e) := by
  have hne : ¬ a = nA N := by omega
  refine ⟨?_, ?_, ?_⟩
  · show upd1 (aTl N) (nA N) t a = _; unfold upd1; rw [if_neg hne]
  · show upd1 (aHd N) (nA N) h a = _; unfold upd1; rw [if_neg hne]
  · show a < nA N + 1; omega
theorem pBud_ok {t : List Int} {x y : Ps} {p q : Nat} (h : pBud t x p = .ok (y, q)) (hx : WGp x) : WGp y := by
  unfold pBud at h
  cases h1 : rnum t p 0 6 (-1) with
  | error e => rw [h1, eb_er] at h; cases h
  | ok a =>
    obtain ⟨v, q1⟩ := a
    rw [h1, eb_ok] at h
    cases h2 : rsemi t q1 with
    | error e => rw [h2, eb_er] at h; cases h
    | ok q2 =>
      rw [h2, eb_ok] at h
      have hr := rnum_ok h1
      have e : y = (budN x.1 v, x.2) := by injection h with h; injection h with h _; exact h.symm
      subst e
      exact ⟨budN_wf hx.1 ⟨hr.1, hr.2.1⟩, hx.2.1, fun l hl => RT_id (hx.2.2 l hl) rfl rfl (fun a _ h => ⟨rfl, rfl, h⟩)⟩
section RE1
variable {w : Wl} {m m' m1 : Mm} {z v : Int} {fu p : Nat} {t : List Int} {x : Ps} {l D : List Int}
theorem isS_230 : isS 230 := isS_all _ (by decide)
def PC (m : Mm) (x : Ps) (D : List Int) : Prop := isNet m 231 x.1 ∧ isTolds m 230 x.2 ∧ isPth m 236 D
theorem PC.fr (h : PC m x D) (e : ∀ p, 230 ≤ p → p < 252 → m' p = m p) : PC m' x D :=
  ⟨h.1.cong (e _ (by omega) (by omega)) (e _ (by omega) (by omega)) (e _ (by omega) (by omega)) (e _ (by omega) (by omega)) (e _ (by omega) (by omega)), h.2.1.cong2 (e _ (by omega) (by omega)) (fun p a b => e p (by omega) (by omega)), h.2.2.cong (e _ (by omega) (by omega)) (e _ (by omega) (by omega))⟩
/-- what reading may change -/
def sS (m m' : Mm) : Prop := (∀ p, p ≠ 228 → (p < 230 ∨ 255 ≤ p) → m' p = m p) ∧ m' 228 1 = m 228 1
theorem sS.trans {m'' : Mm} (h : sS m m') (g : sS m' m'') : sS m m'' := ⟨fun p a b => (g.1 p a b).trans (h.1 p a b), g.2.trans h.2⟩
theorem sS_f {k : Int} (hk : k ≠ 1) : sS m (up m 228 k v) := ⟨fun p a b => up_ne a, up_off (by omega)⟩
theorem sS_s (e : ∀ p, (p < 230 ∨ 255 ≤ p) → m' p = m p) : sS m m' := ⟨fun p _ b => e p b, by rw [e 228 (by omega)]⟩
/-- what reading leads to -/
def CR (w : Wl) (m : Mm) (o : Option (Int32 × List Ob)) (t : List Int) (r : Except Er (Ps × Nat)) : Prop := (∀ y q, r = .ok (y, q) → ∃ m', o = some (iI 1, mem w m') ∧ CT m' t q ∧ PC m' y [] ∧ sS m m' ∧ m' 228 5 = m 228 5) ∧ (∀ c s, r = .error (c, s) → ∃ m', o = some (iI 0, mem w m') ∧ m' 228 4 = c ∧ m' 228 5 = (s : Nat) ∧ s ≤ 600 ∧ sS m m')
theorem CR_er {c : Int} {s : Nat} (hs : s ≤ 600) (h : sS m m1) (h4 : m1 228 4 = c) (h5 : m1 228 5 = (s : Nat)) : CR w m (some (iI 0, mem w m1)) t (.error (c, s)) := ⟨fun y q e => (by cases e), fun c' s' e => by
  have e : (c, s) = (c', s') := by injection e
  injection e with a b
  subst a; subst b
  exact ⟨m1, rfl, h4, h5, hs, h⟩⟩
theorem CR_fail {c : Int} {s : Nat} (hs : s ≤ 600) (h : sS m m1) : CR w m (some (iI 0, mem w (up (up m1 228 4 c) 228 5 (s : Nat)))) t (.error (c, s)) := CR_er hs (h.trans ((sS_f (by decide)).trans (sS_f (by decide)))) (by rw [up_off (by decide), up_at]) up_at
theorem CR_num {lo hi un : Int} {K : Int32 → List Ob → Option (Int32 × List Ob)} {k : Int × Nat → Except Er (Ps × Nat)} (hfu : 1000 ≤ fu) (h : CT m1 t p) (hs : sS m m1) (hlo : 0 ≤ lo ∧ lo ≤ 99) (hhi : -1 ≤ hi ∧ hi ≤ 99) (hun : -1 ≤ un ∧ un ≤ 99) (hk : ∀ v q, rnum t p lo hi un = .ok (v, q) → CT (up m1 228 3 (q : Nat)) t q → sS m (up m1 228 3 (q : Nat)) → CR w m (K (iI v) (mem w (up m1 228 3 (q : Nat)))) t (k (v, q))) : CR w m (bd2 (f_X9_readNumber fu 228 (iI lo) (iI hi) (iI un) (mem w m1)) fun v M => if v = iI (-1) then some (iI 0, M) else K v M) t (eb (rnum t p lo hi un) k) := by
  obtain ⟨h1, h2⟩ := readNumber_eq (w := w) hfu h hlo hhi hun
  have h600 := h.2.1
  cases hr : rnum t p lo hi un with
  | error e =>
    obtain ⟨c, s⟩ := e
    obtain ⟨q, g1, g2⟩ := h2 c s hr
    rw [g1, bd2_some, if_pos rfl, eb_er]
    exact CR_fail (by omega) (hs.trans (sS_f (by decide)))
  | ok y =>
    obtain ⟨v, q⟩ := y
    obtain ⟨g1, g2⟩ := h1 v q hr
    have hv := rnum_ok hr
    rw [g1, bd2_some, if_neg (by rw [iI_eq (by omega) (by omega) (by omega) (by omega)]; omega), eb_ok]
    exact hk v q hr (h.up g2) (hs.trans (sS_f (by decide)))
theorem CR_semi (hfu : 1000 ≤ fu) (h : CT m1 t p) (hP : PC m1 x []) (hs : sS m m1) (h5 : m1 228 5 = m 228 5) : CR w m (bd2 (f_X9_readSemicolon fu 228 (mem w m1)) fun v M => if v &&& iI 1 = v then some (v, M) else none) t (eb (rsemi t p) fun q => .ok (x, q)) := by
  obtain ⟨h1, h2⟩ := readSemi_eq (w := w) hfu h
  have h600 := h.2.1
  cases hr : rsemi t p with
  | error e =>
    obtain ⟨c, s⟩ := e
    obtain ⟨q, g1, g2⟩ := h2 c s hr
    rw [g1, bd2_some, and1 (Or.inl rfl), eb_er]
    exact CR_fail (by omega) (hs.trans (sS_f (by decide)))
  | ok q =>
    obtain ⟨g1, g2⟩ := h1 q hr
    rw [g1, bd2_some, and1 (Or.inr rfl), eb_ok]
    refine ⟨fun y q' e => ?_, fun c s e => (by cases e)⟩
    have e : (x, q) = (y, q') := by injection e
    injection e with a b
    subst a; subst b
    exact ⟨_, rfl, h.up g2, hP.fr (fun p a b => up_ne (by omega)), hs.trans (sS_f (by decide)), by rw [up_off (by decide)]; exact h5⟩
theorem readBudget_eq (hfu : 1000 ≤ fu) (h : CT m1 t p) (hP : PC m1 x []) (hs : sS m m1) (h5 : m1 228 5 = m 228 5) : CR w m (f_X9_readBudget fu 228 231 (mem w m1)) t (pBud t x p) := by
  unfold f_X9_readBudget pBud
  simp (disch := omega) only [n_69, n_50, n_13, Option.bind_some, bd2_some, bdX_ok, bdX_er, nm_eq, n_0, n_1, n_2, n_3, n_4, n_5, n_6, n_7, n_8, n_9, n_10, n_11, n_12, n_14, n_15, n_16, n_17, n_18, n_19, n_20, n_21, n_24, n_27, n_28, n_32, n_43, n_45, n_48, n_56, n_57, n_59, n_64, n_70, n_97, n_99, n_100, n_104, n_118, n_122, n_126, n_127, n_128, n_129, n_130, n_150, n_255, n_600, n_1000, n_1050, n_1200, n_999999, n_1000000, iI_neg, iI_add, iI_sub, iI_mul, ile, ilt, ieq, H9]
  refine CR_num hfu h hs (by omega) (by omega) (by omega) (fun v q hr hC hS => ?_)
  have hv := rnum_ok hr
  have hP1 : PC (up m1 228 3 (q : Nat)) x [] := hP.fr (fun p a b => up_ne (by omega))
  have hN := hP1.1
  simp (disch := omega) only [n_69, n_50, n_13, Option.bind_some, bd2_some, bdX_ok, bdX_er, nm_eq, n_0, n_1, n_2, n_3, n_4, n_5, n_6, n_7, n_8, n_9, n_10, n_11, n_12, n_14, n_15, n_16, n_17, n_18, n_19, n_20, n_21, n_24, n_27, n_28, n_32, n_43, n_45, n_48, n_56, n_57, n_59, n_64, n_70, n_97, n_99, n_100, n_104, n_118, n_122, n_126, n_127, n_128, n_129, n_130, n_150, n_255, n_600, n_1000, n_1050, n_1200, n_999999, n_1000000, iI_neg, iI_add, iI_sub, iI_mul, ile, ilt, ieq, H9, N_p3 hN.1]
  have fr : ∀ r, r ≠ 231 → (up (up m1 228 3 (q : Nat)) 231 3 v) r = (up m1 228 3 (q : Nat)) r := fun r hr => up_ne hr
  refine CR_semi hfu ⟨by rw [fr 228 (by decide)]; exact hC.1, hC.2.1, by rw [fr 228 (by decide)]; exact hC.2.2.1, hC.2.2.2.1, fun j b hj => by rw [fr 229 (by decide)]; exact hC.2.2.2.2 j b hj⟩ ⟨⟨hN.1, netC_bud hN, budN_wf hN.2.2 ⟨hv.1, hv.2.1⟩⟩, hP1.2.1.cong2 (fr _ (by decide)) (fun p a b => fr p (by omega)), hP1.2.2.cong (fr _ (by decide)) (fr _ (by decide))⟩ (hS.trans (sS_s (fun p hp => fr p (by omega)))) (by rw [fr 228 (by decide), up_off (by decide)]; exact h5)
theorem readArc_eq (hfu : 1000 ≤ fu) (h : CT m1 t p) (hP : PC m1 x []) (hA : nA x.1 < 16) (hs : sS m m1) (h5 : m1 228 5 = m 228 5) : CR w m (f_X9_readArc fu 228 231 (mem w m1)) t (pArc t x p) := by
  have hW := hP.1.2.2.1
  unfold f_X9_readArc pArc
  simp (disch := omega) only [n_69, n_50, n_13, Option.bind_some, bd2_some, bdX_ok, bdX_er, nm_eq, n_0, n_1, n_2, n_3, n_4, n_5, n_6, n_7, n_8, n_9, n_10, n_11, n_12, n_14, n_15, n_16, n_17, n_18, n_19, n_20, n_21, n_24, n_27, n_28, n_32, n_43, n_45, n_48, n_56, n_57, n_59, n_64, n_70, n_97, n_99, n_100, n_104, n_118, n_122, n_126, n_127, n_128, n_129, n_130, n_150, n_255, n_600, n_1000, n_1050, n_1200, n_999999, n_1000000, iI_neg, iI_add, iI_sub, iI_mul, ile, ilt, ieq, H9, K_0 hP.1]
  refine CR_num hfu h hs (by omega) (by omega) (by omega) (fun v1 q1 hr1 hC1 hS1 => ?_)
  have hv1 := rnum_ok hr1
  have hP1 : PC (up m1 228 3 (q1 : Nat)) x [] := hP.fr (fun p a b => up_ne (by omega))
  simp (disch := omega) only [n_69, n_50, n_13, Option.bind_some, bd2_some, bdX_ok, bdX_er, nm_eq, n_0, n_1, n_2, n_3, n_4, n_5, n_6, n_7, n_8, n_9, n_10, n_11, n_12, n_14, n_15, n_16, n_17, n_18, n_19, n_20, n_21, n_24, n_27, n_28, n_32, n_43, n_45, n_48, n_56, n_57, n_59, n_64, n_70, n_97, n_99, n_100, n_104, n_118, n_122, n_126, n_127, n_128, n_129, n_130, n_150, n_255, n_600, n_1000, n_1050, n_1200, n_999999, n_1000000, iI_neg, iI_add, iI_sub, iI_mul, ile, ilt, ieq, H9, K_0 hP1.1]
  refine CR_num hfu hC1 hS1 (by omega) (by omega) (by omega) (fun v2 q2 hr2 hC2 hS2 => ?_)
  have hv2 := rnum_ok hr2
  simp (disch := omega) only [n_69, n_50, n_13, Option.bind_some, bd2_some, bdX_ok, bdX_er, nm_eq, n_0, n_1, n_2, n_3, n_4, n_5, n_6, n_7, n_8, n_9, n_10, n_11, n_12, n_14, n_15, n_16, n_17, n_18, n_19, n_20, n_21, n_24, n_27, n_28, n_32, n_43, n_45, n_48, n_56, n_57, n_59, n_64, n_70, n_97, n_99, n_100, n_104, n_118, n_122, n_126, n_127, n_128, n_129, n_130, n_150, n_255, n_600, n_1000, n_1050, n_1200, n_999999, n_1000000, iI_neg, iI_add, iI_sub, iI_mul, ile, ilt, ieq, H9]
  refine CR_num hfu hC2 hS2 (by omega) (by omega) (by omega) (fun v3 q3 hr3 hC3 hS3 => ?_)
  have hv3 := rnum_ok hr3
  simp (disch := omega) only [n_69, n_50, n_13, Option.bind_some, bd2_some, bdX_ok, bdX_er, nm_eq, n_0, n_1, n_2, n_3, n_4, n_5, n_6, n_7, n_8, n_9, n_10, n_11, n_12, n_14, n_15, n_16, n_17, n_18, n_19, n_20, n_21, n_24, n_27, n_28, n_32, n_43, n_45, n_48, n_56, n_57, n_59, n_64, n_70, n_97, n_99, n_100, n_104, n_118, n_122, n_126, n_127, n_128, n_129, n_130, n_150, n_255, n_600, n_1000, n_1050, n_1200, n_999999, n_1000000, iI_neg, iI_add, iI_sub, iI_mul, ile, ilt, ieq, H9]
  refine CR_num hfu hC3 hS3 (by omega) (by omega) (by omega) (fun v4 q4 hr4 hC4 hS4 => ?_)
  have hv4 := rnum_ok hr4
  rw [up_up, up_up, up_up] at hC4 hS4 ⊢
  have hP4 : PC (up m1 228 3 (q4 : Nat)) x [] := hP.fr (fun p a b => up_ne (by omega))
  have hN := hP4.1
  obtain ⟨m2, g1, g2, g3⟩ := addLast_eq (w := w) (fu := fu) hN hA (t := v1) (h := v2) (c := v3) (e := v4)
  simp (disch := omega) only [n_69, n_50, n_13, Option.bind_some, bd2_some, bdX_ok, bdX_er, nm_eq, n_0, n_1, n_2, n_3, n_4, n_5, n_6, n_7, n_8, n_9, n_10, n_11, n_12, n_14, n_15, n_16, n_17, n_18, n_19, n_20, n_21, n_24, n_27, n_28, n_32, n_43, n_45, n_48, n_56, n_57, n_59, n_64, n_70, n_97, n_99, n_100, n_104, n_118, n_122, n_126, n_127, n_128, n_129, n_130, n_150, n_255, n_600, n_1000, n_1050, n_1200, n_999999, n_1000000, iI_neg, iI_add, iI_sub, iI_mul, ile, ilt, ieq, H9, K_has hN, g1]
  refine CR_semi hfu ⟨by rw [g2 228 (by omega)]; exact hC4.1, hC4.2.1, by rw [g2 228 (by omega)]; exact hC4.2.2.1, hC4.2.2.2.1, fun j b hj => by rw [g2 229 (by omega)]; exact hC4.2.2.2.2 j b hj⟩ ⟨⟨hN.1, g3, addN_wf hN.2.2 hA (by omega) (by omega) (fun e => hv2.2.2.1 e.symm) (by omega) (by omega)⟩, hP4.2.1.cong2 (g2 _ (by omega)) (fun p a b => g2 p (by omega)), hP4.2.2.cong (g2 _ (by omega)) (g2 _ (by omega))⟩ (hS4.trans (sS_s (fun p hp => g2 p (by omega)))) (by rw [g2 228 (by omega), up_off (by decide)]; exact h5)
end RE1
