/-! all routes of a network, in their order -/
def arF (N : Nt) (f : Int) : List Int := (List.range (nA N - f).toNat).map (fun j : Nat => f + (j : Int))
theorem arF_nil {N : Nt} {f : Int} (h : nA N ≤ f) : arF N f = [] := by
  unfold arF
  rw [show (nA N - f).toNat = 0 by omega]
  rfl
theorem arF_cons {N : Nt} {f : Int} (h : f < nA N) : arF N f = f :: arF N (f + 1) := by
  unfold arF
  rw [show (nA N - f).toNat = (nA N - (f + 1)).toNat + 1 by omega, List.range_succ_eq_map, List.map_cons, List.map_map]
  congr 1
  · simp
  · apply List.map_congr_left
    intro j _
    simp only [Function.comp]
    omega
theorem arF_mem {N : Nt} {f a : Int} : a ∈ arF N f ↔ f ≤ a ∧ a < nA N := by
  unfold arF
  rw [List.mem_map]
  constructor
  · rintro ⟨j, hj, rfl⟩
    have := List.mem_range.mp hj
    omega
  · intro h
    exact ⟨(a - f).toNat, List.mem_range.mpr (by omega), by omega⟩
def ext (N : Nt) : Nat → List Int → List Int → List (List Int)
  | 0, _, _ => []
  | d + 1, l, as => as.flatMap fun a => if canFol N l a then (if aHd N a = nT N then [l ++ [a]] else ext N d (l ++ [a]) (arF N 0)) else []
def tm (N : Nt) : Nat → List Int → List Int → Nat
  | 0, _, _ => 1
  | d + 1, l, as => 1 + (as.map fun a => if canFol N l a then 1 + (if aHd N a = nT N then 0 else tm N d (l ++ [a]) (arF N 0)) else 0).sum
def routesOf (N : Nt) : List (List Int) := ext N 8 [] (arF N 0)
/-- arcs in a row that each can follow -/
def pOK (N : Nt) (l : List Int) : Prop := ∀ pre a suf, l = pre ++ a :: suf → 0 ≤ a ∧ a < nA N ∧ canFol N pre a = true
theorem pOK_nil {N : Nt} : pOK N [] := fun pre a suf h => by simp at h
theorem pOK_snoc {N : Nt} {l : List Int} {a : Int} (h : pOK N l) (h0 : 0 ≤ a) (h1 : a < nA N) (hc : canFol N l a = true) : pOK N (l ++ [a]) := by
  intro pre b suf e
  rcases List.eq_nil_or_concat suf with rfl | ⟨suf', c, rfl⟩
  · have := List.append_inj_right' e rfl
    have e2 := List.append_inj_left' e rfl
    cases this
    subst e2
    exact ⟨h0, h1, hc⟩
  · rw [List.concat_eq_append, ← List.cons_append, ← List.append_assoc] at e
    have e2 := List.append_inj_left' e rfl
    exact h pre b suf' e2
theorem pOK_init {N : Nt} {l : List Int} {a : Int} (h : pOK N (l ++ [a])) : pOK N l ∧ 0 ≤ a ∧ a < nA N ∧ canFol N l a = true := by
  refine ⟨fun pre b suf e => h pre b (suf ++ [a]) (by rw [e]; simp), h l a [] rfl⟩
theorem pOK_AOK {N : Nt} {l : List Int} (h : pOK N l) : AOK N l := fun a ha => by
  obtain ⟨pre, suf, e⟩ := List.append_of_mem ha
  exact ⟨(h pre a suf e).1, (h pre a suf e).2.1⟩
theorem endOf_snoc {N : Nt} {l : List Int} {a : Int} : endOf N (l ++ [a]) = aHd N a := by unfold endOf; simp
theorem endOf_nil {N : Nt} : endOf N [] = nS N := rfl
theorem hasNd_snoc {N : Nt} {l : List Int} {a v : Int} : hasNd N (l ++ [a]) v = (hasNd N l v || decide (aHd N a = v)) := by
  unfold hasNd
  simp [Bool.or_assoc]
theorem canFol_spec {N : Nt} {l : List Int} {a : Int} (h : canFol N l a = true) : endOf N l = aTl N a ∧ endOf N l ≠ nT N ∧ hasNd N l (aHd N a) = false := by
  unfold canFol at h
  split at h
  · split at h
    · cases h
    · exact ⟨by assumption, by assumption, by simpa using h⟩
  · cases h
theorem hasNd_end {N : Nt} : ∀ {l : List Int}, hasNd N l (endOf N l) = true := by
  intro l
  rcases List.eq_nil_or_concat l with rfl | ⟨l0, a, rfl⟩
  · simp [hasNd, endOf_nil]
  · rw [List.concat_eq_append, endOf_snoc, hasNd_snoc]; simp
/-- the nodes of a path are apart -/
theorem ns_nodup {N : Nt} : ∀ (n : Nat) (l : List Int), l.length = n → pOK N l → (nS N :: l.map (aHd N)).Nodup := by
  intro n
  induction n with
  | zero => intro l hl _; rw [List.eq_nil_of_length_eq_zero hl]; simp
  | succ n ih =>
    intro l hl h
    rcases List.eq_nil_or_concat l with rfl | ⟨l0, a, rfl⟩
    · simp
    · rw [List.concat_eq_append] at hl h ⊢
      obtain ⟨h1, -, -, h2⟩ := pOK_init h
      have h3 := ih l0 (by simpa using hl) h1
      obtain ⟨-, -, h4⟩ := canFol_spec h2
      rw [List.map_append, List.map_singleton, ← List.cons_append]
      refine List.nodup_append.mpr ⟨h3, by simp, fun x hx y hy e => ?_⟩
      rw [List.mem_singleton] at hy
      subst hy
      subst e
      unfold hasNd at h4
      simp only [Bool.or_eq_false_iff, decide_eq_false_iff_not, List.any_eq_false, decide_eq_true_eq] at h4
      rcases List.mem_cons.mp hx with q | q
      · exact h4.1 q
      · obtain ⟨b, hb, e⟩ := List.mem_map.mp q
        exact h4.2 b hb e
theorem pigeon : ∀ (n : Nat) (L : List Int), L.Nodup → (∀ x ∈ L, 0 ≤ x ∧ x < (n : Int)) → L.length ≤ n := by
  intro n
  induction n with
  | zero =>
    intro L _ h
    cases L with
    | nil => simp
    | cons x L => have := h x List.mem_cons_self; omega
  | succ n ih =>
    intro L hd h
    by_cases hn : (n : Int) ∈ L
    · have h1 := ih (L.erase n) (hd.erase _) (fun x hx => by
        have := (hd.mem_erase_iff).mp hx
        have := h x this.2
        omega)
      rw [List.length_erase_of_mem hn] at h1
      omega
    · have := ih L hd (fun x hx => by
        have h2 := h x hx
        have : x ≠ (n : Int) := fun e => hn (e ▸ hx)
        omega)
      omega
theorem pOK_len {N : Nt} (hW : WFN N) {l : List Int} (h : pOK N l) : l.length ≤ 7 := by
  have hw := hW.1
  have := pigeon (nN N).toNat _ (ns_nodup _ l rfl h) (fun x hx => by
    rcases List.mem_cons.mp hx with rfl | hx
    · omega
    · obtain ⟨a, ha, rfl⟩ := List.mem_map.mp hx
      have ha := pOK_AOK h a ha
      have := hW.arc ha.1 ha.2
      omega)
  simp only [List.length_cons, List.length_map] at this
  omega
theorem pOK_len6 {N : Nt} (hW : WFN N) {l : List Int} {a : Int} (h : pOK N l) (h0 : 0 ≤ a) (h1 : a < nA N) (hc : canFol N l a = true) : l.length ≤ 6 := by
  have := pOK_len hW (pOK_snoc h h0 h1 hc)
  simp at this
  exact this
/-- the first arc of a list that can follow; none -/
def folF (N : Nt) (l : List Int) : List Int → Int
  | [] => -1
  | a :: as => if canFol N l a then a else folF N l as
theorem ext_none {N : Nt} {l : List Int} : ∀ {as : List Int} {d : Nat}, (∀ a ∈ as, canFol N l a = false) → ext N d l as = [] ∧ tm N d l as = 1 := by
  intro as d h
  cases d with
  | zero => exact ⟨rfl, rfl⟩
  | succ d =>
    refine ⟨?_, ?_⟩
    · rw [ext, List.flatMap_eq_nil_iff]
      intro a ha
      rw [if_neg (by rw [h a ha]; decide)]
    · rw [tm]
      have : (as.map fun a => if canFol N l a then 1 + (if aHd N a = nT N then 0 else tm N d (l ++ [a]) (arF N 0)) else 0) = as.map (fun _ => 0) := List.map_congr_left fun a ha => by rw [if_neg (by rw [h a ha]; decide)]
      rw [this]
      have z : ∀ as : List Int, (as.map (fun _ => (0 : Nat))).sum = 0 := fun as => by
        induction as with
        | nil => rfl
        | cons a as ih => rw [List.map_cons, List.sum_cons, ih]
      rw [z]
theorem ext_step {N : Nt} {l : List Int} {d : Nat} {a : Int} {as : List Int} (hc : canFol N l a = true) : ext N (d + 1) l (a :: as) = (if aHd N a = nT N then [l ++ [a]] else ext N d (l ++ [a]) (arF N 0)) ++ ext N (d + 1) l as ∧ tm N (d + 1) l (a :: as) = 1 + (if aHd N a = nT N then 0 else tm N d (l ++ [a]) (arF N 0)) + tm N (d + 1) l as := by
  refine ⟨?_, ?_⟩
  · rw [ext, List.flatMap_cons, if_pos hc, ext]
  · rw [tm, List.map_cons, List.sum_cons, if_pos hc, tm]
    omega
theorem ext_skip {N : Nt} {l : List Int} {d : Nat} {a : Int} {as : List Int} (hc : canFol N l a = false) : ext N d l (a :: as) = ext N d l as ∧ tm N d l (a :: as) = tm N d l as := by
  cases d with
  | zero => exact ⟨rfl, rfl⟩
  | succ d =>
    refine ⟨?_, ?_⟩
    · rw [ext, List.flatMap_cons, if_neg (by rw [hc]; decide), ext]; rfl
    · rw [tm, List.map_cons, List.sum_cons, if_neg (by rw [hc]; decide), tm]
      omega
/-- what is left to come, and how many rounds it costs, from a path (its arcs from the last one) and an arc on -/
def rem (N : Nt) : List Int → Int → List (List Int)
  | [], f => ext N 8 [] (arF N f)
  | b :: r, f => ext N (8 - (r.length + 1)) (b :: r).reverse (arF N f) ++ rem N r (b + 1)
def rnd (N : Nt) : List Int → Int → Nat
  | [], f => tm N 8 [] (arF N f)
  | b :: r, f => tm N (8 - (r.length + 1)) (b :: r).reverse (arF N f) + rnd N r (b + 1)
/-- from an arc on: either none can follow, or the first one that can is known -/
theorem fol_at {N : Nt} (hA : nA N ≤ 16) {l : List Int} : ∀ (d : Nat) (f : Int), nA N - f = d → 0 ≤ f → (folF N l (arF N f) = -1 ∧ ∀ k, ext N k l (arF N f) = [] ∧ tm N k l (arF N f) = 1) ∨ (∃ a, folF N l (arF N f) = a ∧ f ≤ a ∧ a < nA N ∧ canFol N l a = true ∧ ∀ k, ext N (k + 1) l (arF N f) = (if aHd N a = nT N then [l ++ [a]] else ext N k (l ++ [a]) (arF N 0)) ++ ext N (k + 1) l (arF N (a + 1)) ∧ tm N (k + 1) l (arF N f) = 1 + (if aHd N a = nT N then 0 else tm N k (l ++ [a]) (arF N 0)) + tm N (k + 1) l (arF N (a + 1))) := by
  intro d
  induction d with
  | zero =>
    intro f hd _
    rw [arF_nil (by omega)]
    exact Or.inl ⟨rfl, fun k => ext_none (fun a h => by cases h)⟩
  | succ d ih =>
    intro f hd h0
    rw [arF_cons (by omega), folF]
    cases hc : canFol N l f with
    | true =>
      rw [if_pos rfl]
      exact Or.inr ⟨f, rfl, Int.le_refl _, by omega, hc, fun k => ext_step hc⟩
    | false =>
      rw [if_neg (by decide)]
      rcases ih (f + 1) (by omega) (by omega) with ⟨h1, h2⟩ | ⟨a, h1, h2, h3, h4, h5⟩
      · exact Or.inl ⟨h1, fun k => ⟨(ext_skip hc).1.trans (h2 k).1, (ext_skip hc).2.trans (h2 k).2⟩⟩
      · exact Or.inr ⟨a, h1, by omega, h3, h4, fun k => ⟨(ext_skip hc).1.trans (h5 k).1, (ext_skip hc).2.trans (h5 k).2⟩⟩
