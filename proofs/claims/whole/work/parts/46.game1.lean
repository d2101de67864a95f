/-! the game -/
abbrev Vt : Type := Int → Int → Int
def num (N : Nt) (V : Vt) (a l : Int) : Int := if V (aHd N a) l = -1 then -1 else if l = 0 then aCo N a + V (aHd N a) 0 else if aCo N a + V (aHd N a) l < aCo N a + aEx N a + V (aHd N a) (l - 1) then aCo N a + aEx N a + V (aHd N a) (l - 1) else aCo N a + V (aHd N a) l
def bA (N : Nt) (V : Vt) (v l : Int) : List Int → Int → Int → Int
  | [], b, _ => b
  | a :: as, b, s => if v = nT N then b else if aTl N a = v then (if num N V a l = -1 then bA N V v l as b s else if s ≤ num N V a l then bA N V v l as b s else bA N V v l as a (num N V a l)) else bA N V v l as b s
def bestA (N : Nt) (V : Vt) (v l : Int) : Int := bA N V v l (arF N 0) (-1) 1000000
def TV (N : Nt) (V : Vt) : Vt := fun v l => if v = nT N then 0 else if bestA N V v l = -1 then -1 else num N V (bestA N V v l) l
def GV (N : Nt) : Nat → Vt
  | 0 => fun v _ => if v = nT N then 0 else -1
  | k + 1 => TV N (GV N k)
/-- values within bounds; whether there is one doesn't hang on the budget -/
def VOK (N : Nt) (V : Vt) (t : Int) : Prop := ∀ v l, 0 ≤ v → v < nN N → 0 ≤ l → l ≤ 6 → -1 ≤ V v l ∧ V v l ≤ t ∧ (V v l = -1 ↔ V v 0 = -1)
theorem num_r {N : Nt} (hW : WFN N) {V : Vt} {t a l : Int} (hV : VOK N V t) (ha : 0 ≤ a ∧ a < nA N) (hl : 0 ≤ l ∧ l ≤ 6) (ht : 0 ≤ t) : -1 ≤ num N V a l ∧ num N V a l ≤ t + 198 ∧ (num N V a l = -1 ↔ V (aHd N a) 0 = -1) := by
  have hA := hW.arc ha.1 ha.2
  obtain ⟨h1, h2, h3⟩ := hV (aHd N a) l hA.2.2.1 hA.2.2.2.1 hl.1 hl.2
  obtain ⟨h4, h5, -⟩ := hV (aHd N a) 0 hA.2.2.1 hA.2.2.2.1 (by omega) (by omega)
  unfold num
  by_cases c : V (aHd N a) l = -1
  · rw [if_pos c]
    exact ⟨by omega, by omega, ⟨fun _ => h3.mp c, fun _ => rfl⟩⟩
  · rw [if_neg c]
    have c0 : ¬ V (aHd N a) 0 = -1 := fun q => c (h3.mpr q)
    by_cases cl : l = 0
    · rw [if_pos cl]
      exact ⟨by omega, by omega, ⟨fun q => by omega, fun q => absurd q c0⟩⟩
    · rw [if_neg cl]
      obtain ⟨g1, g2, g3⟩ := hV (aHd N a) (l - 1) hA.2.2.1 hA.2.2.2.1 (by omega) (by omega)
      have c1 : ¬ V (aHd N a) (l - 1) = -1 := fun q => c0 (g3.mp q)
      split
      · exact ⟨by omega, by omega, ⟨fun q => by omega, fun q => absurd q c0⟩⟩
      · exact ⟨by omega, by omega, ⟨fun q => by omega, fun q => absurd q c0⟩⟩
theorem bA_in {N : Nt} {V : Vt} {v l : Int} : ∀ (as : List Int) (b s : Int), bA N V v l as b s = b ∨ bA N V v l as b s ∈ as ∧ aTl N (bA N V v l as b s) = v ∧ num N V (bA N V v l as b s) l ≠ -1 ∧ v ≠ nT N := by
  intro as
  induction as with
  | nil => intro b s; exact Or.inl rfl
  | cons a as ih =>
    intro b s
    have keep : ∀ b s, (bA N V v l as b s = b ∨ bA N V v l as b s ∈ a :: as ∧ aTl N (bA N V v l as b s) = v ∧ num N V (bA N V v l as b s) l ≠ -1 ∧ v ≠ nT N) := fun b s => by
      rcases ih b s with h | ⟨h1, h2⟩
      · exact Or.inl h
      · exact Or.inr ⟨List.mem_cons_of_mem _ h1, h2⟩
    rw [bA]
    by_cases c0 : v = nT N
    · rw [if_pos c0]; exact Or.inl rfl
    · rw [if_neg c0]
      by_cases c1 : aTl N a = v
      · rw [if_pos c1]
        by_cases c2 : num N V a l = -1
        · rw [if_pos c2]; exact keep b s
        · rw [if_neg c2]
          by_cases c3 : s ≤ num N V a l
          · rw [if_pos c3]; exact keep b s
          · rw [if_neg c3]
            rcases ih a (num N V a l) with h | ⟨h1, h2⟩
            · exact Or.inr ⟨by rw [h]; exact List.mem_cons_self, by rw [h]; exact c1, by rw [h]; exact c2, c0⟩
            · exact Or.inr ⟨List.mem_cons_of_mem _ h1, h2⟩
      · rw [if_neg c1]; exact keep b s
theorem bA_none {N : Nt} {V : Vt} {v l : Int} (hv : v ≠ nT N) : ∀ (as : List Int) (s : Int), (∀ a ∈ as, num N V a l < 1000000 ∧ 0 ≤ a) → s = 1000000 → (bA N V v l as (-1) s = -1 ↔ ∀ a ∈ as, aTl N a = v → num N V a l = -1) := by
  intro as
  induction as with
  | nil =>
    intro s _ _
    exact ⟨(fun _ a h => absurd h List.not_mem_nil), fun _ => rfl⟩
  | cons a as ih =>
    intro s hb hs
    obtain ⟨hba, hba0⟩ := hb a List.mem_cons_self
    have hb' := fun x hx => hb x (List.mem_cons_of_mem _ hx)
    rw [bA, if_neg hv]
    by_cases c1 : aTl N a = v
    · rw [if_pos c1]
      by_cases c2 : num N V a l = -1
      · rw [if_pos c2, ih s hb' hs]
        refine ⟨fun h x hx => ?_, fun h x hx => h x (List.mem_cons_of_mem _ hx)⟩
        rcases List.mem_cons.mp hx with rfl | hx
        · exact fun _ => c2
        · exact h x hx
      · rw [if_neg c2, if_neg (by omega)]
        constructor
        · intro h
          rcases bA_in (N := N) (V := V) (v := v) (l := l) as a (num N V a l) with e | ⟨e, -⟩
          · rw [h] at e; omega
          · have := (hb' _ e).2
            rw [h] at this
            omega
        · intro h
          exact absurd (h a List.mem_cons_self c1) c2
    · rw [if_neg c1, ih s hb' hs]
      refine ⟨fun h x hx => ?_, fun h x hx => h x (List.mem_cons_of_mem _ hx)⟩
      rcases List.mem_cons.mp hx with rfl | hx
      · exact fun q => absurd q c1
      · exact h x hx
theorem bestA_in {N : Nt} {V : Vt} {v l : Int} (h : bestA N V v l ≠ -1) : 0 ≤ bestA N V v l ∧ bestA N V v l < nA N ∧ num N V (bestA N V v l) l ≠ -1 := by
  unfold bestA at h ⊢
  rcases bA_in (N := N) (V := V) (v := v) (l := l) (arF N 0) (-1) 1000000 with e | ⟨e1, -, e2, -⟩
  · exact absurd e h
  · have := arF_mem.mp e1
    exact ⟨this.1, this.2, e2⟩
theorem TV_ok {N : Nt} (hW : WFN N) {V : Vt} {t : Int} (hV : VOK N V t) (h0 : 0 ≤ t) (ht : t ≤ 100000) : VOK N (TV N V) (t + 198) := by
  intro v l hv1 hv2 hl1 hl2
  unfold TV
  by_cases c : v = nT N
  · rw [if_pos c, if_pos c]; omega
  · rw [if_neg c, if_neg c]
    have hnb : ∀ l', 0 ≤ l' → l' ≤ 6 → (bestA N V v l' = -1 ↔ ∀ a ∈ arF N 0, aTl N a = v → num N V a l' = -1) := fun l' q1 q2 => bA_none c (arF N 0) 1000000 (fun a ha => by
      have ha := arF_mem.mp ha
      have := num_r hW hV ha ⟨q1, q2⟩ h0
      omega) rfl
    have hind : bestA N V v l = -1 ↔ bestA N V v 0 = -1 := by
      rw [hnb l hl1 hl2, hnb 0 (by omega) (by omega)]
      constructor
      · intro h a ha e
        have := num_r hW hV (arF_mem.mp ha) ⟨hl1, hl2⟩ h0
        have h9 := num_r hW hV (arF_mem.mp ha) (l := 0) ⟨by omega, by omega⟩ h0
        exact h9.2.2.mpr (this.2.2.mp (h a ha e))
      · intro h a ha e
        have := num_r hW hV (arF_mem.mp ha) ⟨hl1, hl2⟩ h0
        have h9 := num_r hW hV (arF_mem.mp ha) (l := 0) ⟨by omega, by omega⟩ h0
        exact this.2.2.mpr (h9.2.2.mp (h a ha e))
    by_cases c1 : bestA N V v l = -1
    · rw [if_pos c1, if_pos (hind.mp c1)]; omega
    · have c2 : ¬ bestA N V v 0 = -1 := fun q => c1 (hind.mpr q)
      rw [if_neg c1, if_neg c2]
      obtain ⟨b1, b2, b3⟩ := bestA_in c1
      obtain ⟨d1, d2, d3⟩ := bestA_in c2
      have := num_r hW hV ⟨b1, b2⟩ ⟨hl1, hl2⟩ h0
      exact ⟨this.1, this.2.1, ⟨fun q => absurd q b3, fun q => absurd q d3⟩⟩
theorem GV_ok {N : Nt} (hW : WFN N) : ∀ k : Nat, k ≤ 64 → VOK N (GV N k) (198 * k) := by
  intro k
  induction k with
  | zero =>
    intro _ v l _ _ _ _
    show -1 ≤ (if v = nT N then (0 : Int) else -1) ∧ (if v = nT N then (0 : Int) else -1) ≤ 198 * ((0 : Nat) : Int) ∧ ((if v = nT N then (0 : Int) else -1) = -1 ↔ (if v = nT N then (0 : Int) else -1) = -1)
    refine ⟨?_, ?_, Iff.rfl⟩ <;> split <;> omega
  | succ k ih =>
    intro hk
    have := TV_ok hW (ih (by omega)) (by omega) (by omega)
    rw [show (198 * ((k + 1 : Nat) : Int)) = 198 * (k : Int) + 198 by omega]
    exact this
/-- values that agree where it counts -/
def agr (N : Nt) (V V' : Vt) : Prop := ∀ v l, 0 ≤ v → v < nN N → 0 ≤ l → l ≤ 6 → V v l = V' v l
theorem num_agr {N : Nt} (hW : WFN N) {V V' : Vt} (h : agr N V V') {a l : Int} (ha : 0 ≤ a ∧ a < nA N) (hl : 0 ≤ l ∧ l ≤ 6) : num N V a l = num N V' a l := by
  have hA := hW.arc ha.1 ha.2
  unfold num
  rw [h (aHd N a) l hA.2.2.1 hA.2.2.2.1 hl.1 hl.2, h (aHd N a) 0 hA.2.2.1 hA.2.2.2.1 (by omega) (by omega)]
  by_cases c : l = 0
  · rw [if_pos c, if_pos c]
  · rw [h (aHd N a) (l - 1) hA.2.2.1 hA.2.2.2.1 (by omega) (by omega)]
theorem bA_agr {N : Nt} (hW : WFN N) {V V' : Vt} (h : agr N V V') {v l : Int} (hl : 0 ≤ l ∧ l ≤ 6) : ∀ (as : List Int) (b s : Int), (∀ a ∈ as, 0 ≤ a ∧ a < nA N) → bA N V v l as b s = bA N V' v l as b s := by
  intro as
  induction as with
  | nil => intro b s _; rfl
  | cons a as ih =>
    intro b s ha
    have ih' := fun b s => ih b s (fun x hx => ha x (List.mem_cons_of_mem _ hx))
    rw [bA, bA, num_agr hW h (ha a List.mem_cons_self) hl, ih', ih']
theorem TV_agr {N : Nt} (hW : WFN N) {V V' : Vt} (h : agr N V V') : agr N (TV N V) (TV N V') := by
  intro v l hv1 hv2 hl1 hl2
  have e : bestA N V v l = bestA N V' v l := bA_agr hW h ⟨hl1, hl2⟩ _ _ _ (fun a ha => arF_mem.mp ha)
  unfold TV
  rw [e]
  split
  · rfl
  · split
    · rfl
    · rename_i c
      obtain ⟨b1, b2, b3⟩ := bestA_in c
      exact num_agr hW h ⟨b1, b2⟩ ⟨hl1, hl2⟩
theorem GV_stop {N : Nt} (hW : WFN N) {k : Nat} (h : agr N (GV N (k + 1)) (GV N k)) : ∀ d, agr N (GV N (k + d)) (GV N k) := by
  intro d
  induction d with
  | zero => exact fun _ _ _ _ _ _ => rfl
  | succ d ih =>
    intro v l a b c e
    exact (TV_agr hW ih v l a b c e).trans (h v l a b c e)
