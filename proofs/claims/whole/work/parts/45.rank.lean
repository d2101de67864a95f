/-! the robust and the calm route -/
abbrev Bs : Type := List Int × Int × Int × Int
def rgK (N : Nt) (T : List (List Int)) (by_ : Int) (r : List Int) : Int := if by_ = 0 then 0 else (rgF N T 0 r).1
def isBtr (b : Bs) (reg wo pl : Int) (n : Nat) : Prop := if reg = b.2.1 then (if wo = b.2.2.1 then (if pl = b.2.2.2 then n < b.1.length else pl < b.2.2.2) else wo < b.2.2.1) else reg < b.2.1
def stepB (N : Nt) (T : List (List Int)) (by_ : Int) (b : Bs) (r : List Int) : Bs := if b.1 = [] ∨ (if rgK N T by_ r = b.2.1 then (if wst N r = b.2.2.1 then (if cst N r 0 = b.2.2.2 then r.length < b.1.length else cst N r 0 < b.2.2.2) else wst N r < b.2.2.1) else rgK N T by_ r < b.2.1) then (r, rgK N T by_ r, wst N r, cst N r 0) else b
def bestR (N : Nt) (T : List (List Int)) (by_ : Int) : Bs := (routesOf N).foldl (stepB N T by_) ([], 1000000, 1000000, 1000000)
/-- what a search for the best route may change -/
def sameR (q : Nat) (m m' : Mm) : Prop := (∀ p, p ≠ 256 → p ≠ 257 → p ≠ 258 → p ≠ 259 → p ≠ 260 → p ≠ q → p ≠ q + 1 → m' p = m p) ∧ m' 260 5 = m 260 5 ∧ m' 260 6 = m 260 6
theorem sameR.trans {q : Nat} {m m' m'' : Mm} (h : sameR q m m') (h' : sameR q m' m'') : sameR q m m'' := ⟨fun p a b c d e f g => (h'.1 p a b c d e f g).trans (h.1 p a b c d e f g), h'.2.1.trans h.2.1, h'.2.2.trans h.2.2⟩
theorem sameR_W {q : Nat} {m m' : Mm} (h : sameW m m') : sameR q m m' := ⟨fun p a b _ _ _ _ _ => h p a b, by rw [h 260 (by decide) (by decide)], by rw [h 260 (by decide) (by decide)]⟩
theorem sameR_J {q : Nat} {m m' : Mm} (h : sameJ m m') : sameR q m m' := ⟨fun p _ _ c d _ _ _ => h p c d, by rw [h 260 (by decide) (by decide)], by rw [h 260 (by decide) (by decide)]⟩
theorem sameR_q {q : Nat} {m : Mm} {k v : Int} (hq : q ≠ 260) : sameR q m (up m q k v) := ⟨fun p _ _ _ _ _ f _ => up_ne f, by rw [up_ne hq.symm], by rw [up_ne hq.symm]⟩
theorem sameR_f {q : Nat} {m : Mm} {k v : Int} (hk : k ≠ 5 ∧ k ≠ 6) : sameR q m (up m 260 k v) := ⟨fun p _ _ _ _ e _ _ => up_ne e, up_off hk.1.symm, up_off hk.2.symm⟩
theorem sameR_pcp {q s : Nat} {m : Mm} (hq : q ≠ 260 ∧ q + 1 ≠ 260) : sameR q m (pcp m q s) := ⟨fun p _ _ _ _ _ f g => pcp_ne f g, by rw [pcp_ne hq.1.symm hq.2.symm], by rw [pcp_ne hq.1.symm hq.2.symm]⟩
def BP (q : Nat) : Prop := q = 261 ∨ q = 263
theorem sameR.net {q : Nat} {m m' : Mm} {N : Nt} (hq : BP q) (h : sameR q m m') (hN : isNet m 2 N) : isNet m' 2 N := by
  have e : ∀ p, p < 7 → m' p = m p := fun p hp => h.1 p (by omega) (by omega) (by omega) (by omega) (by omega) (by rcases hq with rfl | rfl <;> omega) (by rcases hq with rfl | rfl <;> omega)
  exact hN.cong (e _ (by omega)) (e _ (by omega)) (e _ (by omega)) (e _ (by omega)) (e _ (by omega))
theorem WS.cong {m m' : Mm} {N : Nt} {L : List (List Int)} {k : Nat} (h : WS m N L k) (h0 : m' 256 = m 256) (h1 : m' 257 = m 257) : WS m' N L k := by
  rcases h with ⟨a, b⟩ | ⟨r, b, a, c⟩
  · exact Or.inl ⟨a.cong h0 h1, b⟩
  · exact Or.inr ⟨r, b, a.cong h0 h1, c⟩
section RK
variable {w : Wl} {N : Nt} {fu : Nat} {T : List (List Int)} {q : Nat} {m : Mm} {v : Int}
theorem sk260 : SK[260]? = some (6, [some 2, some 255, some 258, some 261, some 263, none, none, none, none, none]) := by decide +kernel
theorem G6_0 : gP (mem w m) 260 6 0 = some 2 := gP_mem sk260 rfl
theorem G6_1 : gP (mem w m) 260 6 1 = some 255 := gP_mem sk260 rfl
theorem G6_2 : gP (mem w m) 260 6 2 = some 258 := gP_mem sk260 rfl
theorem G6_3 : gP (mem w m) 260 6 3 = some 261 := gP_mem sk260 rfl
theorem G6_4 : gP (mem w m) 260 6 4 = some 263 := gP_mem sk260 rfl
theorem G6_5 : gI (mem w m) 260 6 5 = some (iI (m 260 5)) := gI_mem sk260 rfl
theorem G6_6 : gI (mem w m) 260 6 6 = some (iI (m 260 6)) := gI_mem sk260 rfl
theorem G6_7 : gI (mem w m) 260 6 7 = some (iI (m 260 7)) := gI_mem sk260 rfl
theorem G6_8 : gI (mem w m) 260 6 8 = some (iI (m 260 8)) := gI_mem sk260 rfl
theorem G6_9 : gI (mem w m) 260 6 9 = some (iI (m 260 9)) := gI_mem sk260 rfl
theorem U6_5 : pF (mem w m) 260 6 5 (.int (iI v)) = some (mem w (up m 260 5 v)) := pF_mem sk260 rfl
theorem U6_6 : pF (mem w m) 260 6 6 (.int (iI v)) = some (mem w (up m 260 6 v)) := pF_mem sk260 rfl
theorem U6_7 : pF (mem w m) 260 6 7 (.int (iI v)) = some (mem w (up m 260 7 v)) := pF_mem sk260 rfl
theorem U6_8 : pF (mem w m) 260 6 8 (.int (iI v)) = some (mem w (up m 260 8 v)) := pF_mem sk260 rfl
theorem U6_9 : pF (mem w m) 260 6 9 (.int (iI v)) = some (mem w (up m 260 9 v)) := pF_mem sk260 rfl
theorem H6 : hasO (mem w m) 260 6 = some () := hasO_mem sk260
theorem forgetBest_eq : f_X6_forgetBest fu 260 (mem w m) = some ((), mem w (up (up m 260 5 0) 260 6 0)) := by
  unfold f_X6_forgetBest
  simp (disch := omega) only [Option.bind_some, bd2_some, bdX_ok, bdX_er, nm_eq, n_0, n_1, n_2, n_3, n_4, n_5, n_6, n_7, n_8, n_9, n_10, n_11, n_12, n_14, n_15, n_16, n_17, n_18, n_19, n_20, n_21, n_24, n_27, n_28, n_32, n_43, n_45, n_48, n_56, n_57, n_59, n_64, n_70, n_97, n_99, n_100, n_104, n_118, n_122, n_126, n_127, n_128, n_129, n_130, n_150, n_255, n_600, n_1000, n_1050, n_1200, n_999999, n_1000000, iI_neg, iI_add, iI_sub, iI_mul, ile, ilt, ieq, U6_5, U6_6]
theorem BP.isP (h : BP q) : isP q := by rcases h with rfl | rfl; exact isP_261; exact isP_263
def RS (m : Mm) (q : Nat) (b : Bs) : Prop := isPth m q b.1 ∧ m 260 7 = b.2.1 ∧ m 260 8 = b.2.2.1 ∧ m 260 9 = b.2.2.2
def BR (b : Bs) : Prop := (-1 ≤ b.2.1 ∧ b.2.1 ≤ 1000000 ∧ 0 ≤ b.2.2.1 ∧ b.2.2.1 ≤ 1000000 ∧ 0 ≤ b.2.2.2 ∧ b.2.2.2 ≤ 1000000)
theorem keepBetter_eq (hb : BP q) {b : Bs} {r : List Int} {reg wo pl : Int} (hR : RS m q b) (hB : BR b) (hr : isPth m 256 r) (h1 : -1 ≤ reg ∧ reg ≤ 2000) (h2 : 0 ≤ wo ∧ wo ≤ 2000) (h3 : 0 ≤ pl ∧ pl ≤ 2000) :
    ∃ m', f_X6_keepBetter fu 260 q (iI reg) (iI wo) (iI pl) (mem w m) = some ((), mem w m') ∧ sameR q m m' ∧ m' 256 = m 256 ∧ m' 257 = m 257 ∧ ((b.1 = [] ∨ isBtr b reg wo pl r.length) → RS m' q (r, reg, wo, pl)) ∧ (¬ (b.1 = [] ∨ isBtr b reg wo pl r.length) → RS m' q b) := by
  obtain ⟨R1, R2, R3, R4⟩ := hR
  obtain ⟨B1, B2, B3, B4, B5, B6⟩ := hB
  have l1 := R1.2.2.2
  have l2 := hr.2.2.2
  have hP := hb.isP
  have hq260 : q ≠ 260 ∧ q + 1 ≠ 260 := by rcases hb with rfl | rfl <;> omega
  have hq256 : q ≠ 256 ∧ q + 1 ≠ 256 ∧ q ≠ 257 ∧ q + 1 ≠ 257 ∧ q ≠ 256 + 1 := by rcases hb with rfl | rfl <;> omega
  have h19 : f_X6_keepBetter_19 fu 260 q (iI reg) (iI wo) (iI pl) (mem w m) = some ((), mem w (up (up (up (pcp m q 256) 260 7 reg) 260 8 wo) 260 9 pl)) := by
    unfold f_X6_keepBetter_19
    simp (disch := omega) only [Option.bind_some, bd2_some, bdX_ok, bdX_er, nm_eq, n_0, n_1, n_2, n_3, n_4, n_5, n_6, n_7, n_8, n_9, n_10, n_11, n_12, n_14, n_15, n_16, n_17, n_18, n_19, n_20, n_21, n_24, n_27, n_28, n_32, n_43, n_45, n_48, n_56, n_57, n_59, n_64, n_70, n_97, n_99, n_100, n_104, n_118, n_122, n_126, n_127, n_128, n_129, n_130, n_150, n_255, n_600, n_1000, n_1050, n_1200, n_999999, n_1000000, iI_neg, iI_add, iI_sub, iI_mul, ile, ilt, ieq, G6_1, G7_1, P_has hP, pcopy_eq hP isP_256, U6_7, U6_8, U6_9]
  have hRS : RS (up (up (up (pcp m q 256) 260 7 reg) 260 8 wo) 260 9 pl) q (r, reg, wo, pl) := by
    refine ⟨(pcopy_is hP hr).cong ?_ ?_, ?_, ?_, ?_⟩
    · rw [up_ne hq260.1, up_ne hq260.1, up_ne hq260.1]
    · rw [up_ne hq260.2, up_ne hq260.2, up_ne hq260.2]
    · rw [up_off (by omega), up_off (by omega), up_at]
    · rw [up_off (by omega), up_at]
    · rw [up_at]
  have hs : sameR q m (up (up (up (pcp m q 256) 260 7 reg) 260 8 wo) 260 9 pl) := ((sameR_pcp hq260).trans (sameR_f (by omega))).trans ((sameR_f (by omega)).trans (sameR_f (by omega)))
  have e6 : (up (up (up (pcp m q 256) 260 7 reg) 260 8 wo) 260 9 pl) 256 = m 256 := by rw [up_ne (by omega), up_ne (by omega), up_ne (by omega), pcp_ne hq256.1.symm hq256.2.1.symm]
  have e7 : (up (up (up (pcp m q 256) 260 7 reg) 260 8 wo) 260 9 pl) 257 = m 257 := by rw [up_ne (by omega), up_ne (by omega), up_ne (by omega), pcp_ne hq256.2.2.1.symm hq256.2.2.2.1.symm]
  have yes : (b.1 = [] ∨ isBtr b reg wo pl r.length) → ∃ m', f_X6_keepBetter_19 fu 260 q (iI reg) (iI wo) (iI pl) (mem w m) = some ((), mem w m') ∧ sameR q m m' ∧ m' 256 = m 256 ∧ m' 257 = m 257 ∧ ((b.1 = [] ∨ isBtr b reg wo pl r.length) → RS m' q (r, reg, wo, pl)) ∧ (¬ (b.1 = [] ∨ isBtr b reg wo pl r.length) → RS m' q b) := fun hc => ⟨_, h19, hs, e6, e7, fun _ => hRS, fun h => absurd hc h⟩
  have no : ¬ (b.1 = [] ∨ isBtr b reg wo pl r.length) → ∃ m', (some ((), mem w m) : Option (Unit × List Ob)) = some ((), mem w m') ∧ sameR q m m' ∧ m' 256 = m 256 ∧ m' 257 = m 257 ∧ ((b.1 = [] ∨ isBtr b reg wo pl r.length) → RS m' q (r, reg, wo, pl)) ∧ (¬ (b.1 = [] ∨ isBtr b reg wo pl r.length) → RS m' q b) := fun hc => ⟨m, rfl, ⟨fun p _ _ _ _ _ _ _ => rfl, rfl, rfl⟩, rfl, rfl, fun h => absurd h hc, fun _ => ⟨R1, R2, R3, R4⟩⟩
  unfold f_X6_keepBetter
  simp (disch := omega) only [Option.bind_some, bd2_some, bdX_ok, bdX_er, nm_eq, n_0, n_1, n_2, n_3, n_4, n_5, n_6, n_7, n_8, n_9, n_10, n_11, n_12, n_14, n_15, n_16, n_17, n_18, n_19, n_20, n_21, n_24, n_27, n_28, n_32, n_43, n_45, n_48, n_56, n_57, n_59, n_64, n_70, n_97, n_99, n_100, n_104, n_118, n_122, n_126, n_127, n_128, n_129, n_130, n_150, n_255, n_600, n_1000, n_1050, n_1200, n_999999, n_1000000, iI_neg, iI_add, iI_sub, iI_mul, ile, ilt, ieq, Q_len R1, Q_arr R1, Q_has R1, H6]
  by_cases c0 : (b.1.length : Int) = 0
  · rw [if_pos c0]
    exact yes (Or.inl (List.eq_nil_of_length_eq_zero (by omega)))
  · rw [if_neg c0]
    have c0' : b.1 ≠ [] := fun e => c0 (by rw [e]; rfl)
    have hbt : ∀ c : Prop, (isBtr b reg wo pl r.length ↔ c) → ((b.1 = [] ∨ isBtr b reg wo pl r.length) ↔ c) := fun c h => ⟨fun q => by rcases q with q | q; exact absurd q c0'; exact h.mp q, fun q => Or.inr (h.mpr q)⟩
    unfold f_X6_isBetter
    simp (disch := omega) only [Option.bind_some, bd2_some, bdX_ok, bdX_er, nm_eq, n_0, n_1, n_2, n_3, n_4, n_5, n_6, n_7, n_8, n_9, n_10, n_11, n_12, n_14, n_15, n_16, n_17, n_18, n_19, n_20, n_21, n_24, n_27, n_28, n_32, n_43, n_45, n_48, n_56, n_57, n_59, n_64, n_70, n_97, n_99, n_100, n_104, n_118, n_122, n_126, n_127, n_128, n_129, n_130, n_150, n_255, n_600, n_1000, n_1050, n_1200, n_999999, n_1000000, iI_neg, iI_add, iI_sub, iI_mul, ile, ilt, ieq, G6_1, G6_7, G6_8, G6_9, G7_1, Q_len R1, Q_arr R1, Q_has R1, Q_len hr, Q_arr hr, Q_has hr, R2, R3, R4]
    by_cases c1 : reg = b.2.1
    · rw [if_pos c1]
      by_cases c2 : wo = b.2.2.1
      · rw [if_pos c2]
        by_cases c3 : pl = b.2.2.2
        · rw [if_pos c3]
          have hb9 := hbt (r.length < b.1.length) (by unfold isBtr; rw [if_pos c1, if_pos c2, if_pos c3])
          by_cases c4 : (b.1.length : Int) ≤ r.length
          · rw [if_pos c4]; simp (disch := omega) only [Option.bind_some, bd2_some, bdX_ok, bdX_er, nm_eq, n_0, n_1, n_2, n_3, n_4, n_5, n_6, n_7, n_8, n_9, n_10, n_11, n_12, n_14, n_15, n_16, n_17, n_18, n_19, n_20, n_21, n_24, n_27, n_28, n_32, n_43, n_45, n_48, n_56, n_57, n_59, n_64, n_70, n_97, n_99, n_100, n_104, n_118, n_122, n_126, n_127, n_128, n_129, n_130, n_150, n_255, n_600, n_1000, n_1050, n_1200, n_999999, n_1000000, iI_neg, iI_add, iI_sub, iI_mul, ile, ilt, ieq]; rw [if_pos (by first | exact trivial | omega)]; exact no (fun h => by have := hb9.mp h; omega)
          · rw [if_neg c4]; simp (disch := omega) only [Option.bind_some, bd2_some, bdX_ok, bdX_er, nm_eq, n_0, n_1, n_2, n_3, n_4, n_5, n_6, n_7, n_8, n_9, n_10, n_11, n_12, n_14, n_15, n_16, n_17, n_18, n_19, n_20, n_21, n_24, n_27, n_28, n_32, n_43, n_45, n_48, n_56, n_57, n_59, n_64, n_70, n_97, n_99, n_100, n_104, n_118, n_122, n_126, n_127, n_128, n_129, n_130, n_150, n_255, n_600, n_1000, n_1050, n_1200, n_999999, n_1000000, iI_neg, iI_add, iI_sub, iI_mul, ile, ilt, ieq]; rw [if_neg (by first | exact not_false | omega)]; exact yes (hb9.mpr (by omega))
        · rw [if_neg c3]
          have hb9 := hbt (pl < b.2.2.2) (by unfold isBtr; rw [if_pos c1, if_pos c2, if_neg c3])
          by_cases c4 : b.2.2.2 ≤ pl
          · rw [if_pos c4]; simp (disch := omega) only [Option.bind_some, bd2_some, bdX_ok, bdX_er, nm_eq, n_0, n_1, n_2, n_3, n_4, n_5, n_6, n_7, n_8, n_9, n_10, n_11, n_12, n_14, n_15, n_16, n_17, n_18, n_19, n_20, n_21, n_24, n_27, n_28, n_32, n_43, n_45, n_48, n_56, n_57, n_59, n_64, n_70, n_97, n_99, n_100, n_104, n_118, n_122, n_126, n_127, n_128, n_129, n_130, n_150, n_255, n_600, n_1000, n_1050, n_1200, n_999999, n_1000000, iI_neg, iI_add, iI_sub, iI_mul, ile, ilt, ieq]; rw [if_pos (by first | exact trivial | omega)]; exact no (fun h => by have := hb9.mp h; omega)
          · rw [if_neg c4]; simp (disch := omega) only [Option.bind_some, bd2_some, bdX_ok, bdX_er, nm_eq, n_0, n_1, n_2, n_3, n_4, n_5, n_6, n_7, n_8, n_9, n_10, n_11, n_12, n_14, n_15, n_16, n_17, n_18, n_19, n_20, n_21, n_24, n_27, n_28, n_32, n_43, n_45, n_48, n_56, n_57, n_59, n_64, n_70, n_97, n_99, n_100, n_104, n_118, n_122, n_126, n_127, n_128, n_129, n_130, n_150, n_255, n_600, n_1000, n_1050, n_1200, n_999999, n_1000000, iI_neg, iI_add, iI_sub, iI_mul, ile, ilt, ieq]; rw [if_neg (by first | exact not_false | omega)]; exact yes (hb9.mpr (by omega))
      · rw [if_neg c2]
        have hb9 := hbt (wo < b.2.2.1) (by unfold isBtr; rw [if_pos c1, if_neg c2])
        by_cases c4 : b.2.2.1 ≤ wo
        · rw [if_pos c4]; simp (disch := omega) only [Option.bind_some, bd2_some, bdX_ok, bdX_er, nm_eq, n_0, n_1, n_2, n_3, n_4, n_5, n_6, n_7, n_8, n_9, n_10, n_11, n_12, n_14, n_15, n_16, n_17, n_18, n_19, n_20, n_21, n_24, n_27, n_28, n_32, n_43, n_45, n_48, n_56, n_57, n_59, n_64, n_70, n_97, n_99, n_100, n_104, n_118, n_122, n_126, n_127, n_128, n_129, n_130, n_150, n_255, n_600, n_1000, n_1050, n_1200, n_999999, n_1000000, iI_neg, iI_add, iI_sub, iI_mul, ile, ilt, ieq]; rw [if_pos (by first | exact trivial | omega)]; exact no (fun h => by have := hb9.mp h; omega)
        · rw [if_neg c4]; simp (disch := omega) only [Option.bind_some, bd2_some, bdX_ok, bdX_er, nm_eq, n_0, n_1, n_2, n_3, n_4, n_5, n_6, n_7, n_8, n_9, n_10, n_11, n_12, n_14, n_15, n_16, n_17, n_18, n_19, n_20, n_21, n_24, n_27, n_28, n_32, n_43, n_45, n_48, n_56, n_57, n_59, n_64, n_70, n_97, n_99, n_100, n_104, n_118, n_122, n_126, n_127, n_128, n_129, n_130, n_150, n_255, n_600, n_1000, n_1050, n_1200, n_999999, n_1000000, iI_neg, iI_add, iI_sub, iI_mul, ile, ilt, ieq]; rw [if_neg (by first | exact not_false | omega)]; exact yes (hb9.mpr (by omega))
    · rw [if_neg c1]
      have hb9 := hbt (reg < b.2.1) (by unfold isBtr; rw [if_neg c1])
      by_cases c4 : b.2.1 ≤ reg
      · rw [if_pos c4]; simp (disch := omega) only [Option.bind_some, bd2_some, bdX_ok, bdX_er, nm_eq, n_0, n_1, n_2, n_3, n_4, n_5, n_6, n_7, n_8, n_9, n_10, n_11, n_12, n_14, n_15, n_16, n_17, n_18, n_19, n_20, n_21, n_24, n_27, n_28, n_32, n_43, n_45, n_48, n_56, n_57, n_59, n_64, n_70, n_97, n_99, n_100, n_104, n_118, n_122, n_126, n_127, n_128, n_129, n_130, n_150, n_255, n_600, n_1000, n_1050, n_1200, n_999999, n_1000000, iI_neg, iI_add, iI_sub, iI_mul, ile, ilt, ieq]; rw [if_pos (by first | exact trivial | omega)]; exact no (fun h => by have := hb9.mp h; omega)
      · rw [if_neg c4]; simp (disch := omega) only [Option.bind_some, bd2_some, bdX_ok, bdX_er, nm_eq, n_0, n_1, n_2, n_3, n_4, n_5, n_6, n_7, n_8, n_9, n_10, n_11, n_12, n_14, n_15, n_16, n_17, n_18, n_19, n_20, n_21, n_24, n_27, n_28, n_32, n_43, n_45, n_48, n_56, n_57, n_59, n_64, n_70, n_97, n_99, n_100, n_104, n_118, n_122, n_126, n_127, n_128, n_129, n_130, n_150, n_255, n_600, n_1000, n_1050, n_1200, n_999999, n_1000000, iI_neg, iI_add, iI_sub, iI_mul, ile, ilt, ieq]; rw [if_neg (by first | exact not_false | omega)]; exact yes (hb9.mpr (by omega))
theorem findBest_go (hfu : 200000 ≤ fu) (hb : BP q) (hTK : TOK N T) {by_ : Int} (hby : by_ = 0 ∨ by_ = 1) : ∀ (k n : Nat) (m : Mm) (L : List (List Int)) (b : Bs) (i : Int), isNet m 2 N → WS m N L k → k ≤ 131072 → RS m q b → BR b → (b.1 = [] → b.2.1 = 1000000) → 0 ≤ i → i + L.length < 1000000 → L.length < n →
    ∃ m', f_X6_findBest_31 fu n 260 q (iI by_) (iI i) (mem w m) = some ((), mem w m') ∧ sameR q m m' ∧ RS m' q (L.foldl (stepB N T by_) b) := by
  intro k
  induction k using Nat.strongRecOn with
  | ind k ih =>
    intro n m L b i hN hWS hk hR hB hnil h0 h1 hn
    have hW := hN.2.2.1
    have hq256 : q ≠ 256 ∧ q + 1 ≠ 256 ∧ q ≠ 257 ∧ q + 1 ≠ 257 := by rcases hb with rfl | rfl <;> omega
    have hq258 : q ≠ 258 ∧ q ≠ 259 ∧ q ≠ 257 ∧ q + 1 ≠ 258 ∧ q + 1 ≠ 259 := by rcases hb with rfl | rfl <;> omega
    obtain ⟨n, rfl⟩ : ∃ k, n = k + 1 := ⟨n - 1, by omega⟩
    rw [f_X6_findBest_31, f_X6_findBest_31b]
    rcases advance_eq (w := w) hfu hN hk hWS with ⟨e, m1, p1, p2, p3⟩ | ⟨r, L', m1, k', e, p0, p1, p2, p3, p4, p5, p6, p7⟩
    · simp (disch := omega) only [Option.bind_some, bd2_some, bdX_ok, bdX_er, nm_eq, n_0, n_1, n_2, n_3, n_4, n_5, n_6, n_7, n_8, n_9, n_10, n_11, n_12, n_14, n_15, n_16, n_17, n_18, n_19, n_20, n_21, n_24, n_27, n_28, n_32, n_43, n_45, n_48, n_56, n_57, n_59, n_64, n_70, n_97, n_99, n_100, n_104, n_118, n_122, n_126, n_127, n_128, n_129, n_130, n_150, n_255, n_600, n_1000, n_1050, n_1200, n_999999, n_1000000, iI_neg, iI_add, iI_sub, iI_mul, ile, ilt, ieq, G6_1, H7, p1]
      rw [if_neg (by omega), if_pos (by first | exact trivial | omega), e]
      exact ⟨m1, rfl, sameR_W p2, hR.1.cong (p2 _ hq256.1 hq256.2.2.1) (p2 _ hq256.2.1 hq256.2.2.2), by rw [p2 260 (by decide) (by decide)]; exact hR.2.1, by rw [p2 260 (by decide) (by decide)]; exact hR.2.2.1, by rw [p2 260 (by decide) (by decide)]; exact hR.2.2.2⟩
    · subst e
      simp only [List.length_cons] at h1 hn ⊢
      have hN1 := p2.net hN
      have hR1 : RS m1 q b := ⟨hR.1.cong (p2 _ hq256.1 hq256.2.2.1) (p2 _ hq256.2.1 hq256.2.2.2), by rw [p2 260 (by decide) (by decide)]; exact hR.2.1, by rw [p2 260 (by decide) (by decide)]; exact hR.2.2.1, by rw [p2 260 (by decide) (by decide)]; exact hR.2.2.2⟩
      have hA := pOK_AOK p4
      have hc : 0 ≤ wst N r ∧ wst N r ≤ 1386 := AOK_len hN.2.2 p3 hA
      have hc0 : 0 ≤ cst N r 0 ∧ cst N r 0 ≤ 1386 := AOK_len hN.2.2 p3 hA
      -- the rest, whatever the number that stands for the regret
      have rest : ∀ (m2 : Mm) (reg : Int), sameJ m1 m2 → -1 ≤ reg → reg ≤ 2000 → (reg = rgK N T by_ r ∨ (b.2.1 < reg ∧ b.2.1 < rgK N T by_ r ∧ b.1 ≠ [])) → ∃ m', f_X6_findBest_82 fu 260 q (iI by_) (iI i) (iI reg) (mem w m2) (fun a0 a1 a2 a3 M => f_X6_findBest_31 fu n a0 a1 a2 a3 M) = some ((), mem w m') ∧ sameR q m m' ∧ RS m' q ((r :: L').foldl (stepB N T by_) b) := by
        intro m2 reg hs2 g1 g2 g3
        have hN2 := hs2.net hN1
        have hr2 := hs2.pth (by decide) (by decide) (by decide) p3
        have hR2 : RS m2 q b := ⟨hs2.pth hq258.1 hq258.2.1 hq258.2.2.1 hR1.1, by rw [hs2 260 (by decide) (by decide)]; exact hR1.2.1, by rw [hs2 260 (by decide) (by decide)]; exact hR1.2.2.1, by rw [hs2 260 (by decide) (by decide)]; exact hR1.2.2.2⟩
        obtain ⟨m3, k1, k2, k3, k4, k5, k6⟩ := keepBetter_eq (w := w) (fu := fu) hb (reg := reg) (wo := wst N r) (pl := cst N r 0) hR2 hB hr2 (by omega) (by omega) (by omega)
        unfold f_X6_findBest_82
        have e0 : (0 : Int32) = iI 0 := rfl
        have hcs := costAgainst_eq (w := w) (D := 0) (show 100 ≤ fu by omega) hN2 hr2 hA
        rw [e0] at hcs
        simp (disch := omega) only [Option.bind_some, bd2_some, bdX_ok, bdX_er, nm_eq, n_0, n_1, n_2, n_3, n_4, n_5, n_6, n_7, n_8, n_9, n_10, n_11, n_12, n_14, n_15, n_16, n_17, n_18, n_19, n_20, n_21, n_24, n_27, n_28, n_32, n_43, n_45, n_48, n_56, n_57, n_59, n_64, n_70, n_97, n_99, n_100, n_104, n_118, n_122, n_126, n_127, n_128, n_129, n_130, n_150, n_255, n_600, n_1000, n_1050, n_1200, n_999999, n_1000000, iI_neg, iI_add, iI_sub, iI_mul, ile, ilt, ieq, G6_0, G6_1, G7_1, H6, K_has hN2, K_0 hN2, K_1 hN2, K_2 hN2, K_3 hN2, K_4 hN2, K_5 hN2, K_6 hN2, K_7 hN2, K_8 hN2, K_tl hN2, K_hd hN2, K_co hN2, K_ex hN2, worstOf_eq (w := w) (show 100 ≤ fu by omega) hN2 hr2 hA, hcs]
        rw [← e0, k1, bd2_some]
        have hstep : RS m3 q (stepB N T by_ b r) ∧ BR (stepB N T by_ b r) ∧ ((stepB N T by_ b r).1 = [] → (stepB N T by_ b r).2.1 = 1000000) := by
          unfold stepB
          have key : (b.1 = [] ∨ isBtr b reg (wst N r) (cst N r 0) r.length) ↔ (b.1 = [] ∨ isBtr b (rgK N T by_ r) (wst N r) (cst N r 0) r.length) := by
            rcases g3 with g3 | ⟨g3, g4, g5⟩
            · rw [g3]
            · refine or_congr Iff.rfl ?_
              unfold isBtr
              rw [if_neg (by omega), if_neg (by omega)]
              constructor <;> intro h <;> omega
          by_cases cc : b.1 = [] ∨ isBtr b (rgK N T by_ r) (wst N r) (cst N r 0) r.length
          · have cc' := cc
            unfold isBtr at cc'
            rw [if_pos cc']
            have k5' := k5 (key.mpr cc)
            have ereg : reg = rgK N T by_ r := by
              rcases g3 with g3 | ⟨g3, g4, g5⟩
              · exact g3
              · rcases cc with cc | cc
                · exact absurd cc g5
                · unfold isBtr at cc
                  rw [if_neg (by omega)] at cc
                  omega
            rw [← ereg]
            exact ⟨k5', ⟨by show -1 ≤ reg; omega, by show reg ≤ 1000000; omega, by show 0 ≤ wst N r; omega, by show wst N r ≤ 1000000; omega, by show 0 ≤ cst N r 0; omega, by show cst N r 0 ≤ 1000000; omega⟩, fun h => absurd h p6⟩
          · have cc' := cc
            unfold isBtr at cc'
            rw [if_neg cc']
            exact ⟨k6 (fun h => cc (key.mp h)), hB, hnil⟩
        have hWS3 : WS m3 N L' k' := p7.cong (by rw [k3, hs2 256 (by decide) (by decide)]) (by rw [k4, hs2 257 (by decide) (by decide)])
        obtain ⟨m4, q1, q2, q3⟩ := ih k' p0 n m3 L' (stepB N T by_ b r) (i + 1) (k2.net hb hN2) hWS3 (by omega) hstep.1 hstep.2.1 hstep.2.2 (by omega) (by omega) (by omega)
        exact ⟨m4, q1, ((sameR_W p2).trans (sameR_J hs2)).trans (k2.trans q2), q3⟩
      simp (disch := omega) only [Option.bind_some, bd2_some, bdX_ok, bdX_er, nm_eq, n_0, n_1, n_2, n_3, n_4, n_5, n_6, n_7, n_8, n_9, n_10, n_11, n_12, n_14, n_15, n_16, n_17, n_18, n_19, n_20, n_21, n_24, n_27, n_28, n_32, n_43, n_45, n_48, n_56, n_57, n_59, n_64, n_70, n_97, n_99, n_100, n_104, n_118, n_122, n_126, n_127, n_128, n_129, n_130, n_150, n_255, n_600, n_1000, n_1050, n_1200, n_999999, n_1000000, iI_neg, iI_add, iI_sub, iI_mul, ile, ilt, ieq, G6_1, H7, p1]
      rw [if_neg (by omega), if_neg (by first | exact not_false | omega)]
      rcases hby with rfl | rfl
      · rw [if_pos (by first | exact trivial | omega)]
        exact rest m1 0 sameJ.rf (by omega) (by omega) (Or.inl rfl)
      · rw [if_neg (by first | exact not_false | omega)]
        obtain ⟨m2, g, W, j1, j2, j3, j4, j5, j6, j7⟩ := greatest_eq (w := w) (T := T) (told := 0) (show 1000 ≤ fu by omega) hN1 p3 (by decide) (pOK_PK hN.2.2 p4) (Or.inl rfl) hTK (lim := b.2.1) (by have := hB; unfold BR at this; omega)
        simp (disch := omega) only [Option.bind_some, bd2_some, bdX_ok, bdX_er, nm_eq, n_0, n_1, n_2, n_3, n_4, n_5, n_6, n_7, n_8, n_9, n_10, n_11, n_12, n_14, n_15, n_16, n_17, n_18, n_19, n_20, n_21, n_24, n_27, n_28, n_32, n_43, n_45, n_48, n_56, n_57, n_59, n_64, n_70, n_97, n_99, n_100, n_104, n_118, n_122, n_126, n_127, n_128, n_129, n_130, n_150, n_255, n_600, n_1000, n_1050, n_1200, n_999999, n_1000000, iI_neg, iI_add, iI_sub, iI_mul, ile, ilt, ieq, G6_1, G6_2, G6_7, G7_1, H3, hR1.2.1, j1, G3_3, j3.1]
        refine rest m2 g j2 j4 j5 ?_
        rcases j7 with ⟨j7, -⟩ | ⟨j7, j8⟩
        · exact Or.inl j7
        · refine Or.inr ⟨j7, by show b.2.1 < (rgF N T 0 r).1; omega, fun h => ?_⟩
          have := hnil h
          omega
theorem findBest_eq (hfu : 200000 ≤ fu) (hb : BP q) (hTK : TOK N T) {by_ : Int} (hby : by_ = 0 ∨ by_ = 1) (hN : isNet m 2 N) : ∃ m', f_X6_findBest fu 260 q (iI by_) (mem w m) = some ((), mem w m') ∧ sameR q m m' ∧ isPth m' q (bestR N T by_).1 := by
  have hP := hb.isP
  have hq260 : q ≠ 260 ∧ q + 1 ≠ 260 ∧ q ≠ 256 ∧ q ≠ 257 ∧ q + 1 ≠ 256 ∧ q + 1 ≠ 257 := by rcases hb with rfl | rfl <;> omega
  have hs : sameR q m (up (up (up (up m q 1 0) 260 7 1000000) 260 8 1000000) 260 9 1000000) := ((sameR_q hq260.1).trans (sameR_f (by omega))).trans ((sameR_f (by omega)).trans (sameR_f (by omega)))
  have hN1 := hs.net hb hN
  obtain ⟨m1, p1, p2, p3⟩ := wbegin_eq (w := w) (fu := fu) (m := up (up (up (up m q 1 0) 260 7 1000000) 260 8 1000000) 260 9 1000000) hN.2.2
  have hl := p3.len
  have hR : RS m1 q ([], 1000000, 1000000, 1000000) := by
    refine ⟨(clear_is (m := m) hP).cong ?_ ?_, ?_, ?_, ?_⟩
    · rw [p2 q hq260.2.2.1 hq260.2.2.2.1, up_ne hq260.1, up_ne hq260.1, up_ne hq260.1]
    · rw [p2 (q + 1) hq260.2.2.2.2.1 hq260.2.2.2.2.2, up_ne hq260.2.1, up_ne hq260.2.1, up_ne hq260.2.1]
    · rw [p2 260 (by decide) (by decide), up_off (by omega), up_off (by omega), up_at]
    · rw [p2 260 (by decide) (by decide), up_off (by omega), up_at]
    · rw [p2 260 (by decide) (by decide), up_at]
  obtain ⟨m2, q1, q2, q3⟩ := findBest_go (w := w) hfu hb hTK hby 131072 fu m1 (routesOf N) ([], 1000000, 1000000, 1000000) 0 (p2.net hN1) p3 (by omega) hR (by unfold BR; decide) (fun _ => rfl) (by omega) (by omega) (by omega)
  unfold f_X6_findBest
  simp (disch := omega) only [Option.bind_some, bd2_some, bdX_ok, bdX_er, nm_eq, n_0, n_1, n_2, n_3, n_4, n_5, n_6, n_7, n_8, n_9, n_10, n_11, n_12, n_14, n_15, n_16, n_17, n_18, n_19, n_20, n_21, n_24, n_27, n_28, n_32, n_43, n_45, n_48, n_56, n_57, n_59, n_64, n_70, n_97, n_99, n_100, n_104, n_118, n_122, n_126, n_127, n_128, n_129, n_130, n_150, n_255, n_600, n_1000, n_1050, n_1200, n_999999, n_1000000, iI_neg, iI_add, iI_sub, iI_mul, ile, ilt, ieq, P_has hP, clear_eq hP, U6_7, U6_8, U6_9, G6_1, H7, p1]
  exact ⟨m2, q1, (hs.trans (sameR_W p2)).trans q2, q3.1⟩
end RK
