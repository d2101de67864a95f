def lfC (N : Nt) (T : List (List Int)) (told : Int) (D : Int32) : Int := if told = 0 then spC N D else lstT N D T 1000000
def dlt (N : Nt) (l : List Int) (T : List (List Int)) (told : Int) (d : Nat) : Int := cst N l (iI (d : Int)) - lfC N T told (iI (d : Int))
def JS (m : Mm) (g : Int) (W : Nat) : Prop := m 258 3 = g ∧ m 258 4 = (W : Int)
/-- the delays that an opponent may choose for a path -/
def CD (N : Nt) (l : List Int) (d : Nat) : Prop := (∀ k, d.testBit k = true → ∃ a ∈ l, a.toNat = k) ∧ (pcN 16 d : Int) ≤ nB N
theorem spC_r {N : Nt} (hW : WFN N) {D : Int32} : -1 ≤ spC N D ∧ spC N D ≤ 999999 := by
  have := sp_nn hW (D := D)
  unfold spC; split <;> omega
theorem lfC_r {N : Nt} (hW : WFN N) {T : List (List Int)} (hT : TOK N T) {told : Int} {D : Int32} : -1 ≤ lfC N T told D ∧ lfC N T told D ≤ 1000000 := by
  unfold lfC
  split
  · have := spC_r hW (D := D); omega
  · have := lstT_r hW (D := D) T 1000000 hT (by omega); omega
theorem CD_lt {N : Nt} {l : List Int} {d : Nat} (hl : okL l) (h : CD N l d) : d < 65536 := by
  refine Nat.lt_pow_two_of_testBit (n := 16) d (fun j hj => ?_)
  cases hb : d.testBit j with
  | false => rfl
  | true =>
    obtain ⟨a, ha, e⟩ := h.1 j hb
    have := hl a ha
    omega
section FG
variable {w : Wl} {N : Nt} {fu : Nat} {T : List (List Int)} {q : Nat} {l : List Int} {told : Int}
theorem keepGreater_eq {m m1 : Mm} {S : Nat → Prop} {g : Int} {W d : Nat} (hs : sameJ m m1) (hJ1 : JS m1 g W) (hB : isBest S (dlt N l T told) g W) (hg : g ≤ 2000) (hW : W < 65536) (hd : d < 65536) (hr : -1000000 ≤ dlt N l T told d ∧ dlt N l T told d ≤ 1387) :
    ∃ m' g' W', f_X3_keepGreater fu 258 (iI (dlt N l T told d)) (iI (d : Int)) (mem w m1) = some ((), mem w m') ∧ sameJ m m' ∧ JS m' g' W' ∧ isBest (fun x => S x ∨ x = d) (dlt N l T told) g' W' ∧ g' ≤ 2000 ∧ W' < 65536 := by
  obtain ⟨u1, u2, u3⟩ := isBest_up (d := d) hB
  have h1 := hB.1
  have h27 : f_X3_keepGreater_27 fu 258 (iI (dlt N l T told d)) (iI (d : Int)) (mem w m1) = some ((), mem w (up (up m1 258 3 (dlt N l T told d)) 258 4 (d : Int))) := by
    unfold f_X3_keepGreater_27
    simp (disch := omega) only [Option.bind_some, bd2_some, bdX_ok, bdX_er, nm_eq, n_0, n_1, n_2, n_3, n_4, n_5, n_6, n_7, n_8, n_9, n_10, n_11, n_12, n_14, n_15, n_16, n_17, n_18, n_19, n_20, n_21, n_24, n_27, n_28, n_32, n_43, n_45, n_48, n_56, n_57, n_59, n_64, n_70, n_97, n_99, n_100, n_104, n_118, n_122, n_126, n_127, n_128, n_129, n_130, n_150, n_255, n_600, n_1000, n_1050, n_1200, n_999999, n_1000000, iI_neg, iI_add, iI_sub, iI_mul, ile, ilt, ieq, U3_3, U3_4]
  have hs2 : sameJ m (up (up m1 258 3 (dlt N l T told d)) 258 4 (d : Int)) := (hs.trans (sameJ_up (Or.inl rfl))).trans (sameJ_up (Or.inl rfl))
  have hJ2 : JS (up (up m1 258 3 (dlt N l T told d)) 258 4 (d : Int)) (dlt N l T told d) d := ⟨by rw [up_off (by omega), up_at], up_at⟩
  unfold f_X3_keepGreater
  simp (disch := omega) only [Option.bind_some, bd2_some, bdX_ok, bdX_er, nm_eq, n_0, n_1, n_2, n_3, n_4, n_5, n_6, n_7, n_8, n_9, n_10, n_11, n_12, n_14, n_15, n_16, n_17, n_18, n_19, n_20, n_21, n_24, n_27, n_28, n_32, n_43, n_45, n_48, n_56, n_57, n_59, n_64, n_70, n_97, n_99, n_100, n_104, n_118, n_122, n_126, n_127, n_128, n_129, n_130, n_150, n_255, n_600, n_1000, n_1050, n_1200, n_999999, n_1000000, iI_neg, iI_add, iI_sub, iI_mul, ile, ilt, ieq, G3_3, G3_4, hJ1.1, hJ1.2, h27]
  by_cases c1 : g < dlt N l T told d
  · rw [if_pos c1]
    exact ⟨_, _, _, rfl, hs2, hJ2, u1 c1, by omega, hd⟩
  · rw [if_neg c1]
    by_cases c2 : dlt N l T told d = g
    · rw [if_pos c2]
      obtain ⟨f1, f2⟩ := isFirstOf_eq (fu := fu) (w := w) (m := m1) hd hW
      by_cases c3 : firstOf d W
      · rw [f1 c3]
        simp (disch := omega) only [Option.bind_some, bd2_some, bdX_ok, bdX_er, nm_eq, n_0, n_1, n_2, n_3, n_4, n_5, n_6, n_7, n_8, n_9, n_10, n_11, n_12, n_14, n_15, n_16, n_17, n_18, n_19, n_20, n_21, n_24, n_27, n_28, n_32, n_43, n_45, n_48, n_56, n_57, n_59, n_64, n_70, n_97, n_99, n_100, n_104, n_118, n_122, n_126, n_127, n_128, n_129, n_130, n_150, n_255, n_600, n_1000, n_1050, n_1200, n_999999, n_1000000, iI_neg, iI_add, iI_sub, iI_mul, ile, ilt, ieq, h27]
        rw [if_neg (by first | exact not_false | omega | decide)]
        exact ⟨_, g, d, rfl, hs2, ⟨hJ2.1.trans c2, hJ2.2⟩, u2 c2 c3, hg, hd⟩
      · rw [f2 c3]
        simp (disch := omega) only [Option.bind_some, bd2_some, bdX_ok, bdX_er, nm_eq, n_0, n_1, n_2, n_3, n_4, n_5, n_6, n_7, n_8, n_9, n_10, n_11, n_12, n_14, n_15, n_16, n_17, n_18, n_19, n_20, n_21, n_24, n_27, n_28, n_32, n_43, n_45, n_48, n_56, n_57, n_59, n_64, n_70, n_97, n_99, n_100, n_104, n_118, n_122, n_126, n_127, n_128, n_129, n_130, n_150, n_255, n_600, n_1000, n_1050, n_1200, n_999999, n_1000000, iI_neg, iI_add, iI_sub, iI_mul, ile, ilt, ieq]
        rw [if_pos (by first | exact trivial | omega | decide)]
        exact ⟨m1, g, W, rfl, hs, hJ1, u3 c1 (fun _ => c3), hg, hW⟩
    · rw [if_neg c2]
      exact ⟨m1, g, W, rfl, hs, hJ1, u3 c1 (fun h => absurd h c2), hg, hW⟩
theorem try_eq (hfu : 1000 ≤ fu) {m m1 : Mm} (hN : isNet m 2 N) (hq : isPth m q l) (hq8 : q ≠ 258 ∧ q ≠ 259 ∧ q ≠ 257) (hl : AOK N l) (hTK : TOK N T) {S : Nat → Prop} {g : Int} {W d : Nat} (hs : sameJ m m1) (hJ1 : JS m1 g W) (hB : isBest S (dlt N l T told) g W) (hg : g ≤ 2000) (hW : W < 65536) (hd : d < 65536) :
    ∃ m' g' W', (∀ (a3 a4 : Int32) (k : Nat → Nat → Int32 → Int32 → Int32 → List Ob → Option (Unit × List Ob)), f_X3_findGreatest_75 fu 258 q (iI told) a3 a4 (iI (d : Int)) (iI (lfC N T told (iI (d : Int)))) (mem w m1) k = f_X3_findGreatest_96 fu 258 q (iI told) a3 a4 (mem w m') k) ∧ sameJ m m' ∧ JS m' g' W' ∧ isBest (fun x => S x ∨ x = d) (dlt N l T told) g' W' ∧ g' ≤ 2000 ∧ W' < 65536 := by
  have hlf := lfC_r hN.2.2 hTK (told := told) (D := iI (d : Int))
  have hc := AOK_len hN.2.2 (D := iI (d : Int)) hq hl
  have hN1 := hs.net hN
  have hq1 := hs.pth hq8.1 hq8.2.1 hq8.2.2 hq
  have ed : dlt N l T told d = cst N l (iI (d : Int)) - lfC N T told (iI (d : Int)) := rfl
  obtain ⟨m', g', W', k1, k2⟩ := keepGreater_eq (fu := fu) (w := w) hs hJ1 hB hg hW hd ⟨by omega, by omega⟩
  refine ⟨m', g', W', fun a3 a4 k => ?_, k2⟩
  rw [ed] at k1
  unfold f_X3_findGreatest_75
  simp (disch := omega) only [Option.bind_some, bd2_some, bdX_ok, bdX_er, nm_eq, n_0, n_1, n_2, n_3, n_4, n_5, n_6, n_7, n_8, n_9, n_10, n_11, n_12, n_14, n_15, n_16, n_17, n_18, n_19, n_20, n_21, n_24, n_27, n_28, n_32, n_43, n_45, n_48, n_56, n_57, n_59, n_64, n_70, n_97, n_99, n_100, n_104, n_118, n_122, n_126, n_127, n_128, n_129, n_130, n_150, n_255, n_600, n_1000, n_1050, n_1200, n_999999, n_1000000, iI_neg, iI_add, iI_sub, iI_mul, ile, ilt, ieq, G3_1, H3, K_has hN1, K_0 hN1, K_1 hN1, K_2 hN1, K_3 hN1, K_4 hN1, K_5 hN1, K_6 hN1, K_7 hN1, K_8 hN1, K_tl hN1, K_hd hN1, K_co hN1, K_ex hN1, costAgainst_eq (w := w) (show 100 ≤ fu by omega) hN1 hq1 hl, k1]
theorem isTolds.cong {m m' : Mm} (h : isTolds m 1 T) (hs : sameJ m m') : isTolds m' 1 T := by
  have h6 := h.2.2.1
  refine ⟨h.1, by rw [hs _ (by decide) (by decide)]; exact h.2.1, h6, fun i x hi => ?_⟩
  have := (List.getElem?_eq_some_iff.mp hi).1
  exact hs.pth (by omega) (by omega) (by omega) (h.2.2.2 i x hi)
def Sj (N : Nt) (l : List Int) (j d : Nat) : Prop := ∃ P, j ≤ P ∧ P < 2 ^ l.length ∧ (pcN 16 P : Int) ≤ nB N ∧ dl P l = d
theorem findGreatest_go (hfu : 1000 ≤ fu) (hq8 : q ≠ 258 ∧ q ≠ 259 ∧ q ≠ 257) (hl : AOK N l) (hTK : TOK N T) {lim : Int} (hlim : -1 ≤ lim ∧ lim ≤ 1000000) : ∀ (j n : Nat) (m : Mm) (g : Int) (W : Nat), isNet m 2 N → isPth m q l → (told = 0 ∨ (told = 1 ∧ isTolds m 1 T)) → JS m g W → isBest (Sj N l j) (dlt N l T told) g W → g ≤ 2000 → W < 65536 → j ≤ 2 ^ l.length → j < n →
    ∃ m' g' W', f_X3_findGreatest_20 fu n 258 q (iI told) (iI lim) (iI ((j : Int) - 1)) (mem w m) = some ((), mem w m') ∧ sameJ m m' ∧ JS m' g' W' ∧ g' ≤ 2000 ∧ W' < 65536 ∧ (isBest (Sj N l 0) (dlt N l T told) g' W' ∨ (lim < g' ∧ ∃ d, Sj N l 0 d ∧ dlt N l T told d = g')) := by
  intro j
  induction j with
  | zero =>
    intro n m g W hN hq hto hJ hB hg hW hj hn
    obtain ⟨n, rfl⟩ : ∃ k, n = k + 1 := ⟨n - 1, by omega⟩
    rw [f_X3_findGreatest_20, f_X3_findGreatest_20b]
    simp (disch := omega) only [Option.bind_some, bd2_some, bdX_ok, bdX_er, nm_eq, n_0, n_1, n_2, n_3, n_4, n_5, n_6, n_7, n_8, n_9, n_10, n_11, n_12, n_14, n_15, n_16, n_17, n_18, n_19, n_20, n_21, n_24, n_27, n_28, n_32, n_43, n_45, n_48, n_56, n_57, n_59, n_64, n_70, n_97, n_99, n_100, n_104, n_118, n_122, n_126, n_127, n_128, n_129, n_130, n_150, n_255, n_600, n_1000, n_1050, n_1200, n_999999, n_1000000, iI_neg, iI_add, iI_sub, iI_mul, ile, ilt, ieq]
    rw [if_pos (by omega)]
    exact ⟨m, g, W, rfl, sameJ.rf, hJ, hg, hW, Or.inl hB⟩
  | succ j ih =>
    intro n m g W hN hq hto hJ hB hg hW hj hn
    have hWF := hN.2.2.1
    have h7 := hq.2.2.2
    have hp7 : 2 ^ l.length ≤ 2 ^ 7 := Nat.pow_le_pow_right (by omega) h7
    have hj' : j < 2 ^ l.length := by omega
    have hj2 : j < 65536 := by omega
    have hokL : okL l := fun a ha => by have := hl a ha; omega
    have h1 := hB.1
    obtain ⟨n, rfl⟩ : ∃ k, n = k + 1 := ⟨n - 1, by omega⟩
    rw [f_X3_findGreatest_20, f_X3_findGreatest_20b]
    rw [show ((j + 1 : Nat) : Int) - 1 = (j : Int) by omega]
    have hpc := bitCount_eq (fu := fu) (w := w) (m := m) hj2
    have hpb : ∀ k n : Nat, pcN k n ≤ k := fun k => by
      induction k with
      | zero => intro n; exact Nat.le_refl _
      | succ k ih => intro n; rw [pcN_succ]; have := ih (n / 2); omega
    have hpj := hpb 16 j
    simp (disch := omega) only [Option.bind_some, bd2_some, bdX_ok, bdX_er, nm_eq, n_0, n_1, n_2, n_3, n_4, n_5, n_6, n_7, n_8, n_9, n_10, n_11, n_12, n_14, n_15, n_16, n_17, n_18, n_19, n_20, n_21, n_24, n_27, n_28, n_32, n_43, n_45, n_48, n_56, n_57, n_59, n_64, n_70, n_97, n_99, n_100, n_104, n_118, n_122, n_126, n_127, n_128, n_129, n_130, n_150, n_255, n_600, n_1000, n_1050, n_1200, n_999999, n_1000000, iI_neg, iI_add, iI_sub, iI_mul, ile, ilt, ieq, G3_1, G3_3, H3, K_has hN, K_0 hN, K_1 hN, K_2 hN, K_3 hN, K_4 hN, K_5 hN, K_6 hN, K_7 hN, K_8 hN, K_tl hN, K_hd hN, K_co hN, K_ex hN, Q_len hq, Q_arr hq, Q_has hq, hJ.1, hpc, n_m1]
    rw [if_neg (by omega)]
    by_cases c1 : lim < g
    · rw [if_pos c1]
      refine ⟨m, g, W, rfl, sameJ.rf, hJ, hg, hW, Or.inr ⟨c1, W, ?_⟩⟩
      rcases hB.2.1 with ⟨e, -⟩ | ⟨⟨P, e1, e2, e3, e4⟩, e5, -⟩
      · omega
      · exact ⟨⟨P, by omega, e2, e3, e4⟩, e5⟩
    · rw [if_neg c1]
      by_cases c2 : nB N < (pcN 16 j : Int)
      · rw [if_pos c2]
        unfold f_X3_findGreatest_96
        have hB' : isBest (Sj N l j) (dlt N l T told) g W := isBest_cong hB (fun x => ⟨fun ⟨P, e1, e2, e3, e4⟩ => ⟨P, by omega, e2, e3, e4⟩, fun ⟨P, e1, e2, e3, e4⟩ => ⟨P, by
          rcases Nat.lt_or_ge j P with z | z
          · omega
          · have : P = j := by omega
            subst this; omega, e2, e3, e4⟩⟩)
        have := ih n m g W hN hq hto hJ hB' hg hW (by omega) (by omega)
        try simp (disch := omega) only [Option.bind_some, bd2_some, bdX_ok, bdX_er, nm_eq, n_0, n_1, n_2, n_3, n_4, n_5, n_6, n_7, n_8, n_9, n_10, n_11, n_12, n_14, n_15, n_16, n_17, n_18, n_19, n_20, n_21, n_24, n_27, n_28, n_32, n_43, n_45, n_48, n_56, n_57, n_59, n_64, n_70, n_97, n_99, n_100, n_104, n_118, n_122, n_126, n_127, n_128, n_129, n_130, n_150, n_255, n_600, n_1000, n_1050, n_1200, n_999999, n_1000000, iI_neg, iI_add, iI_sub, iI_mul, ile, ilt, ieq, n_m1]
        rw [show (j : Int) + -1 = (j : Int) - 1 by omega]
        exact this
      · rw [if_neg c2]
        have hdl := delayAt_eq (w := w) (fu := fu) (P := iI (j : Int)) (by omega) hq
        have e0 := dlyF_eq hj2 l 0 0 hokL (by omega) (by omega)
        rw [Nat.zero_or, Nat.shiftRight_zero, show ((0 : Nat) : Int) = 0 from rfl] at e0
        rw [show (0 : Int32) = iI 0 from rfl, e0] at hdl
        rw [hdl, bd2_some]
        have fin : ∀ m0 : Mm, sameJ m m0 → JS m0 g W → ∃ m' g' W', f_X3_findGreatest_75 fu 258 q (iI told) (iI lim) (iI (j : Int)) (iI ((dl j l : Nat) : Int)) (iI (lfC N T told (iI ((dl j l : Nat) : Int)))) (mem w m0) (fun x1 x2 x3 x4 x5 M => f_X3_findGreatest_20 fu n x1 x2 x3 x4 x5 M) = some ((), mem w m') ∧ sameJ m m' ∧ JS m' g' W' ∧ g' ≤ 2000 ∧ W' < 65536 ∧ (isBest (Sj N l 0) (dlt N l T told) g' W' ∨ (lim < g' ∧ ∃ d, Sj N l 0 d ∧ dlt N l T told d = g')) := by
          intro m0 hs0 hJ0
          obtain ⟨m1, g1, W1, p1, p2, p3, p4, p5, p6⟩ := try_eq (w := w) hfu hN hq hq8 hl hTK hs0 hJ0 hB hg hW (dl_lt l j hokL)
          rw [p1]
          unfold f_X3_findGreatest_96
          have hB' : isBest (Sj N l j) (dlt N l T told) g1 W1 := isBest_cong p4 (fun x => ⟨fun h => by
            rcases h with ⟨P, e1, e2, e3, e4⟩ | rfl
            · exact ⟨P, by omega, e2, e3, e4⟩
            · exact ⟨j, Nat.le_refl _, hj', by omega, rfl⟩, fun ⟨P, e1, e2, e3, e4⟩ => by
            by_cases z : P = j
            · subst z; exact Or.inr e4.symm
            · exact Or.inl ⟨P, by omega, e2, e3, e4⟩⟩)
          have hto' : told = 0 ∨ (told = 1 ∧ isTolds m1 1 T) := hto.imp id (fun h => ⟨h.1, h.2.cong p2⟩)
          obtain ⟨m2, g2, W2, r1, r2, r3, r4, r5, r6⟩ := ih n m1 g1 W1 (p2.net hN) (p2.pth hq8.1 hq8.2.1 hq8.2.2 hq) hto' p3 hB' p5 p6 (by omega) (by omega)
          try simp (disch := omega) only [Option.bind_some, bd2_some, bdX_ok, bdX_er, nm_eq, n_0, n_1, n_2, n_3, n_4, n_5, n_6, n_7, n_8, n_9, n_10, n_11, n_12, n_14, n_15, n_16, n_17, n_18, n_19, n_20, n_21, n_24, n_27, n_28, n_32, n_43, n_45, n_48, n_56, n_57, n_59, n_64, n_70, n_97, n_99, n_100, n_104, n_118, n_122, n_126, n_127, n_128, n_129, n_130, n_150, n_255, n_600, n_1000, n_1050, n_1200, n_999999, n_1000000, iI_neg, iI_add, iI_sub, iI_mul, ile, ilt, ieq, n_m1]
          rw [show (j : Int) + -1 = (j : Int) - 1 by omega]
          exact ⟨m2, g2, W2, r1, p2.trans r2, r3, r4, r5, r6⟩
        rcases hto with rfl | ⟨rfl, hT⟩
        · simp (disch := omega) only [Option.bind_some, bd2_some, bdX_ok, bdX_er, nm_eq, n_0, n_1, n_2, n_3, n_4, n_5, n_6, n_7, n_8, n_9, n_10, n_11, n_12, n_14, n_15, n_16, n_17, n_18, n_19, n_20, n_21, n_24, n_27, n_28, n_32, n_43, n_45, n_48, n_56, n_57, n_59, n_64, n_70, n_97, n_99, n_100, n_104, n_118, n_122, n_126, n_127, n_128, n_129, n_130, n_150, n_255, n_600, n_1000, n_1050, n_1200, n_999999, n_1000000, iI_neg, iI_add, iI_sub, iI_mul, ile, ilt, ieq, H3]
          rw [if_pos (by first | exact trivial | omega | decide)]
          obtain ⟨m1, p1, p2⟩ := shortestCost_eq (w := w) (D := iI ((dl j l : Nat) : Int)) hfu hN
          rw [p1, bd2_some]
          exact fin m1 (sameJ_P p2) ⟨by rw [p2 258 (by decide)]; exact hJ.1, by rw [p2 258 (by decide)]; exact hJ.2⟩
        · simp (disch := omega) only [Option.bind_some, bd2_some, bdX_ok, bdX_er, nm_eq, n_0, n_1, n_2, n_3, n_4, n_5, n_6, n_7, n_8, n_9, n_10, n_11, n_12, n_14, n_15, n_16, n_17, n_18, n_19, n_20, n_21, n_24, n_27, n_28, n_32, n_43, n_45, n_48, n_56, n_57, n_59, n_64, n_70, n_97, n_99, n_100, n_104, n_118, n_122, n_126, n_127, n_128, n_129, n_130, n_150, n_255, n_600, n_1000, n_1050, n_1200, n_999999, n_1000000, iI_neg, iI_add, iI_sub, iI_mul, ile, ilt, ieq, H3]
          rw [if_neg (by first | exact not_false | omega | decide), leastTold_eq (by omega) hN hT hTK, bd2_some]
          exact fin m sameJ.rf hJ
theorem Sj_CD (hl : okL l) (hd : l.Nodup) (h7 : l.length ≤ 7) (d : Nat) : Sj N l 0 d ↔ CD N l d := by
  constructor
  · rintro ⟨P, -, e2, e3, rfl⟩
    refine ⟨fun k hk => dl_mem l P k hk, ?_⟩
    rw [dl_pc l P 16 hl hd e2 (by omega)]
    exact e3
  · intro h
    obtain ⟨P, p1, p2⟩ := dl_onto l d hl hd h.1
    refine ⟨P, by omega, p1, ?_, p2⟩
    rw [← dl_pc l P 16 hl hd p1 (by omega), p2]
    exact h.2
theorem findGreatest_eq (hfu : 1000 ≤ fu) {m : Mm} (hN : isNet m 2 N) (hq : isPth m q l) (hq8 : q ≠ 258 ∧ q ≠ 259 ∧ q ≠ 257) (hl : AOK N l) (hnd : l.Nodup) (hto : told = 0 ∨ (told = 1 ∧ isTolds m 1 T)) (hTK : TOK N T) {lim : Int} (hlim : -1 ≤ lim ∧ lim ≤ 1000000) :
    ∃ m' g W, f_X3_findGreatest fu 258 q (iI told) (iI lim) (mem w m) = some ((), mem w m') ∧ sameJ m m' ∧ JS m' g W ∧ g ≤ 2000 ∧ W < 65536 ∧ (isBest (CD N l) (dlt N l T told) g W ∨ (lim < g ∧ ∃ d, CD N l d ∧ dlt N l T told d = g)) := by
  have h7 := hq.2.2.2
  have hWF := hN.2.2.1
  have hokL : okL l := fun a ha => by have := hl a ha; omega
  unfold f_X3_findGreatest
  have hs : sameJ m (up (up m 258 3 (-1)) 258 4 0) := (sameJ_up (Or.inl rfl)).trans (sameJ_up (Or.inl rfl))
  have hN1 := hs.net hN
  have hq1 := hs.pth hq8.1 hq8.2.1 hq8.2.2 hq
  simp (disch := omega) only [Option.bind_some, bd2_some, bdX_ok, bdX_er, nm_eq, n_0, n_1, n_2, n_3, n_4, n_5, n_6, n_7, n_8, n_9, n_10, n_11, n_12, n_14, n_15, n_16, n_17, n_18, n_19, n_20, n_21, n_24, n_27, n_28, n_32, n_43, n_45, n_48, n_56, n_57, n_59, n_64, n_70, n_97, n_99, n_100, n_104, n_118, n_122, n_126, n_127, n_128, n_129, n_130, n_150, n_255, n_600, n_1000, n_1050, n_1200, n_999999, n_1000000, iI_neg, iI_add, iI_sub, iI_mul, ile, ilt, ieq, U3_3, U3_4, n_m1, Q_len hq1, Q_arr hq1, Q_has hq1]
  have esh : (iI 1 <<< (iI (l.length : Int) &&& iI 31)) - iI 1 = iI (((2 ^ l.length : Nat) : Int) - 1) := by
    have h : ∀ k : Nat, k < 8 → (iI 1 <<< (iI (k : Int) &&& iI 31)) - iI 1 = iI (((2 ^ k : Nat) : Int) - 1) := by decide +kernel
    exact h l.length (by omega)
  have esh' : (iI 1 <<< (iI (l.length : Int) &&& 31)) - iI 1 = iI (((2 ^ l.length : Nat) : Int) - 1) := esh
  rw [esh']
  have hto' : told = 0 ∨ (told = 1 ∧ isTolds (up (up m 258 3 (-1)) 258 4 0) 1 T) := hto.imp id (fun h => ⟨h.1, h.2.cong hs⟩)
  have hp7 : 2 ^ l.length ≤ 2 ^ 7 := Nat.pow_le_pow_right (by omega) h7
  obtain ⟨m2, g2, W2, r1, r2, r3, r4, r5, r6⟩ := findGreatest_go (w := w) (told := told) hfu hq8 hl hTK hlim (2 ^ l.length) fu _ (-1) 0 hN1 hq1 hto' ⟨by rw [up_off (by omega), up_at], up_at⟩ (isBest_cong isBest_zero (fun x => ⟨fun h => h.elim, fun ⟨P, e1, e2, _⟩ => by omega⟩)) (by omega) (by omega) (Nat.le_refl _) (by omega)
  refine ⟨m2, g2, W2, r1, hs.trans r2, r3, r4, r5, ?_⟩
  rcases r6 with r6 | ⟨r6, d, r7, r8⟩
  · exact Or.inl (isBest_cong r6 (Sj_CD hokL hnd h7))
  · exact Or.inr ⟨r6, d, (Sj_CD hokL hnd h7 d).mp r7, r8⟩
end FG
