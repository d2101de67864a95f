/-- told routes and all routes are such -/
def RT (N : Nt) (l : List Int) : Prop := pOK N l ∧ endOf N l = nT N
theorem RT.pk {N : Nt} (hW : WFN N) {l : List Int} (h : RT N l) : PK N l := pOK_PK hW h.1
theorem RT.len {N : Nt} (hW : WFN N) {l : List Int} (h : RT N l) : l.length ≤ 7 := pOK_len hW h.1
theorem RT.cst {N : Nt} (hW : WFN N) {l : List Int} (h : RT N l) {D : Int32} : 0 ≤ cst N l D ∧ cst N l D ≤ 1386 := by
  have h1 := cst_nn (D := D) hW (pOK_AOK h.1)
  have h2 := h.len hW
  omega
theorem RT.sp {N : Nt} (hW : WFN N) {l : List Int} (h : RT N l) {D : Int32} : 0 ≤ sp N D ∧ sp N D ≤ 1386 ∧ spC N D = sp N D := by
  have h1 := sp_route hW (D := D) h.1 h.2
  have h2 := h.cst hW (D := D)
  have h3 := sp_nn hW (D := D)
  refine ⟨h3.1, by omega, ?_⟩
  unfold spC
  rw [if_neg (by omega)]
theorem lstT_start {N : Nt} (hW : WFN N) {D : Int32} {T : List (List Int)} (hT : ∀ y ∈ T, RT N y) (hne : T ≠ []) {s s' : Int} (h1 : 1386 < s) (h2 : 1386 < s') : lstT N D T s = lstT N D T s' := by
  cases T with
  | nil => exact absurd rfl hne
  | cons y T =>
    have := (hT y List.mem_cons_self).cst hW (D := D)
    rw [lstT, lstT, if_pos (by omega), if_pos (by omega)]
theorem lstT_le {N : Nt} (hW : WFN N) {D : Int32} : ∀ (T : List (List Int)) (s : Int) (y : List Int), (∀ l ∈ T, AOK N l) → 0 ≤ s → y ∈ T → lstT N D T s ≤ cst N y D := by
  intro T
  induction T with
  | nil => intro s y _ _ h; cases h
  | cons l T ih =>
    intro s y hT hs hy
    have hc := cst_nn (D := D) hW (hT l List.mem_cons_self)
    rw [lstT]
    rcases List.mem_cons.mp hy with rfl | hy
    · have := (lstT_r hW (D := D) T (if cst N y D < s then cst N y D else s) (fun x hx => hT x (List.mem_cons_of_mem _ hx)) (by split <;> omega)).2
      have : (if cst N y D < s then cst N y D else s) ≤ cst N y D := by split <;> omega
      omega
    · exact ih _ y (fun x hx => hT x (List.mem_cons_of_mem _ hx)) (by split <;> omega) hy
def lfR (N : Nt) (T : List (List Int)) (told : Int) (D : Int32) : Int := if told = 0 then sp N D else lstT N D T 999999
/-- the regret of a route is at least 0 -/
theorem rgF_r {N : Nt} (hW : WFN N) {T : List (List Int)} (hT : ∀ y ∈ T, RT N y) {told : Int} {l : List Int} (hl : RT N l) (hto : told = 0 ∨ (told = 1 ∧ l ∈ T)) : 0 ≤ (rgF N T told l).1 ∧ (rgF N T told l).1 ≤ 1386 ∧ (rgF N T told l).2 < 65536 ∧ (∀ D, lfC N T told D = lfR N T told D) ∧ ∀ D, 0 ≤ lfR N T told D ∧ lfR N T told D ≤ 1386 := by
  have hpk := hl.pk hW
  have hok := PK_ok hW hpk
  have hlf : ∀ D, lfC N T told D = lfR N T told D ∧ 0 ≤ lfR N T told D ∧ lfR N T told D ≤ cst N l D := fun D => by
    unfold lfC lfR
    rcases hto with rfl | ⟨rfl, hm⟩
    · rw [if_pos rfl, if_pos rfl]
      have := hl.sp hW (D := D)
      exact ⟨this.2.2, this.1, sp_route hW hl.1 hl.2⟩
    · rw [if_neg (by decide), if_neg (by decide)]
      have hA : ∀ y ∈ T, AOK N y := fun y hy => pOK_AOK (hT y hy).1
      exact ⟨lstT_start hW hT (List.ne_nil_of_mem hm) (by omega) (by omega), (lstT_r hW T 999999 hA (by omega)).1, lstT_le hW T 999999 l hA (by omega) hm⟩
  have hb := rgF_best (N := N) (T := T) (told := told) hok hpk.2 (hl.len hW)
  have h0 : CD N l 0 := ⟨fun k hk => by simp at hk, by
    have z : pcN 16 0 = 0 := by decide
    have := hW.1
    omega⟩
  have hd : ∀ d, 0 ≤ dlt N l T told d ∧ dlt N l T told d ≤ 1386 := fun d => by
    have h1 := hlf (iI (d : Int))
    have h2 := hl.cst hW (D := iI (d : Int))
    unfold dlt
    omega
  obtain ⟨b1, b2, b3⟩ := hb
  have g0 : 0 ≤ (rgF N T told l).1 := by
    have := (hd 0).1
    rcases b3 0 h0 with z | ⟨z, -⟩ <;> omega
  refine ⟨g0, ?_, ?_, fun D => (hlf D).1, fun D => ?_⟩
  · rcases b2 with ⟨z, -⟩ | ⟨-, z, -⟩
    · omega
    · have := (hd (rgF N T told l).2).2; omega
  · rcases b2 with ⟨-, z⟩ | ⟨z, -⟩
    · omega
    · exact CD_lt hok z
  · have h1 := hlf D
    have h2 := hl.cst hW (D := D)
    omega
section RG
variable {w : Wl} {m m' : Mm} {z v k a : Int} {fu : Nat} {N : Nt} {D : Int32} {x x' : Sg} {H H' : List Sg} {l : List Int} {T : List (List Int)} {told : Int}
theorem leastR_go (hfu : 100 ≤ fu) (hN : rNet (m 284) N) (hT : rTolds (m 284) T) (hTR : ∀ y ∈ T, RT N y) : ∀ (suf pre : List (List Int)) (n : Nat) (s : Int), T = pre ++ suf → suf.length < n → 0 ≤ s → s ≤ 999999 → f_X11_leastTold_5 fu n 283 D (iI s) (iI (pre.length : Int)) (mem w m) = some (iI (lstT N D suf s), mem w m) := by
  have h6 := hT.2.1
  intro suf
  induction suf with
  | nil =>
    intro pre n s hs hn h0 h1
    have hlen : T.length = pre.length := by rw [hs]; simp
    obtain ⟨n, rfl⟩ : ∃ k, n = k + 1 := ⟨n - 1, by omega⟩
    rw [f_X11_leastTold_5, f_X11_leastTold_5b]
    simp (disch := omega) only [n_69, n_50, n_13, Option.bind_some, bd2_some, bdX_ok, bdX_er, nm_eq, n_0, n_1, n_2, n_3, n_4, n_5, n_6, n_7, n_8, n_9, n_10, n_11, n_12, n_14, n_15, n_16, n_17, n_18, n_19, n_20, n_21, n_24, n_27, n_28, n_32, n_43, n_45, n_48, n_56, n_57, n_59, n_64, n_70, n_97, n_99, n_100, n_104, n_118, n_122, n_126, n_127, n_128, n_129, n_130, n_150, n_255, n_600, n_1000, n_1050, n_1200, n_999999, n_1000000, iI_neg, iI_add, iI_sub, iI_mul, ile, ilt, ieq, Z_has, Z_0, Z_1, Z_2, Z_5, Z_15, Z_17, Z_18, Z_24, Z_25, Z_26, Z_3, Z_4, Z_6, Z_7, Z_8, Z_9, Z_10, Z_11, Z_12, Z_13, Z_14, Z_16, Z_19, Z_20, Z_21, Z_22, Z_23, Z_27, Y_3, Y_4, Y_6, Y_7, Y_8, Y_9, Y_10, Y_11, Y_12, Y_13, Y_14, Y_16, Y_19, Y_20, Y_21, Y_22, Y_23, Y_27, A_g, A_s, up_at, up_ne, up_off, hT.1]
    rw [if_pos (by omega)]
    rfl
  | cons y suf ih =>
    intro pre n s hs hn h0 h1
    have hlen : T.length = pre.length + (suf.length + 1) := by rw [hs]; simp
    have hy := hTR y (by rw [hs]; simp)
    have hq := hT.2.2 pre.length y (by rw [hs]; exact mid_at)
    have hc := hy.cst hN.1 (D := D)
    simp only [List.length_cons] at hn
    obtain ⟨n, rfl⟩ : ∃ k, n = k + 1 := ⟨n - 1, by omega⟩
    rw [f_X11_leastTold_5, f_X11_leastTold_5b]
    unfold f_X11_leastTold_44
    simp (disch := omega) only [n_69, n_50, n_13, Option.bind_some, bd2_some, bdX_ok, bdX_er, nm_eq, n_0, n_1, n_2, n_3, n_4, n_5, n_6, n_7, n_8, n_9, n_10, n_11, n_12, n_14, n_15, n_16, n_17, n_18, n_19, n_20, n_21, n_24, n_27, n_28, n_32, n_43, n_45, n_48, n_56, n_57, n_59, n_64, n_70, n_97, n_99, n_100, n_104, n_118, n_122, n_126, n_127, n_128, n_129, n_130, n_150, n_255, n_600, n_1000, n_1050, n_1200, n_999999, n_1000000, iI_neg, iI_add, iI_sub, iI_mul, ile, ilt, ieq, Z_has, Z_0, Z_1, Z_2, Z_5, Z_15, Z_17, Z_18, Z_24, Z_25, Z_26, Z_3, Z_4, Z_6, Z_7, Z_8, Z_9, Z_10, Z_11, Z_12, Z_13, Z_14, Z_16, Z_19, Z_20, Z_21, Z_22, Z_23, Z_27, Y_3, Y_4, Y_6, Y_7, Y_8, Y_9, Y_10, Y_11, Y_12, Y_13, Y_14, Y_16, Y_19, Y_20, Y_21, Y_22, Y_23, Y_27, A_g, A_s, up_at, up_ne, up_off, hT.1, toldArcs_eq (w := w) hfu (r := (pre.length : Int)) (by omega) hq, costOf_eq (w := w) (D := D) hfu hN (hy.pk hN.1)]
    rw [if_neg (by omega), lstT]
    have ih' := fun s h0 h1 => ih (pre ++ [y]) n s (by rw [hs]; simp) (by omega) h0 h1
    rw [show ((pre ++ [y]).length : Int) = (pre.length : Int) + 1 by simp] at ih'
    by_cases q : s ≤ cst N y D
    · rw [if_pos q, if_neg (by omega)]
      exact ih' s h0 h1
    · rw [if_neg q, if_pos (by omega)]
      exact ih' _ (by omega) (by omega)
theorem leastR_eq (hfu : 100 ≤ fu) (hN : rNet (m 284) N) (hT : rTolds (m 284) T) (hTR : ∀ y ∈ T, RT N y) : f_X11_leastTold fu 283 D (mem w m) = some (iI (lstT N D T 999999), mem w m) := by
  have h6 := hT.2.1
  unfold f_X11_leastTold
  simp (disch := omega) only [n_69, n_50, n_13, Option.bind_some, bd2_some, bdX_ok, bdX_er, nm_eq, n_0, n_1, n_2, n_3, n_4, n_5, n_6, n_7, n_8, n_9, n_10, n_11, n_12, n_14, n_15, n_16, n_17, n_18, n_19, n_20, n_21, n_24, n_27, n_28, n_32, n_43, n_45, n_48, n_56, n_57, n_59, n_64, n_70, n_97, n_99, n_100, n_104, n_118, n_122, n_126, n_127, n_128, n_129, n_130, n_150, n_255, n_600, n_1000, n_1050, n_1200, n_999999, n_1000000, iI_neg, iI_add, iI_sub, iI_mul, ile, ilt, ieq]
  exact leastR_go (w := w) hfu hN hT hTR T [] fu 999999 rfl (by omega) (by omega) (by omega)
def rdst (m : Mm) (N : Nt) (g : Int → Int) : Prop := ∀ v, 0 ≤ v → v < nN N → m 288 v = g v ∧ 0 ≤ g v ∧ g v ≤ 999999
theorem srt_init {k40 : Nat → Int32 → List Ob → Option (Int32 × List Ob)} : ∀ (d n : Nat) (m : Mm) (i : Int), rNet (m 284) N → nN N - i = d → 0 ≤ i → d < n → (∀ v, 0 ≤ v → v < i → m 288 v = (if v = nS N then 0 else 999999)) → ∃ m', f_X11_shortestBy_2 fu k40 n 283 D (iI i) (mem w m) = k40 283 D (mem w m') ∧ (∀ q, q ≠ 288 → m' q = m q) ∧ ∀ v, 0 ≤ v → v < nN N → m' 288 v = (if v = nS N then 0 else 999999) := by
  intro d
  induction d with
  | zero =>
    intro n m i hN hd h0 hn hv
    have hw := hN.1.1
    obtain ⟨n, rfl⟩ : ∃ k, n = k + 1 := ⟨n - 1, by omega⟩
    rw [f_X11_shortestBy_2, f_X11_shortestBy_2b]
    simp (disch := omega) only [n_69, n_50, n_13, Option.bind_some, bd2_some, bdX_ok, bdX_er, nm_eq, n_0, n_1, n_2, n_3, n_4, n_5, n_6, n_7, n_8, n_9, n_10, n_11, n_12, n_14, n_15, n_16, n_17, n_18, n_19, n_20, n_21, n_24, n_27, n_28, n_32, n_43, n_45, n_48, n_56, n_57, n_59, n_64, n_70, n_97, n_99, n_100, n_104, n_118, n_122, n_126, n_127, n_128, n_129, n_130, n_150, n_255, n_600, n_1000, n_1050, n_1200, n_999999, n_1000000, iI_neg, iI_add, iI_sub, iI_mul, ile, ilt, ieq, Z_has, Z_0, Z_1, Z_2, Z_5, Z_15, Z_17, Z_18, Z_24, Z_25, Z_26, Z_3, Z_4, Z_6, Z_7, Z_8, Z_9, Z_10, Z_11, Z_12, Z_13, Z_14, Z_16, Z_19, Z_20, Z_21, Z_22, Z_23, Z_27, Y_3, Y_4, Y_6, Y_7, Y_8, Y_9, Y_10, Y_11, Y_12, Y_13, Y_14, Y_16, Y_19, Y_20, Y_21, Y_22, Y_23, Y_27, A_g, A_s, up_at, up_ne, up_off, hN.2.1.1]
    rw [if_pos (by omega)]
    exact ⟨m, rfl, fun _ _ => rfl, fun v a b => hv v a (by omega)⟩
  | succ d ih =>
    intro n m i hN hd h0 hn hv
    have hw := hN.1.1
    obtain ⟨n, rfl⟩ : ∃ k, n = k + 1 := ⟨n - 1, by omega⟩
    rw [f_X11_shortestBy_2, f_X11_shortestBy_2b]
    unfold f_X11_shortestBy_33
    simp (disch := omega) only [n_69, n_50, n_13, Option.bind_some, bd2_some, bdX_ok, bdX_er, nm_eq, n_0, n_1, n_2, n_3, n_4, n_5, n_6, n_7, n_8, n_9, n_10, n_11, n_12, n_14, n_15, n_16, n_17, n_18, n_19, n_20, n_21, n_24, n_27, n_28, n_32, n_43, n_45, n_48, n_56, n_57, n_59, n_64, n_70, n_97, n_99, n_100, n_104, n_118, n_122, n_126, n_127, n_128, n_129, n_130, n_150, n_255, n_600, n_1000, n_1050, n_1200, n_999999, n_1000000, iI_neg, iI_add, iI_sub, iI_mul, ile, ilt, ieq, Z_has, Z_0, Z_1, Z_2, Z_5, Z_15, Z_17, Z_18, Z_24, Z_25, Z_26, Z_3, Z_4, Z_6, Z_7, Z_8, Z_9, Z_10, Z_11, Z_12, Z_13, Z_14, Z_16, Z_19, Z_20, Z_21, Z_22, Z_23, Z_27, Y_3, Y_4, Y_6, Y_7, Y_8, Y_9, Y_10, Y_11, Y_12, Y_13, Y_14, Y_16, Y_19, Y_20, Y_21, Y_22, Y_23, Y_27, A_g, A_s, up_at, up_ne, up_off, hN.2.1.1, hN.2.1.2.1, Re_s]
    rw [if_neg (by omega)]
    have nx : ∀ c : Int, c = (if i = nS N then 0 else 999999) → ∃ m', f_X11_shortestBy_2 fu k40 n 283 D (iI (i + 1)) (mem w (up m 288 i c)) = k40 283 D (mem w m') ∧ (∀ q, q ≠ 288 → m' q = m q) ∧ ∀ v, 0 ≤ v → v < nN N → m' 288 v = (if v = nS N then 0 else 999999) := fun c hc => by
      obtain ⟨m', q1, q2, q3⟩ := ih n (up m 288 i c) (i + 1) (by rw [up_ne (by omega)]; exact hN) (by omega) (by omega) (by omega) (fun v a b => by
        by_cases e : v = i
        · subst e; rw [up_at]; exact hc
        · rw [up_off e]; exact hv v a (by omega))
      exact ⟨m', q1, fun q hq => by rw [q2 q hq, up_ne hq], q3⟩
    by_cases c : i = nS N
    · rw [if_pos c]; exact nx 0 (by rw [if_pos c])
    · rw [if_neg c]; exact nx 999999 (by rw [if_neg c])
theorem srt_arcs {k138 : Nat → Int32 → Int32 → List Ob → Option (Int32 × List Ob)} {a2 : Int32} : ∀ (d n : Nat) (m : Mm) (g : Int → Int) (f : Int), rNet (m 284) N → nA N - f = d → 0 ≤ f → d < n → rdst m N g → ∃ m', f_X11_shortestBy_54 fu k138 n 283 D a2 (iI f) (mem w m) = k138 283 D a2 (mem w m') ∧ (∀ q, q ≠ 288 → m' q = m q) ∧ rdst m' N ((arF N f).foldl (rel1 N D) g) := by
  intro d
  induction d with
  | zero =>
    intro n m g f hN hd h0 hn hg
    have hw := hN.1.1
    obtain ⟨n, rfl⟩ : ∃ k, n = k + 1 := ⟨n - 1, by omega⟩
    rw [f_X11_shortestBy_54, f_X11_shortestBy_54b]
    simp (disch := omega) only [n_69, n_50, n_13, Option.bind_some, bd2_some, bdX_ok, bdX_er, nm_eq, n_0, n_1, n_2, n_3, n_4, n_5, n_6, n_7, n_8, n_9, n_10, n_11, n_12, n_14, n_15, n_16, n_17, n_18, n_19, n_20, n_21, n_24, n_27, n_28, n_32, n_43, n_45, n_48, n_56, n_57, n_59, n_64, n_70, n_97, n_99, n_100, n_104, n_118, n_122, n_126, n_127, n_128, n_129, n_130, n_150, n_255, n_600, n_1000, n_1050, n_1200, n_999999, n_1000000, iI_neg, iI_add, iI_sub, iI_mul, ile, ilt, ieq, Z_has, Z_0, Z_1, Z_2, Z_5, Z_15, Z_17, Z_18, Z_24, Z_25, Z_26, Z_3, Z_4, Z_6, Z_7, Z_8, Z_9, Z_10, Z_11, Z_12, Z_13, Z_14, Z_16, Z_19, Z_20, Z_21, Z_22, Z_23, Z_27, Y_3, Y_4, Y_6, Y_7, Y_8, Y_9, Y_10, Y_11, Y_12, Y_13, Y_14, Y_16, Y_19, Y_20, Y_21, Y_22, Y_23, Y_27, A_g, A_s, up_at, up_ne, up_off, hN.2.1.2.2.2.2]
    rw [if_pos (by omega), arF_nil (by omega)]
    exact ⟨m, rfl, fun _ _ => rfl, hg⟩
  | succ d ih =>
    intro n m g f hN hd h0 hn hg
    have hw := hN.1.1
    obtain ⟨n, rfl⟩ : ∃ k, n = k + 1 := ⟨n - 1, by omega⟩
    have hf : f < nA N := by omega
    have hA := hN.1.arc h0 hf
    have hck := ck_nn (D := D) hN.1 h0 hf
    obtain ⟨t1, t2, t3⟩ := hg (aTl N f) hA.1 hA.2.1
    obtain ⟨u1, u2, u3⟩ := hg (aHd N f) hA.2.2.1 hA.2.2.2.1
    have key : ∀ e : Int, 0 ≤ e → e ≤ 99 → aCo N f + e = ck N D f → ∃ m', f_X11_shortestBy_100 fu 283 D a2 (iI f) (iI (g (aTl N f) + aCo N f)) (iI e) (mem w m) (fun a0 a1 a2 a3 M => f_X11_shortestBy_54 fu k138 n a0 a1 a2 a3 M) k138 = k138 283 D a2 (mem w m') ∧ (∀ q, q ≠ 288 → m' q = m q) ∧ rdst m' N ((arF N f).foldl (rel1 N D) g) := by
      intro e e0 e1 he
      unfold f_X11_shortestBy_100 f_X11_shortestBy_132
      simp (disch := omega) only [n_69, n_50, n_13, Option.bind_some, bd2_some, bdX_ok, bdX_er, nm_eq, n_0, n_1, n_2, n_3, n_4, n_5, n_6, n_7, n_8, n_9, n_10, n_11, n_12, n_14, n_15, n_16, n_17, n_18, n_19, n_20, n_21, n_24, n_27, n_28, n_32, n_43, n_45, n_48, n_56, n_57, n_59, n_64, n_70, n_97, n_99, n_100, n_104, n_118, n_122, n_126, n_127, n_128, n_129, n_130, n_150, n_255, n_600, n_1000, n_1050, n_1200, n_999999, n_1000000, iI_neg, iI_add, iI_sub, iI_mul, ile, ilt, ieq, Z_has, Z_0, Z_1, Z_2, Z_5, Z_15, Z_17, Z_18, Z_24, Z_25, Z_26, Z_3, Z_4, Z_6, Z_7, Z_8, Z_9, Z_10, Z_11, Z_12, Z_13, Z_14, Z_16, Z_19, Z_20, Z_21, Z_22, Z_23, Z_27, Y_3, Y_4, Y_6, Y_7, Y_8, Y_9, Y_10, Y_11, Y_12, Y_13, Y_14, Y_16, Y_19, Y_20, Y_21, Y_22, Y_23, Y_27, A_g, A_s, up_at, up_ne, up_off, of_1 hN h0 hf, Re_g, Re_s, u1]
      rw [arF_cons hf, List.foldl_cons]
      by_cases c : g (aHd N f) ≤ g (aTl N f) + aCo N f + e
      · have hr : rel1 N D g f = g := if_neg (by omega)
        rw [if_pos c, hr]
        exact ih n m g (f + 1) hN (by omega) (by omega) (by omega) hg
      · have hr : rel1 N D g f = upd1 g (aHd N f) (g (aTl N f) + ck N D f) := if_pos (by omega)
        rw [if_neg c, hr]
        obtain ⟨m', q1, q2, q3⟩ := ih n (up m 288 (aHd N f) (g (aTl N f) + aCo N f + e)) (upd1 g (aHd N f) (g (aTl N f) + ck N D f)) (f + 1) (by rw [up_ne (by omega)]; exact hN) (by omega) (by omega) (by omega) (fun v a b => by
          unfold upd1
          by_cases q : v = aHd N f
          · rw [if_pos q, q, up_at]; omega
          · rw [if_neg q, up_off q]; exact hg v a b)
        exact ⟨m', q1, fun q hq => by rw [q2 q hq, up_ne hq], q3⟩
    rw [f_X11_shortestBy_54, f_X11_shortestBy_54b]
    simp (disch := omega) only [n_69, n_50, n_13, Option.bind_some, bd2_some, bdX_ok, bdX_er, nm_eq, n_0, n_1, n_2, n_3, n_4, n_5, n_6, n_7, n_8, n_9, n_10, n_11, n_12, n_14, n_15, n_16, n_17, n_18, n_19, n_20, n_21, n_24, n_27, n_28, n_32, n_43, n_45, n_48, n_56, n_57, n_59, n_64, n_70, n_97, n_99, n_100, n_104, n_118, n_122, n_126, n_127, n_128, n_129, n_130, n_150, n_255, n_600, n_1000, n_1050, n_1200, n_999999, n_1000000, iI_neg, iI_add, iI_sub, iI_mul, ile, ilt, ieq, Z_has, Z_0, Z_1, Z_2, Z_5, Z_15, Z_17, Z_18, Z_24, Z_25, Z_26, Z_3, Z_4, Z_6, Z_7, Z_8, Z_9, Z_10, Z_11, Z_12, Z_13, Z_14, Z_16, Z_19, Z_20, Z_21, Z_22, Z_23, Z_27, Y_3, Y_4, Y_6, Y_7, Y_8, Y_9, Y_10, Y_11, Y_12, Y_13, Y_14, Y_16, Y_19, Y_20, Y_21, Y_22, Y_23, Y_27, A_g, A_s, up_at, up_ne, up_off, hN.2.1.2.2.2.2, of_0 hN h0 hf, of_2 hN h0 hf, of_3 hN h0 hf, Re_g, t1, hasR_eq h0 (show f < 32 by omega)]
    rw [if_neg (by omega)]
    rcases bt_01 D f with e | e
    · rw [e, if_pos rfl]
      exact key 0 (by omega) (by omega) (by unfold ck; rw [e]; omega)
    · rw [e, if_neg (by decide)]
      exact key (aEx N f) (by omega) (by omega) (by unfold ck; rw [e]; omega)
theorem srt_rounds (hfu : 100 ≤ fu) {k144 : Nat → List Ob → Option (Int32 × List Ob)} : ∀ (d n : Nat) (m : Mm) (j : Nat), rNet (m 284) N → nN N - 1 - j = d → d < n → rdst m N (rnds N D j) → ∃ m', f_X11_shortestBy_42 fu k144 n 283 D (iI ((j : Int) + 1)) (mem w m) = k144 283 (mem w m') ∧ (∀ q, q ≠ 288 → m' q = m q) ∧ rdst m' N (rnds N D (nN N - 1).toNat) := by
  intro d
  induction d with
  | zero =>
    intro n m j hN hd hn hg
    have hw := hN.1.1
    obtain ⟨n, rfl⟩ : ∃ k, n = k + 1 := ⟨n - 1, by omega⟩
    rw [f_X11_shortestBy_42, f_X11_shortestBy_42b]
    simp (disch := omega) only [n_69, n_50, n_13, Option.bind_some, bd2_some, bdX_ok, bdX_er, nm_eq, n_0, n_1, n_2, n_3, n_4, n_5, n_6, n_7, n_8, n_9, n_10, n_11, n_12, n_14, n_15, n_16, n_17, n_18, n_19, n_20, n_21, n_24, n_27, n_28, n_32, n_43, n_45, n_48, n_56, n_57, n_59, n_64, n_70, n_97, n_99, n_100, n_104, n_118, n_122, n_126, n_127, n_128, n_129, n_130, n_150, n_255, n_600, n_1000, n_1050, n_1200, n_999999, n_1000000, iI_neg, iI_add, iI_sub, iI_mul, ile, ilt, ieq, Z_has, Z_0, Z_1, Z_2, Z_5, Z_15, Z_17, Z_18, Z_24, Z_25, Z_26, Z_3, Z_4, Z_6, Z_7, Z_8, Z_9, Z_10, Z_11, Z_12, Z_13, Z_14, Z_16, Z_19, Z_20, Z_21, Z_22, Z_23, Z_27, Y_3, Y_4, Y_6, Y_7, Y_8, Y_9, Y_10, Y_11, Y_12, Y_13, Y_14, Y_16, Y_19, Y_20, Y_21, Y_22, Y_23, Y_27, A_g, A_s, up_at, up_ne, up_off, hN.2.1.1]
    rw [if_pos (by omega)]
    refine ⟨m, rfl, fun _ _ => rfl, ?_⟩
    rw [show (nN N - 1).toNat = j by omega]
    exact hg
  | succ d ih =>
    intro n m j hN hd hn hg
    have hw := hN.1.1
    obtain ⟨n, rfl⟩ : ∃ k, n = k + 1 := ⟨n - 1, by omega⟩
    rw [f_X11_shortestBy_42, f_X11_shortestBy_42b]
    simp (disch := omega) only [n_69, n_50, n_13, Option.bind_some, bd2_some, bdX_ok, bdX_er, nm_eq, n_0, n_1, n_2, n_3, n_4, n_5, n_6, n_7, n_8, n_9, n_10, n_11, n_12, n_14, n_15, n_16, n_17, n_18, n_19, n_20, n_21, n_24, n_27, n_28, n_32, n_43, n_45, n_48, n_56, n_57, n_59, n_64, n_70, n_97, n_99, n_100, n_104, n_118, n_122, n_126, n_127, n_128, n_129, n_130, n_150, n_255, n_600, n_1000, n_1050, n_1200, n_999999, n_1000000, iI_neg, iI_add, iI_sub, iI_mul, ile, ilt, ieq, Z_has, Z_0, Z_1, Z_2, Z_5, Z_15, Z_17, Z_18, Z_24, Z_25, Z_26, Z_3, Z_4, Z_6, Z_7, Z_8, Z_9, Z_10, Z_11, Z_12, Z_13, Z_14, Z_16, Z_19, Z_20, Z_21, Z_22, Z_23, Z_27, Y_3, Y_4, Y_6, Y_7, Y_8, Y_9, Y_10, Y_11, Y_12, Y_13, Y_14, Y_16, Y_19, Y_20, Y_21, Y_22, Y_23, Y_27, A_g, A_s, up_at, up_ne, up_off, hN.2.1.1]
    rw [if_neg (by omega)]
    obtain ⟨m1, p1, p2, p3⟩ := srt_arcs (w := w) (fu := fu) (D := D) (a2 := iI ((j : Int) + 1)) (k138 := fun x5 x6 x7 M8 => f_X11_shortestBy_138 fu x5 x6 x7 M8 (fun a0 a1 a2 M => f_X11_shortestBy_42 fu k144 n a0 a1 a2 M) k144) (nA N).toNat fu m (rnds N D j) 0 hN (by omega) (by omega) (by omega) hg
    rw [p1]
    unfold f_X11_shortestBy_138
    simp (disch := omega) only [n_69, n_50, n_13, Option.bind_some, bd2_some, bdX_ok, bdX_er, nm_eq, n_0, n_1, n_2, n_3, n_4, n_5, n_6, n_7, n_8, n_9, n_10, n_11, n_12, n_14, n_15, n_16, n_17, n_18, n_19, n_20, n_21, n_24, n_27, n_28, n_32, n_43, n_45, n_48, n_56, n_57, n_59, n_64, n_70, n_97, n_99, n_100, n_104, n_118, n_122, n_126, n_127, n_128, n_129, n_130, n_150, n_255, n_600, n_1000, n_1050, n_1200, n_999999, n_1000000, iI_neg, iI_add, iI_sub, iI_mul, ile, ilt, ieq]
    obtain ⟨m', q1, q2, q3⟩ := ih n m1 (j + 1) (by rw [p2 284 (by decide)]; exact hN) (by omega) (by omega) p3
    rw [show (((j + 1 : Nat) : Int) + 1) = (j : Int) + 1 + 1 by omega] at q1
    exact ⟨m', q1, fun q hq => by rw [q2 q hq, p2 q hq], q3⟩
theorem qS_288 (h : ∀ q, q ≠ 288 → m' q = m q) : qS m m' := ⟨fun p hp => h p (by omega), h _ (by decide), h _ (by decide), h _ (by decide), h _ (by decide), by rw [h 283 (by decide)], by rw [h 283 (by decide)], by rw [h 283 (by decide)], by rw [h 283 (by decide)]⟩
theorem shortestBy_eq (hfu : 100 ≤ fu) (hN : rNet (m 284) N) : ∃ m', f_X11_shortestBy fu 283 D (mem w m) = some (iI (sp N D), mem w m') ∧ ∀ q, q ≠ 288 → m' q = m q := by
  have hw := hN.1.1
  obtain ⟨m1, p1, p2, p3⟩ := srt_init (w := w) (fu := fu) (D := D) (k40 := fun x1 x2 M3 => f_X11_shortestBy_40 fu x1 x2 M3) (nN N).toNat fu m 0 hN (by omega) (by omega) (by omega) (fun v a b => by omega)
  have hN1 : rNet (m1 284) N := by rw [p2 284 (by decide)]; exact hN
  obtain ⟨m2, q1, q2, q3⟩ := srt_rounds (w := w) (fu := fu) (D := D) hfu (k144 := fun x1 M2 => f_X11_shortestBy_144 fu x1 M2) (nN N - 1).toNat fu m1 0 hN1 (by omega) (by omega) (fun v a b => by
    show m1 288 v = (if v = nS N then 0 else 999999) ∧ 0 ≤ (if v = nS N then (0 : Int) else 999999) ∧ (if v = nS N then (0 : Int) else 999999) ≤ 999999
    refine ⟨p3 v a b, ?_, ?_⟩ <;> split <;> omega)
  rw [show ((0 : Nat) : Int) + 1 = 1 from rfl] at q1
  have hN2 : rNet (m2 284) N := by rw [q2 284 (by decide)]; exact hN1
  unfold f_X11_shortestBy
  simp (disch := omega) only [n_69, n_50, n_13, Option.bind_some, bd2_some, bdX_ok, bdX_er, nm_eq, n_0, n_1, n_2, n_3, n_4, n_5, n_6, n_7, n_8, n_9, n_10, n_11, n_12, n_14, n_15, n_16, n_17, n_18, n_19, n_20, n_21, n_24, n_27, n_28, n_32, n_43, n_45, n_48, n_56, n_57, n_59, n_64, n_70, n_97, n_99, n_100, n_104, n_118, n_122, n_126, n_127, n_128, n_129, n_130, n_150, n_255, n_600, n_1000, n_1050, n_1200, n_999999, n_1000000, iI_neg, iI_add, iI_sub, iI_mul, ile, ilt, ieq]
  rw [p1]
  unfold f_X11_shortestBy_40
  simp (disch := omega) only [n_69, n_50, n_13, Option.bind_some, bd2_some, bdX_ok, bdX_er, nm_eq, n_0, n_1, n_2, n_3, n_4, n_5, n_6, n_7, n_8, n_9, n_10, n_11, n_12, n_14, n_15, n_16, n_17, n_18, n_19, n_20, n_21, n_24, n_27, n_28, n_32, n_43, n_45, n_48, n_56, n_57, n_59, n_64, n_70, n_97, n_99, n_100, n_104, n_118, n_122, n_126, n_127, n_128, n_129, n_130, n_150, n_255, n_600, n_1000, n_1050, n_1200, n_999999, n_1000000, iI_neg, iI_add, iI_sub, iI_mul, ile, ilt, ieq]
  rw [q1]
  unfold f_X11_shortestBy_144
  have h2 := (q3 (nT N) (by omega) (by omega)).1
  simp (disch := omega) only [n_69, n_50, n_13, Option.bind_some, bd2_some, bdX_ok, bdX_er, nm_eq, n_0, n_1, n_2, n_3, n_4, n_5, n_6, n_7, n_8, n_9, n_10, n_11, n_12, n_14, n_15, n_16, n_17, n_18, n_19, n_20, n_21, n_24, n_27, n_28, n_32, n_43, n_45, n_48, n_56, n_57, n_59, n_64, n_70, n_97, n_99, n_100, n_104, n_118, n_122, n_126, n_127, n_128, n_129, n_130, n_150, n_255, n_600, n_1000, n_1050, n_1200, n_999999, n_1000000, iI_neg, iI_add, iI_sub, iI_mul, ile, ilt, ieq, Z_has, Z_0, Z_1, Z_2, Z_5, Z_15, Z_17, Z_18, Z_24, Z_25, Z_26, Z_3, Z_4, Z_6, Z_7, Z_8, Z_9, Z_10, Z_11, Z_12, Z_13, Z_14, Z_16, Z_19, Z_20, Z_21, Z_22, Z_23, Z_27, Y_3, Y_4, Y_6, Y_7, Y_8, Y_9, Y_10, Y_11, Y_12, Y_13, Y_14, Y_16, Y_19, Y_20, Y_21, Y_22, Y_23, Y_27, A_g, A_s, up_at, up_ne, up_off, hN2.2.1.2.2.1, Re_g, h2]
  exact ⟨m2, rfl, fun q hq => by rw [q2 q hq, p2 q hq]⟩
/-- the loop over all sets of arcs -/
theorem regR_go (hfu : 100 ≤ fu) (hl : RT N l) (hTR : ∀ y ∈ T, RT N y) (hto : told = 0 ∨ (told = 1 ∧ l ∈ T)) : ∀ (c n : Nat) (m : Mm) (d : Nat) (g : Int) (W : Nat), rNet (m 284) N → rTolds (m 284) T → d + c = mkN l + 1 → c < n → m 283 16 = (W : Int) → -1 ≤ g → g ≤ 1386 → (W < d ∨ W = 0) → isBest (fun y => y < d ∧ CD N l y) (dlt N l T told) g W → ∃ m' g' W', f_X11_regretOf_10 fu n 283 (mkA l) (iI told) (iI g) (iI (d : Int)) (mem w m) = some (iI g', mem w m') ∧ (∀ q, q ≠ 288 → q ≠ 283 → m' q = m q) ∧ (∀ k, k ≠ 16 → m' 283 k = m 283 k) ∧ m' 283 16 = ((W' : Nat) : Int) ∧ isBest (CD N l) (dlt N l T told) g' W' := by
  intro c
  induction c with
  | zero =>
    intro n m d g W hN hT hd hn h16 hg hg2 hW hB
    have hok := PK_ok hN.1 (hl.pk hN.1)
    have hM := mkG_lt l 0 hok (by decide)
    have hM' : mkN l < 65536 := hM
    obtain ⟨n, rfl⟩ : ∃ k, n = k + 1 := ⟨n - 1, by omega⟩
    rw [f_X11_regretOf_10, f_X11_regretOf_10b, mkA_N hok]
    simp (disch := omega) only [n_69, n_50, n_13, Option.bind_some, bd2_some, bdX_ok, bdX_er, nm_eq, n_0, n_1, n_2, n_3, n_4, n_5, n_6, n_7, n_8, n_9, n_10, n_11, n_12, n_14, n_15, n_16, n_17, n_18, n_19, n_20, n_21, n_24, n_27, n_28, n_32, n_43, n_45, n_48, n_56, n_57, n_59, n_64, n_70, n_97, n_99, n_100, n_104, n_118, n_122, n_126, n_127, n_128, n_129, n_130, n_150, n_255, n_600, n_1000, n_1050, n_1200, n_999999, n_1000000, iI_neg, iI_add, iI_sub, iI_mul, ile, ilt, ieq]
    rw [if_pos (by omega)]
    refine ⟨m, g, W, rfl, fun _ _ _ => rfl, fun _ _ => rfl, h16, isBest_cong hB (fun y => ⟨fun h => h.2, fun h => ⟨?_, h⟩⟩)⟩
    -- a set of the route's arcs is no greater than all
    have : y ||| mkN l = mkN l := by
      apply Nat.eq_of_testBit_eq
      intro k
      rw [Nat.testBit_or]
      cases hk : y.testBit k with
      | false => simp
      | true => rw [(mkN_bit hok k).mpr (h.1 k hk)]; rfl
    have := Nat.left_le_or (n := y) (m := mkN l)
    omega
  | succ c ih =>
    intro n m d g W hN hT hd hn h16 hg hg2 hW hB
    have hWf := hN.1
    have hw := hN.1.1
    have hok := PK_ok hN.1 (hl.pk hN.1)
    have hM' : mkN l < 65536 := mkG_lt l 0 hok (by decide)
    have hd9 : d < 65536 := by omega
    have hW9 : W < 65536 := by omega
    have hrg := rgF_r hWf hTR hl hto
    obtain ⟨n, rfl⟩ : ∃ k, n = k + 1 := ⟨n - 1, by omega⟩
    have skip : ¬ CD N l d → ∃ m' g' W', f_X11_regretOf_10 fu n 283 (mkA l) (iI told) (iI g) (iI ((d : Int) + 1)) (mem w m) = some (iI g', mem w m') ∧ (∀ q, q ≠ 288 → q ≠ 283 → m' q = m q) ∧ (∀ k, k ≠ 16 → m' 283 k = m 283 k) ∧ m' 283 16 = ((W' : Nat) : Int) ∧ isBest (CD N l) (dlt N l T told) g' W' := fun hc => by
      have := ih n m (d + 1) g W hN hT (by omega) (by omega) h16 hg hg2 (by omega) (isBest_cong hB (fun y => ⟨fun h => ⟨by omega, h.2⟩, fun h => ⟨by
        by_cases e : y = d
        · subst e; exact absurd h.2 hc
        · omega, h.2⟩⟩))
      rw [show ((d + 1 : Nat) : Int) = (d : Int) + 1 by omega] at this
      exact this
    rw [f_X11_regretOf_10, f_X11_regretOf_10b]
    unfold f_X11_regretOf_110
    rw [if_neg (show ¬ mkA l < iI (d : Int) by rw [mkA_N hok, iI_lt (by omega) (by omega) (by omega) (by omega)]; omega)]
    -- is it a set of the route's arcs?
    have hsub : ((iI (d : Int) &&& (mkA l ^^^ (-1))) = 0) ↔ ∀ k, d.testBit k = true → ∃ a ∈ l, a.toNat = k := by
      rw [mkA_N hok]
      constructor
      · intro h k hk
        have hk16 : k < 16 := by
          rcases Nat.lt_or_ge k 16 with q | q
          · exact q
          · have : d.testBit k = false := Nat.testBit_lt_two_pow (Nat.lt_of_lt_of_le (show d < 2 ^ 16 from hd9) (Nat.pow_le_pow_right (by omega) q))
            rw [this] at hk; cases hk
        have h1 : bt (iI (d : Int) &&& (iI ((mkN l : Nat) : Int) ^^^ (-1))) (k : Int) = 0 := by rw [h]; exact bt_zero _
        rw [bt_and, bt_not (by omega) (by omega), bt_N hd9 (by omega) (by omega), bt_N hM' (by omega) (by omega), Int.toNat_natCast, if_pos hk] at h1
        refine (mkN_bit hok k).mp ?_
        cases q : (mkN l).testBit k with
        | true => rfl
        | false => rw [q] at h1; simp at h1
      · intro h
        apply Int32.toBitVec_inj.mp
        apply BitVec.eq_of_getLsbD_eq
        intro i hi
        have h1 : bt (iI (d : Int) &&& (iI ((mkN l : Nat) : Int) ^^^ (-1))) (i : Int) = 0 := by
          rw [bt_and, bt_not (by omega) (by omega), bt_N hd9 (by omega) (by omega), bt_N hM' (by omega) (by omega), Int.toNat_natCast]
          cases q : d.testBit i with
          | false => simp
          | true => rw [(mkN_bit hok i).mpr (h i q)]; simp
        unfold bt at h1
        rw [Int.toNat_natCast] at h1
        split at h1
        · omega
        · rename_i h2
          have z : (0 : Int32).toBitVec.getLsbD i = false := by simp
          rw [z]
          simpa using h2
    by_cases c1 : ∀ k, d.testBit k = true → ∃ a ∈ l, a.toNat = k
    · rw [if_pos (hsub.mpr c1), bits_eq hfu hd9]
      have hpb : ∀ k n : Nat, pcN k n ≤ k := fun k => by
        induction k with
        | zero => intro n; exact Nat.le_refl _
        | succ k ih => intro n; rw [pcN_succ]; have := ih (n / 2); omega
      have hp1 := hpb 16 d
      have hp2 := hpb 16 W
      simp (disch := omega) only [n_69, n_50, n_13, Option.bind_some, bd2_some, bdX_ok, bdX_er, nm_eq, n_0, n_1, n_2, n_3, n_4, n_5, n_6, n_7, n_8, n_9, n_10, n_11, n_12, n_14, n_15, n_16, n_17, n_18, n_19, n_20, n_21, n_24, n_27, n_28, n_32, n_43, n_45, n_48, n_56, n_57, n_59, n_64, n_70, n_97, n_99, n_100, n_104, n_118, n_122, n_126, n_127, n_128, n_129, n_130, n_150, n_255, n_600, n_1000, n_1050, n_1200, n_999999, n_1000000, iI_neg, iI_add, iI_sub, iI_mul, ile, ilt, ieq, Z_has, Z_0, Z_1, Z_2, Z_5, Z_15, Z_17, Z_18, Z_24, Z_25, Z_26, Z_3, Z_4, Z_6, Z_7, Z_8, Z_9, Z_10, Z_11, Z_12, Z_13, Z_14, Z_16, Z_19, Z_20, Z_21, Z_22, Z_23, Z_27, Y_3, Y_4, Y_6, Y_7, Y_8, Y_9, Y_10, Y_11, Y_12, Y_13, Y_14, Y_16, Y_19, Y_20, Y_21, Y_22, Y_23, Y_27, A_g, A_s, up_at, up_ne, up_off, hN.2.1.2.2.2.1]
      by_cases c2 : (pcN 16 d : Int) ≤ nB N
      · have hCD : CD N l d := ⟨c1, c2⟩
        rw [if_pos c2, costOf_eq hfu hN (hl.pk hWf), bd2_some]
        have hcst := hl.cst hWf (D := iI (d : Int))
        have hlf := hrg.2.2.2.2 (iI (d : Int))
        have hlfC := hrg.2.2.2.1 (iI (d : Int))
        -- its difference is known
        have rest : ∀ m1 : Mm, (∀ q, q ≠ 288 → m1 q = m q) → ∃ m' g' W', f_X11_regretOf_68 fu 283 (mkA l) (iI told) (iI g) (iI (d : Int)) (iI (cst N l (iI (d : Int)))) (iI (lfR N T told (iI (d : Int)))) (mem w m1) (fun a0 a1 a2 a3 a4 M => f_X11_regretOf_10 fu n a0 a1 a2 a3 a4 M) = some (iI g', mem w m') ∧ (∀ q, q ≠ 288 → q ≠ 283 → m' q = m q) ∧ (∀ k, k ≠ 16 → m' 283 k = m 283 k) ∧ m' 283 16 = ((W' : Nat) : Int) ∧ isBest (CD N l) (dlt N l T told) g' W' := by
          intro m1 hm1
          have hN1 : rNet (m1 284) N := by rw [hm1 284 (by decide)]; exact hN
          have hT1 : rTolds (m1 284) T := by rw [hm1 284 (by decide)]; exact hT
          have h16' : m1 283 16 = (W : Int) := by rw [hm1 283 (by decide)]; exact h16
          have ed : dlt N l T told d = cst N l (iI (d : Int)) - lfR N T told (iI (d : Int)) := by unfold dlt; rw [hlfC]
          obtain ⟨u1, u2, u3⟩ := isBest_up (d := d) hB
          have eS : ∀ y, ((y < d ∧ CD N l y) ∨ y = d) ↔ (y < d + 1 ∧ CD N l y) := fun y => ⟨fun h => by
            rcases h with h | rfl
            · exact ⟨by omega, h.2⟩
            · exact ⟨by omega, hCD⟩, fun h => by
            by_cases e : y = d
            · exact Or.inr e
            · exact Or.inl ⟨by omega, h.2⟩⟩
          have keep : isBest (fun y => (y < d ∧ CD N l y) ∨ y = d) (dlt N l T told) g W → ∃ m' g' W', f_X11_regretOf_10 fu n 283 (mkA l) (iI told) (iI g) (iI ((d : Int) + 1)) (mem w m1) = some (iI g', mem w m') ∧ (∀ q, q ≠ 288 → q ≠ 283 → m' q = m q) ∧ (∀ k, k ≠ 16 → m' 283 k = m 283 k) ∧ m' 283 16 = ((W' : Nat) : Int) ∧ isBest (CD N l) (dlt N l T told) g' W' := fun hb => by
            obtain ⟨m', g', W', q1, q2, q3, q4, q5⟩ := ih n m1 (d + 1) g W hN1 hT1 (by omega) (by omega) h16' hg hg2 (by omega) (isBest_cong hb eS)
            rw [show ((d + 1 : Nat) : Int) = (d : Int) + 1 by omega] at q1
            exact ⟨m', g', W', q1, fun q a b => by rw [q2 q a b, hm1 q a], fun k hk => by rw [q3 k hk, hm1 283 (by decide)], q4, q5⟩
          have take : isBest (fun y => (y < d ∧ CD N l y) ∨ y = d) (dlt N l T told) (dlt N l T told d) d → ∃ m' g' W', f_X11_regretOf_101 fu 283 (mkA l) (iI told) (iI (d : Int)) (iI (cst N l (iI (d : Int)) - lfR N T told (iI (d : Int)))) (mem w m1) (fun a0 a1 a2 a3 a4 M => f_X11_regretOf_10 fu n a0 a1 a2 a3 a4 M) = some (iI g', mem w m') ∧ (∀ q, q ≠ 288 → q ≠ 283 → m' q = m q) ∧ (∀ k, k ≠ 16 → m' 283 k = m 283 k) ∧ m' 283 16 = ((W' : Nat) : Int) ∧ isBest (CD N l) (dlt N l T told) g' W' := fun hb => by
            have hb1 := hb.1
            obtain ⟨m', g', W', q1, q2, q3, q4, q5⟩ := ih n (up m1 283 16 (d : Int)) (d + 1) (dlt N l T told d) d (by rw [up_ne (by omega)]; exact hN1) (by rw [up_ne (by omega)]; exact hT1) (by omega) (by omega) up_at (by omega) (by omega) (by omega) (isBest_cong hb eS)
            rw [show ((d + 1 : Nat) : Int) = (d : Int) + 1 by omega] at q1
            unfold f_X11_regretOf_101 f_X11_regretOf_110
            simp (disch := omega) only [n_69, n_50, n_13, Option.bind_some, bd2_some, bdX_ok, bdX_er, nm_eq, n_0, n_1, n_2, n_3, n_4, n_5, n_6, n_7, n_8, n_9, n_10, n_11, n_12, n_14, n_15, n_16, n_17, n_18, n_19, n_20, n_21, n_24, n_27, n_28, n_32, n_43, n_45, n_48, n_56, n_57, n_59, n_64, n_70, n_97, n_99, n_100, n_104, n_118, n_122, n_126, n_127, n_128, n_129, n_130, n_150, n_255, n_600, n_1000, n_1050, n_1200, n_999999, n_1000000, iI_neg, iI_add, iI_sub, iI_mul, ile, ilt, ieq, Z_has, Z_0, Z_1, Z_2, Z_5, Z_15, Z_17, Z_18, Z_24, Z_25, Z_26, Z_3, Z_4, Z_6, Z_7, Z_8, Z_9, Z_10, Z_11, Z_12, Z_13, Z_14, Z_16, Z_19, Z_20, Z_21, Z_22, Z_23, Z_27, Y_3, Y_4, Y_6, Y_7, Y_8, Y_9, Y_10, Y_11, Y_12, Y_13, Y_14, Y_16, Y_19, Y_20, Y_21, Y_22, Y_23, Y_27, A_g, A_s, up_at, up_ne, up_off]
            rw [← ed]
            exact ⟨m', g', W', q1, fun q a b => by rw [q2 q a b, up_ne b, hm1 q a], fun k hk => by rw [q3 k hk, up_off hk, hm1 283 (by decide)], q4, q5⟩
          unfold f_X11_regretOf_68 f_X11_regretOf_110
          simp (disch := omega) only [n_69, n_50, n_13, Option.bind_some, bd2_some, bdX_ok, bdX_er, nm_eq, n_0, n_1, n_2, n_3, n_4, n_5, n_6, n_7, n_8, n_9, n_10, n_11, n_12, n_14, n_15, n_16, n_17, n_18, n_19, n_20, n_21, n_24, n_27, n_28, n_32, n_43, n_45, n_48, n_56, n_57, n_59, n_64, n_70, n_97, n_99, n_100, n_104, n_118, n_122, n_126, n_127, n_128, n_129, n_130, n_150, n_255, n_600, n_1000, n_1050, n_1200, n_999999, n_1000000, iI_neg, iI_add, iI_sub, iI_mul, ile, ilt, ieq]
          by_cases b1 : cst N l (iI (d : Int)) - lfR N T told (iI (d : Int)) < g
          · rw [if_pos b1]
            exact keep (u3 (by omega) (fun h => by omega))
          · rw [if_neg b1]
            by_cases b2 : cst N l (iI (d : Int)) - lfR N T told (iI (d : Int)) = g
            · rw [if_pos b2, bits_eq hfu hd9, bd2_some, Z_16, Option.bind_some, h16', bits_eq hfu hW9]
              simp (disch := omega) only [n_69, n_50, n_13, Option.bind_some, bd2_some, bdX_ok, bdX_er, nm_eq, n_0, n_1, n_2, n_3, n_4, n_5, n_6, n_7, n_8, n_9, n_10, n_11, n_12, n_14, n_15, n_16, n_17, n_18, n_19, n_20, n_21, n_24, n_27, n_28, n_32, n_43, n_45, n_48, n_56, n_57, n_59, n_64, n_70, n_97, n_99, n_100, n_104, n_118, n_122, n_126, n_127, n_128, n_129, n_130, n_150, n_255, n_600, n_1000, n_1050, n_1200, n_999999, n_1000000, iI_neg, iI_add, iI_sub, iI_mul, ile, ilt, ieq]
              by_cases b3 : (pcN 16 d : Int) < pcN 16 W
              · rw [if_pos b3]
                have := u2 (by omega) (Or.inl (by omega))
                rw [show g = dlt N l T told d by omega] at this
                exact take this
              · rw [if_neg b3]
                refine keep (u3 (by omega) (fun _ h => ?_))
                rcases h with h | ⟨h, h'⟩
                · omega
                · rcases hW with hW | hW <;> omega
            · rw [if_neg b2]
              exact take (u1 (by omega))
        have hlr : lfR N T told (iI (d : Int)) = (if told = 0 then sp N (iI (d : Int)) else lstT N (iI (d : Int)) T 999999) := rfl
        rcases hto with rfl | ⟨rfl, hm⟩
        · rw [if_pos (by rfl)]
          obtain ⟨m1, p1, p2⟩ := shortestBy_eq (w := w) (fu := fu) (D := iI (d : Int)) hfu hN
          have := rest m1 p2
          rw [hlr, if_pos rfl] at this
          simp (disch := omega) only [n_69, n_50, n_13, Option.bind_some, bd2_some, bdX_ok, bdX_er, nm_eq, n_0, n_1, n_2, n_3, n_4, n_5, n_6, n_7, n_8, n_9, n_10, n_11, n_12, n_14, n_15, n_16, n_17, n_18, n_19, n_20, n_21, n_24, n_27, n_28, n_32, n_43, n_45, n_48, n_56, n_57, n_59, n_64, n_70, n_97, n_99, n_100, n_104, n_118, n_122, n_126, n_127, n_128, n_129, n_130, n_150, n_255, n_600, n_1000, n_1050, n_1200, n_999999, n_1000000, iI_neg, iI_add, iI_sub, iI_mul, ile, ilt, ieq, Z_has, Z_0, Z_1, Z_2, Z_5, Z_15, Z_17, Z_18, Z_24, Z_25, Z_26, Z_3, Z_4, Z_6, Z_7, Z_8, Z_9, Z_10, Z_11, Z_12, Z_13, Z_14, Z_16, Z_19, Z_20, Z_21, Z_22, Z_23, Z_27, Y_3, Y_4, Y_6, Y_7, Y_8, Y_9, Y_10, Y_11, Y_12, Y_13, Y_14, Y_16, Y_19, Y_20, Y_21, Y_22, Y_23, Y_27, A_g, A_s, up_at, up_ne, up_off, p1]
          exact this
        · rw [if_neg (by decide)]
          have := rest m (fun _ _ => rfl)
          rw [hlr, if_neg (by decide)] at this
          simp (disch := omega) only [n_69, n_50, n_13, Option.bind_some, bd2_some, bdX_ok, bdX_er, nm_eq, n_0, n_1, n_2, n_3, n_4, n_5, n_6, n_7, n_8, n_9, n_10, n_11, n_12, n_14, n_15, n_16, n_17, n_18, n_19, n_20, n_21, n_24, n_27, n_28, n_32, n_43, n_45, n_48, n_56, n_57, n_59, n_64, n_70, n_97, n_99, n_100, n_104, n_118, n_122, n_126, n_127, n_128, n_129, n_130, n_150, n_255, n_600, n_1000, n_1050, n_1200, n_999999, n_1000000, iI_neg, iI_add, iI_sub, iI_mul, ile, ilt, ieq, Z_has, Z_0, Z_1, Z_2, Z_5, Z_15, Z_17, Z_18, Z_24, Z_25, Z_26, Z_3, Z_4, Z_6, Z_7, Z_8, Z_9, Z_10, Z_11, Z_12, Z_13, Z_14, Z_16, Z_19, Z_20, Z_21, Z_22, Z_23, Z_27, Y_3, Y_4, Y_6, Y_7, Y_8, Y_9, Y_10, Y_11, Y_12, Y_13, Y_14, Y_16, Y_19, Y_20, Y_21, Y_22, Y_23, Y_27, A_g, A_s, up_at, up_ne, up_off, leastR_eq (w := w) (D := iI (d : Int)) hfu hN hT hTR]
          exact this
      · rw [if_neg c2]
        have := skip (fun h => c2 h.2)
        exact this
    · rw [if_neg (fun h => c1 (hsub.mp h)), n_1, iI_add]
      exact skip (fun h => c1 h.1)
theorem regR_eq (hfu : 70000 ≤ fu) (hN : rNet (m 284) N) (hT : rTolds (m 284) T) (hl : RT N l) (hTR : ∀ y ∈ T, RT N y) (hto : told = 0 ∨ (told = 1 ∧ l ∈ T)) : ∃ m', f_X11_regretOf fu 283 (mkA l) (iI told) (mem w m) = some (iI (rgF N T told l).1, mem w m') ∧ (∀ q, q ≠ 288 → q ≠ 283 → m' q = m q) ∧ (∀ k, k ≠ 16 → m' 283 k = m 283 k) ∧ m' 283 16 = (((rgF N T told l).2 : Nat) : Int) := by
  have hpk := hl.pk hN.1
  have hok := PK_ok hN.1 hpk
  have hM' : mkN l < 65536 := mkG_lt l 0 hok (by decide)
  obtain ⟨m', g', W', q1, q2, q3, q4, q5⟩ := regR_go (w := w) (fu := fu) (T := T) (told := told) (by omega) hl hTR hto (mkN l + 1) fu (up m 283 16 0) 0 (-1) 0 (by rw [up_ne (by omega)]; exact hN) (by rw [up_ne (by omega)]; exact hT) (by omega) (by omega) up_at (by omega) (by omega) (Or.inr rfl) (isBest_cong isBest_zero (fun y => ⟨fun h => h.elim, fun h => by omega⟩))
  rw [show ((0 : Nat) : Int) = 0 from rfl] at q1
  obtain ⟨e1, e2⟩ := isBest_one q5 (rgF_best (N := N) (T := T) (told := told) hok hpk.2 (hl.len hN.1))
  unfold f_X11_regretOf
  simp (disch := omega) only [n_69, n_50, n_13, Option.bind_some, bd2_some, bdX_ok, bdX_er, nm_eq, n_0, n_1, n_2, n_3, n_4, n_5, n_6, n_7, n_8, n_9, n_10, n_11, n_12, n_14, n_15, n_16, n_17, n_18, n_19, n_20, n_21, n_24, n_27, n_28, n_32, n_43, n_45, n_48, n_56, n_57, n_59, n_64, n_70, n_97, n_99, n_100, n_104, n_118, n_122, n_126, n_127, n_128, n_129, n_130, n_150, n_255, n_600, n_1000, n_1050, n_1200, n_999999, n_1000000, iI_neg, iI_add, iI_sub, iI_mul, ile, ilt, ieq, Z_has, Z_0, Z_1, Z_2, Z_5, Z_15, Z_17, Z_18, Z_24, Z_25, Z_26, Z_3, Z_4, Z_6, Z_7, Z_8, Z_9, Z_10, Z_11, Z_12, Z_13, Z_14, Z_16, Z_19, Z_20, Z_21, Z_22, Z_23, Z_27, Y_3, Y_4, Y_6, Y_7, Y_8, Y_9, Y_10, Y_11, Y_12, Y_13, Y_14, Y_16, Y_19, Y_20, Y_21, Y_22, Y_23, Y_27, A_g, A_s, up_at, up_ne, up_off, n_m1]
  subst e1; subst e2
  exact ⟨m', q1, fun q a b => by rw [q2 q a b, up_ne b], fun k hk => by rw [q3 k hk, up_off hk], q4⟩
theorem qS_reg (h1 : ∀ q, q ≠ 288 → q ≠ 283 → m' q = m q) (h2 : ∀ k, k ≠ 16 → m' 283 k = m 283 k) : qS m m' := ⟨fun p hp => h1 p (by omega) (by omega), h1 _ (by decide) (by decide), h1 _ (by decide) (by decide), h1 _ (by decide) (by decide), h1 _ (by decide) (by decide), h2 _ (by decide), h2 _ (by decide), h2 _ (by decide), h2 _ (by decide)⟩
theorem WG.rt {x : Sg} (h : WG x) : ∀ y ∈ sR x, RT (sN x) y := h.2.1
theorem numR_eq (hfu : 70000 ≤ fu) (h : RI m x H) (hG : WG x) (hl : RT (sN x) l) (hv : 0 ≤ v ∧ v ≤ 5) : ∃ m', f_X11_numberOf fu 283 (mkA l) (iI v) (mem w m) = some (iI (numF x l v), mem w m') ∧ qS m m' ∧ m' 283 4 = m 283 4 := by
  have hN := h.1.1
  have hpk := hl.pk hN.1
  have hok := PK_ok hN.1 hpk
  have hM' : mkN l < 65536 := mkG_lt l 0 hok (by decide)
  obtain ⟨m4, p1, p2, p3, p4⟩ := regR_eq (w := w) (told := 0) hfu hN h.1.2.1 hl hG.rt (Or.inl rfl)
  have hrg := rgF_r hN.1 hG.rt (told := 0) hl (Or.inl rfl)
  have hb := bits_eq (w := w) (m := m) (fu := fu) (show 100 ≤ fu by omega) hM'
  rw [← mkA_N hok, pc_mk hok hpk.2] at hb
  have hc := costOf_eq (w := w) (D := 0) (show 100 ≤ fu by omega) hN hpk
  rw [show (0 : Int32) = iI 0 from rfl] at hc
  unfold f_X11_numberOf numF
  simp (disch := omega) only [n_69, n_50, n_13, Option.bind_some, bd2_some, bdX_ok, bdX_er, nm_eq, n_0, n_1, n_2, n_3, n_4, n_5, n_6, n_7, n_8, n_9, n_10, n_11, n_12, n_14, n_15, n_16, n_17, n_18, n_19, n_20, n_21, n_24, n_27, n_28, n_32, n_43, n_45, n_48, n_56, n_57, n_59, n_64, n_70, n_97, n_99, n_100, n_104, n_118, n_122, n_126, n_127, n_128, n_129, n_130, n_150, n_255, n_600, n_1000, n_1050, n_1200, n_999999, n_1000000, iI_neg, iI_add, iI_sub, iI_mul, ile, ilt, ieq, Z_has, Z_0, Z_1, Z_2, Z_5, Z_15, Z_17, Z_18, Z_24, Z_25, Z_26, Z_3, Z_4, Z_6, Z_7, Z_8, Z_9, Z_10, Z_11, Z_12, Z_13, Z_14, Z_16, Z_19, Z_20, Z_21, Z_22, Z_23, Z_27, Y_3, Y_4, Y_6, Y_7, Y_8, Y_9, Y_10, Y_11, Y_12, Y_13, Y_14, Y_16, Y_19, Y_20, Y_21, Y_22, Y_23, Y_27, A_g, A_s, up_at, up_ne, up_off, hb, hc, wstR_eq (w := w) (show 100 ≤ fu by omega) hN hpk, witR_eq (w := w) (show 100 ≤ fu by omega) hN hpk, p1, n_m1, p4]
  by_cases d0 : v = 0
  · rw [if_pos d0, if_pos d0]; exact ⟨m, rfl, qS.rf, rfl⟩
  rw [if_neg d0, if_neg d0]
  by_cases d1 : v = 1
  · rw [if_pos d1, if_pos d1]; exact ⟨m, rfl, qS.rf, rfl⟩
  rw [if_neg d1, if_neg d1]
  by_cases d2 : v = 2
  · rw [if_pos d2, if_pos d2]; exact ⟨m, rfl, qS.rf, rfl⟩
  rw [if_neg d2, if_neg d2]
  by_cases d3 : v = 3
  · rw [if_pos d3, if_pos d3, iI_toInt]; exact ⟨m, rfl, qS.rf, rfl⟩
  rw [if_neg d3, if_neg d3]
  by_cases d4 : v = 4
  · rw [if_pos d4, if_pos d4]; exact ⟨m4, rfl, qS_reg p2 p3, p3 _ (by decide)⟩
  rw [if_neg d4, if_neg d4, if_neg (by omega)]
  exact ⟨m4, rfl, qS_reg p2 p3, p3 _ (by decide)⟩
theorem RI.thr {k : Int} (h : RI m x H) : RI (up m 283 4 k) x H := h.q (qS_f (by omega))
theorem isBeaten_eq (hfu : 100 ≤ fu) (h : RI m x H) (hG : WG x) (ha : 0 ≤ a ∧ a < (sR x).length) (hv : 0 ≤ v ∧ v < (sR x).length) : f_X11_isBeaten fu 283 (iI a) (iI v) (mem w m) = some (iI (b2 (decide (cst (sN x) (lR x v) (wit (sN x) (lR x a)) < wst (sN x) (lR x a)))), mem w m) := by
  have hN := h.1.1
  have hT := h.1.2.1
  have h6 := hT.2.1
  have r1 := hG.rt _ (lR_at ha.1 ha.2).2
  have r2 := hG.rt _ (lR_at hv.1 hv.2).2
  have hc1 := r2.cst hN.1 (D := wit (sN x) (lR x a))
  have hc2 : 0 ≤ wst (sN x) (lR x a) ∧ wst (sN x) (lR x a) ≤ 1386 := r1.cst hN.1
  unfold f_X11_isBeaten
  simp (disch := omega) only [n_69, n_50, n_13, Option.bind_some, bd2_some, bdX_ok, bdX_er, nm_eq, n_0, n_1, n_2, n_3, n_4, n_5, n_6, n_7, n_8, n_9, n_10, n_11, n_12, n_14, n_15, n_16, n_17, n_18, n_19, n_20, n_21, n_24, n_27, n_28, n_32, n_43, n_45, n_48, n_56, n_57, n_59, n_64, n_70, n_97, n_99, n_100, n_104, n_118, n_122, n_126, n_127, n_128, n_129, n_130, n_150, n_255, n_600, n_1000, n_1050, n_1200, n_999999, n_1000000, iI_neg, iI_add, iI_sub, iI_mul, ile, ilt, ieq, Z_has, Z_0, Z_1, Z_2, Z_5, Z_15, Z_17, Z_18, Z_24, Z_25, Z_26, Z_3, Z_4, Z_6, Z_7, Z_8, Z_9, Z_10, Z_11, Z_12, Z_13, Z_14, Z_16, Z_19, Z_20, Z_21, Z_22, Z_23, Z_27, Y_3, Y_4, Y_6, Y_7, Y_8, Y_9, Y_10, Y_11, Y_12, Y_13, Y_14, Y_16, Y_19, Y_20, Y_21, Y_22, Y_23, Y_27, A_g, A_s, up_at, up_ne, up_off, toldArcs_eq (w := w) hfu (show 0 ≤ a ∧ a < 6 by omega) (rowR hT ha.1 ha.2), toldArcs_eq (w := w) hfu (show 0 ≤ v ∧ v < 6 by omega) (rowR hT hv.1 hv.2), witR_eq (w := w) hfu hN (r1.pk hN.1), wstR_eq (w := w) hfu hN (r1.pk hN.1), costOf_eq (w := w) (D := wit (sN x) (lR x a)) hfu hN (r2.pk hN.1)]
  by_cases c : a = v
  · rw [if_pos c]
    subst c
    have : ¬ cst (sN x) (lR x a) (wit (sN x) (lR x a)) < wst (sN x) (lR x a) := by unfold wst; omega
    simp [this, b2]
  · rw [if_neg c]
    by_cases q : wst (sN x) (lR x a) ≤ cst (sN x) (lR x v) (wit (sN x) (lR x a))
    · rw [if_pos q]
      have : ¬ cst (sN x) (lR x v) (wit (sN x) (lR x a)) < wst (sN x) (lR x a) := by omega
      simp [this, b2]
    · rw [if_neg q]
      have : cst (sN x) (lR x v) (wit (sN x) (lR x a)) < wst (sN x) (lR x a) := by omega
      simp [this, b2]
theorem beatenBy_go (hfu : 100 ≤ fu) (h : RI m x H) (hG : WG x) (ha : 0 ≤ a ∧ a < (sR x).length) : ∀ (suf pre : List (List Int)) (n : Nat) (s : Int), sR x = pre ++ suf → suf.length < n → f_X11_beatenBy_4 fu n 283 (iI a) (iI s) (iI (pre.length : Int)) (mem w m) = some (iI (s + (suf.countP (fun y => decide (cst (sN x) y (wit (sN x) (lR x a)) < wst (sN x) (lR x a))) : Nat)), mem w m) := by
  have hT := h.1.2.1
  have h6 := hT.2.1
  intro suf
  induction suf with
  | nil =>
    intro pre n s hs hn
    have hlen : (sR x).length = pre.length := by rw [hs]; simp
    obtain ⟨n, rfl⟩ : ∃ k, n = k + 1 := ⟨n - 1, by omega⟩
    rw [f_X11_beatenBy_4, f_X11_beatenBy_4b]
    simp (disch := omega) only [n_69, n_50, n_13, Option.bind_some, bd2_some, bdX_ok, bdX_er, nm_eq, n_0, n_1, n_2, n_3, n_4, n_5, n_6, n_7, n_8, n_9, n_10, n_11, n_12, n_14, n_15, n_16, n_17, n_18, n_19, n_20, n_21, n_24, n_27, n_28, n_32, n_43, n_45, n_48, n_56, n_57, n_59, n_64, n_70, n_97, n_99, n_100, n_104, n_118, n_122, n_126, n_127, n_128, n_129, n_130, n_150, n_255, n_600, n_1000, n_1050, n_1200, n_999999, n_1000000, iI_neg, iI_add, iI_sub, iI_mul, ile, ilt, ieq, Z_has, Z_0, Z_1, Z_2, Z_5, Z_15, Z_17, Z_18, Z_24, Z_25, Z_26, Z_3, Z_4, Z_6, Z_7, Z_8, Z_9, Z_10, Z_11, Z_12, Z_13, Z_14, Z_16, Z_19, Z_20, Z_21, Z_22, Z_23, Z_27, Y_3, Y_4, Y_6, Y_7, Y_8, Y_9, Y_10, Y_11, Y_12, Y_13, Y_14, Y_16, Y_19, Y_20, Y_21, Y_22, Y_23, Y_27, A_g, A_s, up_at, up_ne, up_off, hT.1]
    rw [if_pos (by omega)]
    simp
  | cons y suf ih =>
    intro pre n s hs hn
    have hlen : (sR x).length = pre.length + (suf.length + 1) := by rw [hs]; simp
    have hy : lR x (pre.length : Int) = y := lR_of (by rw [Int.toNat_natCast, hs]; exact mid_at)
    simp only [List.length_cons] at hn
    obtain ⟨n, rfl⟩ : ∃ k, n = k + 1 := ⟨n - 1, by omega⟩
    rw [f_X11_beatenBy_4, f_X11_beatenBy_4b]
    unfold f_X11_beatenBy_30
    simp (disch := omega) only [n_69, n_50, n_13, Option.bind_some, bd2_some, bdX_ok, bdX_er, nm_eq, n_0, n_1, n_2, n_3, n_4, n_5, n_6, n_7, n_8, n_9, n_10, n_11, n_12, n_14, n_15, n_16, n_17, n_18, n_19, n_20, n_21, n_24, n_27, n_28, n_32, n_43, n_45, n_48, n_56, n_57, n_59, n_64, n_70, n_97, n_99, n_100, n_104, n_118, n_122, n_126, n_127, n_128, n_129, n_130, n_150, n_255, n_600, n_1000, n_1050, n_1200, n_999999, n_1000000, iI_neg, iI_add, iI_sub, iI_mul, ile, ilt, ieq, Z_has, Z_0, Z_1, Z_2, Z_5, Z_15, Z_17, Z_18, Z_24, Z_25, Z_26, Z_3, Z_4, Z_6, Z_7, Z_8, Z_9, Z_10, Z_11, Z_12, Z_13, Z_14, Z_16, Z_19, Z_20, Z_21, Z_22, Z_23, Z_27, Y_3, Y_4, Y_6, Y_7, Y_8, Y_9, Y_10, Y_11, Y_12, Y_13, Y_14, Y_16, Y_19, Y_20, Y_21, Y_22, Y_23, Y_27, A_g, A_s, up_at, up_ne, up_off, hT.1, isBeaten_eq (w := w) hfu h hG ha (show 0 ≤ (pre.length : Int) ∧ (pre.length : Int) < (sR x).length by omega), hy]
    rw [if_neg (by omega), List.countP_cons]
    have ih' := fun s => ih (pre ++ [y]) n s (by rw [hs]; simp) (by omega)
    rw [show ((pre ++ [y]).length : Int) = (pre.length : Int) + 1 by simp] at ih'
    cases hc : decide (cst (sN x) y (wit (sN x) (lR x a)) < wst (sN x) (lR x a)) with
    | true =>
      rw [show b2 true = 1 from rfl, if_neg (by decide), ih']
      congr 3
      simp; omega
    | false =>
      rw [show b2 false = 0 from rfl, if_pos (by decide), ih']
      simp
theorem routeR_eq (hfu : 70000 ≤ fu) (h : RI m x H) (hG : WG x) (ha : i32 a) (hv : i32 v) : RQ w m (f_X11_route fu 283 (iI a) (iI v) (mem w m)) (qRoute x a v).1 (qRoute x a v).2 x H := by
  have hN := h.1.1
  have hT := h.1.2.1
  have h6 := hT.2.1
  have v1 := ha
  have v2 := hv
  unfold i32 at v1 v2
  have key : ∀ k : Int, 0 < k → k < 4 → RQ w m (f_X11_route_28 fu 283 (iI a) (iI v) 283 (iI k) (mem w m)) k 0 x H := fun k k0 k1 => by
    unfold f_X11_route_28
    simp (disch := omega) only [n_69, n_50, n_13, Option.bind_some, bd2_some, bdX_ok, bdX_er, nm_eq, n_0, n_1, n_2, n_3, n_4, n_5, n_6, n_7, n_8, n_9, n_10, n_11, n_12, n_14, n_15, n_16, n_17, n_18, n_19, n_20, n_21, n_24, n_27, n_28, n_32, n_43, n_45, n_48, n_56, n_57, n_59, n_64, n_70, n_97, n_99, n_100, n_104, n_118, n_122, n_126, n_127, n_128, n_129, n_130, n_150, n_255, n_600, n_1000, n_1050, n_1200, n_999999, n_1000000, iI_neg, iI_add, iI_sub, iI_mul, ile, ilt, ieq, Z_has, Z_0, Z_1, Z_2, Z_5, Z_15, Z_17, Z_18, Z_24, Z_25, Z_26, Z_3, Z_4, Z_6, Z_7, Z_8, Z_9, Z_10, Z_11, Z_12, Z_13, Z_14, Z_16, Z_19, Z_20, Z_21, Z_22, Z_23, Z_27, Y_3, Y_4, Y_6, Y_7, Y_8, Y_9, Y_10, Y_11, Y_12, Y_13, Y_14, Y_16, Y_19, Y_20, Y_21, Y_22, Y_23, Y_27, A_g, A_s, up_at, up_ne, up_off]
    rw [if_neg (by omega)]
    exact RQ_nq h (by omega)
  unfold f_X11_route qRoute
  simp (disch := omega) only [n_69, n_50, n_13, Option.bind_some, bd2_some, bdX_ok, bdX_er, nm_eq, n_0, n_1, n_2, n_3, n_4, n_5, n_6, n_7, n_8, n_9, n_10, n_11, n_12, n_14, n_15, n_16, n_17, n_18, n_19, n_20, n_21, n_24, n_27, n_28, n_32, n_43, n_45, n_48, n_56, n_57, n_59, n_64, n_70, n_97, n_99, n_100, n_104, n_118, n_122, n_126, n_127, n_128, n_129, n_130, n_150, n_255, n_600, n_1000, n_1050, n_1200, n_999999, n_1000000, iI_neg, iI_add, iI_sub, iI_mul, ile, ilt, ieq, Z_has, Z_0, Z_1, Z_2, Z_5, Z_15, Z_17, Z_18, Z_24, Z_25, Z_26, Z_3, Z_4, Z_6, Z_7, Z_8, Z_9, Z_10, Z_11, Z_12, Z_13, Z_14, Z_16, Z_19, Z_20, Z_21, Z_22, Z_23, Z_27, Y_3, Y_4, Y_6, Y_7, Y_8, Y_9, Y_10, Y_11, Y_12, Y_13, Y_14, Y_16, Y_19, Y_20, Y_21, Y_22, Y_23, Y_27, A_g, A_s, up_at, up_ne, up_off, isToldR_eq hT ha, isInR_eq hv (show i32 0 by unfold i32; omega) (show i32 7 by unfold i32; omega)]
  by_cases c1 : 0 ≤ a ∧ a < (sR x).length
  · rw [show inB a 0 (((sR x).length : Int) - 1) = 1 from if_pos (by omega)]
    rw [if_neg (by first | exact not_false | omega | decide), if_neg (not_not_intro c1)]
    by_cases c2 : 0 ≤ v ∧ v ≤ 7
    · rw [show inB v 0 7 = 1 from if_pos c2, if_neg (by first | exact not_false | omega | decide), if_neg (not_not_intro c2)]
      have h1 : RI (up m 283 4 0) x H := h.thr
      have hr := hG.rt _ (lR_at c1.1 c1.2).2
      have hta := toldArcs_eq (w := w) (fu := fu) (show 100 ≤ fu by omega) (show 0 ≤ a ∧ a < 6 by omega) (rowR h1.1.2.1 c1.1 c1.2)
      obtain ⟨m6, p1, p2, p3, p4⟩ := regR_eq (w := w) (told := 1) hfu h1.1.1 h1.1.2.1 hr hG.rt (Or.inr ⟨rfl, (lR_at c1.1 c1.2).2⟩)
      have hbb := beatenBy_go (w := w) (fu := fu) (show 100 ≤ fu by omega) h1 hG c1 (sR x) [] fu 0 rfl (by omega)
      rw [show (([] : List (List Int)).length : Int) = 0 from rfl, Int.zero_add] at hbb
      unfold f_X11_route_28 f_X11_beatenBy
      simp (disch := omega) only [n_69, n_50, n_13, Option.bind_some, bd2_some, bdX_ok, bdX_er, nm_eq, n_0, n_1, n_2, n_3, n_4, n_5, n_6, n_7, n_8, n_9, n_10, n_11, n_12, n_14, n_15, n_16, n_17, n_18, n_19, n_20, n_21, n_24, n_27, n_28, n_32, n_43, n_45, n_48, n_56, n_57, n_59, n_64, n_70, n_97, n_99, n_100, n_104, n_118, n_122, n_126, n_127, n_128, n_129, n_130, n_150, n_255, n_600, n_1000, n_1050, n_1200, n_999999, n_1000000, iI_neg, iI_add, iI_sub, iI_mul, ile, ilt, ieq, Z_has, Z_0, Z_1, Z_2, Z_5, Z_15, Z_17, Z_18, Z_24, Z_25, Z_26, Z_3, Z_4, Z_6, Z_7, Z_8, Z_9, Z_10, Z_11, Z_12, Z_13, Z_14, Z_16, Z_19, Z_20, Z_21, Z_22, Z_23, Z_27, Y_3, Y_4, Y_6, Y_7, Y_8, Y_9, Y_10, Y_11, Y_12, Y_13, Y_14, Y_16, Y_19, Y_20, Y_21, Y_22, Y_23, Y_27, A_g, A_s, up_at, up_ne, up_off, hta, p1, hbb]
      rw [if_pos (by first | exact trivial | omega | decide)]
      by_cases c3 : v = 6
      · rw [if_pos c3, if_pos c3]
        have hq := (qS_f (m := m) (v := 0) (k := 4) (by omega)).trans (qS_reg p2 p3)
        exact ⟨m6, _, rfl, by rw [p3 4 (by decide), up_at], fun _ => rfl, hq.cS, h.q hq⟩
      · rw [if_neg c3, if_neg c3]
        by_cases c4 : v = 7
        · rw [if_pos c4, if_pos c4]
          exact ⟨_, _, rfl, up_at, fun _ => rfl, cS_f (by omega), h1⟩
        · rw [if_neg c4, if_neg c4]
          obtain ⟨m7, q1, q2, q3⟩ := numR_eq (w := w) (v := v) hfu h1 hG hr (by omega)
          rw [q1, bd2_some]
          have hq := (qS_f (m := m) (v := 0) (k := 4) (by omega)).trans q2
          exact ⟨m7, _, rfl, by rw [q3, up_at], fun _ => rfl, hq.cS, h.q hq⟩
    · rw [show inB v 0 7 = 0 from if_neg c2, if_pos (by first | exact trivial | omega | decide), if_pos c2]
      exact key 2 (by omega) (by omega)
  · rw [show inB a 0 (((sR x).length : Int) - 1) = 0 from if_neg (by omega)]
    rw [if_pos (by first | exact trivial | omega | decide), if_pos c1]
    exact key 1 (by omega) (by omega)
theorem costR_eq (hfu : 100 ≤ fu) (h : RI m x H) (hG : WG x) (ha : i32 a) : RQ w m (f_X11_cost fu 283 (iI a) (iI v) (mem w m)) (qCost x a v).1 (qCost x a v).2 x H := by
  have hT := h.1.2.1
  have h6 := hT.2.1
  have v1 := ha
  unfold i32 at v1
  unfold f_X11_cost f_X11_cost_14 qCost
  simp (disch := omega) only [n_69, n_50, n_13, Option.bind_some, bd2_some, bdX_ok, bdX_er, nm_eq, n_0, n_1, n_2, n_3, n_4, n_5, n_6, n_7, n_8, n_9, n_10, n_11, n_12, n_14, n_15, n_16, n_17, n_18, n_19, n_20, n_21, n_24, n_27, n_28, n_32, n_43, n_45, n_48, n_56, n_57, n_59, n_64, n_70, n_97, n_99, n_100, n_104, n_118, n_122, n_126, n_127, n_128, n_129, n_130, n_150, n_255, n_600, n_1000, n_1050, n_1200, n_999999, n_1000000, iI_neg, iI_add, iI_sub, iI_mul, ile, ilt, ieq, Z_has, Z_0, Z_1, Z_2, Z_5, Z_15, Z_17, Z_18, Z_24, Z_25, Z_26, Z_3, Z_4, Z_6, Z_7, Z_8, Z_9, Z_10, Z_11, Z_12, Z_13, Z_14, Z_16, Z_19, Z_20, Z_21, Z_22, Z_23, Z_27, Y_3, Y_4, Y_6, Y_7, Y_8, Y_9, Y_10, Y_11, Y_12, Y_13, Y_14, Y_16, Y_19, Y_20, Y_21, Y_22, Y_23, Y_27, A_g, A_s, up_at, up_ne, up_off, isToldR_eq hT ha]
  by_cases c1 : 0 ≤ a ∧ a < (sR x).length
  · rw [show inB a 0 (((sR x).length : Int) - 1) = 1 from if_pos (by omega)]
    rw [if_neg (by first | exact not_false | omega | decide), if_neg (not_not_intro c1)]
    have h1 : RI (up m 283 4 0) x H := h.thr
    have hr := hG.rt _ (lR_at c1.1 c1.2).2
    simp (disch := omega) only [n_69, n_50, n_13, Option.bind_some, bd2_some, bdX_ok, bdX_er, nm_eq, n_0, n_1, n_2, n_3, n_4, n_5, n_6, n_7, n_8, n_9, n_10, n_11, n_12, n_14, n_15, n_16, n_17, n_18, n_19, n_20, n_21, n_24, n_27, n_28, n_32, n_43, n_45, n_48, n_56, n_57, n_59, n_64, n_70, n_97, n_99, n_100, n_104, n_118, n_122, n_126, n_127, n_128, n_129, n_130, n_150, n_255, n_600, n_1000, n_1050, n_1200, n_999999, n_1000000, iI_neg, iI_add, iI_sub, iI_mul, ile, ilt, ieq, Z_has, Z_0, Z_1, Z_2, Z_5, Z_15, Z_17, Z_18, Z_24, Z_25, Z_26, Z_3, Z_4, Z_6, Z_7, Z_8, Z_9, Z_10, Z_11, Z_12, Z_13, Z_14, Z_16, Z_19, Z_20, Z_21, Z_22, Z_23, Z_27, Y_3, Y_4, Y_6, Y_7, Y_8, Y_9, Y_10, Y_11, Y_12, Y_13, Y_14, Y_16, Y_19, Y_20, Y_21, Y_22, Y_23, Y_27, A_g, A_s, up_at, up_ne, up_off, toldArcs_eq (w := w) (fu := fu) hfu (show 0 ≤ a ∧ a < 6 by omega) (rowR h1.1.2.1 c1.1 c1.2), costOf_eq (w := w) (D := iI v) hfu h1.1.1 (hr.pk h1.1.1.1)]
    rw [if_pos (by first | exact trivial | omega | decide)]
    exact ⟨_, _, rfl, up_at, fun _ => rfl, cS_f (by omega), h1⟩
  · rw [show inB a 0 (((sR x).length : Int) - 1) = 0 from if_neg (by omega)]
    rw [if_pos (by first | exact trivial | omega | decide), if_pos c1, if_neg (by first | exact not_false | omega | decide)]
    exact RQ_nq h (by omega)
theorem chF_start {N : Nt} (hW : WFN N) {T : List (List Int)} (hT : ∀ y ∈ T, RT N y) {L : List (List Int)} (hL : ∀ y ∈ L, y ∈ T) (hne : L ≠ []) {i f f' s s' : Int} (h1 : 1386 < s) (h2 : 1386 < s') : chF N T L i f s = chF N T L i f' s' := by
  cases L with
  | nil => exact absurd rfl hne
  | cons y L =>
    have hy := hL y List.mem_cons_self
    have := (rgF_r hW hT (told := 1) (hT y hy) (Or.inr ⟨rfl, hy⟩)).2.1
    rw [chF, chF, if_pos (by omega), if_pos (by omega)]
theorem chosen_go (hfu : 70000 ≤ fu) (hG : WG x) : ∀ (suf pre : List (List Int)) (n : Nat) (m : Mm) (f s : Int), RI m x H → sR x = pre ++ suf → suf.length < n → -1 ≤ s → s ≤ 999999 → ∃ m', f_X11_chosen_26 fu n 283 (iI f) (iI s) (iI (pre.length : Int)) (mem w m) = some (iI (chF (sN x) (sR x) suf pre.length f s), mem w m') ∧ qS m m' ∧ m' 283 4 = m 283 4 := by
  intro suf
  induction suf with
  | nil =>
    intro pre n m f s h hs hn h0 h1
    have h6 := h.1.2.1.2.1
    have hlen : (sR x).length = pre.length := by rw [hs]; simp
    obtain ⟨n, rfl⟩ : ∃ k, n = k + 1 := ⟨n - 1, by omega⟩
    rw [f_X11_chosen_26, f_X11_chosen_26b]
    simp (disch := omega) only [n_69, n_50, n_13, Option.bind_some, bd2_some, bdX_ok, bdX_er, nm_eq, n_0, n_1, n_2, n_3, n_4, n_5, n_6, n_7, n_8, n_9, n_10, n_11, n_12, n_14, n_15, n_16, n_17, n_18, n_19, n_20, n_21, n_24, n_27, n_28, n_32, n_43, n_45, n_48, n_56, n_57, n_59, n_64, n_70, n_97, n_99, n_100, n_104, n_118, n_122, n_126, n_127, n_128, n_129, n_130, n_150, n_255, n_600, n_1000, n_1050, n_1200, n_999999, n_1000000, iI_neg, iI_add, iI_sub, iI_mul, ile, ilt, ieq, Z_has, Z_0, Z_1, Z_2, Z_5, Z_15, Z_17, Z_18, Z_24, Z_25, Z_26, Z_3, Z_4, Z_6, Z_7, Z_8, Z_9, Z_10, Z_11, Z_12, Z_13, Z_14, Z_16, Z_19, Z_20, Z_21, Z_22, Z_23, Z_27, Y_3, Y_4, Y_6, Y_7, Y_8, Y_9, Y_10, Y_11, Y_12, Y_13, Y_14, Y_16, Y_19, Y_20, Y_21, Y_22, Y_23, Y_27, A_g, A_s, up_at, up_ne, up_off, h.1.2.1.1]
    rw [if_pos (by omega)]
    exact ⟨m, rfl, qS.rf, rfl⟩
  | cons y suf ih =>
    intro pre n m f s h hs hn h0 h1
    have h6 := h.1.2.1.2.1
    have hlen : (sR x).length = pre.length + (suf.length + 1) := by rw [hs]; simp
    have hy : y ∈ sR x := by rw [hs]; simp
    have hq := h.1.2.1.2.2 pre.length y (by rw [hs]; exact mid_at)
    have hr := hG.rt y hy
    have hrg := rgF_r h.1.1.1 hG.rt (told := 1) hr (Or.inr ⟨rfl, hy⟩)
    simp only [List.length_cons] at hn
    obtain ⟨n, rfl⟩ : ∃ k, n = k + 1 := ⟨n - 1, by omega⟩
    obtain ⟨m1, p1, p2, p3, p4⟩ := regR_eq (w := w) (told := 1) hfu h.1.1 h.1.2.1 hr hG.rt (Or.inr ⟨rfl, hy⟩)
    have hq1 := qS_reg p2 p3
    rw [f_X11_chosen_26, f_X11_chosen_26b]
    unfold f_X11_chosen_63
    simp (disch := omega) only [n_69, n_50, n_13, Option.bind_some, bd2_some, bdX_ok, bdX_er, nm_eq, n_0, n_1, n_2, n_3, n_4, n_5, n_6, n_7, n_8, n_9, n_10, n_11, n_12, n_14, n_15, n_16, n_17, n_18, n_19, n_20, n_21, n_24, n_27, n_28, n_32, n_43, n_45, n_48, n_56, n_57, n_59, n_64, n_70, n_97, n_99, n_100, n_104, n_118, n_122, n_126, n_127, n_128, n_129, n_130, n_150, n_255, n_600, n_1000, n_1050, n_1200, n_999999, n_1000000, iI_neg, iI_add, iI_sub, iI_mul, ile, ilt, ieq, Z_has, Z_0, Z_1, Z_2, Z_5, Z_15, Z_17, Z_18, Z_24, Z_25, Z_26, Z_3, Z_4, Z_6, Z_7, Z_8, Z_9, Z_10, Z_11, Z_12, Z_13, Z_14, Z_16, Z_19, Z_20, Z_21, Z_22, Z_23, Z_27, Y_3, Y_4, Y_6, Y_7, Y_8, Y_9, Y_10, Y_11, Y_12, Y_13, Y_14, Y_16, Y_19, Y_20, Y_21, Y_22, Y_23, Y_27, A_g, A_s, up_at, up_ne, up_off, h.1.2.1.1, toldArcs_eq (w := w) (fu := fu) (show 100 ≤ fu by omega) (r := (pre.length : Int)) (by omega) hq, p1]
    rw [if_neg (by omega), chF]
    have e : ((pre ++ [y]).length : Int) = (pre.length : Int) + 1 := by simp
    by_cases c : (rgF (sN x) (sR x) 1 y).1 < s
    · rw [if_pos c, if_pos c]
      obtain ⟨m2, q1, q2, q3⟩ := ih (pre ++ [y]) n m1 pre.length (rgF (sN x) (sR x) 1 y).1 (h.q hq1) (by rw [hs]; simp) (by omega) (by omega) (by omega)
      rw [e] at q1
      exact ⟨m2, q1, hq1.trans q2, by rw [q3, p3 4 (by decide)]⟩
    · rw [if_neg c, if_neg c]
      obtain ⟨m2, q1, q2, q3⟩ := ih (pre ++ [y]) n m1 f s (h.q hq1) (by rw [hs]; simp) (by omega) h0 h1
      rw [e] at q1
      exact ⟨m2, q1, hq1.trans q2, by rw [q3, p3 4 (by decide)]⟩
theorem chosenR_eq (hfu : 70000 ≤ fu) (h : RI m x H) (hG : WG x) : RQ w m (f_X11_chosen fu 283 (mem w m)) (qChosen x).1 (qChosen x).2 x H := by
  have hT := h.1.2.1
  have h6 := hT.2.1
  unfold f_X11_chosen f_X11_chosen_16 qChosen
  simp (disch := omega) only [n_69, n_50, n_13, Option.bind_some, bd2_some, bdX_ok, bdX_er, nm_eq, n_0, n_1, n_2, n_3, n_4, n_5, n_6, n_7, n_8, n_9, n_10, n_11, n_12, n_14, n_15, n_16, n_17, n_18, n_19, n_20, n_21, n_24, n_27, n_28, n_32, n_43, n_45, n_48, n_56, n_57, n_59, n_64, n_70, n_97, n_99, n_100, n_104, n_118, n_122, n_126, n_127, n_128, n_129, n_130, n_150, n_255, n_600, n_1000, n_1050, n_1200, n_999999, n_1000000, iI_neg, iI_add, iI_sub, iI_mul, ile, ilt, ieq, Z_has, Z_0, Z_1, Z_2, Z_5, Z_15, Z_17, Z_18, Z_24, Z_25, Z_26, Z_3, Z_4, Z_6, Z_7, Z_8, Z_9, Z_10, Z_11, Z_12, Z_13, Z_14, Z_16, Z_19, Z_20, Z_21, Z_22, Z_23, Z_27, Y_3, Y_4, Y_6, Y_7, Y_8, Y_9, Y_10, Y_11, Y_12, Y_13, Y_14, Y_16, Y_19, Y_20, Y_21, Y_22, Y_23, Y_27, A_g, A_s, up_at, up_ne, up_off, hT.1]
  have go := fun k : Int => chosen_go (w := w) (fu := fu) hfu hG (sR x) [] fu (up m 283 4 k) 0 999999 h.thr rfl (by omega) (by omega) (by omega)
  rw [show (([] : List (List Int)).length : Int) = 0 from rfl] at go
  by_cases c1 : sR x = []
  · rw [if_pos (by rw [c1]; rfl), if_pos c1]
    obtain ⟨m', q1, q2, q3⟩ := go 1
    have hq := (qS_f (m := m) (v := 1) (k := 4) (by omega)).trans q2
    exact ⟨m', _, q1, by rw [q3, up_at], fun e => absurd e (by decide), hq.cS, h.q hq⟩
  · have hl : 0 < (sR x).length := List.length_pos_iff.mpr c1
    rw [if_neg (by omega), if_neg c1]
    obtain ⟨m', q1, q2, q3⟩ := go 0
    have hq := (qS_f (m := m) (v := 0) (k := 4) (by omega)).trans q2
    exact ⟨m', _, q1, by rw [q3, up_at], fun _ => chF_start h.1.1.1 hG.rt (fun y hy => hy) c1 (by omega) (by omega), hq.cS, h.q hq⟩
theorem beatsR_eq (hfu : 100 ≤ fu) (h : RI m x H) (hG : WG x) (ha : i32 a) (hv : i32 v) : RQ w m (f_X11_beats fu 283 (iI a) (iI v) (mem w m)) (qBeats x a v).1 (qBeats x a v).2 x H := by
  have hT := h.1.2.1
  have h6 := hT.2.1
  have v1 := ha
  have v2 := hv
  unfold i32 at v1 v2
  have key : ∀ k : Int, 0 < k → k < 4 → RQ w m (f_X11_beats_22 fu 283 (iI a) (iI v) 283 (iI k) (mem w m)) k 0 x H := fun k k0 k1 => by
    unfold f_X11_beats_22
    simp (disch := omega) only [n_69, n_50, n_13, Option.bind_some, bd2_some, bdX_ok, bdX_er, nm_eq, n_0, n_1, n_2, n_3, n_4, n_5, n_6, n_7, n_8, n_9, n_10, n_11, n_12, n_14, n_15, n_16, n_17, n_18, n_19, n_20, n_21, n_24, n_27, n_28, n_32, n_43, n_45, n_48, n_56, n_57, n_59, n_64, n_70, n_97, n_99, n_100, n_104, n_118, n_122, n_126, n_127, n_128, n_129, n_130, n_150, n_255, n_600, n_1000, n_1050, n_1200, n_999999, n_1000000, iI_neg, iI_add, iI_sub, iI_mul, ile, ilt, ieq, Z_has, Z_0, Z_1, Z_2, Z_5, Z_15, Z_17, Z_18, Z_24, Z_25, Z_26, Z_3, Z_4, Z_6, Z_7, Z_8, Z_9, Z_10, Z_11, Z_12, Z_13, Z_14, Z_16, Z_19, Z_20, Z_21, Z_22, Z_23, Z_27, Y_3, Y_4, Y_6, Y_7, Y_8, Y_9, Y_10, Y_11, Y_12, Y_13, Y_14, Y_16, Y_19, Y_20, Y_21, Y_22, Y_23, Y_27, A_g, A_s, up_at, up_ne, up_off]
    rw [if_neg (by omega)]
    exact RQ_nq h (by omega)
  unfold f_X11_beats f_X11_beats_21 qBeats
  simp (disch := omega) only [n_69, n_50, n_13, Option.bind_some, bd2_some, bdX_ok, bdX_er, nm_eq, n_0, n_1, n_2, n_3, n_4, n_5, n_6, n_7, n_8, n_9, n_10, n_11, n_12, n_14, n_15, n_16, n_17, n_18, n_19, n_20, n_21, n_24, n_27, n_28, n_32, n_43, n_45, n_48, n_56, n_57, n_59, n_64, n_70, n_97, n_99, n_100, n_104, n_118, n_122, n_126, n_127, n_128, n_129, n_130, n_150, n_255, n_600, n_1000, n_1050, n_1200, n_999999, n_1000000, iI_neg, iI_add, iI_sub, iI_mul, ile, ilt, ieq, Z_has, Z_0, Z_1, Z_2, Z_5, Z_15, Z_17, Z_18, Z_24, Z_25, Z_26, Z_3, Z_4, Z_6, Z_7, Z_8, Z_9, Z_10, Z_11, Z_12, Z_13, Z_14, Z_16, Z_19, Z_20, Z_21, Z_22, Z_23, Z_27, Y_3, Y_4, Y_6, Y_7, Y_8, Y_9, Y_10, Y_11, Y_12, Y_13, Y_14, Y_16, Y_19, Y_20, Y_21, Y_22, Y_23, Y_27, A_g, A_s, up_at, up_ne, up_off, isToldR_eq hT ha, isToldR_eq hT hv]
  by_cases c1 : 0 ≤ a ∧ a < (sR x).length
  · rw [show inB a 0 (((sR x).length : Int) - 1) = 1 from if_pos (by omega), if_neg (by first | exact not_false | omega | decide)]
    by_cases c2 : 0 ≤ v ∧ v < (sR x).length
    · rw [show inB v 0 (((sR x).length : Int) - 1) = 1 from if_pos (by omega), if_neg (by first | exact not_false | omega | decide), if_neg (not_not_intro (And.intro c1 c2))]
      have h1 : RI (up m 283 4 0) x H := h.thr
      unfold f_X11_beats_22
      simp (disch := omega) only [n_69, n_50, n_13, Option.bind_some, bd2_some, bdX_ok, bdX_er, nm_eq, n_0, n_1, n_2, n_3, n_4, n_5, n_6, n_7, n_8, n_9, n_10, n_11, n_12, n_14, n_15, n_16, n_17, n_18, n_19, n_20, n_21, n_24, n_27, n_28, n_32, n_43, n_45, n_48, n_56, n_57, n_59, n_64, n_70, n_97, n_99, n_100, n_104, n_118, n_122, n_126, n_127, n_128, n_129, n_130, n_150, n_255, n_600, n_1000, n_1050, n_1200, n_999999, n_1000000, iI_neg, iI_add, iI_sub, iI_mul, ile, ilt, ieq, Z_has, Z_0, Z_1, Z_2, Z_5, Z_15, Z_17, Z_18, Z_24, Z_25, Z_26, Z_3, Z_4, Z_6, Z_7, Z_8, Z_9, Z_10, Z_11, Z_12, Z_13, Z_14, Z_16, Z_19, Z_20, Z_21, Z_22, Z_23, Z_27, Y_3, Y_4, Y_6, Y_7, Y_8, Y_9, Y_10, Y_11, Y_12, Y_13, Y_14, Y_16, Y_19, Y_20, Y_21, Y_22, Y_23, Y_27, A_g, A_s, up_at, up_ne, up_off, isBeaten_eq (w := w) hfu h1 hG c2 c1]
      rw [if_pos (by first | exact trivial | omega | decide)]
      cases decide (cst (sN x) (lR x a) (wit (sN x) (lR x v)) < wst (sN x) (lR x v)) with
      | true => rw [show b2 true = 1 from rfl, if_neg (by decide)]; exact ⟨_, _, rfl, up_at, fun _ => rfl, cS_f (by omega), h1⟩
      | false => rw [show b2 false = 0 from rfl, if_pos (by decide)]; exact ⟨_, _, rfl, up_at, fun _ => rfl, cS_f (by omega), h1⟩
    · rw [show inB v 0 (((sR x).length : Int) - 1) = 0 from if_neg (by omega), if_pos (by first | exact trivial | omega | decide), if_pos (fun q => c2 q.2)]
      exact key 1 (by omega) (by omega)
  · rw [show inB a 0 (((sR x).length : Int) - 1) = 0 from if_neg (by omega), if_pos (by first | exact trivial | omega | decide), if_pos (fun q => c1 q.1)]
    exact key 1 (by omega) (by omega)
theorem shortestR_eq (hfu : 100 ≤ fu) (h : RI m x H) : RQ w m (f_X11_shortest fu 283 (iI v) (mem w m)) (qShortest x v).1 (qShortest x v).2 x H := by
  obtain ⟨m1, p1, p2⟩ := shortestBy_eq (w := w) (fu := fu) (D := iI v) hfu h.1.1
  have hs := sp_nn h.1.1.1 (D := iI v)
  unfold f_X11_shortest f_X11_shortest_18 qShortest
  simp (disch := omega) only [n_69, n_50, n_13, Option.bind_some, bd2_some, bdX_ok, bdX_er, nm_eq, n_0, n_1, n_2, n_3, n_4, n_5, n_6, n_7, n_8, n_9, n_10, n_11, n_12, n_14, n_15, n_16, n_17, n_18, n_19, n_20, n_21, n_24, n_27, n_28, n_32, n_43, n_45, n_48, n_56, n_57, n_59, n_64, n_70, n_97, n_99, n_100, n_104, n_118, n_122, n_126, n_127, n_128, n_129, n_130, n_150, n_255, n_600, n_1000, n_1050, n_1200, n_999999, n_1000000, iI_neg, iI_add, iI_sub, iI_mul, ile, ilt, ieq, Z_has, Z_0, Z_1, Z_2, Z_5, Z_15, Z_17, Z_18, Z_24, Z_25, Z_26, Z_3, Z_4, Z_6, Z_7, Z_8, Z_9, Z_10, Z_11, Z_12, Z_13, Z_14, Z_16, Z_19, Z_20, Z_21, Z_22, Z_23, Z_27, Y_3, Y_4, Y_6, Y_7, Y_8, Y_9, Y_10, Y_11, Y_12, Y_13, Y_14, Y_16, Y_19, Y_20, Y_21, Y_22, Y_23, Y_27, A_g, A_s, up_at, up_ne, up_off, p1]
  by_cases c : sp (sN x) (iI v) = 999999
  · rw [if_neg (by omega), if_pos c, if_neg (by first | exact not_false | omega | decide)]
    have hq := (qS_288 p2).trans (qS_f (m := m1) (v := 1) (k := 4) (by omega))
    exact ⟨_, _, rfl, up_at, fun e => absurd e (by decide), hq.cS, h.q hq⟩
  · rw [if_pos (by omega), if_neg c, if_pos (by first | exact trivial | omega | decide)]
    have hq := (qS_288 p2).trans (qS_f (m := m1) (v := 0) (k := 4) (by omega))
    exact ⟨_, _, rfl, up_at, fun _ => rfl, hq.cS, h.q hq⟩
end RG
