theorem cnt_two {p q r : Int → Bool} : ∀ (L : List Int), (∀ x ∈ L, (if p x then 1 else 0) + (if q x then 1 else 0) ≤ (if r x then 1 else (0 : Nat))) → L.countP p + L.countP q ≤ L.countP r := by
  intro L
  induction L with
  | nil => intro _; simp
  | cons x L ih =>
    intro h
    have h1 := h x List.mem_cons_self
    have h2 := ih (fun y hy => h y (List.mem_cons_of_mem _ hy))
    rw [List.countP_cons, List.countP_cons, List.countP_cons]
    omega
theorem pw_lem0 {X : Nat} (hX : 2 ≤ X) : ∀ g : Nat, 1 + g * (1 + X) ≤ 2 ^ g * X := by
  intro g
  induction g with
  | zero => rw [Nat.zero_mul, Nat.pow_zero, Nat.one_mul]; omega
  | succ g ih =>
    have e1 : (g + 1) * (1 + X) = g * (1 + X) + (1 + X) := Nat.succ_mul _ _
    have e2 : 2 ^ (g + 1) * X = 2 ^ g * X + 2 ^ g * X := by rw [Nat.pow_succ, Nat.mul_assoc, Nat.mul_comm 2 X, ← Nat.mul_assoc]; omega
    rw [e1, e2]
    cases g with
    | zero => rw [Nat.zero_mul, Nat.pow_zero, Nat.one_mul]; omega
    | succ g =>
      have h1 : 2 ≤ 2 ^ (g + 1) := by
        have : 1 ≤ 2 ^ g := Nat.one_le_two_pow
        rw [Nat.pow_succ]; omega
      have := Nat.mul_le_mul_right X h1
      omega
theorem pw_lem (u g : Nat) : 1 + g * (1 + 2 ^ (u + 1)) ≤ 2 ^ (g + u + 1) := by
  have hX : 2 ≤ 2 ^ (u + 1) := by
    have : 1 ≤ 2 ^ u := Nat.one_le_two_pow
    rw [Nat.pow_succ]; omega
  have := pw_lem0 hX g
  rw [← Nat.pow_add] at this
  exact this
def dg (N : Nt) (l : List Int) : Nat := (arF N 0).countP (fun k => decide (aTl N k = endOf N l))
def un (N : Nt) (l : List Int) : Nat := (arF N 0).countP (fun k => !hasNd N l (aTl N k))
theorem tm_le {N : Nt} : ∀ (d : Nat) (l : List Int), tm N d l (arF N 0) ≤ 2 ^ (dg N l + un N l + 1) := by
  intro d
  induction d with
  | zero => intro l; exact Nat.one_le_two_pow
  | succ d ih =>
    intro l
    have sumle : ∀ as : List Int, (as.map fun a => if canFol N l a then 1 + (if aHd N a = nT N then 0 else tm N d (l ++ [a]) (arF N 0)) else 0).sum ≤ as.countP (fun k => decide (aTl N k = endOf N l)) * (1 + 2 ^ (un N l + 1)) := by
      intro as
      induction as with
      | nil => simp
      | cons a as iha =>
        rw [List.map_cons, List.sum_cons, List.countP_cons]
        cases hc : canFol N l a with
        | false =>
          rw [if_neg (by decide)]
          have : as.countP (fun k => decide (aTl N k = endOf N l)) * (1 + 2 ^ (un N l + 1)) ≤ (as.countP (fun k => decide (aTl N k = endOf N l)) + if decide (aTl N a = endOf N l) = true then 1 else 0) * (1 + 2 ^ (un N l + 1)) := Nat.mul_le_mul_right _ (by omega)
          omega
        | true =>
          obtain ⟨c1, c2, c3⟩ := canFol_spec hc
          have e9 : decide (aTl N a = endOf N l) = true := by simp [c1]
          rw [if_pos rfl, if_pos e9, Nat.succ_mul]
          have h1 : (if aHd N a = nT N then 0 else tm N d (l ++ [a]) (arF N 0)) ≤ 2 ^ (un N l + 1) := by
            split
            · exact Nat.zero_le _
            · refine Nat.le_trans (ih (l ++ [a])) (Nat.pow_le_pow_right (by omega) (Nat.succ_le_succ ?_))
              refine cnt_two _ (fun k _ => ?_)
              rw [endOf_snoc, hasNd_snoc]
              by_cases e : aTl N k = aHd N a
              · rw [e, c3]; simp
              · have e' : ¬ aHd N a = aTl N k := fun q => e q.symm
                simp [e, e']
          omega
    rw [tm]
    have h1 := sumle (arF N 0)
    have h2 := pw_lem (un N l) (dg N l)
    unfold dg at h2 ⊢
    omega
theorem arF_len {N : Nt} {f : Int} : (arF N f).length = (nA N - f).toNat := by unfold arF; simp
theorem rnd_le {N : Nt} (hW : WFN N) : rnd N [] 0 ≤ 131072 := by
  have h := tm_le (N := N) 8 []
  have h1 : dg N [] + un N [] ≤ 16 := by
    have h2 : dg N [] + un N [] ≤ (arF N 0).countP (fun _ => true) := cnt_two _ (fun k _ => by
      simp only [endOf_nil, hasNd, List.any_nil, Bool.or_false]
      by_cases e : aTl N k = nS N <;> simp [e])
    have h3 := List.countP_le_length (p := fun _ => true) (l := arF N 0)
    rw [arF_len] at h3
    have := hW.1
    omega
  have h4 : (2 : Nat) ^ (dg N [] + un N [] + 1) ≤ 2 ^ 17 := Nat.pow_le_pow_right (by omega) (by omega)
  show tm N 8 [] (arF N 0) ≤ 131072
  omega
theorem ext_len {N : Nt} : ∀ (d : Nat) (l as : List Int), (ext N d l as).length ≤ tm N d l as := by
  intro d
  induction d with
  | zero => intro l as; simp [ext]
  | succ d ih =>
    intro l as
    rw [ext, tm, List.length_flatMap]
    have : ∀ as : List Int, (as.map fun a => (if canFol N l a then (if aHd N a = nT N then [l ++ [a]] else ext N d (l ++ [a]) (arF N 0)) else []).length).sum ≤ (as.map fun a => if canFol N l a then 1 + (if aHd N a = nT N then 0 else tm N d (l ++ [a]) (arF N 0)) else 0).sum := by
      intro as
      induction as with
      | nil => simp
      | cons a as iha =>
        rw [List.map_cons, List.sum_cons, List.map_cons, List.sum_cons]
        refine Nat.add_le_add ?_ iha
        split
        · split
          · simp
          · have := ih (l ++ [a]) (arF N 0)
            omega
        · simp
    have := this as
    omega
theorem rem_len {N : Nt} : ∀ (r : List Int) (f : Int), (rem N r f).length ≤ rnd N r f := by
  intro r
  induction r with
  | nil => intro f; exact ext_len _ _ _
  | cons b r ih =>
    intro f
    rw [rem, rnd, List.length_append]
    exact Nat.add_le_add (ext_len _ _ _) (ih _)
section WK
variable {w : Wl} {m : Mm} {N : Nt} {l : List Int} {fu : Nat}
theorem G7_0 : gP (mem w m) 255 7 0 = some 2 := gP_mem (l := [some 2, some 256]) (by decide +kernel) rfl
theorem G7_1 : gP (mem w m) 255 7 1 = some 256 := gP_mem (l := [some 2, some 256]) (by decide +kernel) rfl
theorem H7 : hasO (mem w m) 255 7 = some () := hasO_mem (l := [some 2, some 256]) (by decide +kernel)
theorem followerFrom_eq (hfu : 100 ≤ fu) (hN : isNet m 2 N) (hq : isPth m 256 l) (hl : AOK N l) : ∀ (d n : Nat) (f : Int), nA N - f ≤ d → 0 ≤ f → f ≤ 16 → d < n → f_X7_followerFrom_2 fu n 255 (iI f) (mem w m) = some (iI (folF N l (arF N f)), mem w m) := by
  have hW := hN.2.2.1
  intro d
  induction d with
  | zero =>
    intro n f hd h0 h1 hn
    obtain ⟨n, rfl⟩ : ∃ k, n = k + 1 := ⟨n - 1, by omega⟩
    rw [f_X7_followerFrom_2, f_X7_followerFrom_2b, arF_nil (by omega)]
    simp (disch := omega) only [Option.bind_some, bd2_some, bdX_ok, bdX_er, nm_eq, n_0, n_1, n_2, n_3, n_4, n_5, n_6, n_7, n_8, n_9, n_10, n_11, n_12, n_14, n_15, n_16, n_17, n_18, n_19, n_20, n_21, n_24, n_27, n_28, n_32, n_43, n_45, n_48, n_56, n_57, n_59, n_64, n_70, n_97, n_99, n_100, n_104, n_118, n_122, n_126, n_127, n_128, n_129, n_130, n_150, n_255, n_600, n_1000, n_1050, n_1200, n_999999, n_1000000, iI_neg, iI_add, iI_sub, iI_mul, ile, ilt, ieq, G7_0, K_has hN, K_0 hN, K_1 hN, K_2 hN, K_3 hN, K_4 hN, K_5 hN, K_6 hN, K_7 hN, K_8 hN, K_tl hN, K_hd hN, K_co hN, K_ex hN]
    rw [if_pos (by omega)]
    rfl
  | succ d ih =>
    intro n f hd h0 h1 hn
    obtain ⟨n, rfl⟩ : ∃ k, n = k + 1 := ⟨n - 1, by omega⟩
    rw [f_X7_followerFrom_2, f_X7_followerFrom_2b]
    simp (disch := omega) only [Option.bind_some, bd2_some, bdX_ok, bdX_er, nm_eq, n_0, n_1, n_2, n_3, n_4, n_5, n_6, n_7, n_8, n_9, n_10, n_11, n_12, n_14, n_15, n_16, n_17, n_18, n_19, n_20, n_21, n_24, n_27, n_28, n_32, n_43, n_45, n_48, n_56, n_57, n_59, n_64, n_70, n_97, n_99, n_100, n_104, n_118, n_122, n_126, n_127, n_128, n_129, n_130, n_150, n_255, n_600, n_1000, n_1050, n_1200, n_999999, n_1000000, iI_neg, iI_add, iI_sub, iI_mul, ile, ilt, ieq, G7_0, G7_1, K_has hN, K_0 hN, K_1 hN, K_2 hN, K_3 hN, K_4 hN, K_5 hN, K_6 hN, K_7 hN, K_8 hN, K_tl hN, K_hd hN, K_co hN, K_ex hN]
    by_cases hc : nA N ≤ f
    · rw [if_pos hc, arF_nil hc]; rfl
    · rw [if_neg hc, canFollow_eq hfu hN hq hl h0 (by omega), bd2_some, arF_cons (by omega), folF]
      cases canFol N l f with
      | true => rfl
      | false =>
        have := ih n (f + 1) (by omega) (by omega) (by omega) (by omega)
        exact this
/-- only the walk's own path has changed -/
def sameW (m m' : Mm) : Prop := ∀ p, p ≠ 256 → p ≠ 257 → m' p = m p
theorem sameW.trans {m m' m'' : Mm} (h : sameW m m') (h' : sameW m' m'') : sameW m m'' := fun p h0 h1 => (h' p h0 h1).trans (h p h0 h1)
theorem sameW.net {m m' : Mm} (h : sameW m m') (hN : isNet m 2 N) : isNet m' 2 N := hN.cong (h _ (by decide) (by decide)) (h _ (by decide) (by decide)) (h _ (by decide) (by decide)) (h _ (by decide) (by decide)) (h _ (by decide) (by decide))
theorem sameW_up {k v : Int} {p : Nat} (hp : p = 256 ∨ p = 257) : sameW m (up m p k v) := fun p' h0 h1 => up_ne (by omega)
theorem rem_none {r : List Int} {f : Int} (h : ∀ k, ext N k r.reverse (arF N f) = [] ∧ tm N k r.reverse (arF N f) = 1) : (r = [] → rem N r f = []) ∧ ∀ b r', r = b :: r' → rem N r f = rem N r' (b + 1) ∧ rnd N r f = 1 + rnd N r' (b + 1) := by
  refine ⟨fun e => by subst e; exact (h 8).1, fun b r' e => ?_⟩
  subst e
  rw [rem, rnd, (h _).1, (h _).2]
  exact ⟨rfl, rfl⟩
theorem rem_step {r : List Int} {f a : Int} {k : Nat} (hk : r.length ≤ 6) (h : ∀ k, ext N (k + 1) r.reverse (arF N f) = (if aHd N a = nT N then [r.reverse ++ [a]] else ext N k (r.reverse ++ [a]) (arF N 0)) ++ ext N (k + 1) r.reverse (arF N (a + 1)) ∧ tm N (k + 1) r.reverse (arF N f) = 1 + (if aHd N a = nT N then 0 else tm N k (r.reverse ++ [a]) (arF N 0)) + tm N (k + 1) r.reverse (arF N (a + 1))) :
    (aHd N a = nT N → rem N r f = (r.reverse ++ [a]) :: rem N r (a + 1) ∧ rnd N r f = 1 + rnd N r (a + 1)) ∧ (aHd N a ≠ nT N → rem N r f = rem N (a :: r) 0 ∧ rnd N r f = 1 + rnd N (a :: r) 0) := by
  have key : ∀ f', rem N r f' = ext N (8 - r.length) r.reverse (arF N f') ++ (match r with | [] => [] | b :: r' => rem N r' (b + 1)) ∧ rnd N r f' = tm N (8 - r.length) r.reverse (arF N f') + (match r with | [] => 0 | b :: r' => rnd N r' (b + 1)) := fun f' => by
    cases r with
    | nil => exact ⟨(List.append_nil _).symm, rfl⟩
    | cons b r' => exact ⟨rfl, rfl⟩
  obtain ⟨k0, hk0⟩ : ∃ k0, 8 - r.length = k0 + 1 := ⟨7 - r.length, by omega⟩
  have h9 := h k0
  refine ⟨fun e => ?_, fun e => ?_⟩
  · rw [if_pos e, if_pos e] at h9
    rw [(key f).1, (key f).2, (key (a + 1)).1, (key (a + 1)).2, hk0, h9.1, h9.2]
    refine ⟨by simp, by omega⟩
  · rw [if_neg e, if_neg e] at h9
    rw [rem, rnd, List.reverse_cons, show 8 - (r.length + 1) = k0 by omega, (key f).1, (key f).2, (key (a + 1)).1, (key (a + 1)).2, hk0, h9.1, h9.2]
    refine ⟨by simp, by omega⟩
theorem advance_go (hfu : 100 ≤ fu) : ∀ (k n : Nat) (m : Mm) (r : List Int) (f i : Int), isNet m 2 N → isPth m 256 r.reverse → pOK N r.reverse → rnd N r f ≤ k → 0 ≤ f → f ≤ nA N → 0 ≤ i → i + k < 1000000 → k < n →
    (rem N r f = [] ∧ ∃ m', f_X7_advance_12 fu n 255 (iI f) (iI i) (mem w m) = some (iI 0, mem w m') ∧ sameW m m' ∧ isPth m' 256 []) ∨
    (∃ r' b m', rem N r f = (r'.reverse ++ [b]) :: rem N r' (b + 1) ∧ rnd N r' (b + 1) < rnd N r f ∧ f_X7_advance_12 fu n 255 (iI f) (iI i) (mem w m) = some (iI 1, mem w m') ∧ sameW m m' ∧ isPth m' 256 (r'.reverse ++ [b]) ∧ pOK N (r'.reverse ++ [b]) ∧ aHd N b = nT N) := by
  intro k
  induction k with
  | zero =>
    intro n m r f i hN hq hp hr _ _ _ _ _
    exfalso
    have : ∀ r f, 1 ≤ rnd N r f := fun r f => by
      have : ∀ d l as, 1 ≤ tm N d l as := fun d l as => by
        cases d with
        | zero => exact Nat.le_refl _
        | succ d => rw [tm]; omega
      cases r with
      | nil => exact this _ _ _
      | cons b r => rw [rnd]; have := this (8 - (r.length + 1)) (b :: r).reverse (arF N f); omega
    have := this r f
    omega
  | succ k ih =>
    intro n m r f i hN hq hp hr h0 h1 hi hik hn
    have hW := hN.2.2.1
    have hl := pOK_AOK hp
    have hlen7 := pOK_len hN.2.2 hp
    obtain ⟨n, rfl⟩ : ∃ k, n = k + 1 := ⟨n - 1, by omega⟩
    rw [f_X7_advance_12, f_X7_advance_12b]
    unfold f_X7_advance_87
    have hfol : f_X7_followerFrom fu 255 (iI f) (mem w m) = some (iI (folF N r.reverse (arF N f)), mem w m) := followerFrom_eq hfu hN hq hl 16 fu f (by omega) h0 (by omega) (by omega)
    rcases fol_at (N := N) (by omega) (l := r.reverse) (nA N - f).toNat f (by omega) h0 with ⟨e1, e2⟩ | ⟨a, e1, e2, e3, e4, e5⟩
    · rw [e1] at hfol
      obtain ⟨n1, n2⟩ := rem_none e2
      simp (disch := omega) only [Option.bind_some, bd2_some, bdX_ok, bdX_er, nm_eq, n_0, n_1, n_2, n_3, n_4, n_5, n_6, n_7, n_8, n_9, n_10, n_11, n_12, n_14, n_15, n_16, n_17, n_18, n_19, n_20, n_21, n_24, n_27, n_28, n_32, n_43, n_45, n_48, n_56, n_57, n_59, n_64, n_70, n_97, n_99, n_100, n_104, n_118, n_122, n_126, n_127, n_128, n_129, n_130, n_150, n_255, n_600, n_1000, n_1050, n_1200, n_999999, n_1000000, iI_neg, iI_add, iI_sub, iI_mul, ile, ilt, ieq, H7, hfol, G7_1, Q_len hq, Q_arr hq, Q_has hq]
      rw [if_neg (by omega), if_pos trivial]
      cases r with
      | nil =>
        refine Or.inl ⟨n1 rfl, m, ?_, fun p _ _ => rfl, hq⟩
        rw [if_pos (by simp)]
      | cons b r' =>
        obtain ⟨n3, n4⟩ := n2 b r' rfl
        rw [List.reverse_cons] at hq hp
        obtain ⟨p1, p2, p3, p4⟩ := pOK_init hp
        rw [if_neg (by simp; omega), pop_eq hq]
        simp (disch := omega) only [Option.bind_some, bd2_some, bdX_ok, bdX_er, nm_eq, n_0, n_1, n_2, n_3, n_4, n_5, n_6, n_7, n_8, n_9, n_10, n_11, n_12, n_14, n_15, n_16, n_17, n_18, n_19, n_20, n_21, n_24, n_27, n_28, n_32, n_43, n_45, n_48, n_56, n_57, n_59, n_64, n_70, n_97, n_99, n_100, n_104, n_118, n_122, n_126, n_127, n_128, n_129, n_130, n_150, n_255, n_600, n_1000, n_1050, n_1200, n_999999, n_1000000, iI_neg, iI_add, iI_sub, iI_mul, ile, ilt, ieq]
        have hs : sameW m (up m 256 1 (r'.reverse.length)) := sameW_up (Or.inl rfl)
        rw [n3, n4]
        rcases ih n (up m 256 1 (r'.reverse.length)) r' (b + 1) (i + 1) (hs.net hN) (pop_is hq) p1 (by omega) (by omega) (by omega) (by omega) (by omega) (by omega) with ⟨q1, m', q2, q3, q4⟩ | ⟨r2, b2, m', q1, q2, q3, q4, q5, q6, q7⟩
        · exact Or.inl ⟨q1, m', q2, hs.trans q3, q4⟩
        · exact Or.inr ⟨r2, b2, m', q1, by omega, q3, hs.trans q4, q5, q6, q7⟩
    · rw [e1] at hfol
      have h6 := pOK_len6 hN.2.2 hp (by omega) e3 e4
      obtain ⟨s1, s2⟩ := rem_step (N := N) (r := r) (f := f) (a := a) (k := 0) (by simpa using h6) e5
      have hpush := push_eq (w := w) (fu := fu) (a := a) hq (by omega)
      have hq2 := push_is (a := a) hq (by omega)
      generalize hm2 : up (up m (256 + 1) r.reverse.length a) 256 1 (r.reverse.length + 1) = m2 at hpush hq2
      have hs : sameW m m2 := by rw [← hm2]; exact (sameW_up (Or.inr rfl)).trans (sameW_up (Or.inl rfl))
      have hN2 := hs.net hN
      have hp2 := pOK_snoc hp (by omega) e3 e4
      have hA := hN.2.2.arc (show 0 ≤ a by omega) e3
      simp (disch := omega) only [Option.bind_some, bd2_some, bdX_ok, bdX_er, nm_eq, n_0, n_1, n_2, n_3, n_4, n_5, n_6, n_7, n_8, n_9, n_10, n_11, n_12, n_14, n_15, n_16, n_17, n_18, n_19, n_20, n_21, n_24, n_27, n_28, n_32, n_43, n_45, n_48, n_56, n_57, n_59, n_64, n_70, n_97, n_99, n_100, n_104, n_118, n_122, n_126, n_127, n_128, n_129, n_130, n_150, n_255, n_600, n_1000, n_1050, n_1200, n_999999, n_1000000, iI_neg, iI_add, iI_sub, iI_mul, ile, ilt, ieq, H7, hfol, G7_1, G7_0, Q_len hq, Q_arr hq, Q_has hq, hpush, K_has hN2, K_0 hN2, K_1 hN2, K_2 hN2, K_3 hN2, K_4 hN2, K_5 hN2, K_6 hN2, K_7 hN2, K_8 hN2, K_tl hN2, K_hd hN2, K_co hN2, K_ex hN2, endOf_eq hN2 hq2 (pOK_AOK hp2), endOf_snoc]
      rw [if_neg (by omega), if_neg (by omega)]
      by_cases hT : aHd N a = nT N
      · obtain ⟨s3, s4⟩ := s1 hT
        rw [if_pos hT]
        exact Or.inr ⟨r, a, m2, s3, by omega, rfl, hs, hq2, hp2, hT⟩
      · obtain ⟨s3, s4⟩ := s2 hT
        rw [if_neg hT, s3, s4]
        rcases ih n m2 (a :: r) 0 (i + 1) hN2 (by rw [List.reverse_cons]; exact hq2) (by rw [List.reverse_cons]; exact hp2) (by omega) (by omega) (by omega) (by omega) (by omega) (by omega) with ⟨q1, m', q2, q3, q4⟩ | ⟨r2, b2, m', q1, q2, q3, q4, q5, q6, q7⟩
        · exact Or.inl ⟨q1, m', q2, hs.trans q3, q4⟩
        · exact Or.inr ⟨r2, b2, m', q1, by omega, q3, hs.trans q4, q5, q6, q7⟩
/-- the walk stands behind a route, or at its beginning, and so much is left -/
def WS (m : Mm) (N : Nt) (L : List (List Int)) (k : Nat) : Prop := (isPth m 256 [] ∧ L = rem N [] 0 ∧ rnd N [] 0 ≤ k) ∨ ∃ r b, isPth m 256 (r.reverse ++ [b]) ∧ L = rem N r (b + 1) ∧ rnd N r (b + 1) ≤ k ∧ pOK N (r.reverse ++ [b]) ∧ aHd N b = nT N
theorem advance_eq (hfu : 200000 ≤ fu) (hN : isNet m 2 N) {L : List (List Int)} {k : Nat} (hk : k ≤ 131072) (h : WS m N L k) :
    (L = [] ∧ ∃ m', f_X7_advance fu 255 (mem w m) = some (iI 0, mem w m') ∧ sameW m m' ∧ isPth m' 256 []) ∨
    (∃ r L' m' k', L = r :: L' ∧ k' < k ∧ f_X7_advance fu 255 (mem w m) = some (iI 1, mem w m') ∧ sameW m m' ∧ isPth m' 256 r ∧ pOK N r ∧ endOf N r = nT N ∧ r ≠ [] ∧ WS m' N L' k') := by
  have hW := hN.2.2.1
  unfold f_X7_advance
  rcases h with ⟨h1, h2, h3⟩ | ⟨r, b, h1, h2, h3, h4, h5⟩
  · simp (disch := omega) only [Option.bind_some, bd2_some, bdX_ok, bdX_er, nm_eq, n_0, n_1, n_2, n_3, n_4, n_5, n_6, n_7, n_8, n_9, n_10, n_11, n_12, n_14, n_15, n_16, n_17, n_18, n_19, n_20, n_21, n_24, n_27, n_28, n_32, n_43, n_45, n_48, n_56, n_57, n_59, n_64, n_70, n_97, n_99, n_100, n_104, n_118, n_122, n_126, n_127, n_128, n_129, n_130, n_150, n_255, n_600, n_1000, n_1050, n_1200, n_999999, n_1000000, iI_neg, iI_add, iI_sub, iI_mul, ile, ilt, ieq, G7_1, Q_len h1, Q_arr h1, Q_has h1, pop_nil h1]
    rw [show (-1 : Int) + 1 = 0 from rfl]
    rcases advance_go (w := w) (fu := fu) (by omega) k fu m [] 0 0 hN h1 pOK_nil h3 (by omega) (by omega) (by omega) (by omega) (by omega) with ⟨q1, m', q2, q3, q4⟩ | ⟨r2, b2, m', q1, q2, q3, q4, q5, q6, q7⟩
    · exact Or.inl ⟨h2.trans q1, m', q2, q3, q4⟩
    · exact Or.inr ⟨r2.reverse ++ [b2], rem N r2 (b2 + 1), m', rnd N r2 (b2 + 1), h2.trans q1, by omega, q3, q4, q5, q6, by rw [endOf_snoc]; exact q7, by simp, Or.inr ⟨r2, b2, q5, rfl, Nat.le_refl _, q6, q7⟩⟩
  · obtain ⟨p1, p2, p3, p4⟩ := pOK_init h4
    simp (disch := omega) only [Option.bind_some, bd2_some, bdX_ok, bdX_er, nm_eq, n_0, n_1, n_2, n_3, n_4, n_5, n_6, n_7, n_8, n_9, n_10, n_11, n_12, n_14, n_15, n_16, n_17, n_18, n_19, n_20, n_21, n_24, n_27, n_28, n_32, n_43, n_45, n_48, n_56, n_57, n_59, n_64, n_70, n_97, n_99, n_100, n_104, n_118, n_122, n_126, n_127, n_128, n_129, n_130, n_150, n_255, n_600, n_1000, n_1050, n_1200, n_999999, n_1000000, iI_neg, iI_add, iI_sub, iI_mul, ile, ilt, ieq, G7_1, Q_len h1, Q_arr h1, Q_has h1, pop_eq h1]
    have hs : sameW m (up m 256 1 (r.reverse.length)) := sameW_up (Or.inl rfl)
    rcases advance_go (w := w) (fu := fu) (by omega) k fu (up m 256 1 (r.reverse.length)) r (b + 1) 0 (hs.net hN) (pop_is h1) p1 h3 (by omega) (by omega) (by omega) (by omega) (by omega) with ⟨q1, m', q2, q3, q4⟩ | ⟨r2, b2, m', q1, q2, q3, q4, q5, q6, q7⟩
    · exact Or.inl ⟨h2.trans q1, m', q2, hs.trans q3, q4⟩
    · exact Or.inr ⟨r2.reverse ++ [b2], rem N r2 (b2 + 1), m', rnd N r2 (b2 + 1), h2.trans q1, by omega, q3, hs.trans q4, q5, q6, by rw [endOf_snoc]; exact q7, by simp, Or.inr ⟨r2, b2, q5, rfl, Nat.le_refl _, q6, q7⟩⟩
theorem WS.len {L : List (List Int)} {k : Nat} (h : WS m N L k) : L.length ≤ k := by
  rcases h with ⟨h1, h2, h3⟩ | ⟨r, b, h1, h2, h3, -⟩
  · rw [h2]; exact Nat.le_trans (rem_len _ _) h3
  · rw [h2]; exact Nat.le_trans (rem_len _ _) h3
theorem wbegin_eq (hW : WFN N) : ∃ m', f_X7_begin fu 255 (mem w m) = some ((), mem w m') ∧ sameW m m' ∧ WS m' N (routesOf N) 131072 := by
  refine ⟨up m 256 1 0, ?_, sameW_up (Or.inl rfl), Or.inl ⟨clear_is isP_256, rfl, rnd_le hW⟩⟩
  unfold f_X7_begin
  simp (disch := omega) only [Option.bind_some, bd2_some, bdX_ok, bdX_er, nm_eq, n_0, n_1, n_2, n_3, n_4, n_5, n_6, n_7, n_8, n_9, n_10, n_11, n_12, n_14, n_15, n_16, n_17, n_18, n_19, n_20, n_21, n_24, n_27, n_28, n_32, n_43, n_45, n_48, n_56, n_57, n_59, n_64, n_70, n_97, n_99, n_100, n_104, n_118, n_122, n_126, n_127, n_128, n_129, n_130, n_150, n_255, n_600, n_1000, n_1050, n_1200, n_999999, n_1000000, iI_neg, iI_add, iI_sub, iI_mul, ile, ilt, ieq, G7_1, P_has isP_256, clear_eq isP_256]
end WK
