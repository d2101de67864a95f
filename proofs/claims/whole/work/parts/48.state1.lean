/-! states: the network, told routes, the draft, the steps of the journey (an arc, and 100 for a delay) -/
abbrev Sg : Type := Nt × List (List Int) × List Int × List Int
def sN (x : Sg) : Nt := x.1
def sR (x : Sg) : List (List Int) := x.2.1
def sD (x : Sg) : List Int := x.2.2.1
def sJ (x : Sg) : List Int := x.2.2.2
/-- place, time and left budget behind a step -/
def jst1 (N : Nt) (x : Int × Int × Int) (c : Int) : Int × Int × Int := (aHd N (c % 100), x.2.1 + aCo N (c % 100) + (if 100 ≤ c then aEx N (c % 100) else 0), x.2.2 - (if 100 ≤ c then 1 else 0))
def jst (N : Nt) (S : List Int) : Int × Int × Int := S.foldl (jst1 N) (nS N, 0, nB N)
def jRep (m : Mm) (q : Nat) (N : Nt) (S : List Int) : Prop := isJ q ∧ m q 0 = S.length ∧ S.length ≤ 20 ∧ ∀ j : Nat, j ≤ S.length → m (q + 1) j = (jst N (S.take j)).1 ∧ m (q + 2) j = (jst N (S.take j)).2.1 ∧ m (q + 3) j = (jst N (S.take j)).2.2
def cRep (m : Mm) (b : Nat) (x : Sg) : Prop := isS b ∧ isNet m (b + 1) (sN x) ∧ isTolds m b (sR x) ∧ isPth m (b + 6) (sD x) ∧ jRep m (b + 21) (sN x) (sJ x)
theorem jRep.cong {m m' : Mm} {q : Nat} {N : Nt} {S : List Int} (h : jRep m q N S) (h0 : m' q = m q) (h1 : m' (q + 1) = m (q + 1)) (h2 : m' (q + 2) = m (q + 2)) (h3 : m' (q + 3) = m (q + 3)) : jRep m' q N S := ⟨h.1, by rw [h0]; exact h.2.1, h.2.2.1, fun j hj => by rw [h1, h2, h3]; exact h.2.2.2 j hj⟩
theorem isTolds.cong2 {m m' : Mm} {b : Nat} {T : List (List Int)} (h : isTolds m b T) (h0 : m' b = m b) (h1 : ∀ p, b + 9 ≤ p → p < b + 21 → m' p = m p) : isTolds m' b T := by
  have h6 := h.2.2.1
  refine ⟨h.1, by rw [h0]; exact h.2.1, h6, fun i x hi => ?_⟩
  have := (List.getElem?_eq_some_iff.mp hi).1
  exact (h.2.2.2 i x hi).cong (h1 _ (by omega) (by omega)) (h1 _ (by omega) (by omega))
/-- a state is what lies in its block -/
theorem cRep.cong {m m' : Mm} {b : Nat} {x : Sg} (h : cRep m b x) (h0 : ∀ p, b ≤ p → p < b + 25 → m' p = m p) : cRep m' b x :=
  ⟨h.1, h.2.1.cong (h0 _ (by omega) (by omega)) (h0 _ (by omega) (by omega)) (h0 _ (by omega) (by omega)) (h0 _ (by omega) (by omega)) (h0 _ (by omega) (by omega)), h.2.2.1.cong2 (h0 _ (by omega) (by omega)) (fun p a c => h0 p (by omega) (by omega)), h.2.2.2.1.cong (h0 _ (by omega) (by omega)) (h0 _ (by omega) (by omega)), h.2.2.2.2.cong (h0 _ (by omega) (by omega)) (h0 _ (by omega) (by omega)) (h0 _ (by omega) (by omega)) (h0 _ (by omega) (by omega))⟩
theorem bases_apart : ∀ b ∈ basesS, ∀ c ∈ basesS, b ≠ c → b + 25 ≤ c ∨ c + 25 ≤ b := by decide +kernel
theorem cut_cong {A : Int} {f g : Int → Int} (h : ∀ k, 0 ≤ k → k < A → f k = g k) : cut A f = cut A g := by
  funext k
  unfold cut
  split
  · rename_i q; exact h k q.1 q.2
  · rfl
section ST
variable {w : Wl} {m : Mm} {fu b c : Nat} {N : Nt} {x : Sg}
/-- a network is copied -/
theorem ncopy_eq (h : isN b) (h' : isN c) (hd : b + 5 ≤ c ∨ c + 5 ≤ b) : ∃ m', f_X4_copyFrom fu b c (mem w m) = some ((), mem w m') ∧ (∀ p, (p < b ∨ b + 5 ≤ p) → m' p = m p) ∧ ∀ N, isNet m c N → isNet m' b N := by
  obtain ⟨a0, a1, a2, a3, a4⟩ := h
  obtain ⟨c0, c1, c2, c3, c4⟩ := h'
  have hb : isN b := ⟨a0, a1, a2, a3, a4⟩
  have hc : isN c := ⟨c0, c1, c2, c3, c4⟩
  have key : ∀ (m : Mm) (x y : Nat), x ≠ y → SK[x]? = some (13, List.replicate 16 none) → SK[y]? = some (13, List.replicate 16 none) → aCopy (mem w m) x (iI 0) y (iI 0) (iI 16) = some (mem w (cpm m x 0 y 0 16)) := fun m x y _ hx hy => aCopy_mem hx hy (by omega) (by omega) (by omega) (by decide) (by decide) (by decide) (by decide)
  unfold f_X4_copyFrom
  simp (disch := omega) only [Option.bind_some, bd2_some, bdX_ok, bdX_er, nm_eq, n_0, n_1, n_2, n_3, n_4, n_5, n_6, n_7, n_8, n_9, n_10, n_11, n_12, n_14, n_15, n_16, n_17, n_18, n_19, n_20, n_21, n_24, n_27, n_28, n_32, n_43, n_45, n_48, n_56, n_57, n_59, n_64, n_70, n_97, n_99, n_100, n_104, n_118, n_122, n_126, n_127, n_128, n_129, n_130, n_150, n_255, n_600, n_1000, n_1050, n_1200, n_999999, n_1000000, iI_neg, iI_add, iI_sub, iI_mul, ile, ilt, ieq, N_has hb, N_0 hb, N_1 hb, N_2 hb, N_3 hb, N_4 hb, N_5 hb, N_6 hb, N_7 hb, N_8 hb, N_p0 hb, N_p1 hb, N_p2 hb, N_p3 hb, N_p4 hb, N_tl hb, N_hd hb, N_co hb, N_ex hb, N_stl hb, N_shd hb, N_sco hb, N_sex hb, N_has hc, N_0 hc, N_1 hc, N_2 hc, N_3 hc, N_4 hc, N_5 hc, N_6 hc, N_7 hc, N_8 hc, N_p0 hc, N_p1 hc, N_p2 hc, N_p3 hc, N_p4 hc, N_tl hc, N_hd hc, N_co hc, N_ex hc, N_stl hc, N_shd hc, N_sco hc, N_sex hc, key _ (c + 1) (b + 1) (by omega) c1 a1, key _ (c + 2) (b + 2) (by omega) c2 a2, key _ (c + 3) (b + 3) (by omega) c3 a3, key _ (c + 4) (b + 4) (by omega) c4 a4]
  refine ⟨_, rfl, fun p hp => ?_, fun N hN => ?_⟩
  · rw [cpm_ne (by omega), cpm_ne (by omega), cpm_ne (by omega), cpm_ne (by omega), up_ne (by omega), up_ne (by omega), up_ne (by omega), up_ne (by omega), up_ne (by omega)]
  · have e := hN.2.1
    have hw := hN.2.2.1
    have e4 : m c 4 = nA N := by rw [← e]; rfl
    refine ⟨hb, ?_, hN.2.2⟩
    rw [← e]
    unfold netC
    simp (disch := omega) only [cpm_ne, up_ne, up_off, up_at]
    simp only [Prod.mk.injEq, true_and]
    refine ⟨?_, ?_, ?_, ?_⟩ <;> exact cut_cong fun k h0 h1 => by rw [cpm_in (by omega) (by omega)]; simp (disch := omega) only [cpm_ne, up_ne]; congr 1; omega
/-- a journey is copied -/
theorem jcopy_eq (h : isJ b) (h' : isJ c) (hd : b + 4 ≤ c ∨ c + 4 ≤ b) : ∃ m', f_X2_copyFrom fu b c (mem w m) = some ((), mem w m') ∧ (∀ p, (p < b ∨ b + 4 ≤ p) → m' p = m p) ∧ ∀ N S, jRep m c N S → jRep m' b N S := by
  have hb := h
  have hc := h'
  obtain ⟨a0, a1, a2, a3⟩ := h
  obtain ⟨c0, c1, c2, c3⟩ := h'
  have key : ∀ (m : Mm) (x y : Nat), SK[x]? = some (13, List.replicate 21 none) → SK[y]? = some (13, List.replicate 21 none) → aCopy (mem w m) x (iI 0) y (iI 0) (iI 21) = some (mem w (cpm m x 0 y 0 21)) := fun m x y hx hy => aCopy_mem hx hy (by omega) (by omega) (by omega) (by decide) (by decide) (by decide) (by decide)
  unfold f_X2_copyFrom
  simp (disch := omega) only [Option.bind_some, bd2_some, bdX_ok, bdX_er, nm_eq, n_0, n_1, n_2, n_3, n_4, n_5, n_6, n_7, n_8, n_9, n_10, n_11, n_12, n_14, n_15, n_16, n_17, n_18, n_19, n_20, n_21, n_24, n_27, n_28, n_32, n_43, n_45, n_48, n_56, n_57, n_59, n_64, n_70, n_97, n_99, n_100, n_104, n_118, n_122, n_126, n_127, n_128, n_129, n_130, n_150, n_255, n_600, n_1000, n_1050, n_1200, n_999999, n_1000000, iI_neg, iI_add, iI_sub, iI_mul, ile, ilt, ieq, J_has hb, J_0 hb, J_p0 hb, J_1 hb, J_2 hb, J_3 hb, J_g1 hb, J_g2 hb, J_g3 hb, J_s1 hb, J_s2 hb, J_s3 hb, J_has hc, J_0 hc, J_p0 hc, J_1 hc, J_2 hc, J_3 hc, J_g1 hc, J_g2 hc, J_g3 hc, J_s1 hc, J_s2 hc, J_s3 hc, key _ (c + 1) (b + 1) c1 a1, key _ (c + 2) (b + 2) c2 a2, key _ (c + 3) (b + 3) c3 a3]
  refine ⟨_, rfl, fun p hp => ?_, fun N S hS => ?_⟩
  · simp (disch := omega) only [cpm_ne, up_ne]
  · obtain ⟨s1, s2, s3, s4⟩ := hS
    refine ⟨hb, ?_, s3, fun j hj => ?_⟩
    · simp (disch := omega) only [cpm_ne, up_ne, up_at]
      exact s2
    · obtain ⟨q1, q2, q3⟩ := s4 j hj
      simp (disch := omega) only [cpm_ne, up_ne, cpm_in]
      rw [show (0 : Int) + ((j : Int) - 0) = j by omega]
      exact ⟨q1, q2, q3⟩
end ST
