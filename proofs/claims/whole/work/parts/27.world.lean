/-! the world at the start -/
def miscT : List Cond := [Cond.laysStatic "java/lang/String" "COMPACT_STRINGS" "Z", .initialized "java/lang/String", .laysStatic Bundle.tN "UNASSIGNED_STACK" Bundle.steD, .laysStatic Bundle.tN "SUPPRESSED_SENTINEL" Bundle.listD, .initialized Bundle.tN, .arrayOver (.object RX5), .arrayOver (.object RX8), .arrayOver (.array .int), .arrayClass .byte, .arrayClass .int, .arrayClass .long, .arrayClass .double]
theorem misc_at {s : State} {b : Nat} (ht : ∀ w ∈ lw_tbl, w.before #[Value.ref b] s = true) (i : Nat) {w : Cond} (h : miscT[i]? = some w) : w.before #[Value.ref b] s = true := ht w (lw_misc w (List.mem_of_getElem? (l := miscT) h))
theorem txt_at {s : State} {b : Nat} {A : Nat → Prop} (hg : ∀ w ∈ flatC gv1, w.before #[Value.ref b] s = true) (hA : ∀ a : Nat, a < s.heap.size → ¬ A a) : ∃ adK adV : Nat → Nat, vk_S lensT.length lensT bytsT adK adV A s s.heap ∧ ∀ i : Nat, i < 4 → (tmT i).eval #[Value.ref b] s none [] s = some (.ref (adK i)) := by
  have h0 : ∀ i : Nat, ∃ q : Nat × Nat, i < 4 → (tmT i).eval #[Value.ref b] s none [] s = some (.ref q.1) ∧ va_O "java/lang/String" q.1 A s s.heap ∧ va_OF "java/lang/String" "coder" "B" (.int 0) q.1 A s s.heap ∧ va_OF "java/lang/String" "value" "[B" (.ref q.2) q.1 A s s.heap ∧ va_T .byte q.2 (lensT.getD i 0) (fun j => .int ((bytsT.getD i []).getD j 0)) A s s.heap := by
    intro i
    by_cases hi : i < 4
    · obtain ⟨a, c, cA, kA, q1, q2, q3, q4, q5, q6, -⟩ := Cond.exactly_spec (args := #[Value.ref b]) (first := s) (o := none) (s := s) (idx := []) (t := tmT i) (cls := "java/lang/String") (hg _ (gv_ex i hi))
      obtain ⟨t, ht, hT⟩ := va_Tof (f := fun j => .int ((bytsT.getD i []).getD j 0)) (A := A) (show lensT.getD i 0 < 2 ^ 31 from (by decide : ∀ i, i < 4 → lensT.getD i 0 < 2 ^ 31) i hi) (hg _ (gv_ar i hi)) (va_eqt (hg _ (gv_le i hi))) (fun j hj => va_eqt (hg _ (gv_el i hi j hj))) hA
      exact ⟨(a, t), fun _ => ⟨q1, ⟨cA, q3, q5, by rw [q6]; exact q2, hA a (Array.getElem?_eq_some_iff.mp q3).1⟩, vk_OFof q1 (va_eqt (hg _ (gv_co i hi))) hA, vk_OFof q1 ht hA, hT⟩⟩
    · exact ⟨(0, 0), fun h => absurd h hi⟩
  obtain ⟨ad, had⟩ := Classical.axiomOfChoice h0
  refine ⟨fun i => (ad i).1, fun i => (ad i).2, ⟨fun i hi => (had i hi).2, fun i j hi hj e => ?_⟩, fun i hi => (had i hi).1⟩
  obtain ⟨-, -, -, v1, t1⟩ := had i hi
  obtain ⟨-, -, -, v2, t2⟩ := had j hj
  have e : (ad i).1 = (ad j).1 := e
  rw [e] at v1
  obtain ⟨cf, k, fi, f, cell, g1, -, g2, -, g3, -⟩ := v1
  obtain ⟨cf', k', fi', f', cell', r1, -, r2, -, r3, -⟩ := v2
  cases g1.symm.trans r1
  cases g2.symm.trans r2
  have e2 : (ad i).2 = (ad j).2 := by
    have := g3.symm.trans r3
    injection this with this
    injection this
  rw [e2] at t1
  obtain ⟨c1, a1, -, -, a2, a3, a4, -⟩ := t1
  obtain ⟨c2, b1, -, -, b2, b3, b4, -⟩ := t2
  cases a1.symm.trans b1
  have hl : (lensT.getD i 0) = (lensT.getD j 0) := by
    have h9 := a3.symm.trans b3
    have u1 : (lensT.getD i 0) < 2 ^ 31 := (by decide : ∀ i, i < 4 → lensT.getD i 0 < 2 ^ 31) i hi
    have u2 : (lensT.getD j 0) < 2 ^ 31 := (by decide : ∀ i, i < 4 → lensT.getD i 0 < 2 ^ 31) j hj
    have := congrArg Int32.toInt h9
    rw [Int32.toInt_ofNat_of_lt u1, Int32.toInt_ofNat_of_lt u2] at this
    omega
  have h0i : (0 : Nat) < lensT.getD i 0 := (by decide : ∀ i, i < 4 → 0 < lensT.getD i 0) i hi
  have hv := (a4 0 h0i).symm.trans (b4 0 (by omega))
  have hv : (bytsT.getD i []).getD 0 0 = (bytsT.getD j []).getD 0 0 := by
    injection hv with hv
    injection hv
  exact (by decide : ∀ i, i < 4 → ∀ j, j < 4 → (bytsT.getD i []).getD 0 0 = (bytsT.getD j []).getD 0 0 → i = j) i hi j hj hv
theorem fmt_at {s : State} {b : Nat} {A : Nat → Prop} (hg : ∀ w ∈ flatC gv1, w.before #[Value.ref b] s = true) (ht : ∀ w ∈ lw_tbl, w.before #[Value.ref b] s = true) (hA : ∀ a : Nat, a < s.heap.size → ¬ A a) : ∃ f : Nat, va_Z "jdk/internal/util/Preconditions" "SIOOBE_FORMATTER" "Ljava/util/function/BiFunction;" .null A s s.heap ∨ va_Z "jdk/internal/util/Preconditions" "SIOOBE_FORMATTER" "Ljava/util/function/BiFunction;" (.ref f) A s s.heap := by
  rcases va_Zqof (ht _ lw_ff.1) (ht _ lw_ff.2) (hg _ gv_ff) hA with h | ⟨f, h⟩
  · exact ⟨0, Or.inl h⟩
  · exact ⟨f, Or.inr h⟩
/-- array classes -/
theorem arr_at {s : State} {b : Nat} (ht : ∀ w ∈ lw_tbl, w.before #[Value.ref b] s = true) : ∃ ca : Nat → ClassId, ∀ k, 12 ≤ k → k < 19 → ArrOfT s (ca k) (aKind k) ∧ va_RA s (ca k) (aKind k) := by
  have prim : ∀ ty : FieldType, (Cond.arrayClass ty).before #[Value.ref b] s = true → (∀ C, ty ≠ .object C) → ∃ c, ArrOfT s c ty ∧ va_RA s c ty := fun ty h hn => by
    obtain ⟨c, k, comp, h1, h2, h3⟩ := Cond.arrayClass_spec h
    refine ⟨c, fun n z => ⟨fun k h => (by cases h), k, h2, comp, h3⟩, ?_⟩
    cases ty with
    | object C => exact absurd rfl (hn C)
    | _ => exact h1
  have obj : ∀ C : String, (Cond.arrayOver (.object C)).before #[Value.ref b] s = true → ∃ c, ArrOfT s c (.object C) ∧ va_RA s c (.object C) := fun C h => by
    obtain ⟨comp, c, k, h1, h2, h3, h4, h5⟩ := Cond.arrayOver_spec h
    exact ⟨c, fun n z => ⟨fun k h => (by cases h), k, h3, comp, h4⟩, k, comp, h3, h4, h1, h5⟩
  have arr : ∀ t : FieldType, (Cond.arrayOver (.array t)).before #[Value.ref b] s = true → ∃ c, ArrOfT s c (.array t) ∧ va_RA s c (.array t) := fun t h => by
    obtain ⟨comp, c, k, h1, h2, h3, h4, h5⟩ := arrayOverA_spec h
    exact ⟨c, fun n z => ⟨fun k h => (by cases h), k, h3, comp, h4⟩, h5⟩
  have h0 : ∀ k : Nat, ∃ c : ClassId, 12 ≤ k → k < 19 → ArrOfT s c (aKind k) ∧ va_RA s c (aKind k) := by
    intro k
    by_cases h : 12 ≤ k ∧ k < 19
    · obtain ⟨h1, h2⟩ := h
      have : k = 12 ∨ k = 13 ∨ k = 14 ∨ k = 15 ∨ k = 16 ∨ k = 17 ∨ k = 18 := by omega
      rcases this with rfl | rfl | rfl | rfl | rfl | rfl | rfl
      · obtain ⟨c, h⟩ := prim .byte (misc_at ht 8 rfl) (fun C h => by cases h)
        exact ⟨c, fun _ _ => h⟩
      · obtain ⟨c, h⟩ := prim .int (misc_at ht 9 rfl) (fun C h => by cases h)
        exact ⟨c, fun _ _ => h⟩
      · obtain ⟨c, h⟩ := obj RX5 (misc_at ht 5 rfl)
        exact ⟨c, fun _ _ => h⟩
      · obtain ⟨c, h⟩ := obj RX8 (misc_at ht 6 rfl)
        exact ⟨c, fun _ _ => h⟩
      · obtain ⟨c, h⟩ := arr .int (misc_at ht 7 rfl)
        exact ⟨c, fun _ _ => h⟩
      · obtain ⟨c, h⟩ := prim .long (misc_at ht 10 rfl) (fun C h => by cases h)
        exact ⟨c, fun _ _ => h⟩
      · obtain ⟨c, h⟩ := prim .double (misc_at ht 11 rfl) (fun C h => by cases h)
        exact ⟨c, fun _ _ => h⟩
    · exact ⟨0, fun h1 h2 => absurd ⟨h1, h2⟩ h⟩
  obtain ⟨ca, hca⟩ := Classical.axiomOfChoice h0
  exact ⟨ca, hca⟩
/-- classes -/
theorem cls_at {s : State} {b : Nat} (ht : ∀ w ∈ lw_tbl, w.before #[Value.ref b] s = true) : ∃ D : va_G, ∀ (k : Nat) (q : vw_C), vwCl[k]? = some q → u_Kn s q.1 q.2.1 q.2.2 (D.1 k) (D.2 k) := by
  have h0 : ∀ k : Nat, ∃ c : ClassId × (Nat → Nat), ∀ q : vw_C, vwCl[k]? = some q → u_Kn s q.1 q.2.1 q.2.2 c.1 c.2 := by
    intro k
    cases hq : vwCl[k]? with
    | none => exact ⟨(0, fun _ => 0), fun q h => by cases h⟩
    | some q =>
      obtain ⟨c, iS, h⟩ := u_known (C := q.1) (T := q.2.1) (N := q.2.2) (n := q.2.2) ht (fun w hw => tb_lw ((kind_ok k q hq).1 w hw)) (ht _ (lw_inst q (List.mem_of_getElem? hq)))
      exact ⟨(c, iS), fun q' h' => by cases h'; exact h⟩
  obtain ⟨D, hD⟩ := Classical.axiomOfChoice h0
  exact ⟨(fun k => (D k).1, fun k => (D k).2), hD⟩
theorem si_at {s : State} {b : Nat} {xs : List Int32} {A : Nat → Prop} {ρ : Nat → Nat} (hg : ∀ w ∈ flatC gv1, w.before #[Value.ref b] s = true) (ht : ∀ w ∈ lw_tbl, w.before #[Value.ref b] s = true) (hA : ∀ a : Nat, a < s.heap.size → ¬ A a)
    (hS : vk_S lensT.length lensT bytsT (fun i => ρ (1000000 + i)) (fun i => ρ (2000000 + i)) A s s.heap) (hF : va_Z "jdk/internal/util/Preconditions" "SIOOBE_FORMATTER" "Ljava/util/function/BiFunction;" .null A s s.heap ∨ va_Z "jdk/internal/util/Preconditions" "SIOOBE_FORMATTER" "Ljava/util/function/BiFunction;" (.ref (ρ 2500000)) A s s.heap) (he : ∀ i : Nat, i < 4 → (tmT i).eval #[Value.ref b] s none [] s = some (.ref (ρ (1000000 + i)))) (hX : va_X b xs.length (fun j => xs.getD j 0) s s.heap) (hr : ρ 3000000 = b) (hb : b < s.heap.size) : SI xs ρ A s s.heap := by
  have txt : ∀ q ∈ strT, (Term.string q.1 q.2.1).eval #[Value.ref b] s none [] s = some (.ref (ρ (1000000 + q.2.2.2))) := fun q hq => by
    simp only [strT, List.mem_cons, List.not_mem_nil, or_false] at hq
    rcases hq with rfl | rfl | rfl | rfl | rfl | rfl | rfl | rfl
    · exact he 0 (by decide)
    · exact he 1 (by decide)
    · exact he 2 (by decide)
    · exact he 3 (by decide)
    · exact eqR (hg _ (gv_eq 0 (by decide))) (he 0 (by decide))
    · exact eqR (hg _ (gv_eq 1 (by decide))) (he 1 (by decide))
    · exact eqR (hg _ (gv_eq 2 (by decide))) (he 2 (by decide))
    · exact eqR (hg _ (gv_eq 3 (by decide))) (he 3 (by decide))
  refine ⟨fun q hq => vk_R.of (ht _ (lw_sr q hq)) (txt q hq), fun q hq => ?_, ⟨hS, hF⟩, ⟨va_Zof (misc_at ht 0 rfl) (misc_at ht 1 rfl) (va_eqi (hg _ gv_cs)) hA, fun q hq => va_Nw.of rfl (ht _ (lw_nest q hq)), fun w hw => va_Nw.of (nw_tab hw) (ht _ (lw_nw w hw)), fun q hq => va_Nc.of (hg _ (gv_nc q hq)), va_AO.of (misc_at ht 5 rfl), va_AO.of (misc_at ht 6 rfl), va_AOA.of (misc_at ht 7 rfl), by rw [hr]; exact hX, by rw [hr]; exact hb, by rw [hr]; exact hA b hb⟩, vx_Zqof (misc_at ht 2 rfl) (misc_at ht 4 rfl) (hg _ gv_us) hA, vx_Zqof (misc_at ht 3 rfl) (misc_at ht 4 rfl) (hg _ gv_ss) hA⟩
  obtain ⟨a, c, cA, kA, q1, -⟩ := Cond.exactly_spec (args := #[Value.ref b]) (first := s) (o := none) (s := s) (idx := []) (t := .string q.1 q.2.1) (cls := "java/lang/String") (hg _ (gv_ms q hq))
  exact ⟨a, vk_R.of (ht _ (lw_mr q hq)) q1⟩
