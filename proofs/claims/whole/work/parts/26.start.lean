/-! what the Statement gives of the start -/
theorem tb_lw {w : Cond} (h : w ∈ TBg) : w ∈ lw_tbl := (List.mem_filter.mp h).1
def gv1 : Cond := Jvm.Cond.and given_1 narrow_1
def txT : List Term := [.string RX9 91, .string RX9 107, .string RX9 113, .string RX9 123]
def tmT (i : Nat) : Term := txT.getD i (.string RX9 91)
theorem gv_ex : ∀ i, i < 4 → (Cond.exactly (tmT i) "java/lang/String") ∈ flatC gv1 := by decide +kernel
theorem gv_co : ∀ i, i < 4 → (Cond.eq (.field (tmT i) "java/lang/String" "coder" "B") (.int 0)) ∈ flatC gv1 := by decide +kernel
theorem gv_ar : ∀ i, i < 4 → (Cond.arrayOf (.field (tmT i) "java/lang/String" "value" "[B") .byte) ∈ flatC gv1 := by decide +kernel
theorem gv_le : ∀ i, i < 4 → (Cond.eq (.length (.field (tmT i) "java/lang/String" "value" "[B")) (.int (Int32.ofNat (lensT.getD i 0)))) ∈ flatC gv1 := by decide +kernel
theorem gv_el : ∀ i, i < 4 → ∀ j, j < lensT.getD i 0 → (Cond.eq (.elem (.field (tmT i) "java/lang/String" "value" "[B") (.int (Int32.ofNat j))) (.int ((bytsT.getD i []).getD j 0))) ∈ flatC gv1 := by decide +kernel
theorem gv_eq : ∀ i, i < 4 → (Cond.eq (tmT i) (.string RX11 ([171, 155, 161, 166].getD i 0))) ∈ flatC gv1 := by decide +kernel
theorem gv_ms : ∀ q ∈ msgT, (Cond.exactly (.string q.1 q.2.1) "java/lang/String") ∈ flatC gv1 := by decide +kernel
theorem gv_nc : ∀ q ∈ ncT, (Cond.not (.castable q.1 q.2)) ∈ flatC gv1 := by decide +kernel
theorem gv_cs : (Cond.eq (.static "java/lang/String" "COMPACT_STRINGS" "Z") (.int 1)) ∈ flatC gv1 := by decide +kernel
theorem gv_ff : (Cond.isRef (.static "jdk/internal/util/Preconditions" "SIOOBE_FORMATTER" "Ljava/util/function/BiFunction;")) ∈ flatC gv1 := by decide +kernel
theorem lw_ff : (Cond.laysStatic "jdk/internal/util/Preconditions" "SIOOBE_FORMATTER" "Ljava/util/function/BiFunction;") ∈ lw_tbl ∧ (Cond.initialized "jdk/internal/util/Preconditions") ∈ lw_tbl := by decide +kernel
theorem gv_us : (Cond.isRef (.static Bundle.tN "UNASSIGNED_STACK" Bundle.steD)) ∈ flatC gv1 := by decide +kernel
theorem gv_ss : (Cond.isRef (.static Bundle.tN "SUPPRESSED_SENTINEL" Bundle.listD)) ∈ flatC gv1 := by decide +kernel
theorem lw_sr : ∀ q ∈ strT, (Cond.stringRef q.1 q.2.1 q.2.2.1) ∈ lw_tbl := by decide +kernel
theorem lw_mr : ∀ q ∈ msgT, (Cond.stringRef q.1 q.2.1 q.2.2) ∈ lw_tbl := by decide +kernel
theorem lw_nest : ∀ q ∈ nestT, (Cond.methodLinkNest q.1 q.2.1 q.2.2 "RouteBudget") ∈ lw_tbl := by decide +kernel
theorem lw_nw : ∀ w ∈ nwT, w ∈ lw_tbl := by decide +kernel
theorem lw_misc : ∀ w ∈ [Cond.laysStatic "java/lang/String" "COMPACT_STRINGS" "Z", .initialized "java/lang/String", .laysStatic Bundle.tN "UNASSIGNED_STACK" Bundle.steD, .laysStatic Bundle.tN "SUPPRESSED_SENTINEL" Bundle.listD, .initialized Bundle.tN, .arrayOver (.object RX5), .arrayOver (.object RX8), .arrayOver (.array .int), .arrayClass .byte, .arrayClass .int, .arrayClass .long, .arrayClass .double], w ∈ lw_tbl := by decide +kernel
theorem lw_inst : ∀ r ∈ vwCl, (Cond.instantiable r.1 r.2.2) ∈ lw_tbl := by
  intro r hr
  simp only [vwCl, List.mem_cons, List.not_mem_nil, or_false] at hr
  rcases hr with rfl | rfl | rfl | rfl | rfl | rfl | rfl | rfl | rfl | rfl | rfl | rfl <;> decide +kernel
theorem eqR {args : Array Value} {s : State} {t t' : Term} {a : Nat} (h : (Cond.eq t t').before args s = true) (ht : t.eval args s none [] s = some (.ref a)) : t'.eval args s none [] s = some (.ref a) := by
  unfold Cond.before Cond.holds at h
  simp only [Cond.value, ht] at h
  cases hv : t'.eval args s none [] s with
  | none => simp [hv] at h
  | some w =>
    rw [hv] at h
    cases w <;> simp at h
    rw [h]
