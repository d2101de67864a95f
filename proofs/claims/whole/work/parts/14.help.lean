/-! words for the functions that are read off the code -/
def bd2 {α β : Type} (x : Option (α × List Ob)) (f : α → List Ob → Option β) : Option β := match x with
  | some p => f p.1 p.2
  | none => none
theorem bd2E {α β : Type} {x : Option (α × List Ob)} {f : α → List Ob → Option β} {b : β} (h : bd2 x f = some b) : ∃ a M, x = some (a, M) ∧ f a M = some b := by
  cases x with
  | none => cases h
  | some p => exact ⟨p.1, p.2, rfl, h⟩
def bdX {α β : Type} (x : Option (Except String α × List Ob)) (f : α → List Ob → Option (Except String β × List Ob)) : Option (Except String β × List Ob) := match x with
  | some (.ok a, M) => f a M
  | some (.error e, M) => some (.error e, M)
  | none => none
theorem bdXE {α β : Type} {x : Option (Except String α × List Ob)} {f : α → List Ob → Option (Except String β × List Ob)} {b : Except String β × List Ob} (h : bdX x f = some b) : (∃ a M, x = some (.ok a, M) ∧ f a M = some b) ∨ (∃ e M, x = some (.error e, M) ∧ (.error e, M) = b) := by
  cases x with
  | none => cases h
  | some p =>
    obtain ⟨q, M⟩ := p
    cases q with
    | ok a => exact Or.inl ⟨a, M, rfl, h⟩
    | error e => exact Or.inr ⟨e, M, rfl, Option.some.inj h⟩
def nm {α β : Type} (a : α) (f : α → Option β) : Option β := f a
theorem nmE {α β : Type} {a : α} {f : α → Option β} {b : β} (h : nm a f = some b) : ∃ x, x = a ∧ f x = some b := ⟨a, rfl, h⟩
def oU (x : Unit × List Ob) : Out := (.inl none, x.2)
def oI (x : Int32 × List Ob) : Out := (.inl (some (.int x.1)), x.2)
def oP (x : Nat × List Ob) : Out := (.inl (some (.ref x.1)), x.2)
def oF (x : UInt32 × List Ob) : Out := (.inl (some (.float x.1)), x.2)
def xR {α : Type} (f : α → Option Value) (x : Except String α) : Rs := match x with
  | .ok a => .inl (f a)
  | .error e => .inr e
def xU (x : Except String Unit × List Ob) : Out := (xR (fun _ => none) x.1, x.2)
def xI (x : Except String Int32 × List Ob) : Out := (xR (fun a => some (.int a)) x.1, x.2)
def xP (x : Except String Nat × List Ob) : Out := (xR (fun a => some (.ref a)) x.1, x.2)
def xF (x : Except String UInt32 × List Ob) : Out := (xR (fun a => some (.float a)) x.1, x.2)
theorem cat_all {As : List Value} (h : As.all (fun v => v.category == 1) = true) : ∀ v ∈ As, v.category = 1 := fun v hv => by
  have := List.all_eq_true.mp h v hv
  simpa using this
theorem sw_out {x : Int32} {n : Nat} (hn : n < 2 ^ 31) (h : ∀ j : Nat, j ≤ n → ¬ x = Int32.ofNat j) : x.toInt < 0 ∨ (n : Int) < x.toInt := by
  by_cases h0 : x.toInt < 0
  · exact Or.inl h0
  · refine Or.inr (Int.not_le.mp fun h1 => ?_)
    refine h x.toInt.toNat (by omega) ?_
    apply Int32.toInt_inj.mp
    rw [Int32.toInt_ofNat_of_lt (by omega)]
    omega
theorem math_i : Cond.initialized "java/lang/Math" ∈ TBg := TBg_of 66 (by decide +kernel) rfl
theorem mmin_s : Cond.static Lib.Math.min.name ∈ TBg := TBg_of 545 (by decide +kernel) rfl
theorem mmin_c : Cond.code Lib.Math.min.name Lib.Math.min.code 2 (some .int) ∈ TBg := TBg_of 546 (by decide +kernel) rfl
theorem X.mmin {G : GT} {t : Mt} {hh : List (Nat × Nat × Nat × Nat)} {pc pc' : Nat} {L : List (Option Value)} {st : List Value} {M : List Ob} {k n : Nat} {o : Out} {idx : Nat} {x y : Int32} (d : decode (mB t) pc = .ok (.invokestatic idx, 3)) (hp : pc + 3 = pc') (hl : Cond.methodLink (mN t).cls idx Lib.Math.min.name ∈ TBg) (hf : 1 ≤ mF t) (hw : (st.map fun v => v.category).sum + 13 ≤ mW t) (hk : k ≤ mC t) (hn : n ≤ mS t) (kk : X G t hh pc' L (.int (if y < x then y else x) :: st) M k n o) : X G t hh pc L (.int y :: .int x :: st) M k n o := by
  subst hp
  intro p e s m args below meth c A H locs ls hC hH hL
  have hts := hC.2.2.2.2.2.2.1
  exact va_mmin hC.1 hC.2.1 (hC.2.2.1.trans hL.1.1.symm) hC.2.2.2.2.2.1 (hts _ hl) (hts _ mmin_s) (hts _ math_i) (hts _ mmin_c) hf (by rw [cats_map]; exact hw) hk hn d (kk p e s m args below meth c A H locs ls hC hH hL)
/-- a method of a text is called -/
theorem X.callT {G : GT} {t t' : Mt} {hh : List (Nat × Nat × Nat × Nat)} {pc pc' : Nat} {L : List (Option Value)} {st : List Value} {M M' : List Ob} {k n : Nat} {o : Out} {idx na b : Nat} {As : List Value} {v : Option Value} (d : decode (mB t) pc = .ok (.invokevirtual idx, 3)) (hp : pc + 3 = pc') (hc : Cl (mN t).cls idx t' na) (hi : Cond.instanceMethod (mN t') ∈ TBg) (hs : Cond.selects (mN t').cls (mN t') (mN t') ∈ TBg) (hb : 1000000 ≤ b ∧ b < 1000004) (hf : Fit t t' k n) (hn : As.length = na) (hst : (st.map fun v => v.category).sum ≤ 8) (hsp : Sp (zs G) t' (.ref b :: As) M (.inl v, M')) (kk : X G t hh pc' L (v.toList ++ st) M' (k + mC t') (n + mS t') o) (hcl : (mN t').cls = "java/lang/String" := by rfl) : X G t hh pc L (As.reverse ++ .ref b :: st) M k n o := by
  subst hp
  intro p e s m args below meth c A H locs ls hC hH hL
  have hts := hC.2.2.2.2.2.2.1
  have e1 : (As.reverse ++ Value.ref b :: st).map (cv (gR G)) = (As.map (cv (gR G))).reverse ++ .ref (gR G b) :: st.map (cv (gR G)) := by
    rw [List.map_append, List.map_reverse]; rfl
  rw [e1]
  have hrecv : ∃ cellB : Cell, H[gR G b]? = some cellB ∧ cellB.vm.isStatics = false ∧ s.vm.findClass (mN t').cls = some cellB.cls := by
    have hS := hC.2.2.2.2.2.2.2.2.2.1.2.2.1.1
    have := vk_recv hS (i := b - 1000000) (by show b - 1000000 < 4; omega) hH.2.2.1
    rw [show 1000000 + (b - 1000000) = b by omega] at this
    rw [hcl]
    exact this
  refine X.back hC hH (va_runV (As := As.map (cv (gR G))) (rest := st.map (cv (gR G))) ⟨hC.1, hC.2.1, hC.2.2.1, hC.2.2.2.2.2.1, hts⟩ (hsp H.size) ⟨hc.callB hf hts, hts _ hi, hts _ hs⟩ ⟨Pr_blind G M H.size _, hrecv, Pr_call (As := .ref b :: As) hC hH⟩ rfl (by rw [List.length_map]; exact hn) hL.1.1 rfl (lv_room (by rw [cats_map]; exact hst)) d hf.2) ?_
  exact fun H1 locs1 hH1 => kk p e s m args below meth c A H1 locs1 ls hC hH1 hL
