/-! THE CORE: an abstract machine view. Objects and arrays lie in one list of cells, references are places in it; a judgement X for a method's frame, with a rule an instruction. -/
abbrev Ob : Type := Nat × List Value
/-- launch; class numbers and slots; array classes by kind; address of a place; address of place 0; are the places' addresses in a row yet, shall they be at the end; the script -/
abbrev GT : Type := Launch × va_G × (Nat → ClassId) × (Nat → Nat) × Nat × Bool × Bool × List Int32
/-- a method: name, bytes, locals, result; frames and words of room; cells and slots of room; may it throw -/
abbrev Mt : Type := MethodName × ByteArray × Nat × Option FieldType × (Nat × Nat) × (Nat × Nat) × Bool
abbrev Rs : Type := Option Value ⊕ String
abbrev Out : Type := Rs × List Ob
abbrev gL (G : GT) : Launch := G.1
abbrev gD (G : GT) : va_G := G.2.1
abbrev gA (G : GT) : Nat → ClassId := G.2.2.1
abbrev gR (G : GT) : Nat → Nat := G.2.2.2.1
abbrev gN (G : GT) : Nat := G.2.2.2.2.1
abbrev gZ (G : GT) : Bool := G.2.2.2.2.2.1
abbrev gF (G : GT) : Bool := G.2.2.2.2.2.2.1
abbrev gX (G : GT) : List Int32 := G.2.2.2.2.2.2.2
/-- .. of a method that is called -/
abbrev zs (G : GT) : GT := (G.1, G.2.1, G.2.2.1, G.2.2.2.1, G.2.2.2.2.1, gZ G, gZ G, gX G)
abbrev mN (t : Mt) : MethodName := t.1
abbrev mB (t : Mt) : ByteArray := t.2.1
abbrev mL (t : Mt) : Nat := t.2.2.1
abbrev mR (t : Mt) : Option FieldType := t.2.2.2.1
abbrev mF (t : Mt) : Nat := t.2.2.2.2.1.1
abbrev mW (t : Mt) : Nat := t.2.2.2.2.1.2
abbrev mC (t : Mt) : Nat := t.2.2.2.2.2.1.1
abbrev mS (t : Mt) : Nat := t.2.2.2.2.2.1.2
abbrev mT (t : Mt) : Bool := t.2.2.2.2.2.2
abbrev mRoom (t : Mt) : Room := { frames := mF t, cells := mC t, slots := mS t, locals := mW t }
def TBg : List Cond := lw_tbl.filter goodWord
def mWs (t : Mt) : List Cond := Cond.code (mN t) (mB t) (mL t) (mR t) :: TBg
def cv (ρ : Nat → Nat) : Value → Value := fun v => match v with
  | .ref a => .ref (ρ a)
  | w => w
def vI (v : Value) : Int32 := match v with | .int x => x | _ => 0
def vJ (v : Value) : Int64 := match v with | .long x => x | _ => 0
def vD (v : Value) : UInt64 := match v with | .double x => x | _ => 0
def vQ (ρ : Nat → Nat) (v : Value) : Option Nat := match v with | .ref a => some (ρ a) | _ => none
/-- the kinds 12 to 18 are arrays -/
def aKind : Nat → FieldType := fun k => match k with
  | 12 => .byte
  | 13 => .int
  | 14 => .object RX5
  | 15 => .object RX8
  | 16 => .array .int
  | 17 => .long
  | _ => .double
abbrev vPay : Type := (Nat → Int32) ⊕ (Nat → Int64) ⊕ (Nat → UInt32) ⊕ (Nat → UInt64) ⊕ (Nat → Option Nat)
def pay (ρ : Nat → Nat) (k : Nat) (vs : List Value) : vPay :=
  if k < 14 then .inl (fun j => vI (vs.getD j .null)) else if k < 17 then .inr (.inr (.inr (.inr (fun j => vQ ρ (vs.getD j .null))))) else if k = 17 then .inr (.inl (fun j => vJ (vs.getD j .null))) else .inr (.inr (.inr (.inl (fun j => vD (vs.getD j .null)))))
def co (ca : Nat → ClassId) (ρ : Nat → Nat) (o : Ob) : va_E := if o.1 < 12 then .inr (o.1, o.2.map (cv ρ)) else .inl (ca o.1, o.2.length, pay ρ o.1 o.2)
def cwF (ca : Nat → ClassId) (ρ : Nat → Nat) : Nat → List Ob → va_W
  | _, [] => []
  | i, o :: M => (ρ i, co ca ρ o) :: cwF ca ρ (i + 1) M
def cw (G : GT) (M : List Ob) : va_W := cwF (gA G) (gR G) 0 M
def tysA (ca : Nat → ClassId) : List (ClassId × FieldType) := [(ca 12, aKind 12), (ca 13, aKind 13), (ca 14, aKind 14), (ca 15, aKind 15), (ca 16, aKind 16), (ca 17, aKind 17), (ca 18, aKind 18)]
theorem tysA_at {ca : Nat → ClassId} {k : Nat} (h1 : 12 ≤ k) (h2 : k < 19) : (tysA ca)[k - 12]? = some (ca k, aKind k) := by
  have : k = 12 ∨ k = 13 ∨ k = 14 ∨ k = 15 ∨ k = 16 ∨ k = 17 ∨ k = 18 := by omega
  rcases this with rfl | rfl | rfl | rfl | rfl | rfl | rfl <;> rfl
theorem cwF_get (ca : Nat → ClassId) (ρ : Nat → Nat) : ∀ (M : List Ob) (i k : Nat), (cwF ca ρ i M)[k]? = (M[k]?).map (fun o => (ρ (i + k), co ca ρ o))
  | [], i, k => by simp [cwF]
  | o :: M, i, 0 => by simp [cwF]
  | o :: M, i, k + 1 => by
    rw [cwF, List.getElem?_cons_succ, cwF_get ca ρ M (i + 1) k, List.getElem?_cons_succ, show i + 1 + k = i + (k + 1) by omega]
theorem cw_get {G : GT} {M : List Ob} {k : Nat} {o : Ob} (h : M[k]? = some o) : (cw G M)[k]? = some (gR G k, co (gA G) (gR G) o) := by
  rw [cw, cwF_get, h, Nat.zero_add]; rfl
theorem cwF_set (ca : Nat → ClassId) (ρ : Nat → Nat) : ∀ (M : List Ob) (i k : Nat) (o : Ob), (cwF ca ρ i M).set k (ρ (i + k), co ca ρ o) = cwF ca ρ i (M.set k o)
  | [], i, k, o => by simp [cwF]
  | o' :: M, i, 0, o => by simp [cwF]
  | o' :: M, i, k + 1, o => by
    rw [cwF, List.set_cons_succ, List.set_cons_succ, cwF, show i + (k + 1) = i + 1 + k by omega, cwF_set ca ρ M (i + 1) k o]
theorem cw_set {G : GT} {M : List Ob} {k : Nat} {o : Ob} : (cw G M).set k (gR G k, co (gA G) (gR G) o) = cw G (M.set k o) := by
  have h := cwF_set (gA G) (gR G) M 0 k o
  rw [Nat.zero_add] at h
  exact h
theorem cwF_app (ca : Nat → ClassId) (ρ : Nat → Nat) : ∀ (M : List Ob) (i : Nat) (N : List Ob), cwF ca ρ i (M ++ N) = cwF ca ρ i M ++ cwF ca ρ (i + M.length) N
  | [], i, N => by simp [cwF]
  | o :: M, i, N => by
    rw [List.cons_append, cwF, cwF, List.cons_append, cwF_app ca ρ M (i + 1) N, List.length_cons, show i + 1 + M.length = i + (M.length + 1) by omega]
theorem cw_push {G : GT} {M : List Ob} {o : Ob} : cw G (M ++ [o]) = cw G M ++ [(gR G M.length, co (gA G) (gR G) o)] := by
  rw [cw, cwF_app, Nat.zero_add]; rfl
def asc (ρ : Nat → Nat) : Nat → List (Option Value) → List (Nat × Value)
  | _, [] => []
  | i, none :: L => asc ρ (i + 1) L
  | i, some v :: L => (i, cv ρ v) :: asc ρ (i + 1) L
theorem asc_mem (ρ : Nat → Nat) : ∀ (L : List (Option Value)) (i j : Nat) (v : Value), L[j]? = some (some v) → (i + j, cv ρ v) ∈ asc ρ i L
  | [], i, j, v, h => by simp at h
  | none :: L, i, 0, v, h => by simp at h
  | some w :: L, i, 0, v, h => by
    simp at h; subst h; simp [asc]
  | none :: L, i, j + 1, v, h => by
    rw [List.getElem?_cons_succ] at h
    have := asc_mem ρ L (i + 1) j v h
    rw [asc, show i + (j + 1) = i + 1 + j by omega]; exact this
  | some w :: L, i, j + 1, v, h => by
    rw [List.getElem?_cons_succ] at h
    have := asc_mem ρ L (i + 1) j v h
    rw [asc, show i + (j + 1) = i + 1 + j by omega]; exact List.mem_cons_of_mem _ this
theorem asc_of (ρ : Nat → Nat) : ∀ (L : List (Option Value)) (i : Nat) (q : Nat × Value), q ∈ asc ρ i L → ∃ (j : Nat) (v : Value), q = (i + j, cv ρ v) ∧ L[j]? = some (some v)
  | [], i, q, h => by simp [asc] at h
  | none :: L, i, q, h => by
    obtain ⟨j, v, h1, h2⟩ := asc_of ρ L (i + 1) q h
    exact ⟨j + 1, v, by rw [h1, show i + 1 + j = i + (j + 1) by omega], by rw [List.getElem?_cons_succ]; exact h2⟩
  | some w :: L, i, q, h => by
    rcases List.mem_cons.mp h with rfl | h
    · exact ⟨0, w, rfl, rfl⟩
    · obtain ⟨j, v, h1, h2⟩ := asc_of ρ L (i + 1) q h
      exact ⟨j + 1, v, by rw [h1, show i + 1 + j = i + (j + 1) by omega], by rw [List.getElem?_cons_succ]; exact h2⟩
def Lr (ρ : Nat → Nat) (n : Nat) (L : List (Option Value)) (ls : Array Slot) : Prop := lv_has ls n (asc ρ 0 L) ∧ ∀ v, some v ∈ L → v.category = 1
theorem cv_cat (ρ : Nat → Nat) (v : Value) : (cv ρ v).category = v.category := by cases v <;> rfl
theorem Lr.get {ρ : Nat → Nat} {n : Nat} {L : List (Option Value)} {ls : Array Slot} (h : Lr ρ n L ls) {i : Nat} {v : Value} (hi : L[i]? = some (some v)) : ls[i]? = some (.val (cv ρ v)) := by
  have := h.1.2.2 _ (asc_mem ρ L 0 i v hi)
  simpa using this
theorem Lr.mk' {ρ : Nat → Nat} {n : Nat} {L L' : List (Option Value)} {ls ls' : Array Slot} {i : Nat} {v : Value} (h : Lr ρ n L ls) (hv : v.category = 1) (hL : L.set i (some v) = L') (h' : lv_has ls' n ((i, cv ρ v) :: (asc ρ 0 L).filter (fun q => !(q.1 == i) && !(q.1 + 1 == i && q.2.category == 2)))) : Lr ρ n L' ls' := by
  subst hL
  refine ⟨⟨h'.1, h'.2.1, fun q hq => ?_⟩, fun w hw => ?_⟩
  · obtain ⟨j, w, rfl, hj⟩ := asc_of ρ _ 0 q hq
    rw [Nat.zero_add]
    have key : (j, cv ρ w) ∈ ((i, cv ρ v) :: (asc ρ 0 L).filter (fun q => !(q.1 == i) && !(q.1 + 1 == i && q.2.category == 2))) := by
      by_cases hji : j = i
      · subst hji
        have hl : j < L.length := by
          rcases Nat.lt_or_ge j L.length with q | q
          · exact q
          · rw [List.getElem?_eq_none (by simpa using q)] at hj; cases hj
        rw [List.getElem?_set_self hl] at hj
        cases hj
        exact List.mem_cons_self
      · rw [List.getElem?_set_ne (fun e => hji e.symm)] at hj
        refine List.mem_cons_of_mem _ (List.mem_filter.mpr ⟨?_, ?_⟩)
        · have := asc_mem ρ L 0 j w hj
          simpa using this
        · have hc : w.category = 1 := h.2 w (List.mem_of_getElem? hj)
          simp [hji, cv_cat, hc]
    exact h'.2.2 _ key
  · rcases List.mem_or_eq_of_mem_set hw with q | q
    · exact h.2 w q
    · cases q; exact hv
/-- fewer locals known -/
def Lsub : List (Option Value) → List (Option Value) → Prop
  | [], _ => True
  | none :: L, _ :: K => Lsub L K
  | none :: L, [] => Lsub L []
  | some v :: L, K => match K with
    | [] => False
    | w :: K => w = some v ∧ Lsub L K
theorem Lsub.get : ∀ {L K : List (Option Value)}, Lsub L K → ∀ {i : Nat} {v : Value}, L[i]? = some (some v) → K[i]? = some (some v)
  | [], K, _, i, v, h => by simp at h
  | none :: L, w :: K, hs, 0, v, h => by simp at h
  | none :: L, w :: K, hs, i + 1, v, h => by
    rw [List.getElem?_cons_succ] at h ⊢
    exact Lsub.get (L := L) (K := K) hs h
  | none :: L, [], hs, 0, v, h => by simp at h
  | none :: L, [], hs, i + 1, v, h => by
    rw [List.getElem?_cons_succ] at h
    have := Lsub.get (L := L) (K := []) hs h
    simp at this
  | some x :: L, [], hs, i, v, h => by cases hs
  | some x :: L, w :: K, hs, 0, v, h => by
    obtain ⟨h1, h2⟩ := hs
    simp at h ⊢; subst h; exact h1
  | some x :: L, w :: K, hs, i + 1, v, h => by
    obtain ⟨h1, h2⟩ := hs
    rw [List.getElem?_cons_succ] at h ⊢
    exact Lsub.get (L := L) (K := K) h2 h
theorem Lr.sub {ρ : Nat → Nat} {n : Nat} {L K : List (Option Value)} {ls : Array Slot} (h : Lr ρ n K ls) (hs : Lsub L K) : Lr ρ n L ls := by
  refine ⟨⟨h.1.1, h.1.2.1, fun q hq => ?_⟩, fun w hw => ?_⟩
  · obtain ⟨j, w, rfl, hj⟩ := asc_of ρ _ 0 q hq
    rw [Nat.zero_add]
    exact h.get (hs.get hj)
  · obtain ⟨i, hi⟩ := List.getElem?_of_mem hw
    exact h.2 w (List.mem_of_getElem? (hs.get hi))
theorem va_AOA.moved {t : FieldType} {u U : State} (hvm : u.vm.Alike U.vm) (h : va_AOA t u) : va_AOA t U := by
  obtain ⟨comp, c, k, h1, h2, h3, h4, h5⟩ := arrayOverA_spec h
  obtain ⟨k', hk', he⟩ := hvm.2.2 _ _ h3
  have hi : (U.vm.classes.findIdx? fun (x : Class) => match x.kind with | .array component _ => component == comp | _ => false) = some c := by
    have e1 := va_idx_bare u.vm comp
    have e2 := va_idx_bare U.vm comp
    have h2' := e1.trans h2
    rw [← hvm.bare_eq] at h2'
    exact e2.symm.trans h2'
  have hkind : k'.kind = .array comp (.array t) := by rw [he]; exact h4
  have f1 : U.vm.findClass (FieldType.array t).toString = some comp := by rw [hvm.findClass]; exact h1
  have f2 : U.vm.findClass ("[" ++ (FieldType.array t).toString) = some c := by rw [hvm.findClass]; exact h5
  unfold va_AOA Cond.before Cond.holds
  simp only [Cond.value]
  rw [f1, Option.bind_some]
  refine (congrArg (fun o : Option Nat => (o.bind (fun c => (U.vm.classes[c]?).map fun (k : Class) => match k.kind with | .array _ ty => decide (ty = FieldType.array t) && decide (U.vm.findClass ("[" ++ (FieldType.array t).toString) = some c) | _ => false) == some true)) hi).trans ?_
  simp [hk', hkind, f2]
/-- the texts of the class files: where they stand, which of the four texts -/
def strT : List (String × Nat × String × Nat) := [(RX9, 91, "net", 0), (RX9, 107, "budget", 1), (RX9, 113, "arc", 2), (RX9, 123, "route", 3), (RX11, 171, "net", 0), (RX11, 155, "budget", 1), (RX11, 161, "arc", 2), (RX11, 166, "route", 3)]
def lensT : List Nat := [3, 6, 3, 5]
def bytsT : List (List Int32) := [[110, 101, 116], [98, 117, 100, 103, 101, 116], [97, 114, 99], [114, 111, 117, 116, 101]]
def msgT : List (String × Nat × String) := [(RX10, 88, "the text buffer is full"), (RX10, 99, "the text buffer has not this length"), (RX10, 169, "no such number of the network"), (RX10, 187, "no such number of an arc"), (RX10, 192, "an arc leads to another node"), (RX10, 198, "there are 16 arcs"), (RX10, 210, "the draft or a told route has the arc"), (RX10, 222, "the arc cannot follow in the draft"), (RX10, 231, "the draft is empty"), (RX10, 243, "the draft cannot be told"), (RX10, 266, "no such number of a told route"), (RX10, 282, "there are no told routes"), (RX10, 299, "there is no route"), (RX10, 331, "the journey cannot make this step"), (RX10, 342, "there was no such step"), (RX10, 357, "there is no such byte"), (RX10, 362, "there is no change to undo"), (RX10, 370, "the node does not exist"), (RX10, 372, "the arc does not exist"), (RX10, 374, "the told route does not exist"), (RX10, 376, "a cost or an extra is 0 to 99"), (RX10, 378, "a budget is 0 to 6"), (RX10, 380, "no such number of a route"), (RX10, 391, "the route has not so many arcs"), (RX10, 405, "the node has no value")]
def excT : List String := ["java/lang/IllegalStateException", "java/lang/IllegalArgumentException", "java/lang/IndexOutOfBoundsException", "java/util/NoSuchElementException"]
def nwT : List Cond := excT.map (fun q => Cond.castable q q) ++ [.declares (Bundle.initS "java/lang/RuntimeException"), .declares (Bundle.initS "java/lang/Exception"), .declares (Bundle.initS "java/lang/Throwable")]
theorem nw_tab {w : Cond} (hw : w ∈ nwT) : w.onTables = true := by
  rcases List.mem_append.mp hw with h1 | h1
  · obtain ⟨q, -, rfl⟩ := List.mem_map.mp h1; rfl
  · simp only [List.mem_cons, List.not_mem_nil, or_false] at h1
    rcases h1 with rfl | rfl | rfl <;> rfl
theorem nw_warm {w : Cond} (hw : w ∈ nwT) {s U : State} (hW : s.WarmedH U.vm) (h : va_Nw w s) : va_Nw w U := by
  rcases List.mem_append.mp hw with h1 | h1
  · obtain ⟨q, -, rfl⟩ := List.mem_map.mp h1; exact h.warmC hW
  · simp only [List.mem_cons, List.not_mem_nil, or_false] at h1
    rcases h1 with rfl | rfl | rfl <;> exact h.warmD hW
def ncT : List (String × String) := (excT.flatMap fun a => excT.map fun b => (a, b)).filter fun q => decide (q.1 ≠ q.2)
def nestT : List (String × Nat × MethodName) := [(RX8, 11, ⟨RX4, "<init>", "()V"⟩), (RX8, 20, ⟨RX5, "<init>", "()V"⟩), (RX8, 31, ⟨RX2, "<init>", "()V"⟩), (RX10, 29, ⟨RX9, "<init>", "()V"⟩), (RX7, 11, ⟨RX5, "<init>", "()V"⟩), (RX6, 11, ⟨RX5, "<init>", "()V"⟩), (RX4, 63, ⟨RX10, "isIn", "(II)Z"⟩), (RX5, 19, ⟨RX10, "isIn", "(II)Z"⟩)]
