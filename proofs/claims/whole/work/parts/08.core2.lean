theorem va_X_lt {b L : Nat} {xs : Nat → Int32} {U : State} {H : Heap} (h : va_X b L xs U H) : b < H.size := by
  obtain ⟨scr, h1, -⟩ := h
  exact (Array.getElem?_eq_some_iff.mp h1).1
/-! what is there besides: texts that stand in the class files, statics of the JDK's -/
def SInv (xs : List Int32) (strT : List (String × Nat × String × Nat)) (msgT : List (String × Nat × String)) (lens : List Nat) (byts : List (List Int32)) (ρ : Nat → Nat) (A : Nat → Prop) (U : State) (H : Heap) : Prop :=
  (∀ q ∈ strT, vk_R q.1 q.2.1 q.2.2.1 (ρ (1000000 + q.2.2.2)) U) ∧ (∀ q ∈ msgT, ∃ sa, vk_R q.1 q.2.1 q.2.2 sa U) ∧ (vk_S lens.length lens byts (fun i => ρ (1000000 + i)) (fun i => ρ (2000000 + i)) A U H ∧ (va_Z "jdk/internal/util/Preconditions" "SIOOBE_FORMATTER" "Ljava/util/function/BiFunction;" .null A U H ∨ va_Z "jdk/internal/util/Preconditions" "SIOOBE_FORMATTER" "Ljava/util/function/BiFunction;" (.ref (ρ 2500000)) A U H)) ∧
    (va_Z "java/lang/String" "COMPACT_STRINGS" "Z" (.int 1) A U H ∧ (∀ q ∈ nestT, va_Nw (.methodLinkNest q.1 q.2.1 q.2.2 "RouteBudget") U) ∧ (∀ w ∈ nwT, va_Nw w U) ∧ (∀ q ∈ ncT, va_Nc q.1 q.2 U) ∧ va_AO RX5 U ∧ va_AO RX8 U ∧ va_AOA .int U ∧ va_X (ρ 3000000) xs.length (fun j => xs.getD j 0) U H ∧ ρ 3000000 < H.size ∧ ¬ A (ρ 3000000)) ∧ vx_Zq Bundle.tN "UNASSIGNED_STACK" Bundle.steD A U H ∧ vx_Zq Bundle.tN "SUPPRESSED_SENTINEL" Bundle.listD A U H
theorem SInv.goes {xs : List Int32} {strT : List (String × Nat × String × Nat)} {msgT : List (String × Nat × String)} {lens : List Nat} {byts : List (List Int32)} {ρ : Nat → Nat} {A B : Nat → Prop} {s U : State} {H H1 : Heap} (h : SInv xs strT msgT lens byts ρ A s H) (hW : s.WarmedH U.vm) (hq : ∀ a : Nat, a < H.size → ¬ A a → H1[a]? = H[a]?) (hAB : ∀ q, B q → A q) : SInv xs strT msgT lens byts ρ B U H1 := by
  obtain ⟨h1, h2, ⟨h3, h7⟩, h4, h5, h6⟩ := h
  refine ⟨fun q hq => (h1 q hq).warm hW, fun q hq => ?_, ⟨((h3.kept hq).narrow hAB).moved hW.alike, h7.imp (fun z => ((z.kept hq).narrow hAB).moved hW.alike) (fun z => ((z.kept hq).narrow hAB).moved hW.alike)⟩, ⟨((h4.1.kept hq).narrow hAB).moved hW.alike, fun q hq => (h4.2.1 q hq).warmM hW, fun q hq => nw_warm hq hW (h4.2.2.1 q hq), fun q hq => (h4.2.2.2.1 q hq).moved hW.alike, h4.2.2.2.2.1.moved hW.alike, h4.2.2.2.2.2.1.moved hW.alike, h4.2.2.2.2.2.2.1.moved hW.alike, (h4.2.2.2.2.2.2.2.1.kept (hq _ h4.2.2.2.2.2.2.2.2.1 h4.2.2.2.2.2.2.2.2.2)).moved hW.alike, va_X_lt (h4.2.2.2.2.2.2.2.1.kept (hq _ h4.2.2.2.2.2.2.2.2.1 h4.2.2.2.2.2.2.2.2.2)), fun z => h4.2.2.2.2.2.2.2.2.2 (hAB _ z)⟩, ((h5.kept hq).narrow hAB).moved hW.alike, ((h6.kept hq).narrow hAB).moved hW.alike⟩
  obtain ⟨sa, h⟩ := h2 q hq
  exact ⟨sa, h.warm hW⟩
theorem SInv.same {xs : List Int32} {strT : List (String × Nat × String × Nat)} {msgT : List (String × Nat × String)} {lens : List Nat} {byts : List (List Int32)} {ρ : Nat → Nat} {A : Nat → Prop} {s U : State} {H : Heap} (h : SInv xs strT msgT lens byts ρ A s H) (hv : U.vm = s.vm) : SInv xs strT msgT lens byts ρ A U H := by
  have hal : s.vm.Alike U.vm := by rw [hv]; exact Vm.Alike.refl _
  obtain ⟨h1, h2, ⟨h3, h7⟩, h4, h5, h6⟩ := h
  refine ⟨fun q hq => (h1 q hq).same hv, fun q hq => ?_, ⟨h3.moved hal, h7.imp (fun z => z.moved hal) (fun z => z.moved hal)⟩, ⟨h4.1.moved hal, fun q hq => va_Nw.same rfl hv.symm (h4.2.1 q hq), fun q hq => va_Nw.same (nw_tab hq) hv.symm (h4.2.2.1 q hq), fun q hq => (h4.2.2.2.1 q hq).moved hal, h4.2.2.2.2.1.moved hal, h4.2.2.2.2.2.1.moved hal, h4.2.2.2.2.2.2.1.moved hal, h4.2.2.2.2.2.2.2.1.moved hal, h4.2.2.2.2.2.2.2.2⟩, h5.moved hal, h6.moved hal⟩
  obtain ⟨sa, h⟩ := h2 q hq
  exact ⟨sa, h.same hv⟩
/-- the claim's own texts -/
abbrev SI (xs : List Int32) (ρ : Nat → Nat) (A : Nat → Prop) (U : State) (H : Heap) : Prop := SInv xs strT msgT lensT bytsT ρ A U H
/-- what holds in a frame of t, once and for all -/
def Cx (G : GT) (t : Mt) (hh : List (Nat × Nat × Nat × Nat)) (p : Program) (s : State) (m : MethodId) (args : Array Value) (meth : Method) (c : Code) (A : Nat → Prop) : Prop :=
  p.tables.exec = Jvm.exec ∧ c.code = mB t ∧ c.maxLocals = mL t ∧ meth.sig.returnType = mR t ∧ meth.locks = false ∧ s.vm.findClass (mN t).cls = some m.cls ∧ (∀ w ∈ TBg, w.before args s = true) ∧
    (∀ q, s.heap.size ≤ q → A q) ∧ va_K (gD G) vwCl (tysA (gA G)) s ∧ SI (gX G) (gR G) A s s.heap ∧ ((mN t).name = "<init>" → meth.name = "<init>") ∧ c.exceptionTable.toList = tableOf hh ∧ (gL G).stackTraces = false
/-- the heap holds the cells M -/
def Hp (G : GT) (M : List Ob) (A : Nat → Prop) (s : State) (H : Heap) (locs : List Loc) : Prop :=
  va_P (gD G) vwCl (cw G M) H ∧ va_D A (cw G M) ∧ va_S A s.heap H locs ∧ (gZ G = true → H.size = gN G + M.length)
def Fi (G : GT) (o : Out) (A : Nat → Prop) : Array Value → State → Outcome → State → Prop := fun _ st oc t =>
  (∃ v, o.1 = .inl v ∧ oc = .returned (v.map (cv (gR G))) ∧ va_P (gD G) vwCl (cw G o.2) t.heap ∧ va_D A (cw G o.2) ∧ (gF G = true → gZ G = true → t.heap.size = gN G + o.2.length)) ∧ va_F A st t
def Fx (G : GT) (o : Out) (A : Nat → Prop) : String → State → State → Prop := fun E st t =>
  o.1 = .inr E ∧ va_P (gD G) vwCl (cw G o.2) t.heap ∧ va_D A (cw G o.2) ∧ va_F A st t
def EQ (t : Mt) (below : List Frame) (G : GT) (o : Out) (A : Nat → Prop) (args : Array Value) (s : State) : State → Prop :=
  if mT t = true then vx_MQ below (Fi G o A) (Fx G o A) args s (mC t) (mS t) A else MQ below (Fi G o A) args s (mC t) (mS t) A
/-- THE JUDGEMENT: from this frame the machine comes to the end o of the method t -/
def X (G : GT) (t : Mt) (hh : List (Nat × Nat × Nat × Nat)) (pc : Nat) (L : List (Option Value)) (st : List Value) (M : List Ob) (k n : Nat) (o : Out) : Prop :=
  ∀ (p : Program) (e : Env) (s : State) (m : MethodId) (args : Array Value) (below : List Frame) (meth : Method) (c : Code) (A : Nat → Prop) (H : Heap) (locs : List Loc) (ls : Array Slot),
    Cx G t hh p s m args meth c A → Hp G M A s H locs → Lr (gR G) (mL t) L ls →
    W p (gL G) e (mRoom t) s m args below meth c H locs k n (EQ t below G o A args s) (F0 m pc ls (st.map (cv (gR G))))
section XR
variable {G : GT} {t : Mt} {hh : List (Nat × Nat × Nat × Nat)} {pc pc' : Nat} {L L' : List (Option Value)} {st : List Value} {M M' : List Ob} {k n : Nat} {o : Out}
theorem X.sub (h : X G t hh pc L st M k n o) {K : List (Option Value)} (hs : Lsub L K) : X G t hh pc K st M k n o :=
  fun p e s m args below meth c A H locs ls hC hH hL => h p e s m args below meth c A H locs ls hC hH (hL.sub hs)
theorem X.widen {k' n' : Nat} (h1 : k ≤ k') (h2 : n ≤ n') (h : X G t hh pc L st M k' n' o) : X G t hh pc L st M k n o :=
  fun p e s m args below meth c A H locs ls hC hH hL => W.widen h1 h2 (h p e s m args below meth c A H locs ls hC hH hL)
/-- a rule that neither locals nor heap see -/
theorem X.pure {st' : List Value} (r : ∀ (p : Program) (e : Env) (s : State) (m : MethodId) (args : Array Value) (below : List Frame) (meth : Method) (c : Code) (H : Heap) (locs : List Loc) (ls : Array Slot) (Q : State → Prop), p.tables.exec = Jvm.exec → c.code = mB t → s.vm.findClass (mN t).cls = some m.cls → (∀ w ∈ TBg, w.before args s = true) →
      W p (gL G) e (mRoom t) s m args below meth c H locs k n Q (F0 m pc' ls (st'.map (cv (gR G)))) → W p (gL G) e (mRoom t) s m args below meth c H locs k n Q (F0 m pc ls (st.map (cv (gR G)))))
    (kk : X G t hh pc' L st' M k n o) : X G t hh pc L st M k n o :=
  fun p e s m args below meth c A H locs ls hC hH hL => r p e s m args below meth c H locs ls _ hC.1 hC.2.1 hC.2.2.2.2.2.1 hC.2.2.2.2.2.2.1 (kk p e s m args below meth c A H locs ls hC hH hL)
theorem X.iconst {z : Int} {v : Int32} (d : decode (mB t) pc = .ok (.iconst z, 1)) (hp : pc + 1 = pc') (hv : Int32.ofInt z = v) (kk : X G t hh pc' L (.int v :: st) M k n o) : X G t hh pc L st M k n o := by
  subst hp; exact X.pure (fun p e s m args below meth c H locs ls Q hx hb _ _ h => lv_iconst hx hb d hv h) kk
theorem X.bipush {z : Int} {v : Int32} (d : decode (mB t) pc = .ok (.bipush z, 2)) (hp : pc + 2 = pc') (hv : (Int8.ofInt z).toInt32 = v) (kk : X G t hh pc' L (.int v :: st) M k n o) : X G t hh pc L st M k n o := by
  subst hp; exact X.pure (fun p e s m args below meth c H locs ls Q hx hb _ _ h => lv_bipush hx hb d hv h) kk
theorem X.sipush {z : Int} {v : Int32} (d : decode (mB t) pc = .ok (.sipush z, 3)) (hp : pc + 3 = pc') (hv : (Int16.ofInt z).toInt32 = v) (kk : X G t hh pc' L (.int v :: st) M k n o) : X G t hh pc L st M k n o := by
  subst hp; exact X.pure (fun p e s m args below meth c H locs ls Q hx hb _ _ h => lv_sipush hx hb d hv h) kk
theorem X.lconst {z : Fin 2} {v : Int64} (d : decode (mB t) pc = .ok (.lconst z, 1)) (hp : pc + 1 = pc') (hv : Int64.ofNat (z : Nat) = v) (kk : X G t hh pc' L (.long v :: st) M k n o) : X G t hh pc L st M k n o := by
  subst hp; exact X.pure (fun p e s m args below meth c H locs ls Q hx hb _ _ h => lv_lconst hx hb d hv h) kk
theorem X.ldc {i : Nat} {v : Int32} (d : decode (mB t) pc = .ok (.ldc i, 2)) (hp : pc + 2 = pc') (hw : Cond.constant (mN t).cls i v ∈ TBg) (kk : X G t hh pc' L (.int v :: st) M k n o) : X G t hh pc L st M k n o := by
  subst hp; exact X.pure (fun p e s m args below meth c H locs ls Q hx hb ho hts h => lv_ldc hx hb ho (hts _ hw) d h) kk
theorem X.ldcw {i : Nat} {v : Int32} (d : decode (mB t) pc = .ok (.ldc_w i, 3)) (hp : pc + 3 = pc') (hw : Cond.constant (mN t).cls i v ∈ TBg) (kk : X G t hh pc' L (.int v :: st) M k n o) : X G t hh pc L st M k n o := by
  subst hp; exact X.pure (fun p e s m args below meth c H locs ls Q hx hb ho hts h => lv_ldcw hx hb ho (hts _ hw) d h) kk
theorem X.iadd {x y : Int32} (d : decode (mB t) pc = .ok (.iadd, 1)) (hp : pc + 1 = pc') (kk : X G t hh pc' L (.int (x + y) :: st) M k n o) : X G t hh pc L (.int y :: .int x :: st) M k n o := by
  subst hp; exact X.pure (fun p e s m args below meth c H locs ls Q hx hb _ _ h => lv_iadd hx hb d h) kk
theorem X.isub {x y : Int32} (d : decode (mB t) pc = .ok (.isub, 1)) (hp : pc + 1 = pc') (kk : X G t hh pc' L (.int (x - y) :: st) M k n o) : X G t hh pc L (.int y :: .int x :: st) M k n o := by
  subst hp; exact X.pure (fun p e s m args below meth c H locs ls Q hx hb _ _ h => lv_isub hx hb d h) kk
theorem X.imul {x y : Int32} (d : decode (mB t) pc = .ok (.imul, 1)) (hp : pc + 1 = pc') (kk : X G t hh pc' L (.int (x * y) :: st) M k n o) : X G t hh pc L (.int y :: .int x :: st) M k n o := by
  subst hp; exact X.pure (fun p e s m args below meth c H locs ls Q hx hb _ _ h => lv_imul hx hb d h) kk
theorem X.iand {x y : Int32} (d : decode (mB t) pc = .ok (.iand, 1)) (hp : pc + 1 = pc') (kk : X G t hh pc' L (.int (x &&& y) :: st) M k n o) : X G t hh pc L (.int y :: .int x :: st) M k n o := by
  subst hp; exact X.pure (fun p e s m args below meth c H locs ls Q hx hb _ _ h => lv_iand hx hb d h) kk
theorem X.ior {x y : Int32} (d : decode (mB t) pc = .ok (.ior, 1)) (hp : pc + 1 = pc') (kk : X G t hh pc' L (.int (x ||| y) :: st) M k n o) : X G t hh pc L (.int y :: .int x :: st) M k n o := by
  subst hp; exact X.pure (fun p e s m args below meth c H locs ls Q hx hb _ _ h => lv_ior hx hb d h) kk
theorem X.ixor {x y : Int32} (d : decode (mB t) pc = .ok (.ixor, 1)) (hp : pc + 1 = pc') (kk : X G t hh pc' L (.int (x ^^^ y) :: st) M k n o) : X G t hh pc L (.int y :: .int x :: st) M k n o := by
  subst hp; exact X.pure (fun p e s m args below meth c H locs ls Q hx hb _ _ h => lv_ixor hx hb d h) kk
theorem X.ishl {x y : Int32} (d : decode (mB t) pc = .ok (.ishl, 1)) (hp : pc + 1 = pc') (kk : X G t hh pc' L (.int (x <<< (y &&& 31)) :: st) M k n o) : X G t hh pc L (.int y :: .int x :: st) M k n o := by
  subst hp; exact X.pure (fun p e s m args below meth c H locs ls Q hx hb _ _ h => lv_ishl hx hb d h) kk
theorem X.ishr {x y : Int32} (d : decode (mB t) pc = .ok (.ishr, 1)) (hp : pc + 1 = pc') (kk : X G t hh pc' L (.int (x >>> (y &&& 31)) :: st) M k n o) : X G t hh pc L (.int y :: .int x :: st) M k n o := by
  subst hp; exact X.pure (fun p e s m args below meth c H locs ls Q hx hb _ _ h => lv_ishr hx hb d h) kk
theorem X.iushr {x y : Int32} (d : decode (mB t) pc = .ok (.iushr, 1)) (hp : pc + 1 = pc') (kk : X G t hh pc' L (.int (x.toUInt32 >>> (y.toUInt32 &&& Int32.toUInt32 31)).toInt32 :: st) M k n o) : X G t hh pc L (.int y :: .int x :: st) M k n o := by
  subst hp; exact X.pure (fun p e s m args below meth c H locs ls Q hx hb _ _ h => lv_iushr hx hb d rfl h) kk
theorem X.idiv {x y : Int32} (d : decode (mB t) pc = .ok (.idiv, 1)) (hp : pc + 1 = pc') (h0 : ¬ y = 0) (kk : X G t hh pc' L (.int (x / y) :: st) M k n o) : X G t hh pc L (.int y :: .int x :: st) M k n o := by
  subst hp; exact X.pure (fun p e s m args below meth c H locs ls Q hx hb _ _ h => lv_idiv hx hb d h0 h) kk
theorem X.irem {x y : Int32} (d : decode (mB t) pc = .ok (.irem, 1)) (hp : pc + 1 = pc') (h0 : ¬ y = 0) (kk : X G t hh pc' L (.int (x - x / y * y) :: st) M k n o) : X G t hh pc L (.int y :: .int x :: st) M k n o := by
  subst hp; exact X.pure (fun p e s m args below meth c H locs ls Q hx hb _ _ h => lv_irem hx hb d h0 h) kk
theorem X.i2l {x : Int32} (d : decode (mB t) pc = .ok (.i2l, 1)) (hp : pc + 1 = pc') (kk : X G t hh pc' L (.long x.toInt64 :: st) M k n o) : X G t hh pc L (.int x :: st) M k n o := by
  subst hp; exact X.pure (fun p e s m args below meth c H locs ls Q hx hb _ _ h => lv_i2l hx hb d rfl h) kk
theorem X.i2b {x : Int32} (d : decode (mB t) pc = .ok (.i2b, 1)) (hp : pc + 1 = pc') (kk : X G t hh pc' L (.int x.toInt8.toInt32 :: st) M k n o) : X G t hh pc L (.int x :: st) M k n o := by
  subst hp; exact X.pure (fun p e s m args below meth c H locs ls Q hx hb _ _ h => lv_i2b hx hb d rfl h) kk
theorem X.i2f {x : Int32} (d : decode (mB t) pc = .ok (.i2f, 1)) (hp : pc + 1 = pc') (kk : X G t hh pc' L (.float (FP.i2f x) :: st) M k n o) : X G t hh pc L (.int x :: st) M k n o := by
  subst hp; exact X.pure (fun p e s m args below meth c H locs ls Q hx hb _ _ h => lv_i2f hx hb d h) kk
theorem X.fdiv {x y : UInt32} (d : decode (mB t) pc = .ok (.fdiv, 1)) (hp : pc + 1 = pc') (hne : vf_n32 (FP.fdiv x y)) (kk : X G t hh pc' L (.float (FP.fdiv x y) :: st) M k n o) : X G t hh pc L (.float y :: .float x :: st) M k n o := by
  subst hp; exact X.pure (fun p e s m args below meth c H locs ls Q hx hb _ _ h => lv_fdiv hx hb d hne h) kk
theorem X.f2d {x : UInt32} (d : decode (mB t) pc = .ok (.f2d, 1)) (hp : pc + 1 = pc') (hne : vf_n64 (FP.f2d x)) (kk : X G t hh pc' L (.double (FP.f2d x) :: st) M k n o) : X G t hh pc L (.float x :: st) M k n o := by
  subst hp; exact X.pure (fun p e s m args below meth c H locs ls Q hx hb _ _ h => lv_f2d hx hb d hne h) kk
theorem X.fcmp {x y : UInt32} {op : CmpOp} (d : decode (mB t) pc = .ok (.fcmp op, 1)) (hp : pc + 1 = pc') (kk : X G t hh pc' L (.int (Op.cmpValue (FP.fcmp x y) op) :: st) M k n o) : X G t hh pc L (.float y :: .float x :: st) M k n o := by
  subst hp; exact X.pure (fun p e s m args below meth c H locs ls Q hx hb _ _ h => lv_fcmp hx hb d h) kk
theorem X.dcmp {x y : UInt64} {op : CmpOp} (d : decode (mB t) pc = .ok (.dcmp op, 1)) (hp : pc + 1 = pc') (kk : X G t hh pc' L (.int (Op.cmpValue (FP.dcmp x y) op) :: st) M k n o) : X G t hh pc L (.double y :: .double x :: st) M k n o := by
  subst hp; exact X.pure (fun p e s m args below meth c H locs ls Q hx hb _ _ h => lv_dcmp hx hb d h) kk
theorem X.fconst0 (d : decode (mB t) pc = .ok (.fconst 0, 1)) (hp : pc + 1 = pc') (kk : X G t hh pc' L (.float FP.fconst0 :: st) M k n o) : X G t hh pc L st M k n o := by
  subst hp; exact X.pure (fun p e s m args below meth c H locs ls Q hx hb _ _ h => lv_fconst0 hx hb d h) kk
theorem X.fconst1 (d : decode (mB t) pc = .ok (.fconst 1, 1)) (hp : pc + 1 = pc') (kk : X G t hh pc' L (.float FP.fconst1 :: st) M k n o) : X G t hh pc L st M k n o := by
  subst hp; exact X.pure (fun p e s m args below meth c H locs ls Q hx hb _ _ h => lv_fconst1 hx hb d h) kk
theorem X.lcmp {x y : Int64} (d : decode (mB t) pc = .ok (.lcmp, 1)) (hp : pc + 1 = pc') (kk : X G t hh pc' L (.int (lg_cmp x y) :: st) M k n o) : X G t hh pc L (.long y :: .long x :: st) M k n o := by
  subst hp; exact X.pure (fun p e s m args below meth c H locs ls Q hx hb _ _ h => W.lcmp hx hb d h) kk
theorem X.dup {v : Value} (d : decode (mB t) pc = .ok (.dup, 1)) (hp : pc + 1 = pc') (hv : v.category = 1) (kk : X G t hh pc' L (v :: v :: st) M k n o) : X G t hh pc L (v :: st) M k n o := by
  subst hp; exact X.pure (fun p e s m args below meth c H locs ls Q hx hb _ _ h => lv_dup hx hb d ((cv_cat _ _).trans hv) h) kk
theorem X.dup2 {v w : Value} (d : decode (mB t) pc = .ok (.dup2, 1)) (hp : pc + 1 = pc') (hv : v.category = 1) (hw : w.category = 1) (kk : X G t hh pc' L (v :: w :: v :: w :: st) M k n o) : X G t hh pc L (v :: w :: st) M k n o := by
  subst hp; exact X.pure (fun p e s m args below meth c H locs ls Q hx hb _ _ h => lv_dup2_11 hx hb d ((cv_cat _ _).trans hv) ((cv_cat _ _).trans hw) h) kk
theorem X.pop {v : Value} (d : decode (mB t) pc = .ok (.pop, 1)) (hp : pc + 1 = pc') (hv : v.category = 1) (kk : X G t hh pc' L st M k n o) : X G t hh pc L (v :: st) M k n o := by
  subst hp; exact X.pure (fun p e s m args below meth c H locs ls Q hx hb _ _ h => lv_pop hx hb d ((cv_cat _ _).trans hv) h) kk
theorem X.goto {off : Int} (d : decode (mB t) pc = .ok (.goto off, 3)) (hp : (pc : Int) + off = (pc' : Int)) (kk : X G t hh pc' L st M k n o) : X G t hh pc L st M k n o :=
  X.pure (fun p e s m args below meth c H locs ls Q hx hb _ _ h => lv_goto hx hb d hp h) kk
theorem X.tableIn {dflt lo hi : Int} {offs : Array Int} {len : Nat} {x : Int32} {off : Int} (d : decode (mB t) pc = .ok (.tableswitch dflt lo hi offs, len)) (h1 : ¬ x.toInt < lo) (h2 : ¬ hi < x.toInt) (ho : offs[(x.toInt - lo).toNat]? = some off) (hp : (pc : Int) + off = (pc' : Int)) (kk : X G t hh pc' L st M k n o) : X G t hh pc L (.int x :: st) M k n o :=
  X.pure (fun p e s m args below meth c H locs ls Q hx hb _ _ h => lv_tableIn hx hb d h1 h2 ho hp h) kk
theorem X.tableOut {dflt lo hi : Int} {offs : Array Int} {len : Nat} {x : Int32} (d : decode (mB t) pc = .ok (.tableswitch dflt lo hi offs, len)) (h1 : x.toInt < lo ∨ hi < x.toInt) (hp : (pc : Int) + dflt = (pc' : Int)) (kk : X G t hh pc' L st M k n o) : X G t hh pc L (.int x :: st) M k n o :=
  X.pure (fun p e s m args below meth c H locs ls Q hx hb _ _ h => lv_tableOut hx hb d h1 hp h) kk
theorem X.if_eq {x : Int32} {off : Int} {tgt : Nat} (d : decode (mB t) pc = .ok (.ifCond .eq off, 3)) (ht : (pc : Int) + off = (tgt : Int)) (hp : pc + 3 = pc') (kt : x = 0 → X G t hh tgt L st M k n o) (kf : ¬ x = 0 → X G t hh pc' L st M k n o) : X G t hh pc L (.int x :: st) M k n o := by
  subst hp
  exact fun p e s m args below meth c A H locs ls hC hH hL => lv_if_eq hC.1 hC.2.1 d ht (fun h => kt h p e s m args below meth c A H locs ls hC hH hL) (fun h => kf h p e s m args below meth c A H locs ls hC hH hL)
theorem X.icmp_eq {x y : Int32} {off : Int} {tgt : Nat} (d : decode (mB t) pc = .ok (.if_icmp .eq off, 3)) (ht : (pc : Int) + off = (tgt : Int)) (hp : pc + 3 = pc') (kt : x = y → X G t hh tgt L st M k n o) (kf : ¬ x = y → X G t hh pc' L st M k n o) : X G t hh pc L (.int y :: .int x :: st) M k n o := by
  subst hp
  exact fun p e s m args below meth c A H locs ls hC hH hL => lv_icmp_eq hC.1 hC.2.1 d ht (fun h => kt h p e s m args below meth c A H locs ls hC hH hL) (fun h => kf h p e s m args below meth c A H locs ls hC hH hL)
theorem X.if_ne {x : Int32} {off : Int} {tgt : Nat} (d : decode (mB t) pc = .ok (.ifCond .ne off, 3)) (ht : (pc : Int) + off = (tgt : Int)) (hp : pc + 3 = pc') (kt : ¬ x = 0 → X G t hh tgt L st M k n o) (kf : x = 0 → X G t hh pc' L st M k n o) : X G t hh pc L (.int x :: st) M k n o := by
  subst hp
  exact fun p e s m args below meth c A H locs ls hC hH hL => lv_if_ne hC.1 hC.2.1 d ht (fun h => kt h p e s m args below meth c A H locs ls hC hH hL) (fun h => kf h p e s m args below meth c A H locs ls hC hH hL)
theorem X.icmp_ne {x y : Int32} {off : Int} {tgt : Nat} (d : decode (mB t) pc = .ok (.if_icmp .ne off, 3)) (ht : (pc : Int) + off = (tgt : Int)) (hp : pc + 3 = pc') (kt : ¬ x = y → X G t hh tgt L st M k n o) (kf : x = y → X G t hh pc' L st M k n o) : X G t hh pc L (.int y :: .int x :: st) M k n o := by
  subst hp
  exact fun p e s m args below meth c A H locs ls hC hH hL => lv_icmp_ne hC.1 hC.2.1 d ht (fun h => kt h p e s m args below meth c A H locs ls hC hH hL) (fun h => kf h p e s m args below meth c A H locs ls hC hH hL)
theorem X.if_lt {x : Int32} {off : Int} {tgt : Nat} (d : decode (mB t) pc = .ok (.ifCond .lt off, 3)) (ht : (pc : Int) + off = (tgt : Int)) (hp : pc + 3 = pc') (kt : x < 0 → X G t hh tgt L st M k n o) (kf : ¬ x < 0 → X G t hh pc' L st M k n o) : X G t hh pc L (.int x :: st) M k n o := by
  subst hp
  exact fun p e s m args below meth c A H locs ls hC hH hL => lv_if_lt hC.1 hC.2.1 d ht (fun h => kt h p e s m args below meth c A H locs ls hC hH hL) (fun h => kf h p e s m args below meth c A H locs ls hC hH hL)
theorem X.icmp_lt {x y : Int32} {off : Int} {tgt : Nat} (d : decode (mB t) pc = .ok (.if_icmp .lt off, 3)) (ht : (pc : Int) + off = (tgt : Int)) (hp : pc + 3 = pc') (kt : x < y → X G t hh tgt L st M k n o) (kf : ¬ x < y → X G t hh pc' L st M k n o) : X G t hh pc L (.int y :: .int x :: st) M k n o := by
  subst hp
  exact fun p e s m args below meth c A H locs ls hC hH hL => lv_icmp_lt hC.1 hC.2.1 d ht (fun h => kt h p e s m args below meth c A H locs ls hC hH hL) (fun h => kf h p e s m args below meth c A H locs ls hC hH hL)
theorem X.if_ge {x : Int32} {off : Int} {tgt : Nat} (d : decode (mB t) pc = .ok (.ifCond .ge off, 3)) (ht : (pc : Int) + off = (tgt : Int)) (hp : pc + 3 = pc') (kt : 0 ≤ x → X G t hh tgt L st M k n o) (kf : ¬ 0 ≤ x → X G t hh pc' L st M k n o) : X G t hh pc L (.int x :: st) M k n o := by
  subst hp
  exact fun p e s m args below meth c A H locs ls hC hH hL => lv_if_ge hC.1 hC.2.1 d ht (fun h => kt h p e s m args below meth c A H locs ls hC hH hL) (fun h => kf h p e s m args below meth c A H locs ls hC hH hL)
theorem X.icmp_ge {x y : Int32} {off : Int} {tgt : Nat} (d : decode (mB t) pc = .ok (.if_icmp .ge off, 3)) (ht : (pc : Int) + off = (tgt : Int)) (hp : pc + 3 = pc') (kt : y ≤ x → X G t hh tgt L st M k n o) (kf : ¬ y ≤ x → X G t hh pc' L st M k n o) : X G t hh pc L (.int y :: .int x :: st) M k n o := by
  subst hp
  exact fun p e s m args below meth c A H locs ls hC hH hL => lv_icmp_ge hC.1 hC.2.1 d ht (fun h => kt h p e s m args below meth c A H locs ls hC hH hL) (fun h => kf h p e s m args below meth c A H locs ls hC hH hL)
theorem X.if_gt {x : Int32} {off : Int} {tgt : Nat} (d : decode (mB t) pc = .ok (.ifCond .gt off, 3)) (ht : (pc : Int) + off = (tgt : Int)) (hp : pc + 3 = pc') (kt : 0 < x → X G t hh tgt L st M k n o) (kf : ¬ 0 < x → X G t hh pc' L st M k n o) : X G t hh pc L (.int x :: st) M k n o := by
  subst hp
  exact fun p e s m args below meth c A H locs ls hC hH hL => lv_if_gt hC.1 hC.2.1 d ht (fun h => kt h p e s m args below meth c A H locs ls hC hH hL) (fun h => kf h p e s m args below meth c A H locs ls hC hH hL)
theorem X.icmp_gt {x y : Int32} {off : Int} {tgt : Nat} (d : decode (mB t) pc = .ok (.if_icmp .gt off, 3)) (ht : (pc : Int) + off = (tgt : Int)) (hp : pc + 3 = pc') (kt : y < x → X G t hh tgt L st M k n o) (kf : ¬ y < x → X G t hh pc' L st M k n o) : X G t hh pc L (.int y :: .int x :: st) M k n o := by
  subst hp
  exact fun p e s m args below meth c A H locs ls hC hH hL => lv_icmp_gt hC.1 hC.2.1 d ht (fun h => kt h p e s m args below meth c A H locs ls hC hH hL) (fun h => kf h p e s m args below meth c A H locs ls hC hH hL)
theorem X.if_le {x : Int32} {off : Int} {tgt : Nat} (d : decode (mB t) pc = .ok (.ifCond .le off, 3)) (ht : (pc : Int) + off = (tgt : Int)) (hp : pc + 3 = pc') (kt : x ≤ 0 → X G t hh tgt L st M k n o) (kf : ¬ x ≤ 0 → X G t hh pc' L st M k n o) : X G t hh pc L (.int x :: st) M k n o := by
  subst hp
  exact fun p e s m args below meth c A H locs ls hC hH hL => lv_if_le hC.1 hC.2.1 d ht (fun h => kt h p e s m args below meth c A H locs ls hC hH hL) (fun h => kf h p e s m args below meth c A H locs ls hC hH hL)
theorem X.icmp_le {x y : Int32} {off : Int} {tgt : Nat} (d : decode (mB t) pc = .ok (.if_icmp .le off, 3)) (ht : (pc : Int) + off = (tgt : Int)) (hp : pc + 3 = pc') (kt : x ≤ y → X G t hh tgt L st M k n o) (kf : ¬ x ≤ y → X G t hh pc' L st M k n o) : X G t hh pc L (.int y :: .int x :: st) M k n o := by
  subst hp
  exact fun p e s m args below meth c A H locs ls hC hH hL => lv_icmp_le hC.1 hC.2.1 d ht (fun h => kt h p e s m args below meth c A H locs ls hC hH hL) (fun h => kf h p e s m args below meth c A H locs ls hC hH hL)
theorem X.iload_n {z : Fin 4} {i : Nat} {x : Int32} (d : decode (mB t) pc = .ok (.iload_n z, 1)) (hp : pc + 1 = pc') (hi : (z : Nat) = i) (hl : L[i]? = some (some (.int x))) (kk : X G t hh pc' L (.int x :: st) M k n o) : X G t hh pc L st M k n o := by
  subst hp
  exact fun p e s m args below meth c A H locs ls hC hH hL => lv_iload_n hC.1 hC.2.1 d hi (hL.get hl) (kk p e s m args below meth c A H locs ls hC hH hL)
theorem X.iload {i : Nat} {x : Int32} (d : decode (mB t) pc = .ok (.iload i, 2)) (hp : pc + 2 = pc') (hl : L[i]? = some (some (.int x))) (kk : X G t hh pc' L (.int x :: st) M k n o) : X G t hh pc L st M k n o := by
  subst hp
  exact fun p e s m args below meth c A H locs ls hC hH hL => lv_iload hC.1 hC.2.1 d (hL.get hl) (kk p e s m args below meth c A H locs ls hC hH hL)
theorem X.aload_n {z : Fin 4} {i : Nat} {x : Nat} (d : decode (mB t) pc = .ok (.aload_n z, 1)) (hp : pc + 1 = pc') (hi : (z : Nat) = i) (hl : L[i]? = some (some (.ref x))) (kk : X G t hh pc' L (.ref x :: st) M k n o) : X G t hh pc L st M k n o := by
  subst hp
  exact fun p e s m args below meth c A H locs ls hC hH hL => lv_aload_n hC.1 hC.2.1 d hi (hL.get hl) (kk p e s m args below meth c A H locs ls hC hH hL)
theorem X.aload {i : Nat} {x : Nat} (d : decode (mB t) pc = .ok (.aload i, 2)) (hp : pc + 2 = pc') (hl : L[i]? = some (some (.ref x))) (kk : X G t hh pc' L (.ref x :: st) M k n o) : X G t hh pc L st M k n o := by
  subst hp
  exact fun p e s m args below meth c A H locs ls hC hH hL => lv_aload hC.1 hC.2.1 d (hL.get hl) (kk p e s m args below meth c A H locs ls hC hH hL)
theorem X.fload_n {z : Fin 4} {i : Nat} {x : UInt32} (d : decode (mB t) pc = .ok (.fload_n z, 1)) (hp : pc + 1 = pc') (hi : (z : Nat) = i) (hl : L[i]? = some (some (.float x))) (kk : X G t hh pc' L (.float x :: st) M k n o) : X G t hh pc L st M k n o := by
  subst hp
  exact fun p e s m args below meth c A H locs ls hC hH hL => lv_fload_n hC.1 hC.2.1 d hi (hL.get hl) (kk p e s m args below meth c A H locs ls hC hH hL)
theorem X.fload {i : Nat} {x : UInt32} (d : decode (mB t) pc = .ok (.fload i, 2)) (hp : pc + 2 = pc') (hl : L[i]? = some (some (.float x))) (kk : X G t hh pc' L (.float x :: st) M k n o) : X G t hh pc L st M k n o := by
  subst hp
  exact fun p e s m args below meth c A H locs ls hC hH hL => lv_fload hC.1 hC.2.1 d (hL.get hl) (kk p e s m args below meth c A H locs ls hC hH hL)
theorem X.istore_n {z : Fin 4} {i : Nat} {x : Int32} (d : decode (mB t) pc = .ok (.istore_n z, 1)) (hp : pc + 1 = pc') (hi : (z : Nat) = i) (hn : i < mL t) (hl : L.set i (some (.int x)) = L') (kk : X G t hh pc' L' st M k n o) : X G t hh pc L (.int x :: st) M k n o := by
  subst hp
  exact fun p e s m args below meth c A H locs ls hC hH hL => lv_istore_n hC.1 hC.2.1 d hi hL.1 hn rfl (fun ls' h' => kk p e s m args below meth c A H locs ls' hC hH (hL.mk' rfl hl h'))
theorem X.istore {i : Nat} {x : Int32} (d : decode (mB t) pc = .ok (.istore i, 2)) (hp : pc + 2 = pc') (hn : i < mL t) (hl : L.set i (some (.int x)) = L') (kk : X G t hh pc' L' st M k n o) : X G t hh pc L (.int x :: st) M k n o := by
  subst hp
  exact fun p e s m args below meth c A H locs ls hC hH hL => lv_istore hC.1 hC.2.1 d hL.1 hn rfl (fun ls' h' => kk p e s m args below meth c A H locs ls' hC hH (hL.mk' rfl hl h'))
theorem X.astore_n {z : Fin 4} {i : Nat} {x : Nat} (d : decode (mB t) pc = .ok (.astore_n z, 1)) (hp : pc + 1 = pc') (hi : (z : Nat) = i) (hn : i < mL t) (hl : L.set i (some (.ref x)) = L') (kk : X G t hh pc' L' st M k n o) : X G t hh pc L (.ref x :: st) M k n o := by
  subst hp
  exact fun p e s m args below meth c A H locs ls hC hH hL => lv_astore_n hC.1 hC.2.1 d hi hL.1 hn rfl (fun ls' h' => kk p e s m args below meth c A H locs ls' hC hH (hL.mk' rfl hl h'))
theorem X.astore {i : Nat} {x : Nat} (d : decode (mB t) pc = .ok (.astore i, 2)) (hp : pc + 2 = pc') (hn : i < mL t) (hl : L.set i (some (.ref x)) = L') (kk : X G t hh pc' L' st M k n o) : X G t hh pc L (.ref x :: st) M k n o := by
  subst hp
  exact fun p e s m args below meth c A H locs ls hC hH hL => lv_astore hC.1 hC.2.1 d hL.1 hn rfl (fun ls' h' => kk p e s m args below meth c A H locs ls' hC hH (hL.mk' rfl hl h'))
theorem X.fstore_n {z : Fin 4} {i : Nat} {x : UInt32} (d : decode (mB t) pc = .ok (.fstore_n z, 1)) (hp : pc + 1 = pc') (hi : (z : Nat) = i) (hn : i < mL t) (hl : L.set i (some (.float x)) = L') (kk : X G t hh pc' L' st M k n o) : X G t hh pc L (.float x :: st) M k n o := by
  subst hp
  exact fun p e s m args below meth c A H locs ls hC hH hL => lv_fstore_n hC.1 hC.2.1 d hi hL.1 hn rfl (fun ls' h' => kk p e s m args below meth c A H locs ls' hC hH (hL.mk' rfl hl h'))
theorem X.fstore {i : Nat} {x : UInt32} (d : decode (mB t) pc = .ok (.fstore i, 2)) (hp : pc + 2 = pc') (hn : i < mL t) (hl : L.set i (some (.float x)) = L') (kk : X G t hh pc' L' st M k n o) : X G t hh pc L (.float x :: st) M k n o := by
  subst hp
  exact fun p e s m args below meth c A H locs ls hC hH hL => lv_fstore hC.1 hC.2.1 d hL.1 hn rfl (fun ls' h' => kk p e s m args below meth c A H locs ls' hC hH (hL.mk' rfl hl h'))
theorem X.iinc {i : Nat} {x v : Int32} {z : Int} (d : decode (mB t) pc = .ok (.iinc i z, 3)) (hp : pc + 3 = pc') (hx : L[i]? = some (some (.int x))) (hv : x + Int32.ofInt z = v) (hn : i < mL t) (hl : L.set i (some (.int v)) = L') (kk : X G t hh pc' L' st M k n o) : X G t hh pc L st M k n o := by
  subst hp
  intro p e s m args below meth c A H locs ls hC hH hL
  have hm := asc_mem (gR G) L 0 i _ hx
  rw [Nat.zero_add] at hm
  obtain ⟨j, hj⟩ := List.getElem?_of_mem hm
  exact lv_iinc hC.1 hC.2.1 d hL.1 hj hv hn rfl (fun ls' h' => kk p e s m args below meth c A H locs ls' hC hH (hL.mk' rfl hl h'))
end XR
