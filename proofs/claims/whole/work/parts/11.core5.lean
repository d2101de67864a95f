theorem objI_i : Cond.instanceMethod objectInit ∈ TBg := TBg_of 82 (by decide +kernel) rfl
theorem objI_c : Cond.code objectInit ⟨#[0xb1]⟩ 1 none ∈ TBg := TBg_of 83 (by decide +kernel) rfl
/-! calls -/
/-- what the tables say of a call: its link, its code, the number of its arguments -/
def Cl (own : String) (idx : Nat) (t' : Mt) (n : Nat) : Prop :=
  Cond.methodLink own idx (mN t') ∈ TBg ∧ Cond.initialized (mN t').cls ∈ TBg ∧ Cond.code (mN t') (mB t') (mL t') (mR t') ∈ TBg ∧ (mN t').cls ≠ "java/lang/invoke/MethodHandle" ∧ (mN t').cls ≠ "java/lang/invoke/VarHandle" ∧ (parseMethodDescriptor (mN t').desc).map (fun d => d.parameters.length) = some n
/-- .. through a nest mate's private link -/
def Cn (own : String) (idx : Nat) (t' : Mt) (n : Nat) : Prop :=
  (own, idx, mN t') ∈ nestT ∧ Cond.initialized (mN t').cls ∈ TBg ∧ Cond.code (mN t') (mB t') (mL t') (mR t') ∈ TBg ∧ (mN t').cls ≠ "java/lang/invoke/MethodHandle" ∧ (mN t').cls ≠ "java/lang/invoke/VarHandle" ∧ (parseMethodDescriptor (mN t').desc).map (fun d => d.parameters.length) = some n
theorem TBg_good : GoodIn TBg TBg := fun w hw => ⟨hw, good_of_word (List.mem_filter.mp hw).2⟩
theorem mWs_good {t' : Mt} (h : Cond.code (mN t') (mB t') (mL t') (mR t') ∈ TBg) : GoodIn TBg (mWs t') := fun w hw => by
  rcases List.mem_cons.mp hw with rfl | hw
  · exact TBg_good _ h
  · exact TBg_good _ hw
theorem Cl.callB {own : String} {idx n : Nat} {t t' : Mt} {k m' : Nat} {s : State} {args : Array Value} (h : Cl own idx t' n) (hf : Fit t t' k m') (hts : ∀ w ∈ TBg, w.before args s = true) : CallB (mRoom t) s args own idx (mN t') (mB t') (mL t') (mR t') (mWs t') (mRoom t') (mC t') (mS t') n :=
  callB_of n hts (mWs_good h.2.2.1) rfl rfl rfl (hts _ h.2.1) (hts _ h.1) ⟨h.2.2.2.1, h.2.2.2.2.1, h.2.2.2.2.2⟩ hf.1
theorem Cn.callN {G : GT} {own : String} {idx n : Nat} {t t' : Mt} {k m' : Nat} {A : Nat → Prop} {s : State} {args : Array Value} (h : Cn own idx t' n) (hf : Fit t t' k m') (hts : ∀ w ∈ TBg, w.before args s = true) (hI : SI (gX G) (gR G) A s s.heap) : va_CN (mRoom t) s args own idx (mN t') "RouteBudget" (mB t') (mL t') (mR t') (mWs t') (mRoom t') (mC t') (mS t') n :=
  va_cnB n hts (mWs_good h.2.2.1) rfl rfl rfl (hI.2.2.2.1.2.1 _ h.1) (hts _ h.2.1) ⟨h.2.2.2.1, h.2.2.2.2.1, h.2.2.2.2.2⟩ hf.1
theorem cats_map (ρ : Nat → Nat) (st : List Value) : ((st.map (cv ρ)).map fun v => v.category).sum = (st.map fun v => v.category).sum := by
  rw [List.map_map]
  congr 1
  exact List.map_congr_left (fun v _ => cv_cat ρ v)
section XK
variable {G : GT} {t t' : Mt} {hh : List (Nat × Nat × Nat × Nat)} {pc pc' : Nat} {L L' : List (Option Value)} {st : List Value} {M M' : List Ob} {k n : Nat} {o : Out}
/-- the receiver is an object of the class of the method -/
def Rc (ci : Nat) (nm : MethodName) : Prop := ∃ r, vwCl[ci]? = some r ∧ r.1 = nm.cls
theorem recvX {p : Program} {s : State} {m : MethodId} {args : Array Value} {meth : Method} {c : Code} {A : Nat → Prop} {H : Heap} {locs : List Loc} {b ci : Nat} {nm : MethodName} (hC : Cx G t hh p s m args meth c A) (hH : Hp G M A s H locs) (hb : hasO M b ci = some ()) (hr : Rc ci nm) : ∃ cellB : Cell, H[gR G b]? = some cellB ∧ cellB.vm.isStatics = false ∧ s.vm.findClass nm.cls = some cellB.cls := by
  have ⟨ob, hob, hc1⟩ : ∃ ob, M[b]? = some ob ∧ ob.1 = ci := by
    unfold hasO at hb
    split at hb
    · rename_i ob h1
      split at hb
      · exact ⟨ob, h1, by assumption⟩
      · cases hb
    · cases hb
  obtain ⟨r, h1, h2⟩ := hr
  have hg := cw_get (G := G) hob
  obtain ⟨oc, ofs⟩ := ob
  subst hc1
  rw [co_obj (kind_lt h1)] at hg
  have := va_recv hC.2.2.2.2.2.2.2.2.1 hH.1 h1 hg
  rw [h2] at this
  exact this
theorem X.callV {idx na b ci : Nat} {As : List Value} {v : Option Value} (d : decode (mB t) pc = .ok (.invokevirtual idx, 3)) (hp : pc + 3 = pc') (hc : Cl (mN t).cls idx t' na) (hi : Cond.instanceMethod (mN t') ∈ TBg) (hs : Cond.selects (mN t').cls (mN t') (mN t') ∈ TBg) (hr : Rc ci (mN t')) (hb : hasO M b ci = some ()) (hf : Fit t t' k n) (hn : As.length = na) (hst : (st.map fun v => v.category).sum ≤ 8) (hsp : Sp (zs G) t' (.ref b :: As) M (.inl v, M')) (kk : X G t hh pc' L (v.toList ++ st) M' (k + mC t') (n + mS t') o) : X G t hh pc L (As.reverse ++ .ref b :: st) M k n o := by
  subst hp
  intro p e s m args below meth c A H locs ls hC hH hL
  have hts := hC.2.2.2.2.2.2.1
  have e1 : (As.reverse ++ Value.ref b :: st).map (cv (gR G)) = (As.map (cv (gR G))).reverse ++ .ref (gR G b) :: st.map (cv (gR G)) := by
    rw [List.map_append, List.map_reverse]; rfl
  rw [e1]
  refine X.back hC hH (va_runV (As := As.map (cv (gR G))) (rest := st.map (cv (gR G))) ⟨hC.1, hC.2.1, hC.2.2.1, hC.2.2.2.2.2.1, hts⟩ (hsp H.size) ⟨hc.callB hf hts, hts _ hi, hts _ hs⟩ ⟨Pr_blind G M H.size _, recvX hC hH hb hr, Pr_call (As := .ref b :: As) hC hH⟩ rfl (by rw [List.length_map]; exact hn) hL.1.1 rfl (lv_room (by rw [cats_map]; exact hst)) d hf.2) ?_
  exact fun H1 locs1 hH1 => kk p e s m args below meth c A H1 locs1 ls hC hH1 hL
theorem X.callS {idx na : Nat} {As : List Value} {v : Option Value} (d : decode (mB t) pc = .ok (.invokestatic idx, 3)) (hp : pc + 3 = pc') (hc : Cl (mN t).cls idx t' na) (hs : Cond.static (mN t') ∈ TBg) (hf : Fit t t' k n) (hn : As.length = na) (hst : (st.map fun v => v.category).sum ≤ 8) (hsp : Sp (zs G) t' As M (.inl v, M')) (kk : X G t hh pc' L (v.toList ++ st) M' (k + mC t') (n + mS t') o) : X G t hh pc L (As.reverse ++ st) M k n o := by
  subst hp
  intro p e s m args below meth c A H locs ls hC hH hL
  have hts := hC.2.2.2.2.2.2.1
  have e1 : (As.reverse ++ st).map (cv (gR G)) = (As.map (cv (gR G))).reverse ++ st.map (cv (gR G)) := by
    rw [List.map_append, List.map_reverse]
  rw [e1]
  refine X.back hC hH (va_runS (As := As.map (cv (gR G))) (rest := st.map (cv (gR G))) ⟨hC.1, hC.2.1, hC.2.2.1, hC.2.2.2.2.2.1, hts⟩ (hsp H.size) ⟨hc.callB hf hts, hts _ hs⟩ ⟨Pr_blind G M H.size _, Pr_call (As := As) hC hH⟩ rfl (by rw [List.length_map]; exact hn) hL.1.1 rfl (lv_room (by rw [cats_map]; exact hst)) d hf.2) ?_
  exact fun H1 locs1 hH1 => kk p e s m args below meth c A H1 locs1 ls hC hH1 hL
theorem X.callSN {idx na : Nat} {As : List Value} {v : Option Value} (d : decode (mB t) pc = .ok (.invokestatic idx, 3)) (hp : pc + 3 = pc') (hc : Cn (mN t).cls idx t' na) (hs : Cond.static (mN t') ∈ TBg) (hf : Fit t t' k n) (hn : As.length = na) (hst : (st.map fun v => v.category).sum ≤ 8) (hsp : Sp (zs G) t' As M (.inl v, M')) (kk : X G t hh pc' L (v.toList ++ st) M' (k + mC t') (n + mS t') o) : X G t hh pc L (As.reverse ++ st) M k n o := by
  subst hp
  intro p e s m args below meth c A H locs ls hC hH hL
  have hts := hC.2.2.2.2.2.2.1
  have e1 : (As.reverse ++ st).map (cv (gR G)) = (As.map (cv (gR G))).reverse ++ st.map (cv (gR G)) := by
    rw [List.map_append, List.map_reverse]
  rw [e1]
  refine X.back hC hH (va_runSN (As := As.map (cv (gR G))) (rest := st.map (cv (gR G))) ⟨hC.1, hC.2.1, hC.2.2.1, hC.2.2.2.2.2.1, hts⟩ (hsp H.size) ⟨hc.callN hf hts hC.2.2.2.2.2.2.2.2.2.1, hts _ hs, trivial⟩ ⟨Pr_blind G M H.size _, Pr_call (As := As) hC hH⟩ rfl (by rw [List.length_map]; exact hn) hL.1.1 rfl (lv_room (by rw [cats_map]; exact hst)) d hf.2) ?_
  exact fun H1 locs1 hH1 => kk p e s m args below meth c A H1 locs1 ls hC hH1 hL
theorem X.callI {idx na b : Nat} {As : List Value} (d : decode (mB t) pc = .ok (.invokespecial idx, 3)) (hp : pc + 3 = pc') (hc : Cl (mN t).cls idx t' na) (hr : mR t' = none) (hy : (mN t').name = "<init>") (hi : Cond.instanceMethod (mN t') ∈ TBg) (hf : Fit t t' k n) (hn : As.length = na) (hst : (st.map fun v => v.category).sum ≤ 8) (hsp : Sp (zs G) t' (.ref b :: As) M (.inl none, M')) (kk : X G t hh pc' L st M' (k + mC t') (n + mS t') o) : X G t hh pc L (As.reverse ++ .ref b :: st) M k n o := by
  subst hp
  intro p e s m args below meth c A H locs ls hC hH hL
  have hts := hC.2.2.2.2.2.2.1
  have e1 : (As.reverse ++ Value.ref b :: st).map (cv (gR G)) = (As.map (cv (gR G))).reverse ++ .ref (gR G b) :: st.map (cv (gR G)) := by
    rw [List.map_append, List.map_reverse]; rfl
  rw [e1]
  have cb := hc.callB hf hts
  rw [hr] at cb
  refine X.back hC hH (va_runI (As := As.map (cv (gR G))) (rest := st.map (cv (gR G))) ⟨hC.1, hC.2.1, hC.2.2.1, hC.2.2.2.2.2.1, hts⟩ (hsp H.size) ⟨cb, hy, hts _ hi⟩ ⟨Pr_blind G M H.size _, Pr_call (As := .ref b :: As) hC hH⟩ rfl (by rw [List.length_map]; exact hn) hL.1.1 rfl (lv_room (by rw [cats_map]; exact hst)) d hf.2) ?_
  exact fun H1 locs1 hH1 => kk p e s m args below meth c A H1 locs1 ls hC hH1 hL
theorem X.callIN {idx na b : Nat} {As : List Value} (d : decode (mB t) pc = .ok (.invokespecial idx, 3)) (hp : pc + 3 = pc') (hc : Cn (mN t).cls idx t' na) (hr : mR t' = none) (hy : (mN t').name = "<init>") (hi : Cond.instanceMethod (mN t') ∈ TBg) (hf : Fit t t' k n) (hn : As.length = na) (hst : (st.map fun v => v.category).sum ≤ 8) (hsp : Sp (zs G) t' (.ref b :: As) M (.inl none, M')) (kk : X G t hh pc' L st M' (k + mC t') (n + mS t') o) : X G t hh pc L (As.reverse ++ .ref b :: st) M k n o := by
  subst hp
  intro p e s m args below meth c A H locs ls hC hH hL
  have hts := hC.2.2.2.2.2.2.1
  have e1 : (As.reverse ++ Value.ref b :: st).map (cv (gR G)) = (As.map (cv (gR G))).reverse ++ .ref (gR G b) :: st.map (cv (gR G)) := by
    rw [List.map_append, List.map_reverse]; rfl
  rw [e1]
  have cb := hc.callN hf hts hC.2.2.2.2.2.2.2.2.2.1
  rw [hr] at cb
  refine X.back hC hH (va_runIN (As := As.map (cv (gR G))) (rest := st.map (cv (gR G))) ⟨hC.1, hC.2.1, hC.2.2.1, hC.2.2.2.2.2.1, hts⟩ (hsp H.size) ⟨cb, hy, hts _ hi⟩ ⟨Pr_blind G M H.size _, Pr_call (As := .ref b :: As) hC hH⟩ rfl (by rw [List.length_map]; exact hn) hL.1.1 rfl (lv_room (by rw [cats_map]; exact hst)) d hf.2) ?_
  exact fun H1 locs1 hH1 => kk p e s m args below meth c A H1 locs1 ls hC hH1 hL
/-- Object's own constructor -/
theorem X.objI {idx a : Nat} (d : decode (mB t) pc = .ok (.invokespecial idx, 3)) (hp : pc + 3 = pc') (hl : Cond.methodLink (mN t).cls idx objectInit ∈ TBg) (hf : 1 ≤ mF t) (hw : (st.map fun v => v.category).sum + 12 ≤ mW t) (kk : X G t hh pc' L st M k n o) : X G t hh pc L (.ref a :: st) M k n o := by
  subst hp
  intro p e s m args below meth c A H locs ls hC hH hL
  have hts := hC.2.2.2.2.2.2.1
  refine W.objInit hC.1 hC.2.1 hC.2.2.2.2.2.1 (hts _ hl) (hts _ objI_i) (hts _ objI_c) rfl (hL.1.1.trans hC.2.2.1.symm) rfl d hf (by show 2 * (F0 m pc ls _).monitorRoom + _ + 12 ≤ _; rw [cats_map]; exact Nat.le_trans (by show 0 + _ + 12 ≤ _; omega) hw) ?_
  exact kk p e s m args below meth c A H locs ls hC hH hL
/-- a text -/
theorem X.ldcS {idx j : Nat} {tx : String} (d : decode (mB t) pc = .ok (.ldc idx, 2)) (hp : pc + 2 = pc') (hm : ((mN t).cls, idx, tx, j) ∈ strT) (kk : X G t hh pc' L (.ref (1000000 + j) :: st) M k n o) : X G t hh pc L st M k n o := by
  subst hp
  exact fun p e s m args below meth c A H locs ls hC hH hL => va_ldcS hC.1 hC.2.1 hC.2.2.2.2.2.1 (hC.2.2.2.2.2.2.2.2.2.1.1 _ hm) d (kk p e s m args below meth c A H locs ls hC hH hL)
end XK
