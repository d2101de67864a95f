/-! methods with handlers, and their calls -/
theorem Lr.mkN {ρ : Nat → Nat} {n : Nat} {L L' : List (Option Value)} {ls ls' : Array Slot} {i : Nat} {w : Value} (h : Lr ρ n L ls) (hL : L.set i none = L') (h' : lv_has ls' n ((i, w) :: (asc ρ 0 L).filter (fun q => !(q.1 == i) && !(q.1 + 1 == i && q.2.category == 2)))) : Lr ρ n L' ls' := by
  subst hL
  refine ⟨⟨h'.1, h'.2.1, fun q hq => ?_⟩, fun w9 hw => ?_⟩
  · obtain ⟨j, v, rfl, hj⟩ := asc_of ρ _ 0 q hq
    rw [Nat.zero_add]
    by_cases hji : j = i
    · subst hji
      have hl : j < L.length := by
        rcases Nat.lt_or_ge j L.length with q | q
        · exact q
        · rw [List.getElem?_eq_none (by simpa using q)] at hj; cases hj
      rw [List.getElem?_set_self hl] at hj
      cases hj
    · rw [List.getElem?_set_ne (fun e => hji e.symm)] at hj
      refine h'.2.2 _ (List.mem_cons_of_mem _ (List.mem_filter.mpr ⟨?_, ?_⟩))
      · have := asc_mem ρ L 0 j v hj
        simpa using this
      · have hc : v.category = 1 := h.2 v (List.mem_of_getElem? hj)
        simp [hji, cv_cat, hc]
  · rcases List.mem_or_eq_of_mem_set hw with q | q
    · exact h.2 w9 q
    · cases q
def mWsW (t : Mt) (hh : List (Nat × Nat × Nat × Nat)) : List Cond := Cond.codeWith (mN t) (mB t) (mL t) (mR t) hh :: TBg
def SpW (G : GT) (t : Mt) (hh : List (Nat × Nat × Nat × Nat)) (As : List Value) (M : List Ob) (o : Out) : Prop :=
  ∀ sz, Met (gL G) (mN t) (mWsW t hh) (mRoom t) (va_Pc (As.map (cv (gR G))) (Pr G M sz)) (Fi G o (va_A (cw G M) sz)) (mC t) (mS t) (va_A (cw G M) sz)
theorem SpW.of {G : GT} {t : Mt} {hh : List (Nat × Nat × Nat × Nat)} {As : List Value} {M : List Ob} {o : Out} (hT : mT t = false) (hpl : plainName (mN t).cls = true) (hc : ∀ v ∈ As, v.category = 1) (hn : As.length ≤ mL t) (h : X G t hh 0 (As.map some ++ List.replicate (mL t - As.length) none) [] M 0 0 o) : SpW G t hh As M o := by
  intro sz
  refine va_MetW (cc := mB t) (maxL := mL t) (ret := mR t) (hh := hh) hpl rfl ?_
  intro p e s m args below meth c s₁ B hml hv
  obtain ⟨rfl, hsz, hP, hD, hK, hI, hz, htr⟩ := hv
  have hts := atoms_spec (ws := mWsW t hh) B.pre
  have ht : c.exceptionTable.toList = tableOf hh := vx_table (x := mN t) B (hts _ List.mem_cons_self)
  have hown : s.vm.findClass (mN t).cls = some m.cls := findClass_of_methodNamed B.named
  subst hsz
  have hA : ∀ q, s.heap.size ≤ q → va_A (cw G M) s.heap.size q := fun q h => Or.inr h
  rw [lg_entry_eq]
  have hw := h p e s m _ below meth c (va_A (cw G M) s.heap.size) s.heap [] _ ⟨B.exec, B.bytes, hml, B.returns, B.notSynchronized, hown, fun w hw => hts w (List.mem_cons_of_mem _ hw), hA, hK, hI, fun q => by rw [(name_of_methodNamed B.named B.method).1]; exact q, ht, htr⟩ ⟨hP, hD.self, va_S.rf, hz⟩ (entry_Lr hc hn)
  unfold EQ at hw
  rw [if_neg (by rw [hT]; decide)] at hw
  exact hw
/-- what the tables say of a call of such a method -/
def Cw (own : String) (idx : Nat) (t' : Mt) (hh : List (Nat × Nat × Nat × Nat)) (n : Nat) : Prop :=
  Cond.methodLink own idx (mN t') ∈ TBg ∧ Cond.initialized (mN t').cls ∈ TBg ∧ Cond.codeWith (mN t') (mB t') (mL t') (mR t') hh ∈ TBg ∧ Cond.static (mN t') ∈ TBg ∧ (mN t').cls ≠ "java/lang/invoke/MethodHandle" ∧ (mN t').cls ≠ "java/lang/invoke/VarHandle" ∧ (parseMethodDescriptor (mN t').desc).map (fun d => d.parameters.length) = some n
section XW
variable {G : GT} {t t' : Mt} {hh hh' : List (Nat × Nat × Nat × Nat)} {pc pc' : Nat} {L L' : List (Option Value)} {st : List Value} {M M' : List Ob} {k n : Nat} {o : Out}
theorem X.callW {idx na : Nat} {As : List Value} {v : Option Value} (d : decode (mB t) pc = .ok (.invokestatic idx, 3)) (hp : pc + 3 = pc') (hc : Cw (mN t).cls idx t' hh' na) (hf : Fit t t' k n) (hn : As.length = na) (hst : (st.map fun v => v.category).sum ≤ 8) (hsp : SpW (zs G) t' hh' As M (.inl v, M')) (kk : X G t hh pc' L (v.toList ++ st) M' (k + mC t') (n + mS t') o) : X G t hh pc L (As.reverse ++ st) M k n o := by
  subst hp
  intro p e s m args below meth c A H locs ls hC hH hL
  have hts := hC.2.2.2.2.2.2.1
  obtain ⟨c1, c2, c3, c4, c5, c6, c7⟩ := hc
  have e1 : (As.reverse ++ st).map (cv (gR G)) = (As.map (cv (gR G))).reverse ++ st.map (cv (gR G)) := by
    rw [List.map_append, List.map_reverse]
  rw [e1]
  have hg : GoodIn TBg (va_wsS (mN t).cls idx (mN t') (mWsW t' hh')) := fun w hw => by
    rcases List.mem_append.mp hw with hw | hw
    · simp only [List.mem_cons, List.not_mem_nil, or_false] at hw
      rcases hw with rfl | rfl | rfl
      · exact TBg_good _ c1
      · exact TBg_good _ c4
      · exact TBg_good _ c2
    · rcases List.mem_cons.mp hw with rfl | hw
      · exact TBg_good _ c3
      · exact TBg_good _ hw
  refine X.back hC hH (vx_runSW (As := As.map (cv (gR G))) (rest := st.map (cv (gR G))) ⟨hC.1, hC.2.1, hC.2.2.1, hC.2.2.2.2.2.1, hts⟩ (hsp H.size) (vx_cwSW na hts hg rfl rfl rfl ⟨c5, c6, c7⟩ hf.1) ⟨Pr_blind G M H.size _, Pr_call (As := As) hC hH⟩ rfl (by rw [List.length_map]; exact hn) hL.1.1 rfl (lv_room (by rw [cats_map]; exact hst)) d hf.2) ?_
  exact fun H1 locs1 hH1 => kk p e s m args below meth c A H1 locs1 ls hC hH1 hL
/-- the method that is called throws, and a handler here takes it -/
theorem X.callVh {idx na b ci i pc2 : Nat} {As : List Value} {E : String} {pre suf : List ExceptionTableEntry} {x : ExceptionTableEntry} (d : decode (mB t) pc = .ok (.invokevirtual idx, 3)) (hc : Cl (mN t).cls idx t' na) (hi : Cond.instanceMethod (mN t') ∈ TBg) (hs : Cond.selects (mN t').cls (mN t') (mN t') ∈ TBg) (hr : Rc ci (mN t')) (hb : hasO M b ci = some ()) (hf : Fit t t' k n) (hn : As.length = na) (hst : (st.map fun v => v.category).sum ≤ 8) (hz : gZ G = false) (hsp : Sq (zs G) t' (.ref b :: As) M (.inr E, M'))
    (hsplit : tableOf hh = pre ++ x :: suf) (hpass : ∀ z ∈ pre, z.catchType ≠ 0 ∧ ∃ nm : String, Cond.classLink (mN t).cls z.catchType nm ∈ TBg ∧ (E, nm) ∈ ncT) (hx : covers x pc = true) (h0 : x.catchType ≠ 0) (hlink : Cond.classLink (mN t).cls x.catchType E ∈ TBg) (hE : E ∈ excT)
    (da : (decode (mB t) x.handlerPc = .ok (.astore i, 2) ∧ x.handlerPc + 2 = pc2) ∨ ∃ z : Fin 4, decode (mB t) x.handlerPc = .ok (.astore_n z, 1) ∧ (z : Nat) = i ∧ x.handlerPc + 1 = pc2) (hiL : i < mL t) (hl : L.set i none = L') (kk : X G t hh pc2 L' [] M' (k + mC t') (n + mS t') o) : X G t hh pc L (As.reverse ++ .ref b :: st) M k n o := by
  intro p e s m args below meth c A H locs ls hC hH hL
  have hts := hC.2.2.2.2.2.2.1
  have hI := hC.2.2.2.2.2.2.2.2.2.1
  have hcast : (Cond.castable E E).before args s = true := va_Nw.use rfl (hI.2.2.2.1.2.2.1 _ (List.mem_append_left _ (List.mem_map.mpr ⟨E, hE, rfl⟩)))
  refine X.backX hC hH hz (runV hC hH hL d hc hi hs hr hb hf hn hst hsp) (fun q ce H1 locs1 hH1 h1 h2 h3 => ?_)
  refine vx_catch hC.2.2.2.2.2.1 pre x suf (hC.2.2.2.2.2.2.2.2.2.2.2.1.trans hsplit) (fun z hz9 => Or.inr ⟨(hpass z hz9).1, ?_⟩) hx h0 (hts _ hlink) hcast h1 h2 h3 ?_
  · obtain ⟨-, nm, g1, g2⟩ := hpass z hz9
    exact ⟨nm, hts _ g1, hI.2.2.2.1.2.2.2.1 _ g2⟩
  · rcases da with ⟨d1, rfl⟩ | ⟨z, d1, d2, rfl⟩
    · exact lv_astore hC.1 hC.2.1 d1 hL.1 hiL rfl (fun ls' h' => kk p e s m args below meth c A H1 locs1 ls' hC hH1 (hL.mkN hl h'))
    · exact lv_astore_n hC.1 hC.2.1 d1 d2 hL.1 hiL rfl (fun ls' h' => kk p e s m args below meth c A H1 locs1 ls' hC hH1 (hL.mkN hl h'))
end XW
def bdW {α β : Type} (x : Option (Except String α × List Ob)) (f : α → List Ob → Option β) (g : String → List Ob → Option β) : Option β := match x with
  | some (.ok a, M) => f a M
  | some (.error e, M) => g e M
  | none => none
theorem bdWE {α β : Type} {x : Option (Except String α × List Ob)} {f : α → List Ob → Option β} {g : String → List Ob → Option β} {b : β} (h : bdW x f g = some b) : (∃ a M, x = some (.ok a, M) ∧ f a M = some b) ∨ (∃ e M, x = some (.error e, M) ∧ g e M = some b) := by
  cases x with
  | none => cases h
  | some p =>
    obtain ⟨q, M⟩ := p
    cases q with
    | ok a => exact Or.inl ⟨a, M, rfl, h⟩
    | error e => exact Or.inr ⟨e, M, rfl, h⟩
