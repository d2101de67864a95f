/-! methods by contract, their ends, their calls -/
theorem Hp.push {G : GT} {M : List Ob} {A : Nat → Prop} {s : State} {H H1 : Heap} {locs : List Loc} {x : Ob} (hH : Hp G M A s H locs) (hA : ∀ q, s.heap.size ≤ q → A q) (hz : gZ G = true) (hR : gR G M.length = gN G + M.length) (he : va_at (gD G) vwCl (H.size, co (gA G) (gR G) x) H1) (z : H1.size = H.size + 1) (oq : ∀ q : Nat, q < H.size → H1[q]? = H[q]?) : Hp G (M ++ [x]) A s H1 locs := by
  have hq : gR G M.length = H.size := by rw [hR, hH.2.2.2 hz]
  have hk : ∀ (k : Nat) (y : Nat × va_E), (cw G M)[k]? = some y → H1[y.1]? = H[y.1]? := fun k y hy => oq y.1 ((hH.1 k y hy).lt)
  refine ⟨?_, ?_, ⟨Nat.le_trans hH.2.2.1.1 (by omega), fun y h1 h2 => (oq y (Nat.lt_of_lt_of_le h1 hH.2.2.1.1)).trans (hH.2.2.1.2.1 y h1 h2), hH.2.2.1.2.2⟩, fun _ => by rw [z, hH.2.2.2 hz, List.length_append]; rfl⟩
  · rw [cw_push]
    refine (hH.1.kept hk).app (fun k y hy => ?_)
    have h0 : k < 1 := (List.getElem?_eq_some_iff.mp hy).1
    rw [show k = 0 by omega] at hy
    cases hy
    rw [hq]
    exact he
  · rw [cw_push]
    exact hH.2.1.push hH.1 hq (by rw [hq]; exact hA _ hH.2.2.1.1)
/-- before a method: the heap holds M, all else is as ever -/
def Pr (G : GT) (M : List Ob) (sz : Nat) : State → Prop := fun U =>
  U.heap.size = sz ∧ va_P (gD G) vwCl (cw G M) U.heap ∧ va_D (fun _ => True) (cw G M) ∧ va_K (gD G) vwCl (tysA (gA G)) U ∧ SI (gX G) (gR G) (va_A (cw G M) sz) U U.heap ∧ (gZ G = true → sz = gN G + M.length) ∧ (gL G).stackTraces = false
/-- the contract of a method that returns -/
def Sp (G : GT) (t : Mt) (As : List Value) (M : List Ob) (o : Out) : Prop :=
  ∀ sz, Met (gL G) (mN t) (mWs t) (mRoom t) (va_Pc (As.map (cv (gR G))) (Pr G M sz)) (Fi G o (va_A (cw G M) sz)) (mC t) (mS t) (va_A (cw G M) sz)
/-- .. of one that returns or throws -/
def Sq (G : GT) (t : Mt) (As : List Value) (M : List Ob) (o : Out) : Prop :=
  ∀ sz, vx_Met (gL G) (mN t) (mWs t) (mRoom t) (va_Pc (As.map (cv (gR G))) (Pr G M sz)) (Fi G o (va_A (cw G M) sz)) (Fx G o (va_A (cw G M) sz)) (mC t) (mS t) (va_A (cw G M) sz)
theorem lv_args_asc (ρ : Nat → Nat) (r : Nat) : ∀ (As : List Value) (i : Nat), (∀ v ∈ As, v.category = 1) → lv_args i (As.map (cv ρ)) = asc ρ i (As.map some ++ List.replicate r none)
  | [], i, _ => by
    induction r generalizing i with
    | zero => rfl
    | succ r ih =>
      show [] = asc ρ i (none :: (([] : List Value).map some ++ List.replicate r none))
      rw [asc, ← ih (i + 1)]; rfl
  | v :: As, i, h => by
    have hv : (cv ρ v).category = 1 := (cv_cat ρ v).trans (h v List.mem_cons_self)
    show (i, cv ρ v) :: lv_args (if (cv ρ v).category = 2 then i + 2 else i + 1) (As.map (cv ρ)) = _
    rw [if_neg (by omega), lv_args_asc ρ r As (i + 1) (fun w hw => h w (List.mem_cons_of_mem _ hw))]
    rfl
theorem lg_sl_len : ∀ (As : List Value), (∀ v ∈ As, v.category = 1) → (lg_sl As).length = As.length
  | [], _ => rfl
  | v :: As, h => by
    have hv := h v List.mem_cons_self
    have := lg_sl_len As (fun w hw => h w (List.mem_cons_of_mem _ hw))
    simp only [lg_sl, List.flatMap_cons, List.length_append, List.length_cons] at this ⊢
    rw [this, if_neg (by omega)]
    simp; omega
theorem entry_Lr {ρ : Nat → Nat} {nL : Nat} {As : List Value} (hc : ∀ v ∈ As, v.category = 1) (hn : As.length ≤ nL) : Lr ρ nL (As.map some ++ List.replicate (nL - As.length) none) ((lg_sl (As.map (cv ρ)) ++ List.replicate (nL - (lg_sl (As.map (cv ρ))).length) Slot.unset).toArray) := by
  have hc' : ∀ v ∈ As.map (cv ρ), v.category = 1 := fun v hv => by
    obtain ⟨w, hw, rfl⟩ := List.mem_map.mp hv
    exact (cv_cat ρ w).trans (hc w hw)
  refine ⟨?_, fun v hv => ?_⟩
  · rw [← lv_args_asc ρ _ As 0 hc]
    exact lv_entry _ (by rw [lg_sl_len _ hc', List.length_map]; exact hn)
  · rcases List.mem_append.mp hv with h | h
    · obtain ⟨w, hw, e⟩ := List.mem_map.mp h
      cases e
      exact hc _ hw
    · have := List.eq_of_mem_replicate h
      cases this
/-- the words of a method hold where it is called -/
theorem mWs_TBg {t : Mt} {args : Array Value} {s : State} (h : ∀ w ∈ mWs t, w.before args s = true) : ∀ w ∈ TBg, w.before args s = true := fun w hw => h w (List.mem_cons_of_mem _ hw)
theorem Sp.of {G : GT} {t : Mt} {As : List Value} {M : List Ob} {o : Out} (hT : mT t = false) (hpl : plainName (mN t).cls = true) (hc : ∀ v ∈ As, v.category = 1) (hn : As.length ≤ mL t) (h : X G t [] 0 (As.map some ++ List.replicate (mL t - As.length) none) [] M 0 0 o) : Sp G t As M o := by
  intro sz
  refine Met.ofW (cc := mB t) (maxL := mL t) (ret := mR t) hpl rfl ?_
  intro p e s m args below meth c s₁ B hml hv
  obtain ⟨rfl, hsz, hP, hD, hK, hI, hz, htr⟩ := hv
  have hts := atoms_spec (ws := mWs t) B.pre
  have ht : c.exceptionTable.toList = tableOf [] := by
    obtain ⟨meth9, c9, h1, h2, -, -, -, -, h7, -⟩ := Cond.code_spec B.named (hts _ List.mem_cons_self)
    cases Option.some.inj (h1.symm.trans B.method)
    cases Option.some.inj (h2.symm.trans (Stand.of_body B).code)
    rw [Array.isEmpty_iff.mp h7]
    rfl
  have hown : s.vm.findClass (mN t).cls = some m.cls := findClass_of_methodNamed B.named
  subst hsz
  have hA : ∀ q, s.heap.size ≤ q → va_A (cw G M) s.heap.size q := fun q h => Or.inr h
  rw [lg_entry_eq]
  have hw := h p e s m _ below meth c (va_A (cw G M) s.heap.size) s.heap [] _ ⟨B.exec, B.bytes, hml, B.returns, B.notSynchronized, hown, mWs_TBg hts, hA, hK, hI, fun q => by rw [(name_of_methodNamed B.named B.method).1]; exact q, ht, htr⟩ ⟨hP, hD.self, va_S.rf, hz⟩ (entry_Lr hc hn)
  unfold EQ at hw
  rw [if_neg (by rw [hT]; decide)] at hw
  exact hw
theorem Sq.of {G : GT} {t : Mt} {As : List Value} {M : List Ob} {o : Out} (hT : mT t = true) (hpl : plainName (mN t).cls = true) (hc : ∀ v ∈ As, v.category = 1) (hn : As.length ≤ mL t) (h : X G t [] 0 (As.map some ++ List.replicate (mL t - As.length) none) [] M 0 0 o) : Sq G t As M o := by
  intro sz
  refine vx_ofW (cc := mB t) (maxL := mL t) (ret := mR t) hpl rfl ?_
  intro p e s m args below meth c s₁ B hml ht0 hv
  obtain ⟨rfl, hsz, hP, hD, hK, hI, hz, htr⟩ := hv
  have hts := atoms_spec (ws := mWs t) B.pre
  have ht : c.exceptionTable.toList = tableOf [] := by
    show c.exceptionTable.toList = []
    exact List.eq_nil_iff_forall_not_mem.mpr (fun x hx => ht0 x hx)
  have hown : s.vm.findClass (mN t).cls = some m.cls := findClass_of_methodNamed B.named
  subst hsz
  have hA : ∀ q, s.heap.size ≤ q → va_A (cw G M) s.heap.size q := fun q h => Or.inr h
  rw [lg_entry_eq]
  have hw := h p e s m _ below meth c (va_A (cw G M) s.heap.size) s.heap [] _ ⟨B.exec, B.bytes, hml, B.returns, B.notSynchronized, hown, mWs_TBg hts, hA, hK, hI, fun q => by rw [(name_of_methodNamed B.named B.method).1]; exact q, ht, htr⟩ ⟨hP, hD.self, va_S.rf, hz⟩ (entry_Lr hc hn)
  unfold EQ at hw
  rw [if_pos hT] at hw
  exact hw
section XC
variable {G : GT} {t : Mt} {hh : List (Nat × Nat × Nat × Nat)} {pc pc' : Nat} {L L' : List (Option Value)} {st : List Value} {M M' : List Ob} {k n : Nat} {o : Out}
theorem X.endM {p : Program} {e : Env} {s : State} {m : MethodId} {args : Array Value} {below : List Frame} {meth : Method} {c : Code} {A : Nat → Prop} {H : Heap} {locs : List Loc} {g : JFrame} (hk : k ≤ mC t) (hn : n ≤ mS t)
    (h : W p (gL G) e (mRoom t) s m args below meth c H locs (mC t) (mS t) (MQ below (Fi G o A) args s (mC t) (mS t) A) g) : W p (gL G) e (mRoom t) s m args below meth c H locs k n (EQ t below G o A args s) g := by
  unfold EQ
  refine W.widen hk hn ?_
  split
  · exact vx_ret h
  · exact h
theorem Fi.of {v : Option Value} {A : Nat → Prop} {s : State} {args : Array Value} {H : Heap} {locs : List Loc} (hH : Hp G M A s H locs) {u : State} (hu : u.heap = H) : Fi G (.inl v, M) A args s (.returned (v.map (cv (gR G)))) u :=
  ⟨⟨v, rfl, rfl, by rw [hu]; exact hH.1, hH.2.1, fun _ z => by rw [hu]; exact hH.2.2.2 z⟩, hH.2.2.1.F hu⟩
theorem X.iret {v : Int32} {ty : FieldType} (d : decode (mB t) pc = .ok (.ireturn, 1)) (hr : mR t = some ty) (hv : narrow ty (.int v) = .int v) (hk : k ≤ mC t) (hn : n ≤ mS t) (ho : o = (.inl (some (.int v)), M)) : X G t hh pc L [.int v] M k n o := by
  subst ho
  exact fun p e s m args below meth c A H locs ls hC hH hL => X.endM hk hn (W.zret hC.1 hC.2.1 (hC.2.2.2.1.trans hr) hv (fun u hu _ => Fi.of (v := some (.int v)) hH hu) hH.2.2.1.2.2 d hC.2.2.2.2.1)
theorem X.fret {v : UInt32} (d : decode (mB t) pc = .ok (.freturn, 1)) (hr : mR t = some .float) (hk : k ≤ mC t) (hn : n ≤ mS t) (ho : o = (.inl (some (.float v)), M)) : X G t hh pc L [.float v] M k n o := by
  subst ho
  exact fun p e s m args below meth c A H locs ls hC hH hL => X.endM hk hn (W.fret hC.1 hC.2.1 (hC.2.2.2.1.trans hr) (fun u hu _ => Fi.of (v := some (.float v)) hH hu) hH.2.2.1.2.2 d hC.2.2.2.2.1)
theorem X.aret {v : Nat} {nm : String} (d : decode (mB t) pc = .ok (.areturn, 1)) (hr : mR t = some (.object nm)) (hk : k ≤ mC t) (hn : n ≤ mS t) (ho : o = (.inl (some (.ref v)), M)) : X G t hh pc L [.ref v] M k n o := by
  subst ho
  exact fun p e s m args below meth c A H locs ls hC hH hL => X.endM hk hn (W.aret hC.1 hC.2.1 (hC.2.2.2.1.trans hr) (Or.inl ⟨nm, rfl⟩) (Or.inr ⟨_, rfl⟩) (fun u hu _ => Fi.of (v := some (.ref v)) hH hu) hH.2.2.1.2.2 d hC.2.2.2.2.1)
theorem X.vret (d : decode (mB t) pc = .ok (.return_, 1)) (hr : mR t = none) (hk : k ≤ mC t) (hn : n ≤ mS t) (ho : o = (.inl none, M)) : X G t hh pc L [] M k n o := by
  subst ho
  exact fun p e s m args below meth c A H locs ls hC hH hL => X.endM hk hn (W.vret hC.1 hC.2.1 (hC.2.2.2.1.trans hr) (fun u hu _ => Fi.of (v := none) hH hu) hH.2.2.1.2.2 d hC.2.2.2.2.1)
/-- what a call asks of its room -/
def Fit (t t' : Mt) (k n : Nat) : Prop := (mF t' + 1 ≤ mF t ∧ 8 + (mL t' + 11) + mW t' ≤ mW t) ∧ k + mC t' ≤ mC t ∧ n + mS t' ≤ mS t
theorem Pr_blind (G : GT) (M : List Ob) (sz : Nat) (As : List Value) : FrameBlind (va_Pc As (Pr G M sz)) := fun a U g mk q => by
  obtain ⟨q0, q1, q2, q3, q4, q5, q6⟩ := q
  exact ⟨q0, q1, q2, q3, va_K.moved (u := U) (U := U.calling g mk a) (Vm.Alike.refl U.vm) q4, q5.same rfl, q6⟩
theorem Pr_call {p : Program} {s : State} {m : MethodId} {args : Array Value} {meth : Method} {c : Code} {A : Nat → Prop} {H : Heap} {locs : List Loc} {As : List Value} (hC : Cx G t hh p s m args meth c A) (hH : Hp G M A s H locs) : ∀ U : State, U.heap = H → s.WarmedH U.vm → va_Pc (As.map (cv (gR G))) (Pr G M H.size) (As.map (cv (gR G))).toArray U := by
  intro U hU hW
  have hAB : ∀ q, va_A (cw G M) H.size q → A q := by
    intro q hq
    rcases hq with ⟨k9, e9, h9⟩ | h9
    · exact hH.2.1.2 k9 _ h9
    · exact hC.2.2.2.2.2.2.2.1 q (Nat.le_trans hH.2.2.1.1 h9)
  refine ⟨rfl, by rw [hU], by rw [hU]; exact hH.1, hH.2.1.weaken (fun _ _ _ _ => trivial), va_K.moved hW.alike hC.2.2.2.2.2.2.2.2.1, ?_, hH.2.2.2, hC.2.2.2.2.2.2.2.2.2.2.2.2⟩
  rw [hU]
  exact hC.2.2.2.2.2.2.2.2.2.1.goes hW hH.2.2.1.2.1 hAB
theorem sub_A {p : Program} {s : State} {m : MethodId} {args : Array Value} {meth : Method} {c : Code} {A : Nat → Prop} {H : Heap} {locs : List Loc} (hC : Cx G t hh p s m args meth c A) (hH : Hp G M A s H locs) : ∀ q, va_A (cw G M) H.size q → A q := by
  intro q hq
  rcases hq with ⟨k9, e9, h9⟩ | h9
  · exact hH.2.1.2 k9 _ h9
  · exact hC.2.2.2.2.2.2.2.1 q (Nat.le_trans hH.2.2.1.1 h9)
/-- behind a call that returns -/
theorem X.back {p : Program} {e : Env} {s : State} {m : MethodId} {args : Array Value} {below : List Frame} {meth : Method} {c : Code} {A : Nat → Prop} {H : Heap} {locs : List Loc} {ls : Array Slot} {v : Option Value} {mc ms : Nat} {a : Array Value} {st0 : List Value} {Q : State → Prop} (hC : Cx G t hh p s m args meth c A) (hH : Hp G M A s H locs)
    (hr : va_Run p (gL G) e (mRoom t) s m args below meth c H locs k n mc ms (F0 m pc ls st0) (st.map (cv (gR G))) (Fi (zs G) (.inl v, M') (va_A (cw G M) H.size) a) (va_A (cw G M) H.size))
    (kk : ∀ (H1 : Heap) (locs1 : List Loc), Hp G M' A s H1 locs1 → W p (gL G) e (mRoom t) s m args below meth c H1 locs1 (k + mc) (n + ms) Q (F0 m (pc + 3) ls ((v.toList ++ st).map (cv (gR G))))) : W p (gL G) e (mRoom t) s m args below meth c H locs k n Q (F0 m pc ls st0) := by
  have hAB := sub_A hC hH
  intro T hT XX
  obtain ⟨w, st₀, t1, T', Lx, h0, X', hLx, e1, e2, ⟨⟨v', hv, ho, hP1, hD1, hz1⟩, hF⟩, st9⟩ := hr T hT XX
  cases hv
  cases ho
  obtain ⟨k1, k2, k3⟩ := vx_keep h0 e1 hH.2.2.1 (fun q _ h => hAB q h) (fun q h => hAB q h) hLx hF
  obtain ⟨t2, a1, b1⟩ := kk T'.heap (locs ++ Lx) ⟨by rw [e1]; exact hP1, hD1.weaken (fun _ q _ h => hAB q.1 h), k3, fun z => by rw [e1]; exact hz1 z z⟩ T' rfl X'
  refine ⟨t2, st9 t2 ?_, b1⟩
  have e3 : (v.toList ++ st).map (cv (gR G)) = (v.map (cv (gR G))).toList ++ st.map (cv (gR G)) := by cases v <;> rfl
  rw [e3] at a1
  exact a1
end XC
