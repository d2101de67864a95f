/-! throws, and calls of methods that may throw -/
def nmsT : List String := ["java/lang/RuntimeException", "java/lang/Exception"]
def Th (own : String) (ik ic : Nat) (cls : String) : Prop :=
  Bundle.fit cls = true ∧ Cond.classLink own ik cls ∈ TBg ∧ Cond.initialized cls ∈ TBg ∧ (∀ w ∈ (vx_atS own ic cls nmsT).filter goodWord, w ∈ TBg) ∧ (∀ w ∈ (vx_atS own ic cls nmsT).filter (fun w => !goodWord w), w ∈ nwT) ∧
    (∀ w ∈ Cond.classLink own ik cls :: Cond.initialized cls :: vx_atS own ic cls nmsT, vx_ot w = true) ∧ cls ∈ excT
section XT
variable {G : GT} {t t' : Mt} {hh : List (Nat × Nat × Nat × Nat)} {pc pc' : Nat} {L L' : List (Option Value)} {st : List Value} {M M' : List Ob} {k n : Nat} {o : Out}
theorem Fx.of {E : String} {A : Nat → Prop} {s : State} {H : Heap} {locs : List Loc} (hH : Hp G M A s H locs) {u : State} (h1 : H.size ≤ u.heap.size) (h2 : ∀ q : Nat, q < H.size → u.heap[q]? = H[q]?) : Fx G (.inr E, M) A E s u :=
  ⟨rfl, hH.1.kept (fun k9 q hq => h2 q.1 ((hH.1 k9 q hq).lt)), hH.2.1, Nat.le_trans hH.2.2.1.1 h1, fun q a1 a2 => (h2 q (Nat.lt_of_lt_of_le a1 hH.2.2.1.1)).trans (hH.2.2.1.2.1 q a1 a2)⟩
theorem tbl0 {c : Code} (h : c.exceptionTable.toList = tableOf []) (pc : Nat) : ∀ x ∈ c.exceptionTable.toList, covers x pc = false := fun x hx => by
  rw [h] at hx
  cases hx
theorem X.thr {ik is ic : Nat} {cls tx : String} (d0 : decode (mB t) pc = .ok (.new ik, 3)) (d3 : decode (mB t) (pc + 3) = .ok (.dup, 1)) (d4 : decode (mB t) (pc + 4) = .ok (.ldc is, 2)) (d6 : decode (mB t) (pc + 6) = .ok (.invokespecial ic, 3)) (d9 : decode (mB t) (pc + 9) = .ok (.athrow, 1)) (hT : mT t = true) (h : Th (mN t).cls ik ic cls) (hm : ((mN t).cls, is, tx) ∈ msgT) (hf : 6 ≤ mF t) (hw : (st.map fun v => v.category).sum + 82 ≤ mW t) (hk : k + 1 ≤ mC t) (hn : n + 6 ≤ mS t) (ho : o = (.inr cls, M)) : X G t [] pc L st M k n o := by
  subst ho
  obtain ⟨h1, h2, h3, h4, h5, h6, h7⟩ := h
  intro p e s m args below meth c A H locs ls hC hH hL
  have hts := hC.2.2.2.2.2.2.1
  have hI := hC.2.2.2.2.2.2.2.2.2.1
  obtain ⟨sa, hsa⟩ := hI.2.1 _ hm
  have hat : ∀ w ∈ vx_atS (mN t).cls ic cls nmsT, w.before args s = true := vx_hat (fun w hw9 => hts w (h4 w hw9)) h5 (fun w hw9 => va_Nw.use (nw_tab hw9) (hI.2.2.2.1.2.2.1 _ hw9))
  unfold EQ
  rw [if_pos hT]
  exact vx_throwS hC.1 hC.2.1 hC.2.2.2.2.2.2.2.2.2.2.2.2 hC.2.2.2.2.2.1 h1 (by decide) (hts _ h2) (hts _ h3) hsa hat h6 hI.2.2.2.2.1 hI.2.2.2.2.2 hH.2.2.1 (hL.1.1.trans hC.2.2.1.symm) d0 d3 d4 d6 d9 (tbl0 hC.2.2.2.2.2.2.2.2.2.2.2.1 _) hf (by rw [cats_map]; exact hw) hk hn hC.2.2.2.2.1 (fun u _ a1 a2 => Fx.of hH a1 a2) hH.2.2.1.2.2 hk hn
theorem X.thrW {ik is ic : Nat} {cls tx : String} (d0 : decode (mB t) pc = .ok (.new ik, 3)) (d3 : decode (mB t) (pc + 3) = .ok (.dup, 1)) (d4 : decode (mB t) (pc + 4) = .ok (.ldc_w is, 3)) (d6 : decode (mB t) (pc + 7) = .ok (.invokespecial ic, 3)) (d9 : decode (mB t) (pc + 10) = .ok (.athrow, 1)) (hT : mT t = true) (h : Th (mN t).cls ik ic cls) (hm : ((mN t).cls, is, tx) ∈ msgT) (hf : 6 ≤ mF t) (hw : (st.map fun v => v.category).sum + 82 ≤ mW t) (hk : k + 1 ≤ mC t) (hn : n + 6 ≤ mS t) (ho : o = (.inr cls, M)) : X G t [] pc L st M k n o := by
  subst ho
  obtain ⟨h1, h2, h3, h4, h5, h6, h7⟩ := h
  intro p e s m args below meth c A H locs ls hC hH hL
  have hts := hC.2.2.2.2.2.2.1
  have hI := hC.2.2.2.2.2.2.2.2.2.1
  obtain ⟨sa, hsa⟩ := hI.2.1 _ hm
  have hat : ∀ w ∈ vx_atS (mN t).cls ic cls nmsT, w.before args s = true := vx_hat (fun w hw9 => hts w (h4 w hw9)) h5 (fun w hw9 => va_Nw.use (nw_tab hw9) (hI.2.2.2.1.2.2.1 _ hw9))
  unfold EQ
  rw [if_pos hT]
  exact vx_throwSW hC.1 hC.2.1 hC.2.2.2.2.2.2.2.2.2.2.2.2 hC.2.2.2.2.2.1 h1 (by decide) (hts _ h2) (hts _ h3) hsa hat h6 hI.2.2.2.2.1 hI.2.2.2.2.2 hH.2.2.1 (hL.1.1.trans hC.2.2.1.symm) d0 d3 d4 d6 d9 (tbl0 hC.2.2.2.2.2.2.2.2.2.2.2.1 _) hf (by rw [cats_map]; exact hw) hk hn hC.2.2.2.2.1 (fun u _ a1 a2 => Fx.of hH a1 a2) hH.2.2.1.2.2 hk hn
/-- behind a call of a method that may throw: it returned -/
theorem X.backQ {p : Program} {e : Env} {s : State} {m : MethodId} {args : Array Value} {below : List Frame} {meth : Method} {c : Code} {A : Nat → Prop} {H : Heap} {locs : List Loc} {ls : Array Slot} {v : Option Value} {mc ms : Nat} {a : Array Value} {st0 : List Value} {Q : State → Prop} (hC : Cx G t hh p s m args meth c A) (hH : Hp G M A s H locs)
    (hr : vx_Run p (gL G) e (mRoom t) s m args below meth c H locs k n mc ms (F0 m pc ls st0) (st.map (cv (gR G))) (Fi (zs G) (.inl v, M') (va_A (cw G M) H.size) a) (Fx (zs G) (.inl v, M') (va_A (cw G M) H.size)) (va_A (cw G M) H.size))
    (kk : ∀ (H1 : Heap) (locs1 : List Loc), Hp G M' A s H1 locs1 → W p (gL G) e (mRoom t) s m args below meth c H1 locs1 (k + mc) (n + ms) Q (F0 m (pc + 3) ls ((v.toList ++ st).map (cv (gR G))))) : W p (gL G) e (mRoom t) s m args below meth c H locs k n Q (F0 m pc ls st0) := by
  have hAB := sub_A hC hH
  intro T hT XX
  rcases hr T hT XX with ⟨w, st₀, t1, T', Lx, h0, X', hLx, e1, e2, ⟨⟨v', hv, ho, hP1, hD1, hz1⟩, hF⟩, st9⟩ | ⟨q, st₀, t1, T', Lx, E, ce, h0, X', hLx, e1, e2, hx, -⟩
  · cases hv
    cases ho
    obtain ⟨k1, k2, k3⟩ := vx_keep h0 e1 hH.2.2.1 (fun q _ h => hAB q h) (fun q h => hAB q h) hLx hF
    obtain ⟨t2, a1, b1⟩ := kk T'.heap (locs ++ Lx) ⟨by rw [e1]; exact hP1, hD1.weaken (fun _ q _ h => hAB q.1 h), k3, fun z => by rw [e1]; exact hz1 z z⟩ T' rfl X'
    refine ⟨t2, st9 t2 ?_, b1⟩
    have e3 : (v.toList ++ st).map (cv (gR G)) = (v.map (cv (gR G))).toList ++ st.map (cv (gR G)) := by cases v <;> rfl
    rw [e3] at a1
    exact a1
  · cases hx.1
/-- .. it threw: the frame g, with the thrown object over it -/
theorem X.backX {p : Program} {e : Env} {s : State} {m : MethodId} {args : Array Value} {below : List Frame} {meth : Method} {c : Code} {A : Nat → Prop} {H : Heap} {locs : List Loc} {ls : Array Slot} {E : String} {mc ms : Nat} {a : Array Value} {st0 : List Value} {Q : State → Prop} (hC : Cx G t hh p s m args meth c A) (hH : Hp G M A s H locs) (hz : gZ G = false)
    (hr : vx_Run p (gL G) e (mRoom t) s m args below meth c H locs k n mc ms (F0 m pc ls st0) (st.map (cv (gR G))) (Fi (zs G) (.inr E, M') (va_A (cw G M) H.size) a) (Fx (zs G) (.inr E, M') (va_A (cw G M) H.size)) (va_A (cw G M) H.size))
    (kk : ∀ (q : Addr) (ce : Cell) (H1 : Heap) (locs1 : List Loc), Hp G M' A s H1 locs1 → H1[q]? = some ce → ce.vm = .none → s.vm.findClass E = some ce.cls → vx_W p (gL G) e (mRoom t) s m args below meth c H1 locs1 (k + mc) (n + ms) Q (F0 m pc ls (st.map (cv (gR G)))) q) : W p (gL G) e (mRoom t) s m args below meth c H locs k n Q (F0 m pc ls st0) := by
  have hAB := sub_A hC hH
  intro T hT XX
  rcases hr T hT XX with ⟨w, st₀, t1, T', Lx, h0, X', hLx, e1, e2, ⟨⟨v', hv, -⟩, -⟩, -⟩ | ⟨q, st₀, t1, T', Lx, E', ce, h0, X', hLx, e1, e2, ⟨hE, hP1, hD1, hF⟩, hce, hcv, hcl, st9⟩
  · cases hv
  · cases hE
    obtain ⟨k1, k2, k3⟩ := vx_keep h0 e1 hH.2.2.1 (fun q _ h => hAB q h) (fun q h => hAB q h) hLx hF
    obtain ⟨t2, a1, b1⟩ := kk q ce T'.heap (locs ++ Lx) ⟨by rw [e1]; exact hP1, hD1.weaken (fun _ q _ h => hAB q.1 h), k3, fun z => by rw [hz] at z; cases z⟩ (by rw [e1]; exact hce) hcv hcl T' rfl X'
    exact ⟨t2, st9.trans a1, b1⟩
theorem X.out {p : Program} {e : Env} {s : State} {m : MethodId} {args : Array Value} {below : List Frame} {meth : Method} {c : Code} {A : Nat → Prop} {H : Heap} {locs : List Loc} {ls : Array Slot} {E : String} {ce : Cell} {q : Addr} {rest : List Value} (hC : Cx G t [] p s m args meth c A) (hH : Hp G M A s H locs) (hT : mT t = true) (hk : k ≤ mC t) (hn : n ≤ mS t) (h1 : H[q]? = some ce) (h2 : ce.vm = .none) (h3 : s.vm.findClass E = some ce.cls) : vx_W p (gL G) e (mRoom t) s m args below meth c H locs k n (EQ t below G (.inr E, M) A args s) (F0 m pc ls rest) q := by
  unfold EQ
  rw [if_pos hT]
  exact vx_out (tbl0 hC.2.2.2.2.2.2.2.2.2.2.2.1 _) hC.2.2.2.2.1 h1 h2 h3 (fun u hu _ => Fx.of hH (by rw [hu]; exact Nat.le_refl _) (fun q _ => by rw [hu])) hH.2.2.1.2.2 hk hn
/-- the run of a call -/
theorem runV {p : Program} {e : Env} {s : State} {m : MethodId} {args : Array Value} {below : List Frame} {meth : Method} {c : Code} {A : Nat → Prop} {H : Heap} {locs : List Loc} {ls : Array Slot} {o' : Out} (hC : Cx G t hh p s m args meth c A) (hH : Hp G M A s H locs) (hL : Lr (gR G) (mL t) L ls) {idx na b ci : Nat} {As : List Value} (d : decode (mB t) pc = .ok (.invokevirtual idx, 3)) (hc : Cl (mN t).cls idx t' na) (hi : Cond.instanceMethod (mN t') ∈ TBg) (hs : Cond.selects (mN t').cls (mN t') (mN t') ∈ TBg) (hr : Rc ci (mN t')) (hb : hasO M b ci = some ()) (hf : Fit t t' k n) (hn : As.length = na) (hst : (st.map fun v => v.category).sum ≤ 8) (hsp : Sq (zs G) t' (.ref b :: As) M o') :
    vx_Run p (gL G) e (mRoom t) s m args below meth c H locs k n (mC t') (mS t') (F0 m pc ls ((As.reverse ++ Value.ref b :: st).map (cv (gR G)))) (st.map (cv (gR G))) (Fi (zs G) o' (va_A (cw G M) H.size) (Value.ref (gR G b) :: As.map (cv (gR G))).toArray) (Fx (zs G) o' (va_A (cw G M) H.size)) (va_A (cw G M) H.size) := by
  have hts := hC.2.2.2.2.2.2.1
  have e1 : (As.reverse ++ Value.ref b :: st).map (cv (gR G)) = (As.map (cv (gR G))).reverse ++ .ref (gR G b) :: st.map (cv (gR G)) := by
    rw [List.map_append, List.map_reverse]; rfl
  rw [e1]
  exact vx_runV (As := As.map (cv (gR G))) (rest := st.map (cv (gR G))) ⟨hC.1, hC.2.1, hC.2.2.1, hC.2.2.2.2.2.1, hts⟩ (hsp H.size) ⟨hc.callB hf hts, hts _ hi, hts _ hs⟩ ⟨Pr_blind G M H.size _, recvX hC hH hb hr, Pr_call (As := .ref b :: As) hC hH⟩ rfl (by rw [List.length_map]; exact hn) hL.1.1 rfl (lv_room (by rw [cats_map]; exact hst)) d hf.2
theorem runS {p : Program} {e : Env} {s : State} {m : MethodId} {args : Array Value} {below : List Frame} {meth : Method} {c : Code} {A : Nat → Prop} {H : Heap} {locs : List Loc} {ls : Array Slot} {o' : Out} (hC : Cx G t hh p s m args meth c A) (hH : Hp G M A s H locs) (hL : Lr (gR G) (mL t) L ls) {idx na : Nat} {As : List Value} (d : decode (mB t) pc = .ok (.invokestatic idx, 3)) (hc : Cl (mN t).cls idx t' na) (hs : Cond.static (mN t') ∈ TBg) (hf : Fit t t' k n) (hn : As.length = na) (hst : (st.map fun v => v.category).sum ≤ 8) (hsp : Sq (zs G) t' As M o') :
    vx_Run p (gL G) e (mRoom t) s m args below meth c H locs k n (mC t') (mS t') (F0 m pc ls ((As.reverse ++ st).map (cv (gR G)))) (st.map (cv (gR G))) (Fi (zs G) o' (va_A (cw G M) H.size) (As.map (cv (gR G))).toArray) (Fx (zs G) o' (va_A (cw G M) H.size)) (va_A (cw G M) H.size) := by
  have hts := hC.2.2.2.2.2.2.1
  have e1 : (As.reverse ++ st).map (cv (gR G)) = (As.map (cv (gR G))).reverse ++ st.map (cv (gR G)) := by
    rw [List.map_append, List.map_reverse]
  rw [e1]
  exact vx_runS (As := As.map (cv (gR G))) (rest := st.map (cv (gR G))) ⟨hC.1, hC.2.1, hC.2.2.1, hC.2.2.2.2.2.1, hts⟩ (hsp H.size) ⟨hc.callB hf hts, hts _ hs⟩ ⟨Pr_blind G M H.size _, Pr_call (As := As) hC hH⟩ rfl (by rw [List.length_map]; exact hn) hL.1.1 rfl (lv_room (by rw [cats_map]; exact hst)) d hf.2
theorem X.callVq {idx na b ci : Nat} {As : List Value} {v : Option Value} (d : decode (mB t) pc = .ok (.invokevirtual idx, 3)) (hp : pc + 3 = pc') (hc : Cl (mN t).cls idx t' na) (hi : Cond.instanceMethod (mN t') ∈ TBg) (hs : Cond.selects (mN t').cls (mN t') (mN t') ∈ TBg) (hr : Rc ci (mN t')) (hb : hasO M b ci = some ()) (hf : Fit t t' k n) (hn : As.length = na) (hst : (st.map fun v => v.category).sum ≤ 8) (hsp : Sq (zs G) t' (.ref b :: As) M (.inl v, M')) (kk : X G t hh pc' L (v.toList ++ st) M' (k + mC t') (n + mS t') o) : X G t hh pc L (As.reverse ++ .ref b :: st) M k n o := by
  subst hp
  exact fun p e s m args below meth c A H locs ls hC hH hL => X.backQ hC hH (runV hC hH hL d hc hi hs hr hb hf hn hst hsp) (fun H1 locs1 hH1 => kk p e s m args below meth c A H1 locs1 ls hC hH1 hL)
theorem X.callVx {idx na b ci : Nat} {As : List Value} {E : String} (d : decode (mB t) pc = .ok (.invokevirtual idx, 3)) (hc : Cl (mN t).cls idx t' na) (hi : Cond.instanceMethod (mN t') ∈ TBg) (hs : Cond.selects (mN t').cls (mN t') (mN t') ∈ TBg) (hr : Rc ci (mN t')) (hb : hasO M b ci = some ()) (hf : Fit t t' k n) (hn : As.length = na) (hst : (st.map fun v => v.category).sum ≤ 8) (hz : gZ G = false) (hT : mT t = true) (hsp : Sq (zs G) t' (.ref b :: As) M (.inr E, M')) (ho : o = (.inr E, M')) : X G t [] pc L (As.reverse ++ .ref b :: st) M k n o := by
  subst ho
  exact fun p e s m args below meth c A H locs ls hC hH hL => X.backX hC hH hz (runV hC hH hL d hc hi hs hr hb hf hn hst hsp) (fun q ce H1 locs1 hH1 h1 h2 h3 => X.out hC hH1 hT hf.2.1 hf.2.2 h1 h2 h3)
theorem X.callSq {idx na : Nat} {As : List Value} {v : Option Value} (d : decode (mB t) pc = .ok (.invokestatic idx, 3)) (hp : pc + 3 = pc') (hc : Cl (mN t).cls idx t' na) (hs : Cond.static (mN t') ∈ TBg) (hf : Fit t t' k n) (hn : As.length = na) (hst : (st.map fun v => v.category).sum ≤ 8) (hsp : Sq (zs G) t' As M (.inl v, M')) (kk : X G t hh pc' L (v.toList ++ st) M' (k + mC t') (n + mS t') o) : X G t hh pc L (As.reverse ++ st) M k n o := by
  subst hp
  exact fun p e s m args below meth c A H locs ls hC hH hL => X.backQ hC hH (runS hC hH hL d hc hs hf hn hst hsp) (fun H1 locs1 hH1 => kk p e s m args below meth c A H1 locs1 ls hC hH1 hL)
theorem X.callSx {idx na : Nat} {As : List Value} {E : String} (d : decode (mB t) pc = .ok (.invokestatic idx, 3)) (hc : Cl (mN t).cls idx t' na) (hs : Cond.static (mN t') ∈ TBg) (hf : Fit t t' k n) (hn : As.length = na) (hst : (st.map fun v => v.category).sum ≤ 8) (hz : gZ G = false) (hT : mT t = true) (hsp : Sq (zs G) t' As M (.inr E, M')) (ho : o = (.inr E, M')) : X G t [] pc L (As.reverse ++ st) M k n o := by
  subst ho
  exact fun p e s m args below meth c A H locs ls hC hH hL => X.backX hC hH hz (runS hC hH hL d hc hs hf hn hst hsp) (fun q ce H1 locs1 hH1 h1 h2 h3 => X.out hC hH1 hT hf.2.1 hf.2.2 h1 h2 h3)
end XT
/-! the script; and the end of the time when the places stand in a row -/
def sGet (xs : List Int32) (i : Int32) : Option Int32 := if i < 0 then none else xs[i.toNatClampNeg]?
def uz (G : GT) : GT := (G.1, G.2.1, G.2.2.1, G.2.2.2.1, G.2.2.2.2.1, false, false, gX G)
section XS
variable {G : GT} {t t' : Mt} {hh : List (Nat × Nat × Nat × Nat)} {pc pc' : Nat} {L L' : List (Option Value)} {st : List Value} {M M' : List Ob} {k n : Nat} {o : Out}
theorem X.sld {i x : Int32} (d : decode (mB t) pc = .ok (.iaload, 1)) (hp : pc + 1 = pc') (hv : sGet (gX G) i = some x) (kk : X G t hh pc' L (.int x :: st) M k n o) : X G t hh pc L (.int i :: .ref 3000000 :: st) M k n o := by
  subst hp
  unfold sGet at hv
  split at hv
  · cases hv
  rename_i h0
  have hlt : i.toNatClampNeg < (gX G).length := (List.getElem?_eq_some_iff.mp hv).1
  intro p e s m args below meth c A H locs ls hC hH hL
  have hI := hC.2.2.2.2.2.2.2.2.2.1.2.2.2.1.2.2.2.2.2.2.2
  refine va_sld hC.1 hC.2.1 hI.1 hI.2.1 hI.2.2 hH.2.2.1 (fun q => q.elim h0 (fun q => absurd hlt (Nat.not_lt.mpr q))) d ?_
  rw [show (gX G).getD i.toNatClampNeg 0 = x by rw [List.getD_eq_getElem?_getD, hv]; rfl]
  exact kk p e s m args below meth c A H locs ls hC hH hL
theorem X.slen (d : decode (mB t) pc = .ok (.arraylength, 1)) (hp : pc + 1 = pc') (kk : X G t hh pc' L (.int (Int32.ofNat (gX G).length) :: st) M k n o) : X G t hh pc L (.ref 3000000 :: st) M k n o := by
  subst hp
  intro p e s m args below meth c A H locs ls hC hH hL
  have hI := hC.2.2.2.2.2.2.2.2.2.1.2.2.2.1.2.2.2.2.2.2.2
  exact va_slen hC.1 hC.2.1 hI.1 hI.2.1 hI.2.2 hH.2.2.1 d (kk p e s m args below meth c A H locs ls hC hH hL)
theorem W.mono {p : Program} {l : Launch} {e : Env} {R : Room} {s : State} {m : MethodId} {args : Array Value} {below : List Frame} {meth : Method} {c : Code} {H : Heap} {locs : List Loc} {cells slots : Nat} {Q Q' : State → Prop} {g : JFrame} (hq : ∀ u, Q u → Q' u) (h : W p l e R s m args below meth c H locs cells slots Q g) : W p l e R s m args below meth c H locs cells slots Q' g := fun T hT XX => by
  obtain ⟨u, a1, b1⟩ := h T hT XX
  exact ⟨u, a1, hq u b1⟩
theorem Fi.uz {o : Out} {A : Nat → Prop} {args : Array Value} {s u : State} {oc : Outcome} (hF : gF G = false) (h : Fi (uz G) o A args s oc u) : Fi G o A args s oc u := by
  obtain ⟨⟨v, h1, h2, h3, h4, -⟩, h5⟩ := h
  exact ⟨⟨v, h1, h2, h3, h4, fun q => by rw [hF] at q; cases q⟩, h5⟩
theorem X.unz (hF : gF G = false) (h : X (uz G) t hh pc L st M k n o) : X G t hh pc L st M k n o := by
  intro p e s m args below meth c A H locs ls hC hH hL
  refine W.mono (fun u hu => ?_) (h p e s m args below meth c A H locs ls hC ⟨hH.1, hH.2.1, hH.2.2.1, fun q => by cases q⟩ hL)
  unfold EQ at hu ⊢
  split at hu
  · rename_i hT
    rw [if_pos hT]
    obtain ⟨oc, h1, h2, h3⟩ := hu
    refine ⟨oc, h1, h2, ?_⟩
    rcases h3 with ⟨h3, h4⟩ | h3
    · exact Or.inl ⟨h3.uz hF, h4⟩
    · exact Or.inr h3
  · rename_i hT
    rw [if_neg hT]
    obtain ⟨oc, h1, h2, h3, h4⟩ := hu
    exact ⟨oc, h1, h2, h3.uz hF, h4⟩
end XS
