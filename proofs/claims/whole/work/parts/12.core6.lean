theorem sys_n : Cond.native arraycopyName ∈ TBg := TBg_of 533 (by decide +kernel) rfl
theorem sys_s : Cond.static arraycopyName ∈ TBg := TBg_of 532 (by decide +kernel) rfl
theorem sys_i : Cond.initialized "java/lang/System" ∈ TBg := TBg_of 71 (by decide +kernel) rfl
/-! what is made, copied, thrown -/
def newO (M : List Ob) (x : Ob) : Option (Nat × List Ob) := if M.length < 1000000 then some (M.length, M ++ [x]) else none
def newG (M : List Ob) (n k : Nat) : Option (Nat × List Ob) := if M.length + 1 + n ≤ 1000000 then some (M.length, M ++ ((16, (List.range n).map (fun i => Value.ref (M.length + 1 + i))) :: List.replicate n (13, List.replicate k (Value.int 0)))) else none
/-- the places' addresses stand in a row -/
def Row (G : GT) : Prop := gZ G = true ∧ ∀ a, a < 1000000 → gR G a = gN G + a
theorem cwF_get' (ca : Nat → ClassId) (ρ : Nat → Nat) (M : List Ob) (i k : Nat) (q : Nat × va_E) (h : (cwF ca ρ i M)[k]? = some q) : ∃ o, M[k]? = some o ∧ q = (ρ (i + k), co ca ρ o) := by
  rw [cwF_get] at h
  cases hk : M[k]? with
  | none => rw [hk] at h; cases h
  | some o => rw [hk] at h; exact ⟨o, rfl, (Option.some.inj h).symm⟩
theorem Hp.pushs {G : GT} {M N : List Ob} {A : Nat → Prop} {s : State} {H H1 : Heap} {locs : List Loc} (hH : Hp G M A s H locs) (hA : ∀ q, s.heap.size ≤ q → A q) (hR : Row G) (hl : M.length + N.length ≤ 1000000) (he : ∀ (k : Nat) (x : Ob), N[k]? = some x → va_at (gD G) vwCl (H.size + k, co (gA G) (gR G) x) H1) (z : H1.size = H.size + N.length) (oq : ∀ q : Nat, q < H.size → H1[q]? = H[q]?) : Hp G (M ++ N) A s H1 locs := by
  have hsz := hH.2.2.2 hR.1
  have e1 : cw G (M ++ N) = cw G M ++ cwF (gA G) (gR G) M.length N := by rw [cw, cwF_app, Nat.zero_add]; rfl
  have hnew : ∀ (k : Nat) (q : Nat × va_E), (cwF (gA G) (gR G) M.length N)[k]? = some q → ∃ x, N[k]? = some x ∧ q = (H.size + k, co (gA G) (gR G) x) := by
    intro k q hq
    obtain ⟨x, h1, h2⟩ := cwF_get' _ _ _ _ _ _ hq
    have hk : k < N.length := (List.getElem?_eq_some_iff.mp h1).1
    refine ⟨x, h1, ?_⟩
    rw [h2, hR.2 _ (by omega), hsz]
    congr 1
    omega
  refine ⟨?_, ?_, ⟨Nat.le_trans hH.2.2.1.1 (by omega), fun y h1 h2 => (oq y (Nat.lt_of_lt_of_le h1 hH.2.2.1.1)).trans (hH.2.2.1.2.1 y h1 h2), hH.2.2.1.2.2⟩, fun _ => by rw [z, hsz, List.length_append]; omega⟩
  · rw [e1]
    refine (hH.1.kept (fun k y hy => oq y.1 ((hH.1 k y hy).lt))).app (fun k y hy => ?_)
    obtain ⟨x, h1, rfl⟩ := hnew k y hy
    exact he k x h1
  · rw [e1]
    refine va_D.app hH.2.1 ⟨fun i j x y hx hy hxy => ?_, fun k y hy => ?_⟩ (fun i j x y hx hy hxy => ?_)
    · obtain ⟨x1, -, rfl⟩ := hnew i x hx
      obtain ⟨y1, -, rfl⟩ := hnew j y hy
      have : H.size + i = H.size + j := hxy
      omega
    · obtain ⟨x1, -, rfl⟩ := hnew k y hy
      exact hA _ (by have := hH.2.2.1.1; show s.heap.size ≤ H.size + k; omega)
    · have h1 := (hH.1 i x hx).lt
      obtain ⟨y1, -, rfl⟩ := hnew j y hy
      have : x.1 = H.size + j := hxy
      omega
theorem Hp.push1 {G : GT} {M : List Ob} {x : Ob} {A : Nat → Prop} {s : State} {H H1 : Heap} {locs : List Loc} (hH : Hp G M A s H locs) (hA : ∀ q, s.heap.size ≤ q → A q) (hR : Row G) (hl : M.length < 1000000) (he : va_at (gD G) vwCl (H.size, co (gA G) (gR G) x) H1) (z : H1.size = H.size + 1) (oq : ∀ q : Nat, q < H.size → H1[q]? = H[q]?) : Hp G (M ++ [x]) A s H1 locs := by
  refine hH.pushs hA hR (by simp; omega) (fun k y hy => ?_) (by rw [z]; rfl) oq
  have h0 : k < 1 := (List.getElem?_eq_some_iff.mp hy).1
  rw [show k = 0 by omega] at hy ⊢
  cases hy
  exact he
theorem refC {G : GT} {M : List Ob} {A : Nat → Prop} {s : State} {H : Heap} {locs : List Loc} (hH : Hp G M A s H locs) (hR : Row G) (hl : M.length < 1000000) : cv (gR G) (.ref M.length) = .ref H.size := by
  show Value.ref (gR G M.length) = _
  rw [hR.2 _ hl, hH.2.2.2 hR.1]
section XN
variable {G : GT} {t t' : Mt} {pc pc' : Nat} {hh : List (Nat × Nat × Nat × Nat)} {L L' : List (Option Value)} {st : List Value} {M M' : List Ob} {k n : Nat} {o : Out}
theorem X.newo {idx ci a : Nat} {r : vw_C} {fs : List Value} (d : decode (mB t) pc = .ok (.new idx, 3)) (hp : pc + 3 = pc') (hr : vwCl[ci]? = some r) (hcl : Cond.classLink (mN t).cls idx r.1 ∈ TBg) (hin : Cond.instantiable r.1 r.2.2 ∈ TBg) (hini : Cond.initialized r.1 ∈ TBg) (ty : Nat → FieldType) (hty : ∀ k, k < r.2.2 → parseFieldDescriptor (r.2.1 k).2.2.1 = some (ty k)) (hfs : ∀ j, j < r.2.2 → defaultValue (ty j) = vp_V (fs.map (cv (gR G))) j) (hR : Row G) (hk : k + 1 ≤ mC t) (hn : n + r.2.2 ≤ mS t) (ha : newO M (ci, fs) = some (a, M')) (kk : X G t hh pc' L (.ref a :: st) M' (k + 1) (n + r.2.2) o) : X G t hh pc L st M k n o := by
  subst hp
  unfold newO at ha
  split at ha
  rotate_left
  · cases ha
  rename_i hl
  cases ha
  obtain ⟨C, T, N⟩ := r
  intro p e s m args below meth c A H locs ls hC hH hL
  have hts := hC.2.2.2.2.2.2.1
  have hKn := hC.2.2.2.2.2.2.2.2.1.1 ci _ hr
  refine W.newcK hC.1 hC.2.1 hC.2.2.2.2.2.1 (hts _ hcl) (hts _ hin) (hts _ hini) rfl d hk hn hKn.2.1 rfl fun H1 kC hkC e1 z1 o1 => ?_
  have hH1 : Hp G (M ++ [(ci, fs)]) A s H1 locs := by
    refine hH.push1 hC.2.2.2.2.2.2.2.1 hR hl ?_ z1 o1
    rw [co_obj (kind_lt hr)]
    exact ⟨_, hr, (u_born ty hts (kind_ok ci _ hr).1 hKn hkC e1 hty).to hfs⟩
  have := kk p e s m args below meth c A H1 locs ls hC hH1 hL
  rw [List.map_cons, refC hH hR hl] at this
  exact this
theorem X.newi {kd a : Nat} {z : Int32} {N : Nat} {at9 : ArrayType} {dv : Value} (d : decode (mB t) pc = .ok (.newarray at9, 2)) (hp : pc + 2 = pc') (hk9 : (kd = 12 ∧ at9 = .byte ∧ dv = .int 0) ∨ (kd = 13 ∧ at9 = .int ∧ dv = .int 0) ∨ (kd = 17 ∧ at9 = .long ∧ dv = .long 0) ∨ (kd = 18 ∧ at9 = .double ∧ dv = .double 0)) (hw : Cond.arrayClass (newarray.typeOf at9) ∈ TBg) (h0 : ¬ z < 0) (hN : z.toNatClampNeg = N) (hb : N ≤ 10000) (hR : Row G) (hk : k + 1 ≤ mC t) (hn : n + N ≤ mS t) (ha : newO M (kd, List.replicate N dv) = some (a, M')) (kk : X G t hh pc' L (.ref a :: st) M' (k + 1) (n + N) o) : X G t hh pc L (.int z :: st) M k n o := by
  subst hp
  unfold newO at ha
  split at ha
  rotate_left
  · cases ha
  rename_i hl
  cases ha
  intro p e s m args below meth c A H locs ls hC hH hL
  have hts := hC.2.2.2.2.2.2.1
  refine va_newaK hC.1 hC.2.1 (hts _ hw) rfl d rfl h0 hN (by rcases hk9 with ⟨-, rfl, -⟩ | ⟨-, rfl, -⟩ | ⟨-, rfl, -⟩ | ⟨-, rfl, -⟩ <;> simp only [newarray.typeOf, componentBytes] <;> omega) hk hn rfl fun H1 cA e1 z1 o1 hAr hNm => ?_
  have h19 : 12 ≤ kd ∧ kd < 19 ∧ newarray.typeOf at9 = aKind kd := by rcases hk9 with ⟨rfl, rfl, -⟩ | ⟨rfl, rfl, -⟩ | ⟨rfl, rfl, -⟩ | ⟨rfl, rfl, -⟩ <;> exact ⟨by omega, by omega, rfl⟩
  have hcA : cA = gA G kd := by
    have h9 := (hC.2.2.2.2.2.2.2.2.1.2 (kd - 12) _ (tysA_at (ca := gA G) h19.1 h19.2.1)).2
    rw [h19.2.2] at hNm
    rcases hk9 with ⟨rfl, -, -⟩ | ⟨rfl, -, -⟩ | ⟨rfl, -, -⟩ | ⟨rfl, -, -⟩ <;> exact Option.some.inj (hNm.symm.trans h9)
  have hH1 : Hp G (M ++ [(kd, List.replicate N dv)]) A s H1 locs := by
    refine hH.push1 hC.2.2.2.2.2.2.2.1 hR hl ?_ z1 o1
    subst hcA
    have hx : ∀ (f : Value → Value), f dv = defaultValue (newarray.typeOf at9) → arrV (gA G kd) N (fun _ => defaultValue (newarray.typeOf at9)) = arrV (gA G kd) (List.replicate N dv).length (fun j => f ((List.replicate N dv).getD j .null)) := by
      intro f hf
      unfold arrV
      congr 1
      apply Array.ext
      · simp
      · intro j h1 h2
        have h3 : j < N := by simpa using h1
        simp [h3, hf]
    rcases hk9 with ⟨rfl, rfl, rfl⟩ | ⟨rfl, rfl, rfl⟩ | ⟨rfl, rfl, rfl⟩ | ⟨rfl, rfl, rfl⟩
    · exact e1.trans (congrArg some (hx (fun v => .int (vI v)) rfl))
    · exact e1.trans (congrArg some (hx (fun v => .int (vI v)) rfl))
    · exact e1.trans (congrArg some (hx (fun v => .long (vJ v)) rfl))
    · exact e1.trans (congrArg some (hx (fun v => .double (vD v)) rfl))
  have := kk p e s m args below meth c A H1 locs ls hC hH1 hL
  rw [List.map_cons, refC hH hR hl] at this
  exact this
theorem X.newq {idx kd a : Nat} {nm : String} {z : Int32} {N : Nat} (d : decode (mB t) pc = .ok (.anewarray idx, 3)) (hp : pc + 3 = pc') (hk9 : (kd = 14 ∧ nm = RX5) ∨ (kd = 15 ∧ nm = RX8)) (hw : Cond.classLink (mN t).cls idx nm ∈ TBg) (h0 : ¬ z < 0) (hN : z.toNatClampNeg = N) (hb : N ≤ 10000) (hR : Row G) (hk : k + 1 ≤ mC t) (hn : n + N ≤ mS t) (ha : newO M (kd, List.replicate N .null) = some (a, M')) (kk : X G t hh pc' L (.ref a :: st) M' (k + 1) (n + N) o) : X G t hh pc L (.int z :: st) M k n o := by
  subst hp
  subst hN
  unfold newO at ha
  split at ha
  rotate_left
  · cases ha
  rename_i hl
  cases ha
  intro p e s m args below meth c A H locs ls hC hH hL
  have hts := hC.2.2.2.2.2.2.1
  have hI := hC.2.2.2.2.2.2.2.2.2.1
  have hao : va_AO nm s := by rcases hk9 with ⟨-, rfl⟩ | ⟨-, rfl⟩; exact hI.2.2.2.1.2.2.2.2.1; exact hI.2.2.2.1.2.2.2.2.2.1
  refine W.anew hC.1 hC.2.1 hC.2.2.2.2.2.1 (hts _ hw) (va_AO.use hao) rfl d rfl h0 (by omega) hk hn fun cA kA comp f1 f2 f3 f4 => ?_
  generalize hH1 : H.push ({ cls := cA, slots := Array.replicate z.toNatClampNeg .null, vm := .none } : Cell) = H1
  have z1 : H1.size = H.size + 1 := by rw [← hH1, Array.size_push]
  have e1 : H1[H.size]? = some (arrV cA z.toNatClampNeg (fun _ => .null)) := by rw [← hH1, Array.getElem?_push_size, ← arrV_new]
  have o1 : ∀ q : Nat, q < H.size → H1[q]? = H[q]? := fun q hq => by rw [← hH1, Array.getElem?_push, if_neg (Nat.ne_of_lt hq)]
  have h19 : 12 ≤ kd ∧ kd < 19 ∧ aKind kd = .object nm := by rcases hk9 with ⟨rfl, rfl⟩ | ⟨rfl, rfl⟩ <;> exact ⟨by omega, by omega, rfl⟩
  have hcA : cA = gA G kd := by
    have h9 := (hC.2.2.2.2.2.2.2.2.1.2 (kd - 12) _ (tysA_at (ca := gA G) h19.1 h19.2.1)).2
    rw [h19.2.2] at h9
    obtain ⟨kA9, comp9, -, -, -, h10⟩ := h9
    exact Option.some.inj (f1.symm.trans h10)
  have hH2 : Hp G (M ++ [(kd, List.replicate z.toNatClampNeg .null)]) A s H1 locs := by
    refine hH.push1 hC.2.2.2.2.2.2.2.1 hR hl ?_ z1 o1
    subst hcA
    have hx : arrV (gA G kd) z.toNatClampNeg (fun _ => .null) = arrV (gA G kd) (List.replicate z.toNatClampNeg Value.null).length (fun j => va_rf (vQ (gR G) ((List.replicate z.toNatClampNeg Value.null).getD j .null))) := by
      unfold arrV
      congr 1
      apply Array.ext
      · simp
      · intro j h1 h2
        have h3 : j < z.toNatClampNeg := by simpa using h1
        simp [h3, vQ, va_rf]
    rcases hk9 with ⟨rfl, rfl⟩ | ⟨rfl, rfl⟩ <;> exact e1.trans (congrArg some hx)
  have := kk p e s m args below meth c A H1 locs ls hC hH2 hL
  rw [List.map_cons, refC hH hR hl] at this
  exact this
/-- int[n][k] -/
theorem X.newg {idx a : Nat} {z y : Int32} {N K : Nat} (d : decode (mB t) pc = .ok (.multianewarray idx 2, 4)) (hp : pc + 4 = pc') (hw : Cond.classLink (mN t).cls idx ("[" ++ (FieldType.array .int).toString) ∈ TBg) (hw2 : Cond.arrayClass .int ∈ TBg) (h0 : ¬ z < 0) (hN : z.toNatClampNeg = N) (h0' : ¬ y < 0) (hK9 : y.toNatClampNeg = K) (hb : N ≤ 10000) (hb2 : K ≤ 10000) (hR : Row G) (hk : k + (1 + N) ≤ mC t) (hn : n + (N + N * K) ≤ mS t) (ha : newG M N K = some (a, M')) (kk : X G t hh pc' L (.ref a :: st) M' (k + 1 + N) (n + N + N * K) o) : X G t hh pc L (.int y :: .int z :: st) M k n o := by
  subst hp
  subst hN
  subst hK9
  unfold newG at ha
  split at ha
  rotate_left
  · cases ha
  rename_i hl
  cases ha
  intro p e s m args below meth c A H locs ls hC hH hL
  have hts := hC.2.2.2.2.2.2.1
  have hI := hC.2.2.2.2.2.2.2.2.2.1
  have hK := hC.2.2.2.2.2.2.2.2.1
  intro T hT XX
  obtain ⟨vm₁, cA, comp, -, fA, fC, hO, -, X', step⟩ := XX.multianewarray2F hC.1 hC.2.2.2.2.2.1 (hts _ hw) (va_AOA.use hI.2.2.2.1.2.2.2.2.2.2.1) (hts _ hw2) (g := F0 m pc ls (.int y :: .int z :: st.map (cv (gR G)))) rfl (by rw [hC.2.1]; exact d) rfl h0 h0' (by omega) (by simp only [componentBytes]; omega) (by omega) rfl rfl hk hn
  have hcA : cA = gA G 16 := Option.some.inj (fA.symm.trans (hK.2 4 _ rfl).2)
  have hcC : comp = gA G 13 := Option.some.inj (fC.symm.trans (hK.2 1 _ rfl).2)
  subst hcA
  subst hcC
  generalize hF : Jvm.Free.Multi.fill (T.setVm vm₁) (gA G 16) (gA G 13) z.toNatClampNeg y.toNatClampNeg (defaultValue .int) z.toNatClampNeg = F at X' step
  have hTh : (T.setVm vm₁).heap = H := hT
  obtain ⟨f1, f2, -, -⟩ := Jvm.Free.Multi.fill_facts (T.setVm vm₁) (gA G 16) (gA G 13) z.toNatClampNeg y.toNatClampNeg (defaultValue .int) z.toNatClampNeg
  rw [hF, hTh] at f1 f2
  have hold : ∀ x : Nat, x < H.size → F.heap[x]? = H[x]? := fun x hx => by
    have := Jvm.Free.Multi.fill_old (T.setVm vm₁) (gA G 16) (gA G 13) z.toNatClampNeg y.toNatClampNeg (defaultValue .int) (a := x) (by rw [hTh]; exact hx) z.toNatClampNeg
    rw [hF, hTh] at this
    exact this
  have hrow : ∀ j : Nat, j < z.toNatClampNeg → F.heap[H.size + 1 + j]? = some (Jvm.Free.Multi.innerC (gA G 13) y.toNatClampNeg (defaultValue .int)) := fun j hj => by
    have := Jvm.Free.Multi.fill_inner (T.setVm vm₁) (gA G 16) (gA G 13) z.toNatClampNeg y.toNatClampNeg (defaultValue .int) z.toNatClampNeg j hj
    rw [hF, hTh] at this
    exact this
  rw [vr_outer] at f2
  have hsz := hH.2.2.2 hR.1
  have hH1 : Hp G (M ++ ((16, (List.range z.toNatClampNeg).map (fun i => Value.ref (M.length + 1 + i))) :: List.replicate z.toNatClampNeg (13, List.replicate y.toNatClampNeg (Value.int 0)))) A s F.heap locs := by
    refine hH.pushs hC.2.2.2.2.2.2.2.1 hR (by simp; omega) (fun k9 x hx => ?_) (by rw [f1]; simp; omega) hold
    cases k9 with
    | zero =>
      rw [List.getElem?_cons_zero] at hx
      cases hx
      rw [co_ref (Or.inr (Or.inr rfl))]
      refine Eq.trans f2 (congrArg some ?_)
      show arrV _ _ _ = vp_cell _ _
      rw [vp_cell_q]
      unfold arrV
      congr 1
      apply Array.ext
      · simp
      · intro j h1 h2
        have h3 : j < z.toNatClampNeg := by simpa using h1
        have h4 : gR G (M.length + 1 + j) = H.size + 1 + j := by rw [hR.2 _ (by omega), hsz]; omega
        simp [h3, vQ, h4]
    | succ k9 =>
      rw [List.getElem?_cons_succ] at hx
      have h3 : k9 < z.toNatClampNeg := by have := (List.getElem?_eq_some_iff.mp hx).1; simpa using this
      rw [List.getElem?_replicate, if_pos h3] at hx
      cases hx
      have h5 := hrow k9 h3
      rw [show H.size + 1 + k9 = H.size + (k9 + 1) by omega] at h5
      rw [co_int (Or.inr rfl)]
      refine Eq.trans h5 (congrArg some ?_)
      show Jvm.Free.Multi.innerC _ _ _ = vp_cell _ _
      rw [vp_cell_i]
      unfold Jvm.Free.Multi.innerC arrV
      congr 1
      apply Array.ext
      · simp
      · intro j h1 h2
        have h6 : j < y.toNatClampNeg := by simpa using h1
        simp [h6, vI, defaultValue]
  obtain ⟨t2, a1, b1⟩ := kk p e s m args below meth c A F.heap locs ls hC hH1 hL F rfl X'
  rw [List.map_cons, refC hH hR (by omega)] at a1
  refine ⟨t2, step t2 ?_, b1⟩
  rw [hT]
  exact a1
/-- System.arraycopy of ints -/
theorem X.acopy {idx r r' : Nat} {sp dp z : Int32} (d : decode (mB t) pc = .ok (.invokestatic idx, 3)) (hp : pc + 3 = pc') (hl : Cond.methodLink (mN t).cls idx arraycopyName ∈ TBg) (hz : gZ G = false) (hfr : 1 ≤ mF t) (hlo : (st.map fun v => v.category).sum + (nativeFrameWords "java/lang/System" "arraycopy" 5 + 11) ≤ mW t) (hv : aCopy M r sp r' dp z = some M') (kk : X G t hh pc' L st M' k n o) : X G t hh pc L (.int z :: .int dp :: .ref r' :: .int sp :: .ref r :: st) M k n o := by
  subst hp
  obtain ⟨f, g, hM, hM', h1, h2, h3, h4, h5, rfl⟩ := aCopy_spec hv
  intro p e s m args below meth c A H locs ls hC hH hL
  have hts := hC.2.2.2.2.2.2.1
  have hg := cw_get (G := G) hM
  have hg' := cw_get (G := G) hM'
  rw [co_int (Or.inr rfl)] at hg hg'
  refine va_copyi hC.1 hC.2.1 (hC.2.2.1.trans hL.1.1.symm) hC.2.2.2.2.2.1 (hts _ hl) (hts _ sys_n) (hts _ sys_s) (hts _ sys_i) hC.2.2.2.2.2.2.2.2.1 hH.1 hH.2.1 hH.2.2.1 r r' 1 1 hg hg' rfl rfl rfl h1 h2 h3 h4 h5 (fun _ _ => rfl) hfr (by rw [cats_map]; exact hlo) d ?_
  intro H1 locs1 hP hD hS
  have e2 : va_cpy (fun j => vI (f.getD j .null)) (fun j => vI (g.getD j .null)) sp.toNatClampNeg dp.toNatClampNeg z.toNatClampNeg = fun j => vI ((cpyL f g sp.toNatClampNeg dp.toNatClampNeg z.toNatClampNeg).getD j .null) := by
    funext j
    unfold va_cpy cpyL
    simp only [List.getD_eq_getElem?_getD, List.getElem?_append, List.length_take, List.getElem?_take, List.length_drop, List.getElem?_drop]
    by_cases a1 : j < dp.toNatClampNeg
    · rw [if_neg (by omega), if_pos (by omega), if_pos a1]
    · by_cases a2 : j < dp.toNatClampNeg + z.toNatClampNeg
      · rw [if_pos ⟨by omega, a2⟩, if_neg (by omega), if_pos (by omega), if_pos (by omega), show min dp.toNatClampNeg g.length = dp.toNatClampNeg by omega]
      · rw [if_neg (by omega), if_neg (by omega), if_neg (by omega), show min dp.toNatClampNeg g.length = dp.toNatClampNeg by omega, show min z.toNatClampNeg (f.length - sp.toNatClampNeg) = z.toNatClampNeg by omega, show dp.toNatClampNeg + z.toNatClampNeg + (j - dp.toNatClampNeg - z.toNatClampNeg) = j by omega]
  have e3 : (cpyL f g sp.toNatClampNeg dp.toNatClampNeg z.toNatClampNeg).length = g.length := by
    unfold cpyL
    simp only [List.length_append, List.length_take, List.length_drop]
    omega
  have e4 : (gR G r', co (gA G) (gR G) (13, cpyL f g sp.toNatClampNeg dp.toNatClampNeg z.toNatClampNeg)) = (gR G r', .inl (gA G 13, g.length, .inl (va_cpy (fun j => vI (f.getD j .null)) (fun j => vI (g.getD j .null)) sp.toNatClampNeg dp.toNatClampNeg z.toNatClampNeg))) := by
    rw [co_int (Or.inr rfl), e3, e2]
  rw [← e4, cw_set] at hP hD
  exact kk p e s m args below meth c A H1 locs1 ls hC ⟨hP, hD, hS, fun q => by rw [hz] at q; cases q⟩ hL
end XN
