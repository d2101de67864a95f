/-! THE CLAIM OUT OF ONE WALK OF THE LAW'S BODY. Your part is whole_start (and what it stands on); all else here is the same for every law, but numbers. -/
def R_law : String := "RouteBudgetLaw"
def lw_P (b : Addr) (xs : List Int32) (args : Array Value) (s : State) : Prop := args = #[.ref b] ∧ s.IntsAt b xs ∧ xs.length ≤ 3072 ∧ (Jvm.Cond.and given_1 narrow_1).before args s = true
/-- what a walk over the start with the record d0 says of its end, said of the start itself -/
theorem lw_closed {s t : State} {o : Outcome} {d0 : Drawn} {L : List Loc} {k n : Nat} (hd0 : s.drawn.sameBut d0 lw_cs) (hv : ∃ v, o = .returned v) (hW : (s.setDrawn d0).WarmedH t.vm) (hs : (s.setDrawn d0).sameButNew ({ t with vm := s.vm } : State) L k n) : State.butDraws s t lw_cs (fun t1 => Framed s o t1 L k n) := by
  have h2 : t.drawn = d0 := congrArg State.drawn hs.1
  refine ⟨⟨hv, hW, State.sameButNew.setDrawn hs s.drawn⟩, ?_, by decide⟩
  rw [h2]
  exact hd0
def lw_Q (_ : Array Value) (s : State) (o : Outcome) (t : State) : Prop := o = .returned (some (.int 1)) ∧ State.butDraws s t lw_cs (fun t1 => Framed s o t1 [] 601024 7293033)
def lw_Z (below : List Frame) (a : Array Value) (s : State) : State → Prop := fun t => ∃ o, t.status = .running ∧ Ended t below o ∧ lw_Q a s o t
/-- the law's own end, with 1 on the stack, nothing written that was there before, its room as the claim has it; d0: the record of draws at this point (at the entry s.drawn: begin with 'refine W.base ?_' and 'have hd0 := Drawn.sameBut.refl s.drawn lw_cs') -/
theorem lw_ret {p : Program} {l : Launch} {e : Env} {s : State} {m : MethodId} {below : List Frame} {meth : Method} {c : Code} {b : Nat} {d0 : Drawn} (hd0 : s.drawn.sameBut d0 lw_cs) (hx : p.tables.exec = Jvm.exec) (hb : c.code = code) (hr : meth.sig.returnType = ret) (hlocks : meth.locks = false) {pc : Nat} {H : Heap} {ls : Array Slot} (hdg : decode code pc = .ok (.ireturn, 1)) : W p l e room_1 (s.setDrawn d0) m #[Value.ref b] below meth c H [] 601024 7293033 (lw_Z below #[Value.ref b] s) (F0 m pc ls [.int 1]) := by
  intro T hT X
  obtain ⟨fs, hret, hrun, hended, hW, hframe⟩ := X.leave (v := some (.int 1)) (hlocks := hlocks) (fun h => by rw [hr] at h; cases h)
  have hmeth' : T.vm.method? m = some meth := X.method'
  refine ⟨T.setFrames fs, ?_, .returned (some (.int 1)), hrun, hended, rfl, lw_closed hd0 ⟨_, rfl⟩ hW hframe⟩
  jvm_step X.here [X.here.top, hx, hb, hdg, hmeth', hr, ret, narrow_b1]
  (try refine ⟨rfl, ?_⟩); (try refine ⟨rfl, ?_⟩)
  first | (intro acts; rw [hret _ acts rfl rfl rfl]) | rw [hret _ _ rfl rfl rfl]
  exact Steps.refl _
/-- what holds at the law's entry: the machine, the code, the tables' words (any of lw_tbl by 'hts w (by decide +kernel)'), the script of L ints xs at the cell b, what the Statement gives of the start (any of its parts by flat_of_before) -/
def lw_At (p : Program) (s : State) (m : MethodId) (meth : Method) (c : Code) (b L : Nat) (xs : Nat → Int32) : Prop :=
  p.tables.exec = Jvm.exec ∧ c.code = code ∧ meth.sig.returnType = ret ∧ c.maxLocals = 8 ∧ s.vm.findClass R_law = some m.cls ∧ (∀ w ∈ lw_tbl, w.before #[Value.ref b] s = true) ∧ va_X b L xs s s.heap ∧ b < s.heap.size ∧ meth.locks = false ∧ (Jvm.Cond.and given_1 narrow_1).before #[Value.ref b] s = true
/-- from the entry, for a script on which the law's function answers 1 -/
theorem whole_run {p : Program} {e : Env} {s : State} {m : MethodId} {below : List Frame} {meth : Method} {c : Code} (l : Launch) (hflags : l.flags = flags0) {b L : Nat} {xs : Nat → Int32} (hL : L ≤ 3072) (hpure : ∃ (fu : Nat) (M9 : List Ob), f_L_law fu ((List.range L).map xs) = some (1, M9)) (htab : c.exceptionTable.toList = tableOf []) (C0 : lw_At p s m meth c b L xs) : W p l e room_1 s m #[Value.ref b] below meth c s.heap [] 0 0 (lw_Z below #[Value.ref b] s) (entryFrame m ([Value.ref b] : List Value).toArray 8) := by
  obtain ⟨hx, hb, hr, hml, hown, hts, hX, hbl, hlocks, hgv⟩ := id C0
  obtain ⟨fu, M9, hrun⟩ := hpure
  generalize hys : (List.range L).map xs = ys at hrun
  have hlen : ys.length = L := by rw [← hys]; simp
  have hA : ∀ q : Nat, s.heap.size ≤ q → (fun q : Nat => s.heap.size ≤ q) q := fun _ h => h
  have hnA : ∀ a : Nat, a < s.heap.size → ¬ (fun q : Nat => s.heap.size ≤ q) a := fun a h => Nat.not_le.mpr h
  have hg : ∀ w ∈ flatC gv1, w.before #[Value.ref b] s = true := flat_of_before gv1 hgv
  obtain ⟨adK, adV, hS, hE⟩ := txt_at hg hnA
  obtain ⟨ca, hca⟩ := arr_at hts
  obtain ⟨D, hD⟩ := cls_at hts
  have hXX : va_X b ys.length (fun j => ys.getD j 0) s s.heap := by
    obtain ⟨scr, x1, x2, x3, x4, x5⟩ := hX
    refine ⟨scr, x1, x2, x3, by rw [hlen]; exact x4, fun j hj => ?_⟩
    rw [x5 j (by omega)]
    have : ys.getD j 0 = xs j := by
      rw [← hys]
      simp [List.getD, show j < L by omega]
    exact congrArg (fun z => some (Value.int z)) this.symm
  obtain ⟨ff, hF⟩ := fmt_at hg hts hnA
  let ρ : Nat → Nat := fun a => if a < 1000000 then s.heap.size + a else if a < 2000000 then adK (a - 1000000) else if a < 2500000 then adV (a - 2000000) else if a = 2500000 then ff else b
  have k1 : ∀ i, i < 1000000 → ρ (1000000 + i) = adK i := fun i hi => by
    show (if 1000000 + i < 1000000 then _ else if 1000000 + i < 2000000 then _ else _) = _
    rw [if_neg (by omega), if_pos (by omega), show 1000000 + i - 1000000 = i by omega]
  have k2 : ∀ i, i < 500000 → ρ (2000000 + i) = adV i := fun i hi => by
    show (if 2000000 + i < 1000000 then _ else if 2000000 + i < 2000000 then _ else if 2000000 + i < 2500000 then _ else _) = _
    rw [if_neg (by omega), if_neg (by omega), if_pos (by omega), show 2000000 + i - 2000000 = i by omega]
  have k3 : ρ 2500000 = ff := by
    show (if 2500000 < 1000000 then _ else if 2500000 < 2000000 then _ else if 2500000 < 2500000 then _ else if 2500000 = 2500000 then _ else _) = _
    rw [if_neg (by decide), if_neg (by decide), if_neg (by decide), if_pos rfl]
  have hF' : va_Z "jdk/internal/util/Preconditions" "SIOOBE_FORMATTER" "Ljava/util/function/BiFunction;" .null (fun q : Nat => s.heap.size ≤ q) s s.heap ∨ va_Z "jdk/internal/util/Preconditions" "SIOOBE_FORMATTER" "Ljava/util/function/BiFunction;" (.ref (ρ 2500000)) (fun q : Nat => s.heap.size ≤ q) s s.heap := by
    rw [k3]
    exact hF
  have hS' : vk_S lensT.length lensT bytsT (fun i => ρ (1000000 + i)) (fun i => ρ (2000000 + i)) (fun q : Nat => s.heap.size ≤ q) s s.heap := by
    have l4 : lensT.length = 4 := rfl
    refine ⟨fun i hi => ?_, fun i j hi hj he => hS.2 i j hi hj ?_⟩
    · have h9 := hS.1 i hi
      rw [← k1 i (by omega), ← k2 i (by omega)] at h9
      exact h9
    · have he : ρ (1000000 + i) = ρ (1000000 + j) := he
      rw [k1 i (by omega), k1 j (by omega)] at he
      exact he
  have hE' : ∀ i : Nat, i < 4 → (tmT i).eval #[Value.ref b] s none [] s = some (.ref (ρ (1000000 + i))) := fun i hi => by
    rw [k1 i (by omega)]
    exact hE i hi
  have hρ3 : ρ 3000000 = b := by
    show (if 3000000 < 1000000 then _ else if 3000000 < 2000000 then _ else if 3000000 < 2500000 then _ else if 3000000 = 2500000 then _ else _) = _
    rw [if_neg (by decide), if_neg (by decide), if_neg (by decide), if_neg (by decide)]
  let G : GT := (l, D, ca, ρ, s.heap.size, true, false, ys)
  have hR : Row G := ⟨rfl, fun a ha => if_pos ha⟩
  have hSI : SI ys ρ (fun q : Nat => s.heap.size ≤ q) s s.heap := si_at hg hts hnA hS' hF' hE' hXX hρ3 hbl
  have hK : va_K D vwCl (tysA ca) s := ⟨hD, fun k q hq => by
    have hk : k < 7 := (List.getElem?_eq_some_iff.mp hq).1
    have h9 := tysA_at (ca := ca) (k := k + 12) (by omega) (by omega)
    rw [show k + 12 - 12 = k by omega] at h9
    cases h9.symm.trans hq
    exact hca (k + 12) (by omega) (by omega)⟩
  have htr : l.stackTraces = false := by
    unfold Launch.stackTraces
    rw [hflags]
    decide
  have hw := ok_L_law (G := G) hR rfl rfl (by rw [hlen]; exact hL) hrun p e s m #[Value.ref b] below meth c (fun q : Nat => s.heap.size ≤ q) s.heap [] _ ⟨hx, hb, hml, hr, hlocks, hown, fun w hw => hts w (tb_lw hw), hA, hK, hSI, fun q => absurd q (by decide), htab, htr⟩ ⟨fun k q h => absurd (show ([] : va_W)[k]? = some q from h) (by simp), ⟨fun i j p q h => absurd (show ([] : va_W)[i]? = some p from h) (by simp), fun k q h => absurd (show ([] : va_W)[k]? = some q from h) (by simp)⟩, va_S.rf, fun _ => rfl⟩ (entry_Lr (As := [.ref 3000000]) (nL := 8) (cat_all rfl) (by decide))
  rw [show (List.map (cv (gR G)) [.ref 3000000]) = [Value.ref b] from congrArg (fun z => [Value.ref z]) hρ3] at hw
  rw [lg_entry_eq]
  refine W.mono (fun u hu => ?_) hw
  unfold EQ at hu
  rw [if_neg (by decide)] at hu
  obtain ⟨oc, u1, u2, u3, Lc, u4, u5⟩ := hu
  obtain ⟨⟨v, v1, v2, -⟩, -⟩ := u3
  have hv : oc = .returned (some (.int 1)) := by
    rw [v2]
    have v1 : some (Value.int 1) = v := Sum.inl.inj v1
    rw [← v1]
    rfl
  subst hv
  obtain ⟨-, w1, w2⟩ := u4
  refine ⟨_, u1, u2, rfl, ?_⟩
  exact lw_closed (d0 := s.drawn) (Drawn.sameBut.refl s.drawn lw_cs) ⟨_, rfl⟩ w1 (State.sameButNew.drop_fresh (L := []) (J := Lc) w2 u5)
