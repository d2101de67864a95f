/-! the heap's operations, as functions -/
def oGet (M : List Ob) (r ci k : Nat) : Option Value := match M[r]? with
  | some o => if o.1 = ci then o.2[k]? else none
  | none => none
def gI (M : List Ob) (r ci k : Nat) : Option Int32 := match oGet M r ci k with | some (.int x) => some x | _ => none
def gP (M : List Ob) (r ci k : Nat) : Option Nat := match oGet M r ci k with | some (.ref x) => some x | _ => none
def pF (M : List Ob) (r ci k : Nat) (v : Value) : Option (List Ob) := match M[r]? with
  | some o => if o.1 = ci ∧ k < o.2.length then some (M.set r (ci, o.2.set k v)) else none
  | none => none
def aGet (M : List Ob) (r kd : Nat) (i : Int32) : Option Value := match M[r]? with
  | some o => if o.1 = kd ∧ ¬ i < 0 then o.2[i.toNatClampNeg]? else none
  | none => none
def aI (M : List Ob) (r kd : Nat) (i : Int32) : Option Int32 := match aGet M r kd i with | some (.int x) => some x | _ => none
def aP (M : List Ob) (r kd : Nat) (i : Int32) : Option Nat := match aGet M r kd i with | some (.ref x) => some x | _ => none
def aJ (M : List Ob) (r : Nat) (i : Int32) : Option Int64 := match aGet M r 17 i with | some (.long x) => some x | _ => none
def aD (M : List Ob) (r : Nat) (i : Int32) : Option UInt64 := match aGet M r 18 i with | some (.double x) => some x | _ => none
def aSet (M : List Ob) (r kd : Nat) (i : Int32) (v : Value) : Option (List Ob) := match M[r]? with
  | some o => if o.1 = kd ∧ ¬ i < 0 ∧ i.toNatClampNeg < o.2.length then some (M.set r (kd, o.2.set i.toNatClampNeg v)) else none
  | none => none
def aLen (M : List Ob) (r kd : Nat) : Option Int32 := match M[r]? with
  | some o => if o.1 = kd then some (Int32.ofNat o.2.length) else none
  | none => none
def hasO (M : List Ob) (r ci : Nat) : Option Unit := match M[r]? with
  | some o => if o.1 = ci then some () else none
  | none => none
def cpyL {α : Type} (f g : List α) (sp dp n : Nat) : List α := g.take dp ++ ((f.drop sp).take n ++ g.drop (dp + n))
def aCopy (M : List Ob) (r : Nat) (sp : Int32) (r' : Nat) (dp n : Int32) : Option (List Ob) := match M[r]?, M[r']? with
  | some o, some o' => if o.1 = 13 ∧ o'.1 = 13 ∧ ¬ sp < 0 ∧ ¬ dp < 0 ∧ ¬ n < 0 ∧ sp.toNatClampNeg + n.toNatClampNeg ≤ o.2.length ∧ dp.toNatClampNeg + n.toNatClampNeg ≤ o'.2.length then
      some (M.set r' (13, cpyL o.2 o'.2 sp.toNatClampNeg dp.toNatClampNeg n.toNatClampNeg)) else none
  | _, _ => none
/-- all references lie within the first n places, or are no places at all -/
theorem oGet_spec {M : List Ob} {r ci k : Nat} {v : Value} (h : oGet M r ci k = some v) : ∃ fs, M[r]? = some (ci, fs) ∧ fs[k]? = some v := by
  unfold oGet at h
  split at h
  · rename_i o ho
    split at h
    · rename_i hc
      refine ⟨o.2, ?_, h⟩
      rw [ho, ← hc]
    · cases h
  · cases h
theorem gI_spec {M : List Ob} {r ci k : Nat} {x : Int32} (h : gI M r ci k = some x) : oGet M r ci k = some (.int x) := by
  unfold gI at h
  split at h
  · cases h; assumption
  · cases h
theorem gP_spec {M : List Ob} {r ci k : Nat} {x : Nat} (h : gP M r ci k = some x) : oGet M r ci k = some (.ref x) := by
  unfold gP at h
  split at h
  · cases h; assumption
  · cases h
theorem pF_spec {M M' : List Ob} {r ci k : Nat} {v : Value} (h : pF M r ci k v = some M') : ∃ fs, M[r]? = some (ci, fs) ∧ k < fs.length ∧ M' = M.set r (ci, fs.set k v) := by
  unfold pF at h
  split at h
  · rename_i o ho
    split at h
    · rename_i hc
      cases h
      refine ⟨o.2, ?_, hc.2, rfl⟩
      rw [ho, ← hc.1]
    · cases h
  · cases h
theorem aGet_spec {M : List Ob} {r kd : Nat} {i : Int32} {v : Value} (h : aGet M r kd i = some v) : ∃ vs, M[r]? = some (kd, vs) ∧ vp_in i vs.length ∧ vs[i.toNatClampNeg]? = some v := by
  unfold aGet at h
  split at h
  · rename_i o ho
    split at h
    · rename_i hc
      refine ⟨o.2, ?_, ?_, h⟩
      · rw [ho, ← hc.1]
      · rintro (q | q)
        · exact hc.2 q
        · rw [List.getElem?_eq_none q] at h; cases h
    · cases h
  · cases h
theorem aI_spec {M : List Ob} {r kd : Nat} {i x : Int32} (h : aI M r kd i = some x) : aGet M r kd i = some (.int x) := by
  unfold aI at h
  split at h
  · cases h; assumption
  · cases h
theorem aP_spec {M : List Ob} {r kd : Nat} {i : Int32} {x : Nat} (h : aP M r kd i = some x) : aGet M r kd i = some (.ref x) := by
  unfold aP at h
  split at h
  · cases h; assumption
  · cases h
theorem aJ_spec {M : List Ob} {r : Nat} {i : Int32} {x : Int64} (h : aJ M r i = some x) : aGet M r 17 i = some (.long x) := by
  unfold aJ at h
  split at h
  · cases h; assumption
  · cases h
theorem aD_spec {M : List Ob} {r : Nat} {i : Int32} {x : UInt64} (h : aD M r i = some x) : aGet M r 18 i = some (.double x) := by
  unfold aD at h
  split at h
  · cases h; assumption
  · cases h
theorem aSet_spec {M M' : List Ob} {r kd : Nat} {i : Int32} {v : Value} (h : aSet M r kd i v = some M') : ∃ vs, M[r]? = some (kd, vs) ∧ vp_in i vs.length ∧ M' = M.set r (kd, vs.set i.toNatClampNeg v) := by
  unfold aSet at h
  split at h
  · rename_i o ho
    split at h
    · rename_i hc
      cases h
      refine ⟨o.2, ?_, ?_, rfl⟩
      · rw [ho, ← hc.1]
      · rintro (q | q)
        · exact hc.2.1 q
        · exact absurd hc.2.2 (Nat.not_lt.mpr q)
    · cases h
  · cases h
theorem aLen_spec {M : List Ob} {r kd : Nat} {x : Int32} (h : aLen M r kd = some x) : ∃ vs, M[r]? = some (kd, vs) ∧ Int32.ofNat vs.length = x := by
  unfold aLen at h
  split at h
  · rename_i o ho
    split at h
    · rename_i hc
      cases h
      refine ⟨o.2, ?_, rfl⟩
      rw [ho, ← hc]
    · cases h
  · cases h
theorem aCopy_spec {M M' : List Ob} {r r' : Nat} {sp dp n : Int32} (h : aCopy M r sp r' dp n = some M') : ∃ f g, M[r]? = some (13, f) ∧ M[r']? = some (13, g) ∧ ¬ sp < 0 ∧ ¬ dp < 0 ∧ ¬ n < 0 ∧ sp.toNatClampNeg + n.toNatClampNeg ≤ f.length ∧ dp.toNatClampNeg + n.toNatClampNeg ≤ g.length ∧ M' = M.set r' (13, cpyL f g sp.toNatClampNeg dp.toNatClampNeg n.toNatClampNeg) := by
  unfold aCopy at h
  split at h
  · rename_i o o' ho ho'
    split at h
    · rename_i hc
      obtain ⟨h1, h2, h3, h4, h5, h6, h7⟩ := hc
      cases h
      refine ⟨o.2, o'.2, ?_, ?_, h3, h4, h5, h6, h7, rfl⟩
      · rw [ho, ← h1]
      · rw [ho', ← h2]
    · cases h
  · cases h
theorem bindE {α β : Type} {x : Option α} {f : α → Option β} {b : β} (h : x.bind f = some b) : ∃ a, x = some a ∧ f a = some b := by
  cases x with
  | none => cases h
  | some a => exact ⟨a, rfl, h⟩
/-! objects and arrays as the kit has them -/
theorem co_obj {ca : Nat → ClassId} {ρ : Nat → Nat} {ci : Nat} {fs : List Value} (h : ci < 12) : co ca ρ (ci, fs) = .inr (ci, fs.map (cv ρ)) := by
  unfold co; rw [if_pos h]
theorem co_int {ca : Nat → ClassId} {ρ : Nat → Nat} {kd : Nat} {vs : List Value} (h : kd = 12 ∨ kd = 13) : co ca ρ (kd, vs) = .inl (ca kd, vs.length, .inl (fun j => vI (vs.getD j .null))) := by
  rcases h with rfl | rfl <;> rfl
theorem co_ref {ca : Nat → ClassId} {ρ : Nat → Nat} {kd : Nat} {vs : List Value} (h : kd = 14 ∨ kd = 15 ∨ kd = 16) : co ca ρ (kd, vs) = .inl (ca kd, vs.length, .inr (.inr (.inr (.inr (fun j => vQ ρ (vs.getD j .null)))))) := by
  rcases h with rfl | rfl | rfl <;> rfl
theorem co_long {ca : Nat → ClassId} {ρ : Nat → Nat} {vs : List Value} : co ca ρ (17, vs) = .inl (ca 17, vs.length, .inr (.inl (fun j => vJ (vs.getD j .null)))) := rfl
theorem co_dbl {ca : Nat → ClassId} {ρ : Nat → Nat} {vs : List Value} : co ca ρ (18, vs) = .inl (ca 18, vs.length, .inr (.inr (.inr (.inl (fun j => vD (vs.getD j .null)))))) := rfl
theorem getD_of {vs : List Value} {i : Nat} {v : Value} (h : vs[i]? = some v) : vs.getD i .null = v := by
  rw [List.getD_eq_getElem?_getD, h]; rfl
theorem upd_set {α : Type} (f : Value → α) {vs : List Value} {i : Nat} (hi : i < vs.length) (v : Value) : (fun j => if j = i then f v else f (vs.getD j .null)) = fun j => f ((vs.set i v).getD j .null) := by
  funext j
  by_cases h : j = i
  · subst h
    rw [if_pos rfl, List.getD_eq_getElem?_getD, List.getElem?_set_self hi]; rfl
  · rw [if_neg h, List.getD_eq_getElem?_getD, List.getD_eq_getElem?_getD, List.getElem?_set_ne (Ne.symm h)]
theorem in_lt {i : Int32} {n : Nat} (h : vp_in i n) : i.toNatClampNeg < n := Nat.not_le.mp fun q => h (Or.inr q)
/-- a field that a class's code names: where its link stands, of which kind and place it is, its type, whether final -/
def Fq (own : String) (idx ci k : Nat) (ty : FieldType) (fin : Bool) : Prop :=
  ∃ r, vwCl[ci]? = some r ∧ k < r.2.2 ∧ Cond.fieldLink own idx (r.2.1 k).1 (r.2.1 k).2.1 (r.2.1 k).2.2.1 ∈ TBg ∧ parseFieldDescriptor (r.2.1 k).2.2.1 = some ty ∧ (r.2.1 k).2.2.2 = fin ∧ (r.2.1 k).1 = r.1
theorem TBg_of {w : Cond} (i : Nat) (h : lw_tbl[i]? = some w) (hg : goodWord w = true) : w ∈ TBg := List.mem_filter.mpr ⟨List.mem_of_getElem? h, hg⟩
/-- every kind of object: its words, the types of its fields, their names -/
def KindOk (r : vw_C) : Prop := (∀ w ∈ u_ws r.1 r.2.1 r.2.2, w ∈ TBg) ∧ (∃ ty0 : Nat → FieldType, ∀ k, k < r.2.2 → parseFieldDescriptor (r.2.1 k).2.2.1 = some (ty0 k)) ∧ (∀ a, a < r.2.2 → ∀ b, b < r.2.2 → a ≠ b → (r.2.1 a).2.1 ≠ (r.2.1 b).2.1)
set_option maxRecDepth 20000 in
theorem kind_ok : ∀ (ci : Nat) (r : vw_C), vwCl[ci]? = some r → KindOk r := by
  intro ci r h
  match ci, h with
  | 0, h => cases h; exact ⟨by decide +kernel, ⟨_, tyX0_ok⟩, nmX0⟩
  | 1, h => cases h; exact ⟨by decide +kernel, ⟨_, tyX1_ok⟩, nmX1⟩
  | 2, h => cases h; exact ⟨by decide +kernel, ⟨_, tyX2_ok⟩, nmX2⟩
  | 3, h => cases h; exact ⟨by decide +kernel, ⟨_, tyX3_ok⟩, nmX3⟩
  | 4, h => cases h; exact ⟨by decide +kernel, ⟨_, tyX4_ok⟩, nmX4⟩
  | 5, h => cases h; exact ⟨by decide +kernel, ⟨_, tyX5_ok⟩, nmX5⟩
  | 6, h => cases h; exact ⟨by decide +kernel, ⟨_, tyX6_ok⟩, nmX6⟩
  | 7, h => cases h; exact ⟨by decide +kernel, ⟨_, tyX7_ok⟩, nmX7⟩
  | 8, h => cases h; exact ⟨by decide +kernel, ⟨_, tyX8_ok⟩, nmX8⟩
  | 9, h => cases h; exact ⟨by decide +kernel, ⟨_, tyX9_ok⟩, nmX9⟩
  | 10, h => cases h; exact ⟨by decide +kernel, ⟨_, tyX10_ok⟩, nmX10⟩
  | 11, h => cases h; exact ⟨by decide +kernel, ⟨_, tyX11_ok⟩, nmX11⟩
  | n + 12, h => simp [vwCl] at h
theorem kind_lt {ci : Nat} {r : vw_C} (h : vwCl[ci]? = some r) : ci < 12 := (List.getElem?_eq_some_iff.mp h).1
theorem Hp.put {G : GT} {M : List Ob} {A : Nat → Prop} {s : State} {H H1 : Heap} {locs : List Loc} {r j : Nat} {x x' : Ob} (hH : Hp G M A s H locs) (hM : M[r]? = some x) (he : va_at (gD G) vwCl (gR G r, co (gA G) (gR G) x') H1) (z : H1.size = H.size) (oq : ∀ q : Nat, q ≠ gR G r → H1[q]? = H[q]?) : Hp G (M.set r x') A s H1 (locs ++ [⟨gR G r, j⟩]) := by
  have hg := cw_get (G := G) hM
  have hP := hH.1.set hH.2.1 hg he oq
  have hD := hH.2.1.set (e := co (gA G) (gR G) x') hg
  rw [cw_set] at hP hD
  exact ⟨hP, hD, hH.2.2.1.put z oq (hH.2.1.2 r _ hg), fun hz => by rw [z, hH.2.2.2 hz, List.length_set]⟩
section XH
variable {G : GT} {t : Mt} {hh : List (Nat × Nat × Nat × Nat)} {pc pc' : Nat} {L L' : List (Option Value)} {st : List Value} {M M' : List Ob} {k n : Nat} {o : Out}
theorem X.getf {idx ci kf a : Nat} {ty : FieldType} {fin : Bool} {v : Value} (d : decode (mB t) pc = .ok (.getfield idx, 3)) (hp : pc + 3 = pc') (hf : Fq (mN t).cls idx ci kf ty fin) (hv : oGet M a ci kf = some v) (kk : X G t hh pc' L (v :: st) M k n o) : X G t hh pc L (.ref a :: st) M k n o := by
  subst hp
  obtain ⟨⟨C, T, N⟩, h1, h2, h3, -, -, -⟩ := hf
  obtain ⟨fs, hM, hv⟩ := oGet_spec hv
  intro p e s m args below meth c A H locs ls hC hH hL
  have hg := cw_get (G := G) hM
  rw [co_obj (kind_lt h1)] at hg
  exact va_get (D := gD G) (T := T) (v := cv (gR G) v) hC.1 hC.2.1 hC.2.2.2.2.2.2.1 (kind_ok ci _ h1).1 hC.2.2.2.2.2.1 hC.2.2.2.2.2.2.2.2.1 hH.1 a hg h1 kf h2 (hC.2.2.2.2.2.2.1 _ h3) (fun _ h9 => h9) (by rw [List.getElem?_map, hv]; rfl) d (kk p e s m args below meth c A H locs ls hC hH hL)

theorem X.aald {a kd : Nat} {i : Int32} {x : Nat} (d : decode (mB t) pc = .ok (.aaload, 1)) (hp : pc + 1 = pc') (hk : kd = 14 ∨ kd = 15 ∨ kd = 16) (hv : aP M a kd i = some x) (kk : X G t hh pc' L (.ref x :: st) M k n o) : X G t hh pc L (.int i :: .ref a :: st) M k n o := by
  subst hp
  obtain ⟨vs, hM, hin, hv⟩ := aGet_spec (aP_spec hv)
  intro p e s m args below meth c A H locs ls hC hH hL
  have hg := cw_get (G := G) hM
  rw [co_ref hk] at hg
  have hty : (aKind kd).isReference = true := by rcases hk with rfl | rfl | rfl <;> rfl
  have hlt := in_lt hin
  have ht := (hC.2.2.2.2.2.2.2.2.1.2 (kd - 12) _ (tysA_at (ca := gA G) (k := kd) (by omega) (by omega))).1
  refine W.aald (v := .ref (gR G x)) (ty := aKind kd) hC.1 hC.2.1 (hH.1 a _ hg) (ht vs.length (fun j => va_rf (vQ (gR G) (vs.getD j .null)))) hty (fun q => by cases q) (by show ¬ (i < 0 ∨ (arrV _ _ _).slots.size ≤ _); rw [arrV_size]; exact hin) ?_ rfl rfl d (kk p e s m args below meth c A H locs ls hC hH hL)
  show (arrV _ _ _).slots[_]? = _
  rw [arrV_read _ _ hlt]
  show some (va_rf (vQ (gR G) (vs.getD i.toNatClampNeg .null))) = _
  rw [getD_of hv]
  rfl
theorem X.iald {a : Nat} {i x : Int32} (d : decode (mB t) pc = .ok (.iaload, 1)) (hp : pc + 1 = pc') (hv : aI M a 13 i = some x) (kk : X G t hh pc' L (.int x :: st) M k n o) : X G t hh pc L (.int i :: .ref a :: st) M k n o := by
  subst hp
  obtain ⟨vs, hM, hin, hv⟩ := aGet_spec (aI_spec hv)
  intro p e s m args below meth c A H locs ls hC hH hL
  have hg := cw_get (G := G) hM
  rw [co_int (Or.inr rfl)] at hg
  refine va_iald hC.1 hC.2.1 hC.2.2.2.2.2.2.2.2.1 hH.1 a 1 hg rfl hin d ?_
  rw [getD_of hv]
  exact kk p e s m args below meth c A H locs ls hC hH hL
theorem X.bald {a : Nat} {i x : Int32} (d : decode (mB t) pc = .ok (.baload, 1)) (hp : pc + 1 = pc') (hv : aI M a 12 i = some x) (kk : X G t hh pc' L (.int x :: st) M k n o) : X G t hh pc L (.int i :: .ref a :: st) M k n o := by
  subst hp
  obtain ⟨vs, hM, hin, hv⟩ := aGet_spec (aI_spec hv)
  intro p e s m args below meth c A H locs ls hC hH hL
  have hg := cw_get (G := G) hM
  rw [co_int (Or.inl rfl)] at hg
  refine va_bald hC.1 hC.2.1 hC.2.2.2.2.2.2.2.2.1 hH.1 a 0 hg rfl hin d ?_
  rw [getD_of hv]
  exact kk p e s m args below meth c A H locs ls hC hH hL
theorem X.lald {a : Nat} {i : Int32} {x : Int64} (d : decode (mB t) pc = .ok (.laload, 1)) (hp : pc + 1 = pc') (hv : aJ M a i = some x) (kk : X G t hh pc' L (.long x :: st) M k n o) : X G t hh pc L (.int i :: .ref a :: st) M k n o := by
  subst hp
  obtain ⟨vs, hM, hin, hv⟩ := aGet_spec (aJ_spec hv)
  intro p e s m args below meth c A H locs ls hC hH hL
  have hg := cw_get (G := G) hM
  rw [co_long] at hg
  refine va_lald hC.1 hC.2.1 hC.2.2.2.2.2.2.2.2.1 hH.1 a 5 hg rfl hin d ?_
  rw [getD_of hv]
  exact kk p e s m args below meth c A H locs ls hC hH hL
theorem X.dald {a : Nat} {i : Int32} {x : UInt64} (d : decode (mB t) pc = .ok (.daload, 1)) (hp : pc + 1 = pc') (hv : aD M a i = some x) (kk : X G t hh pc' L (.double x :: st) M k n o) : X G t hh pc L (.int i :: .ref a :: st) M k n o := by
  subst hp
  obtain ⟨vs, hM, hin, hv⟩ := aGet_spec (aD_spec hv)
  intro p e s m args below meth c A H locs ls hC hH hL
  have hg := cw_get (G := G) hM
  rw [co_dbl] at hg
  refine va_dald hC.1 hC.2.1 hC.2.2.2.2.2.2.2.2.1 hH.1 a 6 hg rfl hin d ?_
  rw [getD_of hv]
  exact kk p e s m args below meth c A H locs ls hC hH hL
theorem X.alen {a kd : Nat} {x : Int32} (d : decode (mB t) pc = .ok (.arraylength, 1)) (hp : pc + 1 = pc') (h12 : 12 ≤ kd) (h19 : kd < 19) (hv : aLen M a kd = some x) (kk : X G t hh pc' L (.int x :: st) M k n o) : X G t hh pc L (.ref a :: st) M k n o := by
  subst hp
  obtain ⟨vs, hM, hv⟩ := aLen_spec hv
  intro p e s m args below meth c A H locs ls hC hH hL
  have hg := cw_get (G := G) hM
  unfold co at hg
  rw [if_neg (by show ¬ kd < 12; omega)] at hg
  exact va_alen hC.1 hC.2.1 hC.2.2.2.2.2.2.2.2.1 hH.1 a (kd - 12) hg (tysA_at (ca := gA G) h12 h19) hv d (kk p e s m args below meth c A H locs ls hC hH hL)
theorem X.putf {idx ci kf a : Nat} {ty : FieldType} {v : Value} (d : decode (mB t) pc = .ok (.putfield idx, 3)) (hp : pc + 3 = pc') (hf : Fq (mN t).cls idx ci kf ty false) (hn : narrow ty (cv (gR G) v) = cv (gR G) v) (hft : fits ty (cv (gR G) v) = true) (hv : pF M a ci kf v = some M') (kk : X G t hh pc' L st M' k n o) : X G t hh pc L (v :: .ref a :: st) M k n o := by
  subst hp
  obtain ⟨⟨C, T, N⟩, h1, h2, h3, h4, h5, -⟩ := hf
  obtain ⟨fs, hM, hlf, rfl⟩ := pF_spec hv
  obtain ⟨hin, ⟨ty0, hty⟩, hnm⟩ := kind_ok ci _ h1
  intro p e s m args below meth c A H locs ls hC hH hL
  have hts := hC.2.2.2.2.2.2.1
  have hK := hC.2.2.2.2.2.2.2.2.1
  have hg := cw_get (G := G) hM
  rw [co_obj (kind_lt h1)] at hg
  have hap := va_apart (own := (mN t).cls) hts hin ty0 hty hnm hK h1
  obtain ⟨r, q0, cell, q1, q2, q3, q4⟩ := hH.1 a _ hg
  cases Option.some.inj (q0.symm.trans h1)
  obtain ⟨hS, hfc, kC, hkC, hkind⟩ := hK.1 ci _ h1
  obtain ⟨cf, kf9, fi, f, hi, hsl⟩ := hS kf h2
  have hlay := hts _ (hin _ (u_in_lay h2))
  unfold u_lay at hlay
  rw [if_neg (by rw [h5]; decide)] at hlay
  have hst := (u_facts hfc hkC (u_lays hts hin h2) hi).1
  have h6 := u_store hfc hkC hkind hlay hi h4 hn hft
  refine W.putK hC.1 hC.2.1 (f := f) ⟨hC.2.2.2.2.2.1, hts _ h3, ⟨_, _, _, hi⟩, hst⟩ (by rw [q2]; exact h6) q1 q3 (by rw [hsl]; exact k2_hasslot (q4 kf h2)) rfl rfl d fun H' e1 e2 e3 => ?_
  rw [hsl] at e1 ⊢
  refine kk p e s m args below meth c A H' _ ls hC (hH.put (x' := (ci, fs.set kf v)) hM ?_ e2 e3) hL
  rw [co_obj (kind_lt h1)]
  refine ⟨_, h1, t_OB.to (V := updV (vp_V (fs.map (cv (gR G)))) kf (cv (gR G) v)) ⟨_, e1, q2, q3, t_set q4 hap h2 _⟩ (fun j _ => ?_)⟩
  rw [List.map_set]
  exact vp_updV_set (by rw [List.length_map]; exact hlf) _ j
theorem X.putF {idx ci kf a : Nat} {ty : FieldType} {v : Value} (d : decode (mB t) pc = .ok (.putfield idx, 3)) (hp : pc + 3 = pc') (hf : Fq (mN t).cls idx ci kf ty true) (hnm0 : (mN t).name = "<init>") (hown0 : ∀ r, vwCl[ci]? = some r → r.1 = (mN t).cls) (hn : narrow ty (cv (gR G) v) = cv (gR G) v) (hft : fits ty (cv (gR G) v) = true) (hv : pF M a ci kf v = some M') (kk : X G t hh pc' L st M' k n o) : X G t hh pc L (v :: .ref a :: st) M k n o := by
  subst hp
  obtain ⟨⟨C, T, N⟩, h1, h2, h3, h4, h5, h7⟩ := hf
  obtain ⟨fs, hM, hlf, rfl⟩ := pF_spec hv
  obtain ⟨hin, ⟨ty0, hty⟩, hnm⟩ := kind_ok ci _ h1
  intro p e s m args below meth c A H locs ls hC hH hL
  have hts := hC.2.2.2.2.2.2.1
  have hown := hC.2.2.2.2.2.1
  have hK := hC.2.2.2.2.2.2.2.2.1
  have hg := cw_get (G := G) hM
  rw [co_obj (kind_lt h1)] at hg
  have hap := va_apart (own := (mN t).cls) hts hin ty0 hty hnm hK h1
  obtain ⟨r, q0, cell, q1, q2, q3, q4⟩ := hH.1 a _ hg
  cases Option.some.inj (q0.symm.trans h1)
  obtain ⟨hS, hfc, kC, hkC, hkind⟩ := hK.1 ci _ h1
  obtain ⟨cf, kf9, fi, f, hi, hsl⟩ := hS kf h2
  have hlay := hts _ (hin _ (u_in_lay h2))
  unfold u_lay at hlay
  rw [if_pos h5] at hlay
  have hst := (u_facts hfc hkC (u_lays hts hin h2) hi).1
  have hcf : m.cls = cf := by
    obtain ⟨_, _, c', _, _, _, -, -, hf', -, -, -, hown2, -⟩ := Cond.laysFinal_spec hlay
    have e1 : c' = cf := by have := hi.symm.trans hf'; simp at this; exact this.1.symm
    have e2 : (T kf).1 = (mN t).cls := h7.trans (hown0 _ h1)
    rw [e2] at hown2
    rw [← e1]; exact Option.some.inj (hown.symm.trans hown2)
  have h6 := u_fits hfc hkC hkind (Or.inr hlay) hi h4 hn hft
  refine W.putFinK hC.1 hC.2.1 hown (hts _ h3) hi hst hcf (hC.2.2.2.2.2.2.2.2.2.2.1 hnm0) (by rw [q2]; exact h6) q1 q3 (by rw [hsl]; exact k2_hasslot (q4 kf h2)) rfl rfl d fun H' e1 e2 e3 => ?_
  rw [hsl] at e1 ⊢
  refine kk p e s m args below meth c A H' _ ls hC (hH.put (x' := (ci, fs.set kf v)) hM ?_ e2 e3) hL
  rw [co_obj (kind_lt h1)]
  refine ⟨_, h1, t_OB.to (V := updV (vp_V (fs.map (cv (gR G)))) kf (cv (gR G) v)) ⟨_, e1, q2, q3, t_set q4 hap h2 _⟩ (fun j _ => ?_)⟩
  rw [List.map_set]
  exact vp_updV_set (by rw [List.length_map]; exact hlf) _ j
theorem arr_set2 (cA : ClassId) (f : Value → Value) {vs : List Value} {i : Nat} (hi : i < vs.length) (v : Value) : (arrV cA vs.length (fun j => f (vs.getD j .null))).setSlot i (f v) = arrV cA (vs.set i v).length (fun j => f ((vs.set i v).getD j .null)) := by
  rw [arrV_store, List.length_set]
  congr 1
  exact upd_set f hi v
theorem X.iast {a : Nat} {i x : Int32} (d : decode (mB t) pc = .ok (.iastore, 1)) (hp : pc + 1 = pc') (hv : aSet M a 13 i (.int x) = some M') (kk : X G t hh pc' L st M' k n o) : X G t hh pc L (.int x :: .int i :: .ref a :: st) M k n o := by
  subst hp
  obtain ⟨vs, hM, hin, rfl⟩ := aSet_spec hv
  intro p e s m args below meth c A H locs ls hC hH hL
  have hg := cw_get (G := G) hM
  rw [co_int (Or.inr rfl)] at hg
  refine W.iast hC.1 hC.2.1 (hH.1 a _ hg) ((hC.2.2.2.2.2.2.2.2.1.2 1 _ rfl).1 vs.length (fun j => .int (vI (vs.getD j .null)))) (fun q => by cases q) (by show ¬ (i < 0 ∨ (arrV _ _ _).slots.size ≤ _); rw [arrV_size]; exact hin) rfl rfl d fun H1 e1 z oq => ?_
  refine kk p e s m args below meth c A H1 _ ls hC (hH.put (x' := (13, vs.set i.toNatClampNeg (.int x))) hM ?_ z oq) hL
  rw [co_int (Or.inr rfl)]
  exact e1.trans (congrArg some (arr_set2 (gA G 13) (fun v => .int (vI v)) (in_lt hin) (.int x)))
theorem X.bast {a : Nat} {i x : Int32} (d : decode (mB t) pc = .ok (.bastore, 1)) (hp : pc + 1 = pc') (hv : aSet M a 12 i (.int x.toInt8.toInt32) = some M') (kk : X G t hh pc' L st M' k n o) : X G t hh pc L (.int x :: .int i :: .ref a :: st) M k n o := by
  subst hp
  obtain ⟨vs, hM, hin, rfl⟩ := aSet_spec hv
  intro p e s m args below meth c A H locs ls hC hH hL
  have hg := cw_get (G := G) hM
  rw [co_int (Or.inl rfl)] at hg
  refine W.bast hC.1 hC.2.1 (hH.1 a _ hg) ((hC.2.2.2.2.2.2.2.2.1.2 0 _ rfl).1 vs.length (fun j => .int (vI (vs.getD j .null)))) (fun q => by cases q) (by show ¬ (i < 0 ∨ (arrV _ _ _).slots.size ≤ _); rw [arrV_size]; exact hin) rfl rfl d fun H1 e1 z oq => ?_
  refine kk p e s m args below meth c A H1 _ ls hC (hH.put (x' := (12, vs.set i.toNatClampNeg (.int x.toInt8.toInt32))) hM ?_ z oq) hL
  rw [co_int (Or.inl rfl)]
  exact e1.trans (congrArg some (arr_set2 (gA G 12) (fun v => .int (vI v)) (in_lt hin) (.int x.toInt8.toInt32)))
theorem X.last {a : Nat} {i : Int32} {x : Int64} (d : decode (mB t) pc = .ok (.lastore, 1)) (hp : pc + 1 = pc') (hv : aSet M a 17 i (.long x) = some M') (kk : X G t hh pc' L st M' k n o) : X G t hh pc L (.long x :: .int i :: .ref a :: st) M k n o := by
  subst hp
  obtain ⟨vs, hM, hin, rfl⟩ := aSet_spec hv
  intro p e s m args below meth c A H locs ls hC hH hL
  have hg := cw_get (G := G) hM
  rw [co_long] at hg
  refine W.last hC.1 hC.2.1 (hH.1 a _ hg) ((hC.2.2.2.2.2.2.2.2.1.2 5 _ rfl).1 vs.length (fun j => .long (vJ (vs.getD j .null)))) (fun q => by cases q) (by show ¬ (i < 0 ∨ (arrV _ _ _).slots.size ≤ _); rw [arrV_size]; exact hin) rfl rfl d fun H1 e1 z oq => ?_
  refine kk p e s m args below meth c A H1 _ ls hC (hH.put (x' := (17, vs.set i.toNatClampNeg (.long x))) hM ?_ z oq) hL
  rw [co_long]
  exact e1.trans (congrArg some (arr_set2 (gA G 17) (fun v => .long (vJ v)) (in_lt hin) (.long x)))
theorem X.dast {a : Nat} {i : Int32} {x : UInt64} (d : decode (mB t) pc = .ok (.dastore, 1)) (hp : pc + 1 = pc') (hv : aSet M a 18 i (.double x) = some M') (kk : X G t hh pc' L st M' k n o) : X G t hh pc L (.double x :: .int i :: .ref a :: st) M k n o := by
  subst hp
  obtain ⟨vs, hM, hin, rfl⟩ := aSet_spec hv
  intro p e s m args below meth c A H locs ls hC hH hL
  have hg := cw_get (G := G) hM
  rw [co_dbl] at hg
  refine W.dast hC.1 hC.2.1 (hH.1 a _ hg) ((hC.2.2.2.2.2.2.2.2.1.2 6 _ rfl).1 vs.length (fun j => .double (vD (vs.getD j .null)))) (fun q => by cases q) (by show ¬ (i < 0 ∨ (arrV _ _ _).slots.size ≤ _); rw [arrV_size]; exact hin) rfl rfl d fun H1 e1 z oq => ?_
  refine kk p e s m args below meth c A H1 _ ls hC (hH.put (x' := (18, vs.set i.toNatClampNeg (.double x))) hM ?_ z oq) hL
  rw [co_dbl]
  exact e1.trans (congrArg some (arr_set2 (gA G 18) (fun v => .double (vD v)) (in_lt hin) (.double x)))
/-- an object into an array of its class -/
theorem X.aast {a kd ci x : Nat} {i : Int32} {r : vw_C} (d : decode (mB t) pc = .ok (.aastore, 1)) (hp : pc + 1 = pc') (hk : kd = 14 ∨ kd = 15) (hr : vwCl[ci]? = some r) (hkr : aKind kd = .object r.1) (ho : hasO M x ci = some ()) (hv : aSet M a kd i (.ref x) = some M') (kk : X G t hh pc' L st M' k n o) : X G t hh pc L (.ref x :: .int i :: .ref a :: st) M k n o := by
  subst hp
  obtain ⟨vs, hM, hin, rfl⟩ := aSet_spec hv
  have hk' : kd = 14 ∨ kd = 15 ∨ kd = 16 := by omega
  have ⟨ob, hob, hc1⟩ : ∃ ob, M[x]? = some ob ∧ ob.1 = ci := by
    unfold hasO at ho
    split at ho
    · rename_i ob h1
      split at ho
      · exact ⟨ob, h1, by assumption⟩
      · cases ho
    · cases ho
  intro p e s m args below meth c A H locs ls hC hH hL
  have hK := hC.2.2.2.2.2.2.2.2.1
  have hg := cw_get (G := G) hM
  rw [co_ref hk'] at hg
  have hgx := cw_get (G := G) hob
  obtain ⟨oc, ofs⟩ := ob
  subst hc1
  rw [co_obj (kind_lt hr)] at hgx
  obtain ⟨r', hr', cellV, g1, g2, g3, -⟩ := hH.1 x _ hgx
  have hcls := (hK.1 oc r hr).2
  obtain ⟨kA, comp, k1, k2, k3, -⟩ : ∃ (kA : Class) (comp : ClassId), s.vm.classes[gA G kd]? = some kA ∧ kA.kind = .array comp (.object r.1) ∧ s.vm.findClass r.1 = some comp ∧ s.vm.findClass ("[" ++ (FieldType.object r.1).toString) = some (gA G kd) := by
    have h9 := (hK.2 (kd - 12) _ (tysA_at (ca := gA G) (k := kd) (by omega) (by omega))).2
    rw [hkr] at h9
    exact h9
  have hcomp : comp = (gD G).1 oc := Option.some.inj (k3.symm.trans hcls.1)
  subst hcomp
  obtain ⟨kC, hkC, -⟩ := hcls.2
  refine W.aast hC.1 hC.2.1 (hH.1 a _ hg) (fun q h => by cases h) (fun h => by cases h) k1 k2 rfl hkC ⟨fun q => hin (Or.inl q), by show _ < (arrV _ _ _).slots.size; rw [arrV_size]; exact in_lt hin⟩ g1 (fun q h => by rw [g3] at h; cases h) (by rw [g2]; exact hkC) (by rw [g2]; exact va_assign hcls) rfl rfl d fun H1 e1 z oq => ?_
  refine kk p e s m args below meth c A H1 _ ls hC (hH.put (x' := (kd, vs.set i.toNatClampNeg (.ref x))) hM ?_ z oq) hL
  rw [co_ref hk']
  exact e1.trans (congrArg some (arr_set2 (gA G kd) (fun v => va_rf (vQ (gR G) v)) (in_lt hin) (.ref x)))
end XH
