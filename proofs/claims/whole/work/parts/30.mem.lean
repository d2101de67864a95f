/-! PURE PART. The memory of a run has one shape from the constructors on (SK: kinds, fixed references); what changes are whole numbers: m p k is the number at slot k of place p. -/
def iI (z : Int) : Int32 := Int32.ofInt z
theorem iI_add (a b : Int) : iI a + iI b = iI (a + b) := (Int32.ofInt_add a b).symm
theorem iI_sub (a b : Int) : iI a - iI b = iI (a - b) := (Int32.ofInt_sub a b).symm
theorem iI_mul (a b : Int) : iI a * iI b = iI (a * b) := (Int32.ofInt_mul a b).symm
theorem iI_toInt (x : Int32) : iI x.toInt = x := Int32.ofInt_toInt x
theorem iI_int {z : Int} (h1 : -2147483648 ≤ z) (h2 : z < 2147483648) : (iI z).toInt = z := Int32.toInt_ofInt_of_le h1 h2
theorem iI_lt {a b : Int} (h1 : -2147483648 ≤ a) (h2 : a < 2147483648) (h3 : -2147483648 ≤ b) (h4 : b < 2147483648) : iI a < iI b ↔ a < b := by
  rw [Int32.lt_iff_toInt_lt, iI_int h1 h2, iI_int h3 h4]
theorem iI_le {a b : Int} (h1 : -2147483648 ≤ a) (h2 : a < 2147483648) (h3 : -2147483648 ≤ b) (h4 : b < 2147483648) : iI a ≤ iI b ↔ a ≤ b := by
  rw [Int32.le_iff_toInt_le, iI_int h1 h2, iI_int h3 h4]
theorem iI_eq {a b : Int} (h1 : -2147483648 ≤ a) (h2 : a < 2147483648) (h3 : -2147483648 ≤ b) (h4 : b < 2147483648) : iI a = iI b ↔ a = b := by
  rw [← Int32.toInt_inj, iI_int h1 h2, iI_int h3 h4]
theorem iI_clamp {z : Int} (h1 : 0 ≤ z) (h2 : z < 2147483648) : (iI z).toNatClampNeg = z.toNat := by
  show (iI z).toInt.toNat = z.toNat
  rw [iI_int (by omega) h2]
theorem iI_nneg {z : Int} (h1 : 0 ≤ z) (h2 : z < 2147483648) : ¬ iI z < 0 := by
  rw [show (0 : Int32) = iI 0 from rfl, iI_lt (by omega) h2 (by omega) (by omega)]
  omega
/-- a memory's shape: kinds, and the references that never change -/
def stSK (b : Nat) : List (Nat × List (Option Nat)) := [(8, [some (b + 1), some (b + 6), some (b + 8), none, some (b + 21)]), (4, [none, none, none, none, none, some (b + 2), some (b + 3), some (b + 4), some (b + 5)]), (13, List.replicate 16 none), (13, List.replicate 16 none), (13, List.replicate 16 none), (13, List.replicate 16 none), (5, [some (b + 7), none]), (13, List.replicate 7 none), (14, [some (b + 9), some (b + 11), some (b + 13), some (b + 15), some (b + 17), some (b + 19)]), (5, [some (b + 10), none]), (13, List.replicate 7 none), (5, [some (b + 12), none]), (13, List.replicate 7 none), (5, [some (b + 14), none]), (13, List.replicate 7 none), (5, [some (b + 16), none]), (13, List.replicate 7 none), (5, [some (b + 18), none]), (13, List.replicate 7 none), (5, [some (b + 20), none]), (13, List.replicate 7 none), (2, [none, some (b + 22), some (b + 23), some (b + 24)]), (13, List.replicate 21 none), (13, List.replicate 21 none), (13, List.replicate 21 none)]
def SK : List (Nat × List (Option Nat)) := [(10, [some 1, some 26, some 228, some 230, some 255, some 258, some 260, some 265, some 282, none])] ++ (stSK 1 ++ ([(1, [some 27, none, none]), (15, [some 28, some 53, some 78, some 103, some 128, some 153, some 178, some 203])] ++ (stSK 28 ++ (stSK 53 ++ (stSK 78 ++ (stSK 103 ++ (stSK 128 ++ (stSK 153 ++ (stSK 178 ++ (stSK 203 ++ ([(9, [some 229, none, none, none, none, none]), (12, List.replicate 600 none)] ++ (stSK 230 ++ ([(7, [some 2, some 256]), (5, [some 257, none]), (13, List.replicate 7 none), (3, [some 1, some 2, some 259, none, none]), (13, List.replicate 8 none), (6, [some 2, some 255, some 258, some 261, some 263, none, none, none, none, none]), (5, [some 262, none]), (13, List.replicate 7 none), (5, [some 264, none]), (13, List.replicate 7 none)] ++ ([(0, [some 2, some 266, some 274, none]), (16, [some 267, some 268, some 269, some 270, some 271, some 272, some 273]), (13, List.replicate 8 none), (13, List.replicate 8 none), (13, List.replicate 8 none), (13, List.replicate 8 none), (13, List.replicate 8 none), (13, List.replicate 8 none), (13, List.replicate 8 none), (16, [some 275, some 276, some 277, some 278, some 279, some 280, some 281]), (13, List.replicate 8 none), (13, List.replicate 8 none), (13, List.replicate 8 none), (13, List.replicate 8 none), (13, List.replicate 8 none), (13, List.replicate 8 none), (13, List.replicate 8 none), (12, List.replicate 15 none)] ++ ([(11, [some 284, some 285, some 286, none, none, some 287, none, none, none, none, none, none, none, none, none, some 288, none, some 289, some 290, none, none, none, none, none, some 291, some 292, some 293, none]), (13, List.replicate 150 none), (13, List.replicate 150 none), (13, List.replicate 1200 none), (13, List.replicate 600 none), (13, List.replicate 8 none), (13, List.replicate 8 none), (13, List.replicate 8 none), (13, List.replicate 56 none), (13, List.replicate 56 none), (13, List.replicate 20 none)])))))))))))))))
def sl (f : Int → Int) : Int → List (Option Nat) → List Value
  | _, [] => []
  | k, some r :: l => .ref r :: sl f (k + 1) l
  | k, none :: l => .int (iI (f k)) :: sl f (k + 1) l
def memF (m : Nat → Int → Int) : Nat → List (Nat × List (Option Nat)) → List Ob
  | _, [] => []
  | p, q :: S => (q.1, sl (m p) 0 q.2) :: memF m (p + 1) S
abbrev Wl : Type := Int64 × UInt64
abbrev Mm : Type := Nat → Int → Int
def mem (w : Wl) (m : Mm) : List Ob := memF m 0 SK ++ [(17, [.long w.1]), (18, [.double w.2])]
def upd1 (f : Int → Int) (k v : Int) : Int → Int := fun j => if j = k then v else f j
def up (m : Mm) (p : Nat) (k v : Int) : Mm := fun p' k' => if p' = p ∧ k' = k then v else m p' k'
theorem sl_get (f : Int → Int) : ∀ (l : List (Option Nat)) (k : Int) (j : Nat), (sl f k l)[j]? = (l[j]?).map (fun o => match o with | some r => .ref r | none => .int (iI (f (k + j))))
  | [], k, j => by simp [sl]
  | some r :: l, k, 0 => by simp [sl]
  | none :: l, k, 0 => by simp [sl]
  | some r :: l, k, j + 1 => by
    rw [sl, List.getElem?_cons_succ, sl_get f l, List.getElem?_cons_succ, show k + 1 + (j : Int) = k + ((j + 1 : Nat) : Int) by omega]
  | none :: l, k, j + 1 => by
    rw [sl, List.getElem?_cons_succ, sl_get f l, List.getElem?_cons_succ, show k + 1 + (j : Int) = k + ((j + 1 : Nat) : Int) by omega]
theorem sl_len (f : Int → Int) : ∀ (l : List (Option Nat)) (k : Int), (sl f k l).length = l.length
  | [], k => rfl
  | some r :: l, k => by rw [sl, List.length_cons, sl_len f l, List.length_cons]
  | none :: l, k => by rw [sl, List.length_cons, sl_len f l, List.length_cons]
theorem sl_ext {f g : Int → Int} {l : List (Option Nat)} {k : Int} (h : ∀ j : Nat, l[j]? = some none → f (k + j) = g (k + j)) : sl f k l = sl g k l := by
  apply List.ext_getElem?
  intro j
  rw [sl_get, sl_get]
  cases hl : l[j]? with
  | none => rfl
  | some o =>
    cases o with
    | some r => rfl
    | none => simp [h j hl]
theorem sl_set {f : Int → Int} {l : List (Option Nat)} {j : Nat} {v : Int} (h : l[j]? = some none) : (sl f 0 l).set j (.int (iI v)) = sl (upd1 f j v) 0 l := by
  apply List.ext_getElem?
  intro i
  have hj : j < l.length := by
    rcases Nat.lt_or_ge j l.length with q | q
    · exact q
    · rw [List.getElem?_eq_none q] at h; cases h
  by_cases hi : i = j
  · subst hi
    rw [List.getElem?_set_self (by rw [sl_len]; exact hj), sl_get, h]
    simp [upd1]
  · rw [List.getElem?_set_ne (fun e => hi e.symm), sl_get, sl_get]
    cases l[i]? with
    | none => rfl
    | some o =>
      cases o with
      | some r => rfl
      | none =>
        have hn : ¬ (i : Int) = (j : Int) := by omega
        simp [upd1, hn]
theorem memF_get (m : Mm) : ∀ (S : List (Nat × List (Option Nat))) (p j : Nat), (memF m p S)[j]? = (S[j]?).map (fun q => (q.1, sl (m (p + j)) 0 q.2))
  | [], p, j => by simp [memF]
  | q :: S, p, 0 => by simp [memF]
  | q :: S, p, j + 1 => by
    rw [memF, List.getElem?_cons_succ, memF_get m S, List.getElem?_cons_succ, show p + 1 + j = p + (j + 1) by omega]
theorem memF_len (m : Mm) : ∀ (S : List (Nat × List (Option Nat))) (p : Nat), (memF m p S).length = S.length
  | [], p => rfl
  | q :: S, p => by rw [memF, List.length_cons, memF_len m S, List.length_cons]
theorem SK_len : SK.length = 294 := by decide +kernel
theorem mem_get {w : Wl} {m : Mm} {p kd : Nat} {l : List (Option Nat)} (h : SK[p]? = some (kd, l)) : (mem w m)[p]? = some (kd, sl (m p) 0 l) := by
  have hp : p < SK.length := (List.getElem?_eq_some_iff.mp h).1
  unfold mem
  rw [List.getElem?_append_left (by rw [memF_len]; exact hp), memF_get, h, Nat.zero_add]
  rfl
/-- memories that agree on all that is a number -/
theorem mem_ext {w : Wl} {m m' : Mm} (h : ∀ p kd l, SK[p]? = some (kd, l) → ∀ j : Nat, l[j]? = some none → m p j = m' p j) : mem w m = mem w m' := by
  unfold mem
  congr 1
  apply List.ext_getElem?
  intro p
  rw [memF_get, memF_get]
  cases hp : SK[p]? with
  | none => rfl
  | some q =>
    simp only [Option.map_some, Nat.zero_add]
    congr 2
    exact sl_ext fun j hj => by
      have := h p q.1 q.2 hp j hj
      simpa using this
theorem mem_set {w : Wl} {m : Mm} {p kd : Nat} {l : List (Option Nat)} (h : SK[p]? = some (kd, l)) (f : Int → Int) : (mem w m).set p (kd, sl f 0 l) = mem w (fun p' => if p' = p then f else m p') := by
  have hp : p < SK.length := (List.getElem?_eq_some_iff.mp h).1
  unfold mem
  rw [List.set_append_left _ _ (by rw [memF_len]; exact hp)]
  congr 1
  apply List.ext_getElem?
  intro q
  by_cases hq : q = p
  · subst hq
    rw [List.getElem?_set_self (by rw [memF_len]; exact hp), memF_get, h]
    simp
  · rw [List.getElem?_set_ne (fun e => hq e.symm), memF_get, memF_get]
    cases SK[q]? with
    | none => rfl
    | some x => simp [hq]
theorem up_eq (m : Mm) (p : Nat) (k v : Int) : (fun p' => if p' = p then upd1 (m p) k v else m p') = up m p k v := by
  funext p' k'
  unfold up upd1
  by_cases hp : p' = p
  · subst hp; simp
  · simp [hp]
section ME
variable {w : Wl} {m : Mm} {p kd ci k : Nat} {l : List (Option Nat)}
theorem hasO_mem (h : SK[p]? = some (ci, l)) : hasO (mem w m) p ci = some () := by
  unfold hasO; rw [mem_get h]; simp
theorem gI_mem (h : SK[p]? = some (ci, l)) (hk : l[k]? = some none) : gI (mem w m) p ci k = some (iI (m p k)) := by
  unfold gI oGet; rw [mem_get h]; simp [sl_get, hk]
theorem gP_mem {r : Nat} (h : SK[p]? = some (ci, l)) (hk : l[k]? = some (some r)) : gP (mem w m) p ci k = some r := by
  unfold gP oGet; rw [mem_get h]; simp [sl_get, hk]
theorem pF_mem {v : Int} (h : SK[p]? = some (ci, l)) (hk : l[k]? = some none) : pF (mem w m) p ci k (.int (iI v)) = some (mem w (up m p k v)) := by
  have hl : k < l.length := (List.getElem?_eq_some_iff.mp hk).1
  unfold pF
  rw [mem_get h]
  simp only [sl_len]
  rw [if_pos ⟨trivial, hl⟩, sl_set hk, mem_set h, up_eq]
theorem aLen_mem {z : Int} (h : SK[p]? = some (kd, l)) (hz : (l.length : Int) = z) : aLen (mem w m) p kd = some (iI z) := by
  unfold aLen; rw [mem_get h]; simp only [sl_len, if_pos]; rw [← hz]; rfl
theorem rep_at {n j : Nat} (h : j < n) : (List.replicate n (none : Option Nat))[j]? = some none := by simp [h]
theorem aI_mem {n : Nat} {z : Int} (h : SK[p]? = some (kd, List.replicate n none)) (h0 : 0 ≤ z) (h1 : z < n) (h2 : (n : Int) ≤ 2147483648) : aI (mem w m) p kd (iI z) = some (iI (m p z)) := by
  unfold aI aGet
  rw [mem_get h]
  simp only []
  rw [if_pos ⟨trivial, iI_nneg h0 (by omega)⟩, iI_clamp h0 (by omega), sl_get, rep_at (by omega)]
  simp only [Option.map_some]
  rw [show (0 : Int) + (z.toNat : Int) = z by omega]
theorem aP_mem {z : Int} {r : Nat} (h : SK[p]? = some (kd, l)) (h0 : 0 ≤ z) (h2 : z < 2147483648) (hk : l[z.toNat]? = some (some r)) : aP (mem w m) p kd (iI z) = some r := by
  unfold aP aGet
  rw [mem_get h]
  simp only []
  rw [if_pos ⟨trivial, iI_nneg h0 h2⟩, iI_clamp h0 h2, sl_get, hk]
  rfl
theorem aSet_mem {n : Nat} {z v : Int} (h : SK[p]? = some (kd, List.replicate n none)) (h0 : 0 ≤ z) (h1 : z < n) (h2 : (n : Int) ≤ 2147483648) : aSet (mem w m) p kd (iI z) (.int (iI v)) = some (mem w (up m p z v)) := by
  unfold aSet
  rw [mem_get h]
  simp only [sl_len, List.length_replicate]
  rw [if_pos ⟨trivial, iI_nneg h0 (by omega), by rw [iI_clamp h0 (by omega)]; omega⟩, iI_clamp h0 (by omega), sl_set (rep_at (by omega)), mem_set h, show ((z.toNat : Nat) : Int) = z by omega, up_eq]
def cpm (m : Mm) (r : Nat) (sp : Int) (r' : Nat) (dp n : Int) : Mm := fun p k => if p = r' ∧ dp ≤ k ∧ k < dp + n then m r (sp + (k - dp)) else m p k
theorem aCopy_mem {r r' a b : Nat} {sp dp n : Int} (h : SK[r]? = some (13, List.replicate a none)) (h' : SK[r']? = some (13, List.replicate b none)) (h0 : 0 ≤ sp) (h1 : 0 ≤ dp) (h2 : 0 ≤ n) (h3 : sp + n ≤ a) (h4 : dp + n ≤ b) (h5 : (a : Int) < 2147483648) (h6 : (b : Int) < 2147483648) : aCopy (mem w m) r (iI sp) r' (iI dp) (iI n) = some (mem w (cpm m r sp r' dp n)) := by
  unfold aCopy
  rw [mem_get h, mem_get h']
  simp only [sl_len, List.length_replicate]
  rw [iI_clamp h0 (by omega), iI_clamp h1 (by omega), iI_clamp h2 (by omega)]
  rw [if_pos ⟨trivial, trivial, iI_nneg h0 (by omega), iI_nneg h1 (by omega), iI_nneg h2 (by omega), by omega, by omega⟩]
  have e : cpyL (sl (m r) 0 (List.replicate a none)) (sl (m r') 0 (List.replicate b none)) sp.toNat dp.toNat n.toNat = sl (fun k => if dp ≤ k ∧ k < dp + n then m r (sp + (k - dp)) else m r' k) 0 (List.replicate b none) := by
    apply List.ext_getElem?
    intro i
    unfold cpyL
    rw [sl_get]
    by_cases hb : i < b
    · rw [rep_at hb]
      simp only [Option.map_some]
      by_cases c1 : i < dp.toNat
      · rw [List.getElem?_append_left (by rw [List.length_take, sl_len, List.length_replicate]; omega), List.getElem?_take, if_pos c1, sl_get, rep_at hb, if_neg (by omega)]
        rfl
      · rw [List.getElem?_append_right (by rw [List.length_take, sl_len, List.length_replicate]; omega), List.length_take, sl_len, List.length_replicate, Nat.min_eq_left (by omega)]
        by_cases c2 : i < dp.toNat + n.toNat
        · rw [List.getElem?_append_left (by rw [List.length_take, List.length_drop, sl_len, List.length_replicate]; omega), List.getElem?_take, if_pos (by omega), List.getElem?_drop, sl_get, rep_at (by omega), if_pos (by omega)]
          simp only [Option.map_some]
          rw [show (0 : Int) + ((sp.toNat + (i - dp.toNat) : Nat) : Int) = sp + ((0 : Int) + (i : Int) - dp) by omega]
        · rw [List.getElem?_append_right (by rw [List.length_take, List.length_drop, sl_len, List.length_replicate]; omega), List.length_take, List.length_drop, sl_len, List.length_replicate, Nat.min_eq_left (by omega), List.getElem?_drop, sl_get, rep_at (by omega), if_neg (by omega)]
          simp only [Option.map_some]
          rw [show (0 : Int) + ((dp.toNat + n.toNat + (i - dp.toNat - n.toNat) : Nat) : Int) = 0 + (i : Int) by omega]
    · rw [List.getElem?_eq_none (by simp [sl_len]; omega), List.getElem?_eq_none (by simp [sl_len]; omega)]
      rfl
  rw [e, mem_set h']
  congr 2
  funext p' k'
  unfold cpm
  by_cases hp : p' = r'
  · subst hp; simp
  · simp [hp]
end ME
theorem bd2_some {α β : Type} (a : α) (M : List Ob) (f : α → List Ob → Option β) : bd2 (some (a, M)) f = f a M := rfl
theorem bdX_ok {α β : Type} (a : α) (M : List Ob) (f : α → List Ob → Option (Except String β × List Ob)) : bdX (some (.ok a, M)) f = f a M := rfl
theorem bdX_er {α β : Type} (e : String) (M : List Ob) (f : α → List Ob → Option (Except String β × List Ob)) : bdX (some (.error e, M)) f = some (.error e, M) := rfl
theorem nm_eq {α β : Type} (a : α) (f : α → Option β) : nm a f = f a := rfl
