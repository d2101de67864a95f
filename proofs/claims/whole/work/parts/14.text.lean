/-! the four texts: their fields, their bytes -/
section XTX
variable {G : GT} {t t' : Mt} {hh : List (Nat × Nat × Nat × Nat)} {pc pc' : Nat} {L L' : List (Option Value)} {st : List Value} {M M' : List Ob} {k n : Nat} {o : Out}
theorem X.getV {idx j : Nat} (d : decode (mB t) pc = .ok (.getfield idx, 3)) (hp : pc + 3 = pc') (hl : Cond.fieldLink (mN t).cls idx "java/lang/String" "value" "[B" ∈ TBg) (hj : j < 4) (kk : X G t hh pc' L (.ref (2000000 + j) :: st) M k n o) : X G t hh pc L (.ref (1000000 + j) :: st) M k n o := by
  subst hp
  intro p e s m args below meth c A H locs ls hC hH hL
  have hts := hC.2.2.2.2.2.2.1
  have hS := (hC.2.2.2.2.2.2.2.2.2.1.2.2.1.1).1 j hj
  exact vk_getf hC.1 hC.2.1 hS.2.2.1 hH.2.2.1 hC.2.2.2.2.2.1 (hts _ hl) (fun x h => h) d (kk p e s m args below meth c A H locs ls hC hH hL)
theorem X.getC {idx j : Nat} (d : decode (mB t) pc = .ok (.getfield idx, 3)) (hp : pc + 3 = pc') (hl : Cond.fieldLink (mN t).cls idx "java/lang/String" "coder" "B" ∈ TBg) (hj : j < 4) (kk : X G t hh pc' L (.int 0 :: st) M k n o) : X G t hh pc L (.ref (1000000 + j) :: st) M k n o := by
  subst hp
  intro p e s m args below meth c A H locs ls hC hH hL
  have hts := hC.2.2.2.2.2.2.1
  have hS := (hC.2.2.2.2.2.2.2.2.2.1.2.2.1.1).1 j hj
  exact vk_getf hC.1 hC.2.1 hS.2.1 hH.2.2.1 hC.2.2.2.2.2.1 (hts _ hl) (fun x h => h) d (kk p e s m args below meth c A H locs ls hC hH hL)
theorem X.getsZ {idx : Nat} (d : decode (mB t) pc = .ok (.getstatic idx, 3)) (hp : pc + 3 = pc') (hl : Cond.fieldLink (mN t).cls idx "java/lang/String" "COMPACT_STRINGS" "Z" ∈ TBg) (kk : X G t hh pc' L (.int 1 :: st) M k n o) : X G t hh pc L st M k n o := by
  subst hp
  intro p e s m args below meth c A H locs ls hC hH hL
  have hts := hC.2.2.2.2.2.2.1
  exact va_gets hC.1 hC.2.1 hC.2.2.2.2.2.2.2.2.2.1.2.2.2.1.1 hH.2.2.1 hC.2.2.2.2.2.1 (hts _ hl) (fun x h => h) d (kk p e s m args below meth c A H locs ls hC hH hL)
theorem X.getsF {idx : Nat} (d : decode (mB t) pc = .ok (.getstatic idx, 3)) (hp : pc + 3 = pc') (hl : Cond.fieldLink (mN t).cls idx "jdk/internal/util/Preconditions" "SIOOBE_FORMATTER" "Ljava/util/function/BiFunction;" ∈ TBg) (kk : ∀ v : Value, v.category = 1 → X G t hh pc' L (v :: st) M k n o) : X G t hh pc L st M k n o := by
  subst hp
  intro p e s m args below meth c A H locs ls hC hH hL
  have hts := hC.2.2.2.2.2.2.1
  rcases hC.2.2.2.2.2.2.2.2.2.1.2.2.1.2 with z | z
  · exact va_gets hC.1 hC.2.1 z hH.2.2.1 hC.2.2.2.2.2.1 (hts _ hl) (fun x h => h) d (kk .null rfl p e s m args below meth c A H locs ls hC hH hL)
  · exact va_gets hC.1 hC.2.1 z hH.2.2.1 hC.2.2.2.2.2.1 (hts _ hl) (fun x h => h) d (kk (.ref 2500000) rfl p e s m args below meth c A H locs ls hC hH hL)
theorem X.tlen {j : Nat} (d : decode (mB t) pc = .ok (.arraylength, 1)) (hp : pc + 1 = pc') (hj : j < 4) (kk : X G t hh pc' L (.int (Int32.ofNat (lensT.getD j 0)) :: st) M k n o) : X G t hh pc L (.ref (2000000 + j) :: st) M k n o := by
  subst hp
  intro p e s m args below meth c A H locs ls hC hH hL
  have hS := (hC.2.2.2.2.2.2.2.2.2.1.2.2.1.1).1 j hj
  exact va_tlen hC.1 hC.2.1 hS.2.2.2 hH.2.2.1 rfl d (kk p e s m args below meth c A H locs ls hC hH hL)
theorem X.tbld {j : Nat} {i : Int32} (d : decode (mB t) pc = .ok (.baload, 1)) (hp : pc + 1 = pc') (hj : j < 4) (hi : vp_in i (lensT.getD j 0)) (kk : X G t hh pc' L (.int ((bytsT.getD j []).getD i.toNatClampNeg 0) :: st) M k n o) : X G t hh pc L (.int i :: .ref (2000000 + j) :: st) M k n o := by
  subst hp
  intro p e s m args below meth c A H locs ls hC hH hL
  have hS := (hC.2.2.2.2.2.2.2.2.2.1.2.2.1.1).1 j hj
  exact va_tb hC.1 hC.2.1 hS.2.2.2 hH.2.2.1 hi rfl d (kk p e s m args below meth c A H locs ls hC hH hL)
theorem X.i2c {x v : Int32} (d : decode (mB t) pc = .ok (.i2c, 1)) (hp : pc + 1 = pc') (hv : (x.toUInt32 % 65536).toInt32 = v) (kk : X G t hh pc' L (.int v :: st) M k n o) : X G t hh pc L (.int x :: st) M k n o := by
  subst hp; exact X.pure (fun p e s m args below meth c H locs ls Q hx hb _ _ h => lv_i2c hx hb d hv h) kk
end XTX
