/-! the JDK's count of bits, on 16 bits -/
def bcI (a0 : Int32) : Int32 :=
  let x1 := (a0 - ((((a0 : Int32).toUInt32 >>> ((1 : Int32).toUInt32 &&& Int32.toUInt32 31)).toInt32) &&& 1431655765))
  let x3 := ((x1 &&& 858993459) + ((((x1 : Int32).toUInt32 >>> ((2 : Int32).toUInt32 &&& Int32.toUInt32 31)).toInt32) &&& 858993459))
  let x5 := ((x3 + (((x3 : Int32).toUInt32 >>> ((4 : Int32).toUInt32 &&& Int32.toUInt32 31)).toInt32)) &&& 252645135)
  let x7 := (x5 + (((x5 : Int32).toUInt32 >>> ((8 : Int32).toUInt32 &&& Int32.toUInt32 31)).toInt32))
  let x9 := (x7 + (((x7 : Int32).toUInt32 >>> ((16 : Int32).toUInt32 &&& Int32.toUInt32 31)).toInt32))
  x9 &&& 63
def pcR : Nat → Nat → Nat
  | 0, _ => 0
  | k + 1, n => n % 2 + pcR k (n / 2)
set_option maxHeartbeats 4000000 in
theorem bc_0 : ∀ h : Nat, h < 8 → ∀ l : Nat, l < 1024 → bcI (iI ((0 + (1024 * h + l) : Nat) : Int)) = iI ((pcR 16 (0 + (1024 * h + l)) : Nat) : Int) := by decide +kernel
set_option maxHeartbeats 4000000 in
theorem bc_1 : ∀ h : Nat, h < 8 → ∀ l : Nat, l < 1024 → bcI (iI ((8192 + (1024 * h + l) : Nat) : Int)) = iI ((pcR 16 (8192 + (1024 * h + l)) : Nat) : Int) := by decide +kernel
set_option maxHeartbeats 4000000 in
theorem bc_2 : ∀ h : Nat, h < 8 → ∀ l : Nat, l < 1024 → bcI (iI ((16384 + (1024 * h + l) : Nat) : Int)) = iI ((pcR 16 (16384 + (1024 * h + l)) : Nat) : Int) := by decide +kernel
set_option maxHeartbeats 4000000 in
theorem bc_3 : ∀ h : Nat, h < 8 → ∀ l : Nat, l < 1024 → bcI (iI ((24576 + (1024 * h + l) : Nat) : Int)) = iI ((pcR 16 (24576 + (1024 * h + l)) : Nat) : Int) := by decide +kernel
set_option maxHeartbeats 4000000 in
theorem bc_4 : ∀ h : Nat, h < 8 → ∀ l : Nat, l < 1024 → bcI (iI ((32768 + (1024 * h + l) : Nat) : Int)) = iI ((pcR 16 (32768 + (1024 * h + l)) : Nat) : Int) := by decide +kernel
set_option maxHeartbeats 4000000 in
theorem bc_5 : ∀ h : Nat, h < 8 → ∀ l : Nat, l < 1024 → bcI (iI ((40960 + (1024 * h + l) : Nat) : Int)) = iI ((pcR 16 (40960 + (1024 * h + l)) : Nat) : Int) := by decide +kernel
set_option maxHeartbeats 4000000 in
theorem bc_6 : ∀ h : Nat, h < 8 → ∀ l : Nat, l < 1024 → bcI (iI ((49152 + (1024 * h + l) : Nat) : Int)) = iI ((pcR 16 (49152 + (1024 * h + l)) : Nat) : Int) := by decide +kernel
set_option maxHeartbeats 4000000 in
theorem bc_7 : ∀ h : Nat, h < 8 → ∀ l : Nat, l < 1024 → bcI (iI ((57344 + (1024 * h + l) : Nat) : Int)) = iI ((pcR 16 (57344 + (1024 * h + l)) : Nat) : Int) := by decide +kernel
theorem pcR_eq : ∀ k n, pcR k n = pcN k n := by
  intro k
  induction k with
  | zero => intro n; rfl
  | succ k ih => intro n; rw [pcR, pcN_succ, ih]
theorem bc_at {n : Nat} (h1 : n < 65536) : bcI (iI (n : Int)) = iI ((pcN 16 n : Nat) : Int) := by
  rw [← pcR_eq]
  have hh : n % 8192 / 1024 < 8 := by omega
  have hl : n % 8192 % 1024 < 1024 := by omega
  have e : ∀ k, n / 8192 = k → 8192 * k + (1024 * (n % 8192 / 1024) + n % 8192 % 1024) = n := fun k hk => by omega
  have hk : n / 8192 = 0 ∨ n / 8192 = 1 ∨ n / 8192 = 2 ∨ n / 8192 = 3 ∨ n / 8192 = 4 ∨ n / 8192 = 5 ∨ n / 8192 = 6 ∨ n / 8192 = 7 := by omega
  rcases hk with h | h | h | h | h | h | h | h
  · have := bc_0 _ hh _ hl
    rw [show 0 + (1024 * (n % 8192 / 1024) + n % 8192 % 1024) = n from e 0 h] at this
    exact this
  · have := bc_1 _ hh _ hl
    rw [show 8192 + (1024 * (n % 8192 / 1024) + n % 8192 % 1024) = n from e 1 h] at this
    exact this
  · have := bc_2 _ hh _ hl
    rw [show 16384 + (1024 * (n % 8192 / 1024) + n % 8192 % 1024) = n from e 2 h] at this
    exact this
  · have := bc_3 _ hh _ hl
    rw [show 24576 + (1024 * (n % 8192 / 1024) + n % 8192 % 1024) = n from e 3 h] at this
    exact this
  · have := bc_4 _ hh _ hl
    rw [show 32768 + (1024 * (n % 8192 / 1024) + n % 8192 % 1024) = n from e 4 h] at this
    exact this
  · have := bc_5 _ hh _ hl
    rw [show 40960 + (1024 * (n % 8192 / 1024) + n % 8192 % 1024) = n from e 5 h] at this
    exact this
  · have := bc_6 _ hh _ hl
    rw [show 49152 + (1024 * (n % 8192 / 1024) + n % 8192 % 1024) = n from e 6 h] at this
    exact this
  · have := bc_7 _ hh _ hl
    rw [show 57344 + (1024 * (n % 8192 / 1024) + n % 8192 % 1024) = n from e 7 h] at this
    exact this
theorem bitCount_eq {fu : Nat} {n : Nat} {w : Wl} {m : Mm} (h1 : n < 65536) : f_J6_bitCount_0f7a4 fu (iI (n : Int)) (mem w m) = some (iI ((pcN 16 n : Nat) : Int), mem w m) := by
  have e : f_J6_bitCount_0f7a4 fu (iI (n : Int)) (mem w m) = some (bcI (iI (n : Int)), mem w m) := rfl
  rw [e, bc_at h1]
