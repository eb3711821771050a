/-- how many bits the JDK's count finds: all numbers below 2 ^ 14, one by one -/
def bcOk (m : Nat) : Bool := bcI (nI m) == nI (cntU (fun k => m.testBit (14 - k)) 14)
def bcAll : Nat → Nat → Bool
  | 0, _ => true
  | k + 1, m => bcOk m && bcAll k (m + 1)
theorem bcAll_get : ∀ (k m : Nat), bcAll k m = true → ∀ x, m ≤ x → x < m + k → bcOk x = true
  | 0, m, _, x, h1, h2 => absurd h2 (by omega)
  | k + 1, m, h, x, h1, h2 => by
    have h : (bcOk m && bcAll k (m + 1)) = true := h
    rw [Bool.and_eq_true] at h
    by_cases e : x = m
    · rw [e]; exact h.1
    · exact bcAll_get k (m + 1) h.2 x (by omega) (by omega)
theorem bc_0 : bcAll 1024 0 = true := by decide +kernel
theorem bc_1 : bcAll 1024 1024 = true := by decide +kernel
theorem bc_2 : bcAll 1024 2048 = true := by decide +kernel
theorem bc_3 : bcAll 1024 3072 = true := by decide +kernel
theorem bc_4 : bcAll 1024 4096 = true := by decide +kernel
theorem bc_5 : bcAll 1024 5120 = true := by decide +kernel
theorem bc_6 : bcAll 1024 6144 = true := by decide +kernel
theorem bc_7 : bcAll 1024 7168 = true := by decide +kernel
theorem bc_8 : bcAll 1024 8192 = true := by decide +kernel
theorem bc_9 : bcAll 1024 9216 = true := by decide +kernel
theorem bc_10 : bcAll 1024 10240 = true := by decide +kernel
theorem bc_11 : bcAll 1024 11264 = true := by decide +kernel
theorem bc_12 : bcAll 1024 12288 = true := by decide +kernel
theorem bc_13 : bcAll 1024 13312 = true := by decide +kernel
theorem bc_14 : bcAll 1024 14336 = true := by decide +kernel
theorem bc_15 : bcAll 1024 15360 = true := by decide +kernel
theorem bc_nat {m : Nat} (h : m < 16384) : bcI (nI m) = nI (cntU (fun k => m.testBit (14 - k)) 14) := by
  have key : bcOk m = true := by
    rcases (show m / 1024 = 0 ∨ m / 1024 = 1 ∨ m / 1024 = 2 ∨ m / 1024 = 3 ∨ m / 1024 = 4 ∨ m / 1024 = 5 ∨ m / 1024 = 6 ∨ m / 1024 = 7 ∨ m / 1024 = 8 ∨ m / 1024 = 9 ∨ m / 1024 = 10 ∨ m / 1024 = 11 ∨ m / 1024 = 12 ∨ m / 1024 = 13 ∨ m / 1024 = 14 ∨ m / 1024 = 15 by omega) with h0 | h0 | h0 | h0 | h0 | h0 | h0 | h0 | h0 | h0 | h0 | h0 | h0 | h0 | h0 | h0
    · exact bcAll_get 1024 0 bc_0 m (by omega) (by omega)
    · exact bcAll_get 1024 1024 bc_1 m (by omega) (by omega)
    · exact bcAll_get 1024 2048 bc_2 m (by omega) (by omega)
    · exact bcAll_get 1024 3072 bc_3 m (by omega) (by omega)
    · exact bcAll_get 1024 4096 bc_4 m (by omega) (by omega)
    · exact bcAll_get 1024 5120 bc_5 m (by omega) (by omega)
    · exact bcAll_get 1024 6144 bc_6 m (by omega) (by omega)
    · exact bcAll_get 1024 7168 bc_7 m (by omega) (by omega)
    · exact bcAll_get 1024 8192 bc_8 m (by omega) (by omega)
    · exact bcAll_get 1024 9216 bc_9 m (by omega) (by omega)
    · exact bcAll_get 1024 10240 bc_10 m (by omega) (by omega)
    · exact bcAll_get 1024 11264 bc_11 m (by omega) (by omega)
    · exact bcAll_get 1024 12288 bc_12 m (by omega) (by omega)
    · exact bcAll_get 1024 13312 bc_13 m (by omega) (by omega)
    · exact bcAll_get 1024 14336 bc_14 m (by omega) (by omega)
    · exact bcAll_get 1024 15360 bc_15 m (by omega) (by omega)
  exact eq_of_beq key
