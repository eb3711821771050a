/-! what the small methods answer -/
def bitI (x : Int32) : Int32 := if x < 1 then 0 else if 14 < x then 0 else (1 : Int32) <<< ((14 - x) &&& 31)
def bitN (j : Nat) : Nat := if 1 ≤ j ∧ j ≤ 14 then 2 ^ (14 - j) else 0
def atf (n : Nat) (f : Nat → Int32) (i : Int32) : Int32 := if i < 0 then 0 else if nI n ≤ i then 0 else f i.toNatClampNeg
def putf (n : Nat) (f : Nat → Int32) (i v : Int32) : Nat → Int32 := if i < 0 then f else if nI n ≤ i then f else upd f i.toNatClampNeg v
def bitOfI (x : Int32) : Int32 := bitI x ||| bitI (-x)
def holdsB (op : Int32) (a b : Bool) : Bool := if op = 0 then !a || b else if op = 1 then !a || !b else if op = 2 then a || b else a == b
def holdsInB (v op a b : Int32) : Bool := holdsB op (decide (v &&& bitOfI a = bitI a)) (decide (v &&& bitOfI b = bitI b))
def alwaysB (op a b : Int32) : Bool := holdsInB 0 op a b && (holdsInB (bitOfI a) op a b && (holdsInB (bitOfI b) op a b && holdsInB (bitOfI a ||| bitOfI b) op a b))
def hasB (z x : Int32) : Bool := decide (1 ≤ x ∧ x ≤ z)
def hasSignedB (z x : Int32) : Bool := if 0 ≤ x then hasB z x else hasB z (-x)
def takesB (z x : Int32) : Bool := if z = 0 then decide (x = 0) else hasB z x
def mayInB (pb : Nat → Int32) (v : Int32) (f : Nat) : Bool := if f = 1 then true else decide (v &&& pb f ≠ 0)
def mayOutB (kd pb : Nat → Int32) (v : Int32) (f : Nat) : Bool := if f = 1 then false else if kd f ≠ 0 then true else decide (v &&& pb f = 0)
def fitsB (v mu mn : Int32) : Bool := decide (v &&& mu = mu ∧ v &&& mn = 0)
def bcI (x : Int32) : Int32 :=
  let a := x - ((x.toUInt32 >>> ((1 : Int32).toUInt32 &&& Int32.toUInt32 31)).toInt32 &&& 1431655765)
  let b := (a &&& 858993459) + ((a.toUInt32 >>> ((2 : Int32).toUInt32 &&& Int32.toUInt32 31)).toInt32 &&& 858993459)
  let c := (b + (b.toUInt32 >>> ((4 : Int32).toUInt32 &&& Int32.toUInt32 31)).toInt32) &&& 252645135
  let d := c + (c.toUInt32 >>> ((8 : Int32).toUInt32 &&& Int32.toUInt32 31)).toInt32
  (d + (d.toUInt32 >>> ((16 : Int32).toUInt32 &&& Int32.toUInt32 31)).toInt32) &&& 63
/-! numbers -/
theorem i_lt1 {x : Int32} : x < 1 ↔ ¬ 1 ≤ x := Int32.not_le.symm
theorem i_nlt {x y : Int32} : ¬ x < y ↔ y ≤ x := Int32.not_lt
theorem i_nle {x y : Int32} : ¬ x ≤ y ↔ y < x := Int32.not_le
theorem i_toInt1 : (1 : Int32).toInt = 1 := rfl
theorem atf_nI {n k : Nat} {f : Nat → Int32} (hk : k < n) (hn : n < 2 ^ 31) : atf n f (nI k) = f k := by
  have hk31 : k < 2 ^ 31 := by omega
  unfold atf
  rw [if_neg (nI_pos hk31), if_neg (nI_ge hk hn), nI_clamp hk31]
theorem putf_nI {n k : Nat} {f : Nat → Int32} {v : Int32} (hk : k < n) (hn : n < 2 ^ 31) : putf n f (nI k) v = upd f k v := by
  have hk31 : k < 2 ^ 31 := by omega
  unfold putf
  rw [if_neg (nI_pos hk31), if_neg (nI_ge hk hn), nI_clamp hk31]
theorem hasB_iff {z x : Int32} : hasB z x = true ↔ 1 ≤ x ∧ x ≤ z := by simp [hasB]
theorem bI_and {P Q : Bool} (hp : P = true) : bI (P && Q) = bI Q := by rw [hp]; rfl
theorem bI_andf {P Q : Bool} (hp : P = false) : bI (P && Q) = 0 := by rw [hp]; rfl
theorem in_of {x : Int32} {n : Nat} (hn : n < 2 ^ 31) (h0 : ¬ x < 0) (h1 : ¬ nI n ≤ x) : vp_in x n := by
  obtain ⟨j, hj, rfl⟩ := nI_of h0
  refine vp_in_nI ?_ hn
  rcases Nat.lt_or_ge j n with q | q
  · exact q
  · exact absurd (nI_le q hj) h1
theorem nI_eq1 {f : Nat} (h : f < 2 ^ 31) : nI f = 1 ↔ f = 1 := nI_eq (b := 1) h (by decide)
