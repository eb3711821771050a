/-! subsets as numbers: in the reference feature f is bit n - f of a number below 2 ^ n, in the class bit 14 - f -/
def inN (n s f : Nat) : Bool := s.testBit (n - f)
def cvN (n s : Nat) : Int32 := nI (s * 2 ^ (14 - n))
theorem bt_nI (s : Nat) {i : Nat} (hi : i < 32) : bt (nI s) i = s.testBit i := by
  unfold bt
  show (BitVec.ofNat 32 s).getLsbD i = _
  rw [BitVec.getLsbD_ofNat, decide_eq_true hi, Bool.true_and]
theorem bitI_nat : ∀ f, f < 15 → 1 ≤ f → bitI (nI f) = nI (2 ^ (14 - f)) := by decide +kernel
theorem bitI_neg : ∀ f, f < 15 → bitI (-nI f) = 0 := by decide +kernel
theorem bt_bit {f i : Nat} (h1 : 1 ≤ f) (h2 : f ≤ 14) (hi : i < 32) : bt (bitI (nI f)) i = decide (14 - f = i) := by
  rw [bitI_nat f (by omega) h1, bt_nI _ hi, Nat.testBit_two_pow]
theorem and_bit0 {v : Int32} {f : Nat} (h1 : 1 ≤ f) (h2 : f ≤ 14) : v &&& bitI (nI f) = 0 ↔ bt v (14 - f) = false := by
  constructor
  · intro h
    have h3 : bt (v &&& bitI (nI f)) (14 - f) = bt 0 (14 - f) := by rw [h]
    rw [b_and, bt_bit h1 h2 (by omega), b_0, decide_eq_true rfl, Bool.and_true] at h3
    exact h3
  · intro h
    refine b_ext (fun i hi => ?_)
    rw [b_and, bt_bit h1 h2 hi, b_0]
    by_cases e : 14 - f = i
    · subst e; rw [h]; rfl
    · rw [decide_eq_false e, Bool.and_false]
theorem and_bit1 {v : Int32} {f : Nat} (h1 : 1 ≤ f) (h2 : f ≤ 14) : v &&& bitI (nI f) = bitI (nI f) ↔ bt v (14 - f) = true := by
  constructor
  · intro h
    have h3 : bt (v &&& bitI (nI f)) (14 - f) = bt (bitI (nI f)) (14 - f) := by rw [h]
    rw [b_and, bt_bit h1 h2 (by omega), decide_eq_true rfl, Bool.and_true] at h3
    exact h3
  · intro h
    refine b_ext (fun i hi => ?_)
    rw [b_and, bt_bit h1 h2 hi]
    by_cases e : 14 - f = i
    · subst e; rw [h]; rfl
    · rw [decide_eq_false e, Bool.and_false]
theorem bt_cv {n s i : Nat} (hi : i < 32) : bt (cvN n s) i = (decide (14 - n ≤ i) && s.testBit (i - (14 - n))) := by
  unfold cvN
  rw [bt_nI _ hi, Nat.testBit_mul_two_pow]
theorem cv_in {n s f : Nat} (hn : n ≤ 14) (h1 : 1 ≤ f) (hf : f ≤ n) : bt (cvN n s) (14 - f) = inN n s f := by
  rw [bt_cv (by omega), decide_eq_true (by omega), Bool.true_and]
  unfold inN
  rw [show 14 - f - (14 - n) = n - f by omega]
theorem cv_out {n s f : Nat} (hn : n ≤ 14) (hf : n < f) (h14 : f ≤ 14) : bt (cvN n s) (14 - f) = false := by
  rw [bt_cv (by omega), decide_eq_false (by omega), Bool.false_and]
theorem b_1 (i : Nat) (hi : i < 32) : bt 1 i = decide (0 = i) := by
  have := bt_nI 1 hi
  rw [show nI 1 = 1 from rfl] at this
  rw [this]
  rw [show (1 : Nat) = 2 ^ 0 from rfl, Nat.testBit_two_pow]
theorem and_one {x : Int32} : x &&& 1 = 1 ↔ bt x 0 = true := by
  constructor
  · intro h
    have h3 : bt (x &&& 1) 0 = bt 1 0 := by rw [h]
    rw [b_and, b_1 0 (by decide)] at h3
    simpa using h3
  · intro h
    refine b_ext (fun i hi => ?_)
    rw [b_and, b_1 i hi]
    by_cases e : 0 = i
    · subst e; rw [h]; rfl
    · rw [decide_eq_false e, Bool.and_false]
theorem shr_one {s j : Nat} (hs : s < 2 ^ 31) (hj : j < 31) : (nI s >>> (nI j &&& 31)) &&& 1 = 1 ↔ s.testBit j = true := by
  rw [and_one, b_sshr j (by omega) _ (by decide), if_pos (by omega), bt_nI _ (by omega), Nat.add_zero]
theorem isIn_nat {n s f : Nat} (hn : n ≤ 14) (hs : s < 2 ^ 31) (hf : f ≤ n) : isInB (nI n) (nI s) (nI f) = inN n s f := by
  unfold isInB inN
  rw [nI_subn hf]
  by_cases h : s.testBit (n - f) = true
  · rw [h]; exact decide_eq_true ((shr_one hs (by omega)).mpr h)
  · rw [Bool.eq_false_iff.mpr h]; exact decide_eq_false (fun z => h ((shr_one hs (by omega)).mp z))
theorem inN_s {j t f : Nat} (b : Bool) (hf : f ≤ j) : inN (j + 1) (2 * t + b.toNat) f = inN j t f := by
  unfold inN
  rw [show j + 1 - f = (j - f) + 1 by omega, Nat.testBit_succ]
  congr 1
  cases b <;> simp <;> omega
theorem inN_top {j t : Nat} (b : Bool) : inN (j + 1) (2 * t + b.toNat) (j + 1) = b := by
  unfold inN
  rw [Nat.sub_self, Nat.testBit_zero]
  cases b <;> simp <;> omega
/-! the tree's condition -/
def treeT (par : Nat → Nat) (ki : Nat → Int32) (j t f : Nat) : Bool := if f = 1 then inN j t 1 else (inN j t (par f) || !inN j t f) && (decide (ki f ≠ 0) || !inN j t (par f) || inN j t f)
def treeL (par : Nat → Nat) (ki : Nat → Int32) (j : Nat) : List Nat := (List.range (2 ^ j)).reverse.filter (fun t => allU (treeT par ki j t) j)
theorem range_dbl : ∀ m, (List.range (2 * m)).reverse = (List.range m).reverse.flatMap (fun t => [2 * t + 1, 2 * t])
  | 0 => rfl
  | m + 1 => by
    rw [show 2 * (m + 1) = 2 * m + 1 + 1 by omega, List.range_succ, List.range_succ, List.range_succ, List.reverse_append, List.reverse_append, List.reverse_append, List.flatMap_append, ← range_dbl m]
    rfl
theorem allU_congr {P Q : Nat → Bool} : ∀ {N : Nat}, (∀ k, 1 ≤ k → k ≤ N → P k = Q k) → allU P N = allU Q N
  | 0, _ => rfl
  | N + 1, h => by
    show (allU P N && P (N + 1)) = (allU Q N && Q (N + 1))
    rw [allU_congr (fun k h1 h2 => h k h1 (by omega)), h (N + 1) (by omega) (by omega)]
theorem allZ_congr {P Q : Nat → Bool} : ∀ {N : Nat}, (∀ k, k < N → P k = Q k) → allZ P N = allZ Q N
  | 0, _ => rfl
  | N + 1, h => by
    show (allZ P N && P N) = (allZ Q N && Q N)
    rw [allZ_congr (fun k h2 => h k (by omega)), h N (by omega)]
theorem sumT_congr {g k : Nat → Int32} : ∀ {N : Nat}, (∀ f, 1 ≤ f → f ≤ N → g f = k f) → sumT g N = sumT k N
  | 0, _ => rfl
  | N + 1, h => by
    show sumT g N + g (N + 1) = sumT k N + k (N + 1)
    rw [sumT_congr (fun f h1 h2 => h f h1 (by omega)), h (N + 1) (by omega) (by omega)]
theorem sumT_zero {g : Nat → Int32} {n : Nat} : ∀ d, (∀ f, n < f → f ≤ n + d → g f = 0) → sumT g (n + d) = sumT g n
  | 0, _ => rfl
  | d + 1, h => by
    show sumT g (n + d) + g (n + d + 1) = _
    rw [h (n + d + 1) (by omega) (by omega), sumT_zero d (fun f h1 h2 => h f h1 (by omega)), Int32.add_zero]
theorem cntU_congr {P Q : Nat → Bool} : ∀ {N : Nat}, (∀ k, 1 ≤ k → k ≤ N → P k = Q k) → cntU P N = cntU Q N
  | 0, _ => rfl
  | N + 1, h => by
    show (if P (N + 1) then cntU P N + 1 else cntU P N) = (if Q (N + 1) then cntU Q N + 1 else cntU Q N)
    rw [cntU_congr (fun k h1 h2 => h k h1 (by omega)), h (N + 1) (by omega) (by omega)]
theorem cntU_zero {P : Nat → Bool} {n : Nat} : ∀ d, (∀ f, n < f → f ≤ n + d → P f = false) → cntU P (n + d) = cntU P n
  | 0, _ => rfl
  | d + 1, h => by
    show (if P (n + d + 1) then cntU P (n + d) + 1 else cntU P (n + d)) = _
    rw [h (n + d + 1) (by omega) (by omega), cntU_zero d (fun f h1 h2 => h f h1 (by omega))]
    rfl
