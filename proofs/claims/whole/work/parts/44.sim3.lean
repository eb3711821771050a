/-! the class's row of variants is the reference's list of sets, moved up -/
def lit (n : Nat) (x : Int32) : Prop := ∃ f, 1 ≤ f ∧ f ≤ n ∧ (x = nI f ∨ x = -nI f)
def SimV (n mf : Nat) (bd : Int32) (r q : Nat → Nat → Int32) : Prop :=
  parOk2 n (q 1) ∧ treeR n (q 1) (r 5) ∧ (∀ f, f < 15 → r 3 f = q 2 f) ∧ (∀ f k, 1 ≤ f → f ≤ 14 → 1 ≤ k → k ≤ 14 → bt (r 6 f) (14 - k) = (decide (k ≤ n) && grbB (q 1) (q 2) (nI f) k)) ∧ (∀ f, f < 15 → r 7 f = q 4 f) ∧ (∀ f, f < 15 → r 8 f = q 5 f) ∧ (∀ f, 1 ≤ f → f ≤ 14 → bt bd (14 - f) = decide (q 3 f ≠ 0)) ∧
  (∀ k, k < mf → r 10 k = q 8 k ∧ r 11 k = bitOfI (q 9 k) ∧ r 12 k = bitI (q 9 k) ∧ r 13 k = bitOfI (q 10 k) ∧ r 14 k = bitI (q 10 k) ∧ lit n (q 9 k) ∧ lit n (q 10 k)) ∧
  (∀ wh f, wh < 4 → f < 15 → r 16 (wh * 15 + f) = q 6 (4 * f + wh)) ∧ (∀ wh, wh < 4 → r 17 wh = if q 12 wh = 0 then 14000 else q 13 wh) ∧ (∀ wh, wh < 4 → q 12 wh ≠ 0 → q 13 wh ≠ 14000)
theorem cv_lt {n t : Nat} (hn : n ≤ 14) (ht : t < 2 ^ n) : t * 2 ^ (14 - n) < 2 ^ 14 := by
  have h1 : (2 : Nat) ^ 14 = 2 ^ n * 2 ^ (14 - n) := by rw [← Nat.pow_add]; congr 1; omega
  rw [h1]
  exact Nat.mul_lt_mul_of_pos_right ht (Nat.pow_pos (by decide))
theorem pw14 {n t : Nat} (hn : n ≤ 14) (ht : t < 2 ^ n) : t < 2 ^ 14 := Nat.lt_of_lt_of_le ht (Nat.pow_le_pow_right (by decide) hn)
theorem nI_neg_ne {f k : Nat} (hf : 1 ≤ f) (hf2 : f ≤ 14) (hk : k ≤ 14) : -nI f ≠ nI k := by
  have : ∀ f, f < 15 → 1 ≤ f → ∀ k, k < 15 → -nI f ≠ nI k := by decide +kernel
  exact this f (by omega) hf k (by omega)
theorem neg_le : ∀ f, f < 15 → -nI f ≤ 0 := by decide +kernel
theorem pos_nle : ∀ f, f < 15 → 1 ≤ f → ¬ nI f ≤ 0 := by decide +kernel
theorem lit_litB {n t : Nat} {x : Int32} (hn : n ≤ 14) (ht : t < 2 ^ n) (hx : lit n x) : litB (nI n) (nI t) x = decide (cvN n t &&& bitOfI x = bitI x) := by
  obtain ⟨f, h1, h2, rfl | rfl⟩ := hx
  · unfold litB bitOfI
    rw [if_neg (pos_nle f (by omega) h1), isIn_nat hn (by have := pw14 hn ht; omega) h2, bitI_neg f (by omega), Int32.or_zero]
    by_cases h : inN n t f = true
    · rw [h]; exact (decide_eq_true ((and_bit1 h1 (by omega)).mpr (by rw [cv_in hn h1 h2]; exact h))).symm
    · rw [Bool.eq_false_iff.mpr h]; exact (decide_eq_false (fun z => h (by rw [← cv_in hn h1 h2]; exact (and_bit1 h1 (by omega)).mp z))).symm
  · unfold litB bitOfI
    rw [if_pos (neg_le f (by omega)), Int32.neg_neg, isIn_nat hn (by have := pw14 hn ht; omega) h2, bitI_neg f (by omega), Int32.zero_or]
    exact (dec_is (by rw [and_bit0 h1 (by omega), cv_in hn h1 h2])).symm
theorem frm_eq {n t mf : Nat} {bd : Int32} {r q : Nat → Nat → Int32} (hn : n ≤ 14) (ht : t < 2 ^ n) (h : SimV n mf bd r q) : allZ (frmB (r 10) (r 11) (r 12) (r 13) (r 14) (cvN n t)) mf = allZ (mfrB (nI n) (q 8) (q 9) (q 10) (nI t)) mf := by
  refine allZ_congr (fun k hk => ?_)
  obtain ⟨e1, e2, e3, e4, e5, e6, e7⟩ := h.2.2.2.2.2.2.2.1 k hk
  unfold frmB mfrB
  rw [e1, e2, e3, e4, e5, lit_litB hn ht e6, lit_litB hn ht e7]
theorem tre_eq {n t : Nat} {pa kd : Nat → Int32} (hn : n ≤ 14) (ht : t < 2 ^ n) (hp : parOk2 n pa) : allU (treB (nI n) pa kd (nI t)) n = allU (treeT (parN pa) kd n t) n := by
  refine allU_congr (fun f h1 h2 => ?_)
  obtain ⟨e1, e2, e3⟩ := hp f h1 h2
  have hs : t < 2 ^ 31 := by have := pw14 hn ht; omega
  unfold treB treeT
  by_cases hf : f = 1
  · rw [if_pos hf, if_pos hf, show (1 : Int32) = nI 1 from rfl, isIn_nat hn hs (by omega)]
  · rw [if_neg hf, if_neg hf, e1, isIn_nat hn hs (by omega), isIn_nat hn hs h2]
