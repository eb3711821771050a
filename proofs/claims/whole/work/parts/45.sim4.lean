theorem of_bits {x : Int32} (h : ∀ i, 14 ≤ i → i < 32 → bt x i = false) : ∃ m, m < 16384 ∧ x = nI m ∧ ∀ i, i < 32 → m.testBit i = bt x i := by
  have hb : ∀ i, x.toBitVec.toNat.testBit i = bt x i := fun i => BitVec.testBit_toNat x.toBitVec
  refine ⟨x.toBitVec.toNat, ?_, ?_, fun i _ => hb i⟩
  · refine Nat.lt_pow_two_of_testBit (n := 14) _ (fun i hi => ?_)
    rw [hb]
    by_cases h2 : i < 32
    · exact h i hi h2
    · exact b_big (by omega)
  · refine b_ext (fun i hi => ?_)
    rw [bt_nI _ hi, hb]
theorem cv_hi {n t i : Nat} (hn : n ≤ 14) (ht : t < 2 ^ n) (h : 14 ≤ i) (hi : i < 32) : bt (cvN n t) i = false := by
  unfold cvN
  rw [bt_nI _ hi]
  exact Nat.testBit_lt_two_pow (Nat.lt_of_lt_of_le (cv_lt hn ht) (Nat.pow_le_pow_right (by decide) h))
/-- the bits of x, counted by features -/
theorem bc_and {n t : Nat} (hn : n ≤ 14) (ht : t < 2 ^ n) (g : Int32) : bcI (cvN n t &&& g) = nI (cntU (fun k => inN n t k && bt g (14 - k)) n) := by
  obtain ⟨m, h1, h2, h3⟩ := of_bits (x := cvN n t &&& g) (fun i h hi => by rw [b_and, cv_hi hn ht h hi]; rfl)
  rw [h2, bc_nat h1]
  congr 1
  have e : 14 = n + (14 - n) := by omega
  have z := cntU_zero (P := fun k => m.testBit (14 - k)) (n := n) (14 - n) (fun f h4 h5 => by
    show m.testBit (14 - f) = false
    rw [h3 _ (by omega), b_and, cv_out hn h4 (by omega)]; rfl)
  rw [← e] at z
  rw [z]
  refine cntU_congr (fun k h4 h5 => ?_)
  show m.testBit (14 - k) = _
  rw [h3 _ (by omega), b_and, cv_in hn h4 h5]
theorem grp_eq {n t mf : Nat} {bd : Int32} {r q : Nat → Nat → Int32} (hn : n ≤ 14) (ht : t < 2 ^ n) (h : SimV n mf bd r q) : allU (grpB (r 6) (r 7) (r 8) bd (cvN n t)) n = allU (mgrB n (q 1) (q 2) (q 3) (q 4) (q 5) (nI t)) n := by
  obtain ⟨-, -, -, hg, hle, hmo, hbd, -⟩ := h
  have hs : t < 2 ^ 31 := by have := pw14 hn ht; omega
  refine allU_congr (fun f h1 h2 => ?_)
  have hc : bcI (cvN n t &&& r 6 f) = nI (cntU (gcnB (nI n) (q 1) (q 2) (nI t) (nI f)) n) := by
    rw [bc_and hn ht]
    congr 1
    refine cntU_congr (fun k h4 h5 => ?_)
    show (inN n t k && bt (r 6 f) (14 - k)) = gcnB (nI n) (q 1) (q 2) (nI t) (nI f) k
    rw [hg f k h1 (by omega) h4 (by omega), decide_eq_true h5, Bool.true_and]
    unfold grbB gcnB
    rw [isIn_nat hn hs h5]
    by_cases e1 : q 1 k = nI f
    · rw [if_pos e1, if_pos e1]
      by_cases e2 : q 2 k = 2
      · rw [if_pos e2, decide_eq_true e2, Bool.and_true]
      · rw [if_neg e2, decide_eq_false e2, Bool.and_false]
    · rw [if_neg e1, if_neg e1, Bool.and_false]
  have hz : (cvN n t &&& bd &&& bitI (nI f) = 0) ↔ (inN n t f && decide (q 3 f ≠ 0)) = false := by
    rw [and_bit0 h1 (by omega), b_and, cv_in hn h1 h2, hbd f h1 (by omega)]
  unfold grpB mgrB
  rw [hc, hle f (by omega), hmo f (by omega), isIn_nat hn hs h2]
  by_cases e3 : q 3 f = 0
  · rw [if_pos e3, if_pos (hz.mpr (by rw [decide_eq_false (fun z => z e3), Bool.and_false]))]
  · rw [if_neg e3]
    by_cases e4 : inN n t f = false
    · rw [if_pos e4, if_pos (hz.mpr (by rw [e4]; rfl))]
    · rw [if_neg e4, if_neg (fun z => by
        have := hz.mp z
        rw [decide_eq_true e3, Bool.and_true] at this
        exact e4 this)]
theorem cap_eq {n t mf : Nat} {bd : Int32} {r q : Nat → Nat → Int32} (hn : n ≤ 14) (ht : t < 2 ^ n) (h : SimV n mf bd r q) : sumsB (r 17) (r 16) (cvN n t) = allZ (mcaB n (q 6) (q 12) (q 13) (nI t)) 4 := by
  obtain ⟨-, -, -, -, -, -, -, -, hsm, hlm, hno⟩ := h
  have hs : t < 2 ^ 31 := by have := pw14 hn ht; omega
  refine allZ_congr (fun wh hw => ?_)
  have e : 14 = n + (14 - n) := by omega
  have hsum : sumT (gtm (r 16) (cvN n t) wh) 14 = sumT (fun f => if isInB (nI n) (nI t) (nI f) then q 6 (4 * f + wh) else 0) n := by
    have z := sumT_zero (g := gtm (r 16) (cvN n t) wh) (n := n) (14 - n) (fun f h4 h5 => if_pos ((and_bit0 (by omega) (by omega)).mpr (cv_out hn h4 (by omega))))
    rw [← e] at z
    rw [z]
    refine sumT_congr (fun f h4 h5 => ?_)
    show (if cvN n t &&& bitI (nI f) = 0 then 0 else r 16 (wh * 15 + f)) = _
    rw [isIn_nat hn hs h5, hsm wh f hw (by omega)]
    by_cases e1 : inN n t f = true
    · rw [e1, if_pos rfl, if_neg (fun z => by rw [and_bit0 h4 (by omega), cv_in hn h4 h5, e1] at z; cases z)]
    · rw [Bool.eq_false_iff.mpr e1, if_pos ((and_bit0 h4 (by omega)).mpr (by rw [cv_in hn h4 h5]; exact Bool.eq_false_iff.mpr e1))]; rfl
  unfold capB mcaB
  rw [hsum, hlm wh hw]
  by_cases e0 : q 12 wh = 0
  · rw [if_pos e0, if_pos rfl, if_pos e0]
  · rw [if_neg e0, if_neg (hno wh hw e0), if_neg e0]
def setL (n mf : Nat) (q : Nat → Nat → Int32) : List Nat := (List.range (2 ^ n)).reverse.filter (fun t => mOk n (q 1) (q 2) (q 3) (q 4) (q 5) mf (q 8) (q 9) (q 10) (q 6) (q 12) (q 13) (nI t))
theorem setL_lt {n mf : Nat} {q : Nat → Nat → Int32} {t : Nat} (h : t ∈ setL n mf q) : t < 2 ^ n := by
  have := (List.mem_filter.mp h).1
  simpa using this
theorem mL_set (n mf : Nat) (q : Nat → Nat → Int32) : mL n mf q = (setL n mf q).map nI := by
  unfold mL mLL setL setsD
  rw [List.filter_map, Nat.sub_zero, List.range_eq_range']
  rfl
theorem vLL_set {n mf : Nat} {bd : Int32} {r q : Nat → Nat → Int32} (hn : n ≤ 14) (h : SimV n mf bd r q) : vLL r bd n mf = (setL n mf q).map (cvN n) := by
  unfold vLL
  rw [updL_cv hn h.1 h.2.1 n (Nat.le_refl _), List.filter_map]
  congr 1
  unfold treeL setL
  rw [List.filter_filter]
  refine List.filter_congr (fun t ht => ?_)
  have ht : t < 2 ^ n := by simpa using ht
  show (vKeep r bd n mf (cvN n t) && allU (treeT (parN (q 1)) (r 3) n t) n) = _
  have hk : allU (treeT (parN (q 1)) (r 3) n t) n = allU (treeT (parN (q 1)) (q 2) n t) n := allU_congr (fun f h1 h2 => by unfold treeT; rw [h.2.2.1 f (by omega)])
  unfold vKeep mOk mtrB
  rw [grp_eq hn ht h, frm_eq hn ht h, cap_eq hn ht h, tre_eq hn ht h.1, hk]
  cases allU (treeT (parN (q 1)) (q 2) n t) n <;> simp
