/-! the class's branching makes the tree's subsets, the first one first -/
theorem cv_dbl {j t : Nat} (hj : j < 14) : cvN (j + 1) (2 * t) = cvN j t := by
  unfold cvN
  rw [show 14 - j = (14 - (j + 1)) + 1 by omega, Nat.pow_succ]
  congr 1
  rw [Nat.mul_comm 2 t, Nat.mul_assoc, Nat.mul_comm 2]
theorem cv_dbl1 {j t : Nat} (hj : j < 14) : cvN (j + 1) (2 * t + 1) = cvN j t ||| bitI (nI (j + 1)) := by
  refine b_ext (fun i hi => ?_)
  rw [b_or, bt_cv hi, bt_cv hi, bt_bit (by omega) (by omega) hi]
  rcases Nat.lt_trichotomy i (14 - (j + 1)) with h | h | h
  · rw [decide_eq_false (show ¬ 14 - (j + 1) ≤ i by omega), decide_eq_false (show ¬ 14 - j ≤ i by omega), decide_eq_false (show ¬ 14 - (j + 1) = i by omega)]; rfl
  · subst h
    rw [decide_eq_true (Nat.le_refl _), decide_eq_true rfl, Nat.sub_self, Nat.testBit_zero]
    simp
  · rw [decide_eq_true (show 14 - (j + 1) ≤ i by omega), decide_eq_true (show 14 - j ≤ i by omega), decide_eq_false (show ¬ 14 - (j + 1) = i by omega), Bool.true_and, Bool.true_and, Bool.or_false, show i - (14 - (j + 1)) = (i - (14 - j)) + 1 by omega, Nat.testBit_succ]
    congr 1; omega
theorem dec_not {P : Prop} [Decidable P] {b : Bool} (h : P ↔ b = false) : decide (¬ P) = b := by
  cases b
  · exact decide_eq_false (fun z => z (h.mpr rfl))
  · exact decide_eq_true (fun z => by cases h.mp z)
theorem dec_is {P : Prop} [Decidable P] {b : Bool} (h : P ↔ b = false) : decide P = !b := by
  cases b
  · exact decide_eq_true (h.mpr rfl)
  · exact decide_eq_false (fun z => by cases h.mp z)
/-- parents as numbers: the root has none, the others one that comes before -/
def parN (pa : Nat → Int32) (f : Nat) : Nat := (pa f).toNatClampNeg
def parOk2 (n : Nat) (pa : Nat → Int32) : Prop := ∀ f, 1 ≤ f → f ≤ n → pa f = nI (parN pa f) ∧ parN pa f < f ∧ (f ≠ 1 → 1 ≤ parN pa f)
def treeR (n : Nat) (pa pb : Nat → Int32) : Prop := ∀ f, 1 ≤ f → f ≤ n → pb f = bitI (pa f)
theorem mayIn_cv {n j t : Nat} {pa pb : Nat → Int32} (hn : n ≤ 14) (hp : parOk2 n pa) (hr : treeR n pa pb) (hj : j < n) (h1 : j ≠ 0) : mayInB pb (cvN j t) (j + 1) = inN j t (parN pa (j + 1)) := by
  obtain ⟨e1, e2, e3⟩ := hp (j + 1) (by omega) (by omega)
  unfold mayInB
  rw [if_neg (by omega), hr (j + 1) (by omega) (by omega), e1]
  have h3 := e3 (by omega)
  refine dec_not ?_
  rw [and_bit0 h3 (by omega), cv_in (by omega) h3 (by omega)]
theorem mayOut_cv {n j t : Nat} {kd pa pb : Nat → Int32} (hn : n ≤ 14) (hp : parOk2 n pa) (hr : treeR n pa pb) (hj : j < n) (h1 : j ≠ 0) : mayOutB kd pb (cvN j t) (j + 1) = (decide (kd (j + 1) ≠ 0) || !inN j t (parN pa (j + 1))) := by
  obtain ⟨e1, e2, e3⟩ := hp (j + 1) (by omega) (by omega)
  unfold mayOutB
  rw [if_neg (by omega), hr (j + 1) (by omega) (by omega), e1]
  have h3 := e3 (by omega)
  by_cases hk : kd (j + 1) ≠ 0
  · rw [if_pos hk, decide_eq_true hk]; rfl
  · rw [if_neg hk, decide_eq_false hk, Bool.false_or]
    refine dec_is ?_
    rw [and_bit0 h3 (by omega), cv_in (by omega) h3 (by omega)]
theorem brV_cv {n j t : Nat} {kd pa pb : Nat → Int32} (hn : n ≤ 14) (hp : parOk2 n pa) (hr : treeR n pa pb) (hj : j < n) : brV kd pb (j + 1) (cvN j t) = ([2 * t + 1, 2 * t].filter (fun x => treeT (parN pa) kd (j + 1) x (j + 1))).map (cvN (j + 1)) := by
  have t1 : treeT (parN pa) kd (j + 1) (2 * t + 1) (j + 1) = mayInB pb (cvN j t) (j + 1) := by
    unfold treeT
    have top := inN_top (j := j) (t := t) true
    have top' : inN (j + 1) (2 * t + 1) (j + 1) = true := top
    by_cases h0 : j = 0
    · subst h0
      rw [if_pos rfl]
      exact top'
    · obtain ⟨-, e2, -⟩ := hp (j + 1) (by omega) (by omega)
      have hs : inN (j + 1) (2 * t + 1) (parN pa (j + 1)) = inN j t (parN pa (j + 1)) := inN_s true (by omega)
      rw [if_neg (by omega), top', hs, mayIn_cv hn hp hr hj h0]
      simp
  have t0 : treeT (parN pa) kd (j + 1) (2 * t) (j + 1) = mayOutB kd pb (cvN j t) (j + 1) := by
    unfold treeT
    have top' : inN (j + 1) (2 * t) (j + 1) = false := inN_top (j := j) (t := t) false
    by_cases h0 : j = 0
    · subst h0
      rw [if_pos rfl]
      exact top'
    · obtain ⟨-, e2, -⟩ := hp (j + 1) (by omega) (by omega)
      have hs : inN (j + 1) (2 * t) (parN pa (j + 1)) = inN j t (parN pa (j + 1)) := inN_s false (by omega)
      rw [if_neg (by omega), top', hs, mayOut_cv hn hp hr hj h0]
      simp
  unfold brV
  rw [List.filter_cons, List.filter_cons, List.filter_nil, t1, t0]
  cases mayInB pb (cvN j t) (j + 1) <;> cases mayOutB kd pb (cvN j t) (j + 1) <;> simp [cv_dbl (show j < 14 by omega), cv_dbl1 (show j < 14 by omega)]
theorem treeT_s {pa : Nat → Int32} {kd : Nat → Int32} {n j t f : Nat} (b : Bool) (hp : parOk2 n pa) (h1 : 1 ≤ f) (hf : f ≤ j) (hj : j < n) : treeT (parN pa) kd (j + 1) (2 * t + b.toNat) f = treeT (parN pa) kd j t f := by
  obtain ⟨-, e2, -⟩ := hp f h1 (by omega)
  unfold treeT
  rw [inN_s b (show 1 ≤ j by omega), inN_s b hf, inN_s b (show parN pa f ≤ j by omega)]
theorem flatMap_filter {α β : Type} (P : α → Bool) (g h : α → List β) : ∀ (l : List α), (∀ x ∈ l, g x = if P x then h x else []) → l.flatMap g = (l.filter P).flatMap h
  | [], _ => rfl
  | x :: l, hx => by
    rw [List.flatMap_cons, hx x List.mem_cons_self, flatMap_filter P g h l (fun y hy => hx y (List.mem_cons_of_mem _ hy)), List.filter_cons]
    cases P x
    · rw [if_neg (by decide), if_neg (by decide)]; rfl
    · rw [if_pos rfl, if_pos rfl, List.flatMap_cons]
theorem treeL_s {n j : Nat} {kd pa : Nat → Int32} (hp : parOk2 n pa) (hj : j < n) : treeL (parN pa) kd (j + 1) = (treeL (parN pa) kd j).flatMap (fun t => [2 * t + 1, 2 * t].filter (fun x => treeT (parN pa) kd (j + 1) x (j + 1))) := by
  unfold treeL
  rw [show 2 ^ (j + 1) = 2 * 2 ^ j by rw [Nat.pow_succ, Nat.mul_comm], range_dbl, List.filter_flatMap]
  refine flatMap_filter _ _ _ _ (fun t _ => ?_)
  have key : ∀ b : Bool, allU (treeT (parN pa) kd (j + 1) (2 * t + b.toNat)) (j + 1) = (allU (treeT (parN pa) kd j t) j && treeT (parN pa) kd (j + 1) (2 * t + b.toNat) (j + 1)) := fun b => by
    show (allU _ j && _) = _
    rw [allU_congr (fun k h1 h2 => treeT_s b hp h1 h2 hj)]
  have k1 : allU (treeT (parN pa) kd (j + 1) (2 * t + 1)) (j + 1) = (allU (treeT (parN pa) kd j t) j && treeT (parN pa) kd (j + 1) (2 * t + 1) (j + 1)) := key true
  have k0 : allU (treeT (parN pa) kd (j + 1) (2 * t)) (j + 1) = (allU (treeT (parN pa) kd j t) j && treeT (parN pa) kd (j + 1) (2 * t) (j + 1)) := key false
  rw [List.filter_cons, List.filter_cons, List.filter_nil, k1, k0, List.filter_cons, List.filter_cons, List.filter_nil]
  cases allU (treeT (parN pa) kd j t) j <;> simp
theorem updL_cv {n : Nat} {kd pa pb : Nat → Int32} (hn : n ≤ 14) (hp : parOk2 n pa) (hr : treeR n pa pb) : ∀ j, j ≤ n → updL kd pb j = (treeL (parN pa) kd j).map (cvN j)
  | 0, _ => by
    show [0] = [nI (0 * 2 ^ 14)]
    rw [Nat.zero_mul]; rfl
  | j + 1, h => by
    show brL kd pb (j + 1) (updL kd pb j) = _
    rw [updL_cv hn hp hr j (by omega), treeL_s hp (by omega), List.map_flatMap]
    unfold brL
    rw [List.flatMap_map]
    congr 1
    funext t
    exact brV_cv hn hp hr (by omega)
theorem updL_ok {kd pb : Nat → Int32} (j : Nat) (L : List Int32) : brOk kd pb (j + 1) L := fun v _ => by
  by_cases h : j + 1 = 1
  · exact Or.inl (if_pos h)
  · by_cases h2 : v &&& pb (j + 1) = 0
    · refine Or.inr ?_
      unfold mayOutB
      rw [if_neg h]
      by_cases h3 : kd (j + 1) ≠ 0
      · rw [if_pos h3]
      · rw [if_neg h3]; exact decide_eq_true h2
    · refine Or.inl ?_
      unfold mayInB
      rw [if_neg h]
      exact decide_eq_true h2
theorem brV_le {kd pb : Nat → Int32} {f : Nat} {v : Int32} : (brV kd pb f v).length ≤ 2 := by
  unfold brV
  cases mayInB pb v f <;> cases mayOutB kd pb v f <;> simp
theorem flat_le {g : Int32 → List Int32} (h : ∀ v, (g v).length ≤ 2) : ∀ l : List Int32, (l.flatMap g).length ≤ 2 * l.length
  | [] => Nat.le_refl _
  | x :: l => by
    rw [List.flatMap_cons, List.length_append, List.length_cons]
    have := flat_le h l
    have := h x
    omega
theorem updL_len {kd pb : Nat → Int32} : ∀ j, (updL kd pb (j + 1)).length ≤ 2 ^ j
  | 0 => by
    show (brL kd pb 1 [0]).length ≤ 1
    simp [brL, brV, mayInB, mayOutB]
  | j + 1 => by
    have h := flat_le (g := brV kd pb (j + 2)) (fun _ => brV_le) (updL kd pb (j + 1))
    have h2 := updL_len (kd := kd) (pb := pb) j
    show (brL kd pb (j + 2) (updL kd pb (j + 1))).length ≤ 2 ^ (j + 1)
    unfold brL
    rw [Nat.pow_succ]
    omega
theorem updL_8192 {kd pb : Nat → Int32} {n j : Nat} (hn : n ≤ 14) (hj : j ≤ n) : (updL kd pb j).length ≤ 8192 := by
  cases j with
  | zero => show ([0] : List Int32).length ≤ 8192; decide
  | succ j => exact Nat.le_trans (updL_len j) (Nat.le_trans (Nat.pow_le_pow_right (by decide) (show j ≤ 13 by omega)) (by decide))
