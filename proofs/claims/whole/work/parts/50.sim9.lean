/-! forces -/
theorem isIn_bt {n f : Nat} {s : Int32} (hn : n ≤ 14) (hf : f ≤ n) : isInB (nI n) s (nI f) = bt s (n - f) := by
  unfold isInB
  rw [nI_subn hf]
  have h := b_sshr (n - f) (by omega) s (i := 0) (by decide)
  rw [if_pos (by omega), Nat.add_zero] at h
  by_cases e : bt s (n - f) = true
  · rw [e]; exact decide_eq_true (and_one.mpr (by rw [h]; exact e))
  · rw [Bool.eq_false_iff.mpr e]; exact decide_eq_false (fun z => e (by rw [← h]; exact and_one.mp z))
theorem fold_and {P : Int32 → Bool} {i : Nat} : ∀ (L : List Int32) (x : Int32), bt (L.foldl (fun a v => if P v then a &&& v else a) x) i = (bt x i && L.all (fun v => !P v || bt v i))
  | [], x => by rw [List.all_nil, Bool.and_true]; rfl
  | v :: L, x => by
    rw [List.foldl_cons, fold_and L, List.all_cons]
    cases hp : P v
    · rw [if_neg (by decide)]; rfl
    · rw [if_pos rfl, b_and, Bool.and_assoc]; rfl
theorem fold_or {P : Int32 → Bool} {i : Nat} : ∀ (L : List Int32) (x : Int32), bt (L.foldl (fun a v => if P v then a ||| v else a) x) i = (bt x i || L.any (fun v => P v && bt v i))
  | [], x => by rw [List.any_nil, Bool.or_false]; rfl
  | v :: L, x => by
    rw [List.foldl_cons, fold_or L, List.any_cons]
    cases hp : P v
    · rw [if_neg (by decide)]; rfl
    · rw [if_pos rfl, b_or, Bool.or_assoc]; rfl
theorem all_map2 {f g : Nat → Int32} {A B : Int32 → Bool} : ∀ S : List Nat, (∀ t ∈ S, A (f t) = B (g t)) → (S.map f).all A = (S.map g).all B
  | [], _ => rfl
  | t :: S, h => by rw [List.map_cons, List.map_cons, List.all_cons, List.all_cons, h t List.mem_cons_self, all_map2 S (fun t ht => h t (List.mem_cons_of_mem _ ht))]
theorem any_map2 {f g : Nat → Int32} {A B : Int32 → Bool} : ∀ S : List Nat, (∀ t ∈ S, A (f t) = B (g t)) → (S.map f).any A = (S.map g).any B
  | [], _ => rfl
  | t :: S, h => by rw [List.map_cons, List.map_cons, List.any_cons, List.any_cons, h t List.mem_cons_self, any_map2 S (fun t ht => h t (List.mem_cons_of_mem _ ht))]
theorem fnd_two {P Q : Int32 → Bool} {f g : Nat → Int32} : ∀ S : List Nat, (∀ t ∈ S, P (f t) = Q (g t)) → (fnd P (S.map f) = -1 ∧ fnd Q (S.map g) = -1 ∧ (S.map g).filter Q = []) ∨ ∃ t ∈ S, fnd P (S.map f) = f t ∧ fnd Q (S.map g) = g t ∧ (S.map g).filter Q ≠ []
  | [], _ => Or.inl ⟨rfl, rfl, rfl⟩
  | t :: S, h => by
    have h1 := h t List.mem_cons_self
    cases hq : Q (g t)
    · rw [hq] at h1
      rcases fnd_two S (fun t ht => h t (List.mem_cons_of_mem _ ht)) with ⟨a, b, c⟩ | ⟨t', a, b, c, d⟩
      · refine Or.inl ⟨?_, ?_, ?_⟩
        · show (if P (f t) then f t else fnd P (S.map f)) = -1
          rw [h1]; exact a
        · show (if Q (g t) then g t else fnd Q (S.map g)) = -1
          rw [hq]; exact b
        · rw [List.map_cons, List.filter_cons, hq]; exact c
      · refine Or.inr ⟨t', List.mem_cons_of_mem _ a, ?_, ?_, ?_⟩
        · show (if P (f t) then f t else fnd P (S.map f)) = _
          rw [h1]; exact b
        · show (if Q (g t) then g t else fnd Q (S.map g)) = _
          rw [hq]; exact c
        · rw [List.map_cons, List.filter_cons, hq]; exact d
    · rw [hq] at h1
      refine Or.inr ⟨t, List.mem_cons_self, ?_, ?_, ?_⟩
      · show (if P (f t) then f t else fnd P (S.map f)) = _
        rw [h1]; rfl
      · show (if Q (g t) then g t else fnd Q (S.map g)) = _
        rw [hq]; rfl
      · rw [List.map_cons, List.filter_cons, hq]; exact List.cons_ne_nil _ _
theorem cv_ne {n t : Nat} (hn : n ≤ 14) (ht : t < 2 ^ n) : cvN n t ≠ -1 := fun z => by
  have h := cv_lt hn ht
  have h1 : bt (cvN n t) 20 = bt (-1) 20 := by rw [z]
  rw [cv_hi hn ht (by omega) (by omega), b_m1 20 (by omega)] at h1
  cases h1
theorem nthI_neg {h : Nat → Bool} {v : Nat → Int32} {i : Int32} (hi : i < 0) : ∀ t j, j + t < 2 ^ 31 → nthI h v i t j = 0
  | 0, _, _ => rfl
  | t + 1, j, hj => by
    show (if h (j + 1) = true then (if nI (cntU h j) = i then v (j + 1) else nthI h v i t (j + 1)) else nthI h v i t (j + 1)) = 0
    have hc := cntU_le h j
    rw [if_neg (show ¬ nI (cntU h j) = i from fun z => nI_pos (n := cntU h j) (by omega) (by rw [z]; exact hi)), nthI_neg hi t (j + 1) (by omega)]
    split <;> rfl
theorem nth_two {h h' : Nat → Bool} {v v' : Nat → Int32} {k : Nat} (hk : k < 2 ^ 31) : ∀ t j, j + t < 2 ^ 31 → (∀ g, 1 ≤ g → g ≤ j + t → h g = h' g ∧ v g = v' g) → nthI h v (nI k) t j = nthF h' v' k t j
  | 0, _, _, _ => rfl
  | t + 1, j, hj, he => by
    show (if h (j + 1) = true then (if nI (cntU h j) = nI k then v (j + 1) else nthI h v (nI k) t (j + 1)) else nthI h v (nI k) t (j + 1)) = (if h' (j + 1) = true then (if cntU h' j = k then v' (j + 1) else nthF h' v' k t (j + 1)) else nthF h' v' k t (j + 1))
    have hc := cntU_le h j
    have h1 := he (j + 1) (by omega) (by omega)
    have h2 : cntU h j = cntU h' j := cntU_congr (fun g a b => (he g a (by omega)).1)
    rw [nth_two hk t (j + 1) (by omega) (fun g a b => he g a (by omega)), h1.1, h1.2, ← h2]
    by_cases e : cntU h j = k
    · simp only [if_pos e, if_pos (show nI (cntU h j) = nI k by rw [e])]
    · simp only [if_neg e, if_neg (show ¬ nI (cntU h j) = nI k from fun z => e ((nI_eq (by omega) hk).mp z))]
theorem masks_add {mu mn : Int32} {L : List Int32} {f : Nat} (h1 : 1 ≤ f) (h2 : f ≤ 14) (hm : masks mu mn L) : masks (mu ||| bitI (nI f)) mn (L ++ [nI f]) := by
  obtain ⟨m1, m2, m3⟩ := hm
  refine ⟨fun g a b => ?_, fun g a b => ?_, fun i a b => ⟨?_, (m3 i a b).2⟩⟩
  · rw [b_or, m1 g a b, bt_bit h1 h2 (by omega)]
    by_cases e : g = f
    · subst e
      rw [decide_eq_true (rfl : 14 - g = 14 - g), Bool.or_true, decide_eq_true (List.mem_append_right _ (List.mem_singleton.mpr rfl))]
    · rw [decide_eq_false (show ¬ 14 - f = 14 - g by omega), Bool.or_false]
      exact decide_eq_decide.mpr ⟨fun z => List.mem_append_left _ z, fun z => (List.mem_append.mp z).elim id (fun w => absurd (nI_inj15 g (by omega) f (by omega) (List.mem_singleton.mp w)) e)⟩
  · rw [m2 g a b]
    exact decide_eq_decide.mpr ⟨fun z => List.mem_append_left _ z, fun z => (List.mem_append.mp z).elim id (fun w => absurd (List.mem_singleton.mp w) (nI_neg_ne a b (by omega)))⟩
  · rw [b_or, (m3 i a b).1, bt_bit h1 h2 b, decide_eq_false (by omega)]; rfl
theorem sim_forces : Ok_forces Sim := by
  intro n mf bd zN ub cs mu mn la fq rq r th np mp cc kn sc fc so lb lq wq q h x i u u' hu hu'
  have h0 := h
  obtain ⟨⟨e1, e2, -, -⟩, ⟨hn, hm, -, -⟩, hv, -, -, -, ⟨L, hc1, hc2, hc3, hc4, hc5, hc6⟩, -⟩ := h0
  subst e1 e2
  unfold cForces at hu
  unfold mForces at hu'
  by_cases c0 : hasB (nI np) x = true
  rotate_left
  · rw [if_neg c0] at hu hu'; subst hu hu'; exact ⟨rfl, h⟩
  rw [if_pos c0] at hu hu'
  obtain ⟨g, hg, rfl⟩ := hu
  obtain ⟨k, hk, rfl⟩ := hu'
  refine ⟨?_, sim_known h hg hk⟩
  have hl := chs_len hc3
  obtain ⟨x1, x2, x3⟩ := has_nat hn c0
  show cForcesV np mp bd zN ub cs mu mn la fq rq r x i = mForcesV np mp cc q x i
  unfold cForcesV mForcesV
  have hV := vLL_set hn hv
  have hM := mL_set np mp q
  have hPQ : ∀ t ∈ setL np mp q, (fun v => fitsB v (mu ||| bitI x) mn) (cvN np t) = mfP np cc q x (nI t) := fun t ht => by
    have ht2 := setL_lt ht
    show fitsB (cvN np t) (mu ||| bitI x) mn = (isInB (nI np) (nI t) x && allZ (chB (nI np) (q 14) 0 (nI t)) cc)
    rw [Bool.eq_iff_iff, Bool.and_eq_true, hc2, ch_iff hc5 (by omega), x1, fits_iff hn ht2 (L := L ++ [nI x.toNatClampNeg]) (fun y hy => (List.mem_append.mp hy).elim (hc3.1 y) (fun w => by rw [List.mem_singleton.mp w]; exact ⟨_, x2, x3, Or.inl rfl⟩)) (masks_add x2 (by omega) hc6)]
    have hlit : litB (nI np) (nI t) (nI x.toNatClampNeg) = isInB (nI np) (nI t) (nI x.toNatClampNeg) := by unfold litB; rw [if_neg (pos_nle _ (by omega) x2)]
    rw [← hlit]
    constructor
    · exact fun z => ⟨z _ (List.mem_append_right _ (List.mem_singleton.mpr rfl)), fun y hy => z y (List.mem_append_left _ hy)⟩
    · exact fun z y hy => (List.mem_append.mp hy).elim (z.2 y) (fun w => by rw [List.mem_singleton.mp w]; exact z.1)
  have hAL : ∀ f, 1 ≤ f → f ≤ np → bt (foldP (fun v => fitsB v (mu ||| bitI x) mn) (fun x y => x &&& y) (-1) (vLL r bd np mp) (vLL r bd np mp).length) (14 - f) = bt (mAll np mp cc q x) (np - f) := fun f a b => by
    unfold mAll foldP
    rw [List.take_length, List.take_length, fold_and, fold_and, b_m1 _ (by omega), b_m1 _ (by omega), hV, hM]
    congr 1
    refine all_map2 _ (fun t ht => ?_)
    show (!(fun v => fitsB v (mu ||| bitI x) mn) (cvN np t) || bt (cvN np t) (14 - f)) = (!mfP np cc q x (nI t) || bt (nI t) (np - f))
    rw [hPQ t ht, cv_in hn a b, bt_nI _ (by omega)]; rfl
  have hSO : ∀ f, 1 ≤ f → f ≤ np → bt (foldP (fun v => fitsB v (mu ||| bitI x) mn) (fun x y => x ||| y) 0 (vLL r bd np mp) (vLL r bd np mp).length) (14 - f) = bt (mSome np mp cc q x) (np - f) := fun f a b => by
    unfold mSome foldP
    rw [List.take_length, List.take_length, fold_or, fold_or, b_0, b_0, hV, hM]
    congr 1
    refine any_map2 _ (fun t ht => ?_)
    show ((fun v => fitsB v (mu ||| bitI x) mn) (cvN np t) && bt (cvN np t) (14 - f)) = (mfP np cc q x (nI t) && bt (nI t) (np - f))
    rw [hPQ t ht, cv_in hn a b, bt_nI _ (by omega)]; rfl
  have two := fnd_two (P := fun v => fitsB v (mu ||| bitI x) mn) (Q := mfP np cc q x) (f := cvN np) (g := nI) _ hPQ
  rw [← hV, ← hM] at two
  rcases two with ⟨a, b, d⟩ | ⟨t, a, b, d, e⟩
  · rw [if_pos a, if_pos (by rw [d]; rfl)]
  · rw [if_neg (by rw [b]; exact cv_ne hn (setL_lt a)), if_neg (fun z => e (List.eq_nil_of_length_eq_zero z))]
    unfold cForcedV
    by_cases ci : i < 0
    · rw [if_pos ci]
      exact nthI_neg ci _ _ (by omega)
    · rw [if_neg ci]
      obtain ⟨j, hj, rfl⟩ := nI_of ci
      rw [nI_clamp hj]
      refine nth_two hj _ _ (by omega) (fun f f1 f2 => ?_)
      have hf : f ≤ np := by omega
      have A := hAL f f1 hf
      have B := hSO f f1 hf
      unfold cHit mHit cVal mVal
      rw [isIn_bt hn hf, isIn_bt hn hf, ← A, ← B]
      constructor
      · by_cases z1 : nI f = x
        · rw [if_pos z1, if_pos z1]
        · rw [if_neg z1, if_neg z1]
          by_cases z2 : bt (foldP (fun v => fitsB v (mu ||| bitI x) mn) (fun x y => x &&& y) (-1) (vLL r bd np mp) (vLL r bd np mp).length) (14 - f) = true
          · rw [if_pos z2, if_neg (fun w => by rw [and_bit0 f1 (by omega), z2] at w; cases w)]
          · rw [if_neg z2, if_pos ((and_bit0 f1 (by omega)).mpr (Bool.eq_false_iff.mpr z2))]
            exact dec_is (and_bit0 f1 (by omega))
      · by_cases z2 : bt (foldP (fun v => fitsB v (mu ||| bitI x) mn) (fun x y => x &&& y) (-1) (vLL r bd np mp) (vLL r bd np mp).length) (14 - f) = true
        · rw [if_pos z2, if_neg (fun w => by rw [and_bit0 f1 (by omega), z2] at w; cases w)]
        · rw [if_neg z2, if_pos ((and_bit0 f1 (by omega)).mpr (Bool.eq_false_iff.mpr z2))]
