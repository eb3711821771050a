/-! feature, formula, differ -/
theorem neg_ge14 : ∀ k, k < 15 → ¬ (-nI k : Int32) < -14 := by decide +kernel
theorem litOk_eq {n : Nat} {x : Int32} (hn : n ≤ 14) : hasSignedB (nI n) x = litOkB (nI n) x := by
  unfold hasSignedB litOkB
  by_cases h0 : 0 ≤ x
  · rw [if_pos h0, if_pos h0]
    cases hasB (nI n) x <;> rfl
  · rw [if_neg h0, if_neg h0]
    by_cases h1 : hasB (nI n) x = true
    · exact absurd (Int32.le_trans (by decide) (hasB_iff.mp h1).1) h0
    · rw [if_neg h1]
      by_cases h2 : x < -14
      · rw [if_pos h2]
        cases h3 : hasB (nI n) (-x)
        · rfl
        · obtain ⟨a1, a2, a3⟩ := has_nat hn h3
          have : x = -nI (-x).toNatClampNeg := by rw [← a1, Int32.neg_neg]
          rw [this] at h2
          exact absurd h2 (neg_ge14 _ (by omega))
      · rw [if_neg h2]
theorem hasS_lit {n : Nat} {x : Int32} (hn : n ≤ 14) (h : hasSignedB (nI n) x = true) : lit n x := by
  unfold hasSignedB at h
  by_cases h0 : 0 ≤ x
  · rw [if_pos h0] at h; exact lit_has hn h
  · rw [if_neg h0] at h
    obtain ⟨a1, a2, a3⟩ := has_nat hn h
    exact ⟨_, a2, a3, Or.inr (by rw [← a1, Int32.neg_neg])⟩
def L28 (i : Nat) : Int32 := if i < 14 then nI (i + 1) else -nI (i - 13)
theorem L28_of {n : Nat} {x : Int32} (hn : n ≤ 14) (h : lit n x) : ∃ i, i < 28 ∧ x = L28 i := by
  obtain ⟨f, h1, h2, rfl | rfl⟩ := h
  · exact ⟨f - 1, by omega, by unfold L28; rw [if_pos (by omega), show f - 1 + 1 = f by omega]⟩
  · exact ⟨f + 13, by omega, by unfold L28; rw [if_neg (by omega), show f + 13 - 13 = f by omega]⟩
theorem alw_tab : ∀ i, i < 28 → ∀ j, j < 28 → ∀ o, o < 4 → alwaysB (nI o) (L28 i) (L28 j) = alwM (nI o) (L28 i) (L28 j) := by decide +kernel
theorem alw_eq {n : Nat} {o x y : Int32} (hn : n ≤ 14) (hx : lit n x) (hy : lit n y) (h0 : ¬ o < 0) (h3 : o ≤ 3) : alwaysB o x y = alwM o x y := by
  obtain ⟨i, hi, rfl⟩ := L28_of hn hx
  obtain ⟨j, hj, rfl⟩ := L28_of hn hy
  obtain ⟨k, hk, rfl⟩ := nI_of h0
  exact alw_tab i hi j hj k (by have := (nI_leI (a := k) (b := 3) hk (by decide)).mp h3; omega)
theorem sim_formula : Ok_formula Sim := by
  intro n mf bd zN ub cs mu mn la fq rq r th np mp cc kn sc fc so lb lq wq q h o x y u u' hu hu'
  subst hu hu'
  have h0 := h
  obtain ⟨⟨e1, e2, -, -⟩, ⟨hn, hm, -, -⟩, hv, hd, -⟩ := h0
  subst e1 e2
  unfold cFormula mFormula
  obtain ⟨v1, v2, v3, v4, v5, v6, v7, v8, v9, v10, v11⟩ := hv
  rw [litOk_eq hn, litOk_eq hn]
  by_cases c1 : litOkB (nI np) x = true
  rotate_left
  · rw [if_neg c1, if_neg c1]; exact ⟨rfl, h⟩
  rw [if_pos c1, if_pos c1]
  by_cases c2 : litOkB (nI np) y = true
  rotate_left
  · rw [if_neg c2, if_neg c2]; exact ⟨rfl, h⟩
  rw [if_pos c2, if_pos c2]
  have lx := hasS_lit hn (by rw [litOk_eq hn]; exact c1)
  have ly := hasS_lit hn (by rw [litOk_eq hn]; exact c2)
  by_cases c3 : o < 0
  · rw [if_pos c3, if_pos c3]; exact ⟨rfl, h⟩
  rw [if_neg c3, if_neg c3]
  by_cases c4 : o ≤ 3
  rotate_left
  · rw [if_neg c4, if_neg c4]; exact ⟨rfl, h⟩
  rw [if_pos c4, if_pos c4, alw_eq hn lx ly c3 c4]
  by_cases c5 : mp = 40
  · rw [if_neg (by rw [c5]; decide), if_pos (by rw [c5]; rfl)]; exact ⟨rfl, h⟩
  rw [if_pos (show nI mp < 40 from (nI_ltI (a := mp) (b := 40) (by omega) (by decide)).mpr (by omega)), if_neg (show ¬ nI mp = 40 from fun z => c5 ((nI_eq (b := 40) (by omega) (by decide)).mp z))]
  by_cases c6 : alwM o x y = true
  · rw [if_pos c6, if_pos c6]; exact ⟨rfl, h⟩
  rw [if_neg c6, if_neg c6]
  refine ⟨rfl, sim_upd h (Nat.le_refl _) hn (by omega) ⟨v1, v2, v3, v4, v5, v6, v7, fun k hk => ?_, v9, v10, v11⟩ hd rfl rfl rfl rfl rfl rfl rfl⟩
  show upd (r 10) mp o k = upd (q 8) mp o k ∧ upd (r 11) mp (bitOfI x) k = bitOfI (upd (q 9) mp x k) ∧ upd (r 12) mp (bitI x) k = bitI (upd (q 9) mp x k) ∧ upd (r 13) mp (bitOfI y) k = bitOfI (upd (q 10) mp y k) ∧ upd (r 14) mp (bitI y) k = bitI (upd (q 10) mp y k) ∧ lit np (upd (q 9) mp x k) ∧ lit np (upd (q 10) mp y k)
  by_cases e : k = mp
  · simp only [upd, if_pos e]
    exact ⟨trivial, trivial, trivial, trivial, trivial, lx, ly⟩
  · simp only [upd, if_neg e]
    exact v8 k (by omega)
theorem was_bt {N s f : Nat} (hN : N ≤ 14) (hs : s < 2 ^ N) (h1 : 1 ≤ f) (h2 : f ≤ 14) : wasB (nI s) (nI N) (nI f) = bt (cvN N s) (14 - f) := by
  unfold wasB
  rw [if_neg (fun z => by have := (nI_ltI (a := f) (b := 1) (by omega) (by decide)).mp z; omega)]
  by_cases c : f ≤ N
  · rw [if_neg (fun z => by have := (nI_ltI (a := N) (b := f) (by omega) (by omega)).mp z; omega), cv_in hN h1 c]
    have hi := isIn_nat (n := N) (s := s) (f := f) hN (by have := pw14 hN hs; omega) c
    unfold isInB at hi
    exact hi
  · rw [if_pos ((nI_ltI (by omega) (by omega)).mpr (by omega)), cv_out hN (by omega) h2]
theorem bI_xor (x y : Bool) : decide (¬ bI x = bI y) = (x ^^ y) := by cases x <;> cases y <;> decide
theorem sim_differ : Ok_differ Sim := by
  intro n mf bd zN ub cs mu mn la fq rq r th np mp cc kn sc fc so lb lq wq q h x y u u' hu hu'
  subst hu hu'
  refine ⟨?_, h⟩
  obtain ⟨⟨-, -, e3, -⟩, ⟨-, -, hf, -⟩, -, -, -, -, -, -, hfo, -⟩ := h
  subst e3
  show cDiffer fc r x y = mDiffer fc q x y
  unfold cDiffer mDiffer
  by_cases c1 : x < 1
  · rw [if_pos c1, if_neg (fun z => i_lt1.mp c1 (hasB_iff.mp z).1)]
  rw [if_neg c1]
  by_cases c2 : nI fc < x
  · rw [if_pos c2, if_neg (fun z => i_nle.mpr c2 (hasB_iff.mp z).2)]
  have hx : hasB (nI fc) x = true := hasB_iff.mpr ⟨i_nlt.mp c1, i_nlt.mp c2⟩
  rw [if_neg c2, if_pos hx]
  by_cases c3 : y < 1
  · rw [if_pos c3, if_neg (fun z => i_lt1.mp c3 (hasB_iff.mp z).1)]
  rw [if_neg c3]
  by_cases c4 : y ≤ nI fc
  rotate_left
  · rw [if_neg c4, if_neg (fun z => c4 (hasB_iff.mp z).2)]
  rw [if_pos c4, if_pos (hasB_iff.mpr ⟨i_nlt.mp c3, c4⟩)]
  obtain ⟨a1, a2, a3⟩ := rng_nat (by omega) c1 (i_nlt.mp c2)
  obtain ⟨b1, b2, b3⟩ := rng_nat (by omega) c3 c4
  obtain ⟨N, s, hN, hs, g1, g2, g3⟩ := hfo (x.toNatClampNeg - 1) (by omega)
  obtain ⟨M, t, hM, ht, k1, k2, k3⟩ := hfo (y.toNatClampNeg - 1) (by omega)
  rw [show x.toNatClampNeg - 1 + 1 = x.toNatClampNeg by omega] at g1 g2
  rw [show y.toNatClampNeg - 1 + 1 = y.toNatClampNeg by omega] at k1 k2
  rw [g3, k3, bc_all (fun i h1 h2 => by rw [b_xor, cv_hi hN hs h1 h2, cv_hi hM ht h1 h2]; rfl)]
  congr 1
  refine cntU_congr (fun f h1 h2 => ?_)
  unfold dfB
  rw [g1, g2, k1, k2, was_bt hN hs h1 h2, was_bt hM ht h1 h2, bI_xor, b_xor]
theorem depM_congr {pa pb : Nat → Int32} {n : Nat} (hp : parOk n pa) (he : ∀ f, 1 ≤ f → f ≤ n → pa f = pb f) (hn : n ≤ 14) : ∀ t f, f ≤ n → depM pa t f = depM pb t f
  | 0, _, _ => rfl
  | t + 1, f, hf => by
    show (if f = 0 then 0 else depM pa t (pa f).toNatClampNeg + 1) = (if f = 0 then 0 else depM pb t (pb f).toNatClampNeg + 1)
    by_cases h0 : f = 0
    · rw [if_pos h0, if_pos h0]
    · obtain ⟨p, h1, h2⟩ := hp f (by omega) hf
      rw [if_neg h0, if_neg h0, ← he f (by omega) hf, h1, nI_clamp (by omega), depM_congr hp he hn t p (by omega)]
theorem sim_feature : Ok_feature Sim := by
  intro n mf bd zN ub cs mu mn la fq rq r th np mp cc kn sc fc so lb lq wq q h x k u u' hu hu'
  subst hu hu'
  have h0 := h
  obtain ⟨⟨e1, e2, -, -⟩, ⟨hn, hm, -, -⟩, hv, hd, -⟩ := h0
  subst e1 e2
  unfold cFeature mFeature
  obtain ⟨v1, v2, v3, v4, v5, v6, v7, v8, v9, v10, v11⟩ := hv
  by_cases c1 : takesB (nI np) x = true
  rotate_left
  · rw [if_neg c1, if_neg c1]; exact ⟨rfl, h⟩
  rw [if_pos c1, if_pos c1]
  by_cases c2 : k < 0
  · rw [if_pos c2, if_pos c2]; exact ⟨rfl, h⟩
  rw [if_neg c2, if_neg c2]
  by_cases c3 : k ≤ 2
  rotate_left
  · rw [if_neg c3, if_pos (i_nle.mp c3)]; exact ⟨rfl, h⟩
  rw [if_pos c3, if_neg (i_nlt.mpr c3)]
  by_cases c4 : np = 14
  · rw [if_neg (by rw [c4]; decide), if_pos (by rw [c4]; rfl)]; exact ⟨rfl, h⟩
  rw [if_pos (show nI np < 14 from (nI_ltI (a := np) (b := 14) (by omega) (by decide)).mpr (by omega)), if_neg (show ¬ nI np = 14 from fun z => c4 ((nI_eq (b := 14) (by omega) (by decide)).mp z))]
  obtain ⟨x1, x2⟩ := takes_nat hn c1
  have x3 : np ≠ 0 → 1 ≤ x.toNatClampNeg := fun hz => by
    unfold takesB at c1
    rw [if_neg (fun z => hz ((nI_eq0 (by omega)).mp z))] at c1
    exact (has_nat hn c1).2.1
  have q1o : ∀ f, f ≤ np → upd (q 1) (np + 1) x f = q 1 f := fun f hf => if_neg (by omega)
  have q1n : upd (q 1) (np + 1) x (np + 1) = x := if_pos rfl
  have pno : ∀ f, f ≤ np → parN (upd (q 1) (np + 1) x) f = parN (q 1) f := fun f hf => by unfold parN; rw [q1o f hf]
  have pnn : parN (upd (q 1) (np + 1) x) (np + 1) = x.toNatClampNeg := by unfold parN; rw [q1n]
  have hpar : parOk np (q 1) := parOk_of v1
  have dep : ∀ p, p ≤ np → dpt (upd (q 1) (np + 1) x) p = dpt (q 1) p := fun p hp => (depM_congr hpar (fun f h1 h2 => (q1o f h2).symm) hn p p hp).symm
  refine ⟨rfl, sim_upd h (Nat.le_succ _) (by omega) hm ⟨fun f h1 h2 => ?_, fun f h1 h2 => ?_, fun f hf => ?_, fun f j h1 h2 h3 h4 => ?_, v5, v6, v7, fun i hi => ?_, v9, v10, v11⟩ ⟨fun f h1 h2 => ?_, fun f i h1 h2 h3 h4 => ?_⟩ rfl rfl rfl rfl rfl rfl rfl⟩
  · show upd (q 1) (np + 1) x f = nI (parN (upd (q 1) (np + 1) x) f) ∧ parN (upd (q 1) (np + 1) x) f < f ∧ (f ≠ 1 → 1 ≤ parN (upd (q 1) (np + 1) x) f)
    by_cases e : f = np + 1
    · subst e
      rw [q1n, pnn]
      exact ⟨x1, by omega, fun hz => x3 (by omega)⟩
    · rw [q1o f (by omega), pno f (by omega)]
      exact v1 f h1 (by omega)
  · show upd (r 5) (np + 1) (bitI (nI x.toNatClampNeg)) f = bitI (upd (q 1) (np + 1) x f)
    by_cases e : f = np + 1
    · subst e
      rw [q1n, ← x1]; exact if_pos rfl
    · rw [q1o f (by omega), show upd (r 5) (np + 1) (bitI (nI x.toNatClampNeg)) f = r 5 f from if_neg e]
      exact v2 f h1 (by omega)
  · show upd (r 3) (np + 1) k f = upd (q 2) (np + 1) k f
    simp only [upd]; rw [v3 f hf]
  · show bt ((if k = 2 then upd (r 6) x.toNatClampNeg (r 6 x.toNatClampNeg ||| bitI (nI (np + 1))) else r 6) f) (14 - j) = (decide (j ≤ np + 1) && grbB (upd (q 1) (np + 1) x) (upd (q 2) (np + 1) k) (nI f) j)
    have hL : bt ((if k = 2 then upd (r 6) x.toNatClampNeg (r 6 x.toNatClampNeg ||| bitI (nI (np + 1))) else r 6) f) (14 - j) = (bt (r 6 f) (14 - j) || (decide (k = 2) && decide (f = x.toNatClampNeg) && decide (j = np + 1))) := by
      by_cases e1 : k = 2
      · rw [if_pos e1, decide_eq_true e1, Bool.true_and]
        by_cases e2 : f = x.toNatClampNeg
        · rw [show upd (r 6) x.toNatClampNeg (r 6 x.toNatClampNeg ||| bitI (nI (np + 1))) f = r 6 x.toNatClampNeg ||| bitI (nI (np + 1)) from if_pos e2, b_or, bt_bit (by omega) (by omega) (by omega), decide_eq_true e2, Bool.true_and, ← e2]
          congr 1
          exact decide_eq_decide.mpr (by omega)
        · rw [show upd (r 6) x.toNatClampNeg (r 6 x.toNatClampNeg ||| bitI (nI (np + 1))) f = r 6 f from if_neg e2, decide_eq_false e2, Bool.false_and, Bool.or_false]
      · rw [if_neg e1, decide_eq_false e1, Bool.false_and, Bool.false_and, Bool.or_false]
    rw [hL, v4 f j h1 h2 h3 h4]
    unfold grbB
    by_cases e : j = np + 1
    · subst e
      rw [q1n, show upd (q 2) (np + 1) k (np + 1) = k from if_pos rfl, decide_eq_false (show ¬ np + 1 ≤ np by omega), Bool.false_and, Bool.false_or, decide_eq_true (rfl : np + 1 = np + 1), Bool.and_true, decide_eq_true (Nat.le_refl (np + 1)), Bool.true_and]
      by_cases e2 : f = x.toNatClampNeg
      · rw [if_pos (by rw [e2]; exact x1), decide_eq_true e2, Bool.and_true]
      · rw [if_neg (fun z => e2 ((nI_inj15 f (by omega) x.toNatClampNeg (by omega) (by rw [← z]; exact x1)))), decide_eq_false e2, Bool.and_false]
    · rw [decide_eq_false e, Bool.and_false, Bool.or_false, show upd (q 2) (np + 1) k j = q 2 j from if_neg e, show upd (q 1) (np + 1) x j = q 1 j from if_neg e]
      congr 1
      exact decide_eq_decide.mpr (by omega)
  · obtain ⟨a1, a2, a3, a4, a5, a6, a7⟩ := v8 i hi
    exact ⟨a1, a2, a3, a4, a5, lit_mono (Nat.le_succ _) a6, lit_mono (Nat.le_succ _) a7⟩
  · show (if np = 0 then upd (r 4) (np + 1) 0 else upd (r 4) (np + 1) (r 4 x.toNatClampNeg + 1)) f = nI (dpt (upd (q 1) (np + 1) x) (parN (upd (q 1) (np + 1) x) f))
    by_cases e : f = np + 1
    · subst e
      rw [pnn, dep _ x2]
      by_cases e0 : np = 0
      · rw [if_pos e0, show upd (r 4) (np + 1) 0 (np + 1) = 0 from if_pos rfl, show x.toNatClampNeg = 0 by omega]; rfl
      · rw [if_neg e0, show upd (r 4) (np + 1) (r 4 x.toNatClampNeg + 1) (np + 1) = r 4 x.toNatClampNeg + 1 from if_pos rfl]
        have h9 := v1 x.toNatClampNeg (x3 e0) x2
        rw [hd.1 _ (x3 e0) x2, dpt_s hpar hn (x3 e0) x2 h9.1 h9.2.1, nI_1]
    · rw [pno f (by omega), dep _ (by have := (v1 f h1 (by omega)).2.1; omega)]
      rw [← hd.1 f h1 (by omega)]
      by_cases e0 : np = 0
      · omega
      · rw [if_neg e0]; exact if_neg e
  · show bt ((if k = 2 then upd (r 6) x.toNatClampNeg (r 6 x.toNatClampNeg ||| bitI (nI (np + 1))) else r 6) f) i = false
    by_cases e1 : k = 2
    · rw [if_pos e1]
      by_cases e2 : f = x.toNatClampNeg
      · rw [show upd (r 6) x.toNatClampNeg (r 6 x.toNatClampNeg ||| bitI (nI (np + 1))) f = r 6 x.toNatClampNeg ||| bitI (nI (np + 1)) from if_pos e2, b_or, bt_bit (by omega) (by omega) h4, ← e2, hd.2 f i h1 h2 h3 h4, decide_eq_false (by omega)]; rfl
      · rw [show upd (r 6) x.toNatClampNeg (r 6 x.toNatClampNeg ||| bitI (nI (np + 1))) f = r 6 f from if_neg e2]
        exact hd.2 f i h1 h2 h3 h4
    · rw [if_neg e1]; exact hd.2 f i h1 h2 h3 h4
