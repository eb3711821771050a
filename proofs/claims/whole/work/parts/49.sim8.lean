/-! choices as masks; count -/
theorem lit_bt {n t : Nat} {x : Int32} (hn : n ≤ 14) (ht : t < 2 ^ n) {f : Nat} (h1 : 1 ≤ f) (h2 : f ≤ n) : litB (nI n) (nI t) (nI f) = bt (cvN n t) (14 - f) ∧ litB (nI n) (nI t) (-nI f) = !bt (cvN n t) (14 - f) := by
  have hs : t < 2 ^ 31 := by have := pw14 hn ht; omega
  constructor
  · unfold litB
    rw [if_neg (pos_nle f (by omega) h1), isIn_nat hn hs h2, cv_in hn h1 h2]
  · unfold litB
    rw [if_pos (neg_le f (by omega)), Int32.neg_neg, isIn_nat hn hs h2, cv_in hn h1 h2]
theorem fits_iff {n t : Nat} {mu mn : Int32} {L : List Int32} (hn : n ≤ 14) (ht : t < 2 ^ n) (hL : ∀ x ∈ L, lit n x) (hm : masks mu mn L) : fitsB (cvN n t) mu mn = true ↔ ∀ x ∈ L, litB (nI n) (nI t) x = true := by
  obtain ⟨m1, m2, m3⟩ := hm
  unfold fitsB
  rw [decide_eq_true_iff]
  constructor
  · rintro ⟨a1, a2⟩ x hx
    obtain ⟨f, h1, h2, rfl | rfl⟩ := hL x hx
    · rw [(lit_bt (x := 0) hn ht h1 h2).1]
      have h3 : bt (cvN n t &&& mu) (14 - f) = bt mu (14 - f) := by rw [a1]
      rw [b_and, m1 f h1 (by omega), decide_eq_true hx, Bool.and_true] at h3
      exact h3
    · rw [(lit_bt (x := 0) hn ht h1 h2).2]
      have h3 : bt (cvN n t &&& mn) (14 - f) = bt 0 (14 - f) := by rw [a2]
      rw [b_and, m2 f h1 (by omega), decide_eq_true hx, Bool.and_true, b_0] at h3
      rw [h3]; rfl
  · intro h
    constructor
    · refine b_ext (fun i hi => ?_)
      rw [b_and]
      by_cases hi2 : 14 ≤ i
      · rw [(m3 i hi2 hi).1, Bool.and_false]
      · have e : i = 14 - (14 - i) := by omega
        rw [e, m1 (14 - i) (by omega) (by omega)]
        by_cases hx : nI (14 - i) ∈ L
        · obtain ⟨f, h1, h2, h3 | h3⟩ := hL _ hx
          · have := nI_inj15 (14 - i) (by omega) f (by omega) h3
            subst this
            have h4 := h _ hx
            rw [(lit_bt (x := 0) hn ht h1 h2).1] at h4
            rw [h4, decide_eq_true hx]; rfl
          · exact absurd h3.symm (nI_neg_ne h1 (by omega) (by omega))
        · rw [decide_eq_false hx, Bool.and_false]
    · refine b_ext (fun i hi => ?_)
      rw [b_and, b_0]
      by_cases hi2 : 14 ≤ i
      · rw [(m3 i hi2 hi).2, Bool.and_false]
      · have e : i = 14 - (14 - i) := by omega
        rw [e, m2 (14 - i) (by omega) (by omega)]
        by_cases hx : -nI (14 - i) ∈ L
        · obtain ⟨f, h1, h2, h3 | h3⟩ := hL _ hx
          · exact absurd h3 (nI_neg_ne (by omega) (by omega) (by omega))
          · have := neg_inj15 (14 - i) (by omega) f (by omega) h3
            subst this
            have h4 := h _ hx
            rw [(lit_bt (x := 0) hn ht h1 h2).2] at h4
            rw [decide_eq_true hx, Bool.and_true]
            cases h5 : bt (cvN n t) (14 - (14 - i))
            · rfl
            · rw [h5] at h4; cases h4
        · rw [decide_eq_false hx, Bool.and_false]
theorem zero_shr : ∀ k, k < 15 → ¬ ((0 : Int32) >>> (nI k &&& 31)) &&& 1 = 1 := by decide +kernel
theorem ch_iff {n t : Nat} {ch : Nat → Int32} {L : List Int32} (hr : rowIs ch L) (hl : L.length ≤ 14) : allZ (chB (nI n) ch 0 (nI t)) L.length = true ↔ ∀ x ∈ L, litB (nI n) (nI t) x = true := by
  rw [allZ_iff]
  have key : ∀ k, k < L.length → chB (nI n) ch 0 (nI t) k = litB (nI n) (nI t) (L.getD k 0) := fun k hk => by
    unfold chB
    rw [if_neg (zero_shr k (by omega)), hr k hk]
  constructor
  · intro h x hx
    obtain ⟨k, hk, rfl⟩ := List.getElem_of_mem hx
    have := h k hk
    rw [key k hk, List.getD_eq_getElem?_getD, List.getElem?_eq_getElem hk] at this
    exact this
  · intro h k hk
    rw [key k hk]
    exact h _ (getD_mem hk)
theorem fits_eq {n t : Nat} {mu mn : Int32} {L : List Int32} {ch : Nat → Int32} (hn : n ≤ 14) (ht : t < 2 ^ n) (hL : ∀ x ∈ L, lit n x) (hm : masks mu mn L) (hr : rowIs ch L) (hl : L.length ≤ 14) : fitsB (cvN n t) mu mn = allZ (chB (nI n) ch 0 (nI t)) L.length := by
  rw [Bool.eq_iff_iff, fits_iff hn ht hL hm, ch_iff hr hl]
theorem sim_known {n mf : Nat} {bd : Int32} {zN : Nat} {ub : Bool} {cs : Nat} {mu mn la : Int32} {fq rq : Nat} {r : Nat → Nat → Int32} {th : Int32} {np mp cc : Nat} {kn : Bool} {sc fc : Nat} {so : Bool} {lb lq : Int32} {wq : Nat} {q : Nat → Nat → Int32} (h : Sim (n, mf, bd, zN, ub, cs, mu, mn, la, fq, rq, r) (th, np, mp, cc, kn, sc, fc, so, lb, lq, wq, q)) {g k : Nat → Int32} (hg : rowIs g (vLL r bd n mf)) (hk : rowIs k (mL np mp q)) : Sim (n, mf, bd, (vLL r bd n mf).length, true, cs, mu, mn, la, fq, rq, upR r 18 g) (0, np, mp, cc, true, (mL np mp q).length, fc, so, lb, lq, wq, upR q 17 k) := by
  obtain ⟨⟨rfl, rfl, h3, h4⟩, h5, hv, hd, -, -, hc, hw, hfo, hso⟩ := h
  exact ⟨⟨rfl, rfl, h3, h4⟩, h5, hv, hd, fun _ => ⟨hg, rfl⟩, fun _ => ⟨hk, rfl⟩, hc, hw, hfo, hso⟩
theorem filt_len {P Q : Int32 → Bool} {f g : Nat → Int32} : ∀ S : List Nat, (∀ t ∈ S, P (f t) = Q (g t)) → ((S.map f).filter P).length = ((S.map g).filter Q).length
  | [], _ => rfl
  | t :: S, h => by
    rw [List.map_cons, List.map_cons, List.filter_cons, List.filter_cons, h t List.mem_cons_self]
    have ih := filt_len (P := P) (Q := Q) (f := f) (g := g) S (fun t ht => h t (List.mem_cons_of_mem _ ht))
    cases Q (g t)
    · exact ih
    · show (_ :: _).length = (_ :: _).length
      rw [List.length_cons, List.length_cons, ih]
theorem nI_long {k : Nat} (h : k < 2 ^ 31) : (nI k).toInt64 = lN k := by
  apply Int64.toInt_inj.mp
  rw [Int32.toInt_toInt64]
  show (Int32.ofNat k).toInt = (Int64.ofNat k).toInt
  rw [Int32.toInt_ofNat_of_lt h, Int64.toInt_ofNat_of_lt (by omega)]
theorem sim_count : Ok_count Sim := by
  intro n mf bd zN ub cs mu mn la fq rq r th np mp cc kn sc fc so lb lq wq q h st u u' hu hu'
  have h0 := h
  obtain ⟨⟨e1, e2, -, -⟩, ⟨hn, hm, -, -⟩, hv, -, -, -, ⟨L, hc1, hc2, hc3, hc4, hc5, hc6⟩, -⟩ := h0
  subst e1 e2
  unfold cCount at hu
  unfold mCount at hu'
  by_cases c1 : 0 ≤ lg_cmp st 0
  rotate_left
  · rw [if_neg c1] at hu hu'; subst hu hu'; exact ⟨rfl, h⟩
  rw [if_pos c1] at hu hu'
  by_cases c2 : lg_cmp ((1 : Int64) <<< ((nI np).toInt64 &&& 63)) st ≤ 0
  rotate_left
  · rw [if_neg c2] at hu hu'; subst hu hu'; exact ⟨rfl, h⟩
  rw [if_pos c2] at hu hu'
  obtain ⟨g, hg, rfl⟩ := hu
  obtain ⟨k, hk, rfl⟩ := hu'
  refine ⟨?_, sim_known h hg hk⟩
  have hl := chs_len hc3
  show (nI ((vLL r bd np mp).filter (fun v => fitsB v mu mn)).length).toInt64 = lN ((mL np mp q).filter (fun v => allZ (chB (nI np) (q 14) 0 v) cc)).length
  have e : ((vLL r bd np mp).filter (fun v => fitsB v mu mn)).length = ((mL np mp q).filter (fun v => allZ (chB (nI np) (q 14) 0 v) cc)).length := by
    rw [vLL_set hn hv, mL_set]
    exact filt_len _ (fun t ht => by rw [hc2]; exact fits_eq hn (setL_lt ht) hc3.1 hc6 hc5 (by omega))
  rw [e, nI_long (by
    have h1 := List.length_filter_le (fun v => allZ (chB (nI np) (q 14) 0 v) cc) (mL np mp q)
    have h2 := mLL_len hn (q 1) (q 2) (q 3) (q 4) (q 5) mp (q 8) (q 9) (q 10) (q 6) (q 12) (q 13)
    have h3 : (mL np mp q).length ≤ 16384 := h2
    omega)]
