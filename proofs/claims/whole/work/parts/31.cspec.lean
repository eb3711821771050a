/-! the class's state: features, formulas, bounded, variants, upToDate, choices, must, mustNot, last, found, reasons, the rows -/
abbrev CS : Type := Nat × Nat × Int32 × Nat × Bool × Nat × Int32 × Int32 × Int32 × Nat × Nat × (Nat → Nat → Int32)
def cW (G : GG) (a : Nat → Nat) : CS → va_W
  | (n, mf, bd, zN, ub, cs, mu, mn, la, fq, rq, r) => [(oX7 (a 0) (a 1) (a 2) (a 9) (a 15) (a 19) (a 21) (a 23)), (oX6 (a 1) (a 2) (a 9) (a 15) (a 18) (nI zN) (bI ub)), (oX5 (a 2) (nI n) (a 3) (a 4) (a 5) (a 6) (a 7) (a 8) bd), (cI G (a 3) 15 (r 3)), (cI G (a 4) 15 (r 4)), (cI G (a 5) 15 (r 5)), (cI G (a 6) 15 (r 6)), (cI G (a 7) 15 (r 7)), (cI G (a 8) 15 (r 8)), (oX1 (a 9) (nI mf) (a 10) (a 11) (a 12) (a 13) (a 14)), (cI G (a 10) 40 (r 10)), (cI G (a 11) 40 (r 11)), (cI G (a 12) 40 (r 12)), (cI G (a 13) 40 (r 13)), (cI G (a 14) 40 (r 14)), (oX4 (a 15) (a 16) (a 17)), (cI G (a 16) 60 (r 16)), (cI G (a 17) 4 (r 17)), (cI G (a 18) 8192 (r 18)), (oX0 (a 19) (nI cs) mu mn (a 20)), (cI G (a 20) 14 (r 20)), (oX2 (a 21) la (nI fq) (a 22)), (cI G (a 22) 200 (r 22)), (oX3 (a 23) (nI rq) (a 24)), (cI G (a 24) 14 (r 24))]

/-! what the calls answer and make of it -/
def cFeature (n mf : Nat) (bd : Int32) (zN : Nat) (ub : Bool) (cs : Nat) (mu mn la : Int32) (fq rq : Nat) (r : Nat → Nat → Int32) (x k : Int32) : Int32 × CS :=
  if takesB (nI n) x = true then
    if k < 0 then (-2, (n, mf, bd, zN, ub, cs, mu, mn, la, fq, rq, r))
    else if k ≤ 2 then
      if nI n < 14 then (nI (n + 1), (n + 1, mf, bd, zN, false, cs, mu, mn, la, fq, rq, upR (upR (upR (upR r 3 (upd (r 3) (n + 1) k)) 4 (if n = 0 then upd (r 4) (n + 1) 0 else upd (r 4) (n + 1) (r 4 x.toNatClampNeg + 1))) 5 (upd (r 5) (n + 1) (bitI (nI x.toNatClampNeg)))) 6 (if k = 2 then upd (r 6) x.toNatClampNeg (r 6 x.toNatClampNeg ||| bitI (nI (n + 1))) else r 6)))
      else (-4, (n, mf, bd, zN, ub, cs, mu, mn, la, fq, rq, r))
    else (-2, (n, mf, bd, zN, ub, cs, mu, mn, la, fq, rq, r))
  else (-1, (n, mf, bd, zN, ub, cs, mu, mn, la, fq, rq, r))
def cGroup (n mf : Nat) (bd : Int32) (zN : Nat) (ub : Bool) (cs : Nat) (mu mn la : Int32) (fq rq : Nat) (r : Nat → Nat → Int32) (x lo hi : Int32) : Int32 × CS :=
  if hasB (nI n) x = true then
    if lo < 0 then (-2, (n, mf, bd, zN, ub, cs, mu, mn, la, fq, rq, r))
    else if hi < lo then (-2, (n, mf, bd, zN, ub, cs, mu, mn, la, fq, rq, r))
    else if hi ≤ 14 then (bcI (r 6 x.toNatClampNeg), (n, mf, bd ||| bitI (nI x.toNatClampNeg), zN, false, cs, mu, mn, la, fq, rq, upR (upR r 7 (upd (r 7) x.toNatClampNeg lo)) 8 (upd (r 8) x.toNatClampNeg hi)))
    else (-2, (n, mf, bd, zN, ub, cs, mu, mn, la, fq, rq, r))
  else (-1, (n, mf, bd, zN, ub, cs, mu, mn, la, fq, rq, r))
def cFormula (n mf : Nat) (bd : Int32) (zN : Nat) (ub : Bool) (cs : Nat) (mu mn la : Int32) (fq rq : Nat) (r : Nat → Nat → Int32) (o x y : Int32) : Int32 × CS :=
  if hasSignedB (nI n) x = true then
    if hasSignedB (nI n) y = true then
      if o < 0 then (-2, (n, mf, bd, zN, ub, cs, mu, mn, la, fq, rq, r))
      else if o ≤ 3 then
        if nI mf < 40 then
          if alwaysB o x y = true then (0, (n, mf, bd, zN, ub, cs, mu, mn, la, fq, rq, r))
          else (nI (mf + 1), (n, mf + 1, bd, zN, false, cs, mu, mn, la, fq, rq, upR (upR (upR (upR (upR r 10 (upd (r 10) mf o)) 11 (upd (r 11) mf (bitOfI x))) 12 (upd (r 12) mf (bitI x))) 13 (upd (r 13) mf (bitOfI y))) 14 (upd (r 14) mf (bitI y))))
        else (-4, (n, mf, bd, zN, ub, cs, mu, mn, la, fq, rq, r))
      else (-2, (n, mf, bd, zN, ub, cs, mu, mn, la, fq, rq, r))
    else (-1, (n, mf, bd, zN, ub, cs, mu, mn, la, fq, rq, r))
  else (-1, (n, mf, bd, zN, ub, cs, mu, mn, la, fq, rq, r))
def cAttribute (n mf : Nat) (bd : Int32) (zN : Nat) (ub : Bool) (cs : Nat) (mu mn la : Int32) (fq rq : Nat) (r : Nat → Nat → Int32) (x wh v : Int32) : Int32 × CS :=
  if x = 0 then
    if wh < 0 then (-2, (n, mf, bd, zN, ub, cs, mu, mn, la, fq, rq, r))
    else if 4 ≤ wh then (-2, (n, mf, bd, zN, ub, cs, mu, mn, la, fq, rq, r))
    else if v < -10000 then (-2, (n, mf, bd, zN, ub, cs, mu, mn, la, fq, rq, r))
    else if v ≤ 10000 then (1, (n, mf, bd, zN, false, cs, mu, mn, la, fq, rq, upR r 17 (upd (r 17) wh.toNatClampNeg v)))
    else (-2, (n, mf, bd, zN, ub, cs, mu, mn, la, fq, rq, r))
  else if hasB (nI n) x = true then
    if wh < 0 then (-2, (n, mf, bd, zN, ub, cs, mu, mn, la, fq, rq, r))
    else if 4 ≤ wh then (-2, (n, mf, bd, zN, ub, cs, mu, mn, la, fq, rq, r))
    else if v < -1000 then (-2, (n, mf, bd, zN, ub, cs, mu, mn, la, fq, rq, r))
    else if v ≤ 1000 then (1, (n, mf, bd, zN, false, cs, mu, mn, la, fq, rq, upR r 16 (upd (r 16) (wh.toNatClampNeg * 15 + x.toNatClampNeg) v)))
    else (-2, (n, mf, bd, zN, ub, cs, mu, mn, la, fq, rq, r))
  else (-1, (n, mf, bd, zN, ub, cs, mu, mn, la, fq, rq, r))
def cDiffer (fq : Nat) (r : Nat → Nat → Int32) (x y : Int32) : Int32 := if hasB (nI fq) x = true then if hasB (nI fq) y = true then bcI (r 22 (x.toNatClampNeg - 1) ^^^ r 22 (y.toNatClampNeg - 1)) else -1 else -1
theorem hasB_nat {w : Nat} {x : Int32} (hw : w < 2 ^ 31) (h : hasB (nI w) x = true) : x = nI (x.toNatClampNeg - 1 + 1) ∧ x.toNatClampNeg - 1 < w := by
  obtain ⟨h1, h2⟩ := hasB_iff.mp h
  obtain ⟨a, b, d⟩ := rng_nat hw (i_nlt.mpr h1) h2
  rw [show x.toNatClampNeg - 1 + 1 = x.toNatClampNeg by omega]
  exact ⟨a, by omega⟩
theorem takes_nat {n : Nat} {x : Int32} (hn : n ≤ 14) (h : takesB (nI n) x = true) : x = nI x.toNatClampNeg ∧ x.toNatClampNeg ≤ n := by
  unfold takesB at h
  by_cases h0 : nI n = 0
  · rw [if_pos h0] at h
    have := of_decide_eq_true h
    subst this
    exact ⟨rfl, Nat.zero_le _⟩
  · rw [if_neg h0] at h
    have := has_nat hn h
    exact ⟨this.1, this.2.2⟩
theorem nI_ite (c : Prop) [Decidable c] (x y : Nat) : nI (if c then x else y) = if c then nI x else nI y := by split <;> rfl
def cFnd (n mf : Nat) (bd : Int32) (r : Nat → Nat → Int32) (mu mn : Int32) : Int32 := fnd (fun v => fitsB v mu mn) (vLL r bd n mf)
def cCount (n mf : Nat) (bd : Int32) (zN : Nat) (ub : Bool) (cs : Nat) (mu mn la : Int32) (fq rq : Nat) (r : Nat → Nat → Int32) (st : Int64) (u : Int64 × CS) : Prop :=
  if 0 ≤ lg_cmp st 0 then
    if lg_cmp ((1 : Int64) <<< ((nI n).toInt64 &&& 63)) st ≤ 0 then ∃ g, rowIs g (vLL r bd n mf) ∧ u = ((nI ((vLL r bd n mf).filter (fun v => fitsB v mu mn)).length).toInt64, (n, mf, bd, (vLL r bd n mf).length, true, cs, mu, mn, la, fq, rq, upR r 18 g))
    else u = (-1, (n, mf, bd, zN, ub, cs, mu, mn, la, fq, rq, r))
  else u = (-2, (n, mf, bd, zN, ub, cs, mu, mn, la, fq, rq, r))
def cNew (L : List Int32) (x : Int32) (on : Bool) : List Int32 := if 0 ≤ x then L.filter (dropB x) ++ [if on then x else -x] else L.filter (dropB (-x))
def cMu (mu x : Int32) (on : Bool) : Int32 := if 0 ≤ x then mu &&& (bitI x ^^^ -1) ||| (if on then bitI x else 0) else mu &&& (bitI (-x) ^^^ -1)
def cMn (mn x : Int32) (on : Bool) : Int32 := if 0 ≤ x then mn &&& (bitI x ^^^ -1) ||| (if on then 0 else bitI x) else mn &&& (bitI (-x) ^^^ -1)
def cChoose (n mf : Nat) (bd : Int32) (zN : Nat) (ub : Bool) (L : List Int32) (mu mn la : Int32) (fq rq : Nat) (r : Nat → Nat → Int32) (x : Int32) (on : Bool) (u : Int32 × CS) : Prop :=
  if hasSignedB (nI n) x = true then ∃ g, rowIs g (cNew L x on) ∧ u = (nI (cNew L x on).length, (n, mf, bd, zN, ub, (cNew L x on).length, cMu mu x on, cMn mn x on, la, fq, rq, upR r 20 g))
  else u = (-1, (n, mf, bd, zN, ub, L.length, mu, mn, la, fq, rq, r))
def nthI (h : Nat → Bool) (v : Nat → Int32) (ix : Int32) : Nat → Nat → Int32
  | 0, _ => 0
  | t + 1, j => if h (j + 1) = true then (if nI (cntU h j) = ix then v (j + 1) else nthI h v ix t (j + 1)) else nthI h v ix t (j + 1)
theorem nthI_no {h : Nat → Bool} {v : Nat → Int32} {ix : Int32} {t j : Nat} (ht : t = (t - 1) + 1) (hh : h (j + 1) = false) : nthI h v ix t j = nthI h v ix (t - 1) (j + 1) := by
  rw [ht]
  show (if h (j + 1) = true then _ else _) = _
  rw [if_neg (by rw [hh]; decide), Nat.add_sub_cancel]
theorem nthI_ne {h : Nat → Bool} {v : Nat → Int32} {ix : Int32} {t j : Nat} (ht : t = (t - 1) + 1) (hh : h (j + 1) = true) (hc : ¬ nI (cntU h j) = ix) : nthI h v ix t j = nthI h v ix (t - 1) (j + 1) := by
  rw [ht]
  show (if h (j + 1) = true then _ else _) = _
  rw [if_pos hh, if_neg hc, Nat.add_sub_cancel]
theorem nthI_eq {h : Nat → Bool} {v : Nat → Int32} {ix : Int32} {t j : Nat} (ht : t = (t - 1) + 1) (hh : h (j + 1) = true) (hc : nI (cntU h j) = ix) : nthI h v ix t j = v (j + 1) := by
  rw [ht]
  show (if h (j + 1) = true then _ else _) = _
  rw [if_pos hh, if_pos hc]
def cHit (al so x : Int32) (g : Nat) : Bool := if nI g = x then false else if al &&& bitI (nI g) = 0 then decide (so &&& bitI (nI g) = 0) else true
def cVal (al : Int32) (g : Nat) : Int32 := if al &&& bitI (nI g) = 0 then -nI g else nI g
def cForcedV (n : Nat) (al so x i : Int32) : Int32 := nthI (cHit al so x) (cVal al) i n 0
def cForcesV (n mf : Nat) (bd : Int32) (zN : Nat) (ub : Bool) (cs : Nat) (mu mn la : Int32) (fq rq : Nat) (r : Nat → Nat → Int32) (x i : Int32) : Int32 :=
  if fnd (fun v => fitsB v (mu ||| bitI x) mn) (vLL r bd n mf) = -1 then 0 else cForcedV n (foldP (fun v => fitsB v (mu ||| bitI x) mn) (fun x y => x &&& y) (-1) (vLL r bd n mf) (vLL r bd n mf).length) (foldP (fun v => fitsB v (mu ||| bitI x) mn) (fun x y => x ||| y) 0 (vLL r bd n mf) (vLL r bd n mf).length) x i
def cForces (n mf : Nat) (bd : Int32) (zN : Nat) (ub : Bool) (cs : Nat) (mu mn la : Int32) (fq rq : Nat) (r : Nat → Nat → Int32) (x i : Int32) (u : Int32 × CS) : Prop :=
  if hasB (nI n) x = true then ∃ g, rowIs g (vLL r bd n mf) ∧ u = (cForcesV n mf bd zN ub cs mu mn la fq rq r x i, (n, mf, bd, (vLL r bd n mf).length, true, cs, mu, mn, la, fq, rq, upR r 18 g))
  else u = (-1, (n, mf, bd, zN, ub, cs, mu, mn, la, fq, rq, r))
def exM (F : Int32 → Int32 → Int32) (td : Nat → Int32) (mu mn : Int32) : Nat → Int32 × Int32 × List Int32
  | 0 => (mu, mn, [])
  | k + 1 => if F ((exM F td mu mn k).1 &&& (bitI (td k) ^^^ -1)) ((exM F td mu mn k).2.1 &&& (bitI (-td k) ^^^ -1)) = -1 then ((exM F td mu mn k).1 &&& (bitI (td k) ^^^ -1), (exM F td mu mn k).2.1 &&& (bitI (-td k) ^^^ -1), (exM F td mu mn k).2.2) else ((exM F td mu mn k).1, (exM F td mu mn k).2.1, (exM F td mu mn k).2.2 ++ [td k])
theorem exM_t {F : Int32 → Int32 → Int32} {td : Nat → Int32} {mu mn : Int32} {k : Nat} (h : F ((exM F td mu mn k).1 &&& (bitI (td k) ^^^ -1)) ((exM F td mu mn k).2.1 &&& (bitI (-td k) ^^^ -1)) = -1) : exM F td mu mn (k + 1) = ((exM F td mu mn k).1 &&& (bitI (td k) ^^^ -1), (exM F td mu mn k).2.1 &&& (bitI (-td k) ^^^ -1), (exM F td mu mn k).2.2) := if_pos h
theorem exM_f {F : Int32 → Int32 → Int32} {td : Nat → Int32} {mu mn : Int32} {k : Nat} (h : ¬ F ((exM F td mu mn k).1 &&& (bitI (td k) ^^^ -1)) ((exM F td mu mn k).2.1 &&& (bitI (-td k) ^^^ -1)) = -1) : exM F td mu mn (k + 1) = ((exM F td mu mn k).1, (exM F td mu mn k).2.1, (exM F td mu mn k).2.2 ++ [td k]) := if_neg h
theorem exM_len (F : Int32 → Int32 → Int32) (td : Nat → Int32) (mu mn : Int32) : ∀ k, (exM F td mu mn k).2.2.length ≤ k
  | 0 => Nat.le_refl _
  | k + 1 => by
    have := exM_len F td mu mn k
    by_cases h : F ((exM F td mu mn k).1 &&& (bitI (td k) ^^^ -1)) ((exM F td mu mn k).2.1 &&& (bitI (-td k) ^^^ -1)) = -1
    · rw [exM_t h]; show (exM F td mu mn k).2.2.length ≤ k + 1; omega
    · rw [exM_f h]; show ((exM F td mu mn k).2.2 ++ [td k]).length ≤ k + 1; rw [List.length_append]; show _ + 1 ≤ _; omega
def cSolve (n mf : Nat) (bd : Int32) (zN : Nat) (ub : Bool) (cs : Nat) (mu mn la : Int32) (fq rq : Nat) (r : Nat → Nat → Int32) (u : Int32 × CS) : Prop :=
  if fnd (fun v => fitsB v mu mn) (vLL r bd n mf) = -1 then ∃ g w, rowIs g (vLL r bd n mf) ∧ rowIs w (exM (cFnd n mf bd r) (r 20) mu mn cs).2.2 ∧ u = (0, (n, mf, bd, (vLL r bd n mf).length, true, cs, mu, mn, 0, fq, (exM (cFnd n mf bd r) (r 20) mu mn cs).2.2.length, upR (upR r 18 g) 24 w))
  else ∃ g, rowIs g (vLL r bd n mf) ∧ u = (1, (n, mf, bd, (vLL r bd n mf).length, true, cs, mu, mn, fnd (fun v => fitsB v mu mn) (vLL r bd n mf), if fq < 200 then fq + 1 else fq, 0, upR (upR r 18 g) 22 (if fq < 200 then upd (r 22) fq (fnd (fun v => fitsB v mu mn) (vLL r bd n mf)) else r 22)))
