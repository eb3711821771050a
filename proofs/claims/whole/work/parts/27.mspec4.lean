theorem stL {p : Program} {l : Launch} {e : Env} {R : Room} {s : State} {m : MethodId} {args : Array Value} {below : List Frame} {meth : Method} {c : Code} {H : Heap} {locs : List Loc} {cells slots : Nat} {Q : State → Prop} {pc : Nat} {ls : Array Slot} {rest : List Value} {x y : Int64} (h : x = y) (k : W p l e R s m args below meth c H locs cells slots Q (F0 m pc ls (.long y :: rest))) : W p l e R s m args below meth c H locs cells slots Q (F0 m pc ls (.long x :: rest)) := h ▸ k
/-! count -/
def mCount (n mf cc : Nat) (kn : Bool) (sc fc : Nat) (so : Bool) (la lq : Int32) (wq : Nat) (q : Nat → Nat → Int32) (st : Int64) (u : Int64 × MS) : Prop :=
  if 0 ≤ lg_cmp st 0 then
    if lg_cmp ((1 : Int64) <<< ((nI n).toInt64 &&& 63)) st ≤ 0 then ∃ g, rowIs g (mL n mf q) ∧ u = (lN ((mL n mf q).filter (fun v => allZ (chB (nI n) (q 14) 0 v) cc)).length, (0, n, mf, cc, true, (mL n mf q).length, fc, so, la, lq, wq, upR q 17 g))
    else u = (-1, (0, n, mf, cc, kn, sc, fc, so, la, lq, wq, q))
  else u = (-2, (0, n, mf, cc, kn, sc, fc, so, la, lq, wq, q))
/-! differ -/
def dfB (q : Nat → Nat → Int32) (i j : Nat) (f : Nat) : Bool := decide (¬ bI (wasB (q 19 i) (q 21 i) (nI f)) = bI (wasB (q 19 j) (q 21 j) (nI f)))
def mDiffer (fc : Nat) (q : Nat → Nat → Int32) (x y : Int32) : Int32 := if x < 1 then -1 else if nI fc < x then -1 else if y < 1 then -1 else if y ≤ nI fc then nI (cntU (dfB q x.toNatClampNeg y.toNatClampNeg) 14) else -1
theorem rng_nat {w : Nat} {x : Int32} (hw : w < 2 ^ 31) (h : ¬ x < 1) (h2 : x ≤ nI w) : x = nI x.toNatClampNeg ∧ 1 ≤ x.toNatClampNeg ∧ x.toNatClampNeg ≤ w := by
  obtain ⟨j, hj, rfl⟩ := nI_of (x := x) (fun z => h (Int32.lt_trans z (show (0 : Int32) < 1 by decide)))
  rw [nI_clamp hj]
  refine ⟨rfl, ?_, (nI_leI hj hw).mp h2⟩
  rcases Nat.lt_or_ge j 1 with q | q
  · exact absurd (nI_lt (a := j) (b := 1) q (by decide)) h
  · exact q
/-! level -/
def depM (pa : Nat → Int32) : Nat → Nat → Nat
  | 0, _ => 0
  | t + 1, f => if f = 0 then 0 else depM pa t (pa f).toNatClampNeg + 1
def parOk (n : Nat) (pa : Nat → Int32) : Prop := ∀ k, 1 ≤ k → k ≤ n → ∃ p, pa k = nI p ∧ p < k
theorem depM_fuel {n : Nat} {pa : Nat → Int32} (hp : parOk n pa) (hn : n ≤ 14) : ∀ t f, f ≤ t → f ≤ n → depM pa t f = depM pa f f
  | 0, f, h, _ => by have : f = 0 := by omega
                     subst this; rfl
  | t + 1, 0, _, _ => rfl
  | t + 1, f + 1, h, h2 => by
    obtain ⟨p, hp1, hp2⟩ := hp (f + 1) (by omega) h2
    show depM pa t (pa (f + 1)).toNatClampNeg + 1 = depM pa f (pa (f + 1)).toNatClampNeg + 1
    rw [hp1, nI_clamp (by omega), depM_fuel hp hn t p (by omega) (by omega), depM_fuel hp hn f p (by omega) (by omega)]
def dpt (pa : Nat → Int32) (f : Nat) : Nat := depM pa f f
theorem dpt_0 (pa : Nat → Int32) : dpt pa 0 = 0 := rfl
theorem dpt_s {n : Nat} {pa : Nat → Int32} (hp : parOk n pa) (hn : n ≤ 14) {f p : Nat} (h0 : 0 < f) (hf : f ≤ n) (h1 : pa f = nI p) (h2 : p < f) : dpt pa f = dpt pa p + 1 := by
  obtain ⟨g, rfl⟩ : ∃ g, f = g + 1 := ⟨f - 1, by omega⟩
  show depM pa g (pa (g + 1)).toNatClampNeg + 1 = depM pa p p + 1
  rw [h1, nI_clamp (by omega), depM_fuel hp hn g p (by omega) (by omega)]
theorem dpt_le {n : Nat} {pa : Nat → Int32} (hp : parOk n pa) (hn : n ≤ 14) : ∀ t f, f ≤ t → f ≤ n → dpt pa f ≤ f
  | 0, f, h, _ => by have : f = 0 := by omega
                     subst this; exact Nat.le_refl _
  | t + 1, 0, _, _ => Nat.le_refl _
  | t + 1, f + 1, h, h2 => by
    obtain ⟨p, hp1, hp2⟩ := hp (f + 1) (by omega) h2
    have := dpt_le hp hn t p (by omega) (by omega)
    rw [dpt_s hp hn (by omega) h2 hp1 hp2]
    omega
def mLevel (n : Nat) (q : Nat → Nat → Int32) (i : Int32) : Int32 × Int32 := if i < 0 then (0, 1) else if i < nI n then (nI (dpt (q 1) (q 1 (i.toNatClampNeg + 1)).toNatClampNeg), 0) else (0, 1)
/-! forces -/
def nthF (h : Nat → Bool) (v : Nat → Int32) (ix : Nat) : Nat → Nat → Int32
  | 0, _ => 0
  | t + 1, j => if h (j + 1) = true then (if cntU h j = ix then v (j + 1) else nthF h v ix t (j + 1)) else nthF h v ix t (j + 1)
theorem nthF_no {h : Nat → Bool} {v : Nat → Int32} {ix t j : Nat} (ht : t = (t - 1) + 1) (hh : h (j + 1) = false) : nthF h v ix t j = nthF h v ix (t - 1) (j + 1) := by
  rw [ht]
  show (if h (j + 1) = true then _ else _) = _
  rw [if_neg (by rw [hh]; decide), Nat.add_sub_cancel]
theorem nthF_ne {h : Nat → Bool} {v : Nat → Int32} {ix t j : Nat} (ht : t = (t - 1) + 1) (hh : h (j + 1) = true) (hc : ¬ cntU h j = ix) : nthF h v ix t j = nthF h v ix (t - 1) (j + 1) := by
  rw [ht]
  show (if h (j + 1) = true then _ else _) = _
  rw [if_pos hh, if_neg hc, Nat.add_sub_cancel]
theorem nthF_eq {h : Nat → Bool} {v : Nat → Int32} {ix t j : Nat} (ht : t = (t - 1) + 1) (hh : h (j + 1) = true) (hc : cntU h j = ix) : nthF h v ix t j = v (j + 1) := by
  rw [ht]
  show (if h (j + 1) = true then _ else _) = _
  rw [if_pos hh, if_pos hc]
def mfP (n cc : Nat) (q : Nat → Nat → Int32) (x : Int32) (v : Int32) : Bool := isInB (nI n) v x && allZ (chB (nI n) (q 14) 0 v) cc
def mAll (n mf cc : Nat) (q : Nat → Nat → Int32) (x : Int32) : Int32 := foldP (mfP n cc q x) (fun x y => x &&& y) (-1) (mL n mf q) (mL n mf q).length
def mSome (n mf cc : Nat) (q : Nat → Nat → Int32) (x : Int32) : Int32 := foldP (mfP n cc q x) (fun x y => x ||| y) 0 (mL n mf q) (mL n mf q).length
def mHit (n : Nat) (al so x : Int32) (g : Nat) : Bool := if nI g = x then false else if isInB (nI n) al (nI g) = true then true else !isInB (nI n) so (nI g)
def mVal (n : Nat) (al : Int32) (g : Nat) : Int32 := if isInB (nI n) al (nI g) = true then nI g else -nI g
def mForcesV (n mf cc : Nat) (q : Nat → Nat → Int32) (x i : Int32) : Int32 := if ((mL n mf q).filter (mfP n cc q x)).length = 0 then 0 else if i < 0 then 0 else nthF (mHit n (mAll n mf cc q x) (mSome n mf cc q x) x) (mVal n (mAll n mf cc q x)) i.toNatClampNeg n 0
def mForces (n mf cc : Nat) (kn : Bool) (sc fc : Nat) (so : Bool) (la lq : Int32) (wq : Nat) (q : Nat → Nat → Int32) (x i : Int32) (u : Int32 × MS) : Prop :=
  if hasB (nI n) x = true then ∃ g, rowIs g (mL n mf q) ∧ u = (mForcesV n mf cc q x i, (0, n, mf, cc, true, (mL n mf q).length, fc, so, la, lq, wq, upR q 17 g))
  else u = (-1, (0, n, mf, cc, kn, sc, fc, so, la, lq, wq, q))
/-! solve -/
def mP (n cc : Nat) (q : Nat → Nat → Int32) (wo v : Int32) : Bool := allZ (chB (nI n) (q 14) wo v) cc
def mFst (n mf cc : Nat) (q : Nat → Nat → Int32) (wo : Int32) : Int32 := fnd (fun v => allZ (chB (nI n) (q 14) wo v) cc) (mL n mf q)
def goL (n mf cc : Nat) (q : Nat → Nat → Int32) : Nat → Int32
  | 0 => 0
  | k + 1 => if 0 ≤ mFst n mf cc q (goL n mf cc q k ||| (1 : Int32) <<< (nI k &&& 31)) then goL n mf cc q k else goL n mf cc q k ||| (1 : Int32) <<< (nI k &&& 31)
def wlL (go : Int32) (ch : Nat → Int32) : Nat → List Int32
  | 0 => []
  | k + 1 => if (go >>> (nI k &&& 31)) &&& 1 = 0 then wlL go ch k ++ [ch k] else wlL go ch k
theorem wlL_t {go : Int32} {ch : Nat → Int32} {k : Nat} (h : (go >>> (nI k &&& 31)) &&& 1 = 0) : wlL go ch (k + 1) = wlL go ch k ++ [ch k] := if_pos h
theorem wlL_f {go : Int32} {ch : Nat → Int32} {k : Nat} (h : ¬ (go >>> (nI k &&& 31)) &&& 1 = 0) : wlL go ch (k + 1) = wlL go ch k := if_neg h
theorem wlL_len (go : Int32) (ch : Nat → Int32) : ∀ k, (wlL go ch k).length ≤ k
  | 0 => Nat.le_refl _
  | k + 1 => by
    have := wlL_len go ch k
    by_cases h : (go >>> (nI k &&& 31)) &&& 1 = 0
    · rw [wlL_t h, List.length_append]; show _ + 1 ≤ _; omega
    · rw [wlL_f h]; omega
theorem goL_t {n mf cc : Nat} {q : Nat → Nat → Int32} {k : Nat} (h : 0 ≤ mFst n mf cc q (goL n mf cc q k ||| (1 : Int32) <<< (nI k &&& 31))) : goL n mf cc q (k + 1) = goL n mf cc q k := if_pos h
theorem goL_f {n mf cc : Nat} {q : Nat → Nat → Int32} {k : Nat} (h : ¬ 0 ≤ mFst n mf cc q (goL n mf cc q k ||| (1 : Int32) <<< (nI k &&& 31))) : goL n mf cc q (k + 1) = goL n mf cc q k ||| (1 : Int32) <<< (nI k &&& 31) := if_neg h
def mWl (n mf cc : Nat) (q : Nat → Nat → Int32) : List Int32 := wlL (goL n mf cc q cc) (q 14) cc
def mSolve (n mf cc : Nat) (kn : Bool) (sc fc : Nat) (so : Bool) (la lq : Int32) (wq : Nat) (q : Nat → Nat → Int32) (u : Int32 × MS) : Prop :=
  if mFst n mf cc q 0 < 0 then ∃ g w, rowIs g (mL n mf q) ∧ rowIs w (mWl n mf cc q) ∧ u = (0, (0, n, mf, cc, true, (mL n mf q).length, fc, false, la, lq, (mWl n mf cc q).length, upR (upR q 17 g) 25 w))
  else if 200 ≤ nI fc then ∃ g, rowIs g (mL n mf q) ∧ u = (1, (0, n, mf, cc, true, (mL n mf q).length, fc, true, mFst n mf cc q 0, nI n, 0, upR q 17 g))
  else ∃ g, rowIs g (mL n mf q) ∧ u = (1, (0, n, mf, cc, true, (mL n mf q).length, fc + 1, true, mFst n mf cc q 0, nI n, 0, upR (upR (upR q 17 g) 19 (upd (q 19) (fc + 1) (mFst n mf cc q 0))) 21 (upd (q 21) (fc + 1) (nI n))))
