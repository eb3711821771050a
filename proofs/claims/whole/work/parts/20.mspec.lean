/-! what the reference's methods answer -/
def isInB (z s f : Int32) : Bool := decide ((s >>> ((z - f) &&& 31)) &&& 1 = 1)
def litB (z s x : Int32) : Bool := if x ≤ 0 then !isInB z s (-x) else isInB z s x
def litOkB (z x : Int32) : Bool := if hasB z x then true else if 0 ≤ x then false else if x < -14 then false else hasB z (-x)
def wasB (s q f : Int32) : Bool := if f < 1 then false else if q < f then false else decide ((s >>> ((q - f) &&& 31)) &&& 1 = 1)
def cntU (P : Nat → Bool) : Nat → Nat
  | 0 => 0
  | k + 1 => if P (k + 1) then cntU P k + 1 else cntU P k
theorem cntU_le (P : Nat → Bool) : ∀ k, cntU P k ≤ k
  | 0 => Nat.le_refl _
  | k + 1 => by
    have := cntU_le P k
    show (if P (k + 1) then cntU P k + 1 else cntU P k) ≤ _
    split <;> omega
theorem cntU_t {P : Nat → Bool} {k : Nat} (h : P (k + 1) = true) : cntU P (k + 1) = cntU P k + 1 := by
  show (if P (k + 1) then cntU P k + 1 else cntU P k) = _
  rw [if_pos h]
theorem cntU_f {P : Nat → Bool} {k : Nat} (h : P (k + 1) = false) : cntU P (k + 1) = cntU P k := by
  show (if P (k + 1) then cntU P k + 1 else cntU P k) = _
  rw [if_neg (by rw [h]; decide)]
theorem allU_down {P : Nat → Bool} {k : Nat} (h : allU P k = false) : ∀ N, k ≤ N → allU P N = false
  | 0, hk => by have : k = 0 := by omega
                subst this; exact h
  | N + 1, hk => by
    rcases Nat.lt_or_ge k (N + 1) with q | q
    · show (allU P N && P (N + 1)) = false
      rw [allU_down h N (by omega)]; rfl
    · have : k = N + 1 := by omega
      subst this; exact h
theorem allZ_down {P : Nat → Bool} {k : Nat} (h : allZ P k = false) : ∀ N, k ≤ N → allZ P N = false
  | 0, hk => by have : k = 0 := by omega
                subst this; exact h
  | N + 1, hk => by
    rcases Nat.lt_or_ge k (N + 1) with q | q
    · show (allZ P N && P N) = false
      rw [allZ_down h N (by omega)]; rfl
    · have : k = N + 1 := by omega
      subst this; exact h
def grbB (pa ki : Nat → Int32) (f : Int32) (k : Nat) : Bool := if pa k = f then decide (ki k = 2) else false
def treB (z : Int32) (pa ki : Nat → Int32) (s : Int32) (f : Nat) : Bool := if f = 1 then isInB z s 1 else (isInB z s (pa f) || !isInB z s (nI f)) && (decide (ki f ≠ 0) || !isInB z s (pa f) || isInB z s (nI f))
def gcnB (z : Int32) (pa ki : Nat → Int32) (s f : Int32) (k : Nat) : Bool := if pa k = f then (if ki k = 2 then isInB z s (nI k) else false) else false
def mgrB (n : Nat) (pa ki gd le mo : Nat → Int32) (s : Int32) (f : Nat) : Bool := if gd f = 0 then true else if isInB (nI n) s (nI f) = false then true else if nI (cntU (gcnB (nI n) pa ki s (nI f)) n) < le f then false else decide (nI (cntU (gcnB (nI n) pa ki s (nI f)) n) ≤ mo f)
def mtrB (n : Nat) (pa ki gd le mo : Nat → Int32) (s : Int32) : Bool := allU (treB (nI n) pa ki s) n && allU (mgrB n pa ki gd le mo s) n
def mfrB (z : Int32) (op fa fb : Nat → Int32) (s : Int32) (k : Nat) : Bool := holdsB (op k) (litB z s (fa k)) (litB z s (fb k))
def mcaB (n : Nat) (sm ld lm : Nat → Int32) (s : Int32) (wh : Nat) : Bool := if ld wh = 0 then true else decide (sumT (fun f => if isInB (nI n) s (nI f) then sm (4 * f + wh) else 0) n ≤ lm wh)
def chB (z : Int32) (ch : Nat → Int32) (wo s : Int32) (k : Nat) : Bool := if (wo >>> (nI k &&& 31)) &&& 1 = 1 then true else litB z s (ch k)
def mOk (n : Nat) (pa ki gd le mo : Nat → Int32) (m : Nat) (op fa fb sm ld lm : Nat → Int32) (s : Int32) : Bool := mtrB n pa ki gd le mo s && (allZ (mfrB (nI n) op fa fb s) m && allZ (mcaB n sm ld lm s) 4)
/-- all sets of n features, the first one first, down to t -/
def setsD (n : Nat) (t : Nat) : List Int32 := (List.range' t (2 ^ n - t)).reverse.map nI
theorem setsD_s {n t : Nat} (h : t < 2 ^ n) : setsD n t = setsD n (t + 1) ++ [nI t] := by
  unfold setsD
  rw [show 2 ^ n - t = (2 ^ n - (t + 1)) + 1 by omega, List.range'_succ, List.reverse_cons, List.map_append]
  rfl
theorem setsD_e (n : Nat) : setsD n (2 ^ n) = [] := by
  unfold setsD
  rw [Nat.sub_self]; rfl
theorem setsD_len (n t : Nat) : (setsD n t).length = 2 ^ n - t := by simp [setsD]
def mLL (n : Nat) (pa ki gd le mo : Nat → Int32) (m : Nat) (op fa fb sm ld lm : Nat → Int32) : List Int32 := (setsD n 0).filter (mOk n pa ki gd le mo m op fa fb sm ld lm)
theorem rowIs_app {f : Nat → Int32} {L : List Int32} {x : Int32} (h : rowIs f L) : rowIs (upd f L.length x) (L ++ [x]) := fun k hk => by
  by_cases he : k = L.length
  · subst he
    rw [getD_app2 (Nat.le_refl _), Nat.sub_self]
    simp [upd]
  · have : k < L.length := by rw [List.length_append] at hk; have : k < L.length + 1 := hk; omega
    rw [getD_app1 this]
    simp only [upd, if_neg he]
    exact h k this
theorem fil_t {P : Int32 → Bool} {L : List Int32} {x : Int32} (h : P x = true) : (L ++ [x]).filter P = L.filter P ++ [x] := by rw [List.filter_append, fl_t h]
theorem fil_f {P : Int32 → Bool} {L : List Int32} {x : Int32} (h : P x = false) : (L ++ [x]).filter P = L.filter P := by rw [List.filter_append, fl_f h, List.append_nil]
theorem pow_le14 {n : Nat} (h : n ≤ 14) : 2 ^ n ≤ 16384 := Nat.le_trans (Nat.pow_le_pow_right (by decide) h) (by decide)
theorem shl_one {n : Nat} (h : n ≤ 14) : (1 : Int32) <<< (nI n &&& 31) = nI (2 ^ n) := by
  have h2 := pow_le14 h
  have h3 := pk_shlN (n := 1) (nI n &&& 31) n (s_l n (by omega)) (by omega)
  rw [Nat.one_mul] at h3
  exact h3
theorem nI_eq0 {f : Nat} (h : f < 2 ^ 31) : nI f = 0 ↔ f = 0 := nI_eq (b := 0) h (by decide)
theorem and_t {a : Bool} {M : Nat → Bool} {k : Nat} (hb : (a && allU M k) = true) (h : M (k + 1) = true) : (1 : Int32) = bI (a && allU M (k + 1)) := by
  rw [Bool.and_eq_true] at hb
  rw [hb.1, allU_s hb.2 h]; rfl
theorem and_f {a : Bool} {M : Nat → Bool} {k : Nat} (hb : (a && allU M k) = true) (h : M (k + 1) = false) : (0 : Int32) = bI (a && allU M (k + 1)) := by
  rw [show allU M (k + 1) = (allU M k && M (k + 1)) from rfl, h, Bool.and_false, Bool.and_false]; rfl
theorem and_down {a : Bool} {M : Nat → Bool} {k : Nat} (hb : (a && allU M k) = false) (N : Nat) (h : k ≤ N) : (a && allU M N) = false := by
  cases a with
  | false => rfl
  | true => exact allU_down hb N h
def chOf (ch : Nat → Int32) (f : Int32) : Nat → Int32
  | 0 => -1
  | k + 1 => if ch k = f then nI k else if ch k = -f then nI k else chOf ch f k
theorem chOf_1 {ch : Nat → Int32} {f : Int32} {k : Nat} (h : ch k = f) : chOf ch f (k + 1) = nI k := if_pos h
theorem chOf_2 {ch : Nat → Int32} {f : Int32} {k : Nat} (h : ch k = -f) : chOf ch f (k + 1) = nI k := by
  show (if ch k = f then nI k else if ch k = -f then nI k else chOf ch f k) = _
  split
  · rfl
  · rfl
theorem chOf_0 {ch : Nat → Int32} {f : Int32} {k : Nat} (h1 : ¬ ch k = f) (h : ¬ ch k = -f) : chOf ch f (k + 1) = chOf ch f k := by
  show (if ch k = f then nI k else if ch k = -f then nI k else chOf ch f k) = _
  rw [if_neg h1, if_neg h]
