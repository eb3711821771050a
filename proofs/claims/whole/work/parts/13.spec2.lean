/-! sums, counts, all-of; rows that hold lists -/
def allZ (P : Nat → Bool) : Nat → Bool
  | 0 => true
  | k + 1 => allZ P k && P k
def allU (P : Nat → Bool) : Nat → Bool
  | 0 => true
  | k + 1 => allU P k && P (k + 1)
def sumT (g : Nat → Int32) : Nat → Int32
  | 0 => 0
  | k + 1 => sumT g k + g (k + 1)
theorem allZ_no {P : Nat → Bool} {k : Nat} (h : P k = false) : ∀ N, k < N → allZ P N = false
  | 0, hk => absurd hk (Nat.not_lt_zero _)
  | N + 1, hk => by
    show (allZ P N && P N) = false
    rcases Nat.lt_or_ge k N with q | q
    · rw [allZ_no h N q]; rfl
    · have : k = N := by omega
      subst this
      rw [h, Bool.and_false]
theorem allU_no {P : Nat → Bool} {k : Nat} (h : P (k + 1) = false) : ∀ N, k < N → allU P N = false
  | 0, hk => absurd hk (Nat.not_lt_zero _)
  | N + 1, hk => by
    show (allU P N && P (N + 1)) = false
    rcases Nat.lt_or_ge k N with q | q
    · rw [allU_no h N q]; rfl
    · have : k = N := by omega
      subst this
      rw [h, Bool.and_false]
theorem allZ_s {P : Nat → Bool} {k : Nat} (h : allZ P k = true) (h2 : P k = true) : allZ P (k + 1) = true := by
  show (allZ P k && P k) = true
  rw [h, h2]; rfl
theorem allU_s {P : Nat → Bool} {k : Nat} (h : allU P k = true) (h2 : P (k + 1) = true) : allU P (k + 1) = true := by
  show (allU P k && P (k + 1)) = true
  rw [h, h2]; rfl
theorem allZ_iff {P : Nat → Bool} : ∀ {N : Nat}, allZ P N = true ↔ ∀ k, k < N → P k = true
  | 0 => ⟨fun _ k h => absurd h (Nat.not_lt_zero _), fun _ => rfl⟩
  | N + 1 => by
    show (allZ P N && P N) = true ↔ _
    rw [Bool.and_eq_true, allZ_iff]
    constructor
    · rintro ⟨h1, h2⟩ k hk
      rcases Nat.lt_or_ge k N with q | q
      · exact h1 k q
      · rw [show k = N by omega]; exact h2
    · exact fun h => ⟨fun k hk => h k (by omega), h N (by omega)⟩
theorem allU_iff {P : Nat → Bool} : ∀ {N : Nat}, allU P N = true ↔ ∀ k, 1 ≤ k → k ≤ N → P k = true
  | 0 => ⟨fun _ k h h2 => absurd h (by omega), fun _ => rfl⟩
  | N + 1 => by
    show (allU P N && P (N + 1)) = true ↔ _
    rw [Bool.and_eq_true, allU_iff]
    constructor
    · rintro ⟨h1, h2⟩ k hk hk2
      rcases Nat.lt_or_ge k (N + 1) with q | q
      · exact h1 k hk (by omega)
      · rw [show k = N + 1 by omega]; exact h2
    · exact fun h => ⟨fun k h1 h2 => h k h1 (by omega), h (N + 1) (by omega) (by omega)⟩
/-- a row's first places hold a list -/
def rowIs (f : Nat → Int32) (L : List Int32) : Prop := ∀ k, k < L.length → f k = L.getD k 0
theorem getD_take {L : List Int32} {j k : Nat} (h : k < j) : (L.take j).getD k 0 = L.getD k 0 := by
  simp [List.getD, List.getElem?_take, h]
theorem take_s {L : List Int32} {j : Nat} (h : j < L.length) : L.take (j + 1) = L.take j ++ [L.getD j 0] := by
  rw [List.take_add_one, List.getElem?_eq_getElem h, List.getD_eq_getElem?_getD, List.getElem?_eq_getElem h]
  rfl
theorem getD_app1 {A B : List Int32} {k : Nat} (h : k < A.length) : (A ++ B).getD k 0 = A.getD k 0 := by
  simp [List.getD, List.getElem?_append_left h]
theorem getD_app2 {A B : List Int32} {k : Nat} (h : A.length ≤ k) : (A ++ B).getD k 0 = B.getD (k - A.length) 0 := by
  simp [List.getD, List.getElem?_append_right h]
theorem fl_t {P : Int32 → Bool} {v : Int32} (h : P v = true) : [v].filter P = [v] := by simp [h]
theorem fl_f {P : Int32 → Bool} {v : Int32} (h : P v = false) : [v].filter P = [] := by simp [h]
/-- a row is made smaller in place: j places are read, what is kept stands at its head -/
def cmpI (L : List Int32) (P : Int32 → Bool) (j : Nat) (f : Nat → Int32) : Prop := j ≤ L.length ∧ rowIs f ((L.take j).filter P) ∧ ∀ k, j ≤ k → k < L.length → f k = L.getD k 0
def cmpN (L : List Int32) (P : Int32 → Bool) (j : Nat) : Nat := ((L.take j).filter P).length
theorem cmpN_le (L : List Int32) (P : Int32 → Bool) (j : Nat) : cmpN L P j ≤ j := by
  have h := List.length_filter_le P (L.take j)
  have h2 := List.length_take_le j L
  unfold cmpN
  omega
theorem cmpI_0 {L : List Int32} {P : Int32 → Bool} {f : Nat → Int32} (h : rowIs f L) : cmpI L P 0 f := ⟨Nat.zero_le _, fun k hk => absurd hk (by simp), fun k _ h2 => h k h2⟩
theorem cmpN_0 (L : List Int32) (P : Int32 → Bool) : cmpN L P 0 = 0 := by simp [cmpN]
theorem cmpI_read {L : List Int32} {P : Int32 → Bool} {j : Nat} {f : Nat → Int32} (h : cmpI L P j f) (hj : j < L.length) : f j = L.getD j 0 := h.2.2 j (Nat.le_refl _) hj
theorem cmpN_keep {L : List Int32} {P : Int32 → Bool} {j : Nat} (hj : j < L.length) (hp : P (L.getD j 0) = true) : cmpN L P (j + 1) = cmpN L P j + 1 := by
  unfold cmpN
  rw [take_s hj, List.filter_append, fl_t hp, List.length_append]
  rfl
theorem cmpN_drop {L : List Int32} {P : Int32 → Bool} {j : Nat} (hj : j < L.length) (hp : P (L.getD j 0) = false) : cmpN L P (j + 1) = cmpN L P j := by
  unfold cmpN
  rw [take_s hj, List.filter_append, fl_f hp, List.append_nil]
theorem cmpI_keep {L : List Int32} {P : Int32 → Bool} {j : Nat} {f : Nat → Int32} (h : cmpI L P j f) (hj : j < L.length) (hp : P (L.getD j 0) = true) : cmpI L P (j + 1) (upd f (cmpN L P j) (L.getD j 0)) := by
  have hn := cmpN_le L P j
  refine ⟨hj, fun k hk => ?_, fun k h1 h2 => ?_⟩
  · have hk' : k < cmpN L P j + 1 := by rw [← cmpN_keep hj hp]; exact hk
    rw [take_s hj, List.filter_append, fl_t hp]
    by_cases hkn : k = cmpN L P j
    · subst hkn
      rw [show cmpN L P j = ((L.take j).filter P).length from rfl, getD_app2 (Nat.le_refl _), Nat.sub_self]
      simp [upd]
    · rw [getD_app1 (show k < _ by unfold cmpN at hkn hk'; omega)]
      simp only [upd, if_neg hkn]
      exact h.2.1 k (by unfold cmpN at hkn hk'; omega)
  · simp only [upd, if_neg (show k ≠ cmpN L P j by omega)]
    exact h.2.2 k (by omega) h2
theorem cmpI_drop {L : List Int32} {P : Int32 → Bool} {j : Nat} {f : Nat → Int32} (h : cmpI L P j f) (hj : j < L.length) (hp : P (L.getD j 0) = false) : cmpI L P (j + 1) f := by
  refine ⟨hj, fun k hk => ?_, fun k h1 h2 => h.2.2 k (by omega) h2⟩
  rw [take_s hj, List.filter_append, fl_f hp, List.append_nil] at hk ⊢
  exact h.2.1 k hk
theorem cmpI_end {L : List Int32} {P : Int32 → Bool} {f : Nat → Int32} (h : cmpI L P L.length f) : rowIs f (L.filter P) := by
  have := h.2.1
  rwa [List.take_length] at this
theorem cmpN_end (L : List Int32) (P : Int32 → Bool) : cmpN L P L.length = (L.filter P).length := by unfold cmpN; rw [List.take_length]
/-! what the larger readers answer -/
def gtm (vl : Nat → Int32) (v : Int32) (wh f : Nat) : Int32 := if v &&& bitI (nI f) = 0 then 0 else vl (wh * 15 + f)
def capB (lm vl : Nat → Int32) (v : Int32) (wh : Nat) : Bool := if lm wh = 14000 then true else decide (sumT (gtm vl v wh) 14 ≤ lm wh)
def sumsB (lm vl : Nat → Int32) (v : Int32) : Bool := allZ (capB lm vl v) 4
def grpB (gb le mo : Nat → Int32) (bd v : Int32) (f : Nat) : Bool := if v &&& bd &&& bitI (nI f) = 0 then true else if bcI (v &&& gb f) < le f then false else decide (bcI (v &&& gb f) ≤ mo f)
def frmB (op lb lw rb rw : Nat → Int32) (v : Int32) (k : Nat) : Bool := holdsB (op k) (decide (v &&& lb k = lw k)) (decide (v &&& rb k = rw k))
def dropB (f c : Int32) : Bool := decide (c ≠ f ∧ c ≠ -f)
/-! branching -/
def brV (kd pb : Nat → Int32) (f : Nat) (v : Int32) : List Int32 := (if mayInB pb v f then [v ||| bitI (nI f)] else []) ++ (if mayOutB kd pb v f then [v] else [])
def brL (kd pb : Nat → Int32) (f : Nat) (L : List Int32) : List Int32 := L.flatMap (brV kd pb f)
theorem brL_s {kd pb : Nat → Int32} {f : Nat} {L : List Int32} {j : Nat} (h : j < L.length) : brL kd pb f (L.take (j + 1)) = brL kd pb f (L.take j) ++ brV kd pb f (L.getD j 0) := by
  unfold brL
  rw [take_s h, List.flatMap_append]
  simp
def brOk (kd pb : Nat → Int32) (f : Nat) (L : List Int32) : Prop := ∀ v ∈ L, mayInB pb v f = true ∨ mayOutB kd pb v f = true
theorem brV_ge {kd pb : Nat → Int32} {f : Nat} {v : Int32} (h : mayInB pb v f = true ∨ mayOutB kd pb v f = true) : 1 ≤ (brV kd pb f v).length := by
  unfold brV
  rcases h with h | h <;> simp [h]
theorem getD_mem {L : List Int32} {j : Nat} (h : j < L.length) : L.getD j 0 ∈ L := by
  rw [List.getD_eq_getElem?_getD, List.getElem?_eq_getElem h]
  exact List.getElem_mem h
theorem brL_ge {kd pb : Nat → Int32} {f : Nat} {L : List Int32} (h : brOk kd pb f L) : ∀ j, j ≤ L.length → j ≤ (brL kd pb f (L.take j)).length
  | 0, _ => Nat.zero_le _
  | j + 1, hj => by
    rw [brL_s (by omega), List.length_append]
    have := brL_ge h j (by omega)
    have := brV_ge (h _ (getD_mem (L := L) (j := j) (by omega)))
    omega
/-- the last place that is written when all places from t on are done -/
def brN (kd pb : Nat → Int32) (f : Nat) (L : List Int32) (t : Nat) : Nat := (brL kd pb f (L.take t)).length
/-- rows while branching goes backwards: t places are still to be read -/
def brI (kd pb : Nat → Int32) (f : Nat) (L : List Int32) (t : Nat) (g : Nat → Int32) : Prop := t ≤ L.length ∧ (∀ k, k < t → g k = L.getD k 0) ∧ ∀ k, brN kd pb f L t ≤ k → k < (brL kd pb f L).length → g k = (brL kd pb f L).getD k 0
theorem brI_0 {kd pb : Nat → Int32} {f : Nat} {L : List Int32} {g : Nat → Int32} (h : rowIs g L) : brI kd pb f L L.length g :=
  ⟨Nat.le_refl _, h, fun k h1 h2 => absurd h1 (by unfold brN; rw [List.take_length]; omega)⟩
theorem brI_end {kd pb : Nat → Int32} {f : Nat} {L : List Int32} {g : Nat → Int32} (h : brI kd pb f L 0 g) : rowIs g (brL kd pb f L) := fun k hk => h.2.2 k (by simp [brN, brL]) hk
theorem brL_split {kd pb : Nat → Int32} {f : Nat} {L : List Int32} {t : Nat} (h : t < L.length) : ∃ R, brL kd pb f L = brL kd pb f (L.take t) ++ brV kd pb f (L.getD t 0) ++ R := by
  refine ⟨brL kd pb f (L.drop (t + 1)), ?_⟩
  rw [← brL_s h]
  unfold brL
  rw [← List.flatMap_append, List.take_append_drop]
theorem brN_s {kd pb : Nat → Int32} {f : Nat} {L : List Int32} {t : Nat} (h : t < L.length) : brN kd pb f L (t + 1) = brN kd pb f L t + (brV kd pb f (L.getD t 0)).length := by
  unfold brN; rw [brL_s h, List.length_append]
theorem brN_le {kd pb : Nat → Int32} {f : Nat} {L : List Int32} {t : Nat} (h : t ≤ L.length) : brN kd pb f L t ≤ (brL kd pb f L).length := by
  have h1 : brL kd pb f L = brL kd pb f (L.take t) ++ brL kd pb f (L.drop t) := by
    unfold brL
    rw [← List.flatMap_append, List.take_append_drop]
  unfold brN
  rw [h1, List.length_append]
  omega
