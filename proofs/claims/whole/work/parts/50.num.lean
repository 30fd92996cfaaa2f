/-! numbers (the first rows begun from kit/laws: NUMBERS, COUNTS) -/
theorem fa_lt (a b : Int32) : a < b ↔ a.toInt < b.toInt := Int32.lt_iff_toInt_lt
theorem fa_le (a b : Int32) : a ≤ b ↔ a.toInt ≤ b.toInt := Int32.le_iff_toInt_le
theorem fa_eq (a b : Int32) : a = b ↔ a.toInt = b.toInt := Int32.toInt_inj.symm
theorem fa_lt64 (a b : Int64) : a < b ↔ a.toInt < b.toInt := Int64.lt_iff_toInt_lt
theorem fa_le64 (a b : Int64) : a ≤ b ↔ a.toInt ≤ b.toInt := Int64.le_iff_toInt_le
theorem fa_eq64 (a b : Int64) : a = b ↔ a.toInt = b.toInt := Int64.toInt_inj.symm
theorem fb_rng (x : Int32) : -2147483648 ≤ x.toInt ∧ x.toInt < 2147483648 := by
  have h1 := Int32.le_toInt x
  have h2 := Int32.toInt_lt x
  omega
theorem fb_bmod {z : Int} (h1 : -2147483648 ≤ z) (h2 : z < 2147483648) : z.bmod (2 ^ 32) = z := by
  rw [Int.bmod_eq_of_le (by omega) (by omega)]
theorem fb_addI {x y : Int32} (h1 : -2147483648 ≤ x.toInt + y.toInt) (h2 : x.toInt + y.toInt < 2147483648) : (x + y).toInt = x.toInt + y.toInt := by
  rw [Int32.toInt_add, fb_bmod h1 h2]
theorem fb_subI {x y : Int32} (h1 : -2147483648 ≤ x.toInt - y.toInt) (h2 : x.toInt - y.toInt < 2147483648) : (x - y).toInt = x.toInt - y.toInt := by
  rw [Int32.toInt_sub, fb_bmod h1 h2]
theorem fb_mulI {x y : Int32} (h1 : -2147483648 ≤ x.toInt * y.toInt) (h2 : x.toInt * y.toInt < 2147483648) : (x * y).toInt = x.toInt * y.toInt := by
  rw [Int32.toInt_mul, fb_bmod h1 h2]
theorem fb_negI {x : Int32} (h : x.toInt ≠ -2147483648) : (-x).toInt = -x.toInt := by
  have := fb_rng x
  rw [Int32.toInt_neg, fb_bmod (by omega) (by omega)]
theorem fb_ofI {z : Int} (h1 : -2147483648 ≤ z) (h2 : z < 2147483648) : (Int32.ofInt z).toInt = z := by
  rw [Int32.toInt_ofInt, fb_bmod h1 h2]
theorem fb_bmodL {z : Int} (h1 : -9223372036854775808 ≤ z) (h2 : z < 9223372036854775808) : z.bmod (2 ^ 64) = z := by
  rw [Int.bmod_eq_of_le (by omega) (by omega)]
theorem fb_subL {x y : Int64} (h1 : -9223372036854775808 ≤ x.toInt - y.toInt) (h2 : x.toInt - y.toInt < 9223372036854775808) : (x - y).toInt = x.toInt - y.toInt := by
  rw [Int64.toInt_sub, fb_bmodL h1 h2]
theorem fb_mulL {x y : Int64} (h1 : -9223372036854775808 ≤ x.toInt * y.toInt) (h2 : x.toInt * y.toInt < 9223372036854775808) : (x * y).toInt = x.toInt * y.toInt := by
  rw [Int64.toInt_mul, fb_bmodL h1 h2]
/-! loops -/
theorem LPX_rule {β S : Type} {B : (S → Option β) → S → Option β} {r : Option β} (I : Nat → S → Prop) (m : Nat)
    (hs : ∀ t s, t < m → I t s → (∃ s', I (t + 1) s' ∧ ∀ k, B k s = k s') ∨ (∀ k, B k s = r))
    (he : ∀ s, I m s → ∀ k, B k s = r) : ∀ n t s, m < n + t → t ≤ m → I t s → LPX B n s = r := by
  intro n
  induction n with
  | zero => intro t s h1 h2 h3; omega
  | succ n ih =>
    intro t s h1 h2 h3
    rw [LPX_s]
    rcases Nat.lt_or_ge t m with h | h
    · rcases hs t s h h3 with ⟨s', h4, h5⟩ | h4
      · rw [h5]; exact ih (t + 1) s' (by omega) h h4
      · exact h4 _
    · have e : t = m := by omega
      subst e
      exact he s h3 _
theorem LPX_det {β S : Type} {B : (S → Option β) → S → Option β} {r : Option β} (F : Nat → S) (m : Nat)
    (hs : ∀ t, t < m → ∀ k, B k (F t) = k (F (t + 1))) (he : ∀ k, B k (F m) = r) {n : Nat} (h : m < n) : LPX B n (F 0) = r :=
  LPX_rule (I := fun t s => s = F t) m (fun t s h1 h2 => by subst h2; exact Or.inl ⟨_, rfl, hs t h1⟩) (fun s h1 => by subst h1; exact he) n 0 (F 0) (by omega) (Nat.zero_le _) rfl
theorem FU_lt {m : Nat} (h : m < 4000) : m < FU := h
/-! truth values -/
def b2 (b : Bool) : Int32 := if b then 1 else 0
theorem b2_if {α : Type} (b : Bool) (x y : α) : (if b2 b = 0 then x else y) = if b then y else x := by cases b <;> rfl
theorem b2_01 (b : Bool) : b2 b = 0 ∨ b2 b = 1 := by cases b <;> simp [b2]
theorem b2_inj {a b : Bool} (h : b2 a = b2 b) : a = b := by revert h; cases a <;> cases b <;> decide
def inB (v lo hi : Int32) : Bool := decide (lo.toInt ≤ v.toInt ∧ v.toInt ≤ hi.toInt)
theorem e5_within (v lo hi : Int32) : fX5_isWithin v lo hi = some (b2 (inB v lo hi)) := by
  simp only [fX5_isWithin, fa_lt, b2, inB, decide_eq_true_eq]
  split
  · rw [if_neg (by omega)]
  · split
    · rw [if_neg (by omega)]
    · rw [if_pos (by omega)]
theorem e6_in (v lo hi : Int32) : fX6_in v lo hi = some (b2 (inB v lo hi)) := by
  simp only [fX6_in, fa_lt, b2, inB, decide_eq_true_eq]
  split
  · rw [if_neg (by omega)]
  · split
    · rw [if_neg (by omega)]
    · rw [if_pos (by omega)]
/-! small numbers -/
theorem sm3 {k : Int32} (h1 : -3 ≤ k.toInt) (h2 : k.toInt ≤ 3) : k = -3 ∨ k = -2 ∨ k = -1 ∨ k = 0 ∨ k = 1 ∨ k = 2 ∨ k = 3 := by
  simp only [fa_eq, show (-3 : Int32).toInt = -3 from rfl, show (-2 : Int32).toInt = -2 from rfl, show (-1 : Int32).toInt = -1 from rfl, show (0 : Int32).toInt = 0 from rfl, show (1 : Int32).toInt = 1 from rfl, show (2 : Int32).toInt = 2 from rfl, show (3 : Int32).toInt = 3 from rfl]
  omega
theorem sm5 {k : Int32} (h1 : -5 ≤ k.toInt) (h2 : k.toInt ≤ 5) : k = -5 ∨ k = -4 ∨ k = 4 ∨ k = 5 ∨ k = -3 ∨ k = -2 ∨ k = -1 ∨ k = 0 ∨ k = 1 ∨ k = 2 ∨ k = 3 := by
  simp only [fa_eq, show (-5 : Int32).toInt = -5 from rfl, show (-4 : Int32).toInt = -4 from rfl, show (5 : Int32).toInt = 5 from rfl, show (4 : Int32).toInt = 4 from rfl, show (-3 : Int32).toInt = -3 from rfl, show (-2 : Int32).toInt = -2 from rfl, show (-1 : Int32).toInt = -1 from rfl, show (0 : Int32).toInt = 0 from rfl, show (1 : Int32).toInt = 1 from rfl, show (2 : Int32).toInt = 2 from rfl, show (3 : Int32).toInt = 3 from rfl]
  omega
theorem nI_ex {x : Int32} {N : Nat} (h1 : 0 ≤ x.toInt) (h2 : x.toInt < N) : ∃ n, n < N ∧ x = nI n := by
  refine ⟨x.toInt.toNat, by omega, ?_⟩
  have := fb_rng x
  rw [fa_eq, nI_toInt (by omega)]
  omega
theorem okI_iff {i : Int32} {n : Nat} : okI i n ↔ 0 ≤ i.toInt ∧ i.toInt < n := by
  unfold okI
  rw [fa_le, show (0 : Int32).toInt = 0 from rfl]
  have e : i.toNatClampNeg = i.toInt.toNat := rfl
  rw [e]
  omega
theorem okI_nI {k n : Nat} (h : k < n) (hn : n < 2147483648) : okI (nI k) n := okI_iff.mpr (by rw [nI_toInt (by omega)]; omega)
theorem cl_nI {k : Nat} (h : k < 2147483648) : Int32.toNatClampNeg (nI k) = k := nI_clamp (by omega)
/-! IMAGES -/
def imgB (i j : Int32) : Bool := decide (-3 ≤ i.toInt ∧ i.toInt ≤ 3 ∧ -3 ≤ j.toInt ∧ j.toInt ≤ 3 ∧ i.toInt.natAbs + j.toInt.natAbs ≤ 3)
theorem imgB_i {i j : Int32} (h : imgB i j = true) : i = -3 ∨ i = -2 ∨ i = -1 ∨ i = 0 ∨ i = 1 ∨ i = 2 ∨ i = 3 := by
  have h := of_decide_eq_true h
  exact sm3 h.1 h.2.1
theorem imgB_j {i j : Int32} (h : imgB i j = true) : j = -3 ∨ j = -2 ∨ j = -1 ∨ j = 0 ∨ j = 1 ∨ j = 2 ∨ j = 3 := by
  have h := of_decide_eq_true h
  exact sm3 h.2.2.1 h.2.2.2.1
theorem e5_img (i j : Int32) : fX5_isImage i j = some (b2 (imgB i j)) := by
  simp only [fX5_isImage, e5_within, Option.bind_some, b2_if]
  cases hi : inB i (-3) 3 with
  | false =>
    have h1 := of_decide_eq_false hi
    have h2 : imgB i j = false := decide_eq_false (fun h => h1 ⟨h.1, h.2.1⟩)
    rw [h2]; rfl
  | true =>
    have h1 := of_decide_eq_true hi
    cases hj : inB j (-3) 3 with
    | false =>
      have h3 := of_decide_eq_false hj
      have h2 : imgB i j = false := decide_eq_false (fun h => h3 ⟨h.2.2.1, h.2.2.2.1⟩)
      rw [h2]; rfl
    | true =>
      have h3 := of_decide_eq_true hj
      rcases sm3 h1.1 h1.2 with e | e | e | e | e | e | e <;> rcases sm3 h3.1 h3.2 with f | f | f | f | f | f | f <;> subst e <;> subst f <;> rfl
theorem e6_img (i j : Int32) : fX6_isImage i j = some (b2 (imgB i j)) := by
  simp only [fX6_isImage, e6_in, Option.bind_some, b2_if]
  cases hi : inB i (-3) 3 with
  | false =>
    have h1 := of_decide_eq_false hi
    have h2 : imgB i j = false := decide_eq_false (fun h => h1 ⟨h.1, h.2.1⟩)
    rw [h2]; rfl
  | true =>
    have h1 := of_decide_eq_true hi
    cases hj : inB j (-3) 3 with
    | false =>
      have h3 := of_decide_eq_false hj
      have h2 : imgB i j = false := decide_eq_false (fun h => h3 ⟨h.2.2.1, h.2.2.2.1⟩)
      rw [h2]; rfl
    | true =>
      have h3 := of_decide_eq_true hj
      rcases sm3 h1.1 h1.2 with e | e | e | e | e | e | e <;> rcases sm3 h3.1 h3.2 with f | f | f | f | f | f | f <;> subst e <;> subst f <;> rfl
/-- where a place is seen in the k-th mirrored room -/
def mir (k side place : Int32) : Int32 := k * side + (if (k &&& 1) = 0 then place else side - place)
theorem e5_mir (k a b : Int32) : fX5_mirrored k a b = some (mir k a b) := by
  unfold fX5_mirrored mir
  split <;> rfl
theorem e6_mir {k : Int32} (a b : Int32) (h1 : -5 ≤ k.toInt) (h2 : k.toInt ≤ 5) : fX6_mirrored k a b = some (mir k a b) := by
  rcases sm5 h1 h2 with e | e | e | e | e | e | e | e | e | e | e <;> subst e <;> rfl
/-- how often an image has gone by a wall -/
def tm (w i j : Int32) : Int32 := (fX5_passes w i j).getD 0
theorem tm_all : ∀ w ∈ ([0, 1, 2, 3] : List Int32), ∀ i ∈ ([-3, -2, -1, 0, 1, 2, 3] : List Int32), ∀ j ∈ ([-3, -2, -1, 0, 1, 2, 3] : List Int32), fX5_passes w i j = some (tm w i j) ∧ fX6_times w i j = some (tm w i j) ∧ 0 ≤ (tm w i j).toInt ∧ (tm w i j).toInt ≤ 2 := by decide +kernel
theorem tm_ok {w i j : Int32} (hw : w = 0 ∨ w = 1 ∨ w = 2 ∨ w = 3) (h : imgB i j = true) : fX5_passes w i j = some (tm w i j) ∧ fX6_times w i j = some (tm w i j) ∧ 0 ≤ (tm w i j).toInt ∧ (tm w i j).toInt ≤ 2 := by
  refine tm_all w (by simpa using hw) i ?_ j ?_
  · simpa using imgB_i h
  · simpa using imgB_j h
/-- when it comes -/
def tim (w : Int32) : Int32 := (fX5_timeOf w).getD 0
def timOk (k : Nat) : Bool := decide (fX5_timeOf (nI k) = some (tim (nI k)) ∧ fX6_timeOf (nI k) = some (tim (nI k)) ∧ 0 ≤ (tim (nI k)).toInt ∧ (tim (nI k)).toInt ≤ 824)
set_option maxRecDepth 100000 in
theorem tim_all : (List.range 6801).all timOk = true := by decide +kernel
theorem tim_ok {w : Int32} (h1 : 0 ≤ w.toInt) (h2 : w.toInt ≤ 6800) : fX5_timeOf w = some (tim w) ∧ fX6_timeOf w = some (tim w) ∧ 0 ≤ (tim w).toInt ∧ (tim w).toInt ≤ 824 := by
  obtain ⟨n, hn, e⟩ := nI_ex (N := 6801) h1 (by omega)
  subst e
  exact of_decide_eq_true (List.all_eq_true.mp tim_all n (List.mem_range.mpr hn))
