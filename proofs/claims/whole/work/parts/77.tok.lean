/-! TOKENS: the text read piece by piece -/
def runN (P : Nat → Bool) (p : Nat) : Nat → Nat
  | 0 => 0
  | f + 1 => if P p then runN P (p + 1) f + 1 else 0
theorem run_in {P : Nat → Bool} : ∀ {f p n : Nat}, n < runN P p f → P (p + n) = true
  | 0, _, _, h => absurd h (Nat.not_lt_zero _)
  | f + 1, p, n, h => by
    cases hp : P p with
    | false =>
      have e : runN P p (f + 1) = 0 := by show (if P p then _ else 0) = 0; rw [hp]; rfl
      omega
    | true =>
      have e : runN P p (f + 1) = runN P (p + 1) f + 1 := by show (if P p then _ else 0) = _; rw [hp]; rfl
      cases n with
      | zero => exact hp
      | succ n =>
        have := run_in (P := P) (f := f) (p := p + 1) (n := n) (by omega)
        rw [show p + 1 + n = p + (n + 1) by omega] at this
        exact this
theorem run_end {P : Nat → Bool} {T : Nat} (hT : ∀ q, P q = true → q < T) : ∀ {f p : Nat}, T ≤ p + f → P (p + runN P p f) = false
  | 0, p, h => by
    show P (p + 0) = false
    cases hp : P (p + 0) with
    | false => rfl
    | true => have := hT _ hp; omega
  | f + 1, p, h => by
    cases hp : P p with
    | false =>
      have e : runN P p (f + 1) = 0 := by show (if P p then _ else 0) = 0; rw [hp]; rfl
      rw [e]; exact hp
    | true =>
      have e : runN P p (f + 1) = runN P (p + 1) f + 1 := by show (if P p then _ else 0) = _; rw [hp]; rfl
      rw [e, show p + (runN P (p + 1) f + 1) = p + 1 + runN P (p + 1) f by omega]
      exact run_end hT (by omega)
theorem run_one {P : Nat → Bool} {p n : Nat} (h1 : ∀ k, k < n → P (p + k) = true) (h2 : P (p + n) = false) : ∀ {f : Nat}, n < f → runN P p f = n := by
  induction n generalizing p with
  | zero =>
    intro f hf
    obtain ⟨f, rfl⟩ : ∃ g, f = g + 1 := ⟨f - 1, by omega⟩
    show (if P p then _ else 0) = 0
    rw [show P p = false from h2]; rfl
  | succ n ih =>
    intro f hf
    obtain ⟨f, rfl⟩ : ∃ g, f = g + 1 := ⟨f - 1, by omega⟩
    show (if P p then runN P (p + 1) f + 1 else 0) = n + 1
    rw [show P p = true from h1 0 (by omega), if_pos rfl, ih (p := p + 1) (fun k hk => by have := h1 (k + 1) (by omega); rw [show p + (k + 1) = p + 1 + k by omega] at this; exact this) (by rw [show p + 1 + n = p + (n + 1) by omega]; exact h2) (by omega)]
def fgB (x : Int32) : Bool := decide (48 ≤ x.toInt ∧ x.toInt ≤ 57)
theorem e4_fig (x : Int32) : fX4_isFigure x = some (b2 (fgB x)) := by
  simp only [fX4_isFigure, fa_lt, b2, fgB, decide_eq_true_eq, show (48 : Int32).toInt = 48 from rfl, show (57 : Int32).toInt = 57 from rfl]
  split
  · rw [if_neg (by omega)]
  · split
    · rw [if_neg (by omega)]
    · rw [if_pos (by omega)]
theorem e6_fig (x : Int32) : fX6_isFigure x = some (b2 (fgB x)) := by
  unfold fX6_isFigure
  rw [e6_in, Option.bind_some, if_pos (b2_01 _)]
  rfl
section TOK
variable (t : Nat → Int32) (T : Nat)
def spP (p : Nat) : Bool := decide (p < T) && decide (t p = 32)
def fgP (p : Nat) : Bool := decide (p < T) && fgB (t p)
def sk (p : Nat) : Nat := p + runN (spP t T) p 101
def dgN (p : Nat) : Nat := runN (fgP t T) p 101
def vaN (p : Nat) : Nat → Nat
  | 0 => 0
  | n + 1 => if 100 ≤ vaN p n then vaN p n else 10 * vaN p n + ((t (p + n)).toInt - 48).toNat
def baB (p : Nat) : Bool := decide (99 < vaN t (sk t T p) (dgN t T (sk t T p))) || (decide (t (sk t T p) = 48) && decide (1 < dgN t T (sk t T p)))
/-- the end of the piece at p -/
def tkE (p : Nat) : Nat := if sk t T p < T then (if fgB (t (sk t T p)) then sk t T p + dgN t T (sk t T p) else sk t T p + 1) else sk t T p
def ckF (p : Nat) : Int32 := if sk t T p < T then (if fgB (t (sk t T p)) then (if baB t T p then -3 else -2) else t (sk t T p)) else -1
def leB (x : Int32) : Bool := decide (x = 114 ∨ x = 119 ∨ x = 113 ∨ x = 115 ∨ x = 99 ∨ x = 59)
def mkF (p : Nat) : Int32 := if fgB (t (sk t T p)) then (if baB t T p then 2 else 1) else (if leB (t (sk t T p)) then t (sk t T p) else 2)
def vlF (p : Nat) : Nat := vaN t (sk t T p) (dgN t T (sk t T p))
end TOK
section TOK2
variable {t : Nat → Int32} {T p : Nat}
theorem spP_lt {q : Nat} (h : spP t T q = true) : q < T := of_decide_eq_true (Bool.and_eq_true_iff.mp h).1
theorem fgP_lt {q : Nat} (h : fgP t T q = true) : q < T := of_decide_eq_true (Bool.and_eq_true_iff.mp h).1
theorem sk_ge : p ≤ sk t T p := by unfold sk; omega
theorem sk_le (hp : p ≤ T) : sk t T p ≤ T := by
  unfold sk
  rcases Nat.eq_zero_or_pos (runN (spP t T) p 101) with h | h
  · omega
  · have := spP_lt (run_in (P := spP t T) (p := p) (f := 101) (n := runN (spP t T) p 101 - 1) (by omega))
    omega
theorem sk_end (hT : T ≤ 100) : spP t T (sk t T p) = false := run_end (T := T) (fun q h => spP_lt h) (by omega)
theorem sk_ns (hT : T ≤ 100) (h : sk t T p < T) : t (sk t T p) ≠ 32 := by
  intro e
  have := sk_end (t := t) (p := p) hT
  unfold spP at this
  rw [decide_eq_true h, decide_eq_true e] at this
  cases this
theorem sk_sp (hT : T ≤ 100) (hp : p < T) (h : t p = 32) : sk t T p = sk t T (p + 1) := by
  have h1 : spP t T p = true := by unfold spP; rw [decide_eq_true hp, decide_eq_true h]; rfl
  have h2 : sk t T (p + 1) = p + 1 + runN (spP t T) (p + 1) 101 := rfl
  have h3 : runN (spP t T) p 101 = runN (spP t T) (p + 1) 101 + 1 := by
    have hle : runN (spP t T) (p + 1) 101 + 1 < 101 + 1 := by
      rcases Nat.lt_or_ge (runN (spP t T) (p + 1) 101) 101 with h | h
      · omega
      · have := spP_lt (run_in (P := spP t T) (p := p + 1) (f := 101) (n := 100) (by omega))
        omega
    refine run_one (n := runN (spP t T) (p + 1) 101 + 1) (fun k hk => ?_) ?_ ?_
    · cases k with
      | zero => exact h1
      | succ k =>
        have := run_in (P := spP t T) (p := p + 1) (f := 101) (n := k) (by omega)
        rw [show p + 1 + k = p + (k + 1) by omega] at this
        exact this
    · have := run_end (P := spP t T) (T := T) (fun q h => spP_lt h) (f := 101) (p := p + 1) (by omega)
      rw [show p + 1 + runN (spP t T) (p + 1) 101 = p + (runN (spP t T) (p + 1) 101 + 1) by omega] at this
      exact this
    · rcases Nat.eq_zero_or_pos (runN (spP t T) (p + 1) 101) with h | h
      · omega
      · have := spP_lt (run_in (P := spP t T) (p := p + 1) (f := 101) (n := runN (spP t T) (p + 1) 101 - 1) (by omega))
        omega
  unfold sk
  rw [h3]
  omega
theorem sk_no (h : ¬ (p < T ∧ t p = 32)) : sk t T p = p := by
  have h1 : spP t T p = false := by
    unfold spP
    by_cases c : p < T
    · rw [decide_eq_false (fun e => h ⟨c, e⟩), Bool.and_false]
    · rw [decide_eq_false c]; rfl
  unfold sk
  have : runN (spP t T) p 101 = 0 := by
    show (if spP t T p then _ else 0) = 0
    rw [h1]; rfl
  omega
theorem dg_pos (h : p < T) (hf : fgB (t p) = true) : 1 ≤ dgN t T p := by
  unfold dgN
  show 1 ≤ (if fgP t T p then runN (fgP t T) (p + 1) 100 + 1 else 0)
  have : fgP t T p = true := by unfold fgP; rw [decide_eq_true h, hf]; rfl
  rw [this, if_pos rfl]
  omega
theorem dg_le (h : p ≤ T) : p + dgN t T p ≤ T := by
  rcases Nat.eq_zero_or_pos (dgN t T p) with e | e
  · omega
  · have := fgP_lt (run_in (P := fgP t T) (p := p) (f := 101) (n := dgN t T p - 1) (by unfold dgN at *; omega))
    omega
theorem tkE_le (hp : p ≤ T) : tkE t T p ≤ T := by
  unfold tkE
  split
  · split
    · exact dg_le (by omega)
    · omega
  · exact sk_le hp
theorem tkE_gt (h : sk t T p < T) : sk t T p + 1 ≤ tkE t T p := by
  unfold tkE
  rw [if_pos h]
  split
  · rename_i hf
    have := dg_pos h hf
    omega
  · omega
theorem vaN_999 (hl : ∀ k, k < T → 0 ≤ (t k).toInt ∧ (t k).toInt ≤ 255) : ∀ n, n ≤ dgN t T p → vaN t p n ≤ 999
  | 0, _ => by show 0 ≤ 999; omega
  | n + 1, hn => by
    have ih := vaN_999 hl n (by omega)
    show (if 100 ≤ vaN t p n then vaN t p n else 10 * vaN t p n + ((t (p + n)).toInt - 48).toNat) ≤ 999
    split
    · exact ih
    · have hf := (Bool.and_eq_true_iff.mp (run_in (P := fgP t T) (p := p) (f := 101) (n := n) (by unfold dgN at hn; omega))).2
      have hf := of_decide_eq_true hf
      omega
end TOK2
