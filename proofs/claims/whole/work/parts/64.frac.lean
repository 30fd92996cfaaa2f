/-! fractions in least terms -/
theorem mod_half {a b : Nat} (hb : 0 < b) (hr : 0 < a % b) : 2 * (b % (a % b)) < b := by
  have h1 := Nat.mod_lt a hb
  have h2 := Nat.mod_lt b hr
  have h3 : b % (a % b) + a % b ≤ b := by
    have h4 := Nat.div_add_mod b (a % b)
    have h5 : 1 ≤ b / (a % b) := (Nat.le_div_iff_mul_le hr).mpr (by omega)
    have h6 : a % b * 1 ≤ a % b * (b / (a % b)) := Nat.mul_le_mul_left _ h5
    omega
  omega
theorem gcd_2 (a b : Nat) : Nat.gcd (a % b) (b % (a % b)) = Nat.gcd a b := by
  rw [Nat.gcd_comm a b, Nat.gcd_rec b a, Nat.gcd_rec (a % b) b, Nat.gcd_comm]
theorem nIz {b : Nat} (hb : b < 2147483648) : (nI b = 0) ↔ b = 0 := by
  constructor
  · intro h; exact nI_inj hb (by omega) (h.trans (show (0 : Int32) = nI 0 from rfl))
  · intro h; rw [h]; rfl
theorem e5_gcd_aux : ∀ (n : Nat), n ≤ 31 → ∀ (a b s m : Nat), a < 2147483648 → b < 2147483648 → b < 2 ^ n → s + 2 * n + 1 ≤ 64 → 2 * n + 1 < m → LPX fX5_commonDivisor_L7 m (nI a, nI b, nI s) = some (nI (Nat.gcd a b)) := by
  intro n
  induction n with
  | zero =>
    intro hn a b s m ha hb hb2 hs hm
    obtain ⟨m, rfl⟩ : ∃ k, m = k + 1 := ⟨m - 1, by omega⟩
    have e : b = 0 := by omega
    subst e
    rw [LPX_s]
    simp only [fX5_commonDivisor_L7]
    rw [if_neg (show ¬ (64 : Int32) ≤ nI s by rw [fa_le, nI_toInt (by omega), show (64 : Int32).toInt = 64 from rfl]; omega), if_pos (show nI 0 = 0 from rfl), Nat.gcd_zero_right]
  | succ n ih =>
    intro hn a b s m ha hb hb2 hs hm
    obtain ⟨m, rfl⟩ : ∃ k, m = k + 2 := ⟨m - 2, by omega⟩
    rw [LPX_s]
    simp only [fX5_commonDivisor_L7, bnd]
    rw [if_neg (show ¬ (64 : Int32) ≤ nI s by rw [fa_le, nI_toInt (by omega), show (64 : Int32).toInt = 64 from rfl]; omega)]
    by_cases hb0 : b = 0
    · rw [if_pos ((nIz hb).mpr hb0), hb0, Nat.gcd_zero_right]
    · have hne : ¬ nI b = 0 := fun h => hb0 ((nIz hb).mp h)
      have hml := Nat.mod_lt a (show 0 < b by omega)
      rw [if_neg hne, if_pos hne, pk_rem (by omega) (by omega) (by omega), nI_1, LPX_s]
      simp only [fX5_commonDivisor_L7, bnd]
      rw [if_neg (show ¬ (64 : Int32) ≤ nI (s + 1) by rw [fa_le, nI_toInt (by omega), show (64 : Int32).toInt = 64 from rfl]; omega)]
      by_cases hr : a % b = 0
      · rw [if_pos ((nIz (by omega)).mpr hr)]
        have e : Nat.gcd a b = b := by rw [Nat.gcd_comm, Nat.gcd_rec, hr, Nat.gcd_zero_left]
        rw [e]
      · have hne2 : ¬ nI (a % b) = 0 := fun h => hr ((nIz (by omega)).mp h)
        have hh := mod_half (a := a) (show 0 < b by omega) (by omega)
        have hp : (2 : Nat) ^ (n + 1) = 2 * 2 ^ n := by rw [Nat.pow_succ, Nat.mul_comm]
        rw [if_neg hne2, if_pos hne2, pk_rem (by omega) (by omega) (by omega), nI_1, ih (by omega) _ _ _ _ (by omega) (by omega) (by omega) (by omega) (by omega), gcd_2]
theorem e5_gcd {a b : Nat} (ha : a < 2147483648) (hb : b < 2147483648) : fX5_commonDivisor (nI a) (nI b) = some (nI (Nat.gcd a b)) :=
  e5_gcd_aux 31 (Nat.le_refl _) a b 0 FU ha hb hb (by decide) (by show _ < 4000; omega)
theorem e6_gcd_aux : ∀ (n : Nat), n ≤ 31 → ∀ (a b m : Nat), a < 2147483648 → b < 2147483648 → b < 2 ^ n → 2 * n + 1 < m → LPX fX6_common_L4 m (nI a, nI b) = some (nI (Nat.gcd a b)) := by
  intro n
  induction n with
  | zero =>
    intro hn a b m ha hb hb2 hm
    obtain ⟨m, rfl⟩ : ∃ k, m = k + 1 := ⟨m - 1, by omega⟩
    have e : b = 0 := by omega
    subst e
    rw [LPX_s]
    simp only [fX6_common_L4]
    rw [if_pos (show nI 0 = 0 from rfl), Nat.gcd_zero_right]
  | succ n ih =>
    intro hn a b m ha hb hb2 hm
    obtain ⟨m, rfl⟩ : ∃ k, m = k + 2 := ⟨m - 2, by omega⟩
    rw [LPX_s]
    simp only [fX6_common_L4, bnd]
    by_cases hb0 : b = 0
    · rw [if_pos ((nIz hb).mpr hb0), hb0, Nat.gcd_zero_right]
    · have hne : ¬ nI b = 0 := fun h => hb0 ((nIz hb).mp h)
      have hml := Nat.mod_lt a (show 0 < b by omega)
      rw [if_neg hne, if_pos hne, pk_rem (by omega) (by omega) (by omega), LPX_s]
      simp only [fX6_common_L4, bnd]
      by_cases hr : a % b = 0
      · rw [if_pos ((nIz (by omega)).mpr hr)]
        have e : Nat.gcd a b = b := by rw [Nat.gcd_comm, Nat.gcd_rec, hr, Nat.gcd_zero_left]
        rw [e]
      · have hne2 : ¬ nI (a % b) = 0 := fun h => hr ((nIz (by omega)).mp h)
        have hh := mod_half (a := a) (show 0 < b by omega) (by omega)
        have hp : (2 : Nat) ^ (n + 1) = 2 * 2 ^ n := by rw [Nat.pow_succ, Nat.mul_comm]
        rw [if_neg hne2, if_pos hne2, pk_rem (by omega) (by omega) (by omega), ih (by omega) _ _ _ (by omega) (by omega) (by omega) (by omega), gcd_2]
theorem e6_gcd {a b : Nat} (ha : a < 2147483648) (hb : b < 2147483648) : fX6_common (nI a) (nI b) = some (nI (Nat.gcd a b)) :=
  e6_gcd_aux 31 (Nat.le_refl _) a b FU ha hb hb (by show _ < 4000; omega)
theorem frac_eq {u a : Nat} {w : Int32} (ha : a < 2147483648) (hu : u < 2147483648) (hua : a = 0 → u = 0) (hw : w = 0 ∨ w = 1) :
    ∃ r, fX5_leastTerm (nI u) (nI a) w = some r ∧ (if nI a = 0 then some w else fX6_fraction (nI u) (nI a) w) = some r := by
  unfold fX5_leastTerm fX6_fraction
  rw [e6_gcd hu ha, Option.bind_some, e5_gcd hu ha, Option.bind_some]
  by_cases h0 : a = 0
  · have hu0 := hua h0
    refine ⟨w, ?_, ?_⟩
    · rw [if_pos (show nI u ≤ 0 by rw [hu0]; decide)]
    · rw [if_pos ((nIz ha).mpr h0)]
  · have hna : ¬ nI a = 0 := fun h => h0 ((nIz ha).mp h)
    have hg : 0 < Nat.gcd u a := Nat.gcd_pos_of_pos_right u (by omega)
    have hgl : Nat.gcd u a ≤ a := Nat.le_of_dvd (by omega) (Nat.gcd_dvd_right u a)
    have hng : ¬ nI (Nat.gcd u a) = 0 := fun h => by have := (nIz (by omega)).mp h; omega
    rw [if_neg hna]
    by_cases hu0 : u = 0
    · subst hu0
      refine ⟨w, ?_, ?_⟩
      · rw [if_pos (show nI 0 ≤ 0 by decide)]
      · rw [Nat.gcd_zero_left, if_pos hna, if_pos hna]
        rcases hw with e | e
        · rw [e, if_pos rfl, pk_div (by omega) (by omega) (by omega), Nat.zero_div]
          rfl
        · rw [e, if_neg (by decide), pk_div (by omega) (by omega) (by omega), Nat.div_self (by omega)]
          rfl
    · have hmx : (if (1 : Int32) < nI (Nat.gcd u a) then nI (Nat.gcd u a) else 1) = nI (Nat.gcd u a) := by
        by_cases h1 : Nat.gcd u a = 1
        · rw [h1]; rfl
        · rw [if_pos (by rw [fa_lt, nI_toInt (by omega), show (1 : Int32).toInt = 1 from rfl]; omega)]
      rw [if_neg (show ¬ nI u ≤ 0 by rw [fa_le, nI_toInt (by omega), show (0 : Int32).toInt = 0 from rfl]; omega), if_pos (show (0 : Int32) < nI a by rw [fa_lt, nI_toInt (by omega), show (0 : Int32).toInt = 0 from rfl]; omega), hmx, if_pos hng, if_pos hng]
      by_cases hw0 : w = 0
      · rw [if_pos hw0]
        exact ⟨_, rfl, rfl⟩
      · rw [if_neg hw0]
        exact ⟨_, rfl, rfl⟩
