/-! HIDDEN: the reference -/
theorem j205_e {c0 s : Nat → Int32} {c : Nat} (hc : c < 3) {span z : Int32} {F T : Int} (hF : (s (21 + c) * span).toInt = F) (hT : (s (24 + c) * span).toInt = T) : fX6_meets_j205 c0 s (nI c) span z = some (b2 (decide (F ≤ z.toInt ∧ z.toInt ≤ T))) := by
  unfold fX6_meets_j205
  have e1 : (21 : Int32) + nI c = nI (21 + c) := nI_add 21 c
  have e2 : (24 : Int32) + nI c = nI (24 + c) := nI_add 24 c
  rw [e1, e2, if_pos (okI_nI (by omega) (by decide)), if_pos (okI_nI (by omega) (by decide)), cl_nI (by omega), cl_nI (by omega)]
  simp only [fa_lt, hF, hT, b2, decide_eq_true_eq]
  split
  · rw [if_neg (by omega)]
  · split
    · rw [if_neg (by omega)]
    · rw [if_pos (by omega)]
theorem l6_loop2 {c0 s : Nat → Int32} {c : Nat} (hc : c < 3) {span R32 : Int32} {R F T : Int} (hR : R32.toInt = R) (hR1 : 0 < R) (hR2 : R ≤ 4000) (hF : (s (21 + c) * span).toInt = F) (hT : (s (24 + c) * span).toInt = T) (k150 : Int32 × Int32 → Option Int32) {up : Int} (hu1 : 0 ≤ up) (hu2 : up ≤ 1000 * R) {m : Nat} (hm : m ≤ 1000) :
    LPX (fX6_meets_L168 c0 s (nI c) span R32 k150) FU (Int32.ofInt up, nI m) = some (b2 (decide (F ≤ (if (m + (up / R).toNat) % 2 = 0 then up % R else R - up % R) ∧ (if (m + (up / R).toNat) % 2 = 0 then up % R else R - up % R) ≤ T))) := by
  have eR : R32 = Int32.ofInt R := by rw [fa_eq, fb_ofI (by omega) (by omega), hR]
  have hq0 : 0 ≤ up / R := Int.ediv_nonneg hu1 (by omega)
  have hq1 : up / R ≤ 1000 := by
    have := Int.ediv_le_ediv hR1 hu2
    rw [Int.mul_ediv_cancel _ (by omega)] at this
    exact this
  have hmod := Int.emod_add_ediv_mul up R
  have hm0 := Int.emod_nonneg up (show R ≠ 0 by omega)
  have hm1 := Int.emod_lt_of_pos up hR1
  have hbnd : ∀ t : Nat, (t : Int) ≤ up / R → up % R ≤ up - t * R ∧ up - t * R ≤ up := by
    intro t ht
    have h1 : (t : Int) * R ≤ up / R * R := Int.mul_le_mul_of_nonneg_right ht (by omega)
    have h2 : 0 ≤ (t : Int) * R := Int.mul_nonneg (by omega) (by omega)
    omega
  have e0 : ((Int32.ofInt up, nI m) : Int32 × Int32) = (fun t : Nat => (Int32.ofInt (up - t * R), nI (m + t))) 0 := by
    show _ = (Int32.ofInt (up - ((0 : Nat) : Int) * R), nI (m + 0))
    rw [show up - ((0 : Nat) : Int) * R = up by simp]
    rfl
  rw [e0]
  refine LPX_det (F := fun t : Nat => (Int32.ofInt (up - t * R), nI (m + t))) (up / R).toNat (fun t ht k => ?_) (fun k => ?_) (FU_lt (by omega))
  · have h1 := hbnd (t + 1) (by omega)
    have h2 := hbnd t (by omega)
    have e1 : ((t + 1 : Nat) : Int) * R = t * R + R := by rw [show ((t + 1 : Nat) : Int) = (t : Int) + 1 from rfl, Int.add_mul, Int.one_mul]
    rw [e1] at h1
    have h3 : ¬ Int32.ofInt (up - t * R) < R32 := by rw [fa_lt, hR, fb_ofI (by omega) (by omega)]; omega
    have e2 : Int32.ofInt (up - t * R) - R32 = Int32.ofInt (up - ((t + 1 : Nat) : Int) * R) := by
      rw [eR, ← Int32.ofInt_sub, e1]
      congr 1
      omega
    simp only [fX6_meets_L168, bnd]
    rw [if_neg h3, e2, nI_1]
    rfl
  · have e3 : up - ((up / R).toNat : Int) * R = up % R := by
      rw [Int.toNat_of_nonneg hq0]; omega
    have h3 : Int32.ofInt (up - ((up / R).toNat : Int) * R) < R32 := by rw [e3, fa_lt, hR, fb_ofI (by omega) (by omega)]; omega
    have e4 : (Int32.ofInt (up - ((up / R).toNat : Int) * R)).toInt = up % R := by rw [e3, fb_ofI (by omega) (by omega)]
    have e5 : (R32 - Int32.ofInt (up - ((up / R).toNat : Int) * R)).toInt = R - up % R := by
      rw [fb_subI (by rw [e4, hR]; omega) (by rw [e4, hR]; omega), e4, hR]
    have e6 : nI (m + (up / R).toNat) - nI (m + (up / R).toNat) / 2 * 2 = nI ((m + (up / R).toNat) % 2) := pk_rem (d := 2) (by omega) (by decide) (by decide)
    have h4 : nI ((m + (up / R).toNat) % 2) = 0 ↔ (m + (up / R).toNat) % 2 = 0 := by
      have h5 : (m + (up / R).toNat) % 2 = 0 ∨ (m + (up / R).toNat) % 2 = 1 := by omega
      rcases h5 with h5 | h5 <;> rw [h5] <;> decide
    simp only [fX6_meets_L168]
    rw [if_pos h3, e6, j205_e hc hF hT, j205_e hc hF hT, e4, e5]
    by_cases h5 : (m + (up / R).toNat) % 2 = 0
    · rw [if_pos (h4.mpr h5)]
      simp only [if_pos h5]
    · rw [if_neg (fun q => h5 (h4.mp q))]
      simp only [if_neg h5]
theorem l6_loop {c0 s : Nat → Int32} {c : Nat} (hc : c < 3) {span R32 z : Int32} {R F T up : Int} (hR : R32.toInt = R) (hR1 : 0 < R) (hR2 : R ≤ 4000) (hF : (s (21 + c) * span).toInt = F) (hT : (s (24 + c) * span).toInt = T) (hz : z.toInt = up) (hu1 : -(1000 * R) ≤ up) (hu2 : up ≤ 1000 * R) :
    LPX (fX6_meets_L150 c0 s (nI c) span R32) FU (z, 0) = some (b2 (hitI R F T up)) := by
  have eR : R32 = Int32.ofInt R := by rw [fa_eq, fb_ofI (by omega) (by omega), hR]
  have ez : z = Int32.ofInt up := by rw [fa_eq, fb_ofI (by omega) (by omega), hz]
  subst ez
  have hmod := Int.emod_add_ediv_mul up R
  have hm0 := Int.emod_nonneg up (show R ≠ 0 by omega)
  have hm1 := Int.emod_lt_of_pos up hR1
  unfold hitI foldI
  by_cases hn : 0 ≤ up
  · rw [show FU = 3999 + 1 from rfl, LPX_s]
    simp only [fX6_meets_L150]
    have h1 : (0 : Int32) ≤ Int32.ofInt up := by rw [fa_le, hz]; exact hn
    have hp := l6_loop2 (c0 := c0) hc hR hR1 hR2 hF hT (LPX (fX6_meets_L150 c0 s (nI c) span R32) 3999) hn hu2 (m := 0) (by omega)
    have hq0 : 0 ≤ up / R := Int.ediv_nonneg hn (by omega)
    rw [if_pos h1, show ((Int32.ofInt up, (0 : Int32)) : Int32 × Int32) = (Int32.ofInt up, nI 0) from rfl, hp]
    have e : ((0 + (up / R).toNat) % 2 = 0) ↔ (up / R) % 2 = 0 := by omega
    simp only [e]
  · have hqn : up / R < 0 := Int.ediv_neg_of_neg_of_pos (by omega) hR1
    have hqb : -1000 ≤ up / R := by
      have h1 := Int.ediv_le_ediv hR1 hu1
      rw [show -(1000 * R) = -1000 * R by omega, Int.mul_ediv_cancel _ (by omega)] at h1
      exact h1
    have e0 : ((Int32.ofInt up, (0 : Int32)) : Int32 × Int32) = (fun t : Nat => (Int32.ofInt (up + t * R), nI t)) 0 := by
      show _ = (Int32.ofInt (up + ((0 : Nat) : Int) * R), nI 0)
      rw [show up + ((0 : Nat) : Int) * R = up by simp]
      rfl
    rw [e0]
    refine LPX_det (F := fun t : Nat => (Int32.ofInt (up + t * R), nI t)) (-(up / R)).toNat (fun t ht k => ?_) (fun k => ?_) (FU_lt (by omega))
    · have h1 : ((t : Int) + 1) * R ≤ -(up / R) * R := Int.mul_le_mul_of_nonneg_right (by omega) (by omega)
      rw [Int.add_mul, Int.one_mul, Int.neg_mul] at h1
      have h0 : 0 ≤ (t : Int) * R := Int.mul_nonneg (by omega) (by omega)
      have h2 : ¬ (0 : Int32) ≤ Int32.ofInt (up + t * R) := by rw [fa_le, fb_ofI (by omega) (by omega), show (0 : Int32).toInt = 0 from rfl]; omega
      have e2 : Int32.ofInt (up + t * R) + R32 = Int32.ofInt (up + ((t + 1 : Nat) : Int) * R) := by
        rw [eR, ← Int32.ofInt_add, show ((t + 1 : Nat) : Int) = (t : Int) + 1 from rfl, Int.add_mul, Int.one_mul]
        congr 1
        omega
      simp only [fX6_meets_L150, bnd]
      rw [if_neg h2, e2, nI_1]
    · have e1 : up + ((-(up / R)).toNat : Int) * R = up % R := by
        rw [Int.toNat_of_nonneg (by omega), Int.neg_mul]; omega
      have h2 : (0 : Int32) ≤ Int32.ofInt (up % R) := by rw [fa_le, fb_ofI (by omega) (by omega), show (0 : Int32).toInt = 0 from rfl]; omega
      simp only [fX6_meets_L150, e1]
      rw [if_pos h2, l6_loop2 (c0 := c0) hc hR hR1 hR2 hF hT k hm0 (by omega) (m := (-(up / R)).toNat) (by omega)]
      have e3 : up % R / R = 0 := Int.ediv_eq_zero_of_lt hm0 hm1
      have e4 : up % R % R = up % R := Int.emod_eq_of_lt hm0 hm1
      rw [e3, e4]
      have e : (((-(up / R)).toNat + (0 : Int).toNat) % 2 = 0) ↔ (up / R) % 2 = 0 := by
        have : (0 : Int).toNat = 0 := rfl
        omega
      simp only [e]
