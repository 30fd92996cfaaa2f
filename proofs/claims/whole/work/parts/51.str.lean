/-! STRENGTH -/
def stp (s : Int32) : Nat → Int32 → Int32
  | 0, v => v
  | n + 1, v => stp s n v * (10 - s) / 10
def acw (sw : Nat → Int32) (i j : Int32) : Nat → Int32
  | 0 => 1000000
  | w + 1 => stp (sw w) (Int32.toNatClampNeg (tm (nI w) i j)) (acw sw i j w)
def str (sw : Nat → Int32) (i j way : Int32) : Int32 := acw sw i j 4 / (way + 1)
theorem str_congr {f g : Nat → Int32} (h : ∀ w, w < 4 → f w = g w) (i j way : Int32) : str f i j way = str g i j way := by
  have e : ∀ n, n ≤ 4 → acw f i j n = acw g i j n := by
    intro n
    induction n with
    | zero => intro _; rfl
    | succ n ih => intro hn; simp only [acw]; rw [ih (by omega), h n (by omega)]
  unfold str
  rw [e 4 (Nat.le_refl 4)]
theorem nI4 {w : Nat} (h : w < 4) : nI w = 0 ∨ nI w = 1 ∨ nI w = 2 ∨ nI w = 3 := by
  match w, h with
  | 0, _ => exact Or.inl rfl
  | 1, _ => exact Or.inr (Or.inl rfl)
  | 2, _ => exact Or.inr (Or.inr (Or.inl rfl))
  | 3, _ => exact Or.inr (Or.inr (Or.inr rfl))
theorem clT (x : Int32) : Int32.toNatClampNeg x = x.toInt.toNat := rfl
theorem l5_str_in (c0 : Nat → Int32) (i j way : Int32) (w : Nat) (hw : w < 4) (T : Int32) (hT : 0 ≤ T.toInt) (hT2 : T.toInt ≤ 2) (v : Int32) (k7 : Int32 × Int32 → Option Int32) :
    LPX (fX5_strengthOf_L25 c0 i j way (nI w) T k7) FU (v, 0) = k7 (stp (c0 w) (Int32.toNatClampNeg T) v, nI w + 1) := by
  refine LPX_det (F := fun u => (stp (c0 w) u v, nI u)) (Int32.toNatClampNeg T) (fun u hu k => ?_) (fun k => ?_) (FU_lt (by rw [clT]; omega))
  · rw [clT] at hu
    have h1 : ¬ T ≤ nI u := by rw [fa_le, nI_toInt (by omega)]; omega
    simp only [fX5_strengthOf_L25, bnd]
    rw [if_neg h1, if_pos (okI_nI hw (by decide)), cl_nI (by omega), nI_1]
    rfl
  · have h1 : T ≤ nI (Int32.toNatClampNeg T) := by rw [fa_le, nI_toInt (by rw [clT]; omega), clT]; omega
    simp only [fX5_strengthOf_L25]
    rw [if_pos h1]
theorem e5_str (c0 : Nat → Int32) {i j way : Int32} (h : imgB i j = true) (h1 : 0 ≤ way.toInt) (h2 : way.toInt ≤ 6800) : fX5_strengthOf c0 i j way = some (str c0 i j way) := by
  unfold fX5_strengthOf
  refine LPX_det (F := fun w => (acw c0 i j w, nI w)) 4 (fun w hw k => ?_) (fun k => ?_) (FU_lt (by decide))
  · have h3 : ¬ (3 : Int32) < nI w := by rw [fa_lt, nI_toInt (by omega), show (3 : Int32).toInt = 3 from rfl]; omega
    obtain ⟨p1, -, p3, p4⟩ := tm_ok (nI4 hw) h
    simp only [fX5_strengthOf_L7]
    rw [if_neg h3, p1, Option.bind_some, l5_str_in c0 i j way w hw _ p3 p4, nI_1]
    rfl
  · have e1 : (way + 1).toInt = way.toInt + 1 := fb_addI (by rw [show (1 : Int32).toInt = 1 from rfl]; omega) (by rw [show (1 : Int32).toInt = 1 from rfl]; omega)
    have e2 : (if (1 : Int32) < way + 1 then way + 1 else 1) = way + 1 := by
      split
      · rfl
      · rename_i h3
        rw [fa_lt, e1, show (1 : Int32).toInt = 1 from rfl] at h3
        rw [fa_eq, e1, show (1 : Int32).toInt = 1 from rfl]
        omega
    have e3 : ¬ way + 1 = 0 := by rw [fa_eq, e1, show (0 : Int32).toInt = 0 from rfl]; omega
    simp only [fX5_strengthOf_L7, e2]
    rw [if_pos (show (3 : Int32) < nI 4 by decide), if_pos e3]
    rfl
theorem l6_str_in (c0 sw : Nat → Int32) (i j way : Int32) (w : Nat) (hw : w < 4) (T : Int32) (hT : 0 ≤ T.toInt) (hT2 : T.toInt ≤ 2) (v : Int32) (k7 : Int32 × Int32 → Option Int32) :
    LPX (fX6_strengthOf_L22 c0 sw i j way (nI w) k7) FU (v, T) = k7 (stp (sw w) (Int32.toNatClampNeg T) v, nI w + 1) := by
  obtain ⟨n, hn, e⟩ := nI_ex (N := 3) hT (by omega)
  subst e
  rw [cl_nI (by omega)]
  have e0 : ((v, nI n) : Int32 × Int32) = (fun u => (stp (sw w) u v, nI (n - u))) 0 := rfl
  rw [e0]
  refine LPX_det (F := fun u => (stp (sw w) u v, nI (n - u))) n (fun u hu k => ?_) (fun k => ?_) (FU_lt (by omega))
  · have h1 : ¬ nI (n - u) ≤ 0 := by rw [fa_le, nI_toInt (by omega), show (0 : Int32).toInt = 0 from rfl]; omega
    have e1 : nI (n - u) + (-1) = nI (n - (u + 1)) := by
      have e2 : n - u = (n - (u + 1)) + 1 := by omega
      rw [e2]
      exact pk_m1 _
    simp only [fX6_strengthOf_L22, bnd]
    rw [if_neg h1, if_pos (okI_nI hw (by decide)), cl_nI (by omega), e1]
    rfl
  · have h1 : nI (n - n) ≤ 0 := by rw [Nat.sub_self]; decide
    simp only [fX6_strengthOf_L22]
    rw [if_pos h1]
theorem e6_str (c0 sw : Nat → Int32) {i j way : Int32} (h : imgB i j = true) (h1 : 0 ≤ way.toInt) (h2 : way.toInt ≤ 6800) : fX6_strengthOf c0 sw i j way = some (str sw i j way) := by
  unfold fX6_strengthOf
  refine LPX_det (F := fun w => (acw sw i j w, nI w)) 4 (fun w hw k => ?_) (fun k => ?_) (FU_lt (by decide))
  · have h3 : ¬ (4 : Int32) ≤ nI w := by rw [fa_le, nI_toInt (by omega), show (4 : Int32).toInt = 4 from rfl]; omega
    obtain ⟨-, p1, p3, p4⟩ := tm_ok (nI4 hw) h
    simp only [fX6_strengthOf_L7]
    rw [if_neg h3, p1, Option.bind_some, l6_str_in c0 sw i j way w hw _ p3 p4, nI_1]
    rfl
  · have e1 : (way + 1).toInt = way.toInt + 1 := fb_addI (by rw [show (1 : Int32).toInt = 1 from rfl]; omega) (by rw [show (1 : Int32).toInt = 1 from rfl]; omega)
    have e3 : ¬ way + 1 = 0 := by rw [fa_eq, e1, show (0 : Int32).toInt = 0 from rfl]; omega
    simp only [fX6_strengthOf_L7]
    rw [if_pos (show (4 : Int32) ≤ nI 4 by decide), if_pos e3]
    rfl
/-! bounds of it -/
theorem div_i {a b : Int32} (h : -2147483648 < a.toInt) : (a / b).toInt = a.toInt.tdiv b.toInt := by
  rw [Int32.toInt_div]
  have h1 := fb_rng a
  have h2 := Int.natAbs_tdiv_le_natAbs a.toInt b.toInt
  exact fb_bmod (by omega) (by omega)
theorem stp_rng {s : Int32} (h1 : 0 ≤ s.toInt) (h2 : s.toInt ≤ 10) {v : Int32} (h3 : 0 ≤ v.toInt) (h4 : v.toInt ≤ 1000000) : ∀ n, 0 ≤ (stp s n v).toInt ∧ (stp s n v).toInt ≤ 1000000 := by
  intro n
  induction n with
  | zero => exact ⟨h3, h4⟩
  | succ n ih =>
    have e1 : ((10 : Int32) - s).toInt = 10 - s.toInt := fb_subI (by rw [show (10 : Int32).toInt = 10 from rfl]; omega) (by rw [show (10 : Int32).toInt = 10 from rfl]; omega)
    have hm0 : 0 ≤ (stp s n v).toInt * (10 - s.toInt) := Int.mul_nonneg ih.1 (by omega)
    have hm1 : (stp s n v).toInt * (10 - s.toInt) ≤ (stp s n v).toInt * 10 := Int.mul_le_mul_of_nonneg_left (by omega) ih.1
    have e2 : (stp s n v * (10 - s)).toInt = (stp s n v).toInt * (10 - s.toInt) := by
      rw [← e1]
      exact fb_mulI (by rw [e1]; omega) (by rw [e1]; omega)
    have e3 : (stp s (n + 1) v).toInt = ((stp s n v).toInt * (10 - s.toInt)).tdiv 10 := by
      show (stp s n v * (10 - s) / 10).toInt = _
      rw [div_i (by rw [e2]; omega), e2]
      rfl
    rw [e3, Int.tdiv_eq_ediv_of_nonneg hm0]
    omega
theorem acw_rng {sw : Nat → Int32} (h : ∀ w, w < 4 → 0 ≤ (sw w).toInt ∧ (sw w).toInt ≤ 10) (i j : Int32) : ∀ n, n ≤ 4 → 0 ≤ (acw sw i j n).toInt ∧ (acw sw i j n).toInt ≤ 1000000 := by
  intro n
  induction n with
  | zero => intro _; exact ⟨(by decide : 0 ≤ (1000000 : Int32).toInt), (by decide : (1000000 : Int32).toInt ≤ 1000000)⟩
  | succ n ih =>
    intro hn
    have h1 := ih (by omega)
    have h2 := h n (by omega)
    exact stp_rng h2.1 h2.2 h1.1 h1.2 _
theorem str_rng {sw : Nat → Int32} (h : ∀ w, w < 4 → 0 ≤ (sw w).toInt ∧ (sw w).toInt ≤ 10) (i j : Int32) {way : Int32} (h1 : 0 ≤ way.toInt) (h2 : way.toInt ≤ 6800) : 0 ≤ (str sw i j way).toInt ∧ (str sw i j way).toInt ≤ 1000000 := by
  have h3 := acw_rng h i j 4 (Nat.le_refl 4)
  have e1 : (way + 1).toInt = way.toInt + 1 := fb_addI (by rw [show (1 : Int32).toInt = 1 from rfl]; omega) (by rw [show (1 : Int32).toInt = 1 from rfl]; omega)
  unfold str
  rw [div_i (by omega), e1, Int.tdiv_eq_ediv_of_nonneg h3.1]
  refine ⟨Int.ediv_nonneg h3.1 (by omega), ?_⟩
  exact Int.le_trans (Int.ediv_le_self _ h3.1) h3.2
