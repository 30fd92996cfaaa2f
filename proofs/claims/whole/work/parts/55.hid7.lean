theorem e6_size {z : Int32} (h1 : -1000 ≤ z.toInt) (h2 : z.toInt ≤ 1000) : ∃ r, fX6_size z = some r ∧ r.toInt = absI z.toInt := by
  unfold fX6_size absI
  by_cases h : 0 ≤ z.toInt
  · rw [if_pos (show (0 : Int32) ≤ z by rw [fa_le]; exact h), if_pos h]
    exact ⟨_, rfl, rfl⟩
  · rw [if_neg (show ¬ (0 : Int32) ≤ z by rw [fa_le]; exact h), if_neg h]
    exact ⟨_, rfl, fb_negI (by omega)⟩
theorem bet_if {α : Type} (a fx x : Int) (P Q : α) : (if a ≤ fx then (if a ≤ x then Q else (if a < fx then P else Q)) else (if a < x then P else (if a ≤ x then Q else (if a < fx then P else Q)))) = if (fx < a ∧ a < x) ∨ (x < a ∧ a < fx) then P else Q := by
  repeat' split
  all_goals first | rfl | (exfalso; omega)
theorem e6_meets {c0 s : Nat → Int32} {c : Nat} {i j k x y : Int32} (hc : c < 3) (hR : RV (s 0) (s 1) (s 2) (s 3)) (hC : CV (s 0) (s 1) (s (18 + c)) (s (21 + c)) (s (24 + c))) (hP : PV (s 0) (s 1) x y) (hi : I3 i) (hj : I3 j) (hk1 : -5 ≤ k.toInt) (hk2 : k.toInt ≤ 5) :
    fX6_meets c0 s (nI c) k i j x y = some (b2 (hitC (s 0) (s 1) (s 2) (s 3) (s (18 + c)) (s (21 + c)) (s (24 + c)) i j k x y)) := by
  obtain ⟨r1, r2, r3, r4, r5, r6, r7, r8⟩ := hR
  obtain ⟨q1, q2, q3, q4, q5⟩ := hC
  obtain ⟨p1, p2, p3, p4⟩ := hP
  obtain ⟨i1, i2⟩ := hi
  obtain ⟨j1, j2⟩ := hj
  obtain ⟨-, fx1, fx2⟩ := mir_z (k := i) (L := s 0) (x := s 2) (by omega) (by omega) (by omega) r2 r5 r6
  obtain ⟨-, fy1, fy2⟩ := mir_z (k := j) (L := s 1) (x := s 3) (by omega) (by omega) (by omega) r4 r7 r8
  obtain ⟨-, a1, a2⟩ := mir_z (k := k) (L := s 0) (x := s (18 + c)) (by omega) (by omega) (by omega) r2 (by omega) (by omega)
  have e18 : (18 : Int32) + nI c = nI (18 + c) := nI_add 18 c
  unfold hitC fX6_meets
  rw [e6_mir _ _ (by omega) (by omega), e6_mir _ _ (by omega) (by omega), Option.bind_some, Option.bind_some, e18, if_pos (okI_nI (by omega) (by decide)), cl_nI (by omega), e6_mir _ _ hk1 hk2, Option.bind_some]
  generalize mir i (s 0) (s 2) = fx at *
  generalize mir j (s 1) (s 3) = fy at *
  generalize mir k (s 0) (s (18 + c)) = a at *
  unfold hitA
  have hbet : ∀ (P : Option Int32), (if a ≤ fx then (if a ≤ x then some 0 else (if a < fx then P else some 0)) else (if a < x then P else (if a ≤ x then some 0 else (if a < fx then P else some 0)))) = if (fx.toInt < a.toInt ∧ a.toInt < x.toInt) ∨ (x.toInt < a.toInt ∧ a.toInt < fx.toInt) then P else some 0 := by
    intro P
    simp only [fa_le, fa_lt]
    exact bet_if _ _ _ _ _
  rw [hbet]
  by_cases hb : (fx.toInt < a.toInt ∧ a.toInt < x.toInt) ∨ (x.toInt < a.toInt ∧ a.toInt < fx.toInt)
  · rw [if_pos hb, decide_eq_true hb, Bool.true_and]
    have d1 : (a - fx).toInt = a.toInt - fx.toInt := fb_subI (by omega) (by omega)
    have d2 : (x - fx).toInt = x.toInt - fx.toInt := fb_subI (by omega) (by omega)
    have d3 : (y - fy).toInt = y.toInt - fy.toInt := fb_subI (by omega) (by omega)
    obtain ⟨span, hsp, g2⟩ := e6_size (z := x - fx) (by omega) (by omega)
    rw [d2] at g2
    have hs1 : 1 ≤ span.toInt := by rw [g2]; unfold absI; split <;> omega
    have hs2 : span.toInt ≤ 140 := by rw [g2]; unfold absI; split <;> omega
    have hg1 : 0 ≤ absI (a.toInt - fx.toInt) := by unfold absI; split <;> omega
    have hg2 : absI (a.toInt - fx.toInt) ≤ span.toInt := by rw [g2]; unfold absI; split <;> split <;> omega
    have m1 := mulz (a := fy.toInt) (A := 140) (b := span.toInt) (B := span.toInt) (by omega) (by omega) (by omega) (Int.le_refl _)
    have m2 := mulz (a := y.toInt - fy.toInt) (A := 140) (b := absI (a.toInt - fx.toInt)) (B := span.toInt) (by omega) (by omega) hg1 hg2
    have hbR := mulb (show 0 ≤ (s 1).toInt by omega) r4 (show 0 ≤ span.toInt by omega) hs2
    have hRR : (s 1 * span).toInt = (s 1).toInt * span.toInt := fb_mulI (by omega) (by omega)
    have hR2 : 2 * span.toInt ≤ (s 1).toInt * span.toInt := Int.mul_le_mul_of_nonneg_right r3 (by omega)
    have hbF := mulb q3 (show (s (21 + c)).toInt ≤ 20 by omega) (show 0 ≤ span.toInt by omega) hs2
    have hF : (s (21 + c) * span).toInt = (s (21 + c)).toInt * span.toInt := fb_mulI (by omega) (by omega)
    have hbT := mulb (show 0 ≤ (s (24 + c)).toInt by omega) (show (s (24 + c)).toInt ≤ 20 by omega) (show 0 ≤ span.toInt by omega) hs2
    have hT : (s (24 + c) * span).toInt = (s (24 + c)).toInt * span.toInt := fb_mulI (by omega) (by omega)
    have w1 := mulz (a := fy.toInt) (A := 140) (b := absI (x.toInt - fx.toInt)) (B := 140) (by omega) (by omega) (by omega) (by omega)
    have hj127 : ∀ z : Int32, z.toInt = fy.toInt * span.toInt + (y.toInt - fy.toInt) * absI (a.toInt - fx.toInt) → fX6_meets_j127 c0 s (nI c) (x - fx) z = some (b2 (hitI ((s 1).toInt * span.toInt) ((s (21 + c)).toInt * span.toInt) ((s (24 + c)).toInt * span.toInt) (fy.toInt * span.toInt + (y.toInt - fy.toInt) * absI (a.toInt - fx.toInt)))) := by
      intro z hz
      unfold fX6_meets_j127
      rw [hsp, Option.bind_some]
      simp only [bnd]
      exact l6_loop hc hRR (by omega) (by omega) hF hT hz (by omega) (by omega)
    rw [← g2]
    unfold fX6_meets_j88
    simp only [bnd]
    have u1 : (fy * (x - fx)).toInt = fy.toInt * (x.toInt - fx.toInt) := by
      rw [← d2]; refine fb_mulI ?_ ?_ <;> rw [d2] <;> unfold absI at w1 <;> split at w1
      · omega
      · rw [Int.mul_neg] at w1; omega
      · omega
      · rw [Int.mul_neg] at w1; omega
    have u2 : ((y - fy) * (a - fx)).toInt = (y.toInt - fy.toInt) * (a.toInt - fx.toInt) := by
      rw [← d1, ← d3]; refine fb_mulI ?_ ?_ <;> rw [d1, d3] <;> unfold absI at m2 <;> split at m2
      · omega
      · rw [Int.mul_neg] at m2; omega
      · omega
      · rw [Int.mul_neg] at m2; omega
    by_cases h0 : 0 ≤ x.toInt - fx.toInt
    · have ea : absI (x.toInt - fx.toInt) = x.toInt - fx.toInt := if_pos h0
      have eb : absI (a.toInt - fx.toInt) = a.toInt - fx.toInt := if_pos (by omega)
      rw [if_pos (show (0 : Int32) ≤ x - fx by rw [fa_le, d2]; exact h0)]
      refine hj127 _ ?_
      have n1 : fy.toInt * span.toInt = fy.toInt * (x.toInt - fx.toInt) := by rw [g2, ea]
      have n2 : (y.toInt - fy.toInt) * absI (a.toInt - fx.toInt) = (y.toInt - fy.toInt) * (a.toInt - fx.toInt) := by rw [eb]
      rw [fb_addI (by rw [u1, u2]; omega) (by rw [u1, u2]; omega), u1, u2]
      omega
    · have ea : absI (x.toInt - fx.toInt) = -(x.toInt - fx.toInt) := if_neg h0
      have eb : absI (a.toInt - fx.toInt) = -(a.toInt - fx.toInt) := if_neg (by omega)
      rw [if_neg (show ¬ (0 : Int32) ≤ x - fx by rw [fa_le, d2]; exact h0)]
      refine hj127 _ ?_
      have n1 : fy.toInt * span.toInt = -(fy.toInt * (x.toInt - fx.toInt)) := by rw [g2, ea, Int.mul_neg]
      have n2 : (y.toInt - fy.toInt) * absI (a.toInt - fx.toInt) = -((y.toInt - fy.toInt) * (a.toInt - fx.toInt)) := by rw [eb, Int.mul_neg]
      have u3 : (fy * (x - fx) + (y - fy) * (a - fx)).toInt = fy.toInt * (x.toInt - fx.toInt) + (y.toInt - fy.toInt) * (a.toInt - fx.toInt) := by
        rw [fb_addI (by rw [u1, u2]; omega) (by rw [u1, u2]; omega), u1, u2]
      rw [fb_negI (by rw [u3]; omega), u3]
      omega
  · rw [if_neg hb, decide_eq_false hb, Bool.false_and]
    rfl
