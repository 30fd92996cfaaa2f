/-! the class's next piece -/
section NEXT
variable {t b : Nat → Int32} {T p : Nat}
theorem min_99 {v : Nat} : ((99 : Int32) < nI (min v 100)) ↔ 99 < v := by
  rw [fa_lt, nI_toInt (by omega), show (99 : Int32).toInt = 99 from rfl]
  omega
theorem nI_sub {a c : Nat} (h : c ≤ a) (ha : a < 2147483648) : nI a - nI c = nI (a - c) := by
  rw [fa_eq, fb_subI (by rw [nI_toInt (by omega), nI_toInt (by omega)]; omega) (by rw [nI_toInt (by omega), nI_toInt (by omega)]; omega), nI_toInt (by omega), nI_toInt (by omega), nI_toInt (by omega)]
  omega
theorem cap_eq {x : Int32} {v : Nat} (h1 : 48 ≤ x.toInt) (h2 : x.toInt ≤ 57) : (if ((10 * nI (min v 100) + x) - 48) < 100 then ((10 * nI (min v 100) + x) - 48) else 100) = nI (min (if 100 ≤ v then v else 10 * v + (x.toInt - 48).toNat) 100) := by
  have e10 : (10 : Int32).toInt = 10 := rfl
  have e48 : (48 : Int32).toInt = 48 := rfl
  have em : (nI (min v 100)).toInt = (min v 100 : Nat) := nI_toInt (by omega)
  have e1 : (10 * nI (min v 100)).toInt = 10 * (min v 100 : Nat) := by rw [fb_mulI (by rw [e10, em]; omega) (by rw [e10, em]; omega), e10, em]
  have e2 : (10 * nI (min v 100) + x).toInt = 10 * (min v 100 : Nat) + x.toInt := by rw [fb_addI (by rw [e1]; omega) (by rw [e1]; omega), e1]
  have e3 : ((10 * nI (min v 100) + x) - 48).toInt = 10 * (min v 100 : Nat) + x.toInt - 48 := by rw [fb_subI (by rw [e2, e48]; omega) (by rw [e2, e48]; omega), e2, e48]
  have e4 : (nI (min (if 100 ≤ v then v else 10 * v + (x.toInt - 48).toNat) 100)).toInt = (min (if 100 ≤ v then v else 10 * v + (x.toInt - 48).toNat) 100 : Nat) := nI_toInt (by omega)
  rw [fa_eq, e4]
  by_cases c : 100 ≤ v
  · rw [if_neg (show ¬ ((10 * nI (min v 100) + x) - 48) < 100 by rw [fa_lt, e3, show (100 : Int32).toInt = 100 from rfl]; omega), if_pos c, show (100 : Int32).toInt = 100 from rfl]
    omega
  · rw [if_neg c]
    by_cases d : ((10 * nI (min v 100) + x) - 48) < 100
    · rw [if_pos d, e3]
      rw [fa_lt, e3, show (100 : Int32).toInt = 100 from rfl] at d
      omega
    · rw [if_neg d, show (100 : Int32).toInt = 100 from rfl]
      rw [fa_lt, e3, show (100 : Int32).toInt = 100 from rfl] at d
      omega
theorem c_figs {e : Nat → Int32} (hT : T ≤ 100) (hag : ∀ k, k < T → b k = t k) (hp : p < T) (h1 : e 1 = nI T) (h2 : e 2 = nI p) (h4 : e 4 = nI p) :
    ∃ e', fX4_takeFigures e b = some e' ∧ e' 1 = nI T ∧ e' 2 = nI (p + dgN t T p) ∧ e' 4 = nI p ∧ e' 3 = (if decide (99 < vaN t p (dgN t T p)) || (decide (t p = 48) && decide (1 < dgN t T p)) then -3 else -2) ∧ e' 5 = nI (min (vaN t p (dgN t T p)) 100) := by
  have hle := dg_le (t := t) (T := T) (p := p) (by omega)
  unfold fX4_takeFigures
  refine LPX_ruleP (P := fun o => ∃ e' : Nat → Int32, o = some e' ∧ e' 1 = nI T ∧ e' 2 = nI (p + dgN t T p) ∧ e' 4 = nI p ∧ e' 3 = (if decide (99 < vaN t p (dgN t T p)) || (decide (t p = 48) && decide (1 < dgN t T p)) then -3 else -2) ∧ e' 5 = nI (min (vaN t p (dgN t T p)) 100)) (I := fun n (e : Nat → Int32) => e 1 = nI T ∧ e 2 = nI (p + n) ∧ e 4 = nI p ∧ e 5 = nI (min (vaN t p n) 100)) (dgN t T p) ?_ ?_ FU 0 _ (by show dgN t T p < 4000 + 0; omega) (by omega) ⟨h1, h2, h4, rfl⟩
  · rintro n e hn ⟨i1, i2, i4, i5⟩
    left
    have hf := run_in (P := fgP t T) (p := p) (f := 101) (n := n) hn
    have hlt := fgP_lt hf
    have hfg : fgB (t (p + n)) = true := (Bool.and_eq_true_iff.mp hf).2
    have hr := of_decide_eq_true hfg
    refine ⟨upd (upd e 5 (nI (min (vaN t p (n + 1)) 100))) 2 (nI (p + (n + 1))), ⟨i1, rfl, i4, rfl⟩, fun k => ?_⟩
    have ok : okI (nI (p + n)) 100 := okI_nI (by omega) (by decide)
    have ec : Int32.toNatClampNeg (nI (p + n)) = p + n := cl_nI (by omega)
    simp only [fX4_takeFigures_L5, i1, i2, i5, if_pos ok, ec, hag _ hlt, e4_fig, Option.bind_some, b2_if, hfg, if_true, nI_1]
    rw [if_neg (show ¬ nI T ≤ nI (p + n) by rw [fa_le, nI_toInt (by omega), nI_toInt (by omega)]; omega), cap_eq hr.1 hr.2]
    rfl
  · rintro e ⟨i1, i2, i4, i5⟩
    have hend : fgP t T (p + dgN t T p) = false := run_end (T := T) (fun q h => fgP_lt h) (by omega)
    have ok : okI (nI (p + dgN t T p)) 100 ∨ T ≤ p + dgN t T p := by
      rcases Nat.lt_or_ge (p + dgN t T p) T with h | h
      · exact Or.inl (okI_nI (by omega) (by decide))
      · exact Or.inr h
    have hbody : ∀ k, fX4_takeFigures_L5 b k e = fX4_takeFigures_j73 b e := by
      intro k
      simp only [fX4_takeFigures_L5, i1, i2]
      rcases Nat.lt_or_ge (p + dgN t T p) T with h | h
      · have ok : okI (nI (p + dgN t T p)) 100 := okI_nI (by omega) (by decide)
        have hnf : fgB (t (p + dgN t T p)) = false := by
          unfold fgP at hend
          rw [decide_eq_true h, Bool.true_and] at hend
          exact hend
        rw [if_neg (show ¬ nI T ≤ nI (p + dgN t T p) by rw [fa_le, nI_toInt (by omega), nI_toInt (by omega)]; omega)]
        have ec : Int32.toNatClampNeg (nI (p + dgN t T p)) = p + dgN t T p := cl_nI (by omega)
        simp only [if_pos ok, ec, hag _ h, e4_fig, Option.bind_some, b2_if, hnf, Bool.false_eq_true, if_false]
      · rw [if_pos (show nI T ≤ nI (p + dgN t T p) by rw [fa_le, nI_toInt (by omega), nI_toInt (by omega)]; omega)]
    have h73 : ∃ z, fX4_takeFigures_j73 b e = some (upd e 3 z) ∧ z = (if decide (99 < vaN t p (dgN t T p)) || (decide (t p = 48) && decide (1 < dgN t T p)) then -3 else -2) := by
      unfold fX4_takeFigures_j73 fX4_takeFigures_j105
      have hs : nI (p + dgN t T p) - nI p = nI (dgN t T p) := by rw [nI_sub (by omega) (by omega)]; congr 1; omega
      rw [i4, i2, i5, if_pos (okI_nI (show p < 100 by omega) (by decide)), cl_nI (by omega), hag p hp, hs]
      simp only [min_99]
      by_cases c : 99 < vaN t p (dgN t T p)
      · rw [if_pos c, if_pos c, decide_eq_true c]
        refine ⟨-3, ?_, rfl⟩
        split
        · split <;> rfl
        · rfl
      · rw [if_neg c, if_neg c, decide_eq_false c, Bool.false_or, if_neg (show ¬ (1 : Int32) = 0 by decide), if_pos trivial]
        by_cases c8 : t p = 48
        · rw [if_pos c8, decide_eq_true c8, Bool.true_and]
          by_cases c1 : 1 < dgN t T p
          · rw [if_neg (show ¬ nI (dgN t T p) ≤ 1 by rw [fa_le, nI_toInt (by omega), show (1 : Int32).toInt = 1 from rfl]; omega), decide_eq_true c1]
            exact ⟨_, rfl, rfl⟩
          · rw [if_pos (show nI (dgN t T p) ≤ 1 by rw [fa_le, nI_toInt (by omega), show (1 : Int32).toInt = 1 from rfl]; omega), decide_eq_false c1]
            exact ⟨_, rfl, rfl⟩
        · rw [if_neg c8, decide_eq_false c8, Bool.false_and]
          exact ⟨_, rfl, rfl⟩
    obtain ⟨z, hz, ez⟩ := h73
    exact ⟨_, ⟨upd e 3 z, rfl, i1, i2, i4, ez, i5⟩, fun k => by rw [hbody, hz]⟩
theorem c_next {e : Nat → Int32} (hT : T ≤ 100) (hag : ∀ k, k < T → b k = t k) (hl : ∀ k, k < T → 0 ≤ (t k).toInt ∧ (t k).toInt ≤ 255) (hp : p ≤ T) (h1 : e 1 = nI T) (h2 : e 2 = nI p) :
    ∃ e', fX4_nextToken e b = some e' ∧ e' 1 = nI T ∧ e' 2 = nI (tkE t T p) ∧ e' 4 = nI (sk t T p) ∧ e' 3 = ckF t T p ∧ (ckF t T p = -2 → e' 5 = nI (vlF t T p)) := by
  have hsl := sk_le (t := t) hp
  unfold fX4_nextToken
  refine LPX_ruleP (P := fun o => ∃ e' : Nat → Int32, o = some e' ∧ e' 1 = nI T ∧ e' 2 = nI (tkE t T p) ∧ e' 4 = nI (sk t T p) ∧ e' 3 = ckF t T p ∧ (ckF t T p = -2 → e' 5 = nI (vlF t T p))) (I := fun n (e : Nat → Int32) => e 1 = nI T ∧ e 2 = nI (p + n)) (runN (spP t T) p 101) ?_ ?_ FU 0 _ (by have : sk t T p = p + runN (spP t T) p 101 := rfl; show runN (spP t T) p 101 < 4000 + 0; omega) (by omega) ⟨h1, h2⟩
  · rintro n e hn ⟨i1, i2⟩
    left
    have hf := run_in (P := spP t T) (p := p) (f := 101) (n := n) hn
    have hlt := spP_lt hf
    have h32 : t (p + n) = 32 := of_decide_eq_true (Bool.and_eq_true_iff.mp hf).2
    refine ⟨upd e 2 (nI (p + (n + 1))), ⟨i1, rfl⟩, fun k => ?_⟩
    have ok : okI (nI (p + n)) 100 := okI_nI (by omega) (by decide)
    simp only [fX4_nextToken_L0, i1, i2]
    rw [if_neg (show ¬ nI T ≤ nI (p + n) by rw [fa_le, nI_toInt (by omega), nI_toInt (by omega)]; omega), if_pos ok, cl_nI (by omega), hag _ hlt, if_pos h32, nI_1]
    rfl
  · rintro e ⟨i1, i2⟩
    have i2 : e 2 = nI (sk t T p) := i2
    have hsk := sk_end (t := t) (T := T) (p := p) hT
    have hbody : ∀ k, fX4_nextToken_L0 b k e = fX4_nextToken_j38 b e := by
      intro k
      simp only [fX4_nextToken_L0, i1, i2]
      rcases Nat.lt_or_ge (sk t T p) T with h | h
      · rw [if_neg (show ¬ nI T ≤ nI (sk t T p) by rw [fa_le, nI_toInt (by omega), nI_toInt (by omega)]; omega), if_pos (okI_nI (show sk t T p < 100 by omega) (by decide)), cl_nI (by omega), hag _ h, if_neg (sk_ns hT h)]
      · rw [if_pos (show nI T ≤ nI (sk t T p) by rw [fa_le, nI_toInt (by omega), nI_toInt (by omega)]; omega)]
    have hfin : ∃ e', fX4_nextToken_j38 b e = some e' ∧ e' 1 = nI T ∧ e' 2 = nI (tkE t T p) ∧ e' 4 = nI (sk t T p) ∧ e' 3 = ckF t T p ∧ (ckF t T p = -2 → e' 5 = nI (vlF t T p)) := by
      unfold fX4_nextToken_j38
      rw [i1, i2]
      rcases Nat.lt_or_ge (sk t T p) T with h | h
      · have ok : okI (nI (sk t T p)) 100 := okI_nI (by omega) (by decide)
        rw [if_pos (show nI (sk t T p) < nI T by rw [fa_lt, nI_toInt (by omega), nI_toInt (by omega)]; omega), if_pos ok, if_pos ok, cl_nI (by omega), hag _ h, e4_fig, Option.bind_some, b2_if, nI_1]
        cases hf : fgB (t (sk t T p)) with
        | false =>
          have ek : ckF t T p = t (sk t T p) := by unfold ckF; rw [if_pos h, hf]; rfl
          have ee : tkE t T p = sk t T p + 1 := by unfold tkE; rw [if_pos h, hf]; rfl
          rw [ek, ee]
          refine ⟨_, rfl, i1, rfl, rfl, rfl, fun hx => ?_⟩
          have := (hl _ h).1
          rw [hx] at this
          exact absurd this (by decide)
        | true =>
          simp only [if_true]
          obtain ⟨e', x0, x1, x2, x4, x3, x5⟩ := c_figs (e := upd e 4 (nI (sk t T p))) hT hag h i1 i2 rfl
          rw [x0, Option.bind_some]
          have ek : ckF t T p = if baB t T p then -3 else -2 := by unfold ckF; rw [if_pos h, hf]; rfl
          have ee : tkE t T p = sk t T p + dgN t T (sk t T p) := by unfold tkE; rw [if_pos h, hf]; rfl
          rw [ee]
          refine ⟨e', rfl, x1, x2, x4, by rw [ek]; exact x3, fun hx => ?_⟩
          rw [x5]
          unfold vlF
          have hb : baB t T p = false := by
            cases hb : baB t T p with
            | false => rfl
            | true => rw [ek, hb] at hx; exact absurd hx (by decide)
          have hv : ¬ 99 < vaN t (sk t T p) (dgN t T (sk t T p)) := by
            intro c
            unfold baB at hb
            rw [decide_eq_true c] at hb
            cases hb
          congr 1
          omega
      · rw [if_neg (show ¬ nI (sk t T p) < nI T by rw [fa_lt, nI_toInt (by omega), nI_toInt (by omega)]; omega)]
        have ek : ckF t T p = -1 := by unfold ckF; rw [if_neg (by omega)]
        have ee : tkE t T p = sk t T p := by unfold tkE; rw [if_neg (by omega)]
        rw [ek, ee]
        exact ⟨_, rfl, i1, i2, rfl, rfl, fun hx => absurd hx (by decide)⟩
    obtain ⟨e', y0, y⟩ := hfin
    exact ⟨_, ⟨e', rfl, y⟩, fun k => by rw [hbody, y0]⟩
end NEXT
