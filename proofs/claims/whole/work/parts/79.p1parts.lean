/-! the reference's table of pieces -/
def PS (t : Nat → Int32) (T : Nat) : Nat → Nat
  | 0 => 0
  | n + 1 => tkE t T (PS t T n)
section PARTS
variable {t : Nat → Int32} {T : Nat}
theorem PS_le : ∀ n, PS t T n ≤ T
  | 0 => Nat.zero_le _
  | n + 1 => tkE_le (PS_le n)
theorem e6_le (x : Int32) : fX6_isLetter x = some (b2 (leB x)) := by
  unfold fX6_isLetter leB
  by_cases a1 : x = 114
  · rw [if_pos a1, decide_eq_true (Or.inl a1)]; rfl
  by_cases a2 : x = 119
  · rw [if_neg a1, if_pos a2, decide_eq_true (Or.inr (Or.inl a2))]; rfl
  by_cases a3 : x = 113
  · rw [if_neg a1, if_neg a2, if_pos a3, decide_eq_true (Or.inr (Or.inr (Or.inl a3)))]; rfl
  by_cases a4 : x = 115
  · rw [if_neg a1, if_neg a2, if_neg a3, if_pos a4, decide_eq_true (Or.inr (Or.inr (Or.inr (Or.inl a4))))]; rfl
  by_cases a5 : x = 99
  · rw [if_neg a1, if_neg a2, if_neg a3, if_neg a4, if_pos a5, decide_eq_true (Or.inr (Or.inr (Or.inr (Or.inr (Or.inl a5)))))]; rfl
  by_cases a6 : x = 59
  · rw [if_neg a1, if_neg a2, if_neg a3, if_neg a4, if_neg a5, if_pos a6, decide_eq_true (Or.inr (Or.inr (Or.inr (Or.inr (Or.inr a6)))))]; rfl
  rw [if_neg a1, if_neg a2, if_neg a3, if_neg a4, if_neg a5, if_neg a6, decide_eq_false (fun h => by rcases h with h | h | h | h | h | h <;> contradiction)]; rfl
theorem va_step {x : Int32} {v : Nat} (hv : v < 100) (h1 : 48 ≤ x.toInt) (h2 : x.toInt ≤ 57) : (10 * nI v + x) - 48 = nI (10 * v + (x.toInt - 48).toNat) := by
  have e10 : (10 : Int32).toInt = 10 := rfl
  have e48 : (48 : Int32).toInt = 48 := rfl
  have em : (nI v).toInt = v := nI_toInt (by omega)
  have e1 : (10 * nI v).toInt = 10 * v := by rw [fb_mulI (by rw [e10, em]; omega) (by rw [e10, em]; omega), e10, em]
  have e2 : (10 * nI v + x).toInt = 10 * v + x.toInt := by rw [fb_addI (by rw [e1]; omega) (by rw [e1]; omega), e1]
  rw [fa_eq, fb_subI (by rw [e2, e48]; omega) (by rw [e2, e48]; omega), e2, e48, nI_toInt (by omega)]
  omega
theorem m_numbered {e kd vl : Nat → Int32} {p n : Nat} (hT : T ≤ 100) (hl : ∀ k, k < T → 0 ≤ (t k).toInt ∧ (t k).toInt ≤ 255) (hp : p < T) (h11 : e 11 = nI T) (h15 : e 15 = nI n) (hn : n < 100) :
    fX6_numbered e t kd vl (nI p) = some (nI (p + dgN t T p), upd kd n (if decide (99 < vaN t p (dgN t T p)) || (decide (t p = 48) && decide (1 < dgN t T p)) then 2 else 1), upd vl n (nI (vaN t p (dgN t T p)))) := by
  have hle := dg_le (t := t) (T := T) (p := p) (by omega)
  unfold fX6_numbered
  refine LPX_det (F := fun m => (nI (p + m), nI (vaN t p m))) (dgN t T p) (fun m hm k => ?_) (fun k => ?_) (FU_lt (by omega))
  · have hf := run_in (P := fgP t T) (p := p) (f := 101) (n := m) hm
    have hlt := fgP_lt hf
    have hfg : fgB (t (p + m)) = true := (Bool.and_eq_true_iff.mp hf).2
    have hr := of_decide_eq_true hfg
    have hv := vaN_999 (t := t) (T := T) (p := p) hl m (by omega)
    have ok : okI (nI (p + m)) 100 := okI_nI (by omega) (by decide)
    have ec : Int32.toNatClampNeg (nI (p + m)) = p + m := cl_nI (by omega)
    simp only [fX6_numbered_L4]
    rw [if_neg (show ¬ e 11 ≤ nI (p + m) by rw [h11, fa_le, nI_toInt (by omega), nI_toInt (by omega)]; omega)]
    simp only [if_pos ok, ec, e6_fig, Option.bind_some, b2_if, hfg, if_true, bnd_e, nI_1]
    show _ = k (nI (p + m + 1), nI (if 100 ≤ vaN t p m then vaN t p m else 10 * vaN t p m + ((t (p + m)).toInt - 48).toNat))
    by_cases c : 100 ≤ vaN t p m
    · rw [if_pos c, if_pos (show (100 : Int32) ≤ nI (vaN t p m) by rw [fa_le, nI_toInt (by omega), show (100 : Int32).toInt = 100 from rfl]; omega)]
    · rw [if_neg c, if_neg (show ¬ (100 : Int32) ≤ nI (vaN t p m) by rw [fa_le, nI_toInt (by omega), show (100 : Int32).toInt = 100 from rfl]; omega), va_step (by omega) hr.1 hr.2]
  · have hend : fgP t T (p + dgN t T p) = false := run_end (T := T) (fun q h => fgP_lt h) (by omega)
    have hv := vaN_999 (t := t) (T := T) (p := p) hl (dgN t T p) (Nat.le_refl _)
    have okn : okI (nI n) 100 := okI_nI hn (by decide)
    have hbody : fX6_numbered_L4 e t (nI p) kd vl k (nI (p + dgN t T p), nI (vaN t p (dgN t T p))) = fX6_numbered_j55 e t (nI p) (nI (p + dgN t T p)) (nI (vaN t p (dgN t T p))) kd vl := by
      simp only [fX6_numbered_L4]
      rcases Nat.lt_or_ge (p + dgN t T p) T with h | h
      · have hnf : fgB (t (p + dgN t T p)) = false := by
          unfold fgP at hend
          rw [decide_eq_true h, Bool.true_and] at hend
          exact hend
        have ok : okI (nI (p + dgN t T p)) 100 := okI_nI (by omega) (by decide)
        have ec : Int32.toNatClampNeg (nI (p + dgN t T p)) = p + dgN t T p := cl_nI (by omega)
        rw [if_neg (show ¬ e 11 ≤ nI (p + dgN t T p) by rw [h11, fa_le, nI_toInt (by omega), nI_toInt (by omega)]; omega)]
        simp only [if_pos ok, ec, e6_fig, Option.bind_some, b2_if, hnf, Bool.false_eq_true, if_false]
      · rw [if_pos (show e 11 ≤ nI (p + dgN t T p) by rw [h11, fa_le, nI_toInt (by omega), nI_toInt (by omega)]; omega)]
    show fX6_numbered_L4 e t (nI p) kd vl k (nI (p + dgN t T p), nI (vaN t p (dgN t T p))) = _
    rw [hbody]
    have e1 : nI p + 1 = nI (p + 1) := nI_1 p
    unfold fX6_numbered_j55 fX6_numbered_j84
    rw [h15, if_pos okn, if_pos okn, if_pos okn, if_pos okn, cl_nI (by omega), if_pos (okI_nI (show p < 100 by omega) (by decide)), cl_nI (by omega), e1, if_neg (show ¬ (1 : Int32) = 0 by decide), if_pos (rfl : (0 : Int32) = 0)]
    by_cases c : 99 < vaN t p (dgN t T p)
    · rw [if_pos (show (99 : Int32) < nI (vaN t p (dgN t T p)) by rw [fa_lt, nI_toInt (by omega), show (99 : Int32).toInt = 99 from rfl]; omega), decide_eq_true c]
      rfl
    · rw [if_neg (show ¬ (99 : Int32) < nI (vaN t p (dgN t T p)) by rw [fa_lt, nI_toInt (by omega), show (99 : Int32).toInt = 99 from rfl]; omega), decide_eq_false c, Bool.false_or]
      by_cases c8 : t p = 48
      · rw [if_pos c8, decide_eq_true c8, Bool.true_and]
        by_cases c1 : 1 < dgN t T p
        · rw [if_neg (show ¬ nI (p + dgN t T p) ≤ nI (p + 1) by rw [fa_le, nI_toInt (by omega), nI_toInt (by omega)]; omega), decide_eq_true c1]
          rfl
        · rw [if_pos (show nI (p + dgN t T p) ≤ nI (p + 1) by rw [fa_le, nI_toInt (by omega), nI_toInt (by omega)]; omega), decide_eq_false c1]
          rfl
      · rw [if_neg c8, decide_eq_false c8, Bool.false_and]
        rfl
/-- the table holds the first n pieces -/
def TB (t : Nat → Int32) (T n : Nat) (pl kd vl : Nat → Int32) : Prop := ∀ k, k < n → sk t T (PS t T k) < T ∧ pl k = nI (sk t T (PS t T k)) ∧ kd k = mkF t T (PS t T k) ∧ (fgB (t (sk t T (PS t T k))) = true → vl k = nI (vlF t T (PS t T k)))
theorem m_parts {mO pl kd vl : Nat → Int32} (hT : T ≤ 100) (hl : ∀ k, k < T → 0 ≤ (t k).toInt ∧ (t k).toInt ≤ 255) (h11 : mO 11 = nI T) :
    ∃ N e pl' kd' vl', fX6_parts mO t pl kd vl = some (e, pl', kd', vl') ∧ N ≤ 100 ∧ e 15 = nI N ∧ (∀ q, q ≠ 15 → e q = mO q) ∧ ¬ sk t T (PS t T N) < T ∧ TB t T N pl' kd' vl' := by
  unfold fX6_parts
  suffices h : ∃ e pl' kd' vl', LPX (fX6_parts_L7 t) FU (0, upd mO 15 0, pl, kd, vl) = some (e, pl', kd', vl') ∧ ∃ N, N ≤ 100 ∧ e 15 = nI N ∧ (∀ q, q ≠ 15 → e q = mO q) ∧ ¬ sk t T (PS t T N) < T ∧ TB t T N pl' kd' vl' by
    obtain ⟨e, pl', kd', vl', x, N, y⟩ := h
    exact ⟨N, e, pl', kd', vl', x, y⟩
  refine LPX_ruleP (P := fun o => ∃ (e pl' kd' vl' : Nat → Int32), o = some (e, pl', kd', vl') ∧ ∃ N, N ≤ 100 ∧ e 15 = nI N ∧ (∀ q, q ≠ 15 → e q = mO q) ∧ ¬ sk t T (PS t T N) < T ∧ TB t T N pl' kd' vl') (I := fun m st => ∃ p n, ∃ (e pl' kd' vl' : Nat → Int32), st = (nI p, e, pl', kd', vl') ∧ m ≤ p ∧ p ≤ T ∧ n ≤ p ∧ sk t T p = sk t T (PS t T n) ∧ e 15 = nI n ∧ (∀ q, q ≠ 15 → e q = mO q) ∧ TB t T n pl' kd' vl') T ?_ ?_ FU 0 _ (by show T < 4000 + 0; omega) (by omega) ⟨0, 0, _, _, _, _, rfl, by omega, by omega, by omega, rfl, rfl, fun q hq => upd_ne hq, fun k hk => by omega⟩
  · rintro m _ hm ⟨p, n, e, pl', kd', vl', rfl, mp, pT, np, hs, i15, io, hb⟩
    have i11 : e 11 = nI T := by rw [io 11 (by omega)]; exact h11
    rcases Nat.lt_or_ge p T with hlt | hge
    · left
      have ok : okI (nI p) 100 := okI_nI (by omega) (by decide)
      have okn : okI (nI n) 100 := okI_nI (by omega) (by decide)
      have ec : Int32.toNatClampNeg (nI p) = p := cl_nI (by omega)
      have ecn : Int32.toNatClampNeg (nI n) = n := cl_nI (by omega)
      by_cases c : t p = 32
      · refine ⟨(nI (p + 1), e, pl', kd', vl'), ⟨p + 1, n, e, pl', kd', vl', rfl, by omega, by omega, by omega, by rw [← sk_sp hT hlt c]; exact hs, i15, io, hb⟩, fun k => ?_⟩
        simp only [fX6_parts_L7]
        rw [if_neg (show ¬ e 11 ≤ nI p by rw [i11, fa_le, nI_toInt (by omega), nI_toInt (by omega)]; omega)]
        simp only [if_pos ok, ec, if_pos c, nI_1]
      · have hsp : sk t T p = p := sk_no (fun h => c h.2)
        rw [hsp] at hs
        have hst : sk t T (PS t T n) < T := by omega
        cases hf : fgB (t p) with
        | true =>
          have hE : PS t T (n + 1) = p + dgN t T p := by
            show tkE t T (PS t T n) = _
            unfold tkE
            rw [if_pos hst, ← hs, hf, if_pos rfl]
          have hd := dg_pos hlt hf
          have hdl := dg_le (t := t) (T := T) (p := p) (by omega)
          have hbad : baB t T (PS t T n) = (decide (99 < vaN t p (dgN t T p)) || (decide (t p = 48) && decide (1 < dgN t T p))) := by unfold baB; rw [← hs]
          refine ⟨(nI (p + dgN t T p), upd e 15 (nI (n + 1)), upd pl' n (nI p), upd kd' n (if decide (99 < vaN t p (dgN t T p)) || (decide (t p = 48) && decide (1 < dgN t T p)) then 2 else 1), upd vl' n (nI (vaN t p (dgN t T p)))), ⟨p + dgN t T p, n + 1, _, _, _, _, rfl, by omega, by omega, by omega, by rw [hE], rfl, fun q hq => by rw [upd_ne hq]; exact io q hq, fun k hk => ?_⟩, fun k => ?_⟩
          · rcases Nat.lt_or_ge k n with h | h
            · have hkn : k ≠ n := by omega
              rw [upd_ne hkn, upd_ne hkn, upd_ne hkn]
              exact hb k h
            · have hkn : k = n := by omega
              subst hkn
              rw [upd_self, upd_self, upd_self]
              refine ⟨hst, by rw [← hs], ?_, fun _ => by unfold vlF; rw [← hs]⟩
              unfold mkF
              rw [← hs, hf, if_pos rfl, hbad]
          · simp only [fX6_parts_L7]
            rw [if_neg (show ¬ e 11 ≤ nI p by rw [i11, fa_le, nI_toInt (by omega), nI_toInt (by omega)]; omega)]
            simp only [if_pos ok, ec, if_neg c, i15, if_pos okn, e6_fig, Option.bind_some, b2_if, hf, if_true, m_numbered hT hl hlt i11 i15 (show n < 100 by omega), ecn, nI_1]
        | false =>
          have hE : PS t T (n + 1) = p + 1 := by
            show tkE t T (PS t T n) = _
            unfold tkE
            rw [if_pos hst, ← hs, hf, if_neg (by decide)]
          refine ⟨(nI (p + 1), upd e 15 (nI (n + 1)), upd pl' n (nI p), upd kd' n (if leB (t p) then t p else 2), vl'), ⟨p + 1, n + 1, _, _, _, _, rfl, by omega, by omega, by omega, by rw [hE], rfl, fun q hq => by rw [upd_ne hq]; exact io q hq, fun k hk => ?_⟩, fun k => ?_⟩
          · rcases Nat.lt_or_ge k n with h | h
            · have hkn : k ≠ n := by omega
              rw [upd_ne hkn, upd_ne hkn]
              exact hb k h
            · have hkn : k = n := by omega
              subst hkn
              rw [upd_self, upd_self]
              refine ⟨hst, by rw [← hs], ?_, fun h => by rw [← hs, hf] at h; cases h⟩
              unfold mkF
              rw [← hs, hf]
              rfl
          · simp only [fX6_parts_L7]
            rw [if_neg (show ¬ e 11 ≤ nI p by rw [i11, fa_le, nI_toInt (by omega), nI_toInt (by omega)]; omega)]
            simp only [if_pos ok, ec, if_neg c, i15, if_pos okn, e6_fig, Option.bind_some, b2_if, hf, Bool.false_eq_true, if_false, e6_le, ecn, nI_1]
            cases leB (t p) <;> rfl
    · right
      have hpe : p = T := by omega
      have hsp : sk t T p = p := sk_no (fun h => by omega)
      refine ⟨_, ⟨e, pl', kd', vl', rfl, n, by omega, i15, io, by omega, hb⟩, fun k => ?_⟩
      simp only [fX6_parts_L7]
      rw [if_pos (show e 11 ≤ nI p by rw [i11, fa_le, nI_toInt (by omega), nI_toInt (by omega)]; omega)]
  · rintro _ ⟨p, n, e, pl', kd', vl', rfl, mp, pT, np, hs, i15, io, hb⟩
    have i11 : e 11 = nI T := by rw [io 11 (by omega)]; exact h11
    have hsp : sk t T p = p := sk_no (fun h => by omega)
    refine ⟨_, ⟨e, pl', kd', vl', rfl, n, by omega, i15, io, by omega, hb⟩, fun k => ?_⟩
    simp only [fX6_parts_L7]
    rw [if_pos (show e 11 ≤ nI p by rw [i11, fa_le, nI_toInt (by omega), nI_toInt (by omega)]; omega)]
end PARTS
