/-! a new room grows -/
section GROW
variable {nS nC : Nat} {cN sw sX sY cX cF cT s : Nat → Int32}
theorem rr_seat (h : RRel nS nC cN sw sX sY cX cF cT s) (hn : nS < 4) {v w : Int32} (hv : PV (s 0) (s 1) v w) : RRel (nS + 1) nC (upd cN 4 (nI (nS + 1))) sw (upd sX nS v) (upd sY nS w) cX cF cT (upd (upd (upd s (9 + nS) v) (13 + nS) w) 8 (nI (nS + 1))) := by
  obtain ⟨hS4, hC3, ⟨q0, q1, q2, q3, q4, q5, q6, q7⟩, hsw, hse, hcu, hR, hw, hP, hC⟩ := h
  have hne : ∀ q, q ≠ 9 + nS → q ≠ 13 + nS → q ≠ 8 → upd (upd (upd s (9 + nS) v) (13 + nS) w) 8 (nI (nS + 1)) q = s q := fun q h1 h2 h3 => by rw [upd_ne h3, upd_ne h2, upd_ne h1]
  have e9 : upd (upd (upd s (9 + nS) v) (13 + nS) w) 8 (nI (nS + 1)) (9 + nS) = v := by rw [upd_ne (by omega), upd_ne (by omega), upd_self]
  have e13 : upd (upd (upd s (9 + nS) v) (13 + nS) w) 8 (nI (nS + 1)) (13 + nS) = w := by rw [upd_ne (by omega), upd_self]
  have z0 := hne 0 (by omega) (by omega) (by omega)
  have z1 := hne 1 (by omega) (by omega) (by omega)
  refine ⟨by omega, hC3, ⟨?_, ?_, ?_, ?_, rfl, rfl, ?_, ?_⟩, fun w' hw' => ?_, fun k hk => ?_, fun c' hc => ⟨?_, ?_, ?_⟩, ?_, fun w' hw' => ?_, fun k hk => ?_, fun c' hc => ?_⟩
  · rw [z0]; exact q0
  · rw [z1]; exact q1
  · rw [hne 2 (by omega) (by omega) (by omega)]; exact q2
  · rw [hne 3 (by omega) (by omega) (by omega)]; exact q3
  · exact q6
  · rw [hne 17 (by omega) (by omega) (by omega)]; exact q7
  · rw [hne _ (by omega) (by omega) (by omega)]; exact hsw w' hw'
  · by_cases e : k = nS
    · subst e
      rw [upd_self, upd_self, e9, e13]
      exact ⟨rfl, rfl⟩
    · rw [upd_ne e, upd_ne e, hne _ (by omega) (by omega) (by omega), hne _ (by omega) (by omega) (by omega)]
      exact hse k (by omega)
  · rw [hne _ (by omega) (by omega) (by omega)]; exact (hcu c' hc).1
  · rw [hne _ (by omega) (by omega) (by omega)]; exact (hcu c' hc).2.1
  · rw [hne _ (by omega) (by omega) (by omega)]; exact (hcu c' hc).2.2
  · rw [z0, z1, hne 2 (by omega) (by omega) (by omega), hne 3 (by omega) (by omega) (by omega)]; exact hR
  · rw [hne _ (by omega) (by omega) (by omega)]; exact hw w' hw'
  · rw [z0, z1]
    by_cases e : k = nS
    · subst e
      rw [e9, e13]
      exact hv
    · rw [hne (9 + k) (by omega) (by omega) (by omega), hne (13 + k) (by omega) (by omega) (by omega)]
      exact hP k (by omega)
  · rw [z0, z1, hne (18 + c') (by omega) (by omega) (by omega), hne (21 + c') (by omega) (by omega) (by omega), hne (24 + c') (by omega) (by omega) (by omega)]; exact hC c' hc
theorem rr_newc (h : RRel nS nC cN sw sX sY cX cF cT s) (hn : nC < 3) {x f g : Int32} (hv : CV (s 0) (s 1) x f g) : RRel nS (nC + 1) (upd cN 5 (nI (nC + 1))) sw sX sY (upd cX nC x) (upd cF nC f) (upd cT nC g) (upd (upd (upd (upd s (18 + nC) x) (21 + nC) f) (24 + nC) g) 17 (nI (nC + 1))) := by
  obtain ⟨hS4, hC3, ⟨q0, q1, q2, q3, q4, q5, q6, q7⟩, hsw, hse, hcu, hR, hw, hP, hC⟩ := h
  have hne : ∀ q, q ≠ 18 + nC → q ≠ 21 + nC → q ≠ 24 + nC → q ≠ 17 → upd (upd (upd (upd s (18 + nC) x) (21 + nC) f) (24 + nC) g) 17 (nI (nC + 1)) q = s q := fun q h1 h2 h3 h4 => by rw [upd_ne h4, upd_ne h3, upd_ne h2, upd_ne h1]
  have e18 : upd (upd (upd (upd s (18 + nC) x) (21 + nC) f) (24 + nC) g) 17 (nI (nC + 1)) (18 + nC) = x := by rw [upd_ne (by omega), upd_ne (by omega), upd_ne (by omega), upd_self]
  have e21 : upd (upd (upd (upd s (18 + nC) x) (21 + nC) f) (24 + nC) g) 17 (nI (nC + 1)) (21 + nC) = f := by rw [upd_ne (by omega), upd_ne (by omega), upd_self]
  have e24 : upd (upd (upd (upd s (18 + nC) x) (21 + nC) f) (24 + nC) g) 17 (nI (nC + 1)) (24 + nC) = g := by rw [upd_ne (by omega), upd_self]
  have z0 := hne 0 (by omega) (by omega) (by omega) (by omega)
  have z1 := hne 1 (by omega) (by omega) (by omega) (by omega)
  refine ⟨hS4, by omega, ⟨?_, ?_, ?_, ?_, q4, ?_, rfl, rfl⟩, fun w' hw' => ?_, fun k hk => ⟨?_, ?_⟩, fun c' hc => ?_, ?_, fun w' hw' => ?_, fun k hk => ?_, fun c' hc => ?_⟩
  · rw [z0]; exact q0
  · rw [z1]; exact q1
  · rw [hne 2 (by omega) (by omega) (by omega) (by omega)]; exact q2
  · rw [hne 3 (by omega) (by omega) (by omega) (by omega)]; exact q3
  · rw [hne 8 (by omega) (by omega) (by omega) (by omega)]; exact q5
  · rw [hne _ (by omega) (by omega) (by omega) (by omega)]; exact hsw w' hw'
  · rw [hne _ (by omega) (by omega) (by omega) (by omega)]; exact (hse k hk).1
  · rw [hne _ (by omega) (by omega) (by omega) (by omega)]; exact (hse k hk).2
  · by_cases e : c' = nC
    · subst e
      rw [upd_self, upd_self, upd_self, e18, e21, e24]
      exact ⟨rfl, rfl, rfl⟩
    · rw [upd_ne e, upd_ne e, upd_ne e, hne (18 + c') (by omega) (by omega) (by omega) (by omega), hne (21 + c') (by omega) (by omega) (by omega) (by omega), hne (24 + c') (by omega) (by omega) (by omega) (by omega)]
      exact hcu c' (by omega)
  · rw [z0, z1, hne 2 (by omega) (by omega) (by omega) (by omega), hne 3 (by omega) (by omega) (by omega) (by omega)]; exact hR
  · rw [hne _ (by omega) (by omega) (by omega) (by omega)]; exact hw w' hw'
  · rw [z0, z1, hne (9 + k) (by omega) (by omega) (by omega) (by omega), hne (13 + k) (by omega) (by omega) (by omega) (by omega)]; exact hP k hk
  · rw [z0, z1]
    by_cases e : c' = nC
    · subst e
      rw [e18, e21, e24]
      exact hv
    · rw [hne (18 + c') (by omega) (by omega) (by omega) (by omega), hne (21 + c') (by omega) (by omega) (by omega) (by omega), hne (24 + c') (by omega) (by omega) (by omega) (by omega)]
      exact hC c' (by omega)
theorem rr_sides (h : RRel 0 0 cN sw sX sY cX cF cT s) (h2 : s 2 = 1) (h3 : s 3 = 1) {v w : Int32} (v1 : 2 ≤ v.toInt) (v2 : v.toInt ≤ 20) (w1 : 2 ≤ w.toInt) (w2 : w.toInt ≤ 20) : RRel 0 0 (upd (upd cN 0 v) 1 w) sw sX sY cX cF cT (upd (upd s 0 v) 1 w) := by
  obtain ⟨hS4, hC3, ⟨q0, q1, q2, q3, q4, q5, q6, q7⟩, hsw, hse, hcu, hR, hw, hP, hC⟩ := h
  have hne : ∀ q, q ≠ 0 → q ≠ 1 → upd (upd s 0 v) 1 w q = s q := fun q a b => by rw [upd_ne b, upd_ne a]
  refine ⟨hS4, hC3, ⟨rfl, rfl, q2, q3, q4, q5, q6, q7⟩, fun w' hw' => ?_, fun k hk => by omega, fun c' hc => by omega, ?_, fun w' hw' => ?_, fun k hk => by omega, fun c' hc => by omega⟩
  · rw [hne _ (by omega) (by omega)]; exact hsw w' hw'
  · show RV v w (s 2) (s 3)
    rw [h2, h3]
    exact ⟨v1, v2, w1, w2, by decide, by rw [show (1 : Int32).toInt = 1 from rfl]; omega, by decide, by rw [show (1 : Int32).toInt = 1 from rfl]; omega⟩
  · rw [hne _ (by omega) (by omega)]; exact hw w' hw'
end GROW
/-! pieces as numbers and letters, both sides -/
def numB (t : Nat → Int32) (T n : Nat) (lo hi : Int32) : Bool := decide (ckF t T (PS t T n) = -2 ∧ lo.toInt ≤ (vlF t T (PS t T n) : Int) ∧ (vlF t T (PS t T n) : Int) ≤ hi.toInt)
def endB (t : Nat → Int32) (T n : Nat) : Bool := decide (ckF t T (PS t T n) = 59)
section NUM
variable {t b : Nat → Int32} {T n : Nat}
theorem ck2_fg {p : Nat} (hl : ∀ k, k < T → 0 ≤ (t k).toInt ∧ (t k).toInt ≤ 255) (h : ckF t T p = -2) : sk t T p < T ∧ fgB (t (sk t T p)) = true ∧ baB t T p = false := by
  unfold ckF at h
  by_cases c : sk t T p < T
  · rw [if_pos c] at h
    cases hf : fgB (t (sk t T p)) with
    | true =>
      rw [hf, if_pos rfl] at h
      cases hb : baB t T p with
      | false => exact ⟨c, rfl, rfl⟩
      | true => rw [hb, if_pos rfl] at h; exact absurd h (by decide)
    | false =>
      rw [hf, if_neg (by decide)] at h
      have := (hl _ c).1
      rw [h] at this
      exact absurd this (by decide)
  · rw [if_neg c] at h
    exact absurd h (by decide)
theorem ba_99 {p : Nat} (h : baB t T p = false) : vlF t T p ≤ 99 := by
  unfold vlF
  rcases Nat.lt_or_ge 99 (vaN t (sk t T p) (dgN t T (sk t T p))) with c | c
  · unfold baB at h
    rw [decide_eq_true c] at h
    cases h
  · exact c
theorem num_v {lo hi : Int32} (hl : ∀ k, k < T → 0 ≤ (t k).toInt ∧ (t k).toInt ≤ 255) (h : numB t T n lo hi = true) : vlF t T (PS t T n) ≤ 99 ∧ lo.toInt ≤ (nI (vlF t T (PS t T n))).toInt ∧ (nI (vlF t T (PS t T n))).toInt ≤ hi.toInt := by
  have h := of_decide_eq_true h
  have hv := ba_99 (ck2_fg hl h.1).2.2
  rw [nI_toInt (by omega)]
  exact ⟨hv, h.2⟩
theorem c_num {e : Nat → Int32} (hT : T ≤ 100) (hag : ∀ k, k < T → b k = t k) (hl : ∀ k, k < T → 0 ≤ (t k).toInt ∧ (t k).toInt ≤ 255) (h1 : e 1 = nI T) (h2 : e 2 = nI (PS t T n)) (lo hi : Int32) :
    ∃ e', fX4_readNumber e b lo hi = some (b2 (numB t T n lo hi), e') ∧ e' 1 = nI T ∧ e' 2 = nI (PS t T (n + 1)) ∧ e' 4 = nI (sk t T (PS t T n)) ∧ (numB t T n lo hi = true → e' 5 = nI (vlF t T (PS t T n))) := by
  obtain ⟨e', x0, x1, x2, x4, x3, x5⟩ := c_next hT hag hl (PS_le n) h1 h2
  refine ⟨e', ?_, x1, x2, x4, fun h => x5 (of_decide_eq_true h).1⟩
  unfold fX4_readNumber
  rw [x0, Option.bind_some, x3]
  by_cases c : ckF t T (PS t T n) = -2
  · have hv := ba_99 (ck2_fg hl c).2.2
    rw [if_pos c, x5 c, e5_within, Option.bind_some, b2_if]
    have e : inB (nI (vlF t T (PS t T n))) lo hi = numB t T n lo hi := by
      unfold inB numB
      rw [nI_toInt (by omega)]
      congr 1
      exact propext ⟨fun h => ⟨c, h⟩, fun h => h.2⟩
    rw [e]
    cases numB t T n lo hi <;> rfl
  · rw [if_neg c, show numB t T n lo hi = false from decide_eq_false (fun h => c h.1)]
    rfl
theorem c_end {e : Nat → Int32} (hT : T ≤ 100) (hag : ∀ k, k < T → b k = t k) (hl : ∀ k, k < T → 0 ≤ (t k).toInt ∧ (t k).toInt ≤ 255) (h1 : e 1 = nI T) (h2 : e 2 = nI (PS t T n)) :
    ∃ e', fX4_readEnd e b = some (b2 (endB t T n), e') ∧ e' 1 = nI T ∧ e' 2 = nI (PS t T (n + 1)) ∧ e' 4 = nI (sk t T (PS t T n)) := by
  obtain ⟨e', x0, x1, x2, x4, x3, x5⟩ := c_next hT hag hl (PS_le n) h1 h2
  refine ⟨e', ?_, x1, x2, x4⟩
  unfold fX4_readEnd endB
  rw [x0, Option.bind_some, x3]
  by_cases c : ckF t T (PS t T n) = 59
  · rw [if_pos c, decide_eq_true c]; rfl
  · rw [if_neg c, decide_eq_false c]; rfl
theorem le_ne {c : Int32} (h : leB c = true) : c ≠ 1 ∧ c ≠ 2 ∧ c ≠ -1 ∧ c ≠ -2 ∧ c ≠ -3 := by
  have h := of_decide_eq_true h
  rcases h with h | h | h | h | h | h <;> subst h <;> decide
theorem mk_ck {p : Nat} {c : Int32} (hs : sk t T p < T) (hc : leB c = true) : mkF t T p = c ↔ ckF t T p = c := by
  obtain ⟨n1, n2, n3, n4, n5⟩ := le_ne hc
  unfold mkF ckF
  rw [if_pos hs]
  cases hf : fgB (t (sk t T p)) with
  | true =>
    simp only [if_true]
    cases hb : baB t T p with
    | true => exact ⟨fun h => absurd h.symm n2, fun h => absurd h.symm n5⟩
    | false => exact ⟨fun h => absurd h.symm n1, fun h => absurd h.symm n4⟩
  | false =>
    simp only [Bool.false_eq_true, if_false]
    cases hle : leB (t (sk t T p)) with
    | true => exact Iff.rfl
    | false =>
      refine ⟨fun h => absurd h.symm n2, fun h => ?_⟩
      rw [h, hc] at hle
      cases hle
theorem mk_1 {p : Nat} (hl : ∀ k, k < T → 0 ≤ (t k).toInt ∧ (t k).toInt ≤ 255) (hs : sk t T p < T) : mkF t T p = 1 ↔ ckF t T p = -2 := by
  unfold mkF ckF
  rw [if_pos hs]
  cases hf : fgB (t (sk t T p)) with
  | true =>
    simp only [if_true]
    cases hb : baB t T p with
    | true => exact ⟨fun h => absurd h (by decide), fun h => absurd h (by decide)⟩
    | false => exact ⟨fun _ => rfl, fun _ => rfl⟩
  | false =>
    simp only [Bool.false_eq_true, if_false]
    have h0 := (hl _ hs).1
    refine ⟨fun h => ?_, fun h => ?_⟩
    · cases hle : leB (t (sk t T p)) with
      | true => rw [hle, if_pos rfl] at h; exact absurd h (le_ne hle).1
      | false => rw [hle, if_neg (by decide)] at h; exact absurd h (by decide)
    · rw [h] at h0
      exact absurd h0 (by decide)
variable {N : Nat} {mO pl kd vl : Nat → Int32}
theorem m_kind (hN : N ≤ 100) (h15 : mO 15 = nI N) (hsN : ¬ sk t T (PS t T N) < T) (hb : TB t T N pl kd vl) (hn : n ≤ N) {c : Int32} (hc : leB c = true) : fX6_isKind mO kd (nI n) c = some (b2 (decide (ckF t T (PS t T n) = c))) := by
  unfold fX6_isKind
  rw [h15]
  rcases Nat.lt_or_ge n N with h | h
  · rw [if_neg (show ¬ nI N ≤ nI n by rw [fa_le, nI_toInt (by omega), nI_toInt (by omega)]; omega), if_pos (okI_nI (show n < 100 by omega) (by decide)), cl_nI (by omega), (hb n h).2.2.1]
    have hi := mk_ck (t := t) (T := T) (p := PS t T n) (hb n h).1 hc
    by_cases q : ckF t T (PS t T n) = c
    · rw [if_pos (hi.mpr q), decide_eq_true q]; rfl
    · rw [if_neg (fun h => q (hi.mp h)), decide_eq_false q]; rfl
  · have e : n = N := by omega
    subst e
    have ek : ckF t T (PS t T n) = -1 := by unfold ckF; rw [if_neg hsN]
    rw [if_pos (show nI n ≤ nI n by rw [fa_le]; exact Int.le_refl _), ek, decide_eq_false (fun h => (le_ne hc).2.2.1 h.symm)]
    rfl
theorem num_lt {lo hi : Int32} (hl : ∀ k, k < T → 0 ≤ (t k).toInt ∧ (t k).toInt ≤ 255) (hsN : ¬ sk t T (PS t T N) < T) (hn : n ≤ N) (h : numB t T n lo hi = true) : n < N := by
  rcases Nat.lt_or_ge n N with q | q
  · exact q
  · have e : n = N := by omega
    subst e
    exact absurd (ck2_fg hl (of_decide_eq_true h).1).1 hsN
theorem end_lt (hsN : ¬ sk t T (PS t T N) < T) (hn : n ≤ N) (h : endB t T n = true) : n < N := by
  rcases Nat.lt_or_ge n N with q | q
  · exact q
  · have e : n = N := by omega
    subst e
    have h := of_decide_eq_true h
    unfold ckF at h
    rw [if_neg hsN] at h
    exact absurd h (by decide)
theorem m_val {lo hi : Int32} (hl : ∀ k, k < T → 0 ≤ (t k).toInt ∧ (t k).toInt ≤ 255) (hsN : ¬ sk t T (PS t T N) < T) (hb : TB t T N pl kd vl) (hn : n ≤ N) (h : numB t T n lo hi = true) : vl n = nI (vlF t T (PS t T n)) :=
  (hb n (num_lt hl hsN hn h)).2.2.2 (ck2_fg hl (of_decide_eq_true h).1).2.1
theorem m_num (hN : N ≤ 100) (hl : ∀ k, k < T → 0 ≤ (t k).toInt ∧ (t k).toInt ≤ 255) (h15 : mO 15 = nI N) (hsN : ¬ sk t T (PS t T N) < T) (hb : TB t T N pl kd vl) (hn : n ≤ N) (lo hi : Int32) : fX6_isNumber mO kd vl (nI n) lo hi = some (b2 (numB t T n lo hi)) := by
  unfold fX6_isNumber fX6_isKind
  rw [h15]
  rcases Nat.lt_or_ge n N with h | h
  · have ok : okI (nI n) 100 := okI_nI (by omega) (by decide)
    have ec : Int32.toNatClampNeg (nI n) = n := cl_nI (by omega)
    rw [if_neg (show ¬ nI N ≤ nI n by rw [fa_le, nI_toInt (by omega), nI_toInt (by omega)]; omega)]
    simp only [if_pos ok, ec]
    rw [(hb n h).2.2.1]
    have hi1 := mk_1 (t := t) (T := T) (p := PS t T n) hl (hb n h).1
    by_cases q : ckF t T (PS t T n) = -2
    · have hv := ba_99 (ck2_fg hl q).2.2
      rw [if_pos (hi1.mpr q), Option.bind_some, if_neg (show ¬ (1 : Int32) = 0 by decide), (hb n h).2.2.2 (ck2_fg hl q).2.1, e6_in, Option.bind_some, b2_if]
      have e : inB (nI (vlF t T (PS t T n))) lo hi = numB t T n lo hi := by
        unfold inB numB
        rw [nI_toInt (by omega)]
        congr 1
        exact propext ⟨fun h => ⟨q, h⟩, fun h => h.2⟩
      rw [e]
      cases numB t T n lo hi <;> rfl
    · rw [if_neg (fun h => q (hi1.mp h)), Option.bind_some, show numB t T n lo hi = false from decide_eq_false (fun h => q h.1)]
      rfl
  · have e : n = N := by omega
    subst e
    have ek : ¬ ckF t T (PS t T n) = -2 := by unfold ckF; rw [if_neg hsN]; decide
    rw [if_pos (show nI n ≤ nI n by rw [fa_le]; exact Int.le_refl _), Option.bind_some, show numB t T n lo hi = false from decide_eq_false (fun h => ek h.1)]
    rfl
end NUM
