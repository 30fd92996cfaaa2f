/-! how long it takes to die away -/
theorem ofI_self (x : Int32) : Int32.ofInt x.toInt = x := Int32.ofInt_toInt x
theorem e0_fade {c0 T S t s : Nat → Int32} {n : Nat} {l : List Nat} {p : Int32} {k0 : Nat} {Z : Int} (hn : n ≤ 25) (h6 : c0 6 = nI n) (hl : l.length = n) (hT : ∀ k, k < n → T k = t (l.getD k 0)) (hS : ∀ k, k < n → S k = s (l.getD k 0)) (hs : ∀ a ∈ l, 0 ≤ (s a).toInt ∧ (s a).toInt ≤ 1000000) (hZ : (c0 7).toInt = Z) (hZ2 : psI s l = Z) (hp1 : 1 ≤ p.toInt) (hp2 : p.toInt ≤ 9) (hk0 : k0 < n) (hD : 10 * (Z - psI s (l.take (k0 + 1))) ≤ p.toInt * Z) (hD2 : ∀ k, k < k0 → ¬ 10 * (Z - psI s (l.take (k + 1))) ≤ p.toInt * Z) :
    fX0_fadeTime c0 S T p = some (t (l.getD k0 0)) := by
  have hs0 : ∀ a ∈ l, 0 ≤ (s a).toInt := fun a ha => (hs a ha).1
  have hZb := psI_sum hs (by omega)
  have hZ0 : 0 ≤ Z := by rw [← hZ2]; exact psI_nn hs0
  have hZ1 : Z ≤ 25000000 := by have := hZb.2; rw [hZ2] at this; omega
  have htk : ∀ k, 0 ≤ psI s (l.take k) ∧ psI s (l.take k) ≤ Z := by
    intro k
    refine ⟨psI_nn (fun a ha => hs0 a (List.mem_of_mem_take ha)), ?_⟩
    rcases Nat.lt_or_ge k l.length with h | h
    · have := psI_take hs0 (l := l) (i := k) (j := l.length) (by omega)
      rw [List.take_length, hZ2] at this
      exact this
    · rw [List.take_of_length_le h, hZ2]; exact Int.le_refl _
  have hpz : (p * c0 7).toInt = p.toInt * Z := by
    have h1 : 0 ≤ p.toInt * Z := Int.mul_nonneg (by omega) hZ0
    have h2 : p.toInt * Z ≤ 9 * 25000000 := Int.mul_le_mul hp2 hZ1 hZ0 (by omega)
    rw [← hZ]
    exact fb_mulI (by rw [hZ]; omega) (by rw [hZ]; omega)
  have hstep : ∀ k, k < n → ∀ k', fX0_fadeTime_L7 c0 S T p k' (Int32.ofInt (Z - psI s (l.take k)), nI k) = if p.toInt * Z < 10 * (Z - psI s (l.take (k + 1))) then k' (Int32.ofInt (Z - psI s (l.take (k + 1))), nI (k + 1)) else some (t (l.getD k 0)) := by
    intro k hk k'
    have h1 : ¬ c0 6 ≤ nI k := by rw [h6, fa_le, nI_toInt (by omega), nI_toInt (by omega)]; omega
    have ok : okI (nI k) 25 := okI_nI (by omega) (by decide)
    have e1 : Int32.ofInt (Z - psI s (l.take k)) - s (l.getD k 0) = Int32.ofInt (Z - psI s (l.take (k + 1))) := by
      rw [tk_s (by omega), psI_app]
      show _ = Int32.ofInt (Z - (psI s (l.take k) + ((s (l.getD k 0)).toInt + 0)))
      rw [show Z - (psI s (l.take k) + ((s (l.getD k 0)).toInt + 0)) = Z - psI s (l.take k) - (s (l.getD k 0)).toInt by omega, Int32.ofInt_sub (Z - psI s (l.take k)), ofI_self]
    have ht := htk (k + 1)
    have e2 : (10 * Int32.ofInt (Z - psI s (l.take (k + 1)))).toInt = 10 * (Z - psI s (l.take (k + 1))) := by
      have e3 : (Int32.ofInt (Z - psI s (l.take (k + 1)))).toInt = Z - psI s (l.take (k + 1)) := fb_ofI (by omega) (by omega)
      rw [fb_mulI (by rw [e3, show (10 : Int32).toInt = 10 from rfl]; omega) (by rw [e3, show (10 : Int32).toInt = 10 from rfl]; omega), e3]
      rfl
    simp only [fX0_fadeTime_L7, bnd]
    rw [if_neg h1, if_pos ok, if_pos ok, cl_nI (by omega), hS k hk, hT k hk, e1, nI_1]
    simp only [fa_lt, hpz, e2]
  unfold fX0_fadeTime
  simp only [bnd]
  have e0 : ((c0 7, 0) : Int32 × Int32) = (fun k => (Int32.ofInt (Z - psI s (l.take k)), nI k)) 0 := by
    show _ = (Int32.ofInt (Z - 0), nI 0)
    rw [show Z - 0 = Z by omega, ← hZ, ofI_self]
    rfl
  rw [e0]
  refine LPX_det (F := fun k => (Int32.ofInt (Z - psI s (l.take k)), nI k)) k0 (fun k hk k' => ?_) (fun k' => ?_) (FU_lt (by omega))
  · rw [hstep k (by omega), if_pos (by have := hD2 k hk; omega)]
  · rw [hstep k0 hk0, if_neg (by omega)]
/-- the reference's least one so far -/
def mlt (t : Nat → Int32) (may : Nat → Bool) : Nat → Int32
  | 0 => -9
  | a + 1 => if may a then (if mlt t may a = -9 then t a else if mlt t may a ≤ t a then mlt t may a else t a) else mlt t may a
theorem mlt_min {t : Nat → Int32} {may : Nat → Bool} {n : Nat} (h0 : ∀ a, a < n → 0 ≤ (t a).toInt) : ∀ m, m ≤ n → ((∀ a, a < m → may a = false) ∧ mlt t may m = -9) ∨ (∃ a, a < m ∧ may a = true ∧ mlt t may m = t a ∧ ∀ b, b < m → may b = true → (t a).toInt ≤ (t b).toInt)
  | 0, _ => Or.inl ⟨fun a h => absurd h (Nat.not_lt_zero _), rfl⟩
  | m + 1, hm => by
    have ih := mlt_min (may := may) h0 m (by omega)
    cases hmay : may m with
    | false =>
      have e : mlt t may (m + 1) = mlt t may m := by show (if may m then _ else _) = _; rw [hmay]; rfl
      rw [e]
      rcases ih with ⟨h1, h2⟩ | ⟨a, h1, h2, h3, h4⟩
      · refine Or.inl ⟨fun a ha => ?_, h2⟩
        rcases Nat.lt_or_ge a m with h | h
        · exact h1 a h
        · rw [show a = m by omega]; exact hmay
      · refine Or.inr ⟨a, by omega, h2, h3, fun b hb hb2 => ?_⟩
        rcases Nat.lt_or_ge b m with h | h
        · exact h4 b h hb2
        · rw [show b = m by omega, hmay] at hb2; cases hb2
    | true =>
      have e : mlt t may (m + 1) = if mlt t may m = -9 then t m else if mlt t may m ≤ t m then mlt t may m else t m := by show (if may m then _ else _) = _; rw [hmay]; rfl
      rw [e]
      rcases ih with ⟨h1, h2⟩ | ⟨a, h1, h2, h3, h4⟩
      · rw [if_pos h2]
        refine Or.inr ⟨m, by omega, hmay, rfl, fun b hb hb2 => ?_⟩
        rcases Nat.lt_or_ge b m with h | h
        · rw [h1 b h] at hb2; cases hb2
        · rw [show b = m by omega]; exact Int.le_refl _
      · have hne : ¬ mlt t may m = -9 := by
          rw [h3, fa_eq, show (-9 : Int32).toInt = -9 from rfl]
          have := h0 a (by omega)
          omega
        rw [if_neg hne, h3]
        by_cases hc : t a ≤ t m
        · rw [if_pos hc]
          refine Or.inr ⟨a, by omega, h2, rfl, fun b hb hb2 => ?_⟩
          rcases Nat.lt_or_ge b m with h | h
          · exact h4 b h hb2
          · rw [show b = m by omega]; rw [fa_le] at hc; exact hc
        · rw [if_neg hc]
          rw [fa_le] at hc
          refine Or.inr ⟨m, by omega, hmay, rfl, fun b hb hb2 => ?_⟩
          rcases Nat.lt_or_ge b m with h | h
          · have := h4 b h hb2; omega
          · rw [show b = m by omega]; exact Int.le_refl _
theorem mlt_is {t : Nat → Int32} {may : Nat → Bool} {n z : Nat} (h0 : ∀ a, a < n → 0 ≤ (t a).toInt) (hz : z < n) (hm : may z = true) (hmin : ∀ b, b < n → may b = true → (t z).toInt ≤ (t b).toInt) : mlt t may n = t z := by
  rcases mlt_min (may := may) h0 n (Nat.le_refl n) with ⟨h1, -⟩ | ⟨a, h1, h2, h3, h4⟩
  · rw [h1 z hz] at hm; cases hm
  · rw [h3, fa_eq]
    have := h4 z hz hm
    have := hmin a h1 h2
    omega
def mayB (t s : Nat → Int32) (n : Nat) (p Z : Int) (a : Nat) : Bool := decide (10 * (Z - (sby t s (t a) n).toInt) ≤ p * Z)
theorem e6_fade_loop {s0 e0 sw t s wh : Nat → Int32} {n : Nat} {p all : Int32} {Z : Int} (hn : n ≤ 25) (h20 : e0 20 = nI n) (hall : all.toInt = Z) (hZ0 : 0 ≤ Z) (hZ1 : Z ≤ 25000000) (hsb : ∀ a, a < n → 0 ≤ (sby t s (t a) n).toInt ∧ (sby t s (t a) n).toInt ≤ Z) (hp1 : 1 ≤ p.toInt) (hp2 : p.toInt ≤ 9) :
    LPX (fX6_fade_L38 s0 p (Int32.toInt64 all) e0 sw t s wh) FU (-9, 0) = some (mlt t (mayB t s n p.toInt Z) n, e0, sw, t, s, wh) := by
  refine LPX_det (F := fun a => (mlt t (mayB t s n p.toInt Z) a, nI a)) n (fun a ha k => ?_) (fun k => ?_) (FU_lt (by omega))
  · have h1 : ¬ e0 20 ≤ nI a := by rw [h20, fa_le, nI_toInt (by omega), nI_toInt (by omega)]; omega
    have ok : okI (nI a) 25 := okI_nI (by omega) (by decide)
    have hb := hsb a ha
    have e1 : (Int32.toInt64 all - Int32.toInt64 (sby t s (t a) n)).toInt = Z - (sby t s (t a) n).toInt := by
      rw [fb_subL (by rw [Int32.toInt_toInt64, Int32.toInt_toInt64, hall]; omega) (by rw [Int32.toInt_toInt64, Int32.toInt_toInt64, hall]; omega), Int32.toInt_toInt64, Int32.toInt_toInt64, hall]
    have e2 : ((10 : Int64) * (Int32.toInt64 all - Int32.toInt64 (sby t s (t a) n))).toInt = 10 * (Z - (sby t s (t a) n).toInt) := by
      rw [fb_mulL (by rw [e1, show (10 : Int64).toInt = 10 from rfl]; omega) (by rw [e1, show (10 : Int64).toInt = 10 from rfl]; omega), e1]
      rfl
    have h3 : 0 ≤ p.toInt * Z := Int.mul_nonneg (by omega) hZ0
    have h4 : p.toInt * Z ≤ 9 * 25000000 := Int.mul_le_mul hp2 hZ1 hZ0 (by omega)
    have e3 : (Int32.toInt64 p * Int32.toInt64 all).toInt = p.toInt * Z := by
      rw [fb_mulL (by rw [Int32.toInt_toInt64, Int32.toInt_toInt64, hall]; omega) (by rw [Int32.toInt_toInt64, Int32.toInt_toInt64, hall]; omega), Int32.toInt_toInt64, Int32.toInt_toInt64, hall]
    simp only [fX6_fade_L38, bnd]
    rw [if_neg h1, if_pos ok, cl_nI (by omega), e6_soundBy hn h20, Option.bind_some]
    simp only [lg_cmp_gt, fa_lt64, e2, e3]
    have hj : ∀ (m : Int32), fX6_fade_j82 s0 p (Int32.toInt64 all) e0 sw t s wh m (nI a) 1 k = k (if m = -9 then t a else if m ≤ t a then m else t a, nI (a + 1)) := by
      intro m
      simp only [fX6_fade_j82, bnd]
      rw [if_neg (by decide), if_pos ok, if_pos ok, cl_nI (by omega), nI_1]
      by_cases c1 : m = -9
      · rw [if_pos c1, if_pos c1]
      · rw [if_neg c1, if_neg c1]
        by_cases c2 : m ≤ t a
        · rw [if_pos c2, if_pos c2]
        · rw [if_neg c2, if_neg c2]
    have hj0 : ∀ (m : Int32), fX6_fade_j82 s0 p (Int32.toInt64 all) e0 sw t s wh m (nI a) 0 k = k (m, nI (a + 1)) := by
      intro m
      simp only [fX6_fade_j82, if_true]
      rw [nI_1]
    rw [hj, hj0]
    show _ = k (if mayB t s n p.toInt Z a then _ else _, nI (a + 1))
    unfold mayB
    by_cases hc : 10 * (Z - (sby t s (t a) n).toInt) ≤ p.toInt * Z
    · rw [if_neg (by omega), decide_eq_true hc]
      rfl
    · rw [if_pos (by omega), decide_eq_false hc]
      rfl
  · simp only [fX6_fade_L38]
    rw [if_pos (show e0 20 ≤ nI n by rw [h20, fa_le]; exact Int.le_refl _)]
/-- the two are one -/
theorem fade_eq {t s : Nat → Int32} {n : Nat} {p Z : Int} (h0 : ∀ a, a < n → 0 ≤ (t a).toInt) (hs : ∀ a, a < n → 0 ≤ (s a).toInt ∧ (s a).toInt ≤ 1000000) (hn : n ≤ 25) (hn0 : 0 < n) (hZ : psI s (srt t n) = Z) (hp : 0 ≤ p) : ∃ k0, k0 < n ∧ 10 * (Z - psI s ((srt t n).take (k0 + 1))) ≤ p * Z ∧ (∀ k, k < k0 → ¬ 10 * (Z - psI s ((srt t n).take (k + 1))) ≤ p * Z) ∧ mlt t (mayB t s n p Z) n = t ((srt t n).getD k0 0) := by
  have hl := srt_len t n
  have hs1 : ∀ a ∈ srt t n, 0 ≤ (s a).toInt ∧ (s a).toInt ≤ 1000000 := fun a ha => hs a (srt_mem.mp ha)
  have hs0 : ∀ a ∈ srt t n, 0 ≤ (s a).toInt := fun a ha => (hs1 a ha).1
  have hZ0 : 0 ≤ Z := by rw [← hZ]; exact psI_nn hs0
  have hpw := List.pairwise_iff_getElem.mp (srt_pw t n)
  have hle : ∀ i j, i ≤ j → j < n → (t ((srt t n).getD i 0)).toInt ≤ (t ((srt t n).getD j 0)).toInt := by
    intro i j hij hj
    rw [getD_in (by omega), getD_in (by omega)]
    rcases Nat.lt_or_ge i j with h | h
    · rcases hpw i j (by omega) (by omega) h with h | h <;> omega
    · have e : i = j := by omega
      subst e; exact Int.le_refl _
  have hlast : 10 * (Z - psI s ((srt t n).take (n - 1 + 1))) ≤ p * Z := by
    rw [show n - 1 + 1 = n by omega, List.take_of_length_le (by omega), hZ]
    have := Int.mul_nonneg hp hZ0
    omega
  obtain ⟨k0, hk, hmin⟩ := pk_least (fun k => 10 * (Z - psI s ((srt t n).take (k + 1))) ≤ p * Z) ⟨n - 1, hlast⟩
  have hk0 : k0 < n := by
    rcases Nat.lt_or_ge k0 n with h | h
    · exact h
    · exact absurd hlast (hmin (n - 1) (by omega))
  -- the sum up to a time is the sum of a beginning
  have hsw : ∀ x : Int32, ∃ m, m ≤ n ∧ (sby t s x n).toInt = psI s ((srt t n).take m) ∧ (∀ i, i < m → ¬ x < t ((srt t n).getD i 0)) ∧ (∀ i, i < n → ¬ x < t ((srt t n).getD i 0) → i < m) := by
    intro x
    have hpre := List.prefix_iff_eq_take.mp (List.takeWhile_prefix (l := srt t n) (fun b => decide (¬ x < t b)))
    have hfil := tw_filter (x := x) (srt_pw t n)
    generalize htw : (srt t n).takeWhile (fun b => decide (¬ x < t b)) = w at *
    have hwl : w.length ≤ n := by
      have h := congrArg List.length hpre
      rw [List.length_take, hl] at h
      omega
    refine ⟨w.length, hwl, ?_, ?_, ?_⟩
    · rw [sby_swl]
      unfold swl
      rw [htw, ← hpre]
      exact (psI_sum (s := s) (l := w) (fun a ha => hs1 a (by rw [hpre] at ha; exact List.mem_of_mem_take ha)) (by omega)).1
    · intro i hi
      have hm : (srt t n).getD i 0 ∈ w := by
        rw [hpre, getD_in (by omega)]
        exact List.mem_take_iff_getElem.mpr ⟨i, by omega, rfl⟩
      rw [hfil] at hm
      exact of_decide_eq_true (List.mem_filter.mp hm).2
    · intro i hi hx
      have hm : (srt t n).getD i 0 ∈ w := by
        rw [hfil]
        refine List.mem_filter.mpr ⟨?_, decide_eq_true hx⟩
        rw [getD_in (by omega)]
        exact List.getElem_mem _
      rw [hpre] at hm
      obtain ⟨j, hj, e⟩ := List.mem_take_iff_getElem.mp hm
      rw [getD_in (by omega)] at e
      rcases Nat.lt_or_ge i w.length with h | h
      · exact h
      · have h2 := hpw j i (by omega) (by omega) (by omega)
        rw [e] at h2
        exact absurd h2 (ltR_irr t _)
  refine ⟨k0, hk0, hk, hmin, ?_⟩
  have hzlt : (srt t n).getD k0 0 < n := by rw [getD_in (by omega)]; exact srt_mem.mp (List.getElem_mem _)
  refine mlt_is h0 hzlt ?_ ?_
  · refine decide_eq_true ?_
    obtain ⟨m, hm1, hm2, hm3, hm4⟩ := hsw (t ((srt t n).getD k0 0))
    rw [hm2]
    have h1 := hm4 k0 hk0 (fun h => by rw [fa_lt] at h; omega)
    have h2 := psI_take hs0 (l := srt t n) (i := k0 + 1) (j := m) (by omega)
    omega
  · intro b hb hmay
    have hmay := of_decide_eq_true hmay
    obtain ⟨m, hm1, hm2, hm3, hm4⟩ := hsw (t b)
    rw [hm2] at hmay
    obtain ⟨kb, hkb, eb⟩ := srt_at (t := t) hb
    have hb2 := hm4 kb (by omega) (by rw [getD_in (by omega), eb, fa_lt]; omega)
    have h1 : k0 ≤ m - 1 := by
      rcases Nat.lt_or_ge (m - 1) k0 with h | h
      · have := hmin (m - 1) h
        rw [show m - 1 + 1 = m by omega] at this
        exact absurd hmay this
      · exact h
    have h2 := hle k0 (m - 1) h1 (by omega)
    have h3 := hm3 (m - 1) (by omega)
    rw [fa_lt] at h3
    omega
