/-! ranks, sums up to a time: loops over rows -/
theorem nI_z {n : Nat} : nI n + 0 = nI n := by rw [show (0 : Int32) = nI 0 from rfl, nI_add, Nat.add_zero]
theorem ahd_le (t : Nat → Int32) (a : Nat) : ∀ n, ahd t a n ≤ n
  | 0 => Nat.le_refl 0
  | n + 1 => by
    have := ahd_le t a n
    show ahd t a n + _ ≤ n + 1
    split <;> omega
theorem nI_inj {a b : Nat} (ha : a < 2147483648) (hb : b < 2147483648) (h : nI a = nI b) : a = b := (nI_eq (by omega) (by omega)).mp h
theorem l6_rank_in {c0 f : Nat → Int32} {n a : Nat} (hn : n ≤ 25) (h20 : c0 20 = nI n) (ha : a < n) (kk fo : Int32) (k4 : Int32 × Int32 → Option Int32) :
    LPX (fX6_rankedAt_L18 c0 f kk fo (nI a) k4) FU (0, 0) = if nI (ahd f a n) = kk then k4 (nI a, nI (a + 1)) else k4 (fo, nI (a + 1)) := by
  refine LPX_det (F := fun b => (nI (ahd f a b), nI b)) n (fun b hb k => ?_) (fun k => ?_) (FU_lt (by omega))
  · have h1 : ¬ c0 20 ≤ nI b := by rw [h20, fa_le, nI_toInt (by omega), nI_toInt (by omega)]; omega
    have oa : okI (nI a) 25 := okI_nI (by omega) (by decide)
    have ob : okI (nI b) 25 := okI_nI (by omega) (by decide)
    simp only [fX6_rankedAt_L18, bnd]
    rw [if_neg h1, if_pos ob, if_pos oa, if_pos ob, if_pos oa, cl_nI (by omega), cl_nI (by omega), nI_1, nI_1, nI_z]
    show _ = k (nI (ahd f a b + (if (f b).toInt < (f a).toInt ∨ ((f b).toInt = (f a).toInt ∧ b < a) then 1 else 0)), nI (b + 1))
    by_cases c1 : (f b).toInt < (f a).toInt
    · rw [if_pos (show f b < f a by rw [fa_lt]; exact c1), if_pos (Or.inl c1)]
    · rw [if_neg (show ¬ f b < f a by rw [fa_lt]; exact c1)]
      by_cases c2 : (f b).toInt = (f a).toInt
      · rw [if_pos (show f b = f a by rw [fa_eq]; exact c2)]
        by_cases c3 : b < a
        · rw [if_neg (show ¬ nI a ≤ nI b by rw [fa_le, nI_toInt (by omega), nI_toInt (by omega)]; omega), if_pos (Or.inr ⟨c2, c3⟩)]
        · rw [if_pos (show nI a ≤ nI b by rw [fa_le, nI_toInt (by omega), nI_toInt (by omega)]; omega), if_neg (by omega)]
          rfl
      · rw [if_neg (show ¬ f b = f a by rw [fa_eq]; exact c2), if_neg (by omega)]
        rfl
  · simp only [fX6_rankedAt_L18]
    rw [if_pos (show c0 20 ≤ nI n by rw [h20, fa_le]; exact Int.le_refl _), nI_1]
theorem e6_rank {c0 f : Nat → Int32} {n k : Nat} (hn : n ≤ 25) (h20 : c0 20 = nI n) (hk : k < n) : fX6_rankedAt c0 f (nI k) = some (nI ((srt f n).getD k 0)) := by
  have hl := srt_len f n
  have hg : (srt f n).getD k 0 = (srt f n)[k]'(by omega) := getD_in (by omega)
  have hlt : (srt f n).getD k 0 < n := by rw [hg]; exact srt_mem.mp (List.getElem_mem _)
  have hu : ∀ a, a < n → (ahd f a n = k ↔ a = (srt f n).getD k 0) := by
    intro a ha
    constructor
    · intro h
      obtain ⟨h1, h2⟩ := ahd_one ha h
      rw [hg, ← h2]
    · intro h
      rw [h, hg]
      exact ahd_srt _
  generalize (srt f n).getD k 0 = z at *
  unfold fX6_rankedAt
  refine LPX_det (F := fun a => (if z < a then nI z else 0, nI a)) n (fun a ha k' => ?_) (fun k' => ?_) (FU_lt (by omega))
  · have h1 : ¬ c0 20 ≤ nI a := by rw [h20, fa_le, nI_toInt (by omega), nI_toInt (by omega)]; omega
    simp only [fX6_rankedAt_L4]
    rw [if_neg h1, l6_rank_in hn h20 ha]
    have hle := ahd_le f a n
    by_cases h2 : ahd f a n = k
    · have e := (hu a ha).mp h2
      rw [if_pos (by rw [h2]), if_pos (show z < a + 1 by omega), e]
    · have e : ¬ a = z := fun q => h2 ((hu a ha).mpr q)
      rw [if_neg (fun q => h2 (nI_inj (by omega) (by omega) q))]
      by_cases h3 : z < a
      · rw [if_pos h3, if_pos (by omega)]
      · rw [if_neg h3, if_neg (by omega)]
  · simp only [fX6_rankedAt_L4]
    rw [if_pos (show c0 20 ≤ nI n by rw [h20, fa_le]; exact Int.le_refl _), if_pos hlt]
/-- strengths of those that come at x or sooner, of the first n -/
def sby (t s : Nat → Int32) (x : Int32) : Nat → Int32
  | 0 => 0
  | n + 1 => sby t s x n + (if x < t n then 0 else s n)
theorem e6_soundBy {c0 t s : Nat → Int32} {n : Nat} (hn : n ≤ 25) (h20 : c0 20 = nI n) (x : Int32) : fX6_soundBy c0 t s x = some (sby t s x n) := by
  unfold fX6_soundBy
  refine LPX_det (F := fun a => (sby t s x a, nI a)) n (fun a ha k' => ?_) (fun k' => ?_) (FU_lt (by omega))
  · have h1 : ¬ c0 20 ≤ nI a := by rw [h20, fa_le, nI_toInt (by omega), nI_toInt (by omega)]; omega
    have oa : okI (nI a) 25 := okI_nI (by omega) (by decide)
    simp only [fX6_soundBy_L4, bnd]
    rw [if_neg h1, if_pos oa, if_pos oa, cl_nI (by omega), nI_1]
    show _ = k' (sby t s x a + (if x < t a then 0 else s a), nI (a + 1))
    by_cases h2 : x < t a
    · rw [if_pos h2, if_pos h2]
    · rw [if_neg h2, if_neg h2]
  · simp only [fX6_soundBy_L4]
    rw [if_pos (show c0 20 ≤ nI n by rw [h20, fa_le]; exact Int.le_refl _)]
theorem addz (x : Int32) : x + 0 = x := Int32.add_zero x
theorem sby_sum (t s : Nat → Int32) (x : Int32) : ∀ n, sby t s x n = sumI (((List.range n).filter (fun b => decide (¬ x < t b))).map s)
  | 0 => rfl
  | n + 1 => by
    rw [show List.range (n + 1) = List.range n ++ [n] from List.range_succ, List.filter_append, List.map_append]
    show sby t s x n + _ = _
    rw [sby_sum t s x n]
    by_cases h : x < t n
    · rw [if_pos h, show [n].filter (fun b => decide (¬ x < t b)) = [] by simp [h], List.map_nil, List.append_nil, addz]
    · rw [if_neg h, show [n].filter (fun b => decide (¬ x < t b)) = [n] by rw [List.filter_cons, decide_eq_true h]; rfl, List.map_cons, List.map_nil, sumI_app]
/-- the same in the order in which it is heard: while the times last -/
def swl (t s : Nat → Int32) (x : Int32) (l : List Nat) : Int32 := sumI ((l.takeWhile (fun b => decide (¬ x < t b))).map s)
theorem tw_filter {t : Nat → Int32} {x : Int32} : ∀ {l : List Nat}, l.Pairwise (ltR t) → l.takeWhile (fun b => decide (¬ x < t b)) = l.filter (fun b => decide (¬ x < t b))
  | [], _ => rfl
  | a :: l, h => by
    obtain ⟨h1, h2⟩ := List.pairwise_cons.mp h
    by_cases hx : x < t a
    · have e : (a :: l).filter (fun b => decide (¬ x < t b)) = [] := by
        rw [List.filter_eq_nil_iff]
        intro b hb
        have hab : (t a).toInt ≤ (t b).toInt := by
          rcases List.mem_cons.mp hb with e | hb
          · rw [e]; exact Int.le_refl _
          · rcases h1 b hb with h | h <;> omega
        rw [fa_lt] at hx
        have : x < t b := by rw [fa_lt]; omega
        simp [this]
      rw [e, List.takeWhile_cons]
      simp [hx]
    · rw [List.takeWhile_cons, List.filter_cons]
      simp only [hx, not_false_eq_true, decide_true, if_true]
      rw [tw_filter h2]
theorem sby_swl (t s : Nat → Int32) (x : Int32) (n : Nat) : sby t s x n = swl t s x (srt t n) := by
  rw [sby_sum]
  unfold swl
  rw [tw_filter (srt_pw t n)]
  exact sumI_perm ((((srt_perm t n).filter _).map s).symm)
