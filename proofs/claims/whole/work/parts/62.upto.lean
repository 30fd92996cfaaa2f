/-! the class: sums while the times last; when it has died away -/
theorem tk_s {l : List Nat} {k : Nat} (h : k < l.length) : l.take (k + 1) = l.take k ++ [l.getD k 0] := by
  rw [getD_in h, List.take_append_getElem h]
theorem tw_take {t : Nat → Int32} {x : Int32} {l : List Nat} {k : Nat} (h1 : ∀ b ∈ l.take k, ¬ x < t b) (h2 : k < l.length → x < t (l.getD k 0)) (hk : k ≤ l.length) : l.takeWhile (fun b => decide (¬ x < t b)) = l.take k := by
  have e : l.takeWhile (fun b => decide (¬ x < t b)) = (l.take k ++ l.drop k).takeWhile (fun b => decide (¬ x < t b)) := by rw [List.take_append_drop]
  rw [e, List.takeWhile_append_of_pos (fun a ha => decide_eq_true (h1 a ha))]
  rcases Nat.lt_or_ge k l.length with h | h
  · have h3 := h2 h
    rw [getD_in h] at h3
    rw [List.drop_eq_getElem_cons h, List.takeWhile_cons]
    simp [h3]
  · rw [List.drop_eq_nil_of_le h]
    simp
theorem e0_upTo {c0 T S t s : Nat → Int32} {n : Nat} {l : List Nat} (hn : n ≤ 25) (h6 : c0 6 = nI n) (hl : l.length = n) (hT : ∀ k, k < n → T k = t (l.getD k 0)) (hS : ∀ k, k < n → S k = s (l.getD k 0)) (x : Int32) :
    fX0_strengthUpTo c0 T S x = some (swl t s x l) := by
  unfold fX0_strengthUpTo
  refine LPX_rule (I := fun k st => st = (sumI ((l.take k).map s), nI k) ∧ ∀ b ∈ l.take k, ¬ x < t b) n ?_ ?_ FU 0 (0, 0) (by show n < 4000 + 0; omega) (by omega) ⟨rfl, fun b hb => by simp at hb⟩
  · intro k st hk hI
    obtain ⟨rfl, hI⟩ := hI
    have h1 : ¬ c0 6 ≤ nI k := by rw [h6, fa_le, nI_toInt (by omega), nI_toInt (by omega)]; omega
    have ok : okI (nI k) 25 := okI_nI (by omega) (by decide)
    have hstep : ∀ k', fX0_strengthUpTo_L4 c0 T S x k' (sumI ((l.take k).map s), nI k) = if x < t (l.getD k 0) then some (sumI ((l.take k).map s)) else k' (sumI ((l.take (k + 1)).map s), nI (k + 1)) := by
      intro k'
      simp only [fX0_strengthUpTo_L4, bnd]
      rw [if_neg h1, if_pos ok, if_pos ok, cl_nI (by omega), hT k hk, hS k hk, nI_1, tk_s (by omega), List.map_append, List.map_cons, List.map_nil, sumI_app]
    by_cases hx : x < t (l.getD k 0)
    · refine Or.inr (fun k' => ?_)
      rw [hstep, if_pos hx]
      unfold swl
      rw [tw_take hI (fun _ => hx) (by omega)]
    · refine Or.inl ⟨(sumI ((l.take (k + 1)).map s), nI (k + 1)), ⟨rfl, fun b hb => ?_⟩, fun k' => by rw [hstep, if_neg hx]⟩
      rw [tk_s (by omega)] at hb
      rcases List.mem_append.mp hb with hb | hb
      · exact hI b hb
      · rw [List.mem_singleton.mp hb]; exact hx
  · intro st hI k'
    obtain ⟨rfl, hI⟩ := hI
    simp only [fX0_strengthUpTo_L4]
    rw [if_pos (show c0 6 ≤ nI n by rw [h6, fa_le]; exact Int.le_refl _)]
    unfold swl
    rw [tw_take hI (fun h => absurd h (by omega)) (by omega)]
/-- whole sums -/
def psI (s : Nat → Int32) : List Nat → Int
  | [] => 0
  | a :: l => (s a).toInt + psI s l
theorem psI_app (s : Nat → Int32) (l m : List Nat) : psI s (l ++ m) = psI s l + psI s m := by
  induction l with
  | nil => show psI s m = 0 + psI s m; omega
  | cons a l ih => show (s a).toInt + psI s (l ++ m) = (s a).toInt + psI s l + psI s m; rw [ih]; omega
theorem psI_nn {s : Nat → Int32} : ∀ {l : List Nat}, (∀ a ∈ l, 0 ≤ (s a).toInt) → 0 ≤ psI s l
  | [], _ => Int.le_refl 0
  | a :: l, h => by
    have h1 := h a List.mem_cons_self
    have h2 := psI_nn (s := s) (l := l) (fun b hb => h b (List.mem_cons_of_mem _ hb))
    show 0 ≤ (s a).toInt + psI s l
    omega
theorem psI_sum {s : Nat → Int32} {l : List Nat} (h : ∀ a ∈ l, 0 ≤ (s a).toInt ∧ (s a).toInt ≤ 1000000) (hl : l.length ≤ 25) : (sumI (l.map s)).toInt = psI s l ∧ psI s l ≤ 1000000 * l.length := by
  induction l with
  | nil => exact ⟨rfl, by show (0 : Int) ≤ 1000000 * (0 : Nat); omega⟩
  | cons a l ih =>
    rw [List.length_cons] at hl
    obtain ⟨i1, i2⟩ := ih (fun b hb => h b (List.mem_cons_of_mem _ hb)) (by omega)
    have h1 := h a List.mem_cons_self
    have h2 := psI_nn (s := s) (l := l) (fun b hb => (h b (List.mem_cons_of_mem _ hb)).1)
    have e : (sumI ((a :: l).map s)).toInt = (s a).toInt + psI s l := by
      show (s a + sumI (l.map s)).toInt = _
      rw [fb_addI (by rw [i1]; omega) (by rw [i1]; omega), i1]
    refine ⟨e, ?_⟩
    show (s a).toInt + psI s l ≤ 1000000 * ((l.length + 1 : Nat) : Int)
    omega
theorem psI_take {s : Nat → Int32} {l : List Nat} (h : ∀ a ∈ l, 0 ≤ (s a).toInt) {i j : Nat} (hij : i ≤ j) : psI s (l.take i) ≤ psI s (l.take j) := by
  have e : l.take j = l.take i ++ (l.drop i).take (j - i) := by
    rw [← List.take_add, show i + (j - i) = j by omega]
  rw [e, psI_app]
  have := psI_nn (s := s) (l := (l.drop i).take (j - i)) (fun a ha => h a (List.mem_of_mem_drop (List.mem_of_mem_take ha)))
  omega
