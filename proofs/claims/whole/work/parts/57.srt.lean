/-! a stable sort by insertion from behind: order of what is heard -/
def ltR (t : Nat → Int32) (a b : Nat) : Prop := (t a).toInt < (t b).toInt ∨ ((t a).toInt = (t b).toInt ∧ a < b)
theorem ltR_dec (t : Nat → Int32) (a b : Nat) : ltR t a b ∨ ¬ ltR t a b := Classical.em _
theorem ltR_irr (t : Nat → Int32) (a : Nat) : ¬ ltR t a a := fun h => by rcases h with h | h <;> omega
theorem ltR_asym {t : Nat → Int32} {a b : Nat} (h : ltR t a b) : ¬ ltR t b a := fun h2 => by rcases h with h | h <;> rcases h2 with h2 | h2 <;> omega
def ipos (f : Nat → Int32) (x : Int32) : Nat → Nat
  | 0 => 0
  | q + 1 => if f q ≤ x then q + 1 else ipos f x q
theorem ipos_le (f : Nat → Int32) (x : Int32) : ∀ q, ipos f x q ≤ q
  | 0 => Nat.le_refl 0
  | q + 1 => by
    unfold ipos
    split
    · exact Nat.le_refl _
    · exact Nat.le_succ_of_le (ipos_le f x q)
theorem ipos_hi {f : Nat → Int32} {x : Int32} : ∀ {q k : Nat}, ipos f x q ≤ k → k < q → x.toInt < (f k).toInt
  | 0, k, _, h => absurd h (Nat.not_lt_zero _)
  | q + 1, k, h1, h2 => by
    unfold ipos at h1
    split at h1
    · omega
    · rename_i h3
      rw [fa_le] at h3
      rcases Nat.lt_or_ge k q with h4 | h4
      · exact ipos_hi h1 h4
      · have e : k = q := by omega
        subst e
        omega
theorem ipos_lo {f : Nat → Int32} {x : Int32} : ∀ {q : Nat}, 0 < ipos f x q → (f (ipos f x q - 1)).toInt ≤ x.toInt
  | 0, h => absurd h (Nat.lt_irrefl 0)
  | q + 1, h => by
    unfold ipos at h ⊢
    split
    · rename_i h3
      rw [fa_le] at h3
      exact h3
    · rename_i h3
      rw [if_neg h3] at h
      exact ipos_lo h
def insAt {α : Type} (l : List α) (q : Nat) (x : α) : List α := l.take q ++ x :: l.drop q
theorem insAt_len {α : Type} (l : List α) {q : Nat} (x : α) (h : q ≤ l.length) : (insAt l q x).length = l.length + 1 := by
  unfold insAt
  rw [List.length_append, List.length_cons, List.length_take, List.length_drop]
  omega
theorem insAt_perm {α : Type} (l : List α) (q : Nat) (x : α) : (insAt l q x).Perm (x :: l) := by
  unfold insAt
  have h := List.perm_middle (a := x) (l₁ := l.take q) (l₂ := l.drop q)
  rw [List.take_append_drop] at h
  exact h
theorem insAt_map {α β : Type} (g : α → β) (l : List α) (q : Nat) (x : α) : (insAt l q x).map g = insAt (l.map g) q (g x) := by
  unfold insAt
  rw [List.map_append, List.map_cons, List.map_take, List.map_drop]
/-- the indices 0 .. m - 1 in order -/
def srt (t : Nat → Int32) : Nat → List Nat
  | 0 => []
  | m + 1 => insAt (srt t m) (ipos (fun k => t ((srt t m).getD k 0)) (t m) m) m
theorem srt_perm (t : Nat → Int32) : ∀ m, (srt t m).Perm (List.range m)
  | 0 => List.Perm.refl _
  | m + 1 => by
    have h1 := insAt_perm (srt t m) (ipos (fun k => t ((srt t m).getD k 0)) (t m) m) m
    have h2 : (m :: srt t m).Perm (m :: List.range m) := (srt_perm t m).cons m
    have h3 : (List.range m ++ [m]).Perm (m :: List.range m) := by
      have := List.perm_middle (a := m) (l₁ := List.range m) (l₂ := [])
      rw [List.append_nil] at this
      exact this
    rw [show List.range (m + 1) = List.range m ++ [m] from List.range_succ]
    exact (h1.trans h2).trans h3.symm
theorem srt_len (t : Nat → Int32) (m : Nat) : (srt t m).length = m := by rw [(srt_perm t m).length_eq, List.length_range]
theorem srt_mem {t : Nat → Int32} {m a : Nat} : a ∈ srt t m ↔ a < m := by rw [(srt_perm t m).mem_iff, List.mem_range]
theorem srt_pw (t : Nat → Int32) : ∀ m, (srt t m).Pairwise (ltR t)
  | 0 => List.Pairwise.nil
  | m + 1 => by
    have ih := srt_pw t m
    have hl := srt_len t m
    have ihg := List.pairwise_iff_getElem.mp ih
    generalize hq : ipos (fun k => t ((srt t m).getD k 0)) (t m) m = q
    have hqm : q ≤ m := by rw [← hq]; exact ipos_le _ _ _
    have hlow : ∀ y ∈ (srt t m).take q, ltR t y m := by
      intro y hy
      obtain ⟨i, hi, e⟩ := List.mem_take_iff_getElem.mp hy
      have hi2 : i < (srt t m).length := by omega
      have hym : y < m := srt_mem.mp (List.mem_of_mem_take hy)
      have h0 : 0 < q := by omega
      have hp := ipos_lo (f := fun k => t ((srt t m).getD k 0)) (x := t m) (q := m) (by rw [hq]; exact h0)
      rw [hq] at hp
      have e2 : (srt t m).getD (q - 1) 0 = (srt t m)[q - 1]'(by omega) := by
        rw [List.getD_eq_getElem?_getD, List.getElem?_eq_getElem (by omega)]; rfl
      rw [e2] at hp
      have hle : (t y).toInt ≤ (t ((srt t m)[q - 1]'(by omega))).toInt := by
        rw [← e]
        rcases Nat.lt_or_ge i (q - 1) with h | h
        · rcases ihg i (q - 1) hi2 (by omega) h with h | h <;> omega
        · have e3 : i = q - 1 := by omega
          subst e3
          exact Int.le_refl _
      rcases Int.lt_or_le (t y).toInt (t m).toInt with h | h
      · exact Or.inl h
      · exact Or.inr ⟨by omega, hym⟩
    have hhigh : ∀ y ∈ (srt t m).drop q, ltR t m y := by
      intro y hy
      obtain ⟨i, hi, e⟩ := List.mem_drop_iff_getElem.mp hy
      have hp := ipos_hi (f := fun k => t ((srt t m).getD k 0)) (x := t m) (q := m) (k := q + i) (by rw [hq]; omega) (by omega)
      have e2 : (srt t m).getD (q + i) 0 = (srt t m)[q + i]'(by omega) := by
        rw [List.getD_eq_getElem?_getD, List.getElem?_eq_getElem (by omega)]; rfl
      rw [e2] at hp
      rw [← e]
      exact Or.inl hp
    show (insAt (srt t m) (ipos (fun k => t ((srt t m).getD k 0)) (t m) m) m).Pairwise (ltR t)
    rw [hq]
    unfold insAt
    have hsplit := ih
    rw [← List.take_append_drop q (srt t m), List.pairwise_append] at hsplit
    obtain ⟨s1, s2, s3⟩ := hsplit
    rw [List.pairwise_append, List.pairwise_cons]
    refine ⟨s1, ⟨hhigh, s2⟩, fun a ha b hb => ?_⟩
    rcases List.mem_cons.mp hb with e | hb
    · rw [e]; exact hlow a ha
    · exact s3 a ha b hb
/-- how many come ahead of a -/
def ahd (t : Nat → Int32) (a : Nat) : Nat → Nat
  | 0 => 0
  | n + 1 => ahd t a n + (if (t n).toInt < (t a).toInt ∨ ((t n).toInt = (t a).toInt ∧ n < a) then 1 else 0)
theorem ahd_cnt (t : Nat → Int32) (a : Nat) : ∀ n, ahd t a n = (List.range n).countP (fun b => decide ((t b).toInt < (t a).toInt ∨ ((t b).toInt = (t a).toInt ∧ b < a)))
  | 0 => rfl
  | n + 1 => by
    rw [show List.range (n + 1) = List.range n ++ [n] from List.range_succ, List.countP_append, ← ahd_cnt t a n]
    show _ + _ = _ + _
    congr 1
    by_cases h : (t n).toInt < (t a).toInt ∨ ((t n).toInt = (t a).toInt ∧ n < a)
    · rw [if_pos h]; simp [h]
    · rw [if_neg h]; simp [h]
theorem ahd_srt {t : Nat → Int32} {n k : Nat} (hk : k < (srt t n).length) : ahd t ((srt t n)[k]) n = k := by
  have hl := srt_len t n
  have hg := List.pairwise_iff_getElem.mp (srt_pw t n)
  generalize ha : (srt t n)[k] = a
  rw [ahd_cnt, ← (srt_perm t n).countP_eq, ← List.take_append_drop k (srt t n), List.countP_append]
  have h1 : ((srt t n).take k).countP (fun b => decide ((t b).toInt < (t a).toInt ∨ ((t b).toInt = (t a).toInt ∧ b < a))) = ((srt t n).take k).length := by
    rw [List.countP_eq_length]
    intro b hb
    obtain ⟨i, hi, e⟩ := List.mem_take_iff_getElem.mp hb
    have := hg i k (by omega) hk (by omega)
    rw [e, ha] at this
    exact decide_eq_true this
  have h2 : ((srt t n).drop k).countP (fun b => decide ((t b).toInt < (t a).toInt ∨ ((t b).toInt = (t a).toInt ∧ b < a))) = 0 := by
    rw [List.countP_eq_zero]
    intro b hb
    obtain ⟨i, hi, e⟩ := List.mem_drop_iff_getElem.mp hb
    intro hc
    have hc := of_decide_eq_true hc
    rcases Nat.eq_zero_or_pos i with h0 | h0
    · subst h0
      have e2 : b = a := by rw [← e, ← ha]; rfl
      subst e2
      exact ltR_irr t b hc
    · have := hg k (k + i) hk (by omega) (by omega)
      rw [ha, e] at this
      exact ltR_asym this hc
  rw [h1, h2, List.length_take]
  omega
theorem srt_at {t : Nat → Int32} {n a : Nat} (ha : a < n) : ∃ k, ∃ hk : k < (srt t n).length, (srt t n)[k] = a := by
  obtain ⟨k, hk, e⟩ := List.getElem_of_mem (srt_mem.mpr ha)
  exact ⟨k, hk, e⟩
theorem ahd_one {t : Nat → Int32} {n k a : Nat} (ha : a < n) (h : ahd t a n = k) : ∃ hk : k < (srt t n).length, (srt t n)[k] = a := by
  obtain ⟨k2, hk2, e⟩ := srt_at (t := t) ha
  have h2 := ahd_srt (t := t) (n := n) hk2
  rw [e, h] at h2
  subst h2
  exact ⟨hk2, e⟩
/-! sums -/
def sumI : List Int32 → Int32
  | [] => 0
  | x :: l => x + sumI l
theorem sumI_perm {l l' : List Int32} (h : l.Perm l') : sumI l = sumI l' := by
  induction h with
  | nil => rfl
  | cons x _ ih => show x + _ = x + _; rw [ih]
  | swap x y l => show y + (x + sumI l) = x + (y + sumI l); rw [← Int32.add_assoc, ← Int32.add_assoc, Int32.add_comm y x]
  | trans _ _ ih1 ih2 => exact ih1.trans ih2
theorem sumI_app (l : List Int32) (x : Int32) : sumI (l ++ [x]) = sumI l + x := by
  induction l with
  | nil => show x + 0 = 0 + x; rw [Int32.add_comm]
  | cons y l ih => show y + sumI (l ++ [x]) = y + sumI l + x; rw [ih, Int32.add_assoc]
theorem sumI_rng {l : List Int32} (h : ∀ x ∈ l, 0 ≤ x.toInt ∧ x.toInt ≤ 1000000) (hl : l.length ≤ 25) : 0 ≤ (sumI l).toInt ∧ (sumI l).toInt ≤ 1000000 * l.length := by
  induction l with
  | nil => exact ⟨(by decide : 0 ≤ (0 : Int32).toInt), (by decide : (0 : Int32).toInt ≤ 1000000 * 0)⟩
  | cons y l ih =>
    have h1 := ih (fun x hx => h x (List.mem_cons_of_mem _ hx)) (by rw [List.length_cons] at hl; omega)
    have h2 := h y List.mem_cons_self
    rw [List.length_cons] at hl ⊢
    have e : (sumI (y :: l)).toInt = y.toInt + (sumI l).toInt := fb_addI (by omega) (by omega)
    rw [e]
    omega
