theorem sby_congr {t t' s s' : Nat → Int32} {x : Int32} : ∀ {n : Nat}, (∀ a, a < n → t a = t' a) → (∀ a, a < n → s a = s' a) → sby t s x n = sby t' s' x n
  | 0, _, _ => rfl
  | n + 1, h1, h2 => by
    show sby t s x n + _ = sby t' s' x n + _
    rw [sby_congr (fun a ha => h1 a (by omega)) (fun a ha => h2 a (by omega)), h1 n (by omega), h2 n (by omega)]
theorem psI_range (s : Nat → Int32) (n : Nat) : psI s (List.range (n + 1)) = psI s (List.range n) + (s n).toInt := by
  rw [show List.range (n + 1) = List.range n ++ [n] from List.range_succ, psI_app]
  show _ + ((s n).toInt + 0) = _
  omega
theorem sby_rng {t s : Nat → Int32} {x : Int32} : ∀ {n : Nat}, n ≤ 25 → (∀ a, a < n → 0 ≤ (s a).toInt ∧ (s a).toInt ≤ 1000000) → 0 ≤ (sby t s x n).toInt ∧ (sby t s x n).toInt ≤ psI s (List.range n) ∧ psI s (List.range n) ≤ 1000000 * n
  | 0, _, _ => ⟨Int.le_refl 0, Int.le_refl 0, Int.le_refl 0⟩
  | n + 1, hn, h => by
    obtain ⟨h1, h2, h3⟩ := sby_rng (t := t) (s := s) (x := x) (n := n) (by omega) (fun a ha => h a (by omega))
    have h4 := h n (by omega)
    have e : (sby t s x (n + 1)).toInt = (sby t s x n).toInt + (if x < t n then 0 else s n).toInt := by
      show (sby t s x n + (if x < t n then 0 else s n)).toInt = _
      refine fb_addI ?_ ?_ <;> split <;> first | (rw [show (0 : Int32).toInt = 0 from rfl]; omega) | omega
    have e2 : 0 ≤ (if x < t n then 0 else s n).toInt ∧ (if x < t n then 0 else s n).toInt ≤ (s n).toInt := by
      split
      · exact ⟨Int.le_refl 0, h4.1⟩
      · exact ⟨h4.1, Int.le_refl _⟩
    rw [e, psI_range]
    omega
theorem sby_all {t s : Nat → Int32} {x : Int32} {n : Nat} (h : ∀ a, a < n → ¬ x < t a) : sby t s x n = sumI ((List.range n).map s) := by
  rw [sby_sum, List.filter_eq_self.mpr (fun a ha => decide_eq_true (h a (List.mem_range.mp ha)))]
theorem map_getD {α β : Type} (l : List α) (d : α) (g : α → β) : (List.range l.length).map (fun a => g (l.getD a d)) = l.map g := by
  refine List.ext_getElem (by rw [List.length_map, List.length_map, List.length_range]) (fun i h1 h2 => ?_)
  rw [List.length_map] at h2
  rw [List.getElem_map, List.getElem_map, List.getElem_range, getD_in h2]
theorem seat_facts {nS nC z : Nat} {cN sw sX sY cX cF cT s : Nat → Int32} (h : RRel nS nC cN sw sX sY cX cF cT s) (hz : z < nS) (sw6 : Nat → Int32) (h6 : ∀ w, w < 4 → 0 ≤ (sw6 w).toInt ∧ (sw6 w).toInt ≤ 10) : ∀ a, a < (HL (hdF s nC z)).length → (0 ≤ (tiF s z ((HL (hdF s nC z)).getD a (0, 0))).toInt ∧ (tiF s z ((HL (hdF s nC z)).getD a (0, 0))).toInt ≤ 824) ∧ (0 ≤ (snF sw6 s z ((HL (hdF s nC z)).getD a (0, 0))).toInt ∧ (snF sw6 s z ((HL (hdF s nC z)).getD a (0, 0))).toInt ≤ 1000000) := by
  intro a ha
  rw [getD_in ha]
  have hi := HL_img (List.getElem_mem ha)
  generalize (HL (hdF s nC z))[a] = p at *
  obtain ⟨i, j⟩ := p
  have hw := waF_rng h hz hi
  obtain ⟨-, -, t1, t2⟩ := tim_ok hw.1 hw.2
  exact ⟨⟨t1, t2⟩, str_rng h6 i j hw.1 hw.2⟩
theorem RRel.w10 {nS nC : Nat} {cN sw sX sY cX cF cT s : Nat → Int32} (h : RRel nS nC cN sw sX sY cX cF cT s) : ∀ w, w < 4 → 0 ≤ (s4 s w).toInt ∧ (s4 s w).toInt ≤ 10 := by
  obtain ⟨-, -, -, -, -, -, -, hw, -⟩ := h
  exact hw
section ASK2
variable {nS nC : Nat} {cN sw sX sY cX cF cT s e0 e1 e2 e3 e4 e5 c0 c1 c2 c3 c4 : Nat → Int32}
/-- the reference's sums over what was heard -/
theorem m_by {f st e : Nat → Int32} {ti sn : II → Int32} {g : List II} (hn : g.length ≤ 25) (h20 : e 20 = nI g.length) (x : Int32) : fX6_soundBy e (putL f (g.map ti)) (putL st (g.map sn)) x = some (sby (fun a => ti (g.getD a (0, 0))) (fun a => sn (g.getD a (0, 0))) x g.length) := by
  rw [e6_soundBy hn h20, sby_congr (fun a ha => putL_m ha) (fun a ha => putL_m ha)]
theorem m_all {f st e : Nat → Int32} {ti sn : II → Int32} {g : List II} (hn : g.length ≤ 25) (h20 : e 20 = nI g.length) (ht : ∀ a, a < g.length → (ti (g.getD a (0, 0))).toInt ≤ 824) : fX6_soundAll e (putL f (g.map ti)) (putL st (g.map sn)) = some (sumI (g.map sn)) := by
  unfold fX6_soundAll
  rw [m_by hn h20, Option.bind_some, sby_all (fun a ha => by rw [fa_lt, show (2000 : Int32).toInt = 2000 from rfl]; have := ht a ha; omega), map_getD]
/-- the class's -/
theorem c_by {e f st : Nat → Int32} {ti sn : II → Int32} {g : List II} (hn : g.length ≤ 25) (h6 : e 6 = nI g.length) (x : Int32) : fX0_strengthUpTo e (putL f ((sl ti g).map ti)) (putL st ((sl ti g).map sn)) x = some (sby (fun a => ti (g.getD a (0, 0))) (fun a => sn (g.getD a (0, 0))) x g.length) := by
  rw [sby_swl]
  exact e0_upTo hn h6 (srt_len _ _) (fun q hq => putL_sl hq) (fun q hq => putL_sl hq) x
theorem a_sound (h : RRel nS nC cN sw sX sY cX cF cT s) (x w : Int32) :
    ∃ r a0 a1 a2 a3 a4 a5 b0 b1 b2 b3 b4, fX5_sound cN e0 sX sY cX cF cT e1 e2 e3 e4 e5 sw x w = some (r, a0, a1, a2, a3, a4, a5) ∧ fX6_sound c0 s c1 c2 c3 c4 x w = some (r, b0, b1, b2, b3, b4) ∧ ∀ q, q ≠ 20 → b0 q = c0 q := by
  have h' := h
  obtain ⟨hS4, hC3, ⟨q0, q1, q2, q3, q4, q5, q6, q7⟩, -⟩ := h'
  unfold fX5_sound fX6_sound
  rw [e3_seat hS4 q4, e6_seat hS4 q5, Option.bind_some, Option.bind_some, b2_if, b2_if, e5_within, e6_in, Option.bind_some, Option.bind_some, b2_if, b2_if]
  cases hs : seatB nS x with
  | false => exact ⟨_, _, _, _, _, _, _, _, _, _, _, _, rfl, rfl, fun _ _ => rfl⟩
  | true =>
    obtain ⟨z, hz, rfl⟩ := seatB_ex hs
    simp only [if_true]
    cases hw : inB w 0 2 with
    | false => exact ⟨_, _, _, _, _, _, _, _, _, _, _, _, rfl, rfl, fun _ _ => rfl⟩
    | true =>
      simp only [if_true]
      have hw := of_decide_eq_true hw
      rw [show (0 : Int32).toInt = 0 from rfl, show (2 : Int32).toInt = 2 from rfl] at hw
      rw [c_hear h hz, m_hearsNow h hz, Option.bind_some, Option.bind_some]
      have hn := HL_len (hdF s nC z)
      have hf := seat_facts h hz (s4 s) h.w10
      unfold earE
      dsimp only
      generalize HL (hdF s nC z) = g at *
      have e6 : (upd (upd e0 6 (nI g.length)) 7 (sumI (g.map (snF (s4 s) s z)))) 6 = nI g.length := rfl
      have e7 : (upd (upd e0 6 (nI g.length)) 7 (sumI (g.map (snF (s4 s) s z)))) 7 = sumI (g.map (snF (s4 s) s z)) := rfl
      simp only [fX0_firstGap, e6, e7, upd_self]
      rw [m_all hn (upd_self _ _ _) (fun a ha => (hf a ha).1.2), Option.bind_some]
      by_cases w0 : w = 0
      · rw [if_pos w0, if_neg (show ¬ (2 : Int32) ≤ w by rw [w0]; decide), if_pos w0]
        exact ⟨_, _, _, _, _, _, _, _, _, _, _, _, rfl, rfl, upd20⟩
      · rw [if_neg w0, if_neg w0]
        by_cases w1 : w = 1
        · rw [if_pos w1, if_neg (show ¬ (2 : Int32) ≤ w by rw [w1]; decide)]
          exact ⟨_, _, _, _, _, _, _, _, _, _, _, _, rfl, rfl, upd20⟩
        · rw [fa_eq, show (0 : Int32).toInt = 0 from rfl] at w0
          have w1' := w1
          rw [fa_eq, show (1 : Int32).toInt = 1 from rfl] at w1'
          rw [if_neg w1, if_pos (show (2 : Int32) ≤ w by rw [fa_le, show (2 : Int32).toInt = 2 from rfl]; omega)]
          by_cases hg : g.length ≤ 1
          · rw [if_pos (show nI g.length ≤ 1 by rw [fa_le, nI_toInt (by omega), show (1 : Int32).toInt = 1 from rfl]; omega), if_neg (show ¬ (2 : Int32) ≤ nI g.length by rw [fa_le, nI_toInt (by omega), show (2 : Int32).toInt = 2 from rfl]; omega), Option.bind_some]
            exact ⟨_, _, _, _, _, _, _, _, _, _, _, _, rfl, rfl, upd20⟩
          · have h1 := srt_lt (t := fun a => tiF s z (g.getD a (0, 0))) (show 1 < g.length by omega)
            have h0 := srt_lt (t := fun a => tiF s z (g.getD a (0, 0))) (show 0 < g.length by omega)
            have hr1 : fX6_rankedAt (upd c0 20 (nI g.length)) (putL c2 (g.map (tiF s z))) 1 = some (nI ((srt (fun a => tiF s z (g.getD a (0, 0))) g.length).getD 1 0)) := by
              rw [← srt_f (f := c2)]
              exact e6_rank hn (upd_self _ _ _) (show 1 < g.length by omega)
            have hr0 : fX6_rankedAt (upd c0 20 (nI g.length)) (putL c2 (g.map (tiF s z))) 0 = some (nI ((srt (fun a => tiF s z (g.getD a (0, 0))) g.length).getD 0 0)) := by
              rw [← srt_f (f := c2)]
              exact e6_rank hn (upd_self _ _ _) (show 0 < g.length by omega)
            rw [if_neg (show ¬ nI g.length ≤ 1 by rw [fa_le, nI_toInt (by omega), show (1 : Int32).toInt = 1 from rfl]; omega), if_pos (show (2 : Int32) ≤ nI g.length by rw [fa_le, nI_toInt (by omega), show (2 : Int32).toInt = 2 from rfl]; omega), Option.bind_some, hr1, Option.bind_some, hr0, Option.bind_some, if_pos (okI_nI (by omega) (by decide)), if_pos (okI_nI (by omega) (by decide)), cl_nI (by omega), cl_nI (by omega), putL_m h1, putL_m h0, putL_sl (show 1 < g.length by omega), putL_sl (show 0 < g.length by omega)]
            exact ⟨_, _, _, _, _, _, _, _, _, _, _, _, rfl, rfl, upd20⟩
theorem a_early (h : RRel nS nC cN sw sX sY cX cF cT s) (x y w : Int32) :
    ∃ r a0 a1 a2 a3 a4 a5 b0 b1 b2 b3 b4, fX5_early cN e0 sX sY cX cF cT e1 e2 e3 e4 e5 sw x y w = some (r, a0, a1, a2, a3, a4, a5) ∧ fX6_early c0 s c1 c2 c3 c4 x y w = some (r, b0, b1, b2, b3, b4) ∧ ∀ q, q ≠ 20 → b0 q = c0 q := by
  have h' := h
  obtain ⟨hS4, hC3, ⟨q0, q1, q2, q3, q4, q5, q6, q7⟩, -⟩ := h'
  unfold fX5_early fX6_early
  rw [e3_seat hS4 q4, e6_seat hS4 q5, Option.bind_some, Option.bind_some, b2_if, b2_if, e5_within, e6_in, Option.bind_some, Option.bind_some, b2_if, b2_if, e5_within, e6_in, Option.bind_some, Option.bind_some, b2_if, b2_if]
  cases hs : seatB nS x with
  | false => exact ⟨_, _, _, _, _, _, _, _, _, _, _, _, rfl, rfl, fun _ _ => rfl⟩
  | true =>
    obtain ⟨z, hz, rfl⟩ := seatB_ex hs
    simp only [if_true]
    cases hy : inB y 0 999 with
    | false => exact ⟨_, _, _, _, _, _, _, _, _, _, _, _, rfl, rfl, fun _ _ => rfl⟩
    | true =>
    simp only [if_true]
    cases hw : inB w 0 1 with
    | false => exact ⟨_, _, _, _, _, _, _, _, _, _, _, _, rfl, rfl, fun _ _ => rfl⟩
    | true =>
      simp only [if_true]
      have hw := of_decide_eq_true hw
      rw [show (0 : Int32).toInt = 0 from rfl, show (1 : Int32).toInt = 1 from rfl] at hw
      have hw01 : w = 0 ∨ w = 1 := by
        rw [fa_eq, fa_eq, show (0 : Int32).toInt = 0 from rfl, show (1 : Int32).toInt = 1 from rfl]; omega
      rw [c_hear h hz, m_hearsNow h hz, Option.bind_some, Option.bind_some]
      have hn := HL_len (hdF s nC z)
      have hf := seat_facts h hz (s4 s) h.w10
      unfold earE
      dsimp only
      generalize HL (hdF s nC z) = g at *
      have e7 : (upd (upd e0 6 (nI g.length)) 7 (sumI (g.map (snF (s4 s) s z)))) 7 = sumI (g.map (snF (s4 s) s z)) := rfl
      rw [m_all hn (upd_self _ _ _) (fun a ha => (hf a ha).1.2), Option.bind_some, m_by hn (upd_self _ _ _), Option.bind_some, c_by hn rfl, Option.bind_some]
      simp only [e7]
      have hb := sby_rng (t := fun a => tiF s z (g.getD a (0, 0))) (s := fun a => snF (s4 s) s z (g.getD a (0, 0))) (x := y) hn (fun a ha => (hf a ha).2)
      have hA : (sumI (g.map (snF (s4 s) s z))).toInt = psI (fun a => snF (s4 s) s z (g.getD a (0, 0))) (List.range g.length) := by
        rw [← map_getD g (0, 0) (snF (s4 s) s z)]
        exact (psI_sum (fun a ha => (hf a (List.mem_range.mp ha)).2) (by rw [List.length_range]; exact hn)).1
      generalize sby (fun a => tiF s z (g.getD a (0, 0))) (fun a => snF (s4 s) s z (g.getD a (0, 0))) y g.length = U at *
      generalize sumI (g.map (snF (s4 s) s z)) = A at *
      obtain ⟨u, hu, rfl⟩ := nI_ex (x := U) (N := 30000000) hb.1 (by omega)
      obtain ⟨a, ha, rfl⟩ := nI_ex (x := A) (N := 30000000) (by omega) (by omega)
      rw [nI_toInt (by omega)] at hA hb
      obtain ⟨r, hr1, hr2⟩ := frac_eq (u := u) (a := a) (w := w) (by omega) (by omega) (by omega) hw01
      rw [hr1, Option.bind_some]
      by_cases h0 : nI a = 0
      · rw [if_pos h0] at hr2 ⊢
        rw [← Option.some.inj hr2]
        exact ⟨_, _, _, _, _, _, _, _, _, _, _, _, rfl, rfl, upd20⟩
      · rw [if_neg h0] at hr2 ⊢
        rw [hr2, Option.bind_some]
        exact ⟨_, _, _, _, _, _, _, _, _, _, _, _, rfl, rfl, upd20⟩
end ASK2
