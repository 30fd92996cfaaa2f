/-! heard, sound, early, fade: the same answers -/
theorem putL_sl {f : Nat → Int32} {ti g : II → Int32} {h : List II} {q : Nat} (hq : q < h.length) : putL f ((sl ti h).map g) q = g (h.getD ((srt (fun a => ti (h.getD a (0, 0))) h.length).getD q 0) (0, 0)) := by
  have hl := srt_len (fun a => ti (h.getD a (0, 0))) h.length
  rw [putL_at _ (by rw [List.length_map, sl_len]; exact hq), List.getElem_map]
  unfold sl
  rw [List.getElem_map, getD_in (l := srt _ _) (by omega)]
theorem putL_m {f : Nat → Int32} {g : II → Int32} {h : List II} {q : Nat} (hq : q < h.length) : putL f (h.map g) q = g (h.getD q (0, 0)) := by
  rw [putL_at _ (by rw [List.length_map]; exact hq), List.getElem_map, getD_in hq]
theorem srt_f {f : Nat → Int32} {ti : II → Int32} {h : List II} : srt (putL f (h.map ti)) h.length = srt (fun a => ti (h.getD a (0, 0))) h.length := srt_congr (fun q hq => putL_m hq)
theorem srt_lt {t : Nat → Int32} {n q : Nat} (hq : q < n) : (srt t n).getD q 0 < n := by
  have hl := srt_len t n
  rw [getD_in (by omega)]
  exact srt_mem.mp (List.getElem_mem _)
theorem upd20 {c0 : Nat → Int32} {v : Int32} : ∀ q, q ≠ 20 → upd c0 20 v q = c0 q := fun _ h => upd_ne h
section ASK
variable {nS nC : Nat} {cN sw sX sY cX cF cT s e0 e1 e2 e3 e4 e5 c0 c1 c2 c3 c4 : Nat → Int32}
theorem a_heard (h : RRel nS nC cN sw sX sY cX cF cT s) (x k w : Int32) :
    ∃ r a0 a1 a2 a3 a4 a5 b0 b1 b2 b3 b4, fX5_heard cN e0 sX sY cX cF cT e1 e2 e3 e4 e5 sw x k w = some (r, a0, a1, a2, a3, a4, a5) ∧ fX6_heard c0 s c1 c2 c3 c4 x k w = some (r, b0, b1, b2, b3, b4) ∧ ∀ q, q ≠ 20 → b0 q = c0 q := by
  have h' := h
  obtain ⟨hS4, hC3, ⟨q0, q1, q2, q3, q4, q5, q6, q7⟩, -⟩ := h'
  unfold fX5_heard fX6_heard
  rw [e3_seat hS4 q4, e6_seat hS4 q5, Option.bind_some, Option.bind_some, b2_if, b2_if, e5_within, e6_in, Option.bind_some, Option.bind_some, b2_if, b2_if]
  cases hs : seatB nS x with
  | false => exact ⟨_, _, _, _, _, _, _, _, _, _, _, _, rfl, rfl, fun _ _ => rfl⟩
  | true =>
    obtain ⟨z, hz, rfl⟩ := seatB_ex hs
    simp only [if_true]
    by_cases hk : k < 0
    · rw [if_pos hk, if_pos hk]
      exact ⟨_, _, _, _, _, _, _, _, _, _, _, _, rfl, rfl, fun _ _ => rfl⟩
    rw [if_neg hk, if_neg hk]
    cases hw : inB w 0 2 with
    | false => exact ⟨_, _, _, _, _, _, _, _, _, _, _, _, rfl, rfl, fun _ _ => rfl⟩
    | true =>
      simp only [if_true]
      rw [c_hear h hz, m_hearsNow h hz, Option.bind_some, Option.bind_some]
      have hn := HL_len (hdF s nC z)
      unfold earE
      dsimp only
      generalize HL (hdF s nC z) = g at *
      have e6 : (upd (upd e0 6 (nI g.length)) 7 (sumI (g.map (snF (s4 s) s z)))) 6 = nI g.length := rfl
      simp only [e6, upd_self]
      by_cases hlt : k < nI g.length
      · rw [if_pos hlt, if_pos hlt]
        rw [fa_lt, nI_toInt (by omega)] at hlt
        rw [fa_lt, show (0 : Int32).toInt = 0 from rfl] at hk
        obtain ⟨q, hq, rfl⟩ := nI_ex (x := k) (N := g.length) (by omega) hlt
        have ok : okI (nI q) 25 := okI_nI (by omega) (by decide)
        have hzl := srt_lt (t := fun a => tiF s z (g.getD a (0, 0))) hq
        have ok2 : okI (nI ((srt (fun a => tiF s z (g.getD a (0, 0))) g.length).getD q 0)) 25 := okI_nI (by omega) (by decide)
        rw [e6_rank hn (upd_self _ _ _) hq, Option.bind_some, srt_f, if_pos ok2, if_pos ok2, if_pos ok2, if_pos ok, if_pos ok, if_pos ok, if_pos ok, cl_nI (by omega), cl_nI (by omega), putL_sl hq, putL_sl hq, putL_sl hq, putL_sl hq, putL_m hzl, putL_m hzl, putL_m hzl]
        unfold fX5_imageCode
        rw [Option.bind_some]
        by_cases w0 : w = 0
        · rw [if_pos w0, if_pos w0]
          exact ⟨_, _, _, _, _, _, _, _, _, _, _, _, rfl, rfl, upd20⟩
        · rw [if_neg w0, if_neg w0]
          by_cases w1 : w = 1
          · rw [if_pos w1, if_pos w1]
            exact ⟨_, _, _, _, _, _, _, _, _, _, _, _, rfl, rfl, upd20⟩
          · rw [if_neg w1, if_neg w1]
            exact ⟨_, _, _, _, _, _, _, _, _, _, _, _, rfl, rfl, upd20⟩
      · rw [if_neg hlt, if_neg hlt]
        exact ⟨_, _, _, _, _, _, _, _, _, _, _, _, rfl, rfl, upd20⟩
end ASK
