/-! THE TEXT, THE PAST, WHAT WAS SEEN, WHAT IS KEPT, on both sides -/
def TRel (T : Nat) (tO tL mO mt : Nat → Int32) : Prop := T ≤ 100 ∧ tO 1 = nI T ∧ mO 11 = nI T ∧ ∀ k, k < T → tL k = mt k ∧ 0 ≤ (tL k).toInt ∧ (tL k).toInt ≤ 255
theorem in01 {w : Int32} (h : inB w 0 1 = true) : w = 0 ∨ w = 1 := by
  have hw := of_decide_eq_true h
  rw [show (0 : Int32).toInt = 0 from rfl, show (1 : Int32).toInt = 1 from rfl] at hw
  rw [fa_eq, fa_eq, show (0 : Int32).toInt = 0 from rfl, show (1 : Int32).toInt = 1 from rfl]; omega
theorem inN {w h : Int32} {n : Nat} (hh : h.toInt = n) (q : inB w 0 h = true) : ∃ k, k < n + 1 ∧ w = nI k := by
  have hw := of_decide_eq_true q
  rw [show (0 : Int32).toInt = 0 from rfl, hh] at hw
  exact nI_ex hw.1 (by omega)
theorem a_type {T : Nat} {tO tL mO mt : Nat → Int32} (h : TRel T tO tL mO mt) (x : Int32) :
    ∃ r tO' tL' mO' mt', fX5_type tO tL x = some (r, tO', tL') ∧ fX6_type mO mt x = some (r, mO', mt') ∧ (∃ T', TRel T' tO' tL' mO' mt') ∧ mO' 5 = mO 5 ∧ mO' 9 = mO 9 := by
  have h' := h
  obtain ⟨hT, h1, h11, hl⟩ := h'
  unfold fX5_type fX6_type
  rw [e5_within, e6_in, Option.bind_some, Option.bind_some, b2_if, b2_if]
  cases hx : inB x 0 255 with
  | false => exact ⟨_, _, _, _, _, rfl, rfl, ⟨T, h⟩, rfl, rfl⟩
  | true =>
    simp only [if_true]
    have hx := of_decide_eq_true hx
    rw [show (0 : Int32).toInt = 0 from rfl, show (255 : Int32).toInt = 255 from rfl] at hx
    unfold fX4_append
    rw [h1, h11]
    rcases Nat.lt_or_ge T 100 with hlt | hge
    · have ok : okI (nI T) 100 := okI_nI hlt (by decide)
      rw [if_pos (show nI T < 100 by rw [fa_lt, nI_toInt (by omega), show (100 : Int32).toInt = 100 from rfl]; omega), if_neg (show ¬ nI T = 100 by rw [fa_eq, nI_toInt (by omega), show (100 : Int32).toInt = 100 from rfl]; omega), if_pos ok, if_pos ok, Option.bind_some, if_neg (show ¬ (1 : Int32) = 0 by decide), cl_nI (by omega), nI_1]
      refine ⟨_, _, _, _, _, rfl, rfl, ⟨T + 1, by omega, rfl, rfl, fun k hk => ?_⟩, rfl, rfl⟩
      dsimp only
      rcases Nat.lt_or_ge k T with hkt | hkt
      · have e : k ≠ T := by omega
        rw [upd_ne e, upd_ne e]; exact hl k hkt
      · rw [show k = T by omega, upd_self, upd_self]; exact ⟨rfl, hx⟩
    · have e : T = 100 := by omega
      subst e
      rw [if_neg (show ¬ nI 100 < 100 by decide), if_pos (show nI 100 = 100 by decide), Option.bind_some, if_pos (show (0 : Int32) = 0 from rfl)]
      exact ⟨_, _, _, _, _, rfl, rfl, ⟨100, h⟩, rfl, rfl⟩
theorem a_clear {T : Nat} {tO tL mO mt : Nat → Int32} (h : TRel T tO tL mO mt) :
    ∃ r tO' mO', fX5_clear tO = some (r, tO') ∧ fX6_clear mO = some (r, mO') ∧ (∃ T', TRel T' tO' tL mO' mt) ∧ mO' 5 = mO 5 ∧ mO' 9 = mO 9 := by
  obtain ⟨hT, h1, h11, hl⟩ := h
  unfold fX5_clear fX6_clear
  rw [bnd_e, bnd_e, h1, h11]
  exact ⟨_, _, _, rfl, rfl, ⟨0, by omega, rfl, rfl, fun k hk => by omega⟩, rfl, rfl⟩
/-! seen -/
def SRel (Q : Nat) (fO fi fj ft mO si sj st : Nat → Int32) : Prop := Q ≤ 4 ∧ fO 3 = nI Q ∧ mO 9 = nI Q ∧ ∀ k, k < Q → fi k = si k ∧ fj k = sj k ∧ ft k = st k ∧ imgB (si k) (sj k) = true
theorem a_forget {Q : Nat} {fO fi fj ft mO si sj st : Nat → Int32} (h : SRel Q fO fi fj ft mO si sj st) :
    ∃ r fO' mO', fX5_forget fO = some (r, fO') ∧ fX6_forget mO = some (r, mO') ∧ (∃ Q', SRel Q' fO' fi fj ft mO' si sj st) ∧ mO' 5 = mO 5 ∧ mO' 11 = mO 11 := by
  obtain ⟨hT, h1, h11, hl⟩ := h
  unfold fX5_forget fX6_forget
  rw [bnd_e, bnd_e, h1, h11]
  exact ⟨_, _, _, rfl, rfl, ⟨0, by omega, rfl, rfl, fun k hk => by omega⟩, rfl, rfl⟩
theorem a_sees {Q : Nat} {fO fi fj ft mO si sj st : Nat → Int32} (h : SRel Q fO fi fj ft mO si sj st) (x y z : Int32) :
    ∃ r fO' fi' fj' ft' mO' si' sj' st', fX5_sees fO fi fj ft x y z = some (r, fO', fi', fj', ft') ∧ fX6_sees mO si sj st x y z = some (r, mO', si', sj', st') ∧ (∃ Q', SRel Q' fO' fi' fj' ft' mO' si' sj' st') ∧ mO' 5 = mO 5 ∧ mO' 11 = mO 11 := by
  have h' := h
  obtain ⟨hT, h1, h9, hl⟩ := h'
  unfold fX5_sees fX6_sees
  rw [e5_img, e6_img, Option.bind_some, Option.bind_some, b2_if, b2_if, e5_within, e6_in, Option.bind_some, Option.bind_some, b2_if, b2_if]
  cases hx : imgB x y with
  | false => exact ⟨_, _, _, _, _, _, _, _, _, rfl, rfl, ⟨Q, h⟩, rfl, rfl⟩
  | true =>
  simp only [if_true]
  cases hz : inB z 0 9999 with
  | false => exact ⟨_, _, _, _, _, _, _, _, _, rfl, rfl, ⟨Q, h⟩, rfl, rfl⟩
  | true =>
  simp only [if_true]
  unfold fX1_addSeen
  rw [h1, h9]
  rcases Nat.lt_or_ge Q 4 with hlt | hge
  · have ok : okI (nI Q) 4 := okI_nI hlt (by decide)
    rw [if_pos (show nI Q < 4 by rw [fa_lt, nI_toInt (by omega), show (4 : Int32).toInt = 4 from rfl]; omega), if_neg (show ¬ nI Q = 4 by rw [fa_eq, nI_toInt (by omega), show (4 : Int32).toInt = 4 from rfl]; omega), if_pos ok, if_pos ok, if_pos ok, if_pos ok, if_pos ok, if_pos ok, Option.bind_some, if_neg (show ¬ (1 : Int32) = 0 by decide), cl_nI (by omega), nI_1]
    refine ⟨_, _, _, _, _, _, _, _, _, rfl, rfl, ⟨Q + 1, by omega, rfl, rfl, fun k hk => ?_⟩, rfl, rfl⟩
    dsimp only
    rcases Nat.lt_or_ge k Q with hkt | hkt
    · have e : k ≠ Q := by omega
      rw [upd_ne e, upd_ne e, upd_ne e, upd_ne e, upd_ne e, upd_ne e]; exact hl k hkt
    · rw [show k = Q by omega, upd_self, upd_self, upd_self, upd_self, upd_self, upd_self]; exact ⟨rfl, rfl, rfl, hx⟩
  · have e : Q = 4 := by omega
    subst e
    rw [if_neg (show ¬ nI 4 < 4 by decide), if_pos (show nI 4 = 4 by decide), Option.bind_some, if_pos (show (0 : Int32) = 0 from rfl)]
    exact ⟨_, _, _, _, _, _, _, _, _, rfl, rfl, ⟨4, h⟩, rfl, rfl⟩
/-! what only reads -/
section READS
variable {nS nC : Nat} {cN sw sX sY cX cF cT s mO c1 : Nat → Int32}
theorem a_wall (h : RRel nS nC cN sw sX sY cX cF cT s) (x : Int32) : ∃ r, fX5_wall cN sw x = some r ∧ fX6_wall mO s x = some r := by
  obtain ⟨-, -, -, hsw, -⟩ := h
  unfold fX5_wall fX6_wall
  rw [e5_within, e6_in, Option.bind_some, Option.bind_some, b2_if, b2_if]
  cases hx : inB x 0 3 with
  | false => exact ⟨_, rfl, rfl⟩
  | true =>
    simp only [if_true]
    obtain ⟨k, hk, rfl⟩ := inN (n := 3) rfl hx
    have e4 : (4 : Int32) + nI k = nI (4 + k) := nI_add 4 k
    rw [e4, if_pos (okI_nI (show k < 4 by omega) (by decide)), if_pos (okI_nI (show 4 + k < 27 by omega) (by decide)), cl_nI (by omega), cl_nI (by omega), hsw k hk]
    exact ⟨_, rfl, rfl⟩
theorem a_seat (h : RRel nS nC cN sw sX sY cX cF cT s) (x w : Int32) : ∃ r, fX5_seat cN sX sY x w = some r ∧ fX6_seat mO s x w = some r := by
  obtain ⟨hS4, hC3, ⟨q0, q1, q2, q3, q4, q5, q6, q7⟩, hsw, hse, -⟩ := h
  unfold fX5_seat fX6_seat
  rw [e3_seat hS4 q4, e6_seat hS4 q5, Option.bind_some, Option.bind_some, b2_if, b2_if, e5_within, e6_in, Option.bind_some, Option.bind_some, b2_if, b2_if]
  cases hs : seatB nS x with
  | false => exact ⟨_, rfl, rfl⟩
  | true =>
  obtain ⟨k, hk, rfl⟩ := seatB_ex hs
  simp only [if_true]
  cases hx : inB w 0 1 with
  | false => exact ⟨_, rfl, rfl⟩
  | true =>
    simp only [if_true]
    have e9 : (9 : Int32) + nI k = nI (9 + k) := nI_add 9 k
    have e13 : (13 : Int32) + nI k = nI (13 + k) := nI_add 13 k
    have ok : okI (nI k) 4 := okI_nI (by omega) (by decide)
    rw [e9, e13, if_pos ok, if_pos ok, if_pos (okI_nI (show 9 + k < 27 by omega) (by decide)), if_pos (okI_nI (show 13 + k < 27 by omega) (by decide)), cl_nI (by omega), cl_nI (by omega), cl_nI (by omega), (hse k hk).1, (hse k hk).2]
    rcases in01 hx with rfl | rfl <;> exact ⟨_, rfl, rfl⟩
theorem in02 {w : Int32} (h : inB w 0 2 = true) : w = 0 ∨ w = 1 ∨ w = 2 := by
  have hw := of_decide_eq_true h
  rw [show (0 : Int32).toInt = 0 from rfl, show (2 : Int32).toInt = 2 from rfl] at hw
  rw [fa_eq, fa_eq, fa_eq, show (0 : Int32).toInt = 0 from rfl, show (1 : Int32).toInt = 1 from rfl, show (2 : Int32).toInt = 2 from rfl]; omega
theorem in03 {w : Int32} (h : inB w 0 3 = true) : w = 0 ∨ w = 1 ∨ w = 2 ∨ w = 3 := by
  have hw := of_decide_eq_true h
  rw [show (0 : Int32).toInt = 0 from rfl, show (3 : Int32).toInt = 3 from rfl] at hw
  rw [fa_eq, fa_eq, fa_eq, fa_eq, show (0 : Int32).toInt = 0 from rfl, show (1 : Int32).toInt = 1 from rfl, show (2 : Int32).toInt = 2 from rfl, show (3 : Int32).toInt = 3 from rfl]; omega
theorem a_curtain (h : RRel nS nC cN sw sX sY cX cF cT s) (x w : Int32) : ∃ r, fX5_curtain cN cT cF cX x w = some r ∧ fX6_curtain mO s x w = some r := by
  obtain ⟨hS4, hC3, ⟨q0, q1, q2, q3, q4, q5, q6, q7⟩, hsw, hse, hcu, -⟩ := h
  unfold fX5_curtain fX6_curtain
  rw [e3_cur hC3 q6, e6_cur hC3 q7, Option.bind_some, Option.bind_some, b2_if, b2_if, e6_in, Option.bind_some, b2_if]
  cases hs : seatB nC x with
  | false => exact ⟨_, rfl, rfl⟩
  | true =>
  obtain ⟨k, hk, rfl⟩ := seatB_ex hs
  simp only [if_true]
  have ok : okI (nI k) 3 := okI_nI (by omega) (by decide)
  rw [if_pos ok, if_pos ok, if_pos ok, cl_nI (by omega), (hcu k hk).1, (hcu k hk).2.1, (hcu k hk).2.2]
  cases hx : inB w 0 2 with
  | false =>
    have hw := of_decide_eq_false hx
    rw [show (0 : Int32).toInt = 0 from rfl, show (2 : Int32).toInt = 2 from rfl] at hw
    rw [if_neg (show ¬ w = 0 from fun e => by subst e; exact hw ⟨by decide, by decide⟩), if_neg (show ¬ w = 1 from fun e => by subst e; exact hw ⟨by decide, by decide⟩), if_neg (show ¬ w = 2 from fun e => by subst e; exact hw ⟨by decide, by decide⟩)]
    exact ⟨_, rfl, rfl⟩
  | true =>
    simp only [if_true]
    rcases in02 hx with rfl | rfl | rfl
    · have e : (18 : Int32) + 3 * 0 + nI k = nI (18 + k) := nI_add 18 k
      rw [e, if_pos (okI_nI (show 18 + k < 27 by omega) (by decide)), cl_nI (by omega)]
      exact ⟨_, rfl, rfl⟩
    · have e : (18 : Int32) + 3 * 1 + nI k = nI (21 + k) := nI_add 21 k
      rw [e, if_pos (okI_nI (show 21 + k < 27 by omega) (by decide)), cl_nI (by omega)]
      exact ⟨_, rfl, rfl⟩
    · have e : (18 : Int32) + 3 * 2 + nI k = nI (24 + k) := nI_add 24 k
      rw [e, if_pos (okI_nI (show 24 + k < 27 by omega) (by decide)), cl_nI (by omega)]
      exact ⟨_, rfl, rfl⟩
theorem soft_eq (hsw : ∀ w, w < 4 → sw w = s (4 + w)) {i j : Int32} (hi : imgB i j = true) : ∃ r, fX3_softPasses cN sw i j = some r ∧ fX6_softTimes mO s i j = some r := by
  have hw4 : ∀ w, w < 4 → nI w = 0 ∨ nI w = 1 ∨ nI w = 2 ∨ nI w = 3 := by
    intro w hw
    have : w = 0 ∨ w = 1 ∨ w = 2 ∨ w = 3 := by omega
    rcases this with rfl | rfl | rfl | rfl
    · exact Or.inl rfl
    · exact Or.inr (Or.inl rfl)
    · exact Or.inr (Or.inr (Or.inl rfl))
    · exact Or.inr (Or.inr (Or.inr rfl))
  refine ⟨smL (fun w => if s (4 + w) ≤ 0 then 0 else tm (nI w) i j) 4, ?_, ?_⟩
  · unfold fX3_softPasses
    refine LPX_det (F := fun w => (smL (fun w => if s (4 + w) ≤ 0 then 0 else tm (nI w) i j) w, nI w)) 4 (fun w hw k => ?_) (fun k => ?_) (FU_lt (by decide))
    · simp only [fX3_softPasses_L5]
      rw [if_neg (show ¬ (3 : Int32) < nI w by rw [fa_lt, nI_toInt (by omega), show (3 : Int32).toInt = 3 from rfl]; omega), if_pos (okI_nI (show w < 4 by omega) (by decide)), cl_nI (by omega), hsw w hw, (tm_ok (hw4 w hw) hi).1, Option.bind_some, bnd_e, nI_1]
      show _ = k (smL _ w + (if s (4 + w) ≤ 0 then 0 else tm (nI w) i j), _)
      by_cases c : s (4 + w) ≤ 0
      · rw [if_pos c, if_pos c, addz]
      · rw [if_neg c, if_neg c]
    · simp only [fX3_softPasses_L5]
      rw [if_pos (show (3 : Int32) < nI 4 by decide)]
  · unfold fX6_softTimes
    refine LPX_det (F := fun w => (smL (fun w => if s (4 + w) ≤ 0 then 0 else tm (nI w) i j) w, nI w)) 4 (fun w hw k => ?_) (fun k => ?_) (FU_lt (by decide))
    · simp only [fX6_softTimes_L5]
      have e4 : (4 : Int32) + nI w = nI (4 + w) := nI_add 4 w
      rw [if_neg (show ¬ (4 : Int32) ≤ nI w by rw [fa_le, nI_toInt (by omega), show (4 : Int32).toInt = 4 from rfl]; omega), e4, if_pos (okI_nI (show 4 + w < 27 by omega) (by decide)), cl_nI (by omega), (tm_ok (hw4 w hw) hi).2.1, Option.bind_some, bnd_e, bnd_e, nI_1]
      show _ = k (smL _ w + (if s (4 + w) ≤ 0 then 0 else tm (nI w) i j), _)
      by_cases c : s (4 + w) ≤ 0
      · rw [if_pos c, if_pos c]
      · rw [if_neg c, if_neg c]
    · simp only [fX6_softTimes_L5]
      rw [if_pos (show (4 : Int32) ≤ nI 4 by decide)]
theorem size_abs {i : Int32} (h : I3 i) : fX6_size i = some (if 0 ≤ i then i else 0 - i) := by
  unfold fX6_size
  rcases sm3 h.1 h.2 with e | e | e | e | e | e | e <;> subst e <;> rfl
theorem no3 {w : Int32} (h : inB w 0 3 = false) : ¬ w = 0 ∧ ¬ w = 1 ∧ ¬ w = 2 ∧ ¬ w = 3 := by
  have hw := of_decide_eq_false h
  refine ⟨fun e => ?_, fun e => ?_, fun e => ?_, fun e => ?_⟩ <;> subst e <;> exact hw ⟨by decide, by decide⟩
theorem a_mirror (h : RRel nS nC cN sw sX sY cX cF cT s) (x y w : Int32) : ∃ r, fX5_mirror cN sw x y w = some r ∧ fX6_mirror mO s x y w = some r := by
  obtain ⟨hS4, hC3, ⟨q0, q1, q2, q3, q4, q5, q6, q7⟩, hsw, -⟩ := h
  unfold fX5_mirror fX6_mirror
  rw [e5_img, e6_img, Option.bind_some, Option.bind_some, b2_if, b2_if, e6_in, Option.bind_some, b2_if]
  cases hi : imgB x y with
  | false => exact ⟨_, rfl, rfl⟩
  | true =>
  simp only [if_true]
  obtain ⟨i3, j3⟩ := imgB_3 hi
  obtain ⟨r, hr1, hr2⟩ := soft_eq (cN := cN) (mO := mO) hsw hi
  unfold fX3_imageX fX3_imageY
  rw [e5_mir, e5_mir, Option.bind_some, Option.bind_some, Option.bind_some, Option.bind_some, hr1, hr2, size_abs i3, size_abs j3, e6_mir _ _ (by have := i3.1; omega) (by have := i3.2; omega), e6_mir _ _ (by have := j3.1; omega) (by have := j3.2; omega), q0, q1, q2, q3]
  simp only [Option.bind_some]
  cases hx : inB w 0 3 with
  | false =>
    obtain ⟨n0, n1, n2, n3⟩ := no3 hx
    rw [if_neg n0, if_neg n1, if_neg n2, if_neg n3]
    exact ⟨_, rfl, rfl⟩
  | true =>
    simp only [if_true]
    rcases in03 hx with rfl | rfl | rfl | rfl <;> exact ⟨_, rfl, rfl⟩
theorem a_path (h : RRel nS nC cN sw sX sY cX cF cT s) (x i j w : Int32) : ∃ r b, fX5_path cN sX sY cX cF cT sw x i j w = some r ∧ fX6_path mO s c1 x i j w = some (r, b) := by
  have h' := h
  obtain ⟨hS4, hC3, ⟨q0, q1, q2, q3, q4, q5, q6, q7⟩, hsw, hse, hcu, hR, hw10, hP, hC⟩ := h'
  unfold fX5_path fX6_path
  rw [e3_seat hS4 q4, e6_seat hS4 q5, Option.bind_some, Option.bind_some, b2_if, b2_if, e5_img, e6_img, Option.bind_some, Option.bind_some, b2_if, b2_if, e6_in, Option.bind_some, b2_if]
  cases hs : seatB nS x with
  | false => exact ⟨_, _, rfl, rfl⟩
  | true =>
  obtain ⟨k, hk, rfl⟩ := seatB_ex hs
  simp only [if_true]
  cases hi : imgB i j with
  | false => exact ⟨_, _, rfl, rfl⟩
  | true =>
  simp only [if_true]
  obtain ⟨i3, j3⟩ := imgB_3 hi
  have e9 : (9 : Int32) + nI k = nI (9 + k) := nI_add 9 k
  have e13 : (13 : Int32) + nI k = nI (13 + k) := nI_add 13 k
  have ok : okI (nI k) 4 := okI_nI (by omega) (by decide)
  have hw := waF_rng h hk hi
  have ht := tim_ok hw.1 hw.2
  have ok9 : okI (nI (9 + k)) 27 := okI_nI (by omega) (by decide)
  have ok13 : okI (nI (13 + k)) 27 := okI_nI (by omega) (by decide)
  simp only [e9, e13, if_pos ok, if_pos ok9, if_pos ok13, bnd_e]
  rw [cl_nI (by omega), cl_nI (by omega), cl_nI (by omega), (hse k hk).1, (hse k hk).2, e3_way, e6_way _ _ _ _ i3 j3, q0, q1, q2, q3, Option.bind_some, Option.bind_some, e6_swNow, Option.bind_some]
  rw [e3_hid (nC := nC) (by rw [q0, q1, q2, q3]; exact hR) q6 hC3 (fun c hc => by rw [q0, q1, (hcu c hc).1, (hcu c hc).2.1, (hcu c hc).2.2]; exact hC c hc) (by rw [q0, q1]; exact hP k hk) i3 j3, q0, q1, q2, q3, hidB_cong hcu, e6_hid hR q7 hC3 hC (hP k hk) i3 j3]
  have e1 : wy (s 0) (s 1) (s 2) (s 3) i j (s (9 + k)) (s (13 + k)) = waF s k (i, j) := rfl
  rw [e1, ht.1, ht.2.1, e5_str sw hi hw.1 hw.2, e6_str _ _ hi hw.1 hw.2, str_congr (f := sw) (g := cpW (s4 s) c1 4) (fun w hw => by unfold cpW; rw [if_pos hw]; exact hsw w hw)]
  simp only [Option.bind_some]
  cases hx : inB w 0 3 with
  | false =>
    obtain ⟨n0, n1, n2, n3⟩ := no3 hx
    rw [if_neg n0, if_neg n1, if_neg n2, if_neg n3]
    exact ⟨_, _, rfl, rfl⟩
  | true =>
    simp only [if_true]
    rcases in03 hx with rfl | rfl | rfl | rfl
    · exact ⟨_, _, rfl, rfl⟩
    · exact ⟨_, _, rfl, rfl⟩
    · exact ⟨_, _, rfl, rfl⟩
    · rw [if_neg (show ¬ (3 : Int32) = 0 by decide), if_neg (show ¬ (3 : Int32) = 1 by decide), if_neg (show ¬ (3 : Int32) = 2 by decide), if_pos rfl, if_neg (show ¬ (3 : Int32) = 0 by decide), if_neg (show ¬ (3 : Int32) = 1 by decide), if_neg (show ¬ (3 : Int32) = 2 by decide), b2_if, b2_if]
      cases hidB (s 0) (s 1) (s 2) (s 3) (fun c => s (18 + c)) (fun c => s (21 + c)) (fun c => s (24 + c)) nC i j (s (9 + k)) (s (13 + k)) <;> exact ⟨_, _, rfl, rfl⟩
theorem a_count {pO tO fO : Nat → Int32} {K T Q : Nat} (h : RRel nS nC cN sw sX sY cX cF cT s) (h1 : pO 4 = nI K) (h2 : mO 5 = nI K) (h3 : tO 1 = nI T) (h4 : mO 11 = nI T) (h5 : fO 3 = nI Q) (h6 : mO 9 = nI Q) (x : Int32) : ∃ r, fX5_count pO tO fO cN x = some r ∧ fX6_count mO s x = some r := by
  obtain ⟨hS4, hC3, ⟨q0, q1, q2, q3, q4, q5, q6, q7⟩, -⟩ := h
  unfold fX5_count fX6_count
  rw [h1, h2, h3, h4, h5, h6, q0, q1, q2, q3, q4, q5, q6, q7]
  by_cases c0 : x = 0
  · subst c0; exact ⟨_, rfl, rfl⟩
  rw [if_neg c0, if_neg c0]
  by_cases c1 : x = 1
  · subst c1; exact ⟨_, rfl, rfl⟩
  rw [if_neg c1, if_neg c1]
  by_cases c2 : x = 2
  · subst c2; exact ⟨_, rfl, rfl⟩
  rw [if_neg c2, if_neg c2]
  by_cases c3 : x = 3
  · subst c3; exact ⟨_, rfl, rfl⟩
  rw [if_neg c3, if_neg c3]
  by_cases c4 : x = 4
  · subst c4; exact ⟨_, rfl, rfl⟩
  rw [if_neg c4]
  by_cases c5 : x = 5
  · subst c5; exact ⟨_, rfl, rfl⟩
  rw [if_neg c5]
  by_cases c6 : x = 6
  · subst c6; exact ⟨_, rfl, rfl⟩
  rw [if_neg c6]
  by_cases c7 : x = 7
  · subst c7; exact ⟨_, rfl, rfl⟩
  rw [if_neg c7]
  by_cases c8 : x = 8
  · subst c8; exact ⟨_, rfl, rfl⟩
  rw [if_neg c8]
  exact ⟨_, rfl, rfl⟩
end READS
