section ITEMC
variable {t b : Nat → Int32} {T N n nS nC : Nat} {mO pl kd vl d0 dsw dsX dsY dcX dcF dcT dr e : Nat → Int32}
theorem i_no {x : Int32} (h1 : e 1 = nI T) (h4 : e 4 = nI (sk t T (PS t T n))) (hn : n ≤ N) (hc : fX4_readItem e b d0 dsw dsX dsY dcX dcF dcT x = some (0, e, d0, dsw, dsX, dsY, dcX, dcF, dcT)) (hm : fX6_firstWrong mO kd dr vl (nI n) = some (nI n)) : ITEM t b T N n nS nC mO kd vl d0 dsw dsX dsY dcX dcF dcT dr e x :=
  Or.inl ⟨n, hn, hm, Or.inl ⟨e, d0, dsw, dsX, dsY, dcX, dcF, dcT, hc, h1, h4⟩⟩
theorem i_c (C : CX t b T N mO pl kd vl) (hn : n < N) (hr : RRel nS nC d0 dsw dsX dsY dcX dcF dcT dr) (h1 : e 1 = nI T) (h2 : e 2 = nI (PS t T (n + 1))) (h3 : e 3 = 99) (hm : mkF t T (PS t T n) = 99) (hS : nC < 3) (x : Int32) : ITEM t b T N n nS nC mO kd vl d0 dsw dsX dsY dcX dcF dcT dr e x := by
  have htok := m_tok C hn
  obtain ⟨hT, hag, hl, hN, h15, h11, hsN, hb⟩ := C
  have hr' := hr
  obtain ⟨hS4, hC3, ⟨q0, q1, q2, q3, q4, q5, q6, q7⟩, hsw, hse, hcu, hR, hw, hP, hC⟩ := hr'
  have hkd : kd n = 99 := (hb n hn).2.2.1.trans hm
  have hn' : (if kd n = 99 then n + 5 else n + 4) = n + 5 := by rw [hkd]; rfl
  have e1n : nI n + 1 = nI (n + 1) := nI_add n 1
  have e2n : nI n + 2 = nI (n + 2) := nI_add n 2
  have e3n : nI n + 3 = nI (n + 3) := nI_add n 3
  have e4n : nI n + 4 = nI (n + 4) := nI_add n 4
  have hfw : fX6_firstWrong mO kd dr vl (nI n) = (fX6_isNumber mO kd vl (nI (n + 1)) 1 (dr 0 - 1)).bind (fun r => if r = 0 then some (nI (n + 1)) else (fX6_isNumber mO kd vl (nI (n + 2)) 0 (dr 1)).bind (fun r => if r = 0 then some (nI (n + 2)) else (if okI (nI (n + 2)) 100 then (fX6_isNumber mO kd vl (nI (n + 3)) (vl (Int32.toNatClampNeg (nI (n + 2)))) (dr 1)).bind (fun r => if r = 0 then some (nI (n + 3)) else (fX6_isKind mO kd (nI (n + 4)) 59).bind (fun r => if r = 0 then some (nI (n + 4)) else some (-9))) else none))) := by
    have h17 : ¬ (3 : Int32) ≤ dr 17 := by rw [q7, fa_le, nI_toInt (by omega), show (3 : Int32).toInt = 3 from rfl]; omega
    rw [← e1n, ← e2n, ← e3n, ← e4n]
    unfold fX6_firstWrong
    rw [htok, Option.bind_some, hm]
    unfold fX6_firstWrong_j15 fX6_firstWrong_j55
    simp only [if_neg h17]
    split <;> rfl
  have okC : okI (nI nC) 3 := okI_nI hS (by decide)
  have cC : Int32.toNatClampNeg (nI nC) = nC := cl_nI (by omega)
  have hrd : fX4_readItem e b d0 dsw dsX dsY dcX dcF dcT x = ((fX4_readNumber e b 1 (dr 0 - 1)).bind (fun r2 => if r2.1 = 0 then some ((0 : Int32), d0, r2.2, dcX, dcF, dcT) else (fX4_readNumber r2.2 b 0 (dr 1)).bind (fun r5 => if r5.1 = 0 then some (0, d0, r5.2, upd dcX nC (r2.2 5), dcF, dcT) else (fX4_readNumber r5.2 b (r5.2 5) (dr 1)).bind (fun r8 => if r8.1 = 0 then some (0, d0, r8.2, upd dcX nC (r2.2 5), upd dcF nC (r5.2 5), dcT) else some (1, upd d0 5 (nI (nC + 1)), r8.2, upd dcX nC (r2.2 5), upd dcF nC (r5.2 5), upd dcT nC (r8.2 5)))))).bind (fun r3 => if r3.1 = 0 then some (0, r3.2.2.1, r3.2.1, dsw, dsX, dsY, r3.2.2.2.1, r3.2.2.2.2.1, r3.2.2.2.2.2) else some (1, r3.2.2.1, r3.2.1, dsw, dsX, dsY, r3.2.2.2.1, r3.2.2.2.2.1, r3.2.2.2.2.2)) := by
    unfold fX4_readItem fX4_readCurtain
    rw [h3, if_neg (show ¬ (3 : Int32) ≤ d0 5 by rw [q6, fa_le, nI_toInt (by omega), show (3 : Int32).toInt = 3 from rfl]; omega)]
    simp only [bnd_e, q0, q1, q6, if_pos okC, cC, nI_1]
    rfl
  obtain ⟨e1, a0, a1, a2, a4, a5⟩ := c_num (n := n + 1) hT hag hl h1 h2 1 (dr 0 - 1)
  obtain ⟨e2, b0, b1, b2', b4, b5⟩ := c_num (n := n + 2) hT hag hl a1 a2 0 (dr 1)
  obtain ⟨e3, g0, g1, g2, g4, g5⟩ := c_num (n := n + 3) hT hag hl b1 b2' (e2 5) (dr 1)
  obtain ⟨e4, f0, f1, f2, f4⟩ := c_end (n := n + 4) hT hag hl g1 g2
  rw [m_num hN hl h15 hsN hb (by omega), Option.bind_some, b2_if] at hfw
  cases hb1 : numB t T (n + 1) 1 (dr 0 - 1) with
  | false =>
    left
    have hx : ∃ d0' dsw' dsX' dsY' dcX' dcF' dcT', fX4_readItem e b d0 dsw dsX dsY dcX dcF dcT x = some (0, e1, d0', dsw', dsX', dsY', dcX', dcF', dcT') := by
      rw [hrd, a0, hb1]
      exact ⟨_, _, _, _, _, _, _, rfl⟩
    obtain ⟨d02, dsw2, dsX2, dsY2, dcX2, dcF2, dcT2, hx⟩ := hx
    exact ⟨n + 1, by omega, by rw [hfw, hb1]; rfl, Or.inl ⟨e1, d02, dsw2, dsX2, dsY2, dcX2, dcF2, dcT2, hx, a1, a4⟩⟩
  | true =>
  have p1 := num_lt hl hsN (by omega) hb1
  have v1 := num_v hl hb1
  have y1 := m_val hl hsN hb (by omega) hb1
  rw [hb1, if_pos rfl, m_num hN hl h15 hsN hb (by omega), Option.bind_some, b2_if] at hfw
  cases hb2 : numB t T (n + 2) 0 (dr 1) with
  | false =>
    left
    have hx : ∃ d0' dsw' dsX' dsY' dcX' dcF' dcT', fX4_readItem e b d0 dsw dsX dsY dcX dcF dcT x = some (0, e2, d0', dsw', dsX', dsY', dcX', dcF', dcT') := by
      rw [hrd, a0, hb1, Option.bind_some, if_neg (show ¬ b2 true = 0 by decide), b0, hb2]
      exact ⟨_, _, _, _, _, _, _, rfl⟩
    obtain ⟨d02, dsw2, dsX2, dsY2, dcX2, dcF2, dcT2, hx⟩ := hx
    exact ⟨n + 2, by omega, by rw [hfw, hb2]; rfl, Or.inl ⟨e2, d02, dsw2, dsX2, dsY2, dcX2, dcF2, dcT2, hx, b1, b4⟩⟩
  | true =>
  have p2 := num_lt hl hsN (by omega) hb2
  have v2 := num_v hl hb2
  have y2 := m_val hl hsN hb (by omega) hb2
  rw [hb2, if_pos rfl, if_pos (okI_nI (show n + 2 < 100 by omega) (by decide)), cl_nI (by omega), y2, ← b5 hb2, m_num hN hl h15 hsN hb (by omega), Option.bind_some, b2_if] at hfw
  cases hb3 : numB t T (n + 3) (e2 5) (dr 1) with
  | false =>
    left
    have hx : ∃ d0' dsw' dsX' dsY' dcX' dcF' dcT', fX4_readItem e b d0 dsw dsX dsY dcX dcF dcT x = some (0, e3, d0', dsw', dsX', dsY', dcX', dcF', dcT') := by
      rw [hrd, a0, hb1, Option.bind_some, if_neg (show ¬ b2 true = 0 by decide), b0, hb2, Option.bind_some, if_neg (show ¬ b2 true = 0 by decide), g0, hb3]
      exact ⟨_, _, _, _, _, _, _, rfl⟩
    obtain ⟨d02, dsw2, dsX2, dsY2, dcX2, dcF2, dcT2, hx⟩ := hx
    exact ⟨n + 3, by omega, by rw [hfw, hb3]; rfl, Or.inl ⟨e3, d02, dsw2, dsX2, dsY2, dcX2, dcF2, dcT2, hx, g1, g4⟩⟩
  | true =>
  have p3 := num_lt hl hsN (by omega) hb3
  have v3 := num_v hl hb3
  have y3 := m_val hl hsN hb (by omega) hb3
  rw [hb3, if_pos rfl, m_kind hN h15 hsN hb (by omega) (by decide), Option.bind_some, b2_if] at hfw
  have hrd' : fX4_readItem e b d0 dsw dsX dsY dcX dcF dcT x = some (1, e3, upd d0 5 (nI (nC + 1)), dsw, dsX, dsY, upd dcX nC (nI (vlF t T (PS t T (n + 1)))), upd dcF nC (nI (vlF t T (PS t T (n + 2)))), upd dcT nC (nI (vlF t T (PS t T (n + 3))))) := by
    rw [hrd, a0, hb1, Option.bind_some, if_neg (show ¬ b2 true = 0 by decide), b0, hb2, Option.bind_some, if_neg (show ¬ b2 true = 0 by decide), g0, hb3, Option.bind_some, if_neg (show ¬ b2 true = 0 by decide)]
    dsimp only
    rw [a5 hb1, b5 hb2, g5 hb3]
    rfl
  have hrel : RRel nS (nC + 1) (upd d0 5 (nI (nC + 1))) dsw dsX dsY (upd dcX nC (nI (vlF t T (PS t T (n + 1))))) (upd dcF nC (nI (vlF t T (PS t T (n + 2))))) (upd dcT nC (nI (vlF t T (PS t T (n + 3))))) (upd (upd (upd (upd dr (18 + nC) (nI (vlF t T (PS t T (n + 1))))) (21 + nC) (nI (vlF t T (PS t T (n + 2))))) (24 + nC) (nI (vlF t T (PS t T (n + 3))))) 17 (nI (nC + 1))) := by
    have u1 := v1.2
    have u2 := v2.2
    have u3 := v3.2
    obtain ⟨r1, r2, r3, r4, -⟩ := hR
    rw [show (1 : Int32).toInt = 1 from rfl, fb_subI (by rw [show (1 : Int32).toInt = 1 from rfl]; omega) (by rw [show (1 : Int32).toInt = 1 from rfl]; omega), show (1 : Int32).toInt = 1 from rfl] at u1
    rw [show (0 : Int32).toInt = 0 from rfl] at u2
    rw [b5 hb2] at u3
    exact rr_newc hr hS ⟨u1.1, by omega, u2.1, u3.1, u3.2⟩
  have hlay : fX6_lay mO vl kd dr (nI n) = some (upd (upd (upd (upd dr (18 + nC) (nI (vlF t T (PS t T (n + 1))))) (21 + nC) (nI (vlF t T (PS t T (n + 2))))) (24 + nC) (nI (vlF t T (PS t T (n + 3))))) 17 (nI (nC + 1))) := by
    have ok0 : okI (nI n) 100 := okI_nI (by omega) (by decide)
    have ok1 : okI (nI (n + 1)) 100 := okI_nI (by omega) (by decide)
    have ok2 : okI (nI (n + 2)) 100 := okI_nI (by omega) (by decide)
    have ok3 : okI (nI (n + 3)) 100 := okI_nI (by omega) (by decide)
    have c0 : Int32.toNatClampNeg (nI n) = n := cl_nI (by omega)
    have c1 : Int32.toNatClampNeg (nI (n + 1)) = n + 1 := cl_nI (by omega)
    have c2 : Int32.toNatClampNeg (nI (n + 2)) = n + 2 := cl_nI (by omega)
    have c3 : Int32.toNatClampNeg (nI (n + 3)) = n + 3 := cl_nI (by omega)
    have e18 : (18 : Int32) + nI nC = nI (18 + nC) := nI_add 18 _
    have e21 : (21 : Int32) + nI nC = nI (21 + nC) := nI_add 21 _
    have e24 : (24 : Int32) + nI nC = nI (24 + nC) := nI_add 24 _
    have ok18 : okI (nI (18 + nC)) 27 := okI_nI (by omega) (by decide)
    have ok21 : okI (nI (21 + nC)) 27 := okI_nI (by omega) (by decide)
    have ok24 : okI (nI (24 + nC)) 27 := okI_nI (by omega) (by decide)
    have c18 : Int32.toNatClampNeg (nI (18 + nC)) = 18 + nC := cl_nI (by omega)
    have c21 : Int32.toNatClampNeg (nI (21 + nC)) = 21 + nC := cl_nI (by omega)
    have c24 : Int32.toNatClampNeg (nI (24 + nC)) = 24 + nC := cl_nI (by omega)
    have k1 : ∀ v, upd dr (18 + nC) v 17 = nI nC := fun v => (upd_ne (by omega)).trans q7
    have k2 : ∀ v w, upd (upd dr (18 + nC) v) (21 + nC) w 17 = nI nC := fun v w => (upd_ne (by omega)).trans (k1 v)
    have k3 : ∀ v w z, upd (upd (upd dr (18 + nC) v) (21 + nC) w) (24 + nC) z 17 = nI nC := fun v w z => (upd_ne (by omega)).trans (k2 v w)
    have hj : fX6_lay_j160 mO vl kd (nI n) (nI (vlF t T (PS t T (n + 1)))) (nI (vlF t T (PS t T (n + 2)))) dr = some (upd (upd (upd (upd dr (18 + nC) (nI (vlF t T (PS t T (n + 1))))) (21 + nC) (nI (vlF t T (PS t T (n + 2))))) (24 + nC) (nI (vlF t T (PS t T (n + 3))))) 17 (nI (nC + 1))) := by
      unfold fX6_lay_j160
      simp only [q7, e18, if_pos ok18, c18, k1, e21, if_pos ok21, c21, k2, e24, if_pos ok24, c24, k3, e3n, if_pos ok3, c3, y3, nI_1]
    rw [← hj]
    unfold fX6_lay
    simp only [e1n, e2n, if_pos ok0, if_pos ok1, if_pos ok2, c0, c1, c2, bnd_e, hkd, y1, y2]
    rfl
  cases hb4 : endB t T (n + 4) with
  | false =>
    left
    exact ⟨n + 4, by omega, by rw [hfw]; unfold endB at hb4; rw [hb4]; rfl, Or.inr ⟨e3, _, _, _, _, _, _, _, e4, hrd', by rw [f0, hb4]; rfl, f1, f4⟩⟩
  | true =>
    right
    have p4 := end_lt hsN (by omega) hb4
    exact ⟨n + 5, nS, nC + 1, e3, _, _, _, _, _, _, _, e4, _, hrd', by rw [f0, hb4]; rfl, f1, f2, by rw [hfw]; unfold endB at hb4; rw [hb4]; rfl, hlay, hrel, by omega, hn'.symm⟩
theorem item_all (C : CX t b T N mO pl kd vl) (hn : n < N) (hr : RRel nS nC d0 dsw dsX dsY dcX dcF dcT dr) (h1 : e 1 = nI T) (h2 : e 2 = nI (PS t T (n + 1))) (h4 : e 4 = nI (sk t T (PS t T n))) (h3 : e 3 = ckF t T (PS t T n)) {x : Int32} (hx0 : x = 0 ↔ n = 0) (hf : n = 0 → nS = 0 ∧ nC = 0 ∧ dr 2 = 1 ∧ dr 3 = 1) : ITEM t b T N n nS nC mO kd vl d0 dsw dsX dsY dcX dcF dcT dr e x := by
  have hst := C.2.2.2.2.2.2.2 n hn
  have hr' := hr
  obtain ⟨hS4, hC3, ⟨q0, q1, q2, q3, q4, q5, q6, q7⟩, -⟩ := hr'
  have htok := m_tok C hn
  by_cases k1 : ckF t T (PS t T n) = 99
  · have hm := (mk_ck hst.1 (c := 99) (by decide)).mpr k1
    rw [k1] at h3
    rcases Nat.lt_or_ge nC 3 with hS | hS
    · exact i_c C hn hr h1 h2 h3 hm hS x
    · refine i_no h1 h4 (by omega) ?_ ?_
      · unfold fX4_readItem
        rw [h3, if_pos (rfl : (99 : Int32) = 99), if_pos (show (3 : Int32) ≤ d0 5 by rw [q6, fa_le, nI_toInt (by omega), show (3 : Int32).toInt = 3 from rfl]; omega)]
      · have h17 : (3 : Int32) ≤ dr 17 := by rw [q7, fa_le, nI_toInt (by omega), show (3 : Int32).toInt = 3 from rfl]; omega
        unfold fX6_firstWrong
        rw [htok, Option.bind_some, hm]
        unfold fX6_firstWrong_j15 fX6_firstWrong_j55
        simp only [if_pos h17]
        split <;> rfl
  by_cases k2 : ckF t T (PS t T n) = 113
  · have hm := (mk_ck hst.1 (c := 113) (by decide)).mpr k2
    rw [k2] at h3
    exact i_q C hn hr h1 h2 h4 h3 hm x
  by_cases k3 : ckF t T (PS t T n) = 114
  · have hm := (mk_ck hst.1 (c := 114) (by decide)).mpr k3
    rw [k3] at h3
    by_cases hz : n = 0
    · have hx := hx0.mpr hz
      obtain ⟨g1, g2, g3, g4⟩ := hf hz
      subst hz
      subst g1
      subst g2
      subst hx
      exact i_r C hn hr h1 h2 h4 h3 hm g3 g4
    · refine i_no h1 h4 (by omega) ?_ ?_
      · unfold fX4_readItem
        rw [h3, if_neg (show ¬ (114 : Int32) = 99 by decide), if_neg (show ¬ (114 : Int32) = 113 by decide), if_pos (rfl : (114 : Int32) = 114), if_neg (fun h => hz (hx0.mp h))]
      · unfold fX6_firstWrong
        rw [htok, Option.bind_some, hm, if_neg (show ¬ nI n = 0 by rw [nIz (by have := C.2.2.2.1; omega)]; exact hz)]
        rfl
  by_cases k4 : ckF t T (PS t T n) = 115
  · have hm := (mk_ck hst.1 (c := 115) (by decide)).mpr k4
    rw [k4] at h3
    rcases Nat.lt_or_ge nS 4 with hS | hS
    · exact i_s C hn hr h1 h2 h4 h3 hm hS x
    · refine i_no h1 h4 (by omega) ?_ ?_
      · unfold fX4_readItem
        rw [h3, if_neg (show ¬ (115 : Int32) = 99 by decide), if_neg (show ¬ (115 : Int32) = 113 by decide), if_neg (show ¬ (115 : Int32) = 114 by decide), if_pos (rfl : (115 : Int32) = 115), if_pos (show (4 : Int32) ≤ d0 4 by rw [q4, fa_le, nI_toInt (by omega), show (4 : Int32).toInt = 4 from rfl]; omega)]
      · have h8 : ¬ dr 8 < 4 := by rw [q5, fa_lt, nI_toInt (by omega), show (4 : Int32).toInt = 4 from rfl]; omega
        unfold fX6_firstWrong
        rw [htok, Option.bind_some, hm]
        unfold fX6_firstWrong_j15
        simp only [if_neg h8]
        split <;> rfl
  by_cases k5 : ckF t T (PS t T n) = 119
  · have hm := (mk_ck hst.1 (c := 119) (by decide)).mpr k5
    rw [k5] at h3
    exact i_w C hn hr h1 h2 h4 h3 hm x
  exact i_else C hn h1 h4 h3 k1 k2 k3 k4 k5 x
end ITEMC
