/-! one item of the text -/
def CX (t b : Nat → Int32) (T N : Nat) (mO pl kd vl : Nat → Int32) : Prop := T ≤ 100 ∧ (∀ k, k < T → b k = t k) ∧ (∀ k, k < T → 0 ≤ (t k).toInt ∧ (t k).toInt ≤ 255) ∧ N ≤ 100 ∧ mO 15 = nI N ∧ mO 11 = nI T ∧ ¬ sk t T (PS t T N) < T ∧ TB t T N pl kd vl
def FW2 (mO kd vl : Nat → Int32) (v lo1 hi1 lo2 hi2 : Int32) : Option Int32 := (fX6_isNumber mO kd vl (v + 1) lo1 hi1).bind (fun r => if r = 0 then some (v + 1) else (fX6_isNumber mO kd vl (v + 2) lo2 hi2).bind (fun r => if r = 0 then some (v + 2) else (fX6_isKind mO kd (v + 3) 59).bind (fun r => if r = 0 then some (v + 3) else some (-9))))
section ITEMS
variable {t b : Nat → Int32} {T N n nS nC : Nat} {mO pl kd vl d0 dsw dsX dsY dcX dcF dcT dr e : Nat → Int32}
theorem fw2_ev (C : CX t b T N mO pl kd vl) (hn : n < N) (lo1 hi1 lo2 hi2 : Int32) : FW2 mO kd vl (nI n) lo1 hi1 lo2 hi2 = some (if numB t T (n + 1) lo1 hi1 then (if numB t T (n + 2) lo2 hi2 then (if endB t T (n + 3) then -9 else nI (n + 3)) else nI (n + 2)) else nI (n + 1)) := by
  obtain ⟨hT, hag, hl, hN, h15, h11, hsN, hb⟩ := C
  unfold FW2
  have e1 : nI n + 1 = nI (n + 1) := nI_add n 1
  have e2 : nI n + 2 = nI (n + 2) := nI_add n 2
  have e3 : nI n + 3 = nI (n + 3) := nI_add n 3
  rw [e1, e2, e3, m_num hN hl h15 hsN hb (by omega), Option.bind_some, b2_if]
  cases h1 : numB t T (n + 1) lo1 hi1 with
  | false => rfl
  | true =>
    have q1 := num_lt hl hsN (by omega) h1
    simp only [if_true]
    rw [m_num hN hl h15 hsN hb (by omega), Option.bind_some, b2_if]
    cases h2 : numB t T (n + 2) lo2 hi2 with
    | false => rfl
    | true =>
      have q2 := num_lt hl hsN (by omega) h2
      simp only [if_true]
      rw [m_kind hN h15 hsN hb (by omega) (by decide), Option.bind_some, b2_if]
      unfold endB
      cases decide (ckF t T (PS t T (n + 3)) = 59) <;> rfl
theorem m_tok (C : CX t b T N mO pl kd vl) (hn : n < N) : fX6_token mO kd (nI n) = some (mkF t T (PS t T n)) := by
  obtain ⟨hT, hag, hl, hN, h15, h11, hsN, hb⟩ := C
  unfold fX6_token
  rw [h15, if_neg (show ¬ nI N ≤ nI n by rw [fa_le, nI_toInt (by omega), nI_toInt (by omega)]; omega), if_pos (okI_nI (show n < 100 by omega) (by decide)), cl_nI (by omega), (hb n hn).2.2.1]
def ITEM (t b : Nat → Int32) (T N n nS nC : Nat) (mO kd vl d0 dsw dsX dsY dcX dcF dcT dr e : Nat → Int32) (x : Int32) : Prop :=
  (∃ j, j ≤ N ∧ fX6_firstWrong mO kd dr vl (nI n) = some (nI j) ∧ ((∃ e' d0' dsw' dsX' dsY' dcX' dcF' dcT', fX4_readItem e b d0 dsw dsX dsY dcX dcF dcT x = some (0, e', d0', dsw', dsX', dsY', dcX', dcF', dcT') ∧ e' 1 = nI T ∧ e' 4 = nI (sk t T (PS t T j))) ∨ (∃ e' d0' dsw' dsX' dsY' dcX' dcF' dcT' e'', fX4_readItem e b d0 dsw dsX dsY dcX dcF dcT x = some (1, e', d0', dsw', dsX', dsY', dcX', dcF', dcT') ∧ fX4_readEnd e' b = some (0, e'') ∧ e'' 1 = nI T ∧ e'' 4 = nI (sk t T (PS t T j))))) ∨ (∃ n' nS' nC' e' d0' dsw' dsX' dsY' dcX' dcF' dcT' e'' dr', fX4_readItem e b d0 dsw dsX dsY dcX dcF dcT x = some (1, e', d0', dsw', dsX', dsY', dcX', dcF', dcT') ∧ fX4_readEnd e' b = some (1, e'') ∧ e'' 1 = nI T ∧ e'' 2 = nI (PS t T n') ∧ fX6_firstWrong mO kd dr vl (nI n) = some (-9) ∧ fX6_lay mO vl kd dr (nI n) = some dr' ∧ RRel nS' nC' d0' dsw' dsX' dsY' dcX' dcF' dcT' dr' ∧ n' ≤ N ∧ n' = (if kd n = 99 then n + 5 else n + 4))
theorem i_else (C : CX t b T N mO pl kd vl) (hn : n < N) (h1 : e 1 = nI T) (h4 : e 4 = nI (sk t T (PS t T n))) (h3 : e 3 = ckF t T (PS t T n)) (a1 : ¬ ckF t T (PS t T n) = 99) (a2 : ¬ ckF t T (PS t T n) = 113) (a3 : ¬ ckF t T (PS t T n) = 114) (a4 : ¬ ckF t T (PS t T n) = 115) (a5 : ¬ ckF t T (PS t T n) = 119) (x : Int32) : ITEM t b T N n nS nC mO kd vl d0 dsw dsX dsY dcX dcF dcT dr e x := by
  have hst := C.2.2.2.2.2.2.2 n hn
  have m1 : ¬ mkF t T (PS t T n) = 99 := fun h => a1 ((mk_ck hst.1 (by decide)).mp h)
  have m2 : ¬ mkF t T (PS t T n) = 113 := fun h => a2 ((mk_ck hst.1 (by decide)).mp h)
  have m3 : ¬ mkF t T (PS t T n) = 114 := fun h => a3 ((mk_ck hst.1 (by decide)).mp h)
  have m4 : ¬ mkF t T (PS t T n) = 115 := fun h => a4 ((mk_ck hst.1 (by decide)).mp h)
  have m5 : ¬ mkF t T (PS t T n) = 119 := fun h => a5 ((mk_ck hst.1 (by decide)).mp h)
  left
  refine ⟨n, by omega, ?_, Or.inl ⟨e, d0, dsw, dsX, dsY, dcX, dcF, dcT, ?_, h1, h4⟩⟩
  · unfold fX6_firstWrong
    rw [m_tok C hn, Option.bind_some]
    simp only [fX6_firstWrong_j15, fX6_firstWrong_j55, if_neg m1, if_neg m2, if_neg m3, if_neg m4, if_neg m5]
    unfold fX6_firstWrong_j77
    simp only [if_true]
    split <;> rfl
  · unfold fX4_readItem
    rw [h3, if_neg a1, if_neg a2, if_neg a3, if_neg a4, if_neg a5]
theorem i_q (C : CX t b T N mO pl kd vl) (hn : n < N) (hr : RRel nS nC d0 dsw dsX dsY dcX dcF dcT dr) (h1 : e 1 = nI T) (h2 : e 2 = nI (PS t T (n + 1))) (h4 : e 4 = nI (sk t T (PS t T n))) (h3 : e 3 = 113) (hm : mkF t T (PS t T n) = 113) (x : Int32) : ITEM t b T N n nS nC mO kd vl d0 dsw dsX dsY dcX dcF dcT dr e x := by
  have hfw2 := fw2_ev C hn 0 (dr 0) 0 (dr 1)
  have htok := m_tok C hn
  obtain ⟨hT, hag, hl, hN, h15, h11, hsN, hb⟩ := C
  have hr' := hr
  obtain ⟨hS4, hC3, ⟨q0, q1, q2, q3, q4, q5, q6, q7⟩, hsw, hse, hcu, hR, hw, hP, hC⟩ := hr'
  have hkd : kd n = 113 := (hb n hn).2.2.1.trans hm
  have hn' : (if kd n = 99 then n + 5 else n + 4) = n + 4 := by rw [hkd]; rfl
  have hfw : fX6_firstWrong mO kd dr vl (nI n) = FW2 mO kd vl (nI n) 0 (dr 0) 0 (dr 1) := by
    unfold fX6_firstWrong
    rw [htok, Option.bind_some, hm]
    split <;> rfl
  rw [hfw2] at hfw
  obtain ⟨e1, a0, a1, a2, a4, a5⟩ := c_num (n := n + 1) hT hag hl h1 h2 0 (dr 0)
  obtain ⟨e2, b0, b1, b2', b4, b5⟩ := c_num (n := n + 2) hT hag hl a1 a2 0 (dr 1)
  obtain ⟨e3, f0, f1, f2, f4⟩ := c_end (n := n + 3) hT hag hl b1 b2'
  have hrd : fX4_readItem e b d0 dsw dsX dsY dcX dcF dcT x = ((fX4_readNumber e b 0 (dr 0)).bind (fun r1 => if r1.1 = 0 then some (0, d0, r1.2) else (fX4_readNumber r1.2 b 0 (dr 1)).bind (fun r3 => if r3.1 = 0 then some (0, upd d0 2 (r1.2 5), r3.2) else some (1, upd (upd d0 2 (r1.2 5)) 3 (r3.2 5), r3.2)))).bind (fun r6 => if r6.1 = 0 ∨ r6.1 = 1 then some (r6.1, r6.2.2, r6.2.1, dsw, dsX, dsY, dcX, dcF, dcT) else none) := by
    unfold fX4_readItem fX4_readSource
    rw [h3, q0, q1]
    rfl
  cases hb1 : numB t T (n + 1) 0 (dr 0) with
  | false =>
    left
    have hx : ∃ d0' dsw' dsX' dsY' dcX' dcF' dcT', fX4_readItem e b d0 dsw dsX dsY dcX dcF dcT x = some (0, e1, d0', dsw', dsX', dsY', dcX', dcF', dcT') := by
      rw [hrd, a0, hb1]
      exact ⟨_, _, _, _, _, _, _, rfl⟩
    obtain ⟨d02, dsw2, dsX2, dsY2, dcX2, dcF2, dcT2, hx⟩ := hx
    exact ⟨n + 1, by omega, by rw [hfw, hb1]; rfl, Or.inl ⟨e1, d02, dsw2, dsX2, dsY2, dcX2, dcF2, dcT2, hx, a1, a4⟩⟩
  | true =>
  have p1 := num_lt hl hsN (by omega) hb1
  have v1 := num_v hl hb1
  have y1 := m_val hl hsN hb (by omega) hb1
  cases hb2 : numB t T (n + 2) 0 (dr 1) with
  | false =>
    left
    have hx : ∃ d0' dsw' dsX' dsY' dcX' dcF' dcT', fX4_readItem e b d0 dsw dsX dsY dcX dcF dcT x = some (0, e2, d0', dsw', dsX', dsY', dcX', dcF', dcT') := by
      rw [hrd, a0, hb1, Option.bind_some, if_neg (show ¬ b2 true = 0 by decide)]
      rw [b0, hb2]
      exact ⟨_, _, _, _, _, _, _, rfl⟩
    obtain ⟨d02, dsw2, dsX2, dsY2, dcX2, dcF2, dcT2, hx⟩ := hx
    exact ⟨n + 2, by omega, by rw [hfw, hb1, hb2]; rfl, Or.inl ⟨e2, d02, dsw2, dsX2, dsY2, dcX2, dcF2, dcT2, hx, b1, b4⟩⟩
  | true =>
  have p2 := num_lt hl hsN (by omega) hb2
  have v2 := num_v hl hb2
  have y2 := m_val hl hsN hb (by omega) hb2
  have hit : ∃ d0' dsw' dsX' dsY' dcX' dcF' dcT', fX4_readItem e b d0 dsw dsX dsY dcX dcF dcT x = some (1, e2, d0', dsw', dsX', dsY', dcX', dcF', dcT') ∧ ∃ dr', fX6_lay mO vl kd dr (nI n) = some dr' ∧ ∃ nS' nC', RRel nS' nC' d0' dsw' dsX' dsY' dcX' dcF' dcT' dr' := by
    have hlay : fX6_lay mO vl kd dr (nI n) = some (upd (upd dr 2 (nI (vlF t T (PS t T (n + 1))))) 3 (nI (vlF t T (PS t T (n + 2))))) := by
      have e1' : nI n + 1 = nI (n + 1) := nI_add n 1
      have e2' : nI n + 2 = nI (n + 2) := nI_add n 2
      have ok0 : okI (nI n) 100 := okI_nI (by omega) (by decide)
      have ok1 : okI (nI (n + 1)) 100 := okI_nI (by omega) (by decide)
      have ok2 : okI (nI (n + 2)) 100 := okI_nI (by omega) (by decide)
      have c0 : Int32.toNatClampNeg (nI n) = n := cl_nI (by omega)
      have c1 : Int32.toNatClampNeg (nI (n + 1)) = n + 1 := cl_nI (by omega)
      have c2 : Int32.toNatClampNeg (nI (n + 2)) = n + 2 := cl_nI (by omega)
      unfold fX6_lay
      simp only [e1', e2', if_pos ok0, if_pos ok1, if_pos ok2, c0, c1, c2, bnd_e, hkd, y1, y2]
      rfl
    refine ⟨upd (upd d0 2 (nI (vlF t T (PS t T (n + 1))))) 3 (nI (vlF t T (PS t T (n + 2)))), dsw, dsX, dsY, dcX, dcF, dcT, ?_, _, hlay, nS, nC, ?_⟩
    · rw [hrd, a0, hb1, Option.bind_some, if_neg (show ¬ b2 true = 0 by decide), b0, hb2, Option.bind_some, if_neg (show ¬ b2 true = 0 by decide)]
      dsimp only
      rw [a5 hb1, b5 hb2]
      rfl
    · obtain ⟨r1, r2, r3, r4, -⟩ := hR
      have u1 := v1.2
      have u2 := v2.2
      rw [show (0 : Int32).toInt = 0 from rfl] at u1 u2
      exact rr_src hr ⟨r1, r2, r3, r4, u1.1, u1.2, u2.1, u2.2⟩
  obtain ⟨d02, dsw2, dsX2, dsY2, dcX2, dcF2, dcT2, z1, dr', z2, nS', nC', z3⟩ := hit
  cases hb3 : endB t T (n + 3) with
  | false =>
    left
    exact ⟨n + 3, by omega, by rw [hfw, hb1, hb2, hb3]; rfl, Or.inr ⟨e2, d02, dsw2, dsX2, dsY2, dcX2, dcF2, dcT2, e3, z1, by rw [f0, hb3]; rfl, f1, f4⟩⟩
  | true =>
    right
    have p3 := end_lt hsN (by omega) hb3
    exact ⟨n + 4, nS', nC', e2, d02, dsw2, dsX2, dsY2, dcX2, dcF2, dcT2, e3, dr', z1, by rw [f0, hb3]; rfl, f1, f2, by rw [hfw, hb1, hb2, hb3]; rfl, z2, z3, by omega, hn'.symm⟩
theorem i_r (C : CX t b T N mO pl kd vl) (hn : 0 < N) (hr : RRel 0 0 d0 dsw dsX dsY dcX dcF dcT dr) (h1 : e 1 = nI T) (h2 : e 2 = nI (PS t T (0 + 1))) (h4 : e 4 = nI (sk t T (PS t T 0))) (h3 : e 3 = 114) (hm : mkF t T (PS t T 0) = 114) (g2 : dr 2 = 1) (g3 : dr 3 = 1) : ITEM t b T N 0 0 0 mO kd vl d0 dsw dsX dsY dcX dcF dcT dr e 0 := by
  have hfw2 := fw2_ev C hn 2 20 2 20
  have htok := m_tok C hn
  obtain ⟨hT, hag, hl, hN, h15, h11, hsN, hb⟩ := C
  have hr' := hr
  obtain ⟨hS4, hC3, ⟨q0, q1, q2, q3, q4, q5, q6, q7⟩, hsw, hse, hcu, hR, hw, hP, hC⟩ := hr'
  have hkd : kd 0 = 114 := (hb 0 hn).2.2.1.trans hm
  have hn' : (if kd 0 = 99 then 0 + 5 else 0 + 4) = 0 + 4 := by rw [hkd]; rfl
  have hfw : fX6_firstWrong mO kd dr vl (nI 0) = FW2 mO kd vl (nI 0) 2 20 2 20 := by
    unfold fX6_firstWrong
    rw [htok, Option.bind_some, hm]
    rfl
  rw [hfw2] at hfw
  obtain ⟨e1, a0, a1, a2, a4, a5⟩ := c_num (n := 0 + 1) hT hag hl h1 h2 2 20
  obtain ⟨e2, b0, b1, b2', b4, b5⟩ := c_num (n := 0 + 2) hT hag hl a1 a2 2 20
  obtain ⟨e3, f0, f1, f2, f4⟩ := c_end (n := 0 + 3) hT hag hl b1 b2'
  have hrd : fX4_readItem e b d0 dsw dsX dsY dcX dcF dcT 0 = ((fX4_readNumber e b 2 20).bind (fun r1 => if r1.1 = 0 then some ((0 : Int32), r1.2, d0) else (fX4_readNumber r1.2 b 2 20).bind (fun r3 => if r3.1 = 0 then some (0, r3.2, upd d0 0 (r1.2 5)) else some (1, r3.2, upd (upd d0 0 (r1.2 5)) 1 (r3.2 5))))).bind (fun r10 => if r10.1 = 0 then some (0, r10.2.1, r10.2.2, dsw, dsX, dsY, dcX, dcF, dcT) else some (1, r10.2.1, r10.2.2, dsw, dsX, dsY, dcX, dcF, dcT)) := by
    unfold fX4_readItem fX4_readSides
    rw [h3, if_neg (show ¬ (114 : Int32) = 99 by decide), if_neg (show ¬ (114 : Int32) = 113 by decide), if_pos (rfl : (114 : Int32) = 114), if_pos (rfl : (0 : Int32) = 0)]
  cases hb1 : numB t T (0 + 1) 2 20 with
  | false =>
    left
    have hx : ∃ d0' dsw' dsX' dsY' dcX' dcF' dcT', fX4_readItem e b d0 dsw dsX dsY dcX dcF dcT 0 = some (0, e1, d0', dsw', dsX', dsY', dcX', dcF', dcT') := by
      rw [hrd, a0, hb1]
      exact ⟨_, _, _, _, _, _, _, rfl⟩
    obtain ⟨d02, dsw2, dsX2, dsY2, dcX2, dcF2, dcT2, hx⟩ := hx
    exact ⟨0 + 1, by omega, by rw [hfw, hb1]; rfl, Or.inl ⟨e1, d02, dsw2, dsX2, dsY2, dcX2, dcF2, dcT2, hx, a1, a4⟩⟩
  | true =>
  have p1 := num_lt hl hsN (by omega) hb1
  have v1 := num_v hl hb1
  have y1 := m_val hl hsN hb (by omega) hb1
  cases hb2 : numB t T (0 + 2) 2 20 with
  | false =>
    left
    have hx : ∃ d0' dsw' dsX' dsY' dcX' dcF' dcT', fX4_readItem e b d0 dsw dsX dsY dcX dcF dcT 0 = some (0, e2, d0', dsw', dsX', dsY', dcX', dcF', dcT') := by
      rw [hrd, a0, hb1, Option.bind_some, if_neg (show ¬ b2 true = 0 by decide)]
      rw [b0, hb2]
      exact ⟨_, _, _, _, _, _, _, rfl⟩
    obtain ⟨d02, dsw2, dsX2, dsY2, dcX2, dcF2, dcT2, hx⟩ := hx
    exact ⟨0 + 2, by omega, by rw [hfw, hb1, hb2]; rfl, Or.inl ⟨e2, d02, dsw2, dsX2, dsY2, dcX2, dcF2, dcT2, hx, b1, b4⟩⟩
  | true =>
  have p2 := num_lt hl hsN (by omega) hb2
  have v2 := num_v hl hb2
  have y2 := m_val hl hsN hb (by omega) hb2
  have hit : ∃ d0' dsw' dsX' dsY' dcX' dcF' dcT', fX4_readItem e b d0 dsw dsX dsY dcX dcF dcT 0 = some (1, e2, d0', dsw', dsX', dsY', dcX', dcF', dcT') ∧ ∃ dr', fX6_lay mO vl kd dr (nI 0) = some dr' ∧ ∃ nS' nC', RRel nS' nC' d0' dsw' dsX' dsY' dcX' dcF' dcT' dr' := by
    have hlay : fX6_lay mO vl kd dr (nI 0) = some (upd (upd dr 0 (nI (vlF t T (PS t T (0 + 1))))) 1 (nI (vlF t T (PS t T (0 + 2))))) := by
      have e1' : nI 0 + 1 = nI (0 + 1) := nI_add 0 1
      have e2' : nI 0 + 2 = nI (0 + 2) := nI_add 0 2
      have ok0 : okI (nI 0) 100 := okI_nI (by omega) (by decide)
      have ok1 : okI (nI (0 + 1)) 100 := okI_nI (by omega) (by decide)
      have ok2 : okI (nI (0 + 2)) 100 := okI_nI (by omega) (by decide)
      have c0 : Int32.toNatClampNeg (nI 0) = 0 := cl_nI (by omega)
      have c1 : Int32.toNatClampNeg (nI (0 + 1)) = 0 + 1 := cl_nI (by omega)
      have c2 : Int32.toNatClampNeg (nI (0 + 2)) = 0 + 2 := cl_nI (by omega)
      unfold fX6_lay
      simp only [e1', e2', if_pos ok0, if_pos ok1, if_pos ok2, c0, c1, c2, bnd_e, hkd, y1, y2]
      rfl
    refine ⟨upd (upd d0 0 (nI (vlF t T (PS t T (0 + 1))))) 1 (nI (vlF t T (PS t T (0 + 2)))), dsw, dsX, dsY, dcX, dcF, dcT, ?_, _, hlay, 0, 0, ?_⟩
    · rw [hrd, a0, hb1, Option.bind_some, if_neg (show ¬ b2 true = 0 by decide), b0, hb2, Option.bind_some, if_neg (show ¬ b2 true = 0 by decide)]
      dsimp only
      rw [a5 hb1, b5 hb2]
      rfl
    · have u1 := v1.2
      have u2 := v2.2
      rw [show (2 : Int32).toInt = 2 from rfl, show (20 : Int32).toInt = 20 from rfl] at u1 u2
      exact rr_sides hr g2 g3 u1.1 u1.2 u2.1 u2.2
  obtain ⟨d02, dsw2, dsX2, dsY2, dcX2, dcF2, dcT2, z1, dr', z2, nS', nC', z3⟩ := hit
  cases hb3 : endB t T (0 + 3) with
  | false =>
    left
    exact ⟨0 + 3, by omega, by rw [hfw, hb1, hb2, hb3]; rfl, Or.inr ⟨e2, d02, dsw2, dsX2, dsY2, dcX2, dcF2, dcT2, e3, z1, by rw [f0, hb3]; rfl, f1, f4⟩⟩
  | true =>
    right
    have p3 := end_lt hsN (by omega) hb3
    exact ⟨0 + 4, nS', nC', e2, d02, dsw2, dsX2, dsY2, dcX2, dcF2, dcT2, e3, dr', z1, by rw [f0, hb3]; rfl, f1, f2, by rw [hfw, hb1, hb2, hb3]; rfl, z2, z3, by omega, hn'.symm⟩
theorem i_w (C : CX t b T N mO pl kd vl) (hn : n < N) (hr : RRel nS nC d0 dsw dsX dsY dcX dcF dcT dr) (h1 : e 1 = nI T) (h2 : e 2 = nI (PS t T (n + 1))) (h4 : e 4 = nI (sk t T (PS t T n))) (h3 : e 3 = 119) (hm : mkF t T (PS t T n) = 119) (x : Int32) : ITEM t b T N n nS nC mO kd vl d0 dsw dsX dsY dcX dcF dcT dr e x := by
  have hfw2 := fw2_ev C hn 0 3 0 10
  have htok := m_tok C hn
  obtain ⟨hT, hag, hl, hN, h15, h11, hsN, hb⟩ := C
  have hr' := hr
  obtain ⟨hS4, hC3, ⟨q0, q1, q2, q3, q4, q5, q6, q7⟩, hsw, hse, hcu, hR, hw, hP, hC⟩ := hr'
  have hkd : kd n = 119 := (hb n hn).2.2.1.trans hm
  have hn' : (if kd n = 99 then n + 5 else n + 4) = n + 4 := by rw [hkd]; rfl
  have hfw : fX6_firstWrong mO kd dr vl (nI n) = FW2 mO kd vl (nI n) 0 3 0 10 := by
    unfold fX6_firstWrong
    rw [htok, Option.bind_some, hm]
    split <;> rfl
  rw [hfw2] at hfw
  obtain ⟨e1, a0, a1, a2, a4, a5⟩ := c_num (n := n + 1) hT hag hl h1 h2 0 3
  obtain ⟨e2, b0, b1, b2', b4, b5⟩ := c_num (n := n + 2) hT hag hl a1 a2 0 10
  obtain ⟨e3, f0, f1, f2, f4⟩ := c_end (n := n + 3) hT hag hl b1 b2'
  have hrd : fX4_readItem e b d0 dsw dsX dsY dcX dcF dcT x = ((fX4_readNumber e b 0 3).bind (fun r1 => if r1.1 = 0 then some (0, r1.2, dsw) else bnd (r1.2 5) (fun y3 => (fX4_readNumber r1.2 b 0 10).bind (fun r4 => if r4.1 = 0 then some (0, r4.2, dsw) else (if okI y3 4 then some (1, r4.2, upd dsw (Int32.toNatClampNeg y3) (r4.2 5)) else none))))).bind (fun r17 => if r17.1 = 0 ∨ r17.1 = 1 then some (r17.1, r17.2.1, d0, r17.2.2, dsX, dsY, dcX, dcF, dcT) else none) := by
    unfold fX4_readItem fX4_readSwallows
    rw [h3]
    rfl
  cases hb1 : numB t T (n + 1) 0 3 with
  | false =>
    left
    have hx : ∃ d0' dsw' dsX' dsY' dcX' dcF' dcT', fX4_readItem e b d0 dsw dsX dsY dcX dcF dcT x = some (0, e1, d0', dsw', dsX', dsY', dcX', dcF', dcT') := by
      rw [hrd, a0, hb1]
      exact ⟨_, _, _, _, _, _, _, rfl⟩
    obtain ⟨d02, dsw2, dsX2, dsY2, dcX2, dcF2, dcT2, hx⟩ := hx
    exact ⟨n + 1, by omega, by rw [hfw, hb1]; rfl, Or.inl ⟨e1, d02, dsw2, dsX2, dsY2, dcX2, dcF2, dcT2, hx, a1, a4⟩⟩
  | true =>
  have p1 := num_lt hl hsN (by omega) hb1
  have v1 := num_v hl hb1
  have y1 := m_val hl hsN hb (by omega) hb1
  cases hb2 : numB t T (n + 2) 0 10 with
  | false =>
    left
    have hx : ∃ d0' dsw' dsX' dsY' dcX' dcF' dcT', fX4_readItem e b d0 dsw dsX dsY dcX dcF dcT x = some (0, e2, d0', dsw', dsX', dsY', dcX', dcF', dcT') := by
      rw [hrd, a0, hb1, Option.bind_some, if_neg (show ¬ b2 true = 0 by decide)]
      rw [bnd_e]
      rw [b0, hb2]
      exact ⟨_, _, _, _, _, _, _, rfl⟩
    obtain ⟨d02, dsw2, dsX2, dsY2, dcX2, dcF2, dcT2, hx⟩ := hx
    exact ⟨n + 2, by omega, by rw [hfw, hb1, hb2]; rfl, Or.inl ⟨e2, d02, dsw2, dsX2, dsY2, dcX2, dcF2, dcT2, hx, b1, b4⟩⟩
  | true =>
  have p2 := num_lt hl hsN (by omega) hb2
  have v2 := num_v hl hb2
  have y2 := m_val hl hsN hb (by omega) hb2
  have hit : ∃ d0' dsw' dsX' dsY' dcX' dcF' dcT', fX4_readItem e b d0 dsw dsX dsY dcX dcF dcT x = some (1, e2, d0', dsw', dsX', dsY', dcX', dcF', dcT') ∧ ∃ dr', fX6_lay mO vl kd dr (nI n) = some dr' ∧ ∃ nS' nC', RRel nS' nC' d0' dsw' dsX' dsY' dcX' dcF' dcT' dr' := by
    have u1 := v1.2
    have u2 := v2.2
    rw [show (0 : Int32).toInt = 0 from rfl, show (3 : Int32).toInt = 3 from rfl] at u1
    rw [show (0 : Int32).toInt = 0 from rfl, show (10 : Int32).toInt = 10 from rfl] at u2
    have w4 : vlF t T (PS t T (n + 1)) < 4 := by have := v1.1; rw [nI_toInt (by omega)] at u1; omega
    have hlay : fX6_lay mO vl kd dr (nI n) = some (upd dr (4 + vlF t T (PS t T (n + 1))) (nI (vlF t T (PS t T (n + 2))))) := by
      have e1' : nI n + 1 = nI (n + 1) := nI_add n 1
      have e2' : nI n + 2 = nI (n + 2) := nI_add n 2
      have ok0 : okI (nI n) 100 := okI_nI (by omega) (by decide)
      have ok1 : okI (nI (n + 1)) 100 := okI_nI (by omega) (by decide)
      have ok2 : okI (nI (n + 2)) 100 := okI_nI (by omega) (by decide)
      have c0 : Int32.toNatClampNeg (nI n) = n := cl_nI (by omega)
      have c1 : Int32.toNatClampNeg (nI (n + 1)) = n + 1 := cl_nI (by omega)
      have c2 : Int32.toNatClampNeg (nI (n + 2)) = n + 2 := cl_nI (by omega)
      unfold fX6_lay
      simp only [e1', e2', if_pos ok0, if_pos ok1, if_pos ok2, c0, c1, c2, bnd_e, hkd, y1, y2]
      have e4 : (4 : Int32) + nI (vlF t T (PS t T (n + 1))) = nI (4 + vlF t T (PS t T (n + 1))) := nI_add 4 _
      have ok4 : okI (nI (4 + vlF t T (PS t T (n + 1)))) 27 := okI_nI (by omega) (by decide)
      have c4 : Int32.toNatClampNeg (nI (4 + vlF t T (PS t T (n + 1)))) = 4 + vlF t T (PS t T (n + 1)) := cl_nI (by omega)
      simp only [e4, if_pos ok4, c4]
      rfl
    refine ⟨d0, upd dsw (vlF t T (PS t T (n + 1))) (nI (vlF t T (PS t T (n + 2)))), dsX, dsY, dcX, dcF, dcT, ?_, _, hlay, nS, nC, rr_sw hr w4 u2.1 u2.2⟩
    rw [hrd, a0, hb1, Option.bind_some, if_neg (show ¬ b2 true = 0 by decide), bnd_e, b0, hb2, Option.bind_some, if_neg (show ¬ b2 true = 0 by decide)]
    dsimp only
    simp only [a5 hb1, b5 hb2]
    rw [if_pos (okI_nI w4 (by decide)), cl_nI (by omega)]
    rfl
  obtain ⟨d02, dsw2, dsX2, dsY2, dcX2, dcF2, dcT2, z1, dr', z2, nS', nC', z3⟩ := hit
  cases hb3 : endB t T (n + 3) with
  | false =>
    left
    exact ⟨n + 3, by omega, by rw [hfw, hb1, hb2, hb3]; rfl, Or.inr ⟨e2, d02, dsw2, dsX2, dsY2, dcX2, dcF2, dcT2, e3, z1, by rw [f0, hb3]; rfl, f1, f4⟩⟩
  | true =>
    right
    have p3 := end_lt hsN (by omega) hb3
    exact ⟨n + 4, nS', nC', e2, d02, dsw2, dsX2, dsY2, dcX2, dcF2, dcT2, e3, dr', z1, by rw [f0, hb3]; rfl, f1, f2, by rw [hfw, hb1, hb2, hb3]; rfl, z2, z3, by omega, hn'.symm⟩
theorem i_s (C : CX t b T N mO pl kd vl) (hn : n < N) (hr : RRel nS nC d0 dsw dsX dsY dcX dcF dcT dr) (h1 : e 1 = nI T) (h2 : e 2 = nI (PS t T (n + 1))) (h4 : e 4 = nI (sk t T (PS t T n))) (h3 : e 3 = 115) (hm : mkF t T (PS t T n) = 115) (hS : nS < 4) (x : Int32) : ITEM t b T N n nS nC mO kd vl d0 dsw dsX dsY dcX dcF dcT dr e x := by
  have hfw2 := fw2_ev C hn 0 (dr 0) 0 (dr 1)
  have htok := m_tok C hn
  obtain ⟨hT, hag, hl, hN, h15, h11, hsN, hb⟩ := C
  have hr' := hr
  obtain ⟨hS4, hC3, ⟨q0, q1, q2, q3, q4, q5, q6, q7⟩, hsw, hse, hcu, hR, hw, hP, hC⟩ := hr'
  have hkd : kd n = 115 := (hb n hn).2.2.1.trans hm
  have hn' : (if kd n = 99 then n + 5 else n + 4) = n + 4 := by rw [hkd]; rfl
  have hfw : fX6_firstWrong mO kd dr vl (nI n) = FW2 mO kd vl (nI n) 0 (dr 0) 0 (dr 1) := by
    have h8 : dr 8 < 4 := by rw [q5, fa_lt, nI_toInt (by omega), show (4 : Int32).toInt = 4 from rfl]; omega
    unfold fX6_firstWrong
    rw [htok, Option.bind_some, hm]
    unfold fX6_firstWrong_j15
    simp only [if_pos h8]
    split <;> rfl
  rw [hfw2] at hfw
  obtain ⟨e1, a0, a1, a2, a4, a5⟩ := c_num (n := n + 1) hT hag hl h1 h2 0 (dr 0)
  obtain ⟨e2, b0, b1, b2', b4, b5⟩ := c_num (n := n + 2) hT hag hl a1 a2 0 (dr 1)
  obtain ⟨e3, f0, f1, f2, f4⟩ := c_end (n := n + 3) hT hag hl b1 b2'
  have hrd : fX4_readItem e b d0 dsw dsX dsY dcX dcF dcT x = ((fX4_readNumber e b 0 (dr 0)).bind (fun r1 => if r1.1 = 0 then some ((0 : Int32), d0, r1.2, dsX, dsY) else (if okI (d0 4) 4 then (fX4_readNumber r1.2 b 0 (dr 1)).bind (fun r4 => if r4.1 = 0 then some (0, d0, r4.2, upd dsX (Int32.toNatClampNeg (d0 4)) (r1.2 5), dsY) else (if okI (d0 4) 4 then some (1, upd d0 4 (d0 4 + 1), r4.2, upd dsX (Int32.toNatClampNeg (d0 4)) (r1.2 5), upd dsY (Int32.toNatClampNeg (d0 4)) (r4.2 5)) else none)) else none))).bind (fun r14 => if r14.1 = 0 then some (0, r14.2.2.1, r14.2.1, dsw, r14.2.2.2.1, r14.2.2.2.2, dcX, dcF, dcT) else some (1, r14.2.2.1, r14.2.1, dsw, r14.2.2.2.1, r14.2.2.2.2, dcX, dcF, dcT)) := by
    unfold fX4_readItem fX4_readSeat
    rw [h3, q0, q1, if_neg (show ¬ (4 : Int32) ≤ d0 4 by rw [q4, fa_le, nI_toInt (by omega), show (4 : Int32).toInt = 4 from rfl]; omega)]
    rfl
  have okS : okI (nI nS) 4 := okI_nI hS (by decide)
  have cS : Int32.toNatClampNeg (nI nS) = nS := cl_nI (by omega)
  simp only [q4, if_pos okS, cS, nI_1] at hrd
  cases hb1 : numB t T (n + 1) 0 (dr 0) with
  | false =>
    left
    have hx : ∃ d0' dsw' dsX' dsY' dcX' dcF' dcT', fX4_readItem e b d0 dsw dsX dsY dcX dcF dcT x = some (0, e1, d0', dsw', dsX', dsY', dcX', dcF', dcT') := by
      rw [hrd, a0, hb1]
      exact ⟨_, _, _, _, _, _, _, rfl⟩
    obtain ⟨d02, dsw2, dsX2, dsY2, dcX2, dcF2, dcT2, hx⟩ := hx
    exact ⟨n + 1, by omega, by rw [hfw, hb1]; rfl, Or.inl ⟨e1, d02, dsw2, dsX2, dsY2, dcX2, dcF2, dcT2, hx, a1, a4⟩⟩
  | true =>
  have p1 := num_lt hl hsN (by omega) hb1
  have v1 := num_v hl hb1
  have y1 := m_val hl hsN hb (by omega) hb1
  cases hb2 : numB t T (n + 2) 0 (dr 1) with
  | false =>
    left
    have hx : ∃ d0' dsw' dsX' dsY' dcX' dcF' dcT', fX4_readItem e b d0 dsw dsX dsY dcX dcF dcT x = some (0, e2, d0', dsw', dsX', dsY', dcX', dcF', dcT') := by
      rw [hrd, a0, hb1, Option.bind_some, if_neg (show ¬ b2 true = 0 by decide)]
      rw [b0, hb2]
      exact ⟨_, _, _, _, _, _, _, rfl⟩
    obtain ⟨d02, dsw2, dsX2, dsY2, dcX2, dcF2, dcT2, hx⟩ := hx
    exact ⟨n + 2, by omega, by rw [hfw, hb1, hb2]; rfl, Or.inl ⟨e2, d02, dsw2, dsX2, dsY2, dcX2, dcF2, dcT2, hx, b1, b4⟩⟩
  | true =>
  have p2 := num_lt hl hsN (by omega) hb2
  have v2 := num_v hl hb2
  have y2 := m_val hl hsN hb (by omega) hb2
  have hit : ∃ d0' dsw' dsX' dsY' dcX' dcF' dcT', fX4_readItem e b d0 dsw dsX dsY dcX dcF dcT x = some (1, e2, d0', dsw', dsX', dsY', dcX', dcF', dcT') ∧ ∃ dr', fX6_lay mO vl kd dr (nI n) = some dr' ∧ ∃ nS' nC', RRel nS' nC' d0' dsw' dsX' dsY' dcX' dcF' dcT' dr' := by
    have hlay : fX6_lay mO vl kd dr (nI n) = some (upd (upd (upd dr (9 + nS) (nI (vlF t T (PS t T (n + 1))))) (13 + nS) (nI (vlF t T (PS t T (n + 2))))) 8 (nI (nS + 1))) := by
      have e1' : nI n + 1 = nI (n + 1) := nI_add n 1
      have e2' : nI n + 2 = nI (n + 2) := nI_add n 2
      have ok0 : okI (nI n) 100 := okI_nI (by omega) (by decide)
      have ok1 : okI (nI (n + 1)) 100 := okI_nI (by omega) (by decide)
      have ok2 : okI (nI (n + 2)) 100 := okI_nI (by omega) (by decide)
      have c0 : Int32.toNatClampNeg (nI n) = n := cl_nI (by omega)
      have c1 : Int32.toNatClampNeg (nI (n + 1)) = n + 1 := cl_nI (by omega)
      have c2 : Int32.toNatClampNeg (nI (n + 2)) = n + 2 := cl_nI (by omega)
      unfold fX6_lay
      simp only [e1', e2', if_pos ok0, if_pos ok1, if_pos ok2, c0, c1, c2, bnd_e, hkd, y1, y2]
      have e9 : (9 : Int32) + nI nS = nI (9 + nS) := nI_add 9 _
      have e13 : (13 : Int32) + nI nS = nI (13 + nS) := nI_add 13 _
      have ok9 : okI (nI (9 + nS)) 27 := okI_nI (by omega) (by decide)
      have ok13 : okI (nI (13 + nS)) 27 := okI_nI (by omega) (by decide)
      have c9 : Int32.toNatClampNeg (nI (9 + nS)) = 9 + nS := cl_nI (by omega)
      have c13 : Int32.toNatClampNeg (nI (13 + nS)) = 13 + nS := cl_nI (by omega)
      have k1 : ∀ v, upd dr (9 + nS) v 8 = nI nS := fun v => (upd_ne (by omega)).trans q5
      have k2 : ∀ v w, upd (upd dr (9 + nS) v) (13 + nS) w 8 = nI nS := fun v w => (upd_ne (by omega)).trans (k1 v)
      simp only [q5, e9, if_pos ok9, c9, k1, e13, if_pos ok13, c13, k2, nI_1]
      rfl
    refine ⟨upd d0 4 (nI (nS + 1)), dsw, upd dsX nS (nI (vlF t T (PS t T (n + 1)))), upd dsY nS (nI (vlF t T (PS t T (n + 2)))), dcX, dcF, dcT, ?_, _, hlay, nS + 1, nC, ?_⟩
    · rw [hrd, a0, hb1, Option.bind_some, if_neg (show ¬ b2 true = 0 by decide), b0, hb2, Option.bind_some, if_neg (show ¬ b2 true = 0 by decide)]
      dsimp only
      rw [a5 hb1, b5 hb2]
      rfl
    · have u1 := v1.2
      have u2 := v2.2
      rw [show (0 : Int32).toInt = 0 from rfl] at u1 u2
      exact rr_seat hr hS ⟨u1.1, u1.2, u2.1, u2.2⟩
  obtain ⟨d02, dsw2, dsX2, dsY2, dcX2, dcF2, dcT2, z1, dr', z2, nS', nC', z3⟩ := hit
  cases hb3 : endB t T (n + 3) with
  | false =>
    left
    exact ⟨n + 3, by omega, by rw [hfw, hb1, hb2, hb3]; rfl, Or.inr ⟨e2, d02, dsw2, dsX2, dsY2, dcX2, dcF2, dcT2, e3, z1, by rw [f0, hb3]; rfl, f1, f4⟩⟩
  | true =>
    right
    have p3 := end_lt hsN (by omega) hb3
    exact ⟨n + 4, nS', nC', e2, d02, dsw2, dsX2, dsY2, dcX2, dcF2, dcT2, e3, dr', z1, by rw [f0, hb3]; rfl, f1, f2, by rw [hfw, hb1, hb2, hb3]; rfl, z2, z3, by omega, hn'.symm⟩
end ITEMS
