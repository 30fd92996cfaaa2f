/-! pads, draws, moves, undo, keep, back: the same answers, and worlds alike again -/
theorem cod_inj {a b c d : Int32} {B : Int} (hB : B ≤ 20) (a0 : 0 ≤ a.toInt) (a1 : a.toInt ≤ 20) (b0 : 0 ≤ b.toInt) (b1 : b.toInt ≤ B) (c0 : 0 ≤ c.toInt) (c1 : c.toInt ≤ 20) (d0 : 0 ≤ d.toInt) (d1 : d.toInt ≤ B) : (100 * a + b = 100 * c + d) ↔ (a = c ∧ b = d) := by
  have e100 : (100 : Int32).toInt = 100 := rfl
  have ea : (100 * a).toInt = 100 * a.toInt := by rw [fb_mulI (by rw [e100]; omega) (by rw [e100]; omega), e100]
  have ec : (100 * c).toInt = 100 * c.toInt := by rw [fb_mulI (by rw [e100]; omega) (by rw [e100]; omega), e100]
  rw [fa_eq, fa_eq, fa_eq, fb_addI (by omega) (by omega), fb_addI (by omega) (by omega), ea, ec]
  omega
section ACTS
variable {nS nC K : Nat} {cN sw sX sY cX cF cT s pO pk pw pf ps mO un : Nat → Int32}
theorem a_pads (h : RRel nS nC cN sw sX sY cX cF cT s) (hp : PRel nC s K pO pk pw pf ps mO un) (x y : Int32) :
    ∃ r sw' pO' pk' pw' pf' ps' mO' s' un', fX5_pads cN sw pO pk pw pf ps x y = some (r, sw', pO', pk', pw', pf', ps') ∧ fX6_pads mO s un x y = some (r, mO', s', un') ∧ RRel nS nC cN sw' sX sY cX cF cT s' ∧ (∃ K', PRel nC s' K' pO' pk' pw' pf' ps' mO' un') ∧ mO' 9 = mO 9 ∧ mO' 11 = mO 11 := by
  have h' := h
  obtain ⟨hS4, hC3, -, hsw, -, -, -, hw10, -⟩ := h'
  unfold fX5_pads fX6_pads
  rw [e5_within, e6_in, Option.bind_some, Option.bind_some, b2_if, b2_if, e5_within, e6_in, Option.bind_some, Option.bind_some, b2_if, b2_if]
  cases hx : inB x 0 3 with
  | false => exact ⟨_, _, _, _, _, _, _, _, _, _, rfl, rfl, h, ⟨K, hp⟩, rfl, rfl⟩
  | true =>
  simp only [if_true]
  cases hy : inB y 0 10 with
  | false => exact ⟨_, _, _, _, _, _, _, _, _, _, rfl, rfl, h, ⟨K, hp⟩, rfl, rfl⟩
  | true =>
  simp only [if_true]
  obtain ⟨k, hk, rfl⟩ := inN (n := 3) rfl hx
  have hy := of_decide_eq_true hy
  rw [show (0 : Int32).toInt = 0 from rfl, show (10 : Int32).toInt = 10 from rfl] at hy
  have e4 : (4 : Int32) + nI k = nI (4 + k) := nI_add 4 k
  have ok : okI (nI k) 4 := okI_nI (by omega) (by decide)
  have ok4 : okI (nI (4 + k)) 27 := okI_nI (by omega) (by decide)
  simp only [e4, if_pos ok, if_pos ok4, bnd_e]
  rw [cl_nI (by omega), cl_nI (by omega), hsw k hk]
  by_cases c : s (4 + k) = y
  · rw [if_pos c, if_pos c]
    exact ⟨_, _, _, _, _, _, _, _, _, _, rfl, rfl, h, ⟨K, hp⟩, rfl, rfl⟩
  · rw [if_neg c, if_neg c]
    obtain ⟨pO', pk', pw', pf', ps', mO', un', x1, x2, ⟨K', x3⟩, x4, x5⟩ := p_add (a := 4 + k) (b := 4 + k) (kd := 0) (wh := nI k) (f := s (4 + k)) (g := 0) hp (by omega) (by omega) (Or.inl ⟨rfl, k, hk, rfl, rfl, rfl, rfl, rfl, hw10 k hk⟩)
    rw [x1, x2, Option.bind_some, Option.bind_some]
    exact ⟨_, _, _, _, _, _, _, _, _, _, rfl, rfl, rr_sw h hk hy.1 hy.2, ⟨K', PRel_congr (upd_ne (by omega)) (upd_ne (by omega)) (fun c _ => upd_ne (by omega)) x3⟩, x4, x5⟩
theorem a_draws (h : RRel nS nC cN sw sX sY cX cF cT s) (hp : PRel nC s K pO pk pw pf ps mO un) (x y z : Int32) :
    ∃ r cF' cT' pO' pk' pw' pf' ps' mO' s' un', fX5_draws cN cF cT pO pk pw pf ps x y z = some (r, cF', cT', pO', pk', pw', pf', ps') ∧ fX6_draws mO s un x y z = some (r, mO', s', un') ∧ RRel nS nC cN sw sX sY cX cF' cT' s' ∧ (∃ K', PRel nC s' K' pO' pk' pw' pf' ps' mO' un') ∧ mO' 9 = mO 9 ∧ mO' 11 = mO 11 := by
  have h' := h
  obtain ⟨hS4, hC3, ⟨q0, q1, q2, q3, q4, q5, q6, q7⟩, hsw, hse, hcu, hR, hw10, hP, hC⟩ := h'
  unfold fX5_draws fX6_draws
  rw [e3_cur hC3 q6, e6_cur hC3 q7, Option.bind_some, Option.bind_some, b2_if, b2_if, e5_within, e6_in, Option.bind_some, Option.bind_some, b2_if, b2_if, e5_within, e6_in, Option.bind_some, Option.bind_some, b2_if, b2_if, q1]
  cases hx : seatB nC x with
  | false => exact ⟨_, _, _, _, _, _, _, _, _, _, _, rfl, rfl, h, ⟨K, hp⟩, rfl, rfl⟩
  | true =>
  simp only [if_true]
  cases hy : inB y 0 (s 1) with
  | false => exact ⟨_, _, _, _, _, _, _, _, _, _, _, rfl, rfl, h, ⟨K, hp⟩, rfl, rfl⟩
  | true =>
  simp only [if_true]
  cases hz : inB z y (s 1) with
  | false => exact ⟨_, _, _, _, _, _, _, _, _, _, _, rfl, rfl, h, ⟨K, hp⟩, rfl, rfl⟩
  | true =>
  simp only [if_true]
  obtain ⟨k, hk, rfl⟩ := seatB_ex hx
  have hy := of_decide_eq_true hy
  have hz := of_decide_eq_true hz
  rw [show (0 : Int32).toInt = 0 from rfl] at hy
  have e21 : (21 : Int32) + nI k = nI (21 + k) := nI_add 21 k
  have e24 : (24 : Int32) + nI k = nI (24 + k) := nI_add 24 k
  have ok : okI (nI k) 3 := okI_nI (by omega) (by decide)
  have ok21 : okI (nI (21 + k)) 27 := okI_nI (by omega) (by decide)
  have ok24 : okI (nI (24 + k)) 27 := okI_nI (by omega) (by decide)
  simp only [e21, e24, fX5_draws_j80, if_pos ok, if_pos ok21, if_pos ok24, bnd_e]
  rw [cl_nI (by omega), cl_nI (by omega), cl_nI (by omega), (hcu k hk).2.1, (hcu k hk).2.2]
  have hCk := hC k hk
  obtain ⟨v1, v2, v3, v4, v5⟩ := hCk
  obtain ⟨r1, r2, r3, r4, -⟩ := hR
  have hci := cod_inj (a := s (21 + k)) (b := s (24 + k)) (c := y) (d := z) r4 (by omega) (by omega) (by omega) (by omega) (by omega) (by omega) (by omega) (by omega)
  obtain ⟨pO', pk', pw', pf', ps', mO', un', x1, x2, ⟨K', x3⟩, x4, x5⟩ := p_add (a := 21 + k) (b := 24 + k) (kd := 1) (wh := nI k) (f := s (21 + k)) (g := s (24 + k)) hp (by omega) (by omega) (Or.inr (Or.inl ⟨rfl, k, hk, rfl, rfl, rfl, rfl, rfl, hC k hk⟩))
  by_cases c : s (21 + k) = y ∧ s (24 + k) = z
  · rw [if_pos (hci.mpr c), if_pos c.1, if_pos c.2]
    exact ⟨_, _, _, _, _, _, _, _, _, _, _, rfl, rfl, h, ⟨K, hp⟩, rfl, rfl⟩
  · rw [if_neg (fun e => c (hci.mp e)), x1, x2, Option.bind_some, Option.bind_some]
    have hfin := rr_cur h hk (f := y) (g := z) ⟨v1, v2, by omega, by omega, by omega⟩
    have hpp : PRel nC (upd (upd s (21 + k) y) (24 + k) z) K' pO' pk' pw' pf' ps' mO' un' := PRel_congr (by rw [upd_ne (by omega), upd_ne (by omega)]) (by rw [upd_ne (by omega), upd_ne (by omega)]) (fun c hc => by rw [upd_ne (by omega), upd_ne (by omega)]) x3
    by_cases c1 : s (21 + k) = y
    · rw [if_pos c1, if_neg (fun e => c ⟨c1, e⟩)]
      exact ⟨_, _, _, _, _, _, _, _, _, _, _, rfl, rfl, hfin, ⟨K', hpp⟩, x4, x5⟩
    · rw [if_neg c1]
      exact ⟨_, _, _, _, _, _, _, _, _, _, _, rfl, rfl, hfin, ⟨K', hpp⟩, x4, x5⟩
theorem a_moves (h : RRel nS nC cN sw sX sY cX cF cT s) (hp : PRel nC s K pO pk pw pf ps mO un) (x y : Int32) :
    ∃ r cN' pO' pk' pw' pf' ps' mO' s' un', fX5_moves cN pO pk pw pf ps x y = some (r, cN', pO', pk', pw', pf', ps') ∧ fX6_moves mO s un x y = some (r, mO', s', un') ∧ RRel nS nC cN' sw sX sY cX cF cT s' ∧ (∃ K', PRel nC s' K' pO' pk' pw' pf' ps' mO' un') ∧ mO' 9 = mO 9 ∧ mO' 11 = mO 11 := by
  have h' := h
  obtain ⟨hS4, hC3, ⟨q0, q1, q2, q3, q4, q5, q6, q7⟩, hsw, hse, hcu, hR, hw10, hP, hC⟩ := h'
  unfold fX5_moves fX6_moves fX6_isWithin fX6_sourceAt fX5_moves_j57 fX3_sourceCode
  simp only [e5_within, e6_in, Option.bind_some, b2_if, q0, q1, q2, q3]
  cases hx : inB x 0 (s 0) with
  | false => exact ⟨_, _, _, _, _, _, _, _, _, _, rfl, rfl, h, ⟨K, hp⟩, rfl, rfl⟩
  | true =>
  simp only [if_true]
  cases hy : inB y 0 (s 1) with
  | false => exact ⟨_, _, _, _, _, _, _, _, _, _, rfl, rfl, h, ⟨K, hp⟩, rfl, rfl⟩
  | true =>
  simp only [if_true]
  have hx := of_decide_eq_true hx
  have hy := of_decide_eq_true hy
  rw [show (0 : Int32).toInt = 0 from rfl] at hx hy
  rw [Option.bind_some, if_neg (show ¬ (1 : Int32) = 0 by decide)]
  obtain ⟨r1, r2, r3, r4, r5, r6, r7, r8⟩ := hR
  have hci := cod_inj (a := s 2) (b := s 3) (c := x) (d := y) r4 (by omega) (by omega) (by omega) (by omega) (by omega) (by omega) (by omega) (by omega)
  obtain ⟨pO', pk', pw', pf', ps', mO', un', x1, x2, ⟨K', x3⟩, x4, x5⟩ := p_add (a := 2) (b := 3) (kd := 2) (wh := 0) (f := s 2) (g := s 3) hp (by omega) (by omega) (Or.inr (Or.inr ⟨rfl, rfl, rfl, rfl, rfl, ⟨r1, r2, r3, r4, r5, r6, r7, r8⟩⟩))
  rw [show nI 2 = 2 from rfl, show nI 3 = 3 from rfl] at x2
  by_cases c : s 2 = x ∧ s 3 = y
  · rw [if_pos (hci.mpr c), if_pos c.1, if_pos c.2]
    exact ⟨_, _, _, _, _, _, _, _, _, _, rfl, rfl, h, ⟨K, hp⟩, rfl, rfl⟩
  · rw [if_neg (fun e => c (hci.mp e)), x1, x2, Option.bind_some, Option.bind_some]
    have hfin := rr_src h (f := x) (g := y) ⟨r1, r2, r3, r4, by omega, by omega, by omega, by omega⟩
    have hpp : PRel nC (upd (upd s 2 x) 3 y) K' pO' pk' pw' pf' ps' mO' un' := PRel_congr (s := s) rfl rfl (fun c hc => by rw [upd_ne (by omega), upd_ne (by omega)]) x3
    by_cases c1 : s 2 = x
    · rw [if_pos c1, if_neg (fun e => c ⟨c1, e⟩)]
      exact ⟨_, _, _, _, _, _, _, _, _, _, rfl, rfl, hfin, ⟨K', hpp⟩, x4, x5⟩
    · rw [if_neg c1]
      exact ⟨_, _, _, _, _, _, _, _, _, _, rfl, rfl, hfin, ⟨K', hpp⟩, x4, x5⟩
theorem a_undo (h : RRel nS nC cN sw sX sY cX cF cT s) (hp : PRel nC s K pO pk pw pf ps mO un) :
    ∃ r pO' cN' sw' cF' cT' mO' s', fX5_undo pO pw pk cN pf sw cF ps cT = some (r, pO', cN', sw', cF', cT') ∧ fX6_undo mO un s = some (r, mO', s') ∧ RRel nS nC cN' sw' sX sY cX cF' cT' s' ∧ (∃ K', PRel nC s' K' pO' pk pw pf ps mO' un) ∧ mO' 9 = mO 9 ∧ mO' 11 = mO 11 := by
  have h' := h
  obtain ⟨hS4, hC3, -⟩ := h'
  have hp' := hp
  obtain ⟨hK, h4, h5, hE⟩ := hp'
  unfold fX5_undo fX6_undo fX2_takeBackIn
  rw [h4, h5]
  rcases Nat.eq_zero_or_pos K with hz | hpos
  · subst hz
    rw [if_pos (show nI 0 = 0 from rfl), if_pos (show nI 0 = 0 from rfl)]
    exact ⟨_, _, _, _, _, _, _, _, rfl, rfl, h, ⟨0, hp⟩, rfl, rfl⟩
  obtain ⟨k, rfl⟩ : ∃ k, K = k + 1 := ⟨K - 1, by omega⟩
  have ok : okI (nI k) 10 := okI_nI (by omega) (by decide)
  have e1 : nI (4 * k) + 1 = nI (4 * k + 1) := nI_1 _
  have e2 : nI (4 * k) + 2 = nI (4 * k + 2) := nI_add (4 * k) 2
  have e3 : nI (4 * k) + 3 = nI (4 * k + 3) := nI_add (4 * k) 3
  have o0 : okI (nI (4 * k)) 40 := okI_nI (by omega) (by decide)
  have o1 : okI (nI (4 * k + 1)) 40 := okI_nI (by omega) (by decide)
  have o2 : okI (nI (4 * k + 2)) 40 := okI_nI (by omega) (by decide)
  have o3 : okI (nI (4 * k + 3)) 40 := okI_nI (by omega) (by decide)
  have hnz : ¬ nI (k + 1) = 0 := by rw [nIz (by omega)]; omega
  have hgt : (0 : Int32) < nI (k + 1) := by rw [fa_lt, nI_toInt (by omega), show (0 : Int32).toInt = 0 from rfl]; omega
  rw [if_neg hnz, if_neg hnz, if_pos hgt]
  simp only [nI_pr k (by omega), nI_4x k (by omega), e1, e2, e3, if_pos ok, if_pos o0, if_pos o1, if_pos o2, if_pos o3, bnd_e]
  rw [cl_nI (by omega), cl_nI (by omega), cl_nI (by omega), cl_nI (by omega), cl_nI (by omega)]
  have hpre : ∀ s', s' 0 = s 0 → s' 1 = s 1 → (∀ c, c < nC → s' (18 + c) = s (18 + c)) → PRel nC s' k (upd pO 4 (nI k)) pk pw pf ps (upd mO 5 (nI k)) un := fun s' a b c => ⟨by omega, rfl, rfl, fun q hq => PE_congr a b c (hE q (by omega))⟩
  rcases hE k (by omega) with ⟨kd, w, w1, w2, w3, w4, w5, w6, w7, w8⟩ | ⟨kd, c, c1, c2, c3, c4, c5, c6, c7⟩ | ⟨kd, c1, c2, c3, c4, c5⟩
  · have ow : okI (nI w) 4 := okI_nI w1 (by decide)
    have ow4 : okI (nI (4 + w)) 27 := okI_nI (by omega) (by decide)
    simp only [w2, w3, w4, w5, w6, if_pos kd, if_pos ow, if_pos ow4, Option.bind_some]
    rw [cl_nI (by omega), cl_nI (by omega), upd_twice]
    exact ⟨_, _, _, _, _, _, _, _, rfl, rfl, rr_sw h w1 w7 w8, ⟨k, hpre _ (upd_ne (by omega)) (upd_ne (by omega)) (fun c _ => upd_ne (by omega))⟩, rfl, rfl⟩
  · have oc : okI (nI c) 3 := okI_nI (by omega) (by decide)
    have o21 : okI (nI (21 + c)) 27 := okI_nI (by omega) (by decide)
    have o24 : okI (nI (24 + c)) 27 := okI_nI (by omega) (by decide)
    simp only [c2, c3, c4, c5, c6, if_neg (show ¬ pk k = 0 by rw [kd]; decide), if_pos kd, if_pos oc, if_pos o21, if_pos o24, Option.bind_some]
    rw [cl_nI (by omega), cl_nI (by omega), cl_nI (by omega)]
    exact ⟨_, _, _, _, _, _, _, _, rfl, rfl, rr_cur h c1 c7, ⟨k, hpre _ (by rw [upd_ne (by omega), upd_ne (by omega)]) (by rw [upd_ne (by omega), upd_ne (by omega)]) (fun c hc => by rw [upd_ne (by omega), upd_ne (by omega)])⟩, rfl, rfl⟩
  · have o2' : okI (2 : Int32) 27 := okI_nI (k := 2) (by omega) (by decide)
    have o3' : okI (3 : Int32) 27 := okI_nI (k := 3) (by omega) (by decide)
    simp only [c1, c2, c3, c4, if_neg (show ¬ pk k = 0 by rw [kd]; decide), if_neg (show ¬ pk k = 1 by rw [kd]; decide), if_pos o2', if_pos o3', Option.bind_some]
    exact ⟨_, _, _, _, _, _, _, _, rfl, rfl, rr_src h c5, ⟨k, hpre _ rfl rfl (fun c hc => by rw [show Int32.toNatClampNeg 3 = 3 from rfl, show Int32.toNatClampNeg 2 = 2 from rfl, upd_ne (by omega), upd_ne (by omega)])⟩, rfl, rfl⟩
end ACTS
/-! keep and back -/
def KRel (nS nC : Nat) (ik mik a0 a1 a2 a3 a4 a5 a6 b0 b1 b2 b3 b4 b5 b6 mk : Nat → Int32) : Prop := ik 0 = mik 0 ∧ ik 1 = mik 1 ∧ (¬ ik 0 = 0 → RRel nS nC a0 a1 a2 a3 a4 a5 a6 (fun j => mk j)) ∧ (¬ ik 1 = 0 → RRel nS nC b0 b1 b2 b3 b4 b5 b6 (fun j => mk (27 + j)))
theorem cpy_at {f g : Nat → Int32} {n q : Nat} (h : q < n) : va_cpy f g 0 0 n q = f q := by
  unfold va_cpy
  rw [if_pos (by omega), show 0 + (q - 0) = q by omega]
theorem upd6 {c0 c1 : Nat → Int32} {q : Nat} (h : q < 6) : upd (upd (upd (upd (upd (upd c0 0 (c1 0)) 1 (c1 1)) 2 (c1 2)) 3 (c1 3)) 4 (c1 4)) 5 (c1 5) q = c1 q := by
  have : q = 0 ∨ q = 1 ∨ q = 2 ∨ q = 3 ∨ q = 4 ∨ q = 5 := by omega
  rcases this with rfl | rfl | rfl | rfl | rfl | rfl <;> rfl
theorem rr_copy {nS nC : Nat} {cN sw sX sY cX cF cT s a0 a1 a2 a3 a4 a5 a6 s' : Nat → Int32} (h : RRel nS nC cN sw sX sY cX cF cT s) (hs : ∀ q, q < 27 → s' q = s q) : ∃ a0' a1' a2' a3' a4' a5' a6', fX3_copyFrom cN a0 sw a1 sX a2 sY a3 cX a4 cF a5 cT a6 = some (a0', a1', a2', a3', a4', a5', a6') ∧ RRel nS nC a0' a1' a2' a3' a4' a5' a6' s' ∧ a0' 2 = cN 2 ∧ a0' 3 = cN 3 :=
  ⟨_, _, _, _, _, _, _, rfl, rr_congr h (fun q hq => upd6 hq) (fun q hq => cpy_at hq) (fun q hq => cpy_at hq) (fun q hq => cpy_at hq) (fun q hq => cpy_at hq) (fun q hq => cpy_at hq) (fun q hq => cpy_at hq) hs, rfl, rfl⟩
def cpA (f g : Nat → Int32) (b n : Nat) : Nat → Int32 := fun q => if b ≤ q ∧ q < b + n then f (q - b) else g q
theorem cpA_0 (f g : Nat → Int32) (b : Nat) : cpA f g b 0 = g := by funext q; unfold cpA; rw [if_neg (by omega)]
theorem cpA_s (f g : Nat → Int32) (b n : Nat) : upd (cpA f g b n) (b + n) (f n) = cpA f g b (n + 1) := by
  funext q
  unfold upd cpA
  by_cases h : q = b + n
  · rw [if_pos h, if_pos (by omega), show q - b = n by omega]
  · rw [if_neg h]
    by_cases h2 : b ≤ q ∧ q < b + n
    · rw [if_pos h2, if_pos (by omega)]
    · rw [if_neg h2, if_neg (by omega)]
theorem nI_27 : ∀ k, k < 2 → (27 : Int32) * nI k = nI (27 * k) := by decide
section KEEP
variable {nS nC K : Nat} {cN sw sX sY cX cF cT s pO pk pw pf ps mO un ik mik a0 a1 a2 a3 a4 a5 a6 b0 b1 b2 b3 b4 b5 b6 mk : Nat → Int32}
theorem m_keep {k : Nat} (hk : k < 2) : LPX (fX6_keep_L13 mO s (nI k) mik) FU (0, mk) = some (100 * s 2 + s 3, cpA s mk (27 * k) 27, upd mik k 1) := by
  have e0 : ((0, mk) : Int32 × (Nat → Int32)) = (fun n => (nI n, cpA s mk (27 * k) n)) 0 := by
    show _ = (nI 0, cpA s mk (27 * k) 0)
    rw [cpA_0]; rfl
  rw [e0]
  refine LPX_det (F := fun n => (nI n, cpA s mk (27 * k) n)) 27 (fun n hn k' => ?_) (fun k' => ?_) (FU_lt (by decide))
  · simp only [fX6_keep_L13]
    have e : (27 : Int32) * nI k + nI n = nI (27 * k + n) := by rw [nI_27 k hk]; exact nI_add _ _
    rw [if_neg (show ¬ (27 : Int32) ≤ nI n by rw [fa_le, nI_toInt (by omega), show (27 : Int32).toInt = 27 from rfl]; omega), e, if_pos (okI_nI (show n < 27 by omega) (by decide)), if_pos (okI_nI (show 27 * k + n < 54 by omega) (by decide)), cl_nI (by omega), cl_nI (by omega), nI_1, cpA_s]
  · simp only [fX6_keep_L13, fX6_sourceAt]
    rw [if_pos (show (27 : Int32) ≤ nI 27 by decide), if_pos (okI_nI hk (by decide)), Option.bind_some, cl_nI (by omega)]
theorem m_back {k : Nat} (hk : k < 2) : LPX (fX6_back_L25 mik mk (nI k) mO) FU (0, s) = some (100 * mk (27 * k + 2) + mk (27 * k + 3), upd mO 5 0, cpW (fun j => mk (27 * k + j)) s 27) := by
  have e0 : ((0, s) : Int32 × (Nat → Int32)) = (fun n => (nI n, cpW (fun j => mk (27 * k + j)) s n)) 0 := by
    show _ = (nI 0, cpW (fun j => mk (27 * k + j)) s 0)
    rw [cpW_0]; rfl
  rw [e0]
  refine LPX_det (F := fun n => (nI n, cpW (fun j => mk (27 * k + j)) s n)) 27 (fun n hn k' => ?_) (fun k' => ?_) (FU_lt (by decide))
  · simp only [fX6_back_L25]
    have e : (27 : Int32) * nI k + nI n = nI (27 * k + n) := by rw [nI_27 k hk]; exact nI_add _ _
    rw [if_neg (show ¬ (27 : Int32) ≤ nI n by rw [fa_le, nI_toInt (by omega), show (27 : Int32).toInt = 27 from rfl]; omega), e, if_pos (okI_nI (show n < 27 by omega) (by decide)), if_pos (okI_nI (show 27 * k + n < 54 by omega) (by decide)), cl_nI (by omega), cl_nI (by omega), nI_1, cp_s rfl]
  · simp only [fX6_back_L25, fX6_sourceAt]
    rw [if_pos (show (27 : Int32) ≤ nI 27 by decide), Option.bind_some]
    rfl
theorem a_keep (h : RRel nS nC cN sw sX sY cX cF cT s) (hk : KRel nS nC ik mik a0 a1 a2 a3 a4 a5 a6 b0 b1 b2 b3 b4 b5 b6 mk) (x : Int32) :
    ∃ r b0' b1' b2' b3' b4' b5' b6' ik' a0' a1' a2' a3' a4' a5' a6' mk' mik', fX5_keep cN b0 sw b1 sX b2 sY b3 cX b4 cF b5 cT b6 ik a0 a1 a2 a3 a4 a5 a6 x = some (r, b0', b1', b2', b3', b4', b5', b6', ik', a0', a1', a2', a3', a4', a5', a6') ∧ fX6_keep mO s mk mik x = some (r, mk', mik') ∧ KRel nS nC ik' mik' a0' a1' a2' a3' a4' a5' a6' b0' b1' b2' b3' b4' b5' b6' mk' := by
  have h' := h
  obtain ⟨-, -, ⟨q0, q1, q2, q3, -⟩, -⟩ := h'
  unfold fX5_keep fX6_keep
  rw [e5_within, e6_in, Option.bind_some, Option.bind_some, b2_if, b2_if]
  cases hx : inB x 0 1 with
  | false => exact ⟨_, _, _, _, _, _, _, _, _, _, _, _, _, _, _, _, _, _, rfl, rfl, hk⟩
  | true =>
  simp only [if_true]
  obtain ⟨k1, k2, k3, k4⟩ := hk
  rcases in01 hx with rfl | rfl
  · obtain ⟨a0', a1', a2', a3', a4', a5', a6', c1, c2, c3, c4⟩ := rr_copy (a0 := a0) (a1 := a1) (a2 := a2) (a3 := a3) (a4 := a4) (a5 := a5) (a6 := a6) (s' := fun j => cpA s mk 0 27 j) h (fun q hq => by show cpA s mk 0 27 q = s q; unfold cpA; rw [if_pos (by omega)]; rfl)
    have hm : LPX (fX6_keep_L13 mO s 0 mik) FU (0, mk) = some (100 * s 2 + s 3, cpA s mk 0 27, upd mik 0 1) := m_keep (k := 0) (by omega)
    rw [if_pos (rfl : (0 : Int32) = 0), c1, hm, Option.bind_some, if_pos (show okI (0 : Int32) 2 from okI_nI (k := 0) (by omega) (by decide))]
    unfold fX3_sourceCode
    rw [Option.bind_some, q2, q3]
    refine ⟨_, _, _, _, _, _, _, _, _, _, _, _, _, _, _, _, _, _, rfl, rfl, rfl, k2, fun _ => c2, fun hn => ?_⟩
    refine rr_congr (k4 hn) (fun _ _ => rfl) (fun _ _ => rfl) (fun _ _ => rfl) (fun _ _ => rfl) (fun _ _ => rfl) (fun _ _ => rfl) (fun _ _ => rfl) (fun q hq => ?_)
    show cpA s mk 0 27 (27 + q) = mk (27 + q)
    unfold cpA
    rw [if_neg (by omega)]
  · obtain ⟨a0', a1', a2', a3', a4', a5', a6', c1, c2, c3, c4⟩ := rr_copy (a0 := b0) (a1 := b1) (a2 := b2) (a3 := b3) (a4 := b4) (a5 := b5) (a6 := b6) (s' := fun j => cpA s mk 27 27 (27 + j)) h (fun q hq => by show cpA s mk 27 27 (27 + q) = s q; unfold cpA; rw [if_pos (by omega), show 27 + q - 27 = q by omega])
    have hm : LPX (fX6_keep_L13 mO s 1 mik) FU (0, mk) = some (100 * s 2 + s 3, cpA s mk 27 27, upd mik 1 1) := m_keep (k := 1) (by omega)
    rw [if_neg (show ¬ (1 : Int32) = 0 by decide), if_pos (rfl : (1 : Int32) = 1), c1, hm, Option.bind_some, if_pos (show okI (1 : Int32) 2 from okI_nI (k := 1) (by omega) (by decide))]
    unfold fX3_sourceCode
    rw [Option.bind_some, q2, q3]
    refine ⟨_, _, _, _, _, _, _, _, _, _, _, _, _, _, _, _, _, _, rfl, rfl, k1, rfl, fun hn => ?_, fun _ => c2⟩
    refine rr_congr (k3 hn) (fun _ _ => rfl) (fun _ _ => rfl) (fun _ _ => rfl) (fun _ _ => rfl) (fun _ _ => rfl) (fun _ _ => rfl) (fun _ _ => rfl) (fun q hq => ?_)
    show cpA s mk 27 27 q = mk q
    unfold cpA
    rw [if_neg (by omega)]
theorem a_back (h : RRel nS nC cN sw sX sY cX cF cT s) (hp : PRel nC s K pO pk pw pf ps mO un) (hk : KRel nS nC ik mik a0 a1 a2 a3 a4 a5 a6 b0 b1 b2 b3 b4 b5 b6 mk) (x : Int32) :
    ∃ r cN' sw' sX' sY' cX' cF' cT' pO' mO' s', fX5_back ik b0 cN b1 sw b2 sX b3 sY b4 cX b5 cF b6 cT pO a0 a1 a2 a3 a4 a5 a6 x = some (r, cN', sw', sX', sY', cX', cF', cT', pO') ∧ fX6_back mO mik mk s x = some (r, mO', s') ∧ RRel nS nC cN' sw' sX' sY' cX' cF' cT' s' ∧ (∃ K', PRel nC s' K' pO' pk pw pf ps mO' un) ∧ mO' 9 = mO 9 ∧ mO' 11 = mO 11 := by
  unfold fX5_back fX6_back
  rw [e5_within, e6_in, Option.bind_some, Option.bind_some, b2_if, b2_if]
  cases hx : inB x 0 1 with
  | false => exact ⟨_, _, _, _, _, _, _, _, _, _, _, rfl, rfl, h, ⟨K, hp⟩, rfl, rfl⟩
  | true =>
  simp only [if_true]
  obtain ⟨k1, k2, k3, k4⟩ := hk
  have hp0 : ∀ s', PRel nC s' 0 (upd pO 4 0) pk pw pf ps (upd mO 5 0) un := fun s' => ⟨by omega, rfl, rfl, fun k hk => by omega⟩
  rcases in01 hx with rfl | rfl
  · have ok : okI (0 : Int32) 2 := okI_nI (k := 0) (by omega) (by decide)
    rw [if_pos ok, if_pos ok, show Int32.toNatClampNeg 0 = 0 from rfl, ← k1]
    by_cases hz : ik 0 = 0
    · rw [if_pos hz, if_pos hz]
      exact ⟨_, _, _, _, _, _, _, _, _, _, _, rfl, rfl, h, ⟨K, hp⟩, rfl, rfl⟩
    · have hm : LPX (fX6_back_L25 mik mk 0 mO) FU (0, s) = some (100 * mk (27 * 0 + 2) + mk (27 * 0 + 3), upd mO 5 0, cpW (fun j => mk (27 * 0 + j)) s 27) := m_back (k := 0) (by omega)
      have hr := k3 hz
      have hr' := hr
      obtain ⟨-, -, ⟨q0, q1, q2, q3, -⟩, -⟩ := hr'
      obtain ⟨a0', a1', a2', a3', a4', a5', a6', c1, c2, c3, c4⟩ := rr_copy (a0 := cN) (a1 := sw) (a2 := sX) (a3 := sY) (a4 := cX) (a5 := cF) (a6 := cT) (s' := cpW (fun j => mk (27 * 0 + j)) s 27) hr (fun q hq => by unfold cpW; rw [if_pos hq]; show mk (27 * 0 + q) = mk q; rw [show 27 * 0 + q = q by omega])
      rw [if_neg hz, if_neg hz, if_pos (rfl : (0 : Int32) = 0), c1, hm, Option.bind_some]
      unfold fX3_sourceCode
      rw [Option.bind_some]
      dsimp only
      rw [c3, c4, q2, q3]
      exact ⟨_, _, _, _, _, _, _, _, _, _, _, rfl, rfl, c2, ⟨0, hp0 _⟩, rfl, rfl⟩
  · have ok : okI (1 : Int32) 2 := okI_nI (k := 1) (by omega) (by decide)
    rw [if_pos ok, if_pos ok, show Int32.toNatClampNeg 1 = 1 from rfl, ← k2]
    by_cases hz : ik 1 = 0
    · rw [if_pos hz, if_pos hz]
      exact ⟨_, _, _, _, _, _, _, _, _, _, _, rfl, rfl, h, ⟨K, hp⟩, rfl, rfl⟩
    · have hm : LPX (fX6_back_L25 mik mk 1 mO) FU (0, s) = some (100 * mk (27 * 1 + 2) + mk (27 * 1 + 3), upd mO 5 0, cpW (fun j => mk (27 * 1 + j)) s 27) := m_back (k := 1) (by omega)
      have hr := k4 hz
      have hr' := hr
      obtain ⟨-, -, ⟨q0, q1, q2, q3, -⟩, -⟩ := hr'
      obtain ⟨a0', a1', a2', a3', a4', a5', a6', c1, c2, c3, c4⟩ := rr_copy (a0 := cN) (a1 := sw) (a2 := sX) (a3 := sY) (a4 := cX) (a5 := cF) (a6 := cT) (s' := cpW (fun j => mk (27 * 1 + j)) s 27) hr (fun q hq => by unfold cpW; rw [if_pos hq])
      rw [if_neg hz, if_neg hz, if_neg (show ¬ (1 : Int32) = 0 by decide), if_pos (rfl : (1 : Int32) = 1), c1, hm, Option.bind_some]
      unfold fX3_sourceCode
      rw [Option.bind_some]
      dsimp only
      rw [c3, c4, q2, q3]
      exact ⟨_, _, _, _, _, _, _, _, _, _, _, rfl, rfl, c2, ⟨0, hp0 _⟩, rfl, rfl⟩
end KEEP
