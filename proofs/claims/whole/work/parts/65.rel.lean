/-! THE ROOM on both sides -/
def RRel (nS nC : Nat) (cN sw sX sY cX cF cT s : Nat → Int32) : Prop :=
  nS ≤ 4 ∧ nC ≤ 3 ∧ (cN 0 = s 0 ∧ cN 1 = s 1 ∧ cN 2 = s 2 ∧ cN 3 = s 3 ∧ cN 4 = nI nS ∧ s 8 = nI nS ∧ cN 5 = nI nC ∧ s 17 = nI nC) ∧ (∀ w, w < 4 → sw w = s (4 + w)) ∧ (∀ k, k < nS → sX k = s (9 + k) ∧ sY k = s (13 + k)) ∧ (∀ c, c < nC → cX c = s (18 + c) ∧ cF c = s (21 + c) ∧ cT c = s (24 + c)) ∧ RV (s 0) (s 1) (s 2) (s 3) ∧ (∀ w, w < 4 → 0 ≤ (s (4 + w)).toInt ∧ (s (4 + w)).toInt ≤ 10) ∧ (∀ k, k < nS → PV (s 0) (s 1) (s (9 + k)) (s (13 + k))) ∧ (∀ c, c < nC → CV (s 0) (s 1) (s (18 + c)) (s (21 + c)) (s (24 + c)))
def seatB (nS : Nat) (x : Int32) : Bool := decide (0 ≤ x.toInt ∧ x.toInt < nS)
theorem seatB_ex {nS : Nat} {x : Int32} (h : seatB nS x = true) : ∃ k, k < nS ∧ x = nI k := by
  have h := of_decide_eq_true h
  exact nI_ex h.1 h.2
theorem e3_seat {cN : Nat → Int32} {nS : Nat} (hn : nS ≤ 4) (h : cN 4 = nI nS) (x : Int32) : fX3_hasSeat cN x = some (b2 (seatB nS x)) := by
  simp only [fX3_hasSeat, fa_lt, fa_le, h, nI_toInt (show nS < 2 ^ 31 by omega), b2, seatB, decide_eq_true_eq, show (0 : Int32).toInt = 0 from rfl]
  split
  · rw [if_neg (by omega)]
  · split
    · rw [if_neg (by omega)]
    · rw [if_pos (by omega)]
theorem e3_cur {cN : Nat → Int32} {nC : Nat} (hn : nC ≤ 3) (h : cN 5 = nI nC) (x : Int32) : fX3_hasCurtain cN x = some (b2 (seatB nC x)) := by
  simp only [fX3_hasCurtain, fa_lt, fa_le, h, nI_toInt (show nC < 2 ^ 31 by omega), b2, seatB, decide_eq_true_eq, show (0 : Int32).toInt = 0 from rfl]
  split
  · rw [if_neg (by omega)]
  · split
    · rw [if_neg (by omega)]
    · rw [if_pos (by omega)]
theorem in_pred {n : Nat} (hn : n ≤ 4) (x : Int32) : inB x 0 (nI n - 1) = seatB n x := by
  have e : (nI n - 1).toInt = (n : Int) - 1 := by
    rw [fb_subI (by rw [nI_toInt (by omega), show (1 : Int32).toInt = 1 from rfl]; omega) (by rw [nI_toInt (by omega), show (1 : Int32).toInt = 1 from rfl]; omega), nI_toInt (by omega)]
    rfl
  unfold inB seatB
  rw [e, show (0 : Int32).toInt = 0 from rfl]
  congr 1
  exact propext ⟨fun h => by omega, fun h => by omega⟩
theorem e6_seat {c0 s : Nat → Int32} {nS : Nat} (hn : nS ≤ 4) (h : s 8 = nI nS) (x : Int32) : fX6_isSeat c0 s x = some (b2 (seatB nS x)) := by
  unfold fX6_isSeat
  rw [e6_in, Option.bind_some, if_pos (b2_01 _), h, in_pred hn]
theorem e6_cur {c0 s : Nat → Int32} {nC : Nat} (hn : nC ≤ 3) (h : s 17 = nI nC) (x : Int32) : fX6_isCurtain c0 s x = some (b2 (seatB nC x)) := by
  unfold fX6_isCurtain
  rw [e6_in, Option.bind_some, if_pos (b2_01 _), h, in_pred (by omega)]
/-! hearing at a seat -/
theorem bnd_e {α β : Type} (x : α) (k : α → Option β) : bnd x k = k x := rfl
def s4 (s : Nat → Int32) : Nat → Int32 := fun w => s (4 + w)
def hdF (s : Nat → Int32) (nC k : Nat) : II → Bool := fun p => hidB (s 0) (s 1) (s 2) (s 3) (fun c => s (18 + c)) (fun c => s (21 + c)) (fun c => s (24 + c)) nC p.1 p.2 (s (9 + k)) (s (13 + k))
def waF (s : Nat → Int32) (k : Nat) : II → Int32 := fun p => wy (s 0) (s 1) (s 2) (s 3) p.1 p.2 (s (9 + k)) (s (13 + k))
def tiF (s : Nat → Int32) (k : Nat) : II → Int32 := fun p => tim (waF s k p)
def snF (sw s : Nat → Int32) (k : Nat) : II → Int32 := fun p => str sw p.1 p.2 (waF s k p)
theorem waF_rng {nS nC k : Nat} {cN sw sX sY cX cF cT s : Nat → Int32} (h : RRel nS nC cN sw sX sY cX cF cT s) (hk : k < nS) {i j : Int32} (hi : imgB i j = true) : 0 ≤ (waF s k (i, j)).toInt ∧ (waF s k (i, j)).toInt ≤ 6800 := by
  obtain ⟨-, -, -, -, -, -, hR, -, hP, -⟩ := h
  exact wy_rng hR (hP k hk) hi
theorem c_hear {nS nC k : Nat} {cN sw sX sY cX cF cT s c0 tm0 is0 js0 wa0 st0 : Nat → Int32} (h : RRel nS nC cN sw sX sY cX cF cT s) (hk : k < nS) :
    fX0_hearAtSeat c0 cN sX sY cX cF cT tm0 is0 js0 wa0 st0 sw (nI k) = some (earE c0 tm0 is0 js0 wa0 st0 (tiF s k) (waF s k) (snF (s4 s) s k) (HL (hdF s nC k))) := by
  have hw := fun {i j : Int32} (hi : imgB i j = true) => waF_rng h hk hi
  obtain ⟨hS4, hC3, ⟨q0, q1, q2, q3, q4, q5, q6, q7⟩, hsw, hse, hcu, hR, hw10, hP, hC⟩ := h
  have ok : okI (nI k) 4 := okI_nI (by omega) (by decide)
  unfold fX0_hearAtSeat
  have hsb : seatB nS (nI k) = true := decide_eq_true (by rw [nI_toInt (by omega)]; omega)
  rw [e3_seat hS4 q4, Option.bind_some, hsb, b2_if, if_pos rfl, if_pos ok, bnd_e, if_pos ok, bnd_e, cl_nI (by omega), (hse k hk).1, (hse k hk).2]
  refine e0_hear_loop (hdF s nC k) (tiF s k) (waF s k) (snF (s4 s) s k) ?_ ?_ ?_ ?_
  · intro i j hi
    obtain ⟨i3, j3⟩ := imgB_3 hi
    rw [e3_hid (nC := nC) (by rw [q0, q1, q2, q3]; exact hR) q6 hC3 (fun c hc => by rw [q0, q1, (hcu c hc).1, (hcu c hc).2.1, (hcu c hc).2.2]; exact hC c hc) (by rw [q0, q1]; exact hP k hk) i3 j3, q0, q1, q2, q3, hidB_cong hcu]
    rfl
  · intro i j hi
    rw [e3_way, q0, q1, q2, q3]
    rfl
  · intro i j hi
    exact (tim_ok (hw hi).1 (hw hi).2).1
  · intro i j hi
    rw [e5_str sw hi (hw hi).1 (hw hi).2, str_congr hsw]
    rfl
theorem m_hears {nS nC k : Nat} {cN sw sX sY cX cF cT s c0 tm0 st0 wh0 sw6 : Nat → Int32} (h : RRel nS nC cN sw sX sY cX cF cT s) (hk : k < nS) :
    fX6_hears c0 s tm0 sw6 st0 wh0 (nI k) = some (upd c0 20 (nI (HL (hdF s nC k)).length), putL tm0 ((HL (hdF s nC k)).map (tiF s k)), putL st0 ((HL (hdF s nC k)).map (snF sw6 s k)), putL wh0 ((HL (hdF s nC k)).map cod)) := by
  have hw := fun {i j : Int32} (hi : imgB i j = true) => waF_rng h hk hi
  obtain ⟨hS4, hC3, ⟨q0, q1, q2, q3, q4, q5, q6, q7⟩, hsw, hse, hcu, hR, hw10, hP, hC⟩ := h
  have e9 : (9 : Int32) + nI k = nI (9 + k) := nI_add 9 k
  have e13 : (13 : Int32) + nI k = nI (13 + k) := nI_add 13 k
  unfold fX6_hears
  rw [e9, e13, if_pos (okI_nI (by omega) (by decide)), bnd_e, if_pos (okI_nI (by omega) (by decide)), bnd_e, cl_nI (by omega), cl_nI (by omega)]
  refine e6_hears_loop (hdF s nC k) (waF s k) (tiF s k) (snF sw6 s k) ?_ ?_ ?_ ?_
  · intro e0 i j hi
    obtain ⟨i3, j3⟩ := imgB_3 hi
    rw [e6_hid hR q7 hC3 hC (hP k hk) i3 j3]
    rfl
  · intro e0 i j hi
    obtain ⟨i3, j3⟩ := imgB_3 hi
    rw [e6_way _ _ _ _ i3 j3]
    rfl
  · intro i j hi
    exact (tim_ok (hw hi).1 (hw hi).2).2.1
  · intro e0 i j hi
    exact e6_str e0 sw6 hi (hw hi).1 (hw hi).2
/-- rows copied in part -/
def cpW (f g : Nat → Int32) (w : Nat) : Nat → Int32 := fun k => if k < w then f k else g k
theorem cpW_0 (f g : Nat → Int32) : cpW f g 0 = g := by funext k; unfold cpW; rw [if_neg (by omega)]
theorem cpW_s (f g : Nat → Int32) (w : Nat) : upd (cpW f g w) w (f w) = cpW f g (w + 1) := by
  funext k
  unfold upd cpW
  by_cases h : k = w
  · rw [if_pos h, if_pos (by omega), h]
  · rw [if_neg h]
    by_cases h2 : k < w
    · rw [if_pos h2, if_pos (by omega)]
    · rw [if_neg h2, if_neg (by omega)]
theorem e6_swNow (c0 s sw : Nat → Int32) : fX6_swallowsNow c0 s sw = some (cpW (s4 s) sw 4) := by
  unfold fX6_swallowsNow
  have e0 : ((0, sw) : Int32 × (Nat → Int32)) = (fun w => (nI w, cpW (s4 s) sw w)) 0 := by
    show _ = (nI 0, cpW (s4 s) sw 0)
    rw [cpW_0]; rfl
  rw [e0]
  refine LPX_det (F := fun w => (nI w, cpW (s4 s) sw w)) 4 (fun w hw k => ?_) (fun k => ?_) (FU_lt (by decide))
  · have e4 : (4 : Int32) + nI w = nI (4 + w) := nI_add 4 w
    simp only [fX6_swallowsNow_L2]
    rw [if_neg (show ¬ (4 : Int32) ≤ nI w by rw [fa_le, nI_toInt (by omega), show (4 : Int32).toInt = 4 from rfl]; omega), e4, if_pos (okI_nI (by omega) (by decide)), if_pos (okI_nI hw (by decide)), cl_nI (by omega), cl_nI (by omega), nI_1, ← cpW_s]
    rfl
  · simp only [fX6_swallowsNow_L2]
    rw [if_pos (show (4 : Int32) ≤ nI 4 by decide)]
theorem snF_sw {sw sw' s : Nat → Int32} {k : Nat} (h : ∀ w, w < 4 → sw w = sw' w) : snF sw s k = snF sw' s k := by
  funext p
  exact str_congr h _ _ _
theorem m_hearsNow {nS nC k : Nat} {cN sw sX sY cX cF cT s c0 tm0 st0 wh0 sw6 : Nat → Int32} (h : RRel nS nC cN sw sX sY cX cF cT s) (hk : k < nS) :
    fX6_hearsNow c0 s sw6 tm0 st0 wh0 (nI k) = some (upd c0 20 (nI (HL (hdF s nC k)).length), cpW (s4 s) sw6 4, putL tm0 ((HL (hdF s nC k)).map (tiF s k)), putL st0 ((HL (hdF s nC k)).map (snF (s4 s) s k)), putL wh0 ((HL (hdF s nC k)).map cod)) := by
  unfold fX6_hearsNow
  rw [e6_swNow, Option.bind_some, m_hears h hk, Option.bind_some, snF_sw (sw := cpW (s4 s) sw6 4) (sw' := s4 s) (fun w hw => by unfold cpW; rw [if_pos hw])]
