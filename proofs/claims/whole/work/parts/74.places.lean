/-! finding the places: both sides -/
section PLC
variable {Q Ln Bn : Nat} {fO fi fj ft mO si sj st cN s pX pY : Nat → Int32}
def posB (s si sj st : Nat → Int32) (Q : Nat) : Nat → Nat → Bool := fun x y => pzB s si sj st (nI x) (nI y) Q
def plE (fO pX pY : Nat → Int32) (l : List NN) : (Nat → Int32) × (Nat → Int32) × (Nat → Int32) := (upd fO 6 (nI l.length), putL pX (l.map (fun p => nI p.1)), putL pY (l.map (fun p => nI p.2)))
theorem PV_nI (h0 : s 0 = nI Ln) (h1 : s 1 = nI Bn) (hL : Ln ≤ 20) (hB : Bn ≤ 20) {x y : Nat} (hx : x ≤ Ln) (hy : y ≤ Bn) : PV (s 0) (s 1) (nI x) (nI y) := by
  unfold PV
  rw [h0, h1, nI_toInt (by omega), nI_toInt (by omega), nI_toInt (by omega), nI_toInt (by omega)]
  omega
theorem c_find (h : SRel Q fO fi fj ft mO si sj st) (q0 : cN 0 = s 0) (q1 : cN 1 = s 1) (q2 : cN 2 = s 2) (q3 : cN 3 = s 3) (hR : RV (s 0) (s 1) (s 2) (s 3)) (h0 : s 0 = nI Ln) (h1 : s 1 = nI Bn) (hL : Ln ≤ 20) (hB : Bn ≤ 20) :
    fX1_findPlaces fO cN fi fj ft pX pY = some (plE fO pX pY (prows (posB s si sj st Q) Bn (Ln + 1))) := by
  have inner : ∀ (x : Nat) (hx : x ≤ Ln) (k7 : (Int32 × (Nat → Int32) × (Nat → Int32) × (Nat → Int32)) → Option ((Nat → Int32) × (Nat → Int32) × (Nat → Int32))), LPX (fX1_findPlaces_L17 cN fi fj ft (nI x) k7) FU (0, plE fO pX pY (PLs (posB s si sj st Q) Bn x 0)) = k7 (nI x + 1, plE fO pX pY (PLs (posB s si sj st Q) Bn (x + 1) 0)) := by
    intro x hx k7
    refine LPX_det (F := fun y => (nI y, plE fO pX pY (PLs (posB s si sj st Q) Bn x y))) (Bn + 1) (fun y hy k => ?_) (fun k => ?_) (FU_lt (by omega))
    · have hlen := pl_lt (P := posB s si sj st Q) (B := Bn) (x := x) (y := y) hB (by omega) (by omega)
      have hpo : ∀ e : Nat → Int32, e 3 = fO 3 → fX1_isPossible e fi fj cN ft (nI x) (nI y) = some (b2 (posB s si sj st Q x y)) := fun e he => c_poss h q0 q1 q2 q3 hR (PV_nI h0 h1 hL hB hx (by omega)) he
      have hps := pl_s (P := posB s si sj st Q) (B := Bn) (x := x) (y := y)
      show fX1_findPlaces_L17 cN fi fj ft (nI x) k7 k (nI y, upd fO 6 (nI (PLs (posB s si sj st Q) Bn x y).length), putL pX ((PLs (posB s si sj st Q) Bn x y).map (fun p => nI p.1)), putL pY ((PLs (posB s si sj st Q) Bn x y).map (fun p => nI p.2))) = k (nI (y + 1), plE fO pX pY (PLs (posB s si sj st Q) Bn x (y + 1)))
      rw [hps]
      generalize PLs (posB s si sj st Q) Bn x y = l at *
      simp only [fX1_findPlaces_L17, plE]
      rw [if_neg (show ¬ cN 1 < nI y by rw [q1, h1, fa_lt, nI_toInt (by omega), nI_toInt (by omega)]; omega), hpo (upd fO 6 (nI l.length)) rfl, Option.bind_some, b2_if, upd_self, if_neg (show ¬ (441 : Int32) ≤ nI l.length by rw [fa_le, nI_toInt (by omega), show (441 : Int32).toInt = 441 from rfl]; omega), if_pos (okI_nI hlen (by decide)), if_pos (okI_nI hlen (by decide)), nI_1, nI_1, cl_nI (by omega), upd_twice]
      cases hz : posB s si sj st Q x y with
      | false => simp
      | true =>
        simp only [if_true, List.map_append, List.map_cons, List.map_nil, List.length_append, List.length_singleton]
        rw [← putL_add, ← putL_add, List.length_map, List.length_map]
    · show fX1_findPlaces_L17 cN fi fj ft (nI x) k7 k (nI (Bn + 1), (plE fO pX pY (PLs (posB s si sj st Q) Bn x (Bn + 1))).1, (plE fO pX pY (PLs (posB s si sj st Q) Bn x (Bn + 1))).2.1, (plE fO pX pY (PLs (posB s si sj st Q) Bn x (Bn + 1))).2.2) = _
      simp only [fX1_findPlaces_L17]
      rw [if_pos (show cN 1 < nI (Bn + 1) by rw [q1, h1, fa_lt, nI_toInt (by omega), nI_toInt (by omega)]; omega), pl_e]
  unfold fX1_findPlaces
  refine LPX_det (F := fun x => (nI x, plE fO pX pY (PLs (posB s si sj st Q) Bn x 0))) (Ln + 1) (fun x hx k => ?_) (fun k => ?_) (FU_lt (by omega))
  · have hi := inner x (by omega) k
    rw [nI_1] at hi
    show fX1_findPlaces_L7 cN fi fj ft k (nI x, (plE fO pX pY (PLs (posB s si sj st Q) Bn x 0)).1, (plE fO pX pY (PLs (posB s si sj st Q) Bn x 0)).2.1, (plE fO pX pY (PLs (posB s si sj st Q) Bn x 0)).2.2) = _
    simp only [fX1_findPlaces_L7]
    rw [if_neg (show ¬ cN 0 < nI x by rw [q0, h0, fa_lt, nI_toInt (by omega), nI_toInt (by omega)]; omega)]
    exact hi
  · show fX1_findPlaces_L7 cN fi fj ft k (nI (Ln + 1), (plE fO pX pY (PLs (posB s si sj st Q) Bn (Ln + 1) 0)).1, (plE fO pX pY (PLs (posB s si sj st Q) Bn (Ln + 1) 0)).2.1, (plE fO pX pY (PLs (posB s si sj st Q) Bn (Ln + 1) 0)).2.2) = _
    simp only [fX1_findPlaces_L7]
    rw [if_pos (show cN 0 < nI (Ln + 1) by rw [q0, h0, fa_lt, nI_toInt (by omega), nI_toInt (by omega)]; omega), pl_0]
theorem m_count (h : SRel Q fO fi fj ft mO si sj st) (hR : RV (s 0) (s 1) (s 2) (s 3)) (h0 : s 0 = nI Ln) (h1 : s 1 = nI Bn) (hL : Ln ≤ 20) (hB : Bn ≤ 20) :
    fX6_places mO s si sj st 0 = some (nI (prows (posB s si sj st Q) Bn (Ln + 1)).length) := by
  have inner : ∀ (x : Nat) (hx : x ≤ Ln) (k4 : (Int32 × Int32) → Option Int32), LPX (fX6_places_L17 mO s si sj st 0 (nI x) k4) FU (nI (PLs (posB s si sj st Q) Bn x 0).length, 0) = k4 (nI (PLs (posB s si sj st Q) Bn (x + 1) 0).length, nI x + 1) := by
    intro x hx k4
    refine LPX_det (F := fun y => (nI (PLs (posB s si sj st Q) Bn x y).length, nI y)) (Bn + 1) (fun y hy k => ?_) (fun k => ?_) (FU_lt (by omega))
    · have hpo : fX6_mayBe mO si sj s st (nI x) (nI y) = some (b2 (posB s si sj st Q x y)) := m_poss h hR (PV_nI h0 h1 hL hB hx (by omega))
      simp only [fX6_places_L17]
      rw [if_neg (show ¬ s 1 < nI y by rw [h1, fa_lt, nI_toInt (by omega), nI_toInt (by omega)]; omega), hpo, Option.bind_some, b2_if, if_pos trivial, pl_s, nI_1, nI_1]
      cases hz : posB s si sj st Q x y with
      | false => simp
      | true => simp
    · simp only [fX6_places_L17]
      rw [if_pos (show s 1 < nI (Bn + 1) by rw [h1, fa_lt, nI_toInt (by omega), nI_toInt (by omega)]; omega), pl_e]
  unfold fX6_places
  refine LPX_det (F := fun x => (nI (PLs (posB s si sj st Q) Bn x 0).length, nI x)) (Ln + 1) (fun x hx k => ?_) (fun k => ?_) (FU_lt (by omega))
  · simp only [fX6_places_L4]
    rw [if_neg (show ¬ s 0 < nI x by rw [h0, fa_lt, nI_toInt (by omega), nI_toInt (by omega)]; omega), inner x (by omega), nI_1]
  · simp only [fX6_places_L4]
    rw [if_pos (show s 0 < nI (Ln + 1) by rw [h0, fa_lt, nI_toInt (by omega), nI_toInt (by omega)]; omega), if_pos trivial, pl_0]
/-- the first of them -/
def fst1 (l : List NN) : Int32 := match l with
  | [] => -9
  | p :: _ => 100 * nI p.1 + nI p.2
theorem pre_ne {l m : List NN} {p : NN} (h : [p] <+: m) : ∃ r, m = p :: r := by
  obtain ⟨r, hr⟩ := h
  exact ⟨r, hr.symm⟩
theorem m_first (h : SRel Q fO fi fj ft mO si sj st) (hR : RV (s 0) (s 1) (s 2) (s 3)) (h0 : s 0 = nI Ln) (h1 : s 1 = nI Bn) (hL : Ln ≤ 20) (hB : Bn ≤ 20) :
    fX6_places mO s si sj st 1 = some (fst1 (prows (posB s si sj st Q) Bn (Ln + 1))) := by
  have inner : ∀ (x : Nat) (hx : x ≤ Ln), PLs (posB s si sj st Q) Bn x 0 = [] → ((∀ k4, LPX (fX6_places_L17 mO s si sj st 1 (nI x) k4) FU (0, 0) = k4 (0, nI x + 1)) ∧ PLs (posB s si sj st Q) Bn (x + 1) 0 = []) ∨ (∀ k4, LPX (fX6_places_L17 mO s si sj st 1 (nI x) k4) FU (0, 0) = some (fst1 (prows (posB s si sj st Q) Bn (Ln + 1)))) := by
    intro x hx hemp
    have hpo : ∀ y, y ≤ Bn → fX6_mayBe mO si sj s st (nI x) (nI y) = some (b2 (posB s si sj st Q x y)) := fun y hy => m_poss h hR (PV_nI h0 h1 hL hB hx hy)
    have hstep : ∀ y, y ≤ Bn → ∀ k4 k, fX6_places_L17 mO s si sj st 1 (nI x) k4 k (0, nI y) = if posB s si sj st Q x y then some (100 * nI x + nI y) else k (0, nI (y + 1)) := by
      intro y hy k4 k
      simp only [fX6_places_L17]
      rw [if_neg (show ¬ s 1 < nI y by rw [h1, fa_lt, nI_toInt (by omega), nI_toInt (by omega)]; omega), hpo y hy, Option.bind_some, b2_if, if_neg (show ¬ (1 : Int32) = 0 by decide), nI_1]
    by_cases hall : PLs (posB s si sj st Q) Bn (x + 1) 0 = []
    · left
      refine ⟨fun k4 => ?_, hall⟩
      have hno : ∀ y, y ≤ Bn → posB s si sj st Q x y = false := by
        intro y hy
        cases hz : posB s si sj st Q x y with
        | false => rfl
        | true =>
          have := (pl_at (P := posB s si sj st Q) hy (show x < x + 1 by omega) hz).1
          rw [← pl_0, hall] at this
          simp at this
      refine LPX_det (F := fun y => (0, nI y)) (Bn + 1) (fun y hy k => ?_) (fun k => ?_) (FU_lt (by omega))
      · rw [hstep y (by omega), hno y (by omega)]; rfl
      · simp only [fX6_places_L17]
        rw [if_pos (show s 1 < nI (Bn + 1) by rw [h1, fa_lt, nI_toInt (by omega), nI_toInt (by omega)]; omega)]
    · right
      intro k4
      refine LPX_rule (I := fun y v => v = (0, nI y) ∧ PLs (posB s si sj st Q) Bn x y = []) (Bn + 1) ?_ ?_ FU 0 (0, 0) (by show Bn + 1 < 4000 + 0; omega) (by omega) ⟨rfl, hemp⟩
      · rintro y _ hy ⟨rfl, he⟩
        cases hz : posB s si sj st Q x y with
        | false =>
          left
          refine ⟨(0, nI (y + 1)), ⟨rfl, ?_⟩, fun k => ?_⟩
          · rw [pl_s, he, hz]; rfl
          · rw [hstep y (by omega), hz]; rfl
        | true =>
          right
          intro k
          have hp := pl_pre (P := posB s si sj st Q) (B := Bn) (x := x) (y := y + 1) (by omega) (show x < Ln + 1 by omega)
          rw [pl_s, he, hz] at hp
          obtain ⟨r, hr⟩ := pre_ne (l := []) hp
          rw [hstep y (by omega), hz, hr]
          rfl
      · rintro _ ⟨rfl, he⟩ k
        rw [pl_e] at he
        exact absurd he hall
  unfold fX6_places
  refine LPX_rule (I := fun x v => v = (0, nI x) ∧ PLs (posB s si sj st Q) Bn x 0 = []) (Ln + 1) ?_ ?_ FU 0 (0, 0) (by show Ln + 1 < 4000 + 0; omega) (by omega) ⟨rfl, rfl⟩
  · rintro x _ hx ⟨rfl, he⟩
    have hst : ∀ k, fX6_places_L4 mO s si sj st 1 k (0, nI x) = LPX (fX6_places_L17 mO s si sj st 1 (nI x) k) FU (0, 0) := by
      intro k
      simp only [fX6_places_L4]
      rw [if_neg (show ¬ s 0 < nI x by rw [h0, fa_lt, nI_toInt (by omega), nI_toInt (by omega)]; omega)]
    rcases inner x (by omega) he with ⟨a, b⟩ | a
    · left
      refine ⟨(0, nI (x + 1)), ⟨rfl, b⟩, fun k => ?_⟩
      rw [hst, a, nI_1]
    · right
      intro k
      rw [hst, a]
  · rintro _ ⟨rfl, he⟩ k
    simp only [fX6_places_L4]
    rw [if_pos (show s 0 < nI (Ln + 1) by rw [h0, fa_lt, nI_toInt (by omega), nI_toInt (by omega)]; omega), if_neg (show ¬ (1 : Int32) = 0 by decide)]
    rw [pl_0] at he
    rw [he]; rfl
theorem prows_le (hL : Ln ≤ 20) (hB : Bn ≤ 20) (P : Nat → Nat → Bool) : (prows P Bn (Ln + 1)).length ≤ 441 := by
  have h1 := prows_len (P := P) (B := Bn) (x := Ln + 1)
  have h3 : (Ln + 1) * (Bn + 1) ≤ 21 * 21 := Nat.mul_le_mul (by omega) (by omega)
  omega
theorem a_unseen (h : SRel Q fO fi fj ft mO si sj st) (q0 : cN 0 = s 0) (q1 : cN 1 = s 1) (q2 : cN 2 = s 2) (q3 : cN 3 = s 3) (hR : RV (s 0) (s 1) (s 2) (s 3)) (h0 : s 0 = nI Ln) (h1 : s 1 = nI Bn) (hL : Ln ≤ 20) (hB : Bn ≤ 20) (w : Int32) :
    ∃ r fO' pX' pY', fX5_unseen fO cN fi fj ft pX pY w = some (r, fO', pX', pY') ∧ fX6_unseen mO s si sj st w = some r ∧ fO' 3 = fO 3 := by
  unfold fX5_unseen fX6_unseen
  rw [e5_within, e6_in, Option.bind_some, Option.bind_some, b2_if, b2_if]
  cases hx : inB w 0 1 with
  | false => exact ⟨_, _, _, _, rfl, rfl, rfl⟩
  | true =>
  simp only [if_true]
  rw [c_find h q0 q1 q2 q3 hR h0 h1 hL hB, m_count h hR h0 h1 hL hB, m_first h hR h0 h1 hL hB, Option.bind_some, Option.bind_some, Option.bind_some]
  have hlen := prows_le hL hB (posB s si sj st Q)
  generalize prows (posB s si sj st Q) Bn (Ln + 1) = l at *
  simp only [plE, upd_self]
  rcases in01 hx with rfl | rfl
  · exact ⟨_, _, _, _, rfl, rfl, rfl⟩
  · rw [if_neg (show ¬ (1 : Int32) = 0 by decide), if_pos (rfl : (1 : Int32) = 1)]
    cases l with
    | nil =>
      rw [if_pos (show nI ([] : List NN).length ≤ 0 by decide)]
      exact ⟨_, _, _, _, rfl, rfl, rfl⟩
    | cons p r =>
      rw [if_neg (show ¬ nI (p :: r).length ≤ 0 by rw [fa_le, nI_toInt (by omega), show (0 : Int32).toInt = 0 from rfl, List.length_cons]; omega)]
      exact ⟨_, _, _, _, rfl, rfl, rfl⟩
end PLC
