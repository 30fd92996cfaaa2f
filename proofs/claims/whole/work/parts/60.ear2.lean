def rsU (u : Nat) : Nat := if u ≤ 3 then u else 6 - u
theorem img_row : ∀ u, u < 7 → ∀ v, v < 7 → imgB (Kn u) (Kn v) = decide (3 - rsU u ≤ v ∧ v ≤ 3 + rsU u) := by decide +kernel
theorem rest_row : ∀ u, u < 7 → (3 - (if 0 ≤ Kn u then Kn u else 0 - Kn u)) = nI (rsU u) ∧ -(nI (rsU u)) = Kn (3 - rsU u) := by decide +kernel
theorem rsU_le (u : Nat) (h : u < 7) : rsU u ≤ 3 := by unfold rsU; split <;> omega
theorem vl_skip (hd : II → Bool) (u a : Nat) : ∀ d, (∀ w, a ≤ w → w < a + d → imgB (Kn u) (Kn w) = false) → vl hd u (a + d) = vl hd u a
  | 0, _ => rfl
  | d + 1, h => by
    have e : vis hd (Kn u, Kn (a + d)) = false := by unfold vis; rw [h (a + d) (by omega) (by omega)]; rfl
    rw [show a + (d + 1) = (a + d) + 1 from rfl, vl_s, e, vl_skip hd u a d (fun w h1 h2 => h w h1 (by omega))]
    simp
theorem e0_hear_loop {c0 tm0 is0 js0 wa0 st0 c1 sX sY cX cF cT sw : Nat → Int32} {x y : Int32} (hd : II → Bool) (ti wa sn : II → Int32)
    (H1 : ∀ i j, imgB i j = true → fX3_isHidden c1 cX cF cT i j x y = some (b2 (hd (i, j))))
    (H2 : ∀ i j, imgB i j = true → fX3_waySquared c1 i j x y = some (wa (i, j)))
    (H3 : ∀ i j, imgB i j = true → fX5_timeOf (wa (i, j)) = some (ti (i, j)))
    (H4 : ∀ i j, imgB i j = true → fX5_strengthOf sw i j (wa (i, j)) = some (sn (i, j))) :
    LPX (fX0_hearAtSeat_L38 c1 sX sY cX cF cT sw x y) FU (-3, upd (upd c0 6 0) 7 0, tm0, is0, js0, wa0, st0) = some (earE c0 tm0 is0 js0 wa0 st0 ti wa sn (HL hd)) := by
  have inner : ∀ (u : Nat) (hu : u < 7) (k38 : (Int32 × EA) → Option EA), LPX (fX0_hearAtSeat_L58 c1 sX sY cX cF cT sw x y (Kn u) (nI (rsU u)) k38) FU (Kn (3 - rsU u), earE c0 tm0 is0 js0 wa0 st0 ti wa sn (vl hd u 0)) = k38 (Kn u + 1, earE c0 tm0 is0 js0 wa0 st0 ti wa sn (vl hd (u + 1) 0)) := by
    intro u hu k38
    have hr := rsU_le u hu
    have hlo : vl hd u 0 = vl hd u (3 - rsU u + 0) := by
      have h := vl_skip hd u 0 (3 - rsU u) (fun w h1 h2 => by rw [img_row u hu w (by omega)]; exact decide_eq_false (by omega))
      rw [Nat.zero_add] at h
      exact h.symm
    have hhi : vl hd (u + 1) 0 = vl hd u (3 - rsU u + (2 * rsU u + 1)) := by
      rw [← vl_7]
      have h := vl_skip hd u (3 - rsU u + (2 * rsU u + 1)) (3 - rsU u) (fun w h1 h2 => by rw [img_row u hu w (by omega)]; exact decide_eq_false (by omega))
      rw [show 3 - rsU u + (2 * rsU u + 1) + (3 - rsU u) = 7 by omega] at h
      exact h
    rw [hlo, hhi]
    refine LPX_det (F := fun t => (Kn (3 - rsU u + t), earE c0 tm0 is0 js0 wa0 st0 ti wa sn (vl hd u (3 - rsU u + t)))) (2 * rsU u + 1) (fun t ht k => ?_) (fun k => ?_) (FU_lt (by omega))
    · have h1 : ¬ nI (rsU u) < Kn (3 - rsU u + t) := by rw [fa_lt, Kn_t (by omega), nI_toInt (by omega)]; omega
      have hi : imgB (Kn u) (Kn (3 - rsU u + t)) = true := by rw [img_row u hu _ (by omega)]; exact decide_eq_true (by omega)
      have hlen : (vl hd u (3 - rsU u + t)).length < 25 := Nat.lt_of_le_of_lt (vis_len hd _) (img_cnt u hu _ (by omega) hi)
      have hvs := vl_s hd u (3 - rsU u + t)
      show fX0_hearAtSeat_L58 c1 sX sY cX cF cT sw x y (Kn u) (nI (rsU u)) k38 k (Kn (3 - rsU u + t), (earE c0 tm0 is0 js0 wa0 st0 ti wa sn (vl hd u (3 - rsU u + t))).1, (earE c0 tm0 is0 js0 wa0 st0 ti wa sn (vl hd u (3 - rsU u + t))).2.1, (earE c0 tm0 is0 js0 wa0 st0 ti wa sn (vl hd u (3 - rsU u + t))).2.2.1, (earE c0 tm0 is0 js0 wa0 st0 ti wa sn (vl hd u (3 - rsU u + t))).2.2.2.1, (earE c0 tm0 is0 js0 wa0 st0 ti wa sn (vl hd u (3 - rsU u + t))).2.2.2.2.1, (earE c0 tm0 is0 js0 wa0 st0 ti wa sn (vl hd u (3 - rsU u + t))).2.2.2.2.2) = k (Kn (3 - rsU u + t + 1), earE c0 tm0 is0 js0 wa0 st0 ti wa sn (vl hd u (3 - rsU u + t + 1)))
      rw [hvs]
      simp only [fX0_hearAtSeat_L58]
      rw [if_neg h1, H1 _ _ hi, Option.bind_some, b2_if, Kn_s (by omega)]
      cases hh : hd (Kn u, Kn (3 - rsU u + t)) with
      | true =>
        have e : vis hd (Kn u, Kn (3 - rsU u + t)) = false := by unfold vis; rw [hi, hh]; rfl
        rw [e]
        simp
      | false =>
        have e : vis hd (Kn u, Kn (3 - rsU u + t)) = true := by unfold vis; rw [hi, hh]; rfl
        rw [e]
        simp only [if_true, if_false, Bool.false_eq_true]
        rw [H2 _ _ hi, Option.bind_some, e0_insert hlen (H3 _ _ hi) (H4 _ _ hi), Option.bind_some]
    · have h1 : nI (rsU u) < Kn (3 - rsU u + (2 * rsU u + 1)) := by rw [fa_lt, Kn_t (by omega), nI_toInt (by omega)]; omega
      show fX0_hearAtSeat_L58 c1 sX sY cX cF cT sw x y (Kn u) (nI (rsU u)) k38 k (Kn (3 - rsU u + (2 * rsU u + 1)), (earE c0 tm0 is0 js0 wa0 st0 ti wa sn (vl hd u (3 - rsU u + (2 * rsU u + 1)))).1, _, _, _, _, _) = _
      simp only [fX0_hearAtSeat_L58]
      rw [if_pos h1]
      rfl
  have e0 : ((-3, upd (upd c0 6 0) 7 0, tm0, is0, js0, wa0, st0) : Int32 × EA) = (fun u => (Kn u, earE c0 tm0 is0 js0 wa0 st0 ti wa sn (vl hd u 0))) 0 := rfl
  rw [e0]
  refine LPX_det (F := fun u => (Kn u, earE c0 tm0 is0 js0 wa0 st0 ti wa sn (vl hd u 0))) 7 (fun u hu k => ?_) (fun k => ?_) (FU_lt (by decide))
  · have h1 : ¬ (3 : Int32) < Kn u := by rw [fa_lt, Kn_t (by omega), show (3 : Int32).toInt = 3 from rfl]; omega
    show fX0_hearAtSeat_L38 c1 sX sY cX cF cT sw x y k (Kn u, (earE c0 tm0 is0 js0 wa0 st0 ti wa sn (vl hd u 0)).1, (earE c0 tm0 is0 js0 wa0 st0 ti wa sn (vl hd u 0)).2.1, (earE c0 tm0 is0 js0 wa0 st0 ti wa sn (vl hd u 0)).2.2.1, (earE c0 tm0 is0 js0 wa0 st0 ti wa sn (vl hd u 0)).2.2.2.1, (earE c0 tm0 is0 js0 wa0 st0 ti wa sn (vl hd u 0)).2.2.2.2.1, (earE c0 tm0 is0 js0 wa0 st0 ti wa sn (vl hd u 0)).2.2.2.2.2) = _
    simp only [fX0_hearAtSeat_L38, bnd]
    rw [if_neg h1, (rest_row u hu).1, (rest_row u hu).2]
    have hi := inner u hu k
    rw [Kn_s (by omega)] at hi
    exact hi
  · show fX0_hearAtSeat_L38 c1 sX sY cX cF cT sw x y k (Kn 7, (earE c0 tm0 is0 js0 wa0 st0 ti wa sn (vl hd 7 0)).1, _, _, _, _, _) = _
    simp only [fX0_hearAtSeat_L38]
    rw [if_pos (show (3 : Int32) < Kn 7 by decide), vl_0]
    rfl
