/-! the odds -/
abbrev bit (d : Int32) (w : Nat) : Prop := ((d >>> (nI w &&& 31)) &&& 1) = 1
def dwF (sw : Nat → Int32) (d : Int32) : Nat → Int32 := fun w => if bit d w then 10 else sw w
def chF (p d : Int32) : Nat → Int32
  | 0 => 1
  | w + 1 => if bit d w then chF p d w * p else chF p d w * (10 - p)
def smL (f : Nat → Int32) : Nat → Int32
  | 0 => 0
  | n + 1 => smL f n + f n
theorem smL_sum (f : Nat → Int32) : ∀ n, smL f n = sumI ((List.range n).map f)
  | 0 => rfl
  | n + 1 => by
    rw [List.range_succ, List.map_append]
    show smL f n + f n = sumI (_ ++ [f n])
    rw [sumI_app, smL_sum f n]
theorem sl_mem {ti : II → Int32} {g : List II} {p : II} (h : p ∈ sl ti g) : p ∈ g := by
  unfold sl at h
  obtain ⟨a, ha, rfl⟩ := List.mem_map.mp h
  have := srt_mem.mp ha
  rw [getD_in this]
  exact List.getElem_mem _
theorem sl_perm (ti : II → Int32) (g : List II) : (sl ti g).Perm g := by
  unfold sl
  have h := (srt_perm (fun k => ti (g.getD k (0, 0))) g.length).map (fun k => g.getD k (0, 0))
  rw [map_getD g (0, 0) (fun p => p), List.map_id'] at h
  exact h
theorem cp_s {f g : Nat → Int32} {w : Nat} {x : Int32} (h : x = f w) : upd (cpW f g w) w x = cpW f g (w + 1) := by rw [h, cpW_s]
theorem e0_deaf {e df sw is0 js0 wa0 : Nat → Int32} {ti wa : II → Int32} {g : List II} (d : Int32) (hn : g.length ≤ 25) (h6 : e 6 = nI g.length) (hi : ∀ p ∈ g, imgB p.1 p.2 = true) (hw : ∀ p ∈ g, 0 ≤ (wa p).toInt ∧ (wa p).toInt ≤ 6800) :
    fX0_soundIfDeaf e df sw (putL is0 ((sl ti g).map (·.1))) (putL js0 ((sl ti g).map (·.2))) (putL wa0 ((sl ti g).map wa)) d = some (sumI (g.map (fun p => str (dwF sw d) p.1 p.2 (wa p))), cpW (dwF sw d) df 4) := by
  unfold fX0_soundIfDeaf
  have e0 : ((0, df) : Int32 × (Nat → Int32)) = (fun w => (nI w, cpW (dwF sw d) df w)) 0 := by
    show _ = (nI 0, cpW (dwF sw d) df 0)
    rw [cpW_0]; rfl
  rw [e0]
  refine LPX_det (F := fun w => (nI w, cpW (dwF sw d) df w)) 4 (fun w hw k => ?_) (fun k => ?_) (FU_lt (by decide))
  · simp only [fX0_soundIfDeaf_L2]
    have ok : okI (nI w) 4 := okI_nI hw (by decide)
    rw [if_neg (show ¬ (3 : Int32) < nI w by rw [fa_lt, nI_toInt (by omega), show (3 : Int32).toInt = 3 from rfl]; omega), if_pos ok, if_pos ok, if_pos ok, cl_nI (by omega), nI_1]
    by_cases hb : bit d w
    · rw [if_pos hb, cp_s (show (10 : Int32) = dwF sw d w from (if_pos hb).symm)]
    · rw [if_neg hb, cp_s (show sw w = dwF sw d w from (if_neg hb).symm)]
  · simp only [fX0_soundIfDeaf_L2]
    rw [if_pos (show (3 : Int32) < nI 4 by decide)]
    have hl := sl_len ti g
    have hf : ∀ n, n ≤ g.length → ∀ p, p = (sl ti g).getD n (0, 0) → n < g.length → imgB p.1 p.2 = true ∧ 0 ≤ (wa p).toInt ∧ (wa p).toInt ≤ 6800 := by
      intro n _ p hp h
      have hm : p ∈ g := by
        rw [hp, getD_in (by omega)]
        exact sl_mem (List.getElem_mem _)
      exact ⟨hi p hm, hw p hm⟩
    have e1 : sumI (g.map (fun p => str (dwF sw d) p.1 p.2 (wa p))) = smL (fun n => str (dwF sw d) ((sl ti g).getD n (0, 0)).1 ((sl ti g).getD n (0, 0)).2 (wa ((sl ti g).getD n (0, 0)))) g.length := by
      rw [smL_sum, ← hl, map_getD (sl ti g) (0, 0) (fun p => str (dwF sw d) p.1 p.2 (wa p))]
      exact sumI_perm ((sl_perm ti g).symm.map _)
    rw [e1]
    refine LPX_det (F := fun n => (smL (fun n => str (dwF sw d) ((sl ti g).getD n (0, 0)).1 ((sl ti g).getD n (0, 0)).2 (wa ((sl ti g).getD n (0, 0)))) n, nI n)) g.length (fun n hn2 k' => ?_) (fun k' => ?_) (FU_lt (by omega))
    · simp only [fX0_soundIfDeaf_L41]
      have ok : okI (nI n) 25 := okI_nI (by omega) (by decide)
      have hp : ∀ (f : Nat → Int32) (q : II → Int32), putL f ((sl ti g).map q) n = q ((sl ti g).getD n (0, 0)) := fun f q => putL_m (by omega)
      obtain ⟨f1, f2, f3⟩ := hf n (by omega) _ rfl hn2
      rw [if_neg (show ¬ e 6 ≤ nI n by rw [h6, fa_le, nI_toInt (by omega), nI_toInt (by omega)]; omega), if_pos ok, if_pos ok, if_pos ok, cl_nI (by omega), hp, hp, hp, e5_str _ f1 f2 f3, Option.bind_some, bnd_e, str_congr (g := dwF sw d) (fun w hw => by unfold cpW; rw [if_pos hw]), nI_1]
      rfl
    · simp only [fX0_soundIfDeaf_L41]
      rw [if_pos (show e 6 ≤ nI g.length by rw [h6, fa_le]; exact Int.le_refl _)]
theorem e5_chance (d p : Int32) : fX5_chanceOf d p = some (chF p d 4) := by
  unfold fX5_chanceOf
  have e0 : ((1, 0) : Int32 × Int32) = (fun w => (chF p d w, nI w)) 0 := rfl
  rw [e0]
  refine LPX_det (F := fun w => (chF p d w, nI w)) 4 (fun w hw k => ?_) (fun k => ?_) (FU_lt (by decide))
  · simp only [fX5_chanceOf_L4]
    rw [if_neg (show ¬ (3 : Int32) < nI w by rw [fa_lt, nI_toInt (by omega), show (3 : Int32).toInt = 3 from rfl]; omega), bnd_e, bnd_e, nI_1]
    by_cases hb : bit d w
    · rw [if_pos hb]
      show _ = k (chF p d (w + 1), _)
      rw [show chF p d (w + 1) = chF p d w * p from if_pos hb]
    · rw [if_neg hb]
      show _ = k (chF p d (w + 1), _)
      rw [show chF p d (w + 1) = chF p d w * (10 - p) from if_neg hb]
  · simp only [fX5_chanceOf_L4]
    rw [if_pos (show (3 : Int32) < nI 4 by decide)]
theorem chF_rng {p : Int32} (d : Int32) (h1 : 0 ≤ p.toInt) (h2 : p.toInt ≤ 10) : ∀ w, w ≤ 4 → 0 ≤ (chF p d w).toInt ∧ (chF p d w).toInt ≤ (10 : Int) ^ w
  | 0, _ => ⟨by show 0 ≤ (1 : Int32).toInt; decide, by show (1 : Int32).toInt ≤ (10 : Int) ^ 0; decide⟩
  | w + 1, hw => by
    obtain ⟨a, b⟩ := chF_rng d h1 h2 w (by omega)
    have hpow : (10 : Int) ^ w ≤ 1000 := by
      have : w = 0 ∨ w = 1 ∨ w = 2 ∨ w = 3 := by omega
      rcases this with rfl | rfl | rfl | rfl <;> decide
    have key : ∀ q : Int32, 0 ≤ q.toInt → q.toInt ≤ 10 → 0 ≤ (chF p d w * q).toInt ∧ (chF p d w * q).toInt ≤ (10 : Int) ^ (w + 1) := by
      intro q q1 q2
      have m1 : 0 ≤ (chF p d w).toInt * q.toInt := Int.mul_nonneg a q1
      have m2 : (chF p d w).toInt * q.toInt ≤ 10 ^ w * 10 := Int.mul_le_mul b q2 q1 (by omega)
      rw [fb_mulI (by omega) (by omega), Int.pow_succ]
      exact ⟨m1, m2⟩
    show 0 ≤ (if bit d w then _ else _ : Int32).toInt ∧ (if bit d w then _ else _ : Int32).toInt ≤ _
    by_cases hb : bit d w
    · rw [if_pos hb]; exact key p h1 h2
    · rw [if_neg hb]
      have e : (10 - p).toInt = 10 - p.toInt := by
        rw [fb_subI (by rw [show (10 : Int32).toInt = 10 from rfl]; omega) (by rw [show (10 : Int32).toInt = 10 from rfl]; omega)]; rfl
      exact key (10 - p) (by omega) (by omega)
/-- the sum over the first subsets -/
def odF (snd : Int32 → Int32) (lim p : Int32) : Nat → Int32
  | 0 => 0
  | d + 1 => if snd (nI d) < lim then odF snd lim p d else odF snd lim p d + chF p (nI d) 4
theorem odF_rng {snd : Int32 → Int32} {lim p : Int32} (h1 : 0 ≤ p.toInt) (h2 : p.toInt ≤ 10) : ∀ d, d ≤ 16 → 0 ≤ (odF snd lim p d).toInt ∧ (odF snd lim p d).toInt ≤ 10000 * d
  | 0, _ => ⟨Int.le_refl 0, Int.le_refl 0⟩
  | d + 1, hd => by
    obtain ⟨a, b⟩ := odF_rng (snd := snd) (lim := lim) h1 h2 d (by omega)
    have hc := chF_rng (p := p) (nI d) h1 h2 4 (by omega)
    rw [show (10 : Int) ^ 4 = 10000 from rfl] at hc
    show 0 ≤ (if snd (nI d) < lim then _ else _ : Int32).toInt ∧ (if snd (nI d) < lim then _ else _ : Int32).toInt ≤ _
    by_cases hb : snd (nI d) < lim
    · rw [if_pos hb]; omega
    · rw [if_neg hb, fb_addI (by omega) (by omega)]; omega
section ODDS
variable {nS nC : Nat} {cN sw sX sY cX cF cT s e0 e1 e2 e3 e4 e5 e6 c0 c1 c2 c3 c4 : Nat → Int32}
def sdF (s : Nat → Int32) (nC z : Nat) (d : Int32) : Int32 := sumI ((HL (hdF s nC z)).map (snF (dwF (s4 s) d) s z))
theorem c_odds (h : RRel nS nC cN sw sX sY cX cF cT s) {z : Nat} (hz : z < nS) (p lim w : Int32) (r : Int32) (hr : fX5_leastTerm (odF (sdF s nC z) lim p 16) 10000 w = some r) :
    ∃ (a0 : Nat → Int32), LPX (fX5_odds_L61 cN sX sY cX cF cT sw p lim w (upd (upd e0 6 (nI (HL (hdF s nC z)).length)) 7 (sumI ((HL (hdF s nC z)).map (snF (s4 s) s z)))) (putL e1 ((sl (tiF s z) (HL (hdF s nC z))).map (tiF s z))) (putL e2 ((sl (tiF s z) (HL (hdF s nC z))).map (·.1))) (putL e3 ((sl (tiF s z) (HL (hdF s nC z))).map (·.2))) (putL e4 ((sl (tiF s z) (HL (hdF s nC z))).map (waF s z))) (putL e5 ((sl (tiF s z) (HL (hdF s nC z))).map (snF (s4 s) s z)))) FU (0, 0, e6) = some (r, (upd (upd e0 6 (nI (HL (hdF s nC z)).length)) 7 (sumI ((HL (hdF s nC z)).map (snF (s4 s) s z)))), (putL e1 ((sl (tiF s z) (HL (hdF s nC z))).map (tiF s z))), (putL e2 ((sl (tiF s z) (HL (hdF s nC z))).map (·.1))), (putL e3 ((sl (tiF s z) (HL (hdF s nC z))).map (·.2))), (putL e4 ((sl (tiF s z) (HL (hdF s nC z))).map (waF s z))), (putL e5 ((sl (tiF s z) (HL (hdF s nC z))).map (snF (s4 s) s z))), a0) := by
  have hn := HL_len (hdF s nC z)
  have himg : ∀ q ∈ HL (hdF s nC z), imgB q.1 q.2 = true := fun q hq => HL_img hq
  have hway : ∀ q ∈ HL (hdF s nC z), 0 ≤ (waF s z q).toInt ∧ (waF s z q).toInt ≤ 6800 := fun q hq => waF_rng h hz (HL_img hq)
  have hsw : ∀ w, w < 4 → sw w = s4 s w := by obtain ⟨-, -, -, hsw, -⟩ := h; exact hsw
  refine LPX_ruleP (P := fun o => ∃ (a0 : Nat → Int32), o = some (r, _, _, _, _, _, _, a0)) (I := fun d st => ∃ (a0 : Nat → Int32), st = (odF (sdF s nC z) lim p d, nI d, a0)) 16 ?_ ?_ FU 0 _ (by show 16 < 4000 + 0; omega) (by omega) ⟨_, rfl⟩
  · rintro d _ hd ⟨a0, rfl⟩
    left
    refine ⟨(odF (sdF s nC z) lim p (d + 1), nI (d + 1), cpW (dwF sw (nI d)) a0 4), ⟨_, rfl⟩, fun k => ?_⟩
    simp only [fX5_odds_L61]
    rw [if_neg (show ¬ (16 : Int32) ≤ nI d by rw [fa_le, nI_toInt (by omega), show (16 : Int32).toInt = 16 from rfl]; omega), e0_deaf (nI d) hn rfl himg hway, Option.bind_some, e5_chance, Option.bind_some, bnd_e, nI_1]
    have e1 : sumI ((HL (hdF s nC z)).map (fun p => str (dwF sw (nI d)) p.1 p.2 (waF s z p))) = sdF s nC z (nI d) := by
      unfold sdF snF
      congr 1
      refine List.map_congr_left (fun q _ => str_congr (fun w hw => ?_) _ _ _)
      unfold dwF
      rw [hsw w hw]
    simp only [e1]
    show _ = k ((if sdF s nC z (nI d) < lim then _ else _), _, _)
    by_cases hb : sdF s nC z (nI d) < lim
    · rw [if_pos hb, if_pos hb]
    · rw [if_neg hb, if_neg hb]
  · rintro _ ⟨a0, rfl⟩
    refine ⟨_, ⟨a0, rfl⟩, fun k => ?_⟩
    simp only [fX5_odds_L61]
    rw [if_pos (show (16 : Int32) ≤ nI 16 by decide), hr, Option.bind_some]
theorem m_odds_in (h : RRel nS nC cN sw sX sY cX cF cT s) {z : Nat} (hz : z < nS) (p lim w v5 d : Int32) (k46 : (Int32 × Int32 × (Nat → Int32) × (Nat → Int32) × (Nat → Int32) × (Nat → Int32) × (Nat → Int32)) → Option (Int32 × (Nat → Int32) × (Nat → Int32) × (Nat → Int32) × (Nat → Int32) × (Nat → Int32))) :
    LPX (fX6_odds_L59 s p (nI z) lim w v5 d c0 c2 c3 c4 k46) FU (1, 0, c1) = k46 ((if sdF s nC z d < lim then v5 else v5 + chF p d 4), d + 1, upd c0 20 (nI (HL (hdF s nC z)).length), cpW (dwF (s4 s) d) c1 4, putL c2 ((HL (hdF s nC z)).map (tiF s z)), putL c3 ((HL (hdF s nC z)).map (snF (dwF (s4 s) d) s z)), putL c4 ((HL (hdF s nC z)).map cod)) := by
  have e0 : ((1, 0, c1) : Int32 × Int32 × (Nat → Int32)) = (fun w => (chF p d w, nI w, cpW (dwF (s4 s) d) c1 w)) 0 := by
    show _ = (chF p d 0, nI 0, cpW (dwF (s4 s) d) c1 0)
    rw [cpW_0]; rfl
  rw [e0]
  refine LPX_det (F := fun w => (chF p d w, nI w, cpW (dwF (s4 s) d) c1 w)) 4 (fun w' hw k => ?_) (fun k => ?_) (FU_lt (by decide))
  · simp only [fX6_odds_L59, fX6_odds_j81, fX6_odds_j108, if_true, show ¬ (1 : Int32) = 0 from by decide, if_false]
    have e4 : (4 : Int32) + nI w' = nI (4 + w') := nI_add 4 w'
    rw [if_neg (show ¬ (4 : Int32) ≤ nI w' by rw [fa_le, nI_toInt (by omega), show (4 : Int32).toInt = 4 from rfl]; omega), e4, if_pos (okI_nI (show 4 + w' < 27 by omega) (by decide)), if_pos (okI_nI (show w' < 4 by omega) (by decide)), if_pos (okI_nI (show w' < 4 by omega) (by decide)), cl_nI (by omega), cl_nI (by omega), nI_1, bnd_e, bnd_e]
    show _ = k (chF p d (w' + 1), _, _)
    by_cases hb : bit d w'
    · rw [if_pos hb, cp_s (show (10 : Int32) = dwF (s4 s) d w' from (if_pos hb).symm), show chF p d (w' + 1) = chF p d w' * p from if_pos hb]
    · rw [if_neg hb, cp_s (show s (4 + w') = dwF (s4 s) d w' from (if_neg hb).symm), show chF p d (w' + 1) = chF p d w' * (10 - p) from if_neg hb]
  · simp only [fX6_odds_L59]
    have hf := seat_facts h hz (s4 s) h.w10
    rw [if_pos (show (4 : Int32) ≤ nI 4 by decide), m_hears h hz, Option.bind_some]
    dsimp only
    rw [m_all (HL_len _) (upd_self _ _ _) (fun a ha => (hf a ha).1.2), Option.bind_some, bnd_e, bnd_e, addz, snF_sw (sw := cpW (dwF (s4 s) d) c1 4) (sw' := dwF (s4 s) d) (fun w hw => by unfold cpW; rw [if_pos hw])]
    have e1 : sumI ((HL (hdF s nC z)).map (snF (dwF (s4 s) d) s z)) = sdF s nC z d := rfl
    rw [e1]
    by_cases hb : sdF s nC z d < lim
    · rw [if_pos hb, if_pos hb]
    · rw [if_neg hb, if_neg hb]
theorem m_odds (h : RRel nS nC cN sw sX sY cX cF cT s) {z : Nat} (hz : z < nS) (p lim w : Int32) (r : Int32) (hr : fX6_fraction (odF (sdF s nC z) lim p 16) 10000 w = some r) :
    ∃ (b0 b1 b2 b3 b4 : Nat → Int32), LPX (fX6_odds_L46 s p (nI z) lim w) FU (0, 0, c0, c1, c2, c3, c4) = some (r, b0, b1, b2, b3, b4) ∧ ∀ q, q ≠ 20 → b0 q = c0 q := by
  refine LPX_ruleP (P := fun o => ∃ (b0 b1 b2 b3 b4 : Nat → Int32), o = some (r, b0, b1, b2, b3, b4) ∧ ∀ q, q ≠ 20 → b0 q = c0 q) (I := fun d st => ∃ (b0 b1 b2 b3 b4 : Nat → Int32), st = (odF (sdF s nC z) lim p d, nI d, b0, b1, b2, b3, b4) ∧ ∀ q, q ≠ 20 → b0 q = c0 q) 16 ?_ ?_ FU 0 _ (by show 16 < 4000 + 0; omega) (by omega) ⟨_, _, _, _, _, rfl, fun _ _ => rfl⟩
  · rintro d _ hd ⟨b0, b1, b2, b3, b4, rfl, hb⟩
    left
    refine ⟨(odF (sdF s nC z) lim p (d + 1), nI (d + 1), upd b0 20 (nI (HL (hdF s nC z)).length), cpW (dwF (s4 s) (nI d)) b1 4, putL b2 ((HL (hdF s nC z)).map (tiF s z)), putL b3 ((HL (hdF s nC z)).map (snF (dwF (s4 s) (nI d)) s z)), putL b4 ((HL (hdF s nC z)).map cod)), ⟨_, _, _, _, _, rfl, fun q hq => (upd20 q hq).trans (hb q hq)⟩, fun k => ?_⟩
    simp only [fX6_odds_L46]
    rw [if_neg (show ¬ (16 : Int32) ≤ nI d by rw [fa_le, nI_toInt (by omega), show (16 : Int32).toInt = 16 from rfl]; omega), m_odds_in h hz, nI_1]
    rfl
  · rintro _ ⟨b0, b1, b2, b3, b4, rfl, hb⟩
    refine ⟨_, ⟨b0, b1, b2, b3, b4, rfl, hb⟩, fun k => ?_⟩
    simp only [fX6_odds_L46]
    rw [if_pos (show (16 : Int32) ≤ nI 16 by decide), hr, Option.bind_some]
theorem a_odds (h : RRel nS nC cN sw sX sY cX cF cT s) (p x lim w : Int32) :
    ∃ r a0 a1 a2 a3 a4 a5 a6 b0 b1 b2 b3 b4, fX5_odds cN e0 sX sY cX cF cT e1 e2 e3 e4 e5 sw e6 p x lim w = some (r, a0, a1, a2, a3, a4, a5, a6) ∧ fX6_odds c0 s c1 c2 c3 c4 p x lim w = some (r, b0, b1, b2, b3, b4) ∧ ∀ q, q ≠ 20 → b0 q = c0 q := by
  have h' := h
  obtain ⟨hS4, hC3, ⟨q0, q1, q2, q3, q4, q5, q6, q7⟩, -⟩ := h'
  unfold fX5_odds fX6_odds
  rw [e5_within, e6_in, Option.bind_some, Option.bind_some, b2_if, b2_if, e3_seat hS4 q4, e6_seat hS4 q5, Option.bind_some, Option.bind_some, b2_if, b2_if, e5_within, e6_in, Option.bind_some, Option.bind_some, b2_if, b2_if, e5_within, e6_in, Option.bind_some, Option.bind_some, b2_if, b2_if]
  cases hp : inB p 0 10 with
  | false => exact ⟨_, _, _, _, _, _, _, _, _, _, _, _, _, rfl, rfl, fun _ _ => rfl⟩
  | true =>
  simp only [if_true]
  cases hs : seatB nS x with
  | false => exact ⟨_, _, _, _, _, _, _, _, _, _, _, _, _, rfl, rfl, fun _ _ => rfl⟩
  | true =>
  obtain ⟨z, hz, rfl⟩ := seatB_ex hs
  simp only [if_true]
  cases hy : inB lim 0 999999 with
  | false => exact ⟨_, _, _, _, _, _, _, _, _, _, _, _, _, rfl, rfl, fun _ _ => rfl⟩
  | true =>
  simp only [if_true]
  cases hw : inB w 0 1 with
  | false => exact ⟨_, _, _, _, _, _, _, _, _, _, _, _, _, rfl, rfl, fun _ _ => rfl⟩
  | true =>
  simp only [if_true]
  have hw := of_decide_eq_true hw
  rw [show (0 : Int32).toInt = 0 from rfl, show (1 : Int32).toInt = 1 from rfl] at hw
  have hw01 : w = 0 ∨ w = 1 := by
    rw [fa_eq, fa_eq, show (0 : Int32).toInt = 0 from rfl, show (1 : Int32).toInt = 1 from rfl]; omega
  have hp := of_decide_eq_true hp
  rw [show (0 : Int32).toInt = 0 from rfl, show (10 : Int32).toInt = 10 from rfl] at hp
  rw [c_hear h hz, Option.bind_some]
  unfold earE
  dsimp only
  have ho := odF_rng (snd := sdF s nC z) (lim := lim) hp.1 hp.2 16 (by omega)
  obtain ⟨u, hu, eu⟩ := nI_ex (x := odF (sdF s nC z) lim p 16) (N := 200000) ho.1 (by omega)
  obtain ⟨r, hr1, hr2⟩ := frac_eq (u := u) (a := 10000) (w := w) (by omega) (by omega) (by omega) hw01
  rw [if_neg (show ¬ nI 10000 = 0 by decide)] at hr2
  rw [← eu] at hr1 hr2
  obtain ⟨a0, ha⟩ := c_odds (e0 := e0) (e1 := e1) (e2 := e2) (e3 := e3) (e4 := e4) (e5 := e5) (e6 := e6) h hz p lim w r hr1
  obtain ⟨b0, b1, b2, b3, b4, hm, hb⟩ := m_odds (c0 := c0) (c1 := c1) (c2 := c2) (c3 := c3) (c4 := c4) h hz p lim w r hr2
  exact ⟨_, _, _, _, _, _, _, _, _, _, _, _, _, ha, hm, hb⟩
end ODDS
