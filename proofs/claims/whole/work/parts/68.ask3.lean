theorem LPX_ruleP {β S : Type} {B : (S → Option β) → S → Option β} {P : Option β → Prop} (I : Nat → S → Prop) (m : Nat)
    (hs : ∀ t s, t < m → I t s → (∃ s', I (t + 1) s' ∧ ∀ k, B k s = k s') ∨ (∃ r, P r ∧ ∀ k, B k s = r))
    (he : ∀ s, I m s → ∃ r, P r ∧ ∀ k, B k s = r) : ∀ n t s, m < n + t → t ≤ m → I t s → P (LPX B n s) := by
  intro n
  induction n with
  | zero => intro t s h1 h2 h3; omega
  | succ n ih =>
    intro t s h1 h2 h3
    rw [LPX_s]
    rcases Nat.lt_or_ge t m with h | h
    · rcases hs t s h h3 with ⟨s', h4, h5⟩ | ⟨r, h4, h5⟩
      · rw [h5]; exact ih (t + 1) s' (by omega) h h4
      · rw [h5]; exact h4
    · have e : t = m := by omega
      subst e
      obtain ⟨r, h4, h5⟩ := he s h3
      rw [h5]; exact h4
theorem e0_fade0 {e S T : Nat → Int32} (p : Int32) (h6 : e 6 = nI 0) : fX0_fadeTime e S T p = some (-9) := by
  unfold fX0_fadeTime
  rw [bnd_e]
  refine LPX_det (F := fun _ => (e 7, 0)) 0 (fun t ht => absurd ht (Nat.not_lt_zero _)) (fun k => ?_) (FU_lt (by decide))
  simp only [fX0_fadeTime_L7]
  rw [if_pos (show e 6 ≤ 0 by rw [h6]; decide)]
theorem mlt_congr {t t' : Nat → Int32} {may may' : Nat → Bool} : ∀ {n : Nat}, (∀ a, a < n → t a = t' a) → (∀ a, a < n → may a = may' a) → mlt t may n = mlt t' may' n
  | 0, _, _ => rfl
  | n + 1, h1, h2 => by
    show (if may n then _ else _) = (if may' n then _ else _)
    rw [mlt_congr (fun a ha => h1 a (by omega)) (fun a ha => h2 a (by omega)), h1 n (by omega), h2 n (by omega)]
section ASK3
variable {nS nC : Nat} {cN sw sX sY cX cF cT s e0 e1 e2 e3 e4 e5 e6 c0 c1 c2 c3 c4 : Nat → Int32}
theorem a_fade (h : RRel nS nC cN sw sX sY cX cF cT s) (x p : Int32) :
    ∃ r a0 a1 a2 a3 a4 a5 b0 b1 b2 b3 b4, fX5_fade cN e0 sX sY cX cF cT e1 e2 e3 e4 e5 sw x p = some (r, a0, a1, a2, a3, a4, a5) ∧ fX6_fade c0 s c1 c2 c3 c4 x p = some (r, b0, b1, b2, b3, b4) ∧ ∀ q, q ≠ 20 → b0 q = c0 q := by
  have h' := h
  obtain ⟨hS4, hC3, ⟨q0, q1, q2, q3, q4, q5, q6, q7⟩, -⟩ := h'
  unfold fX5_fade fX6_fade
  rw [e3_seat hS4 q4, e6_seat hS4 q5, Option.bind_some, Option.bind_some, b2_if, b2_if, e5_within, e6_in, Option.bind_some, Option.bind_some, b2_if, b2_if]
  cases hs : seatB nS x with
  | false => exact ⟨_, _, _, _, _, _, _, _, _, _, _, _, rfl, rfl, fun _ _ => rfl⟩
  | true =>
    obtain ⟨z, hz, rfl⟩ := seatB_ex hs
    simp only [if_true]
    cases hw : inB p 1 9 with
    | false => exact ⟨_, _, _, _, _, _, _, _, _, _, _, _, rfl, rfl, fun _ _ => rfl⟩
    | true =>
      simp only [if_true]
      have hp := of_decide_eq_true hw
      rw [show (1 : Int32).toInt = 1 from rfl, show (9 : Int32).toInt = 9 from rfl] at hp
      rw [c_hear h hz, m_hearsNow h hz, Option.bind_some, Option.bind_some]
      have hn := HL_len (hdF s nC z)
      have hf := seat_facts h hz (s4 s) h.w10
      unfold earE
      dsimp only
      generalize HL (hdF s nC z) = g at *
      rw [m_all hn (upd_self _ _ _) (fun a ha => (hf a ha).1.2), Option.bind_some, bnd_e]
      have hs1 : ∀ a ∈ srt (fun a => tiF s z (g.getD a (0, 0))) g.length, 0 ≤ (snF (s4 s) s z (g.getD a (0, 0))).toInt ∧ (snF (s4 s) s z (g.getD a (0, 0))).toInt ≤ 1000000 := fun a ha => (hf a (srt_mem.mp ha)).2
      have hsl := psI_sum (s := fun a => snF (s4 s) s z (g.getD a (0, 0))) hs1 (by rw [srt_len]; exact hn)
      have hA : (sumI (g.map (snF (s4 s) s z))).toInt = psI (fun a => snF (s4 s) s z (g.getD a (0, 0))) (srt (fun a => tiF s z (g.getD a (0, 0))) g.length) := by
        rw [← hsl.1, ← map_getD g (0, 0) (snF (s4 s) s z), sumI_perm ((srt_perm (fun a => tiF s z (g.getD a (0, 0))) g.length).map (fun a => snF (s4 s) s z (g.getD a (0, 0))))]
      have hA2 : psI (fun a => snF (s4 s) s z (g.getD a (0, 0))) (List.range g.length) = psI (fun a => snF (s4 s) s z (g.getD a (0, 0))) (srt (fun a => tiF s z (g.getD a (0, 0))) g.length) := by
        rw [← hA, ← map_getD g (0, 0) (snF (s4 s) s z)]
        exact ((psI_sum (s := fun a => snF (s4 s) s z (g.getD a (0, 0))) (fun a ha => (hf a (List.mem_range.mp ha)).2) (by rw [List.length_range]; exact hn)).1).symm
      have hZ0 : 0 ≤ psI (fun a => snF (s4 s) s z (g.getD a (0, 0))) (srt (fun a => tiF s z (g.getD a (0, 0))) g.length) := psI_nn (fun a ha => (hs1 a ha).1)
      have hZ1 : psI (fun a => snF (s4 s) s z (g.getD a (0, 0))) (srt (fun a => tiF s z (g.getD a (0, 0))) g.length) ≤ 25000000 := by have := hsl.2; rw [srt_len] at this; omega
      have hcong : ∀ y, sby (putL c2 (g.map (tiF s z))) (putL c3 (g.map (snF (s4 s) s z))) y g.length = sby (fun a => tiF s z (g.getD a (0, 0))) (fun a => snF (s4 s) s z (g.getD a (0, 0))) y g.length := fun y => sby_congr (fun a ha => putL_m ha) (fun a ha => putL_m ha)
      have hm := e6_fade_loop (s0 := s) (sw := cpW (s4 s) c1 4) (wh := putL c4 (g.map cod)) (p := p) hn (upd_self c0 20 (nI g.length)) hA hZ0 hZ1 (t := putL c2 (g.map (tiF s z))) (s := putL c3 (g.map (snF (s4 s) s z))) (fun a ha => by
        rw [hcong]
        have hb := sby_rng (t := fun a => tiF s z (g.getD a (0, 0))) (s := fun a => snF (s4 s) s z (g.getD a (0, 0))) (x := putL c2 (g.map (tiF s z)) a) hn (fun a ha => (hf a ha).2)
        rw [hA2] at hb
        exact ⟨hb.1, hb.2.1⟩) hp.1 hp.2
      have hmm : mlt (putL c2 (g.map (tiF s z))) (mayB (putL c2 (g.map (tiF s z))) (putL c3 (g.map (snF (s4 s) s z))) g.length p.toInt (psI (fun a => snF (s4 s) s z (g.getD a (0, 0))) (srt (fun a => tiF s z (g.getD a (0, 0))) g.length))) g.length = mlt (fun a => tiF s z (g.getD a (0, 0))) (mayB (fun a => tiF s z (g.getD a (0, 0))) (fun a => snF (s4 s) s z (g.getD a (0, 0))) g.length p.toInt (psI (fun a => snF (s4 s) s z (g.getD a (0, 0))) (srt (fun a => tiF s z (g.getD a (0, 0))) g.length))) g.length := by
        refine mlt_congr (fun a ha => putL_m ha) (fun a ha => ?_)
        have e1 := hcong (putL c2 (g.map (tiF s z)) a)
        have e2 : putL c2 (g.map (tiF s z)) a = tiF s z (g.getD a (0, 0)) := putL_m ha
        rw [e2] at e1
        refine decide_eq_decide.mpr ?_
        rw [e2, e1]
      rw [hm, hmm]
      rcases Nat.eq_zero_or_pos g.length with hg | hg
      · rw [e0_fade0 p (show (upd (upd e0 6 (nI g.length)) 7 (sumI (g.map (snF (s4 s) s z)))) 6 = nI 0 by show nI g.length = nI 0; rw [hg]), Option.bind_some, hg]
        exact ⟨_, _, _, _, _, _, _, _, _, _, _, _, rfl, rfl, upd20⟩
      · obtain ⟨k0, k1, k2, k3, k4⟩ := fade_eq (t := fun a => tiF s z (g.getD a (0, 0))) (s := fun a => snF (s4 s) s z (g.getD a (0, 0))) (p := p.toInt) (fun a ha => (hf a ha).1.1) (fun a ha => (hf a ha).2) hn hg rfl (by omega)
        rw [k4, e0_fade (t := fun a => tiF s z (g.getD a (0, 0))) (s := fun a => snF (s4 s) s z (g.getD a (0, 0))) (l := srt (fun a => tiF s z (g.getD a (0, 0))) g.length) hn rfl (srt_len _ _) (fun q hq => putL_sl hq) (fun q hq => putL_sl hq) hs1 hA rfl hp.1 hp.2 k1 k2 k3, Option.bind_some]
        exact ⟨_, _, _, _, _, _, _, _, _, _, _, _, rfl, rfl, upd20⟩
/-! the best seat -/
def bU (s : Nat → Int32) (nC z : Nat) (y : Int32) : Int32 := sby (fun a => tiF s z ((HL (hdF s nC z)).getD a (0, 0))) (fun a => snF (s4 s) s z ((HL (hdF s nC z)).getD a (0, 0))) y (HL (hdF s nC z)).length
def bA (s : Nat → Int32) (nC z : Nat) : Int32 := sumI ((HL (hdF s nC z)).map (snF (s4 s) s z))
def bL (s : Nat → Int32) (nC z : Nat) : Int32 := if bA s nC z = 0 then 1 else bA s nC z
def bst (s : Nat → Int32) (nC : Nat) (y : Int32) : Nat → Int32 × Int64 × Int64
  | 0 => (-9, 0, 1)
  | z + 1 => if (bst s nC y z).1 = -9 then (nI z, Int32.toInt64 (bU s nC z y), Int32.toInt64 (bL s nC z)) else if lg_cmp (Int32.toInt64 (bU s nC z y) * (bst s nC y z).2.2) ((bst s nC y z).2.1 * Int32.toInt64 (bL s nC z)) ≤ 0 then bst s nC y z else (nI z, Int32.toInt64 (bU s nC z y), Int32.toInt64 (bL s nC z))
theorem bUA (h : RRel nS nC cN sw sX sY cX cF cT s) {z : Nat} (hz : z < nS) (y : Int32) : 0 ≤ (bU s nC z y).toInt ∧ (bU s nC z y).toInt ≤ (bA s nC z).toInt ∧ (bA s nC z).toInt ≤ 25000000 := by
  have hn := HL_len (hdF s nC z)
  have hf := seat_facts h hz (s4 s) h.w10
  unfold bU bA
  generalize HL (hdF s nC z) = g at *
  have hb := sby_rng (t := fun a => tiF s z (g.getD a (0, 0))) (s := fun a => snF (s4 s) s z (g.getD a (0, 0))) (x := y) hn (fun a ha => (hf a ha).2)
  have hA : (sumI (g.map (snF (s4 s) s z))).toInt = psI (fun a => snF (s4 s) s z (g.getD a (0, 0))) (List.range g.length) := by
    rw [← map_getD g (0, 0) (snF (s4 s) s z)]
    exact (psI_sum (fun a ha => (hf a (List.mem_range.mp ha)).2) (by rw [List.length_range]; exact hn)).1
  rw [hA]
  omega
theorem a_best (h : RRel nS nC cN sw sX sY cX cF cT s) (y : Int32) :
    ∃ r a0 a1 a2 a3 a4 a5 b0 b1 b2 b3 b4, fX5_best cN e0 sX sY cX cF cT e1 e2 e3 e4 e5 sw y = some (r, a0, a1, a2, a3, a4, a5) ∧ fX6_best c0 s c1 c2 c3 c4 y = some (r, b0, b1, b2, b3, b4) ∧ ∀ q, q ≠ 20 → b0 q = c0 q := by
  have h' := h
  obtain ⟨hS4, hC3, ⟨q0, q1, q2, q3, q4, q5, q6, q7⟩, -⟩ := h'
  unfold fX5_best fX6_best
  rw [e5_within, e6_in, Option.bind_some, Option.bind_some, b2_if, b2_if]
  cases hy : inB y 0 999 with
  | false => exact ⟨_, _, _, _, _, _, _, _, _, _, _, _, rfl, rfl, fun _ _ => rfl⟩
  | true =>
    simp only [if_true]
    have hC : ∃ (a0 a1 a2 a3 a4 a5 : Nat → Int32), LPX (fX5_best_L24 cN sX sY cX cF cT sw y) FU (-9, 0, 1, 0, e0, e1, e2, e3, e4, e5) = some ((bst s nC y nS).1, a0, a1, a2, a3, a4, a5) := by
      refine LPX_ruleP (P := fun o => ∃ (a0 a1 a2 a3 a4 a5 : Nat → Int32), o = some ((bst s nC y nS).1, a0, a1, a2, a3, a4, a5)) (I := fun z st => ∃ (a0 a1 a2 a3 a4 a5 : Nat → Int32), st = ((bst s nC y z).1, (bst s nC y z).2.1, (bst s nC y z).2.2, nI z, a0, a1, a2, a3, a4, a5)) nS ?_ ?_ FU 0 _ (by show nS < 4000 + 0; omega) (by omega) ⟨_, _, _, _, _, _, rfl⟩
      · rintro z _ hz ⟨a0, a1, a2, a3, a4, a5, rfl⟩
        left
        have hua := bUA h hz y
        have hml : Int32.toInt64 (if 1 < bA s nC z then bA s nC z else 1) = Int32.toInt64 (bL s nC z) := by
          congr 1
          unfold bL
          by_cases c1 : bA s nC z = 0
          · rw [if_pos c1, if_neg (by rw [c1]; decide)]
          · rw [if_neg c1]
            split
            · rfl
            · rename_i c2
              rw [fa_lt, show (1 : Int32).toInt = 1 from rfl] at c2
              rw [fa_eq, show (0 : Int32).toInt = 0 from rfl] at c1
              rw [fa_eq, show (1 : Int32).toInt = 1 from rfl]
              omega
        refine ⟨((bst s nC y (z + 1)).1, (bst s nC y (z + 1)).2.1, (bst s nC y (z + 1)).2.2, nI (z + 1), earE a0 a1 a2 a3 a4 a5 (tiF s z) (waF s z) (snF (s4 s) s z) (HL (hdF s nC z))), ⟨_, _, _, _, _, _, rfl⟩, fun k => ?_⟩
        simp only [fX5_best_L24]
        rw [if_neg (show ¬ cN 4 ≤ nI z by rw [q4, fa_le, nI_toInt (by omega), nI_toInt (by omega)]; omega), c_hear h hz, Option.bind_some]
        have hby := c_by (e := (earE a0 a1 a2 a3 a4 a5 (tiF s z) (waF s z) (snF (s4 s) s z) (HL (hdF s nC z))).1) (f := a1) (st := a5) (ti := tiF s z) (sn := snF (s4 s) s z) (HL_len (hdF s nC z)) rfl y
        rw [show fX0_strengthUpTo (earE a0 a1 a2 a3 a4 a5 (tiF s z) (waF s z) (snF (s4 s) s z) (HL (hdF s nC z))).1 (earE a0 a1 a2 a3 a4 a5 (tiF s z) (waF s z) (snF (s4 s) s z) (HL (hdF s nC z))).2.1 (earE a0 a1 a2 a3 a4 a5 (tiF s z) (waF s z) (snF (s4 s) s z) (HL (hdF s nC z))).2.2.2.2.2 y = some (bU s nC z y) from hby, Option.bind_some, bnd_e, bnd_e, show (earE a0 a1 a2 a3 a4 a5 (tiF s z) (waF s z) (snF (s4 s) s z) (HL (hdF s nC z))).1 7 = bA s nC z from rfl, hml, nI_1]
        simp only [bst]
        by_cases c1 : (bst s nC y z).1 = -9
        · rw [if_pos c1, if_pos c1]
        · rw [if_neg c1, if_neg c1]
          by_cases c2 : lg_cmp (Int32.toInt64 (bU s nC z y) * (bst s nC y z).2.2) ((bst s nC y z).2.1 * Int32.toInt64 (bL s nC z)) ≤ 0
          · rw [if_pos c2, if_pos c2]
          · rw [if_neg c2, if_neg c2]
      · rintro _ ⟨a0, a1, a2, a3, a4, a5, rfl⟩
        refine ⟨_, ⟨a0, a1, a2, a3, a4, a5, rfl⟩, fun k => ?_⟩
        simp only [fX5_best_L24]
        rw [if_pos (show cN 4 ≤ nI nS by rw [q4, fa_le]; exact Int.le_refl _)]
    have hM : ∃ (b0 b1 b2 b3 b4 : Nat → Int32), LPX (fX6_best_L24 s y) FU (-9, 0, 1, 0, c0, c1, c2, c3, c4) = some ((bst s nC y nS).1, b0, b1, b2, b3, b4) ∧ ∀ q, q ≠ 20 → b0 q = c0 q := by
      refine LPX_ruleP (P := fun o => ∃ (b0 b1 b2 b3 b4 : Nat → Int32), o = some ((bst s nC y nS).1, b0, b1, b2, b3, b4) ∧ ∀ q, q ≠ 20 → b0 q = c0 q) (I := fun z st => ∃ (b0 b1 b2 b3 b4 : Nat → Int32), st = ((bst s nC y z).1, (bst s nC y z).2.1, (bst s nC y z).2.2, nI z, b0, b1, b2, b3, b4) ∧ ∀ q, q ≠ 20 → b0 q = c0 q) nS ?_ ?_ FU 0 _ (by show nS < 4000 + 0; omega) (by omega) ⟨_, _, _, _, _, rfl, fun _ _ => rfl⟩
      · rintro z _ hz ⟨b0, b1, b2, b3, b4, rfl, hb⟩
        left
        have hua := bUA h hz y
        have hf := seat_facts h hz (s4 s) h.w10
        refine ⟨((bst s nC y (z + 1)).1, (bst s nC y (z + 1)).2.1, (bst s nC y (z + 1)).2.2, nI (z + 1), upd b0 20 (nI (HL (hdF s nC z)).length), cpW (s4 s) b1 4, putL b2 ((HL (hdF s nC z)).map (tiF s z)), putL b3 ((HL (hdF s nC z)).map (snF (s4 s) s z)), putL b4 ((HL (hdF s nC z)).map cod)), ⟨_, _, _, _, _, rfl, fun q hq => (upd20 q hq).trans (hb q hq)⟩, fun k => ?_⟩
        simp only [fX6_best_L24]
        rw [if_neg (show ¬ s 8 ≤ nI z by rw [q5, fa_le, nI_toInt (by omega), nI_toInt (by omega)]; omega), m_hearsNow h hz, Option.bind_some]
        dsimp only
        rw [m_all (HL_len _) (upd_self _ _ _) (fun a ha => (hf a ha).1.2), Option.bind_some, bnd_e, m_by (HL_len _) (upd_self _ _ _), Option.bind_some, bnd_e]
        have e1 : sumI ((HL (hdF s nC z)).map (snF (s4 s) s z)) = bA s nC z := rfl
        have e2 : sby (fun a => tiF s z ((HL (hdF s nC z)).getD a (0, 0))) (fun a => snF (s4 s) s z ((HL (hdF s nC z)).getD a (0, 0))) y (HL (hdF s nC z)).length = bU s nC z y := rfl
        rw [e1, e2]
        have hc0 : (lg_cmp (Int32.toInt64 (bA s nC z)) 0 = 0) ↔ bA s nC z = 0 := by
          rw [lg_cmp_eq, fa_eq64, Int32.toInt_toInt64, fa_eq]
          exact Iff.rfl
        have hj : ∀ (u l : Int32), fX6_best_j81 s y (bst s nC y z).1 (bst s nC y z).2.1 (bst s nC y z).2.2 (nI z) (Int32.toInt64 u) (Int32.toInt64 l) (upd b0 20 (nI (HL (hdF s nC z)).length)) (cpW (s4 s) b1 4) (putL b2 ((HL (hdF s nC z)).map (tiF s z))) (putL b3 ((HL (hdF s nC z)).map (snF (s4 s) s z))) (putL b4 ((HL (hdF s nC z)).map cod)) k = k (if (bst s nC y z).1 = -9 then (nI z, Int32.toInt64 u, Int32.toInt64 l, nI (z + 1), upd b0 20 (nI (HL (hdF s nC z)).length), cpW (s4 s) b1 4, putL b2 ((HL (hdF s nC z)).map (tiF s z)), putL b3 ((HL (hdF s nC z)).map (snF (s4 s) s z)), putL b4 ((HL (hdF s nC z)).map cod)) else if lg_cmp (Int32.toInt64 u * (bst s nC y z).2.2) ((bst s nC y z).2.1 * Int32.toInt64 l) ≤ 0 then ((bst s nC y z).1, (bst s nC y z).2.1, (bst s nC y z).2.2, nI (z + 1), upd b0 20 (nI (HL (hdF s nC z)).length), cpW (s4 s) b1 4, putL b2 ((HL (hdF s nC z)).map (tiF s z)), putL b3 ((HL (hdF s nC z)).map (snF (s4 s) s z)), putL b4 ((HL (hdF s nC z)).map cod)) else (nI z, Int32.toInt64 u, Int32.toInt64 l, nI (z + 1), upd b0 20 (nI (HL (hdF s nC z)).length), cpW (s4 s) b1 4, putL b2 ((HL (hdF s nC z)).map (tiF s z)), putL b3 ((HL (hdF s nC z)).map (snF (s4 s) s z)), putL b4 ((HL (hdF s nC z)).map cod))) := by
          intro u l
          unfold fX6_best_j81
          rw [nI_1]
          by_cases c1 : (bst s nC y z).1 = -9
          · rw [if_pos c1, if_pos c1]
          · rw [if_neg c1, if_neg c1]
            by_cases c2 : lg_cmp (Int32.toInt64 u * (bst s nC y z).2.2) ((bst s nC y z).2.1 * Int32.toInt64 l) ≤ 0
            · rw [if_pos c2, if_pos c2]
            · rw [if_neg c2, if_neg c2]
        have hfin : fX6_best_j81 s y (bst s nC y z).1 (bst s nC y z).2.1 (bst s nC y z).2.2 (nI z) (Int32.toInt64 (bU s nC z y)) (Int32.toInt64 (bL s nC z)) (upd b0 20 (nI (HL (hdF s nC z)).length)) (cpW (s4 s) b1 4) (putL b2 ((HL (hdF s nC z)).map (tiF s z))) (putL b3 ((HL (hdF s nC z)).map (snF (s4 s) s z))) (putL b4 ((HL (hdF s nC z)).map cod)) k = k ((bst s nC y (z + 1)).1, (bst s nC y (z + 1)).2.1, (bst s nC y (z + 1)).2.2, nI (z + 1), upd b0 20 (nI (HL (hdF s nC z)).length), cpW (s4 s) b1 4, putL b2 ((HL (hdF s nC z)).map (tiF s z)), putL b3 ((HL (hdF s nC z)).map (snF (s4 s) s z)), putL b4 ((HL (hdF s nC z)).map cod)) := by
          rw [hj]
          congr 1
          simp only [bst]
          by_cases c1 : (bst s nC y z).1 = -9
          · rw [if_pos c1, if_pos c1]
          · rw [if_neg c1, if_neg c1]
            by_cases c2 : lg_cmp (Int32.toInt64 (bU s nC z y) * (bst s nC y z).2.2) ((bst s nC y z).2.1 * Int32.toInt64 (bL s nC z)) ≤ 0
            · rw [if_pos c2, if_pos c2]
            · rw [if_neg c2, if_neg c2]
        by_cases hA0 : bA s nC z = 0
        · have hU0 : bU s nC z y = 0 := by
            rw [fa_eq, show (0 : Int32).toInt = 0 from rfl]
            rw [hA0, show (0 : Int32).toInt = 0 from rfl] at hua
            omega
          have hL1 : bL s nC z = 1 := if_pos hA0
          rw [if_pos (hc0.mpr hA0), if_pos (hc0.mpr hA0)]
          rw [hU0, hL1] at hfin
          exact hfin
        · have hL1 : bL s nC z = bA s nC z := if_neg hA0
          rw [if_neg (fun q => hA0 (hc0.mp q)), if_neg (fun q => hA0 (hc0.mp q))]
          rw [hL1] at hfin
          exact hfin
      · rintro _ ⟨b0, b1, b2, b3, b4, rfl, hb⟩
        refine ⟨_, ⟨b0, b1, b2, b3, b4, rfl, hb⟩, fun k => ?_⟩
        simp only [fX6_best_L24]
        rw [if_pos (show s 8 ≤ nI nS by rw [q5, fa_le]; exact Int.le_refl _)]
    obtain ⟨a0, a1, a2, a3, a4, a5, hC⟩ := hC
    obtain ⟨b0, b1, b2, b3, b4, hM, hb⟩ := hM
    exact ⟨_, a0, a1, a2, a3, a4, a5, b0, b1, b2, b3, b4, hC, hM, hb⟩
end ASK3
