theorem prow_mem {P : Nat → Nat → Bool} {x : Nat} {p : NN} : ∀ {y : Nat}, p ∈ prow P x y → p.1 = x ∧ p.2 < y
  | 0, h => absurd h (List.not_mem_nil)
  | y + 1, h => by
    rcases List.mem_append.mp h with h | h
    · have := prow_mem h
      omega
    · cases hp : P x y with
      | false => rw [hp] at h; exact absurd h (List.not_mem_nil)
      | true =>
        rw [hp] at h
        have e := List.mem_singleton.mp h
        rw [e]
        exact ⟨rfl, by show y < y + 1; omega⟩
theorem prows_mem {P : Nat → Nat → Bool} {B : Nat} {p : NN} : ∀ {x : Nat}, p ∈ prows P B x → p.1 < x ∧ p.2 ≤ B
  | 0, h => absurd h (List.not_mem_nil)
  | x + 1, h => by
    rcases List.mem_append.mp h with h | h
    · have := prows_mem h
      omega
    · have := prow_mem h
      omega
section LSN2
variable {Q Ln Bn : Nat} {fO fi fj ft mO si sj st cN s pX pY told mtold : Nat → Int32}
def lsD (s : Nat → Int32) (l : List NN) (p : II) : Nat := dnN (tfN s l p) l.length
theorem c_tell {l : List NN} {e : Nat → Int32} (q0 : cN 0 = s 0) (q1 : cN 1 = s 1) (q2 : cN 2 = s 2) (q3 : cN 3 = s 3) (hR : RV (s 0) (s 1) (s 2) (s 3)) (hl : ∀ p ∈ l, PV (s 0) (s 1) (nI p.1) (nI p.2)) (hn : l.length ≤ 441) (h6 : e 6 = nI l.length) :
    fX1_tellingImage e told cN (putL pX (l.map (fun p => nI p.1))) (putL pY (l.map (fun p => nI p.2))) = some ((fd (stC (lsD s l) (tfN s l) l.length) ((-9, 0), 0, cpW (fun _ => 0) told 1024) 7 0).1.1, (fd (stC (lsD s l) (tfN s l) l.length) ((-9, 0), 0, cpW (fun _ => 0) told 1024) 7 0).2.2) := by
  unfold fX1_tellingImage
  rw [fill_eq (by omega), Option.bind_some]
  have hD : ∀ p, lsD s l p ≤ 441 := fun p => by have := dnN_le (tfN s l p) l.length; unfold lsD; omega
  have hI : okA 0 (((-9, 0), 0, cpW (fun _ => 0) told 1024) : AC) := ⟨Nat.le_refl 0, by show 0 ≤ 441; omega, fun q hq => ⟨0, Nat.le_refl 0, by show cpW (fun _ => 0) told 1024 q = nI 0; unfold cpW; rw [if_pos hq]; rfl⟩⟩
  have hok : ∀ u v, okA (7 * u + v) (fd (stC (lsD s l) (tfN s l) l.length) ((-9, 0), 0, cpW (fun _ => 0) told 1024) u v) := by
    intro u v
    have := okA_l (D := lsD s l) (f := tfN s l) (N := l.length) hD (rows u ++ row u v) 0 _ hI
    rw [List.length_append, rows_len, row_len, Nat.zero_add] at this
    exact this
  have hsk : ∀ (b : AC) (p : II), imgB p.1 p.2 = false → stC (lsD s l) (tfN s l) l.length b p = b := by
    intro b p hp
    unfold stC
    rw [hp]; rfl
  have hfs := fd_s (stC (lsD s l) (tfN s l) l.length) (((-9, 0), 0, cpW (fun _ => 0) told 1024) : AC)
  have hf7 := fd_7 (stC (lsD s l) (tfN s l) l.length) (((-9, 0), 0, cpW (fun _ => 0) told 1024) : AC)
  have hfk := fd_skip (stC (lsD s l) (tfN s l) l.length) (((-9, 0), 0, cpW (fun _ => 0) told 1024) : AC) hsk
  have hz0 : fd (stC (lsD s l) (tfN s l) l.length) (((-9, 0), 0, cpW (fun _ => 0) told 1024) : AC) 0 0 = ((-9, 0), 0, cpW (fun _ => 0) told 1024) := rfl
  generalize fd (stC (lsD s l) (tfN s l) l.length) (((-9, 0), 0, cpW (fun _ => 0) told 1024) : AC) = A at *
  have inner : ∀ (u : Nat) (hu : u < 7) (k20 : (Int32 × Int32 × Int32 × Int32 × (Nat → Int32)) → Option (Int32 × (Nat → Int32))), LPX (fX1_tellingImage_L40 e cN (putL pX (l.map (fun p => nI p.1))) (putL pY (l.map (fun p => nI p.2))) (Kn u) (nI (rsU u)) k20) FU ((A u 0).1.1, nI (A u 0).1.2, nI (A u 0).2.1, Kn (3 - rsU u), (A u 0).2.2) = k20 ((A (u + 1) 0).1.1, nI (A (u + 1) 0).1.2, nI (A (u + 1) 0).2.1, Kn u + 1, (A (u + 1) 0).2.2) := by
    intro u hu k20
    have hr := rsU_le u hu
    have hlo : A u 0 = A u (3 - rsU u + 0) := by
      have h := hfk u 0 (3 - rsU u) (fun w h1 h2 => by rw [img_row u hu w (by omega)]; exact decide_eq_false (by omega))
      rw [Nat.zero_add] at h
      exact h.symm
    have hhi : A (u + 1) 0 = A u (3 - rsU u + (2 * rsU u + 1)) := by
      rw [← hf7]
      have h := hfk u (3 - rsU u + (2 * rsU u + 1)) (3 - rsU u) (fun w h1 h2 => by rw [img_row u hu w (by omega)]; exact decide_eq_false (by omega))
      rw [show 3 - rsU u + (2 * rsU u + 1) + (3 - rsU u) = 7 by omega] at h
      exact h
    rw [hlo, hhi]
    refine LPX_det (F := fun t => ((A u (3 - rsU u + t)).1.1, nI (A u (3 - rsU u + t)).1.2, nI (A u (3 - rsU u + t)).2.1, Kn (3 - rsU u + t), (A u (3 - rsU u + t)).2.2)) (2 * rsU u + 1) (fun t ht k => ?_) (fun k => ?_) (FU_lt (by omega))
    · have h1 : ¬ nI (rsU u) < Kn (3 - rsU u + t) := by rw [fa_lt, Kn_t (by omega), nI_toInt (by omega)]; omega
      have hi : imgB (Kn u) (Kn (3 - rsU u + t)) = true := by rw [img_row u hu _ (by omega)]; exact decide_eq_true (by omega)
      have ho := hok u (3 - rsU u + t)
      have hs' := hfs u (3 - rsU u + t)
      show _ = k ((A u (3 - rsU u + t + 1)).1.1, nI (A u (3 - rsU u + t + 1)).1.2, nI (A u (3 - rsU u + t + 1)).2.1, Kn (3 - rsU u + t + 1), (A u (3 - rsU u + t + 1)).2.2)
      rw [hs']
      generalize A u (3 - rsU u + t) = a at *
      obtain ⟨o1, o2, o3⟩ := ho
      have hu1 := c_unlike (told := a.2.2) (pX := pX) (pY := pY) (e := e) (m := nI (a.2.1 + 1)) q0 q1 q2 q3 hR hi hl hn h6 (fun q hq he => by
        obtain ⟨b, hb, eb⟩ := o3 q hq
        rw [eb] at he
        have := nI_inj (by omega) (by omega) he
        omega)
      have hDp := hD (Kn u, Kn (3 - rsU u + t))
      have hst : stC (lsD s l) (tfN s l) l.length a (Kn u, Kn (3 - rsU u + t)) = (stP (lsD s l) a.1 (Kn u, Kn (3 - rsU u + t)), a.2.1 + 1, tolF (tfN s l (Kn u, Kn (3 - rsU u + t))) (nI (a.2.1 + 1)) a.2.2 l.length) := by
        unfold stC
        rw [show imgB ((Kn u, Kn (3 - rsU u + t)) : II).1 ((Kn u, Kn (3 - rsU u + t)) : II).2 = true from hi]
        rfl
      rw [hst]
      simp only [fX1_tellingImage_L40]
      rw [if_neg h1, nI_1, hu1, Option.bind_some, Kn_s (by omega)]
      unfold fX5_imageCode
      rw [Option.bind_some]
      have hDe : dnN (tfN s l (Kn u, Kn (3 - rsU u + t))) l.length = lsD s l (Kn u, Kn (3 - rsU u + t)) := rfl
      simp only [hDe]
      unfold stP
      by_cases c : lsD s l (Kn u, Kn (3 - rsU u + t)) ≤ a.1.2
      · rw [if_pos c, if_pos (show nI (lsD s l (Kn u, Kn (3 - rsU u + t))) ≤ nI a.1.2 by rw [fa_le, nI_toInt (by omega), nI_toInt (by omega)]; omega)]
      · rw [if_neg c, if_neg (show ¬ nI (lsD s l (Kn u, Kn (3 - rsU u + t))) ≤ nI a.1.2 by rw [fa_le, nI_toInt (by omega), nI_toInt (by omega)]; omega)]
        rfl
    · have h1 : nI (rsU u) < Kn (3 - rsU u + (2 * rsU u + 1)) := by rw [fa_lt, Kn_t (by omega), nI_toInt (by omega)]; omega
      simp only [fX1_tellingImage_L40]
      rw [if_pos h1]
  have e0 : ((-9, 0, 0, -3, cpW (fun _ => 0) told 1024) : Int32 × Int32 × Int32 × Int32 × (Nat → Int32)) = (fun u => ((A u 0).1.1, nI (A u 0).1.2, nI (A u 0).2.1, Kn u, (A u 0).2.2)) 0 := by
    show _ = ((A 0 0).1.1, nI (A 0 0).1.2, nI (A 0 0).2.1, Kn 0, (A 0 0).2.2)
    rw [hz0]
    rfl
  rw [e0]
  refine LPX_det (F := fun u => ((A u 0).1.1, nI (A u 0).1.2, nI (A u 0).2.1, Kn u, (A u 0).2.2)) 7 (fun u hu k => ?_) (fun k => ?_) (FU_lt (by decide))
  · have h1 : ¬ (3 : Int32) < Kn u := by rw [fa_lt, Kn_t (by omega), show (3 : Int32).toInt = 3 from rfl]; omega
    have hi := inner u hu k
    rw [Kn_s (by omega)] at hi
    simp only [fX1_tellingImage_L20]
    rw [if_neg h1, bnd_e, (rest_row u hu).1, bnd_e, (rest_row u hu).2]
    exact hi
  · simp only [fX1_tellingImage_L20]
    rw [if_pos (show (3 : Int32) < Kn 7 by decide)]
theorem m_tell (h : SRel Q fO fi fj ft mO si sj st) (hR : RV (s 0) (s 1) (s 2) (s 3)) (h0 : s 0 = nI Ln) (h1 : s 1 = nI Bn) (hL : Ln ≤ 20) (hB : Bn ≤ 20) {l : List NN} (hle : l = prows (posB s si sj st Q) Bn (Ln + 1)) :
    LPX (fX6_listen_L20 mO s si sj st) FU (-9, 0, -3, mtold) = some ((fd (stM (lsD s l) (tfN s l) l.length) ((-9, 0), mtold) 7 0).1.1, (fd (stM (lsD s l) (tfN s l) l.length) ((-9, 0), mtold) 7 0).2) := by
  have hlen : l.length ≤ 441 := by rw [hle]; exact prows_le hL hB _
  have hD : ∀ p, lsD s l p ≤ 441 := fun p => by have := dnN_le (tfN s l p) l.length; unfold lsD; omega
  have hb441 : ∀ (g : List II) (b : AM), b.1.2 ≤ 441 → (g.foldl (stM (lsD s l) (tfN s l) l.length) b).1.2 ≤ 441 := by
    intro g
    induction g with
    | nil => intro b hb; exact hb
    | cons p g ih =>
      intro b hb
      refine ih _ ?_
      unfold stM
      cases imgB p.1 p.2 with
      | false => exact hb
      | true =>
        show (stP (lsD s l) b.1 p).2 ≤ 441
        unfold stP
        split
        · exact hb
        · exact hD p
  have hok : ∀ u v, (fd (stM (lsD s l) (tfN s l) l.length) (((-9, 0), mtold) : AM) u v).1.2 ≤ 441 := fun u v => hb441 _ _ (by show 0 ≤ 441; omega)
  have hfs := fd_s (stM (lsD s l) (tfN s l) l.length) (((-9, 0), mtold) : AM)
  have hf7 := fd_7 (stM (lsD s l) (tfN s l) l.length) (((-9, 0), mtold) : AM)
  have hz0 : fd (stM (lsD s l) (tfN s l) l.length) (((-9, 0), mtold) : AM) 0 0 = ((-9, 0), mtold) := rfl
  generalize fd (stM (lsD s l) (tfN s l) l.length) (((-9, 0), mtold) : AM) = A at *
  have inner : ∀ (u : Nat) (hu : u < 7) (k20 : (Int32 × Int32 × Int32 × (Nat → Int32)) → Option (Int32 × (Nat → Int32))), LPX (fX6_listen_L29 mO s si sj st (Kn u) k20) FU ((A u 0).1.1, nI (A u 0).1.2, -3, (A u 0).2) = k20 ((A (u + 1) 0).1.1, nI (A (u + 1) 0).1.2, Kn u + 1, (A (u + 1) 0).2) := by
    intro u hu k20
    refine LPX_det (F := fun v => ((A u v).1.1, nI (A u v).1.2, Kn v, (A u v).2)) 7 (fun v hv k => ?_) (fun k => ?_) (FU_lt (by decide))
    · have h3 : ¬ (3 : Int32) < Kn v := by rw [fa_lt, Kn_t (by omega), show (3 : Int32).toInt = 3 from rfl]; omega
      have ho := hok u v
      have hs' := hfs u v
      show _ = k ((A u (v + 1)).1.1, nI (A u (v + 1)).1.2, Kn (v + 1), (A u (v + 1)).2)
      rw [hs']
      generalize A u v = a at *
      simp only [fX6_listen_L29, fX6_listen_j55, fX6_listen_j78]
      rw [if_neg h3, e6_img, Option.bind_some, b2_if, Kn_s (by omega)]
      unfold stM
      cases hi : imgB (Kn u) (Kn v) with
      | false =>
        simp only [Bool.false_eq_true, if_false]
        have c' : (0 : Int32) ≤ nI a.1.2 := by rw [fa_le, nI_toInt (by omega), show (0 : Int32).toInt = 0 from rfl]; omega
        rw [if_pos c', if_pos c']
      | true =>
        simp only [if_true]
        rw [m_unlike h hR h0 h1 hL hB hi rfl, Option.bind_some, ← hle]
        have hDe : dnN (tfN s l (Kn u, Kn v)) l.length = lsD s l (Kn u, Kn v) := rfl
        have hDp := hD (Kn u, Kn v)
        simp only [hDe]
        unfold stP
        by_cases c : lsD s l (Kn u, Kn v) ≤ a.1.2
        · have c' : nI (lsD s l (Kn u, Kn v)) ≤ nI a.1.2 := by rw [fa_le, nI_toInt (by omega), nI_toInt (by omega)]; omega
          rw [if_pos c, if_pos c', if_pos c']
        · have c' : ¬ nI (lsD s l (Kn u, Kn v)) ≤ nI a.1.2 := by rw [fa_le, nI_toInt (by omega), nI_toInt (by omega)]; omega
          rw [if_neg c, if_neg c', if_neg c']
          rfl
    · simp only [fX6_listen_L29]
      rw [if_pos (show (3 : Int32) < Kn 7 by decide), hf7]
  have e0 : ((-9, 0, -3, mtold) : Int32 × Int32 × Int32 × (Nat → Int32)) = (fun u => ((A u 0).1.1, nI (A u 0).1.2, Kn u, (A u 0).2)) 0 := by
    show _ = ((A 0 0).1.1, nI (A 0 0).1.2, Kn 0, (A 0 0).2)
    rw [hz0]
    rfl
  rw [e0]
  refine LPX_det (F := fun u => ((A u 0).1.1, nI (A u 0).1.2, Kn u, (A u 0).2)) 7 (fun u hu k => ?_) (fun k => ?_) (FU_lt (by decide))
  · have h3 : ¬ (3 : Int32) < Kn u := by rw [fa_lt, Kn_t (by omega), show (3 : Int32).toInt = 3 from rfl]; omega
    simp only [fX6_listen_L20]
    rw [if_neg h3, inner u hu, Kn_s (by omega)]
  · simp only [fX6_listen_L20]
    rw [if_pos (show (3 : Int32) < Kn 7 by decide)]
theorem a_listen (h : SRel Q fO fi fj ft mO si sj st) (q0 : cN 0 = s 0) (q1 : cN 1 = s 1) (q2 : cN 2 = s 2) (q3 : cN 3 = s 3) (hR : RV (s 0) (s 1) (s 2) (s 3)) (h0 : s 0 = nI Ln) (h1 : s 1 = nI Bn) (hL : Ln ≤ 20) (hB : Bn ≤ 20) :
    ∃ r fO' pX' pY' told' mtold', fX5_listen fO cN fi fj ft pX pY told = some (r, fO', pX', pY', told') ∧ fX6_listen mO s si sj st mtold = some (r, mtold') ∧ fO' 3 = fO 3 := by
  unfold fX5_listen fX6_listen
  have hlen := prows_le hL hB (posB s si sj st Q)
  have hmt := m_tell (mtold := mtold) h hR h0 h1 hL hB rfl
  have hmem : ∀ p ∈ prows (posB s si sj st Q) Bn (Ln + 1), PV (s 0) (s 1) (nI p.1) (nI p.2) := by
    intro p hp
    have := prows_mem hp
    exact PV_nI h0 h1 hL hB (by omega) this.2
  rw [c_find h q0 q1 q2 q3 hR h0 h1 hL hB, m_count h hR h0 h1 hL hB, Option.bind_some, Option.bind_some, hmt]
  generalize prows (posB s si sj st Q) Bn (Ln + 1) = l at *
  simp only [plE, upd_self]
  by_cases hc : l.length ≤ 1
  · rw [if_pos (show nI l.length ≤ 1 by rw [fa_le, nI_toInt (by omega), show (1 : Int32).toInt = 1 from rfl]; omega), if_neg (show ¬ (2 : Int32) ≤ nI l.length by rw [fa_le, nI_toInt (by omega), show (2 : Int32).toInt = 2 from rfl]; omega)]
    exact ⟨_, _, _, _, _, _, rfl, rfl, rfl⟩
  · rw [if_neg (show ¬ nI l.length ≤ 1 by rw [fa_le, nI_toInt (by omega), show (1 : Int32).toInt = 1 from rfl]; omega), if_pos (show (2 : Int32) ≤ nI l.length by rw [fa_le, nI_toInt (by omega), show (2 : Int32).toInt = 2 from rfl]; omega), c_tell q0 q1 q2 q3 hR hmem hlen rfl, Option.bind_some]
    have he := st_eq (lsD s l) (tfN s l) l.length (rows 7 ++ row 7 0) ((-9, 0), 0, cpW (fun _ => 0) told 1024) ((-9, 0), mtold) rfl
    unfold fd
    rw [he]
    exact ⟨_, _, _, _, _, _, rfl, rfl, rfl⟩
end LSN2
