/-! the room, read from the text -/
section ROOM
variable {t b : Nat → Int32} {T N : Nat} {mO pl kd vl s mik : Nat → Int32}
theorem ck_m1 {p : Nat} (hl : ∀ k, k < T → 0 ≤ (t k).toInt ∧ (t k).toInt ≤ 255) (h : sk t T p < T) : ¬ ckF t T p = -1 := by
  unfold ckF
  rw [if_pos h]
  cases fgB (t (sk t T p)) with
  | true =>
    simp only [if_true]
    cases baB t T p <;> decide
  | false =>
    simp only [Bool.false_eq_true, if_false]
    intro e
    have := (hl _ h).1
    rw [e] at this
    exact absurd this (by decide)
theorem m_place (C : CX t b T N mO pl kd vl) {j : Nat} (hj : j ≤ N) : fX6_placeOf mO pl (nI j) = some (nI (sk t T (PS t T j))) := by
  obtain ⟨hT, hag, hl, hN, h15, h11, hsN, hb⟩ := C
  unfold fX6_placeOf
  rw [h15]
  rcases Nat.lt_or_ge j N with h | h
  · rw [if_neg (show ¬ nI N ≤ nI j by rw [fa_le, nI_toInt (by omega), nI_toInt (by omega)]; omega), if_pos (okI_nI (show j < 100 by omega) (by decide)), cl_nI (by omega), (hb j h).2.1]
  · have e : j = N := by omega
    subst e
    have := sk_le (t := t) (PS_le (t := t) (T := T) j)
    rw [if_pos (show nI j ≤ nI j by rw [fa_le]; exact Int.le_refl _), h11, show sk t T (PS t T j) = T by omega]
theorem m_becomes (dr : Nat → Int32) : fX6_becomes mO dr s mik = some (upd (upd mO 5 0) 9 0, cpW dr s 27, upd (upd mik 0 0) 1 0) := by
  unfold fX6_becomes
  have e0 : ((0, s) : Int32 × (Nat → Int32)) = (fun w => (nI w, cpW dr s w)) 0 := by
    show _ = (nI 0, cpW dr s 0)
    rw [cpW_0]; rfl
  rw [e0]
  refine LPX_det (F := fun w => (nI w, cpW dr s w)) 27 (fun w hw k => ?_) (fun k => ?_) (FU_lt (by decide))
  · simp only [fX6_becomes_L2]
    rw [if_neg (show ¬ (27 : Int32) ≤ nI w by rw [fa_le, nI_toInt (by omega), show (27 : Int32).toInt = 27 from rfl]; omega), if_pos (okI_nI hw (by decide)), if_pos (okI_nI hw (by decide)), cl_nI (by omega), nI_1, cpW_s]
  · simp only [fX6_becomes_L2]
    rw [if_pos (show (27 : Int32) ≤ nI 27 by decide)]
def bgF : Nat → Int32 := fun k => if k < 4 then 0 else if 8 ≤ k then 0 else 2
theorem m_begins (e dr : Nat → Int32) : fX6_begins e dr = some (upd (upd (upd (upd (cpW bgF dr 27) 0 10) 1 8) 2 1) 3 1) := by
  unfold fX6_begins
  have e0 : ((0, dr) : Int32 × (Nat → Int32)) = (fun w => (nI w, cpW bgF dr w)) 0 := by
    show _ = (nI 0, cpW bgF dr 0)
    rw [cpW_0]; rfl
  rw [e0]
  refine LPX_det (F := fun w => (nI w, cpW bgF dr w)) 27 (fun w hw k => ?_) (fun k => ?_) (FU_lt (by decide))
  · simp only [fX6_begins_L2]
    have ok : okI (nI w) 27 := okI_nI hw (by decide)
    rw [if_neg (show ¬ (27 : Int32) ≤ nI w by rw [fa_le, nI_toInt (by omega), show (27 : Int32).toInt = 27 from rfl]; omega), if_pos ok, if_pos ok, cl_nI (by omega), nI_1]
    by_cases c1 : w < 4
    · rw [if_pos (show nI w < 4 by rw [fa_lt, nI_toInt (by omega), show (4 : Int32).toInt = 4 from rfl]; omega), cp_s (show (0 : Int32) = bgF w from (if_pos c1).symm)]
    · rw [if_neg (show ¬ nI w < 4 by rw [fa_lt, nI_toInt (by omega), show (4 : Int32).toInt = 4 from rfl]; omega)]
      by_cases c2 : 8 ≤ w
      · rw [if_pos (show (8 : Int32) ≤ nI w by rw [fa_le, nI_toInt (by omega), show (8 : Int32).toInt = 8 from rfl]; omega), cp_s (show (0 : Int32) = bgF w by unfold bgF; rw [if_neg c1, if_pos c2])]
      · rw [if_neg (show ¬ (8 : Int32) ≤ nI w by rw [fa_le, nI_toInt (by omega), show (8 : Int32).toInt = 8 from rfl]; omega), cp_s (show (2 : Int32) = bgF w by unfold bgF; rw [if_neg c1, if_neg c2])]
  · simp only [fX6_begins_L2]
    rw [if_pos (show (27 : Int32) ≤ nI 27 by decide)]
theorem c_first (d0 dsw : Nat → Int32) : fX3_beAsAtFirst d0 dsw = some (upd (upd (upd (upd (upd (upd d0 0 10) 1 8) 2 1) 3 1) 4 0) 5 0, cpW (fun _ => 2) dsw 4) := by
  unfold fX3_beAsAtFirst
  rw [fill_eq (by omega), Option.bind_some]
theorem rr_first (d0 dsw dsX dsY dcX dcF dcT dr : Nat → Int32) : RRel 0 0 (upd (upd (upd (upd (upd (upd d0 0 10) 1 8) 2 1) 3 1) 4 0) 5 0) (cpW (fun _ => 2) dsw 4) dsX dsY dcX dcF dcT (upd (upd (upd (upd (cpW bgF dr 27) 0 10) 1 8) 2 1) 3 1) := by
  have h4 : ∀ w, w < 4 → upd (upd (upd (upd (cpW bgF dr 27) 0 10) 1 8) 2 1) 3 1 (4 + w) = 2 := by
    intro w hw
    rw [upd_ne (by omega), upd_ne (by omega), upd_ne (by omega), upd_ne (by omega)]
    unfold cpW bgF
    rw [if_pos (by omega), if_neg (by omega), if_neg (by omega)]
  refine ⟨by omega, by omega, ⟨rfl, rfl, rfl, rfl, rfl, rfl, rfl, rfl⟩, fun w hw => ?_, fun k hk => by omega, fun c hc => by omega, ?_, fun w hw => ?_, fun k hk => by omega, fun c hc => by omega⟩
  · rw [h4 w hw]
    unfold cpW
    rw [if_pos hw]
  · show RV 10 8 1 1
    unfold RV
    decide
  · rw [h4 w hw]
    decide
/-- what both readings give -/
def ROUT (T : Nat) (mO pl kd vl s mik : Nat → Int32) (o : Option (Int32 × (Nat → Int32) × (Nat → Int32) × (Nat → Int32) × (Nat → Int32) × (Nat → Int32) × (Nat → Int32) × (Nat → Int32) × (Nat → Int32))) (o' : Option (Int32 × (Nat → Int32) × (Nat → Int32) × (Nat → Int32) × (Nat → Int32) × (Nat → Int32) × (Nat → Int32) × (Nat → Int32))) : Prop :=
  ∃ d0' dsw' dsX' dsY' dcX' dcF' dcT' e' dr', (∃ i nS nC, i ≤ 100 ∧ o = some (nI i, d0', dsw', e', dsX', dsY', dcX', dcF', dcT') ∧ o' = some (nI i, upd (upd (upd mO 5 0) 9 0) 11 0, pl, kd, vl, dr', cpW dr' s 27, upd (upd mik 0 0) 1 0) ∧ RRel nS nC d0' dsw' dsX' dsY' dcX' dcF' dcT' dr' ∧ e' 1 = nI T) ∨ (∃ p, p ≤ 100 ∧ o = some (-10 - nI p, d0', dsw', e', dsX', dsY', dcX', dcF', dcT') ∧ o' = some (-10 - nI p, mO, pl, kd, vl, dr', s, mik) ∧ e' 1 = nI T)
theorem room_run (C : CX t b T N mO pl kd vl) : ∀ (d n i nS nC : Nat) (d0 dsw dsX dsY dcX dcF dcT dr e : Nat → Int32) (f1 f2 : Nat), N - n ≤ d → n ≤ N → i ≤ n → (i = 0 ↔ n = 0) → (n = 0 → nS = 0 ∧ nC = 0 ∧ dr 2 = 1 ∧ dr 3 = 1) → RRel nS nC d0 dsw dsX dsY dcX dcF dcT dr → e 1 = nI T → e 2 = nI (PS t T n) → d < f1 → d < f2 →
    ROUT T mO pl kd vl s mik (LPX (fX4_readInto_L11 b) f1 (nI i, d0, dsw, e, dsX, dsY, dcX, dcF, dcT)) (LPX (fX6_room_L12 t mO pl kd vl s mik) f2 (nI i, nI n, dr)) := by
  intro d
  induction d with
  | zero =>
    intro n i nS nC d0 dsw dsX dsY dcX dcF dcT dr e f1 f2 hd hn hi hi0 hf hr h1 h2 hf1 hf2
    have hC' := C
    obtain ⟨hT, hag, hl, hN, h15, h11, hsN, hb⟩ := hC'
    obtain ⟨f1, rfl⟩ : ∃ g, f1 = g + 1 := ⟨f1 - 1, by omega⟩
    obtain ⟨f2, rfl⟩ : ∃ g, f2 = g + 1 := ⟨f2 - 1, by omega⟩
    obtain ⟨e', x0, x1, x2, x4, x3, x5⟩ := c_next hT hag hl (PS_le n) h1 h2
    have en : n = N := by omega
    subst en
    have ek : ckF t T (PS t T n) = -1 := by unfold ckF; rw [if_neg hsN]
    rw [LPX_s, LPX_s]
    simp only [fX4_readInto_L11, fX6_room_L12]
    rw [if_neg (show ¬ (100 : Int32) < nI i by rw [fa_lt, nI_toInt (by omega), show (100 : Int32).toInt = 100 from rfl]; omega), x0, Option.bind_some, if_pos (x3.trans ek), if_pos (show mO 15 ≤ nI n by rw [h15, fa_le]; exact Int.le_refl _), m_becomes, Option.bind_some]
    exact ⟨_, _, _, _, _, _, _, e', dr, Or.inl ⟨i, nS, nC, by omega, rfl, rfl, hr, x1⟩⟩
  | succ d ih =>
    intro n i nS nC d0 dsw dsX dsY dcX dcF dcT dr e f1 f2 hd hn hi hi0 hf hr h1 h2 hf1 hf2
    have hC' := C
    obtain ⟨hT, hag, hl, hN, h15, h11, hsN, hb⟩ := hC'
    obtain ⟨f1, rfl⟩ : ∃ g, f1 = g + 1 := ⟨f1 - 1, by omega⟩
    obtain ⟨f2, rfl⟩ : ∃ g, f2 = g + 1 := ⟨f2 - 1, by omega⟩
    obtain ⟨e', x0, x1, x2, x4, x3, x5⟩ := c_next hT hag hl (PS_le n) h1 h2
    rw [LPX_s, LPX_s]
    simp only [fX4_readInto_L11, fX6_room_L12]
    rw [if_neg (show ¬ (100 : Int32) < nI i by rw [fa_lt, nI_toInt (by omega), show (100 : Int32).toInt = 100 from rfl]; omega), x0, Option.bind_some]
    rcases Nat.lt_or_ge n N with hlt | hge
    · have hck := ck_m1 (t := t) (T := T) (p := PS t T n) hl (hb n hlt).1
      rw [if_neg (fun h => hck (x3.symm.trans h)), if_neg (show ¬ mO 15 ≤ nI n by rw [h15, fa_le, nI_toInt (by omega), nI_toInt (by omega)]; omega)]
      have hit := item_all (e := e') (x := nI i) C hlt hr x1 x2 x4 x3 (by rw [nIz (by omega)]; exact hi0) hf
      have hsp : ∀ j, sk t T (PS t T j) ≤ 100 := fun j => by have := sk_le (t := t) (PS_le (t := t) (T := T) j); omega
      have hn9 : ∀ j, j ≤ N → ¬ nI j = -9 := fun j hj => by rw [fa_eq, nI_toInt (by omega), show (-9 : Int32).toInt = -9 from rfl]; omega
      rcases hit with ⟨j, hj, hw, ⟨e2, a0, a1, a2, a3, a4, a5, a6, y0, y1, y4⟩ | ⟨e2, a0, a1, a2, a3, a4, a5, a6, e3, y0, z0, y1, y4⟩⟩ | ⟨n', nS', nC', e2, a0, a1, a2, a3, a4, a5, a6, e3, dr', y0, z0, y1, y2, hw, hlay, hrel, hn', en'⟩
      · rw [y0, hw, Option.bind_some, Option.bind_some, if_pos rfl, if_neg (hn9 j hj), m_place C hj, Option.bind_some]
        dsimp only
        rw [y4]
        exact ⟨_, _, _, _, _, _, _, e2, dr, Or.inr ⟨_, hsp j, rfl, rfl, y1⟩⟩
      · rw [y0, hw, Option.bind_some, Option.bind_some, if_neg (show ¬ (1 : Int32) = 0 by decide), if_neg (hn9 j hj), m_place C hj, Option.bind_some]
        dsimp only
        rw [z0, Option.bind_some, if_pos rfl]
        dsimp only
        rw [y4]
        exact ⟨_, _, _, _, _, _, _, e3, dr, Or.inr ⟨_, hsp j, rfl, rfl, y1⟩⟩
      · rw [y0, hw, Option.bind_some, Option.bind_some, if_neg (show ¬ (1 : Int32) = 0 by decide), if_pos (rfl : (-9 : Int32) = -9), hlay, Option.bind_some]
        dsimp only
        rw [z0, Option.bind_some, if_neg (show ¬ (1 : Int32) = 0 by decide), if_pos (okI_nI (show n < 100 by omega) (by decide)), cl_nI (by omega), bnd_e, bnd_e]
        have e5 : nI n + 5 = nI (n + 5) := nI_add n 5
        have e4 : nI n + 4 = nI (n + 4) := nI_add n 4
        have hge4 : n + 4 ≤ n' := by rw [en']; split <;> omega
        have hih := ih n' (i + 1) nS' nC' a0 a1 a2 a3 a4 a5 a6 dr' e3 f1 f2 (by omega) hn' (by omega) ⟨fun h => by omega, fun h => by omega⟩ (fun h => by omega) hrel y1 y2 (by omega) (by omega)
        rw [e5, e4, nI_1]
        by_cases c : kd n = 99
        · rw [if_pos c]
          rw [if_pos c] at en'
          rw [← en']
          exact hih
        · rw [if_neg c]
          rw [if_neg c] at en'
          rw [← en']
          exact hih
    · have en : n = N := by omega
      subst en
      have ek : ckF t T (PS t T n) = -1 := by unfold ckF; rw [if_neg hsN]
      rw [if_pos (x3.trans ek), if_pos (show mO 15 ≤ nI n by rw [h15, fa_le]; exact Int.le_refl _), m_becomes, Option.bind_some]
      exact ⟨_, _, _, _, _, _, _, e', dr, Or.inl ⟨i, nS, nC, by omega, rfl, rfl, hr, x1⟩⟩
theorem c_drop (ik : Nat → Int32) : fX5_dropKept ik = some (cpW (fun _ => 0) ik 2) := by
  unfold fX5_dropKept
  have e0 : ((0, ik) : Int32 × (Nat → Int32)) = (fun w => (nI w, cpW (fun _ => 0) ik w)) 0 := by
    show _ = (nI 0, cpW (fun _ => 0) ik 0)
    rw [cpW_0]; rfl
  rw [e0]
  refine LPX_det (F := fun w => (nI w, cpW (fun _ => 0) ik w)) 2 (fun w hw k => ?_) (fun k => ?_) (FU_lt (by decide))
  · simp only [fX5_dropKept_L2]
    rw [if_neg (show ¬ (2 : Int32) ≤ nI w by rw [fa_le, nI_toInt (by omega), show (2 : Int32).toInt = 2 from rfl]; omega), if_pos (okI_nI hw (by decide)), cl_nI (by omega), nI_1, cp_s rfl]
  · simp only [fX5_dropKept_L2]
    rw [if_pos (show (2 : Int32) ≤ nI 2 by decide)]
end ROOM
section AROOM
variable {nS nC K T Q : Nat} {cN sw sX sY cX cF cT s pO pk pw pf ps mO un ik mik a0 a1 a2 a3 a4 a5 a6 b0 b1 b2 b3 b4 b5 b6 mk tO tL mt fO fi fj ft si sj st d0 dsw dsX dsY dcX dcF dcT pl kd vl dr : Nat → Int32}
theorem a_room (h : RRel nS nC cN sw sX sY cX cF cT s) (hp : PRel nC s K pO pk pw pf ps mO un) (ht : TRel T tO tL mO mt) (hs : SRel Q fO fi fj ft mO si sj st) (hk : KRel nS nC ik mik a0 a1 a2 a3 a4 a5 a6 b0 b1 b2 b3 b4 b5 b6 mk) :
    ∃ r d0' dsw' tO' dsX' dsY' dcX' dcF' dcT' cN' sw' sX' sY' cX' cF' cT' pO' fO' ik' mO' pl' kd' vl' dr' s' mik', fX5_room d0 dsw tO tL dsX dsY dcX dcF dcT cN sw sX sY cX cF cT pO fO ik = some (r, d0', dsw', tO', dsX', dsY', dcX', dcF', dcT', cN', sw', sX', sY', cX', cF', cT', pO', fO', ik') ∧ fX6_room mO mt pl kd vl dr s mik = some (r, mO', pl', kd', vl', dr', s', mik') ∧ ∃ nS' nC' K' T' Q', RRel nS' nC' cN' sw' sX' sY' cX' cF' cT' s' ∧ PRel nC' s' K' pO' pk pw pf ps mO' un ∧ TRel T' tO' tL mO' mt ∧ SRel Q' fO' fi fj ft mO' si sj st ∧ KRel nS' nC' ik' mik' a0 a1 a2 a3 a4 a5 a6 b0 b1 b2 b3 b4 b5 b6 mk := by
  obtain ⟨hT, t1, t11, tl⟩ := ht
  obtain ⟨hK, p4, p5, pE⟩ := hp
  obtain ⟨hQ, s3, s9, sE⟩ := hs
  have hl : ∀ k, k < T → 0 ≤ (mt k).toInt ∧ (mt k).toInt ≤ 255 := fun k hk => by have := tl k hk; rw [← this.1]; exact this.2
  have hag : ∀ k, k < T → tL k = mt k := fun k hk => (tl k hk).1
  obtain ⟨N, e, pl', kd', vl', y0, yN, y15, yo, ysk, yb⟩ := m_parts (pl := pl) (kd := kd) (vl := vl) hT hl t11
  have hC : CX mt tL T N e pl' kd' vl' := ⟨hT, hag, hl, yN, y15, by rw [yo 11 (by omega)]; exact t11, ysk, yb⟩
  have hrun := room_run (s := s) (mik := mik) hC N 0 0 0 0 (upd (upd (upd (upd (upd (upd d0 0 10) 1 8) 2 1) 3 1) 4 0) 5 0) (cpW (fun _ => 2) dsw 4) dsX dsY dcX dcF dcT (upd (upd (upd (upd (cpW bgF dr 27) 0 10) 1 8) 2 1) 3 1) (upd tO 2 0) FU FU (by omega) (by omega) (by omega) Iff.rfl (fun _ => ⟨rfl, rfl, rfl, rfl⟩) (rr_first d0 dsw dsX dsY dcX dcF dcT dr) t1 rfl (by show N < 4000; omega) (by show N < 4000; omega)
  unfold fX5_room fX6_room fX4_readInto
  rw [y0, Option.bind_some, m_begins, Option.bind_some, c_first, Option.bind_some]
  obtain ⟨d0', dsw', dsX', dsY', dcX', dcF', dcT', e', dr', ⟨i, nS', nC', hi, o1, o2, hr, he⟩ | ⟨p, hp, o1, o2, he⟩⟩ := hrun
  · have o1' : LPX (fX4_readInto_L11 tL) FU (0, upd (upd (upd (upd (upd (upd d0 0 10) 1 8) 2 1) 3 1) 4 0) 5 0, cpW (fun _ => 2) dsw 4, upd tO 2 0, dsX, dsY, dcX, dcF, dcT) = _ := o1
    have o2' : LPX (fX6_room_L12 mt e pl' kd' vl' s mik) FU (0, 0, upd (upd (upd (upd (cpW bgF dr 27) 0 10) 1 8) 2 1) 3 1) = _ := o2
    obtain ⟨g0, g1, g2, g3, g4, g5, g6, z1, z2, z3, z4⟩ := rr_copy (a0 := cN) (a1 := sw) (a2 := sX) (a3 := sY) (a4 := cX) (a5 := cF) (a6 := cT) (s' := cpW dr' s 27) hr (fun q hq => by unfold cpW; rw [if_pos hq])
    dsimp only
    rw [o1', o2', Option.bind_some]
    dsimp only
    rw [if_pos (show (0 : Int32) ≤ nI i by rw [fa_le, nI_toInt (by omega), show (0 : Int32).toInt = 0 from rfl]; omega), z1, Option.bind_some, c_drop, Option.bind_some]
    exact ⟨_, _, _, _, _, _, _, _, _, _, _, _, _, _, _, _, _, _, _, _, _, _, _, _, _, _, rfl, rfl, nS', nC', 0, 0, 0, z2, ⟨by omega, rfl, rfl, fun k hk => by omega⟩, ⟨by omega, rfl, rfl, fun k hk => by omega⟩, ⟨by omega, rfl, rfl, fun k hk => by omega⟩, ⟨rfl, rfl, fun h => absurd rfl h, fun h => absurd rfl h⟩⟩
  · have o1' : LPX (fX4_readInto_L11 tL) FU (0, upd (upd (upd (upd (upd (upd d0 0 10) 1 8) 2 1) 3 1) 4 0) 5 0, cpW (fun _ => 2) dsw 4, upd tO 2 0, dsX, dsY, dcX, dcF, dcT) = _ := o1
    have o2' : LPX (fX6_room_L12 mt e pl' kd' vl' s mik) FU (0, 0, upd (upd (upd (upd (cpW bgF dr 27) 0 10) 1 8) 2 1) 3 1) = _ := o2
    have hneg : ¬ (0 : Int32) ≤ -10 - nI p := by
      have e1 : (nI p).toInt = p := nI_toInt (by omega)
      have e2 : (-10 - nI p).toInt = -10 - p := by rw [fb_subI (by rw [e1, show (-10 : Int32).toInt = -10 from rfl]; omega) (by rw [e1, show (-10 : Int32).toInt = -10 from rfl]; omega), e1]; rfl
      rw [fa_le, e2, show (0 : Int32).toInt = 0 from rfl]
      omega
    dsimp only
    rw [o1', o2', Option.bind_some]
    dsimp only
    rw [if_neg hneg]
    exact ⟨_, _, _, _, _, _, _, _, _, _, _, _, _, _, _, _, _, _, _, _, _, _, _, _, _, _, rfl, rfl, nS, nC, K, T, Q, h, ⟨hK, p4, by rw [yo 5 (by omega)]; exact p5, pE⟩, ⟨hT, he, by rw [yo 11 (by omega)]; exact t11, tl⟩, ⟨hQ, s3, by rw [yo 9 (by omega)]; exact s9, sE⟩, hk⟩
end AROOM
