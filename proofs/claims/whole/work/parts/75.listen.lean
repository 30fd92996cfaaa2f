/-! which image to listen to next -/
def hasB (f : Nat → Nat) (q : Nat) : Nat → Bool
  | 0 => false
  | n + 1 => hasB f q n || decide (f n = q)
def dnN (f : Nat → Nat) : Nat → Nat
  | 0 => 0
  | n + 1 => dnN f n + (if hasB f (f n) n then 0 else 1)
theorem dnN_le (f : Nat → Nat) : ∀ n, dnN f n ≤ n
  | 0 => Nat.le_refl 0
  | n + 1 => by
    have := dnN_le f n
    show dnN f n + (if hasB f (f n) n then 0 else 1) ≤ n + 1
    split <;> omega
def tolF (f : Nat → Nat) (m : Int32) (T : Nat → Int32) : Nat → (Nat → Int32)
  | 0 => T
  | n + 1 => upd (tolF f m T n) (f n) m
theorem tol_at (f : Nat → Nat) (m : Int32) (T : Nat → Int32) (q : Nat) : ∀ n, tolF f m T n q = if hasB f q n then m else T q
  | 0 => rfl
  | n + 1 => by
    show upd (tolF f m T n) (f n) m q = if (hasB f q n || decide (f n = q)) then m else T q
    by_cases h : f n = q
    · rw [decide_eq_true h, Bool.or_true, if_pos rfl, ← h, upd_self]
    · rw [decide_eq_false h, Bool.or_false, upd_ne (fun e => h e.symm), tol_at f m T q n]
theorem upd_same {f : Nat → Int32} {i : Nat} {x : Int32} (h : f i = x) : upd f i x = f := by
  funext j
  unfold upd
  by_cases e : j = i
  · rw [if_pos e, e, h]
  · rw [if_neg e]
def tmW (s : Nat → Int32) (i j : Int32) (p : NN) : Int32 := tim (wy (s 0) (s 1) (s 2) (s 3) i j (nI p.1) (nI p.2))
def tfN (s : Nat → Int32) (l : List NN) (p : II) : Nat → Nat := fun k => Int32.toNatClampNeg (tmW s p.1 p.2 (l.getD k (0, 0)))
theorem clamp_lt {x : Int32} {n : Nat} (h0 : 0 ≤ x.toInt) (h1 : x.toInt < n) : x.toNatClampNeg < n := by
  have e : x.toNatClampNeg = x.toInt.toNat := rfl
  omega
section LSN
variable {Q Ln Bn : Nat} {fO fi fj ft mO si sj st cN s pX pY told : Nat → Int32} {i j : Int32}
theorem c_unlike {l : List NN} {e : Nat → Int32} {m : Int32} (q0 : cN 0 = s 0) (q1 : cN 1 = s 1) (q2 : cN 2 = s 2) (q3 : cN 3 = s 3) (hR : RV (s 0) (s 1) (s 2) (s 3)) (hi : imgB i j = true) (hl : ∀ p ∈ l, PV (s 0) (s 1) (nI p.1) (nI p.2)) (hn : l.length ≤ 441) (h6 : e 6 = nI l.length) (hm : ∀ q, q < 1024 → told q ≠ m) :
    fX1_unlikeTimes cN e (putL pX (l.map (fun p => nI p.1))) (putL pY (l.map (fun p => nI p.2))) told i j m = some (nI (dnN (tfN s l (i, j)) l.length), tolF (tfN s l (i, j)) m told l.length) := by
  unfold fX1_unlikeTimes fX3_imageX fX3_imageY
  rw [e5_mir, e5_mir, Option.bind_some, Option.bind_some, Option.bind_some, Option.bind_some, q0, q1, q2, q3]
  refine LPX_det (F := fun n => (nI (dnN (tfN s l (i, j)) n), nI n, tolF (tfN s l (i, j)) m told n)) l.length (fun n hn2 k => ?_) (fun k => ?_) (FU_lt (by omega))
  · have ok : okI (nI n) 441 := okI_nI (by omega) (by decide)
    have ec : Int32.toNatClampNeg (nI n) = n := cl_nI (by omega)
    have hpx : putL pX (l.map (fun p => nI p.1)) n = nI (l.getD n (0, 0)).1 := by
      rw [putL_at _ (by rw [List.length_map]; exact hn2), List.getElem_map, getD_in hn2]
    have hpy : putL pY (l.map (fun p => nI p.2)) n = nI (l.getD n (0, 0)).2 := by
      rw [putL_at _ (by rw [List.length_map]; exact hn2), List.getElem_map, getD_in hn2]
    have hpm : l.getD n (0, 0) ∈ l := by rw [getD_in hn2]; exact List.getElem_mem _
    have hw := wy_rng hR (hl _ hpm) hi
    have ht := tim_ok hw.1 hw.2
    have hf : Int32.toNatClampNeg (tmW s i j (l.getD n (0, 0))) = tfN s l (i, j) n := rfl
    have hsq : fX5_squares (mir i (s 0) (s 2) - nI (l.getD n (0, 0)).1) (mir j (s 1) (s 3) - nI (l.getD n (0, 0)).2) = some (wy (s 0) (s 1) (s 2) (s 3) i j (nI (l.getD n (0, 0)).1) (nI (l.getD n (0, 0)).2)) := rfl
    have htm : fX5_timeOf (wy (s 0) (s 1) (s 2) (s 3) i j (nI (l.getD n (0, 0)).1) (nI (l.getD n (0, 0)).2)) = some (tmW s i j (l.getD n (0, 0))) := ht.1
    have ht1 : 0 ≤ (tmW s i j (l.getD n (0, 0))).toInt ∧ (tmW s i j (l.getD n (0, 0))).toInt ≤ 824 := ht.2.2
    have okt : okI (tmW s i j (l.getD n (0, 0))) 1024 := okI_iff.mpr ⟨ht1.1, by omega⟩
    have hlt : tfN s l (i, j) n < 1024 := by rw [← hf]; exact clamp_lt ht1.1 (by omega)
    simp only [fX1_unlikeTimes_L20]
    rw [if_neg (show ¬ e 6 ≤ nI n by rw [h6, fa_le, nI_toInt (by omega), nI_toInt (by omega)]; omega), if_pos ok, if_pos ok, ec, hpx, hpy, hsq, Option.bind_some, htm, Option.bind_some, if_neg (show ¬ (1024 : Int32) ≤ tmW s i j (l.getD n (0, 0)) by rw [fa_le, show (1024 : Int32).toInt = 1024 from rfl]; omega), if_pos okt, if_pos okt, hf, nI_1, nI_1]
    have hat := tol_at (tfN s l (i, j)) m told (tfN s l (i, j) n) n
    show _ = k (nI (dnN (tfN s l (i, j)) n + (if hasB (tfN s l (i, j)) (tfN s l (i, j) n) n then 0 else 1)), _, upd (tolF (tfN s l (i, j)) m told n) (tfN s l (i, j) n) m)
    cases hb : hasB (tfN s l (i, j)) (tfN s l (i, j) n) n with
    | true =>
      rw [hb, if_pos rfl] at hat
      rw [if_pos hat, upd_same hat]
      rfl
    | false =>
      rw [hb, if_neg (by decide)] at hat
      rw [if_neg (show ¬ tolF (tfN s l (i, j)) m told n (tfN s l (i, j) n) = m by rw [hat]; exact hm _ hlt)]
      rfl
  · simp only [fX1_unlikeTimes_L20]
    rw [if_pos (show e 6 ≤ nI l.length by rw [h6, fa_le]; exact Int.le_refl _)]
theorem m_unlike (h : SRel Q fO fi fj ft mO si sj st) (hR : RV (s 0) (s 1) (s 2) (s 3)) (h0 : s 0 = nI Ln) (h1 : s 1 = nI Bn) (hL : Ln ≤ 20) (hB : Bn ≤ 20) (hi : imgB i j = true) {f : Nat → Nat} (hfe : f = tfN s (prows (posB s si sj st Q) Bn (Ln + 1)) (i, j)) :
    fX6_unlike mO told s si sj st i j = some (nI (dnN f (prows (posB s si sj st Q) Bn (Ln + 1)).length), tolF f 1 (cpW (fun _ => 0) told 2000) (prows (posB s si sj st Q) Bn (Ln + 1)).length) := by
  obtain ⟨i3, j3⟩ := imgB_3 hi
  have inner : ∀ (x : Nat) (hx : x ≤ Ln) (k2 : (Int32 × (Nat → Int32)) → Option (Int32 × (Nat → Int32))) (k27 : (Int32 × Int32 × (Nat → Int32)) → Option (Int32 × (Nat → Int32))), LPX (fX6_unlike_L41 mO s si sj st i j (nI x) k2 k27) FU (nI (dnN f (PLs (posB s si sj st Q) Bn x 0).length), 0, tolF f 1 (cpW (fun _ => 0) told 2000) (PLs (posB s si sj st Q) Bn x 0).length) = k27 (nI (dnN f (PLs (posB s si sj st Q) Bn (x + 1) 0).length), nI x + 1, tolF f 1 (cpW (fun _ => 0) told 2000) (PLs (posB s si sj st Q) Bn (x + 1) 0).length) := by
    intro x hx k2 k27
    refine LPX_det (F := fun y => (nI (dnN f (PLs (posB s si sj st Q) Bn x y).length), nI y, tolF f 1 (cpW (fun _ => 0) told 2000) (PLs (posB s si sj st Q) Bn x y).length)) (Bn + 1) (fun y hy k => ?_) (fun k => ?_) (FU_lt (by omega))
    · have hPV := PV_nI h0 h1 hL hB hx (show y ≤ Bn by omega)
      have hpo : fX6_mayBe mO si sj s st (nI x) (nI y) = some (b2 (posB s si sj st Q x y)) := m_poss h hR hPV
      have hw := wy_rng hR hPV hi
      have ht := tim_ok hw.1 hw.2
      have htm : fX6_timeOf (wy (s 0) (s 1) (s 2) (s 3) i j (nI x) (nI y)) = some (tmW s i j (x, y)) := ht.2.1
      have ht1 : 0 ≤ (tmW s i j (x, y)).toInt ∧ (tmW s i j (x, y)).toInt ≤ 824 := ht.2.2
      have okt : okI (tmW s i j (x, y)) 2000 := okI_iff.mpr ⟨ht1.1, by omega⟩
      simp only [fX6_unlike_L41]
      rw [if_neg (show ¬ s 1 < nI y by rw [h1, fa_lt, nI_toInt (by omega), nI_toInt (by omega)]; omega), hpo, Option.bind_some, b2_if, e6_way _ _ _ _ i3 j3, Option.bind_some, htm, Option.bind_some, if_pos okt, bnd_e, bnd_e, if_pos okt, if_pos okt, pl_s, nI_1, nI_1, addz]
      cases hz : posB s si sj st Q x y with
      | false => simp
      | true =>
        obtain ⟨a1, a2⟩ := pl_at (P := posB s si sj st Q) (B := Bn) (show y ≤ Bn by omega) (show x < Ln + 1 by omega) hz
        have hf : Int32.toNatClampNeg (tmW s i j (x, y)) = f (PLs (posB s si sj st Q) Bn x y).length := by
          rw [hfe]; unfold tfN; rw [a2]
        have hlt : f (PLs (posB s si sj st Q) Bn x y).length < 2000 := by rw [← hf]; exact clamp_lt ht1.1 (by omega)
        simp only [if_true, List.length_append, List.length_singleton]
        rw [hf]
        generalize (PLs (posB s si sj st Q) Bn x y).length = n at *
        have hat := tol_at f 1 (cpW (fun _ => 0) told 2000) (f n) n
        show _ = k (nI (dnN f n + (if hasB f (f n) n then 0 else 1)), _, upd (tolF f 1 (cpW (fun _ => 0) told 2000) n) (f n) 1)
        cases hb : hasB f (f n) n with
        | true =>
          rw [hb, if_pos rfl] at hat
          rw [if_neg (show ¬ tolF f 1 (cpW (fun _ => 0) told 2000) n (f n) = 0 by rw [hat]; decide)]
          rfl
        | false =>
          rw [hb, if_neg (by decide)] at hat
          rw [if_pos (show tolF f 1 (cpW (fun _ => 0) told 2000) n (f n) = 0 by rw [hat]; unfold cpW; rw [if_pos hlt])]
          rfl
    · simp only [fX6_unlike_L41]
      rw [if_pos (show s 1 < nI (Bn + 1) by rw [h1, fa_lt, nI_toInt (by omega), nI_toInt (by omega)]; omega), pl_e]
  unfold fX6_unlike
  have e0 : ((0, told) : Int32 × (Nat → Int32)) = (fun w => (nI w, cpW (fun _ => 0) told w)) 0 := by
    show _ = (nI 0, cpW (fun _ => 0) told 0)
    rw [cpW_0]; rfl
  rw [e0]
  refine LPX_det (F := fun w => (nI w, cpW (fun _ => 0) told w)) 2000 (fun w hw k => ?_) (fun k => ?_) (FU_lt (by omega))
  · simp only [fX6_unlike_L2]
    rw [if_neg (show ¬ (2000 : Int32) ≤ nI w by rw [fa_le, nI_toInt (by omega), show (2000 : Int32).toInt = 2000 from rfl]; omega), if_pos (okI_nI hw (by decide)), cl_nI (by omega), nI_1, cp_s rfl]
  · simp only [fX6_unlike_L2]
    rw [if_pos (show (2000 : Int32) ≤ nI 2000 by decide)]
    refine LPX_det (F := fun x => (nI (dnN f (PLs (posB s si sj st Q) Bn x 0).length), nI x, tolF f 1 (cpW (fun _ => 0) told 2000) (PLs (posB s si sj st Q) Bn x 0).length)) (Ln + 1) (fun x hx k' => ?_) (fun k' => ?_) (FU_lt (by omega))
    · simp only [fX6_unlike_L27]
      rw [if_neg (show ¬ s 0 < nI x by rw [h0, fa_lt, nI_toInt (by omega), nI_toInt (by omega)]; omega), inner x (by omega), nI_1]
    · simp only [fX6_unlike_L27]
      rw [if_pos (show s 0 < nI (Ln + 1) by rw [h0, fa_lt, nI_toInt (by omega), nI_toInt (by omega)]; omega), pl_0]
end LSN
/-! over all images -/
abbrev AC : Type := (Int32 × Nat) × Nat × (Nat → Int32)
abbrev AM : Type := (Int32 × Nat) × (Nat → Int32)
def stP (D : II → Nat) (acc : Int32 × Nat) (p : II) : Int32 × Nat := if D p ≤ acc.2 then acc else (cod p, D p)
def stC (D : II → Nat) (f : II → Nat → Nat) (N : Nat) (acc : AC) (p : II) : AC := if imgB p.1 p.2 then (stP D acc.1 p, acc.2.1 + 1, tolF (f p) (nI (acc.2.1 + 1)) acc.2.2 N) else acc
def stM (D : II → Nat) (f : II → Nat → Nat) (N : Nat) (acc : AM) (p : II) : AM := if imgB p.1 p.2 then (stP D acc.1 p, tolF (f p) 1 (cpW (fun _ => 0) acc.2 2000) N) else acc
theorem st_eq (D : II → Nat) (f : II → Nat → Nat) (N : Nat) : ∀ (l : List II) (a : AC) (b : AM), a.1 = b.1 → (l.foldl (stC D f N) a).1 = (l.foldl (stM D f N) b).1
  | [], _, _, h => h
  | p :: l, a, b, h => by
    refine st_eq D f N l (stC D f N a p) (stM D f N b p) ?_
    unfold stC stM
    cases imgB p.1 p.2 with
    | false => exact h
    | true => show stP D a.1 p = stP D b.1 p; rw [h]
def okA (c : Nat) (a : AC) : Prop := a.2.1 ≤ c ∧ a.1.2 ≤ 441 ∧ ∀ q, q < 1024 → ∃ b, b ≤ a.2.1 ∧ a.2.2 q = nI b
theorem okA_s {D : II → Nat} {f : II → Nat → Nat} {N c : Nat} (hD : ∀ p, D p ≤ 441) {a : AC} (h : okA c a) (p : II) : okA (c + 1) (stC D f N a p) := by
  obtain ⟨h1, h2, h3⟩ := h
  unfold stC
  cases imgB p.1 p.2 with
  | false => exact ⟨by show a.2.1 ≤ c + 1; omega, h2, h3⟩
  | true =>
    refine ⟨by show a.2.1 + 1 ≤ c + 1; omega, ?_, fun q hq => ?_⟩
    · show (stP D a.1 p).2 ≤ 441
      unfold stP
      split
      · exact h2
      · exact hD p
    · show ∃ b, b ≤ a.2.1 + 1 ∧ tolF (f p) (nI (a.2.1 + 1)) a.2.2 N q = nI b
      rw [tol_at]
      split
      · exact ⟨_, Nat.le_refl _, rfl⟩
      · obtain ⟨b, hb, e⟩ := h3 q hq
        exact ⟨b, by omega, e⟩
theorem okA_l {D : II → Nat} {f : II → Nat → Nat} {N : Nat} (hD : ∀ p, D p ≤ 441) : ∀ (l : List II) (c : Nat) (a : AC), okA c a → okA (c + l.length) (l.foldl (stC D f N) a)
  | [], c, a, h => h
  | p :: l, c, a, h => by
    have := okA_l (f := f) (N := N) hD l (c + 1) (stC D f N a p) (okA_s hD h p)
    rw [show c + (p :: l).length = c + 1 + l.length by rw [List.length_cons]; omega]
    exact this
theorem row_len (u : Nat) : ∀ v, (row u v).length = v
  | 0 => rfl
  | v + 1 => by show (row u v ++ [_]).length = _; rw [List.length_append, row_len u v]; rfl
theorem rows_len : ∀ u, (rows u).length = 7 * u
  | 0 => rfl
  | u + 1 => by show (rows u ++ row u 7).length = _; rw [List.length_append, rows_len u, row_len]; omega
section FOLD
variable {α : Type} (st : α → II → α) (a : α)
def fd (u v : Nat) : α := (rows u ++ row u v).foldl st a
theorem fd_s (u v : Nat) : fd st a u (v + 1) = st (fd st a u v) (Kn u, Kn v) := by
  unfold fd
  show (rows u ++ (row u v ++ [(Kn u, Kn v)])).foldl st a = _
  rw [← List.append_assoc, List.foldl_append]; rfl
theorem fd_7 (u : Nat) : fd st a u 7 = fd st a (u + 1) 0 := by
  unfold fd
  show _ = ((rows u ++ row u 7) ++ []).foldl st a
  rw [List.append_nil]
theorem fd_skip (hst : ∀ b p, imgB p.1 p.2 = false → st b p = b) (u k : Nat) : ∀ d, (∀ w, k ≤ w → w < k + d → imgB (Kn u) (Kn w) = false) → fd st a u (k + d) = fd st a u k
  | 0, _ => rfl
  | d + 1, h => by
    rw [show k + (d + 1) = (k + d) + 1 from rfl, fd_s, hst _ _ (h (k + d) (by omega) (by omega)), fd_skip hst u k d (fun w h1 h2 => h w h1 (by omega))]
end FOLD
