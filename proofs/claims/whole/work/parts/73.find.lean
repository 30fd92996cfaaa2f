/-! where one sits: the places that may be -/
theorem fill_eq {n : Nat} (hn : n < 4000) (c : Nat → Int32) (x : Int32) : fJ7_fill_53178 n c x = some (cpW (fun _ => x) c n) := by
  unfold fJ7_fill_53178
  rw [bnd_e]
  have e0 : ((0, c) : Int32 × (Nat → Int32)) = (fun w => (nI w, cpW (fun _ => x) c w)) 0 := by
    show _ = (nI 0, cpW (fun _ => x) c 0)
    rw [cpW_0]; rfl
  rw [e0]
  refine LPX_det (F := fun w => (nI w, cpW (fun _ => x) c w)) n (fun w hw k => ?_) (fun k => ?_) (FU_lt hn)
  · simp only [fJ7_fill_53178_L5]
    rw [if_neg (show ¬ Int32.ofNat n ≤ nI w by show ¬ nI n ≤ nI w; rw [fa_le, nI_toInt (by omega), nI_toInt (by omega)]; omega), if_pos (okI_nI hw (by omega)), cl_nI (by omega), nI_1, cp_s rfl]
  · simp only [fJ7_fill_53178_L5]
    rw [if_pos (show Int32.ofNat n ≤ nI n by show nI n ≤ nI n; rw [fa_le]; exact Int.le_refl _)]
def pzB (s si sj st : Nat → Int32) (x y : Int32) : Nat → Bool
  | 0 => true
  | k + 1 => pzB s si sj st x y k && decide (tim (wy (s 0) (s 1) (s 2) (s 3) (si k) (sj k) x y) = st k)
theorem pz_mono {s si sj st : Nat → Int32} {x y : Int32} {t : Nat} (h : pzB s si sj st x y t = false) : ∀ d, pzB s si sj st x y (t + d) = false
  | 0 => h
  | d + 1 => by
    show (pzB s si sj st x y (t + d) && _) = false
    rw [pz_mono h d]; rfl
section FIND
variable {Q : Nat} {fO fi fj ft mO si sj st cN s : Nat → Int32} {x y : Int32}
theorem c_poss (h : SRel Q fO fi fj ft mO si sj st) (q0 : cN 0 = s 0) (q1 : cN 1 = s 1) (q2 : cN 2 = s 2) (q3 : cN 3 = s 3) (hR : RV (s 0) (s 1) (s 2) (s 3)) (hP : PV (s 0) (s 1) x y) {e : Nat → Int32} (he : e 3 = fO 3) : fX1_isPossible e fi fj cN ft x y = some (b2 (pzB s si sj st x y Q)) := by
  obtain ⟨hQ, h3, h9, hl⟩ := h
  unfold fX1_isPossible
  refine LPX_rule (I := fun t v => v = nI t ∧ pzB s si sj st x y t = true) Q ?_ ?_ FU 0 0 (by show Q < 4000 + 0; omega) (by omega) ⟨rfl, rfl⟩
  · rintro t _ ht ⟨rfl, hz⟩
    obtain ⟨a1, a2, a3, a4⟩ := hl t ht
    have hw := wy_rng hR hP a4
    have ok : okI (nI t) 4 := okI_nI (by omega) (by decide)
    have hstep : ∀ k, fX1_isPossible_L3 e fi fj cN ft x y k (nI t) = if tim (wy (s 0) (s 1) (s 2) (s 3) (si t) (sj t) x y) = st t then k (nI (t + 1)) else some 0 := by
      intro k
      simp only [fX1_isPossible_L3]
      rw [if_neg (show ¬ e 3 ≤ nI t by rw [he, h3, fa_le, nI_toInt (by omega), nI_toInt (by omega)]; omega)]
      have ec : Int32.toNatClampNeg (nI t) = t := cl_nI (by omega)
      simp only [if_pos ok, ec, a1, a2, a3, e3_way, Option.bind_some, q0, q1, q2, q3, (tim_ok hw.1 hw.2).1, nI_1]
    by_cases c : tim (wy (s 0) (s 1) (s 2) (s 3) (si t) (sj t) x y) = st t
    · left
      refine ⟨nI (t + 1), ⟨rfl, ?_⟩, fun k => by rw [hstep, if_pos c]⟩
      show (pzB s si sj st x y t && decide _) = true
      rw [hz, decide_eq_true c]; rfl
    · right
      intro k
      rw [hstep, if_neg c]
      have hf : pzB s si sj st x y (t + 1) = false := by
        show (pzB s si sj st x y t && decide _) = false
        rw [hz, decide_eq_false c]; rfl
      have := pz_mono hf (Q - (t + 1))
      rw [show t + 1 + (Q - (t + 1)) = Q by omega] at this
      rw [this]; rfl
  · rintro _ ⟨rfl, hz⟩ k
    simp only [fX1_isPossible_L3]
    rw [if_pos (show e 3 ≤ nI Q by rw [he, h3, fa_le]; exact Int.le_refl _), hz]; rfl
theorem m_poss (h : SRel Q fO fi fj ft mO si sj st) (hR : RV (s 0) (s 1) (s 2) (s 3)) (hP : PV (s 0) (s 1) x y) : fX6_mayBe mO si sj s st x y = some (b2 (pzB s si sj st x y Q)) := by
  obtain ⟨hQ, h3, h9, hl⟩ := h
  unfold fX6_mayBe
  refine LPX_det (F := fun t => (b2 (pzB s si sj st x y t), nI t)) Q (fun t ht k => ?_) (fun k => ?_) (FU_lt (by omega))
  · obtain ⟨a1, a2, a3, a4⟩ := hl t ht
    have hw := wy_rng hR hP a4
    obtain ⟨i3, j3⟩ := imgB_3 a4
    have ok : okI (nI t) 4 := okI_nI (by omega) (by decide)
    simp only [fX6_mayBe_L5]
    rw [if_neg (show ¬ mO 9 ≤ nI t by rw [h9, fa_le, nI_toInt (by omega), nI_toInt (by omega)]; omega), b2_if]
    have ec : Int32.toNatClampNeg (nI t) = t := cl_nI (by omega)
    simp only [if_pos ok, ec, e6_way _ _ _ _ i3 j3, Option.bind_some, (tim_ok hw.1 hw.2).2.1, nI_1]
    show _ = k (b2 (pzB s si sj st x y t && decide _), _)
    cases hz : pzB s si sj st x y t with
    | false => rfl
    | true =>
      simp only [if_true, Bool.true_and]
      by_cases c : tim (wy (s 0) (s 1) (s 2) (s 3) (si t) (sj t) x y) = st t
      · rw [if_pos c, decide_eq_true c]; rfl
      · rw [if_neg c, decide_eq_false c]; rfl
  · simp only [fX6_mayBe_L5]
    rw [if_pos (show mO 9 ≤ nI Q by rw [h9, fa_le]; exact Int.le_refl _), if_pos (b2_01 _)]
end FIND
/-! lists of places -/
abbrev NN : Type := Nat × Nat
def prow (P : Nat → Nat → Bool) (x : Nat) : Nat → List NN
  | 0 => []
  | y + 1 => prow P x y ++ (if P x y then [(x, y)] else [])
def prows (P : Nat → Nat → Bool) (B : Nat) : Nat → List NN
  | 0 => []
  | x + 1 => prows P B x ++ prow P x (B + 1)
def PLs (P : Nat → Nat → Bool) (B x y : Nat) : List NN := prows P B x ++ prow P x y
section PLACES
variable {P : Nat → Nat → Bool} {B x y : Nat}
theorem pl_s : PLs P B x (y + 1) = PLs P B x y ++ (if P x y then [(x, y)] else []) := by
  unfold PLs
  show prows P B x ++ (prow P x y ++ _) = _
  rw [List.append_assoc]
theorem pl_e : PLs P B x (B + 1) = PLs P B (x + 1) 0 := by
  unfold PLs
  show _ = (prows P B x ++ prow P x (B + 1)) ++ []
  rw [List.append_nil]
theorem pl_0 : PLs P B x 0 = prows P B x := by
  unfold PLs
  show prows P B x ++ [] = _
  rw [List.append_nil]
theorem prow_len : (prow P x y).length ≤ y := by
  induction y with
  | zero => exact Nat.le_refl 0
  | succ y ih =>
    show (prow P x y ++ _).length ≤ _
    rw [List.length_append]
    have : (if P x y then [(x, y)] else ([] : List NN)).length ≤ 1 := by split <;> simp
    omega
theorem prows_len : (prows P B x).length ≤ x * (B + 1) := by
  induction x with
  | zero => show 0 ≤ _; omega
  | succ x ih =>
    show (prows P B x ++ prow P x (B + 1)).length ≤ _
    rw [List.length_append, Nat.succ_mul]
    have := prow_len (P := P) (x := x) (y := B + 1)
    omega
theorem pl_lt (hB : B ≤ 20) (hx : x ≤ 20) (hy : y ≤ 20) : (PLs P B x y).length < 441 := by
  unfold PLs
  rw [List.length_append]
  have h1 := prows_len (P := P) (B := B) (x := x)
  have h2 := prow_len (P := P) (x := x) (y := y)
  have h3 : x * (B + 1) ≤ 20 * 21 := Nat.mul_le_mul hx (by omega)
  omega
theorem pl_pre (hy : y ≤ B + 1) {n : Nat} (hx : x < n) : PLs P B x y <+: prows P B n := by
  have h1 : ∀ d, PLs P B x y <+: PLs P B x (y + d) := by
    intro d
    induction d with
    | zero => exact List.prefix_refl _
    | succ d ih =>
      refine ih.trans ?_
      rw [show y + (d + 1) = (y + d) + 1 from rfl, pl_s]
      exact List.prefix_append _ _
  have h2 : ∀ d, prows P B (x + 1) <+: prows P B (x + 1 + d) := by
    intro d
    induction d with
    | zero => exact List.prefix_refl _
    | succ d ih => exact ih.trans (List.prefix_append _ _)
  have h3 := h1 (B + 1 - y)
  rw [show y + (B + 1 - y) = B + 1 by omega, pl_e, pl_0] at h3
  have h4 := h2 (n - (x + 1))
  rw [show x + 1 + (n - (x + 1)) = n by omega] at h4
  exact h3.trans h4
theorem pl_at (hy : y ≤ B) {n : Nat} (hx : x < n) (hp : P x y = true) : (PLs P B x y).length < (prows P B n).length ∧ (prows P B n).getD (PLs P B x y).length (0, 0) = (x, y) := by
  obtain ⟨r, hr⟩ := pl_pre (P := P) (B := B) (x := x) (y := y + 1) (by omega) hx
  rw [pl_s, hp, if_pos rfl] at hr
  rw [← hr]
  constructor
  · rw [List.length_append, List.length_append]; simp; omega
  · rw [List.append_assoc, List.getD_eq_getElem?_getD, List.getElem?_append_right (Nat.le_refl _), Nat.sub_self]
    rfl
end PLACES
