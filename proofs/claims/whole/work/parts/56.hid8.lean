theorem mir_in {i L X : Int32} (hi : I3 i) (hL1 : 2 ≤ L.toInt) (hL2 : L.toInt ≤ 20) (h1 : 0 ≤ X.toInt) (h2 : X.toInt ≤ L.toInt) : -(3 * L.toInt) ≤ (mir i L X).toInt ∧ (mir i L X).toInt ≤ 4 * L.toInt := by
  obtain ⟨i1, i2⟩ := hi
  rw [(mir_z (k := i) (L := L) (x := X) (by omega) (by omega) (by omega) hL2 h1 h2).1]
  have e : i.toInt = -3 ∨ i.toInt = -2 ∨ i.toInt = -1 ∨ i.toInt = 0 ∨ i.toInt = 1 ∨ i.toInt = 2 ∨ i.toInt = 3 := by omega
  rcases e with e | e | e | e | e | e | e <;> rw [e] <;> unfold mirZ <;> simp <;> omega
theorem no_hit {L B X Y cx cf ct i j k x y : Int32} (hR : RV L B X Y) (hC : CV L B cx cf ct) (hP : PV L B x y) (hi : I3 i) (hk : k = -5 ∨ k = -4 ∨ k = 4 ∨ k = 5) : hitC L B X Y cx cf ct i j k x y = false := by
  obtain ⟨r1, r2, r3, r4, r5, r6, r7, r8⟩ := hR
  obtain ⟨q1, q2, q3, q4, q5⟩ := hC
  obtain ⟨p1, p2, p3, p4⟩ := hP
  obtain ⟨m1, m2⟩ := mir_in hi r1 r2 r5 r6
  have hz := fun (h1 : -5 ≤ k.toInt) (h2 : k.toInt ≤ 5) => (mir_z (k := k) (L := L) (x := cx) h1 h2 (by omega) r2 (by omega) (by omega)).1
  have ha : (mir k L cx).toInt < -(3 * L.toInt) ∨ 4 * L.toInt < (mir k L cx).toInt := by
    rcases hk with e | e | e | e <;> subst e <;> rw [hz (by decide) (by decide)]
    · left
      show (-5 : Int) * L.toInt + (L.toInt - cx.toInt) < _
      omega
    · left
      show (-4 : Int) * L.toInt + cx.toInt < _
      omega
    · right
      show _ < (4 : Int) * L.toInt + cx.toInt
      omega
    · right
      show _ < (5 : Int) * L.toInt + (L.toInt - cx.toInt)
      omega
  unfold hitC hitA
  rw [decide_eq_false (by omega), Bool.false_and]
def K5 (u : Nat) : Int32 := nI u - 5
theorem K5_t {u : Nat} (h : u < 100) : (K5 u).toInt = u - 5 := by
  have e : (nI u).toInt = u := nI_toInt (by omega)
  unfold K5
  rw [fb_subI (by rw [e, show (5 : Int32).toInt = 5 from rfl]; omega) (by rw [e, show (5 : Int32).toInt = 5 from rfl]; omega), e]
  rfl
theorem K5_s {u : Nat} (h : u < 99) : K5 u + 1 = K5 (u + 1) := by
  rw [fa_eq, K5_t (by omega), fb_addI (by rw [K5_t (by omega), show (1 : Int32).toInt = 1 from rfl]; omega) (by rw [K5_t (by omega), show (1 : Int32).toInt = 1 from rfl]; omega), K5_t (by omega), show (1 : Int32).toInt = 1 from rfl]
  omega
theorem any11 {L B X Y cx cf ct i j x y : Int32} (hR : RV L B X Y) (hC : CV L B cx cf ct) (hP : PV L B x y) (hi : I3 i) : anyN (fun v => hitC L B X Y cx cf ct i j (K5 v) x y) 11 = anyN (fun u => hitC L B X Y cx cf ct i j (Kn u) x y) 7 := by
  have h0 : hitC L B X Y cx cf ct i j (K5 0) x y = false := no_hit hR hC hP hi (Or.inl rfl)
  have h1 : hitC L B X Y cx cf ct i j (K5 1) x y = false := no_hit hR hC hP hi (Or.inr (Or.inl rfl))
  have h9 : hitC L B X Y cx cf ct i j (K5 9) x y = false := no_hit hR hC hP hi (Or.inr (Or.inr (Or.inl rfl)))
  have h10 : hitC L B X Y cx cf ct i j (K5 10) x y = false := no_hit hR hC hP hi (Or.inr (Or.inr (Or.inr rfl)))
  simp only [anyN, h0, h1, h9, h10, Bool.or_false, Bool.false_or]
  rfl
theorem e6_hid {c0 s : Nat → Int32} {i j x y : Int32} {nC : Nat} (hR : RV (s 0) (s 1) (s 2) (s 3)) (hn : s 17 = nI nC) (hn3 : nC ≤ 3) (hC : ∀ c, c < nC → CV (s 0) (s 1) (s (18 + c)) (s (21 + c)) (s (24 + c))) (hP : PV (s 0) (s 1) x y) (hi : I3 i) (hj : I3 j) :
    fX6_isHidden c0 s i j x y = some (b2 (hidB (s 0) (s 1) (s 2) (s 3) (fun c => s (18 + c)) (fun c => s (21 + c)) (fun c => s (24 + c)) nC i j x y)) := by
  have inner : ∀ (c : Nat) (hc : c < nC) (b : Bool) (k6 : Int32 × Int32 → Option Int32), LPX (fX6_isHidden_L22 c0 s i j x y (nI c) k6) FU (b2 b, -5) = k6 (b2 (b || anyN (fun v => hitC (s 0) (s 1) (s 2) (s 3) (s (18 + c)) (s (21 + c)) (s (24 + c)) i j (K5 v) x y) 11), nI c + 1) := by
    intro c hc b k6
    have e0 : ((b2 b, -5) : Int32 × Int32) = (fun u => (b2 (b || anyN (fun v => hitC (s 0) (s 1) (s 2) (s 3) (s (18 + c)) (s (21 + c)) (s (24 + c)) i j (K5 v) x y) u), K5 u)) 0 := by
      show _ = (b2 (b || false), K5 0)
      rw [Bool.or_false]; rfl
    rw [e0]
    refine LPX_det (F := fun u => (b2 (b || anyN (fun v => hitC (s 0) (s 1) (s 2) (s 3) (s (18 + c)) (s (21 + c)) (s (24 + c)) i j (K5 v) x y) u), K5 u)) 11 (fun u hu k => ?_) (fun k => ?_) (FU_lt (by decide))
    · have h1 : ¬ (5 : Int32) < K5 u := by rw [fa_lt, K5_t (by omega), show (5 : Int32).toInt = 5 from rfl]; omega
      have hm := e6_meets (c0 := c0) (k := K5 u) (show c < 3 by omega) hR (hC c hc) hP hi hj (by rw [K5_t (by omega)]; omega) (by rw [K5_t (by omega)]; omega)
      simp only [fX6_isHidden_L22]
      rw [if_neg h1, b2_if, hm, Option.bind_some, b2_if, K5_s (by omega)]
      simp only [anyN]
      cases b <;> cases anyN (fun v => hitC (s 0) (s 1) (s 2) (s 3) (s (18 + c)) (s (21 + c)) (s (24 + c)) i j (K5 v) x y) u <;> cases hitC (s 0) (s 1) (s 2) (s 3) (s (18 + c)) (s (21 + c)) (s (24 + c)) i j (K5 u) x y <;> rfl
    · have h1 : (5 : Int32) < K5 11 := by decide
      simp only [fX6_isHidden_L22]
      rw [if_pos h1]
  unfold fX6_isHidden hidB
  refine LPX_det (F := fun c => (b2 (anyN (fun c => anyN (fun u => hitC (s 0) (s 1) (s 2) (s 3) (s (18 + c)) (s (21 + c)) (s (24 + c)) i j (Kn u) x y) 7) c), nI c)) nC (fun c hc k => ?_) (fun k => ?_) (FU_lt (by omega))
  · have h1 : ¬ s 17 ≤ nI c := by rw [hn, fa_le, nI_toInt (by omega), nI_toInt (by omega)]; omega
    simp only [fX6_isHidden_L6]
    rw [if_neg h1, inner c hc, any11 hR (hC c hc) hP hi, nI_1]
    rfl
  · simp only [fX6_isHidden_L6]
    rw [if_pos (by rw [hn, fa_le]; exact Int.le_refl _), if_pos (b2_01 _)]
/-! the way, squared -/
def wy (L B X Y i j x y : Int32) : Int32 := (mir i L X - x) * (mir i L X - x) + (mir j B Y - y) * (mir j B Y - y)
theorem sqb {a A : Int} (h1 : -A ≤ a) (h2 : a ≤ A) : 0 ≤ a * a ∧ a * a ≤ A * A := by
  rcases Int.le_total 0 a with h | h
  · exact ⟨Int.mul_nonneg h h, Int.mul_le_mul h2 h2 h (by omega)⟩
  · have h3 := Int.mul_le_mul (a := -a) (b := -a) (c := A) (d := A) (by omega) (by omega) (by omega) (by omega)
    rw [Int.neg_mul_neg] at h3
    exact ⟨Int.mul_nonneg_of_nonpos_of_nonpos h h, h3⟩
theorem dxb {i L X x : Int32} (hi : I3 i) (hL1 : 2 ≤ L.toInt) (hL2 : L.toInt ≤ 20) (h1 : 0 ≤ X.toInt) (h2 : X.toInt ≤ L.toInt) (h3 : 0 ≤ x.toInt) (h4 : x.toInt ≤ L.toInt) : (mir i L X - x).toInt = (mir i L X).toInt - x.toInt ∧ -(20 * (i.toInt.natAbs + 1)) ≤ (mir i L X).toInt - x.toInt ∧ (mir i L X).toInt - x.toInt ≤ 20 * (i.toInt.natAbs + 1) := by
  obtain ⟨i1, i2⟩ := hi
  obtain ⟨z1, z2, z3⟩ := mir_z (k := i) (L := L) (x := X) (by omega) (by omega) (by omega) hL2 h1 h2
  refine ⟨fb_subI (by omega) (by omega), ?_⟩
  rw [z1]
  have e : i.toInt = -3 ∨ i.toInt = -2 ∨ i.toInt = -1 ∨ i.toInt = 0 ∨ i.toInt = 1 ∨ i.toInt = 2 ∨ i.toInt = 3 := by omega
  rcases e with e | e | e | e | e | e | e <;> rw [e] <;> unfold mirZ <;> simp <;> omega
theorem sq68 : ∀ p : Nat, p < 4 → ∀ q : Nat, q < 4 → p + q ≤ 3 → 20 * ((p : Int) + 1) * (20 * (p + 1)) + 20 * ((q : Int) + 1) * (20 * (q + 1)) ≤ 6800 := by decide
theorem wy_rng {L B X Y i j x y : Int32} (hR : RV L B X Y) (hP : PV L B x y) (h : imgB i j = true) : 0 ≤ (wy L B X Y i j x y).toInt ∧ (wy L B X Y i j x y).toInt ≤ 6800 := by
  obtain ⟨r1, r2, r3, r4, r5, r6, r7, r8⟩ := hR
  obtain ⟨p1, p2, p3, p4⟩ := hP
  obtain ⟨hi, hj⟩ := imgB_3 h
  obtain ⟨x1, x2, x3⟩ := dxb (x := x) hi r1 r2 r5 r6 p1 p2
  obtain ⟨y1, y2, y3⟩ := dxb (x := y) hj r3 r4 r7 r8 p3 p4
  have h := of_decide_eq_true h
  unfold wy
  generalize mir i L X - x = a at *
  generalize mir j B Y - y = b at *
  rw [← x1] at x2 x3
  rw [← y1] at y2 y3
  obtain ⟨a1, a2⟩ := sqb x2 x3
  obtain ⟨b1, b2⟩ := sqb y2 y3
  have hs : 20 * ((i.toInt.natAbs : Int) + 1) * (20 * (i.toInt.natAbs + 1)) + 20 * ((j.toInt.natAbs : Int) + 1) * (20 * (j.toInt.natAbs + 1)) ≤ 6800 := by
    exact sq68 _ (by omega) _ (by omega) h.2.2.2.2
  have ma : (a * a).toInt = a.toInt * a.toInt := fb_mulI (by omega) (by omega)
  have mb : (b * b).toInt = b.toInt * b.toInt := fb_mulI (by omega) (by omega)
  rw [fb_addI (by rw [ma, mb]; omega) (by rw [ma, mb]; omega), ma, mb]
  omega
theorem e3_way (c0 : Nat → Int32) (i j x y : Int32) : fX3_waySquared c0 i j x y = some (wy (c0 0) (c0 1) (c0 2) (c0 3) i j x y) := by
  simp only [fX3_waySquared, fX3_imageX, fX3_imageY, e5_mir, Option.bind_some, fX5_squares]
  rfl
theorem e6_way (c0 s : Nat → Int32) {i j : Int32} (x y : Int32) (hi : I3 i) (hj : I3 j) : fX6_wayOf c0 s i j x y = some (wy (s 0) (s 1) (s 2) (s 3) i j x y) := by
  obtain ⟨i1, i2⟩ := hi
  obtain ⟨j1, j2⟩ := hj
  unfold fX6_wayOf
  rw [e6_mir _ _ (by omega) (by omega), e6_mir _ _ (by omega) (by omega), Option.bind_some]
  simp only [bnd, Option.bind_some]
  rfl
