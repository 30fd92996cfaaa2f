/-! HIDDEN: both sides -/
def anyN (f : Nat → Bool) : Nat → Bool
  | 0 => false
  | n + 1 => anyN f n || f n
theorem anyN_t {f : Nat → Bool} {t : Nat} : ∀ {m : Nat}, t < m → f t = true → anyN f m = true
  | 0, h, _ => absurd h (Nat.not_lt_zero _)
  | m + 1, h, h2 => by
    show (anyN f m || f m) = true
    rcases Nat.lt_or_ge t m with h3 | h3
    · rw [anyN_t h3 h2]; rfl
    · have e : t = m := by omega
      subst e
      rw [h2, Bool.or_true]
theorem anyN_f {f : Nat → Bool} : ∀ {m : Nat}, (∀ t, t < m → f t = false) → anyN f m = false
  | 0, _ => rfl
  | m + 1, h => by
    show (anyN f m || f m) = false
    rw [anyN_f (fun t ht => h t (by omega)), h m (by omega)]
    rfl
theorem anyN_cong {f g : Nat → Bool} : ∀ {m : Nat}, (∀ t, t < m → f t = g t) → anyN f m = anyN g m
  | 0, _ => rfl
  | m + 1, h => by
    show (anyN f m || f m) = (anyN g m || g m)
    rw [anyN_cong (fun t ht => h t (by omega)), h m (by omega)]
def absI (z : Int) : Int := if 0 ≤ z then z else -z
/-- does the line meet a curtain as it is seen at 'at'? -/
def hitA (B cf ct fx fy a x y : Int) : Bool := decide ((fx < a ∧ a < x) ∨ (x < a ∧ a < fx)) && hitI (B * absI (x - fx)) (cf * absI (x - fx)) (ct * absI (x - fx)) (fy * absI (x - fx) + (y - fy) * absI (a - fx))
def hitC (L B X Y cx cf ct i j k x y : Int32) : Bool := hitA B.toInt cf.toInt ct.toInt (mir i L X).toInt (mir j B Y).toInt (mir k L cx).toInt x.toInt y.toInt
theorem abs_i {z : Int32} (h : -1000 ≤ z.toInt) (h2 : z.toInt ≤ 1000) : (if 0 ≤ z then z else 0 - z).toInt = absI z.toInt := by
  unfold absI
  by_cases h1 : 0 ≤ z.toInt
  · rw [if_pos (show (0 : Int32) ≤ z by rw [fa_le]; exact h1), if_pos h1]
  · rw [if_neg (show ¬ (0 : Int32) ≤ z by rw [fa_le]; exact h1), if_neg h1, fb_subI (by show _ ≤ 0 - z.toInt; omega) (by show 0 - z.toInt < _; omega)]
    show 0 - z.toInt = _
    omega
theorem absI_rng {z : Int} (h1 : -1000 ≤ z) (h2 : z ≤ 1000) : 0 ≤ absI z ∧ absI z ≤ 1000 := by unfold absI; split <;> omega
theorem mulz {a b A B : Int} (h1 : -A ≤ a) (h2 : a ≤ A) (h3 : 0 ≤ b) (h4 : b ≤ B) : -(A * B) ≤ a * b ∧ a * b ≤ A * B := by
  have hA : 0 ≤ A := by omega
  have h5 : a * b ≤ A * b := Int.mul_le_mul_of_nonneg_right h2 h3
  have h6 : A * b ≤ A * B := Int.mul_le_mul_of_nonneg_left h4 hA
  have h7 : -A * b ≤ a * b := Int.mul_le_mul_of_nonneg_right h1 h3
  have h8 : -A * b = -(A * b) := Int.neg_mul A b
  omega
/-- what is known of the room, of a curtain, of a place -/
def RV (L B X Y : Int32) : Prop := 2 ≤ L.toInt ∧ L.toInt ≤ 20 ∧ 2 ≤ B.toInt ∧ B.toInt ≤ 20 ∧ 0 ≤ X.toInt ∧ X.toInt ≤ L.toInt ∧ 0 ≤ Y.toInt ∧ Y.toInt ≤ B.toInt
def CV (L B cx cf ct : Int32) : Prop := 1 ≤ cx.toInt ∧ cx.toInt < L.toInt ∧ 0 ≤ cf.toInt ∧ cf.toInt ≤ ct.toInt ∧ ct.toInt ≤ B.toInt
def PV (L B x y : Int32) : Prop := 0 ≤ x.toInt ∧ x.toInt ≤ L.toInt ∧ 0 ≤ y.toInt ∧ y.toInt ≤ B.toInt
def I3 (i : Int32) : Prop := -3 ≤ i.toInt ∧ i.toInt ≤ 3
theorem imgB_3 {i j : Int32} (h : imgB i j = true) : I3 i ∧ I3 j := by
  have h := of_decide_eq_true h
  exact ⟨⟨h.1, h.2.1⟩, ⟨h.2.2.1, h.2.2.2.1⟩⟩
theorem s3_hid {c0 cX cF cT : Nat → Int32} {i j x y k : Int32} {c : Nat} (hR : RV (c0 0) (c0 1) (c0 2) (c0 3)) (hc : c < 3) (hC : CV (c0 0) (c0 1) (cX c) (cF c) (cT c)) (hP : PV (c0 0) (c0 1) x y) (hi : I3 i) (hj : I3 j) (hk : I3 k) (k17 k30 : Int32 → Option Int32) :
    fX3_isHidden_L30 c0 cX cF cT x y (mir i (c0 0) (c0 2)) (mir j (c0 1) (c0 3)) (nI c) k17 k30 k = if hitC (c0 0) (c0 1) (c0 2) (c0 3) (cX c) (cF c) (cT c) i j k x y then some 1 else k30 (k + 1) := by
  obtain ⟨r1, r2, r3, r4, r5, r6, r7, r8⟩ := hR
  obtain ⟨q1, q2, q3, q4, q5⟩ := hC
  obtain ⟨p1, p2, p3, p4⟩ := hP
  obtain ⟨i1, i2⟩ := hi
  obtain ⟨j1, j2⟩ := hj
  obtain ⟨k1, k2⟩ := hk
  obtain ⟨-, fx1, fx2⟩ := mir_z (k := i) (L := c0 0) (x := c0 2) (by omega) (by omega) (by omega) r2 r5 r6
  obtain ⟨-, fy1, fy2⟩ := mir_z (k := j) (L := c0 1) (x := c0 3) (by omega) (by omega) (by omega) r4 r7 r8
  obtain ⟨-, a1, a2⟩ := mir_z (k := k) (L := c0 0) (x := cX c) (by omega) (by omega) (by omega) r2 (by omega) (by omega)
  unfold hitC
  generalize mir i (c0 0) (c0 2) = fx at *
  generalize mir j (c0 1) (c0 3) = fy at *
  have h3 : ¬ (3 : Int32) < k := by rw [fa_lt, show (3 : Int32).toInt = 3 from rfl]; omega
  simp only [fX3_isHidden_L30, e5_mir, Option.bind_some, bnd]
  rw [if_neg h3, if_pos (okI_nI hc (by decide)), cl_nI (by omega)]
  generalize mir k (c0 0) (cX c) = a at *
  have d1 : (a - fx).toInt = a.toInt - fx.toInt := fb_subI (by omega) (by omega)
  have d2 : (x - fx).toInt = x.toInt - fx.toInt := fb_subI (by omega) (by omega)
  have d3 : (y - fy).toInt = y.toInt - fy.toInt := fb_subI (by omega) (by omega)
  have g1 := abs_i (z := a - fx) (by omega) (by omega)
  have g2 := abs_i (z := x - fx) (by omega) (by omega)
  rw [d1] at g1
  rw [d2] at g2
  generalize (if 0 ≤ a - fx then a - fx else 0 - (a - fx)) = gone at *
  generalize (if 0 ≤ x - fx then x - fx else 0 - (x - fx)) = span at *
  have hj0 : fX3_isHidden_j100 c0 cX cF cT x y fx fy (nI c) k gone span 0 k17 k30 = k30 (k + 1) := rfl
  have emin : (if x < fx then x else fx).toInt = if x.toInt < fx.toInt then x.toInt else fx.toInt := by
    simp only [fa_lt]; split <;> rfl
  have emax : (if fx < x then x else fx).toInt = if fx.toInt < x.toInt then x.toInt else fx.toInt := by
    simp only [fa_lt]; split <;> rfl
  unfold hitA
  by_cases hb : (fx.toInt < a.toInt ∧ a.toInt < x.toInt) ∨ (x.toInt < a.toInt ∧ a.toInt < fx.toInt)
  · have n1 : ¬ a ≤ (if x < fx then x else fx) := by rw [fa_le, emin]; split <;> omega
    have n2 : ¬ (if fx < x then x else fx) ≤ a := by rw [fa_le, emax]; split <;> omega
    rw [if_neg n1, if_neg n2, decide_eq_true hb, Bool.true_and]
    have hs1 : 1 ≤ span.toInt := by rw [g2]; unfold absI; split <;> omega
    have hs2 : span.toInt ≤ 140 := by rw [g2]; unfold absI; split <;> omega
    have hg1 : 0 ≤ gone.toInt := by rw [g1]; unfold absI; split <;> omega
    have hg2 : gone.toInt ≤ 140 := by rw [g1]; unfold absI; split <;> omega
    have m1 := mulz (a := fy.toInt) (A := 140) (b := span.toInt) (B := 140) (by omega) (by omega) (by omega) hs2
    have m2 := mulz (a := y.toInt - fy.toInt) (A := 140) (b := gone.toInt) (B := 140) (by omega) (by omega) hg1 hg2
    have u1 : (fy * span).toInt = fy.toInt * span.toInt := fb_mulI (by omega) (by omega)
    have u2 : ((y - fy) * gone).toInt = (y.toInt - fy.toInt) * gone.toInt := by
      rw [← d3]; exact fb_mulI (by rw [d3]; omega) (by rw [d3]; omega)
    have u3 : (fy * span + (y - fy) * gone).toInt = fy.toInt * span.toInt + (y.toInt - fy.toInt) * gone.toInt := by
      rw [fb_addI (by rw [u1, u2]; omega) (by rw [u1, u2]; omega), u1, u2]
    unfold fX3_isHidden_j100
    rw [if_neg (by decide), e3_meets hc r3 r4 q3 (by omega) (by omega) (by omega) hs1 (by omega) (by rw [u3]; omega) (by rw [u3]; omega), Option.bind_some, b2_if, u3, ← g1, ← g2]
  · rw [decide_eq_false hb, Bool.false_and, hj0]
    have e1 : (if a ≤ (if x < fx then x else fx) then k30 (k + 1) else if (if fx < x then x else fx) ≤ a then k30 (k + 1) else fX3_isHidden_j100 c0 cX cF cT x y fx fy (nI c) k gone span 1 k17 k30) = k30 (k + 1) := by
      by_cases n1 : a ≤ (if x < fx then x else fx)
      · rw [if_pos n1]
      · by_cases n2 : (if fx < x then x else fx) ≤ a
        · rw [if_neg n1, if_pos n2]
        · rw [fa_le, emin] at n1
          rw [fa_le, emax] at n2
          exfalso
          revert n1 n2
          split <;> split <;> omega
    exact e1
def Kn (u : Nat) : Int32 := nI u - 3
theorem Kn_t {u : Nat} (h : u < 100) : (Kn u).toInt = u - 3 := by
  have e : (nI u).toInt = u := nI_toInt (by omega)
  unfold Kn
  rw [fb_subI (by rw [e, show (3 : Int32).toInt = 3 from rfl]; omega) (by rw [e, show (3 : Int32).toInt = 3 from rfl]; omega), e]
  rfl
theorem Kn_s {u : Nat} (h : u < 99) : Kn u + 1 = Kn (u + 1) := by
  rw [fa_eq, Kn_t (by omega), fb_addI (by rw [Kn_t (by omega), show (1 : Int32).toInt = 1 from rfl]; omega) (by rw [Kn_t (by omega), show (1 : Int32).toInt = 1 from rfl]; omega), Kn_t (by omega), show (1 : Int32).toInt = 1 from rfl]
  omega
/-- is an image hidden at a place, by nC curtains -/
def hidB (L B X Y : Int32) (cx cf ct : Nat → Int32) (nC : Nat) (i j x y : Int32) : Bool := anyN (fun c => anyN (fun u => hitC L B X Y (cx c) (cf c) (ct c) i j (Kn u) x y) 7) nC
theorem hidB_cong {L B X Y : Int32} {cx cf ct cx' cf' ct' : Nat → Int32} {nC : Nat} {i j x y : Int32} (h : ∀ c, c < nC → cx c = cx' c ∧ cf c = cf' c ∧ ct c = ct' c) : hidB L B X Y cx cf ct nC i j x y = hidB L B X Y cx' cf' ct' nC i j x y := by
  unfold hidB
  refine anyN_cong (fun c hc => ?_)
  obtain ⟨h1, h2, h3⟩ := h c hc
  rw [h1, h2, h3]
theorem e3_hid {c0 cX cF cT : Nat → Int32} {i j x y : Int32} {nC : Nat} (hR : RV (c0 0) (c0 1) (c0 2) (c0 3)) (hn : c0 5 = nI nC) (hn3 : nC ≤ 3) (hC : ∀ c, c < nC → CV (c0 0) (c0 1) (cX c) (cF c) (cT c)) (hP : PV (c0 0) (c0 1) x y) (hi : I3 i) (hj : I3 j) :
    fX3_isHidden c0 cX cF cT i j x y = some (b2 (hidB (c0 0) (c0 1) (c0 2) (c0 3) cX cF cT nC i j x y)) := by
  have inner : ∀ (c : Nat) (hc : c < nC) (k17 : Int32 → Option Int32), LPX (fX3_isHidden_L30 c0 cX cF cT x y (mir i (c0 0) (c0 2)) (mir j (c0 1) (c0 3)) (nI c) k17) FU (-3) = if anyN (fun u => hitC (c0 0) (c0 1) (c0 2) (c0 3) (cX c) (cF c) (cT c) i j (Kn u) x y) 7 then some 1 else k17 (nI c + 1) := by
    intro c hc k17
    refine LPX_rule (I := fun t s => s = Kn t ∧ ∀ u, u < t → hitC (c0 0) (c0 1) (c0 2) (c0 3) (cX c) (cF c) (cT c) i j (Kn u) x y = false) 7 ?_ ?_ FU 0 (-3) (by show 7 < 4000 + 0; omega) (by omega) ⟨rfl, fun u hu => absurd hu (Nat.not_lt_zero _)⟩
    · intro t s ht hI
      obtain ⟨rfl, hI⟩ := hI
      have hs := fun k30 => s3_hid (k := Kn t) hR (by omega) (hC c hc) hP hi hj ⟨by rw [Kn_t (by omega)]; omega, by rw [Kn_t (by omega)]; omega⟩ k17 k30
      cases hh : hitC (c0 0) (c0 1) (c0 2) (c0 3) (cX c) (cF c) (cT c) i j (Kn t) x y with
      | true =>
        refine Or.inr (fun k => ?_)
        rw [hs, hh, anyN_t (f := fun u => hitC (c0 0) (c0 1) (c0 2) (c0 3) (cX c) (cF c) (cT c) i j (Kn u) x y) ht hh]
        rfl
      | false =>
        refine Or.inl ⟨Kn (t + 1), ⟨rfl, fun u hu => ?_⟩, fun k => ?_⟩
        · rcases Nat.lt_or_ge u t with h | h
          · exact hI u h
          · have e : u = t := by omega
            subst e; exact hh
        · rw [hs, hh, Kn_s (by omega)]; rfl
    · intro s hI k
      obtain ⟨rfl, hI⟩ := hI
      rw [anyN_f hI]
      rfl
  simp only [fX3_isHidden, fX3_imageX, fX3_imageY, e5_mir, Option.bind_some]
  refine LPX_rule (I := fun t s => s = nI t ∧ ∀ u, u < t → anyN (fun u' => hitC (c0 0) (c0 1) (c0 2) (c0 3) (cX u) (cF u) (cT u) i j (Kn u') x y) 7 = false) nC ?_ ?_ FU 0 0 (by show nC < 4000 + 0; omega) (by omega) ⟨rfl, fun u hu => absurd hu (Nat.not_lt_zero _)⟩
  · intro t s ht hI
    obtain ⟨rfl, hI⟩ := hI
    have h1 : ¬ c0 5 ≤ nI t := by rw [hn, fa_le, nI_toInt (by omega), nI_toInt (by omega)]; omega
    have hs : ∀ k, fX3_isHidden_L17 c0 cX cF cT x y (mir i (c0 0) (c0 2)) (mir j (c0 1) (c0 3)) k (nI t) = if anyN (fun u => hitC (c0 0) (c0 1) (c0 2) (c0 3) (cX t) (cF t) (cT t) i j (Kn u) x y) 7 then some 1 else k (nI t + 1) := by
      intro k
      simp only [fX3_isHidden_L17]
      rw [if_neg h1, inner t ht]
    cases hh : anyN (fun u => hitC (c0 0) (c0 1) (c0 2) (c0 3) (cX t) (cF t) (cT t) i j (Kn u) x y) 7 with
    | true =>
      refine Or.inr (fun k => ?_)
      rw [hs, hh]
      unfold hidB
      rw [anyN_t (f := fun c => anyN (fun u => hitC (c0 0) (c0 1) (c0 2) (c0 3) (cX c) (cF c) (cT c) i j (Kn u) x y) 7) ht hh]
      rfl
    | false =>
      refine Or.inl ⟨nI (t + 1), ⟨rfl, fun u hu => ?_⟩, fun k => ?_⟩
      · rcases Nat.lt_or_ge u t with h | h
        · exact hI u h
        · have e : u = t := by omega
          subst e; exact hh
      · rw [hs, hh, nI_1]; rfl
  · intro s hI k
    obtain ⟨rfl, hI⟩ := hI
    simp only [fX3_isHidden_L17]
    rw [if_pos (by rw [hn, fa_le]; exact Int.le_refl _)]
    unfold hidB
    rw [anyN_f hI]
    rfl
