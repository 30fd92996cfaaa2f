/-! HIDDEN: over whole numbers -/
def mirZ (k L x : Int) : Int := k * L + (if k % 2 = 0 then x else L - x)
theorem mir_z {k L x : Int32} (h1 : -5 ≤ k.toInt) (h2 : k.toInt ≤ 5) (hL1 : 0 ≤ L.toInt) (hL2 : L.toInt ≤ 20) (hx1 : 0 ≤ x.toInt) (hx2 : x.toInt ≤ L.toInt) : (mir k L x).toInt = mirZ k.toInt L.toInt x.toInt ∧ -100 ≤ (mir k L x).toInt ∧ (mir k L x).toInt ≤ 120 := by
  have hs : (L - x).toInt = L.toInt - x.toInt := fb_subI (by omega) (by omega)
  have hb : -100 ≤ k.toInt * L.toInt ∧ k.toInt * L.toInt ≤ 100 := by
    have e : k.toInt = -5 ∨ k.toInt = -4 ∨ k.toInt = -3 ∨ k.toInt = -2 ∨ k.toInt = -1 ∨ k.toInt = 0 ∨ k.toInt = 1 ∨ k.toInt = 2 ∨ k.toInt = 3 ∨ k.toInt = 4 ∨ k.toInt = 5 := by omega
    rcases e with e | e | e | e | e | e | e | e | e | e | e <;> rw [e] <;> constructor <;> omega
  have hm : (k * L).toInt = k.toInt * L.toInt := fb_mulI (by omega) (by omega)
  have hp : ((k &&& 1) = 0) ↔ k.toInt % 2 = 0 := by
    rcases sm5 h1 h2 with e | e | e | e | e | e | e | e | e | e | e <;> subst e <;> decide
  unfold mir mirZ
  by_cases h : k.toInt % 2 = 0
  · rw [if_pos (hp.mpr h), if_pos h, fb_addI (by rw [hm]; omega) (by rw [hm]; omega), hm]
    exact ⟨rfl, by omega, by omega⟩
  · rw [if_neg (fun q => h (hp.mp q)), if_neg h, fb_addI (by rw [hm, hs]; omega) (by rw [hm, hs]; omega), hm, hs]
    exact ⟨rfl, by omega, by omega⟩
/-- parity of any int -/
theorem par (x : Int32) : ((x &&& 1) = 0) ↔ x.toInt % 2 = 0 := by
  rw [pk_and x (m := 1) 1 rfl]
  have e : x.toInt = x.toBitVec.toInt := rfl
  rw [e, BitVec.toInt_eq_toNat_cond]
  have h := x.toBitVec.isLt
  have h2 : nI (x.toBitVec.toNat % 2 ^ 1) = 0 ↔ x.toBitVec.toNat % 2 = 0 := by
    have h3 : x.toBitVec.toNat % 2 ^ 1 = 0 ∨ x.toBitVec.toNat % 2 ^ 1 = 1 := by omega
    rcases h3 with h3 | h3 <;> rw [h3]
    · exact ⟨fun _ => by omega, fun _ => rfl⟩
    · exact ⟨fun q => absurd q (by decide), fun q => by omega⟩
  rw [h2]
  split <;> omega
theorem xor_sgn {x y : Int32} (hy : 0 ≤ y.toInt) : ((0 : Int32) ≤ (x ^^^ y)) ↔ 0 ≤ x.toInt := by
  rw [fa_le, show (0 : Int32).toInt = 0 from rfl]
  have e1 : (x ^^^ y).toInt = (x.toBitVec ^^^ y.toBitVec).toInt := rfl
  have h1 := BitVec.msb_xor (x := x.toBitVec) (y := y.toBitVec)
  rw [BitVec.msb_eq_toInt, BitVec.msb_eq_toInt, BitVec.msb_eq_toInt] at h1
  have h2 : decide (y.toBitVec.toInt < 0) = false := decide_eq_false (by show ¬ y.toInt < 0; omega)
  rw [h2, Bool.xor_false] at h1
  have h3 : ((x.toBitVec ^^^ y.toBitVec).toInt < 0) ↔ (x.toBitVec.toInt < 0) := by
    constructor
    · intro h; rw [decide_eq_true h] at h1; exact of_decide_eq_true h1.symm
    · intro h; rw [decide_eq_true h] at h1; exact of_decide_eq_true h1
  rw [e1]
  have e2 : x.toBitVec.toInt = x.toInt := rfl
  rw [e2] at h3
  omega
theorem e_floor {x y : Int32} (hx : -1000000 ≤ x.toInt) (hx2 : x.toInt ≤ 1000000) (hy : 0 < y.toInt) : ∃ r, fJ9_floorDiv_7cf53 x y = some r ∧ r.toInt = x.toInt / y.toInt := by
  unfold fJ9_floorDiv_7cf53 bnd
  have h0 : ¬ y = 0 := by rw [fa_eq, show (0 : Int32).toInt = 0 from rfl]; omega
  rw [if_pos h0]
  dsimp only
  have hxs := xor_sgn (x := x) (y := y) (by omega)
  have ed : (x / y).toInt = x.toInt.tdiv y.toInt := div_i (by omega)
  have et := Int.tdiv_eq_ediv (a := x.toInt) (b := y.toInt)
  by_cases h1 : 0 ≤ x.toInt
  · rw [if_pos (hxs.mpr h1)]
    exact ⟨_, rfl, by rw [ed, Int.tdiv_eq_ediv_of_nonneg h1]⟩
  · rw [if_neg (fun q => h1 (hxs.mp q))]
    have hq : (x / y * y).toInt = x.toInt.tdiv y.toInt * y.toInt := by
      have hb : (x.toInt.tdiv y.toInt * y.toInt).natAbs ≤ x.toInt.natAbs := by
        rw [Int.natAbs_mul, show (x.toInt.tdiv y.toInt).natAbs = x.toInt.natAbs / y.toInt.natAbs from Int.natAbs_tdiv _ _]
        exact Nat.div_mul_le_self _ _
      rw [fb_mulI (by rw [ed]; omega) (by rw [ed]; omega), ed]
    by_cases hd : y.toInt ∣ x.toInt
    · rw [if_pos (Or.inr hd), Int.add_zero] at et
      have h2 : x / y * y = x := by rw [fa_eq, hq, et]; exact Int.ediv_mul_cancel hd
      rw [if_pos h2]
      exact ⟨_, rfl, by rw [ed, et]⟩
    · rw [if_neg (fun q => q.elim h1 hd), Int.sign_eq_one_of_pos hy] at et
      have h2 : ¬ x / y * y = x := by
        rw [fa_eq, hq]
        exact fun q => hd ⟨x.toInt.tdiv y.toInt, by rw [Int.mul_comm]; exact q.symm⟩
      rw [if_neg h2]
      refine ⟨_, rfl, ?_⟩
      have hn := Int.natAbs_tdiv_le_natAbs x.toInt y.toInt
      rw [fb_subI (by rw [ed, show (1 : Int32).toInt = 1 from rfl]; omega) (by rw [ed, show (1 : Int32).toInt = 1 from rfl]; omega), ed, et, show (1 : Int32).toInt = 1 from rfl]
      omega
/-- a height folded into the room, of width R -/
def foldI (R up : Int) : Int := if (up / R) % 2 = 0 then up % R else R - up % R
def hitI (R lo hi up : Int) : Bool := decide (lo ≤ foldI R up ∧ foldI R up ≤ hi)
theorem foldI_rng {R up : Int} (h : 0 < R) : 0 ≤ foldI R up ∧ foldI R up ≤ R := by
  unfold foldI
  have h1 := Int.emod_nonneg up (show R ≠ 0 by omega)
  have h2 := Int.emod_lt_of_pos up h
  split <;> omega
theorem mulb {a b A B : Int} (h0 : 0 ≤ a) (h1 : a ≤ A) (h2 : 0 ≤ b) (h3 : b ≤ B) : 0 ≤ a * b ∧ a * b ≤ A * B := ⟨Int.mul_nonneg h0 h2, Int.mul_le_mul h1 h3 h2 (by omega)⟩
theorem e3_meets {c0 cF cT : Nat → Int32} {c : Nat} {up sp : Int32} (hc : c < 3) (hB1 : 2 ≤ (c0 1).toInt) (hB2 : (c0 1).toInt ≤ 20) (hf0 : 0 ≤ (cF c).toInt) (hf1 : (cF c).toInt ≤ 20) (ht0 : 0 ≤ (cT c).toInt) (ht1 : (cT c).toInt ≤ 20) (hs1 : 1 ≤ sp.toInt) (hs2 : sp.toInt ≤ 200) (hu1 : -100000 ≤ up.toInt) (hu2 : up.toInt ≤ 100000) :
    fX3_curtainMeets c0 cF cT (nI c) up sp = some (b2 (hitI ((c0 1).toInt * sp.toInt) ((cF c).toInt * sp.toInt) ((cT c).toInt * sp.toInt) up.toInt)) := by
  have hb := mulb (show 0 ≤ (c0 1).toInt by omega) hB2 (show 0 ≤ sp.toInt by omega) hs2
  have hR : (c0 1 * sp).toInt = (c0 1).toInt * sp.toInt := fb_mulI (by omega) (by omega)
  have hpos : 0 < (c0 1).toInt * sp.toInt := Int.mul_pos (by omega) (by omega)
  have hb2 := mulb hf0 hf1 (show 0 ≤ sp.toInt by omega) hs2
  have hF : (cF c * sp).toInt = (cF c).toInt * sp.toInt := fb_mulI (by omega) (by omega)
  have hb3 := mulb ht0 ht1 (show 0 ≤ sp.toInt by omega) hs2
  have hT : (cT c * sp).toInt = (cT c).toInt * sp.toInt := fb_mulI (by omega) (by omega)
  generalize hRe : (c0 1).toInt * sp.toInt = R at *
  obtain ⟨r, hr1, hr2⟩ := e_floor (x := up) (y := c0 1 * sp) (by omega) (by omega) (by omega)
  rw [hR] at hr2
  have hmod := Int.emod_add_mul_ediv up.toInt R
  have hm0 := Int.emod_nonneg up.toInt (show R ≠ 0 by omega)
  have hm1 := Int.emod_lt_of_pos up.toInt hpos
  have hrm : (r * (c0 1 * sp)).toInt = up.toInt - up.toInt % R := by
    have e : r.toInt * (c0 1 * sp).toInt = up.toInt - up.toInt % R := by rw [hr2, hR, Int.mul_comm]; omega
    rw [fb_mulI (by rw [e]; omega) (by rw [e]; omega), e]
  have hab : (up - r * (c0 1 * sp)).toInt = up.toInt % R := by
    rw [fb_subI (by rw [hrm]; omega) (by rw [hrm]; omega), hrm]; omega
  have hfo : (c0 1 * sp - (up - r * (c0 1 * sp))).toInt = R - up.toInt % R := by
    rw [fb_subI (by rw [hab, hR]; omega) (by rw [hab, hR]; omega), hab, hR]
  have hj : ∀ z : Int32, fX3_curtainMeets_j49 c0 cF cT (nI c) sp z = some (b2 (decide ((cF c).toInt * sp.toInt ≤ z.toInt ∧ z.toInt ≤ (cT c).toInt * sp.toInt))) := by
    intro z
    unfold fX3_curtainMeets_j49
    rw [if_pos (okI_nI hc (by decide)), if_pos (okI_nI hc (by decide)), cl_nI (by omega)]
    simp only [fa_lt, hF, hT, b2, decide_eq_true_eq]
    split
    · rw [if_neg (by omega)]
    · split
      · rw [if_neg (by omega)]
      · rw [if_pos (by omega)]
  unfold fX3_curtainMeets
  simp only [bnd]
  rw [if_pos (show (0 : Int32) < c0 1 * sp by rw [fa_lt, hR, show (0 : Int32).toInt = 0 from rfl]; exact hpos), hr1, Option.bind_some, hj, hj, hab, hfo]
  unfold hitI foldI
  by_cases h : (up.toInt / R) % 2 = 0
  · rw [if_pos ((par r).mpr (by rw [hr2]; exact h))]
    simp only [if_pos h]
  · rw [if_neg (fun q => h (by rw [← hr2]; exact (par r).mp q))]
    simp only [if_neg h]
