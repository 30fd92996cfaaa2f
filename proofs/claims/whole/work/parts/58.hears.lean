/-! what is heard: the reference -/
abbrev II : Type := Int32 × Int32
def putL (f : Nat → Int32) (l : List Int32) : Nat → Int32 := fun k => l.getD k (f k)
theorem putL_nil (f : Nat → Int32) : putL f [] = f := rfl
theorem putL_add (f : Nat → Int32) (l : List Int32) (x : Int32) : upd (putL f l) l.length x = putL f (l ++ [x]) := by
  funext k
  unfold upd putL
  rw [List.getD_eq_getElem?_getD, List.getD_eq_getElem?_getD]
  by_cases h : k = l.length
  · rw [if_pos h, h, List.getElem?_append_right (Nat.le_refl _), Nat.sub_self]
    rfl
  · rw [if_neg h]
    rcases Nat.lt_or_ge k l.length with h1 | h1
    · rw [List.getElem?_append_left h1]
    · rw [List.getElem?_append_right h1, List.getElem?_eq_none h1, List.getElem?_eq_none (by rw [List.length_singleton]; omega)]
theorem putL_at (f : Nat → Int32) {l : List Int32} {k : Nat} (h : k < l.length) : putL f l k = l[k] := by
  unfold putL
  rw [List.getD_eq_getElem?_getD, List.getElem?_eq_getElem h]
  rfl
theorem upd_twice (f : Nat → Int32) (i : Nat) (x y : Int32) : upd (upd f i x) i y = upd f i y := by
  funext j; unfold upd; split <;> rfl
theorem upd_self (f : Nat → Int32) (i : Nat) (x : Int32) : upd f i x i = x := if_pos rfl
theorem upd_ne {f : Nat → Int32} {i j : Nat} {x : Int32} (h : j ≠ i) : upd f i x j = f j := if_neg h
def row (u : Nat) : Nat → List II
  | 0 => []
  | v + 1 => row u v ++ [(Kn u, Kn v)]
def rows : Nat → List II
  | 0 => []
  | u + 1 => rows u ++ row u 7
def vis (hd : II → Bool) (p : II) : Bool := imgB p.1 p.2 && !hd p
def vl (hd : II → Bool) (u v : Nat) : List II := (rows u ++ row u v).filter (vis hd)
/-- all that is heard, by i, then j -/
def HL (hd : II → Bool) : List II := (rows 7).filter (vis hd)
theorem vl_s (hd : II → Bool) (u v : Nat) : vl hd u (v + 1) = vl hd u v ++ (if vis hd (Kn u, Kn v) then [(Kn u, Kn v)] else []) := by
  unfold vl
  show (rows u ++ (row u v ++ [(Kn u, Kn v)])).filter (vis hd) = _
  rw [← List.append_assoc, List.filter_append]
  congr 1
  cases hv : vis hd (Kn u, Kn v) <;> simp [hv]
theorem vl_7 (hd : II → Bool) (u : Nat) : vl hd u 7 = vl hd (u + 1) 0 := by
  unfold vl
  show _ = (rows u ++ row u 7 ++ []).filter (vis hd)
  rw [List.append_nil]
theorem vl_0 (hd : II → Bool) : vl hd 7 0 = HL hd := by
  unfold vl HL
  show (rows 7 ++ []).filter _ = _
  rw [List.append_nil]
theorem img_cnt : ∀ u, u < 7 → ∀ v, v < 7 → imgB (Kn u) (Kn v) = true → ((rows u ++ row u v).filter (fun p => imgB p.1 p.2)).length < 25 := by decide +kernel
theorem img_cnt2 : ((rows 7).filter (fun p => imgB p.1 p.2)).length = 25 := by decide +kernel
theorem vis_len (hd : II → Bool) (l : List II) : (l.filter (vis hd)).length ≤ (l.filter (fun p => imgB p.1 p.2)).length := by
  have e : l.filter (vis hd) = (l.filter (fun p => imgB p.1 p.2)).filter (fun p => !hd p) := by
    rw [List.filter_filter]
    congr 1
    funext p
    unfold vis
    exact Bool.and_comm _ _
  rw [e]
  exact List.length_filter_le _ _
theorem HL_len (hd : II → Bool) : (HL hd).length ≤ 25 := by
  have := vis_len hd (rows 7)
  rw [img_cnt2] at this
  exact this
theorem HL_img {hd : II → Bool} {p : II} (h : p ∈ HL hd) : imgB p.1 p.2 = true := by
  have h := (List.mem_filter.mp h).2
  unfold vis at h
  exact (Bool.and_eq_true_iff.mp h).1
def cod (p : II) : Int32 := 100 * (p.1 + 3) + p.2 + 3
theorem Kn_7 : ¬ (Kn 7).toInt ≤ 3 := by decide
theorem e6_hears_loop {s sw c0 tm0 st0 wh0 : Nat → Int32} {x y : Int32} (hd : II → Bool) (wa ti sn : II → Int32)
    (H1 : ∀ e0 i j, imgB i j = true → fX6_isHidden e0 s i j x y = some (b2 (hd (i, j))))
    (H2 : ∀ e0 i j, imgB i j = true → fX6_wayOf e0 s i j x y = some (wa (i, j)))
    (H3 : ∀ i j, imgB i j = true → fX6_timeOf (wa (i, j)) = some (ti (i, j)))
    (H4 : ∀ e0 i j, imgB i j = true → fX6_strengthOf e0 sw i j (wa (i, j)) = some (sn (i, j))) :
    LPX (fX6_hears_L29 s sw x y) FU (-3, upd c0 20 0, tm0, st0, wh0) = some (upd c0 20 (nI (HL hd).length), putL tm0 ((HL hd).map ti), putL st0 ((HL hd).map sn), putL wh0 ((HL hd).map cod)) := by
  have inner : ∀ (u : Nat) (hu : u < 7) (k29 : (Int32 × (Nat → Int32) × (Nat → Int32) × (Nat → Int32) × (Nat → Int32)) → Option ((Nat → Int32) × (Nat → Int32) × (Nat → Int32) × (Nat → Int32))),
      LPX (fX6_hears_L39 s sw x y (Kn u) k29) FU (-3, upd c0 20 (nI (vl hd u 0).length), putL tm0 ((vl hd u 0).map ti), putL st0 ((vl hd u 0).map sn), putL wh0 ((vl hd u 0).map cod)) = k29 (Kn u + 1, upd c0 20 (nI (vl hd (u + 1) 0).length), putL tm0 ((vl hd (u + 1) 0).map ti), putL st0 ((vl hd (u + 1) 0).map sn), putL wh0 ((vl hd (u + 1) 0).map cod)) := by
    intro u hu k29
    refine LPX_det (F := fun v => (Kn v, upd c0 20 (nI (vl hd u v).length), putL tm0 ((vl hd u v).map ti), putL st0 ((vl hd u v).map sn), putL wh0 ((vl hd u v).map cod))) 7 (fun v hv k => ?_) (fun k => ?_) (FU_lt (by decide))
    · have h1 : ¬ (3 : Int32) < Kn v := by rw [fa_lt, Kn_t (by omega), show (3 : Int32).toInt = 3 from rfl]; omega
      simp only [fX6_hears_L39]
      rw [if_neg h1, e6_img, Option.bind_some, b2_if, Kn_s (by omega), vl_s]
      cases hi : imgB (Kn u) (Kn v) with
      | false =>
        have e : vis hd (Kn u, Kn v) = false := by unfold vis; rw [hi]; rfl
        rw [e]
        simp
      | true =>
        have hlen : (vl hd u v).length < 25 := Nat.lt_of_le_of_lt (vis_len hd _) (img_cnt u hu v hv hi)
        simp only [if_true]
        rw [H1 _ _ _ hi, Option.bind_some, b2_if]
        cases hh : hd (Kn u, Kn v) with
        | true =>
          have e : vis hd (Kn u, Kn v) = false := by unfold vis; rw [hi, hh]; rfl
          rw [e]
          simp
        | false =>
          have e : vis hd (Kn u, Kn v) = true := by unfold vis; rw [hi, hh]; rfl
          rw [e]
          simp only [if_true, if_false, Bool.false_eq_true]
          rw [H2 _ _ _ hi, Option.bind_some, H3 _ _ hi, Option.bind_some, upd_self, if_pos (okI_nI hlen (by decide)), H4 _ _ _ hi, Option.bind_some, if_pos (okI_nI hlen (by decide)), if_pos (okI_nI hlen (by decide)), cl_nI (by omega), upd_twice, nI_1]
          simp only [List.map_append, List.map_cons, List.map_nil, List.length_append, List.length_singleton]
          rw [← putL_add, ← putL_add, ← putL_add, List.length_map, List.length_map, List.length_map]
          rfl
    · simp only [fX6_hears_L39]
      rw [if_pos (show (3 : Int32) < Kn 7 by decide), vl_7]
  refine LPX_det (F := fun u => (Kn u, upd c0 20 (nI (vl hd u 0).length), putL tm0 ((vl hd u 0).map ti), putL st0 ((vl hd u 0).map sn), putL wh0 ((vl hd u 0).map cod))) 7 (fun u hu k => ?_) (fun k => ?_) (FU_lt (by decide))
  · have h1 : ¬ (3 : Int32) < Kn u := by rw [fa_lt, Kn_t (by omega), show (3 : Int32).toInt = 3 from rfl]; omega
    simp only [fX6_hears_L29]
    rw [if_neg h1, inner u hu, Kn_s (by omega)]
  · simp only [fX6_hears_L29]
    rw [if_pos (show (3 : Int32) < Kn 7 by decide), vl_0]
