/-! what is heard: the class -/
theorem getD_in {α : Type} {l : List α} {k : Nat} {d : α} (h : k < l.length) : l.getD k d = l[k] := by
  rw [List.getD_eq_getElem?_getD, List.getElem?_eq_getElem h]; rfl
def shf (f : Nat → Int32) (l : List Int32) (q : Nat) : Nat → Int32 := fun k => if q < k ∧ k ≤ l.length then putL f l (k - 1) else putL f l k
theorem shf_0 (f : Nat → Int32) (l : List Int32) : shf f l l.length = putL f l := by
  funext k
  unfold shf
  rw [if_neg (by omega)]
theorem shf_lo (f : Nat → Int32) (l : List Int32) {q k : Nat} (h : k ≤ q) : shf f l q k = putL f l k := by
  unfold shf
  rw [if_neg (by omega)]
theorem shf_s (f : Nat → Int32) {l : List Int32} {q : Nat} (h : q + 1 ≤ l.length) : upd (shf f l (q + 1)) (q + 1) (shf f l (q + 1) q) = shf f l q := by
  funext k
  rw [shf_lo f l (Nat.le_succ q)]
  unfold upd shf
  by_cases h1 : k = q + 1
  · subst h1
    rw [if_pos rfl, if_pos (by omega)]
    rfl
  · rw [if_neg h1]
    by_cases h2 : q < k ∧ k ≤ l.length
    · rw [if_pos h2, if_pos (by omega)]
    · rw [if_neg h2, if_neg (by omega)]
theorem shf_put (f : Nat → Int32) {l : List Int32} {q : Nat} (x : Int32) (h : q ≤ l.length) : upd (shf f l q) q x = putL f (insAt l q x) := by
  funext k
  have ht : (l.take q).length = q := by rw [List.length_take]; omega
  unfold upd shf putL insAt
  by_cases h1 : k = q
  · subst h1
    rw [if_pos rfl, List.getD_eq_getElem?_getD, List.getElem?_append_right (by omega), ht, Nat.sub_self]
    rfl
  · rw [if_neg h1, List.getD_eq_getElem?_getD (l := l.take q ++ x :: l.drop q)]
    rcases Nat.lt_or_ge k q with h2 | h2
    · rw [if_neg (by omega), List.getElem?_append_left (by omega), List.getD_eq_getElem?_getD, List.getElem?_take, if_pos h2]
    · rw [List.getElem?_append_right (by omega), ht]
      obtain ⟨d, e⟩ : ∃ d, k = q + 1 + d := ⟨k - (q + 1), by omega⟩
      subst e
      rw [show q + 1 + d - q = d + 1 by omega, List.getElem?_cons_succ, List.getElem?_drop]
      by_cases h3 : q + 1 + d ≤ l.length
      · rw [if_pos (by omega), List.getD_eq_getElem?_getD, show q + 1 + d - 1 = q + d by omega, List.getElem?_eq_getElem (by omega)]
        rfl
      · rw [if_neg (by omega), List.getD_eq_getElem?_getD, List.getElem?_eq_none (by omega), List.getElem?_eq_none (by omega)]
theorem ipos_congr {f g : Nat → Int32} {x : Int32} : ∀ {q : Nat}, (∀ k, k < q → f k = g k) → ipos f x q = ipos g x q
  | 0, _ => rfl
  | q + 1, h => by
    unfold ipos
    rw [h q (by omega), ipos_congr (fun k hk => h k (by omega))]
theorem srt_congr {t t' : Nat → Int32} : ∀ {m : Nat}, (∀ k, k < m → t k = t' k) → srt t m = srt t' m
  | 0, _ => rfl
  | m + 1, h => by
    have ih := srt_congr (t := t) (t' := t') (m := m) (fun k hk => h k (by omega))
    show insAt (srt t m) (ipos (fun k => t ((srt t m).getD k 0)) (t m) m) m = insAt (srt t' m) (ipos (fun k => t' ((srt t' m).getD k 0)) (t' m) m) m
    rw [← ih, h m (by omega)]
    congr 1
    refine ipos_congr (fun k hk => ?_)
    have hl := srt_len t m
    have e : (srt t m).getD k 0 < m := by
      rw [getD_in (by omega)]
      exact srt_mem.mp (List.getElem_mem _)
    exact h _ (by omega)
/-- images in the order in which they are heard -/
def sl (ti : II → Int32) (g : List II) : List II := (srt (fun k => ti (g.getD k (0, 0))) g.length).map (fun k => g.getD k (0, 0))
theorem sl_len (ti : II → Int32) (g : List II) : (sl ti g).length = g.length := by unfold sl; rw [List.length_map, srt_len]
theorem sl_add (ti : II → Int32) (g : List II) (p : II) : sl ti (g ++ [p]) = insAt (sl ti g) (ipos (fun k => ti ((sl ti g).getD k (0, 0))) (ti p) g.length) p := by
  have hg : ∀ k, k < g.length → (g ++ [p]).getD k (0, 0) = g.getD k (0, 0) := by
    intro k hk
    rw [List.getD_eq_getElem?_getD, List.getD_eq_getElem?_getD, List.getElem?_append_left hk]
  have hp : (g ++ [p]).getD g.length (0, 0) = p := by
    rw [List.getD_eq_getElem?_getD, List.getElem?_append_right (Nat.le_refl _), Nat.sub_self]; rfl
  unfold sl
  rw [List.length_append, List.length_singleton]
  show (insAt (srt (fun k => ti ((g ++ [p]).getD k (0, 0))) g.length) (ipos (fun k => ti ((g ++ [p]).getD ((srt (fun k => ti ((g ++ [p]).getD k (0, 0))) g.length).getD k 0) (0, 0))) (ti ((g ++ [p]).getD g.length (0, 0))) g.length) g.length).map _ = _
  rw [srt_congr (t := fun k => ti ((g ++ [p]).getD k (0, 0))) (t' := fun k => ti (g.getD k (0, 0))) (fun k hk => by show ti _ = ti _; rw [hg k hk]), hp, insAt_map, hp]
  have hl := srt_len (fun k => ti (g.getD k (0, 0))) g.length
  have hlt : ∀ k, k < g.length → (srt (fun k => ti (g.getD k (0, 0))) g.length).getD k 0 < g.length := by
    intro k hk
    rw [getD_in (by omega)]
    exact srt_mem.mp (List.getElem_mem _)
  have e1 : (srt (fun k => ti (g.getD k (0, 0))) g.length).map (fun k => (g ++ [p]).getD k (0, 0)) = (srt (fun k => ti (g.getD k (0, 0))) g.length).map (fun k => g.getD k (0, 0)) := by
    refine List.map_congr_left (fun k hk => ?_)
    exact hg k (srt_mem.mp hk)
  rw [e1]
  congr 1
  refine ipos_congr (fun k hk => ?_)
  have h2 := hlt k hk
  generalize srt (fun k => ti (g.getD k (0, 0))) g.length = S at *
  have e2 : (S.map (fun k => g.getD k (0, 0))).getD k (0, 0) = g.getD (S.getD k 0) (0, 0) := by
    rw [getD_in (l := S.map (fun k => g.getD k (0, 0))) (by rw [List.length_map]; omega), List.getElem_map, getD_in (l := S) (by omega)]
  show ti ((g ++ [p]).getD (S.getD k 0) (0, 0)) = ti ((S.map (fun k => g.getD k (0, 0))).getD k (0, 0))
  rw [hg _ h2, e2]
abbrev EA : Type := (Nat → Int32) × (Nat → Int32) × (Nat → Int32) × (Nat → Int32) × (Nat → Int32) × (Nat → Int32)
/-- the ear, having heard g: size and total, times, is, js, ways, strengths -/
def earE (c0 tm0 is0 js0 wa0 st0 : Nat → Int32) (ti wa sn : II → Int32) (g : List II) : EA :=
  (upd (upd c0 6 (nI g.length)) 7 (sumI (g.map sn)), putL tm0 ((sl ti g).map ti), putL is0 ((sl ti g).map (·.1)), putL js0 ((sl ti g).map (·.2)), putL wa0 ((sl ti g).map wa), putL st0 ((sl ti g).map sn))
theorem upd_67 (f : Nat → Int32) (a b a' b' : Int32) : upd (upd (upd (upd f 6 a) 7 b) 7 b') 6 a' = upd (upd f 6 a') 7 b' := by
  funext k
  unfold upd
  by_cases h1 : k = 6
  · subst h1; rfl
  · by_cases h2 : k = 7
    · subst h2; rfl
    · simp only [if_neg h1, if_neg h2]
theorem e0_shift {e is js wa tm st : Nat → Int32} {w : Nat} (h : w + 1 < 25) : fX0_shiftUp e is js wa tm st (nI (w + 1)) = some (upd is (w + 1) (is w), upd js (w + 1) (js w), upd wa (w + 1) (wa w), upd tm (w + 1) (tm w), upd st (w + 1) (st w)) := by
  have o1 : okI (nI w) 25 := okI_nI (by omega) (by decide)
  have o2 : okI (nI (w + 1)) 25 := okI_nI h (by decide)
  unfold fX0_shiftUp
  rw [nI_pred]
  simp only [if_pos o1, if_pos o2, cl_nI (show w < 2147483648 by omega), cl_nI (show w + 1 < 2147483648 by omega)]
theorem e0_insert {c0 tm0 is0 js0 wa0 st0 c1 sw : Nat → Int32} {ti wa sn : II → Int32} {g : List II} {i j : Int32} (hn : g.length < 25)
    (H3 : fX5_timeOf (wa (i, j)) = some (ti (i, j))) (H4 : fX5_strengthOf sw i j (wa (i, j)) = some (sn (i, j))) :
    fX0_insert (earE c0 tm0 is0 js0 wa0 st0 ti wa sn g).1 (earE c0 tm0 is0 js0 wa0 st0 ti wa sn g).2.1 (earE c0 tm0 is0 js0 wa0 st0 ti wa sn g).2.2.1 (earE c0 tm0 is0 js0 wa0 st0 ti wa sn g).2.2.2.1 (earE c0 tm0 is0 js0 wa0 st0 ti wa sn g).2.2.2.2.1 (earE c0 tm0 is0 js0 wa0 st0 ti wa sn g).2.2.2.2.2 c1 sw i j (wa (i, j)) = some (earE c0 tm0 is0 js0 wa0 st0 ti wa sn (g ++ [(i, j)])) := by
  have hl := sl_len ti g
  have hadd := sl_add ti g (i, j)
  unfold earE
  rw [hadd]
  generalize hq : ipos (fun k => ti ((sl ti g).getD k (0, 0))) (ti (i, j)) g.length = q
  have hqn : q ≤ g.length := by rw [← hq]; exact ipos_le _ _ _
  generalize sl ti g = l at *
  simp only [insAt_map]
  have e6 : (upd (upd c0 6 (nI g.length)) 7 (sumI (g.map sn))) 6 = nI g.length := rfl
  have e7 : (upd (upd c0 6 (nI g.length)) 7 (sumI (g.map sn))) 7 = sumI (g.map sn) := rfl
  unfold fX0_insert
  rw [e6, if_pos (show nI g.length < 25 by rw [fa_lt, nI_toInt (by omega), show (25 : Int32).toInt = 25 from rfl]; omega), H3, Option.bind_some]
  simp only [bnd]
  have hj54 : fX0_insert_j54 c1 sw i j (wa (i, j)) (ti (i, j)) (nI q) (upd (upd c0 6 (nI g.length)) 7 (sumI (g.map sn))) (shf tm0 (l.map ti) q) (shf is0 (l.map (·.1)) q) (shf js0 (l.map (·.2)) q) (shf wa0 (l.map wa) q) (shf st0 (l.map sn) q) = some (upd (upd c0 6 (nI (g ++ [(i, j)]).length)) 7 (sumI ((g ++ [(i, j)]).map sn)), putL tm0 (insAt (l.map ti) q (ti (i, j))), putL is0 (insAt (l.map (·.1)) q i), putL js0 (insAt (l.map (·.2)) q j), putL wa0 (insAt (l.map wa) q (wa (i, j))), putL st0 (insAt (l.map sn) q (sn (i, j)))) := by
    have ok : okI (nI q) 25 := okI_nI (by omega) (by decide)
    unfold fX0_insert_j54
    rw [if_pos ok, if_pos ok, if_pos ok, if_pos ok, H4, Option.bind_some, if_pos ok, if_pos ok, cl_nI (by omega), e6, e7, upd_self, upd_67, nI_1]
    rw [shf_put tm0 _ (by rw [List.length_map]; omega), shf_put is0 _ (by rw [List.length_map]; omega), shf_put js0 _ (by rw [List.length_map]; omega), shf_put wa0 _ (by rw [List.length_map]; omega), shf_put st0 _ (by rw [List.length_map]; omega)]
    rw [List.length_append, List.length_singleton, List.map_append, List.map_cons, List.map_nil, sumI_app]
  have s0 : ∀ (f : Nat → Int32) (h : II → Int32), putL f (l.map h) = shf f (l.map h) g.length := by
    intro f h
    have e := shf_0 f (l.map h)
    rw [List.length_map, hl] at e
    exact e.symm
  rw [s0 tm0 ti, s0 is0 (·.1), s0 js0 (·.2), s0 wa0 wa, s0 st0 sn]
  refine LPX_det (F := fun t => (nI (g.length - t), shf tm0 (l.map ti) (g.length - t), shf is0 (l.map (·.1)) (g.length - t), shf js0 (l.map (·.2)) (g.length - t), shf wa0 (l.map wa) (g.length - t), shf st0 (l.map sn) (g.length - t))) (g.length - q) (fun t ht k => ?_) (fun k => ?_) (FU_lt (by omega))
  · obtain ⟨w, ew⟩ : ∃ w, g.length - t = w + 1 := ⟨g.length - t - 1, by omega⟩
    have ew2 : g.length - (t + 1) = w := by omega
    have hp := ipos_hi (f := fun k => ti (l.getD k (0, 0))) (x := ti (i, j)) (q := g.length) (k := w) (by rw [hq]; omega) (by omega)
    rw [ew, ew2]
    have hw : ¬ nI (w + 1) ≤ 0 := by rw [fa_le, nI_toInt (by omega), show (0 : Int32).toInt = 0 from rfl]; omega
    have et : shf tm0 (l.map ti) (w + 1) w = ti (l.getD w (0, 0)) := by
      rw [shf_lo _ _ (Nat.le_succ w), putL_at _ (by rw [List.length_map]; omega), List.getElem_map, getD_in (by omega)]
    have hnt : ¬ shf tm0 (l.map ti) (w + 1) w ≤ ti (i, j) := by rw [et, fa_le]; omega
    have hm1 : nI (w + 1) + (-1) = nI w := pk_m1 w
    simp only [fX0_insert_L23]
    rw [if_neg hw, nI_pred, if_pos (okI_nI (by omega) (by decide)), cl_nI (by omega), if_neg hnt, e0_shift (by omega), Option.bind_some, hm1]
    dsimp only
    rw [shf_s tm0 (by rw [List.length_map]; omega), shf_s is0 (by rw [List.length_map]; omega), shf_s js0 (by rw [List.length_map]; omega), shf_s wa0 (by rw [List.length_map]; omega), shf_s st0 (by rw [List.length_map]; omega)]
  · have ew : g.length - (g.length - q) = q := by omega
    rw [ew]
    simp only [fX0_insert_L23]
    rcases Nat.eq_zero_or_pos q with h0 | h0
    · subst h0
      rw [if_pos (show nI 0 ≤ 0 by decide), hj54]
    · obtain ⟨w, ew⟩ : ∃ w, q = w + 1 := ⟨q - 1, by omega⟩
      have hp := ipos_lo (f := fun k => ti (l.getD k (0, 0))) (x := ti (i, j)) (q := g.length) (by rw [hq]; exact h0)
      rw [hq] at hp
      subst ew
      have et : shf tm0 (l.map ti) (w + 1) w = ti (l.getD w (0, 0)) := by
        rw [shf_lo _ _ (Nat.le_succ w), putL_at _ (by rw [List.length_map]; omega), List.getElem_map, getD_in (by omega)]
      have hnt : shf tm0 (l.map ti) (w + 1) w ≤ ti (i, j) := by rw [et, fa_le]; exact hp
      have hw : ¬ nI (w + 1) ≤ 0 := by rw [fa_le, nI_toInt (by omega), show (0 : Int32).toInt = 0 from rfl]; omega
      rw [if_neg hw, nI_pred, if_pos (okI_nI (by omega) (by decide)), cl_nI (by omega), if_pos hnt, hj54]
