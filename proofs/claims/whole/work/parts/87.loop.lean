/-! the law's loop -/
section LOOP
variable {p : Program} {l : Launch} {e : Env} {s : State} {m : MethodId} {below : List Frame} {meth : Method} {c : Code} {b L : Nat} {xs : Nat → Int32} {G : va_G} {cI cZ cO : ClassId} {a q : Nat → Nat} {H : Heap} {locs : List Loc} {ls : Array Slot} {i : Nat}
variable {cN sw sX sY cX cF cT d0 dsw dsX dsY dcX dcF dcT a0 a1 a2 a3 a4 a5 a6 b0 b1 b2 b3 b4 b5 b6 ik tO tL pO pk pw pf ps eO ei ej ew et es ed fO fi fj ft fX fY fT mO ms dr mk mik un si sj st mt kd pl vl mw mtm mst mwh mto : Nat → Int32}
set_option maxHeartbeats 8000000 in
set_option maxRecDepth 100000 in
theorem law_case (C0 : lw_At p s m meth c b L xs) (hts : ∀ w ∈ wsL_law, w.before #[Value.ref b] s = true) (hK : KW G cI cZ [(cO, .object RX3)] s) (hi : i + 5 ≤ L) (hL : L ≤ 2560) (hl : lv_has ls 4 (LV b a q i)) (hP : va_P G vwCl (WL cI cZ cO a q cN sw sX sY cX cF cT d0 dsw dsX dsY dcX dcF dcT a0 a1 a2 a3 a4 a5 a6 b0 b1 b2 b3 b4 b5 b6 ik tO tL pO pk pw pf ps eO ei ej ew et es ed fO fi fj ft fX fY fT mO ms dr mk mik un si sj st mt kd pl vl mw mtm mst mwh mto) H) (hD : va_D (AH s) (WL cI cZ cO a q cN sw sX sY cX cF cT d0 dsw dsX dsY dcX dcF dcT a0 a1 a2 a3 a4 a5 a6 b0 b1 b2 b3 b4 b5 b6 ik tO tL pO pk pw pf ps eO ei ej ew et es ed fO fi fj ft fX fY fT mO ms dr mk mik un si sj st mt kd pl vl mw mtm mst mwh mto)) (hS : va_S (AH s) s.heap H locs) (hZ : ZR cN sw sX sY cX cF cT a0 a1 a2 a3 a4 a5 a6 b0 b1 b2 b3 b4 b5 b6 ik tO tL pO pk pw pf ps fO fi fj ft mO ms mk mik un si sj st mt) (kk : KK p l e s m below meth c b G cI cZ cO a q ls) (x : Int32) : W p l e room_1 s m #[Value.ref b] below meth c H locs 600000 7302250 (lw_Z below #[Value.ref b] s) (F0 m 32 ls [.int x]) := by
  have hx := C0.1
  have hb := C0.2.1
  by_cases h : x.toInt < 0 ∨ 24 < x.toInt
  · exact lv_tableOut (tgt := 893) hx hb dL_law_32 h (by decide) (kk cN sw sX sY cX cF cT d0 dsw dsX dsY dcX dcF dcT a0 a1 a2 a3 a4 a5 a6 b0 b1 b2 b3 b4 b5 b6 ik tO tL pO pk pw pf ps eO ei ej ew et es ed fO fi fj ft fX fY fT mO ms dr mk mik un si sj st mt kd pl vl mw mtm mst mwh mto H locs hP hD hS hZ)
  have hr : x.toInt = 0 ∨ x.toInt = 1 ∨ x.toInt = 2 ∨ x.toInt = 3 ∨ x.toInt = 4 ∨ x.toInt = 5 ∨ x.toInt = 6 ∨ x.toInt = 7 ∨ x.toInt = 8 ∨ x.toInt = 9 ∨ x.toInt = 10 ∨ x.toInt = 11 ∨ x.toInt = 12 ∨ x.toInt = 13 ∨ x.toInt = 14 ∨ x.toInt = 15 ∨ x.toInt = 16 ∨ x.toInt = 17 ∨ x.toInt = 18 ∨ x.toInt = 19 ∨ x.toInt = 20 ∨ x.toInt = 21 ∨ x.toInt = 22 ∨ x.toInt = 23 ∨ x.toInt = 24 := by omega
  rcases hr with h | h | h | h | h | h | h | h | h | h | h | h | h | h | h | h | h | h | h | h | h | h | h | h | h
  · exact lv_tableIn (off := 116) (tgt := 148) hx hb dL_law_32 (by omega) (by omega) (by rw [h]; rfl) (by decide) (op_type C0 hts hK hi hL hl hP hD hS hZ kk)
  · exact lv_tableIn (off := 139) (tgt := 171) hx hb dL_law_32 (by omega) (by omega) (by rw [h]; rfl) (by decide) (op_clear C0 hts hK hi hL hl hP hD hS hZ kk)
  · exact lv_tableIn (off := 152) (tgt := 184) hx hb dL_law_32 (by omega) (by omega) (by rw [h]; rfl) (by decide) (op_room C0 hts hK hi hL hl hP hD hS hZ kk)
  · exact lv_tableIn (off := 165) (tgt := 197) hx hb dL_law_32 (by omega) (by omega) (by rw [h]; rfl) (by decide) (op_wall C0 hts hK hi hL hl hP hD hS hZ kk)
  · exact lv_tableIn (off := 188) (tgt := 220) hx hb dL_law_32 (by omega) (by omega) (by rw [h]; rfl) (by decide) (op_seat C0 hts hK hi hL hl hP hD hS hZ kk)
  · exact lv_tableIn (off := 221) (tgt := 253) hx hb dL_law_32 (by omega) (by omega) (by rw [h]; rfl) (by decide) (op_curtain C0 hts hK hi hL hl hP hD hS hZ kk)
  · exact lv_tableIn (off := 254) (tgt := 286) hx hb dL_law_32 (by omega) (by omega) (by rw [h]; rfl) (by decide) (op_pads C0 hts hK hi hL hl hP hD hS hZ kk)
  · exact lv_tableIn (off := 287) (tgt := 319) hx hb dL_law_32 (by omega) (by omega) (by rw [h]; rfl) (by decide) (op_draws C0 hts hK hi hL hl hP hD hS hZ kk)
  · exact lv_tableIn (off := 330) (tgt := 362) hx hb dL_law_32 (by omega) (by omega) (by rw [h]; rfl) (by decide) (op_moves C0 hts hK hi hL hl hP hD hS hZ kk)
  · exact lv_tableIn (off := 363) (tgt := 395) hx hb dL_law_32 (by omega) (by omega) (by rw [h]; rfl) (by decide) (op_undo C0 hts hK hi hL hl hP hD hS hZ kk)
  · exact lv_tableIn (off := 376) (tgt := 408) hx hb dL_law_32 (by omega) (by omega) (by rw [h]; rfl) (by decide) (op_mirror C0 hts hK hi hL hl hP hD hS hZ kk)
  · exact lv_tableIn (off := 419) (tgt := 451) hx hb dL_law_32 (by omega) (by omega) (by rw [h]; rfl) (by decide) (op_path C0 hts hK hi hL hl hP hD hS hZ kk)
  · exact lv_tableIn (off := 472) (tgt := 504) hx hb dL_law_32 (by omega) (by omega) (by rw [h]; rfl) (by decide) (op_heard C0 hts hK hi hL hl hP hD hS hZ kk)
  · exact lv_tableIn (off := 515) (tgt := 547) hx hb dL_law_32 (by omega) (by omega) (by rw [h]; rfl) (by decide) (op_sound C0 hts hK hi hL hl hP hD hS hZ kk)
  · exact lv_tableIn (off := 548) (tgt := 580) hx hb dL_law_32 (by omega) (by omega) (by rw [h]; rfl) (by decide) (op_early C0 hts hK hi hL hl hP hD hS hZ kk)
  · exact lv_tableIn (off := 591) (tgt := 623) hx hb dL_law_32 (by omega) (by omega) (by rw [h]; rfl) (by decide) (op_fade C0 hts hK hi hL hl hP hD hS hZ kk)
  · exact lv_tableIn (off := 624) (tgt := 656) hx hb dL_law_32 (by omega) (by omega) (by rw [h]; rfl) (by decide) (op_best C0 hts hK hi hL hl hP hD hS hZ kk)
  · exact lv_tableIn (off := 647) (tgt := 679) hx hb dL_law_32 (by omega) (by omega) (by rw [h]; rfl) (by decide) (op_odds C0 hts hK hi hL hl hP hD hS hZ kk)
  · exact lv_tableIn (off := 700) (tgt := 732) hx hb dL_law_32 (by omega) (by omega) (by rw [h]; rfl) (by decide) (op_sees C0 hts hK hi hL hl hP hD hS hZ kk)
  · exact lv_tableIn (off := 743) (tgt := 775) hx hb dL_law_32 (by omega) (by omega) (by rw [h]; rfl) (by decide) (op_forget C0 hts hK hi hL hl hP hD hS hZ kk)
  · exact lv_tableIn (off := 756) (tgt := 788) hx hb dL_law_32 (by omega) (by omega) (by rw [h]; rfl) (by decide) (op_unseen C0 hts hK hi hL hl hP hD hS hZ kk)
  · exact lv_tableIn (off := 779) (tgt := 811) hx hb dL_law_32 (by omega) (by omega) (by rw [h]; rfl) (by decide) (op_listen C0 hts hK hi hL hl hP hD hS hZ kk)
  · exact lv_tableIn (off := 792) (tgt := 824) hx hb dL_law_32 (by omega) (by omega) (by rw [h]; rfl) (by decide) (op_keep C0 hts hK hi hL hl hP hD hS hZ kk)
  · exact lv_tableIn (off := 815) (tgt := 847) hx hb dL_law_32 (by omega) (by omega) (by rw [h]; rfl) (by decide) (op_back C0 hts hK hi hL hl hP hD hS hZ kk)
  · exact lv_tableIn (off := 838) (tgt := 870) hx hb dL_law_32 (by omega) (by omega) (by rw [h]; rfl) (by decide) (op_count C0 hts hK hi hL hl hP hD hS hZ kk)
set_option maxHeartbeats 8000000 in
set_option maxRecDepth 100000 in
theorem law_loop (C0 : lw_At p s m meth c b L xs) (hts : ∀ w ∈ wsL_law, w.before #[Value.ref b] s = true) (hK : KW G cI cZ [(cO, .object RX3)] s) (hL : L ≤ 2560) : ∀ (n i : Nat), i ≤ L → L + 1 ≤ i + n → ∀ (cN sw sX sY cX cF cT d0 dsw dsX dsY dcX dcF dcT a0 a1 a2 a3 a4 a5 a6 b0 b1 b2 b3 b4 b5 b6 ik tO tL pO pk pw pf ps eO ei ej ew et es ed fO fi fj ft fX fY fT mO ms dr mk mik un si sj st mt kd pl vl mw mtm mst mwh mto : Nat → Int32) (H : Heap) (locs : List Loc) (ls : Array Slot), va_P G vwCl (WL cI cZ cO a q cN sw sX sY cX cF cT d0 dsw dsX dsY dcX dcF dcT a0 a1 a2 a3 a4 a5 a6 b0 b1 b2 b3 b4 b5 b6 ik tO tL pO pk pw pf ps eO ei ej ew et es ed fO fi fj ft fX fY fT mO ms dr mk mik un si sj st mt kd pl vl mw mtm mst mwh mto) H → va_D (AH s) (WL cI cZ cO a q cN sw sX sY cX cF cT d0 dsw dsX dsY dcX dcF dcT a0 a1 a2 a3 a4 a5 a6 b0 b1 b2 b3 b4 b5 b6 ik tO tL pO pk pw pf ps eO ei ej ew et es ed fO fi fj ft fX fY fT mO ms dr mk mik un si sj st mt kd pl vl mw mtm mst mwh mto) → va_S (AH s) s.heap H locs → ZR cN sw sX sY cX cF cT a0 a1 a2 a3 a4 a5 a6 b0 b1 b2 b3 b4 b5 b6 ik tO tL pO pk pw pf ps fO fi fj ft mO ms mk mik un si sj st mt → lv_has ls 4 (LV b a q i) → W p l e room_1 s m #[Value.ref b] below meth c H locs 600000 7302250 (lw_Z below #[Value.ref b] s) (F0 m 18 ls []) := by
  intro n
  induction n with
  | zero => intro i h1 h2; exact absurd h2 (by omega)
  | succ n ih =>
    intro i hiL hn cN sw sX sY cX cF cT d0 dsw dsX dsY dcX dcF dcT a0 a1 a2 a3 a4 a5 a6 b0 b1 b2 b3 b4 b5 b6 ik tO tL pO pk pw pf ps eO ei ej ew et es ed fO fi fj ft fX fY fT mO ms dr mk mik un si sj st mt kd pl vl mw mtm mst mwh mto H locs ls hP hD hS hZ hl
    have C := C0
    obtain ⟨hx, hb, hr, hml, hown, -, hX, hbl, hlocks, hgv⟩ := C0
    have hbA : ¬ AH s b := Nat.not_le.mpr hbl
    refine lv_iload_n hx hb dL_law_18 rfl (lv_at hl 3 rfl) ?_
    refine lv_aload_n hx hb dL_law_19 rfl (lv_at hl 0 rfl) ?_
    refine va_slen hx hb hX hbl hbA hS dL_law_20 ?_
    refine lv_iconst (v := 5) hx hb dL_law_21 (by decide) ?_
    refine lv_isub hx hb dL_law_22 ?_
    have e5 : (Int32.ofNat L - 5).toInt = (L : Int) - 5 := by
      have e0 : (Int32.ofNat L).toInt = (L : Int) := nI_toInt (n := L) (by omega)
      rw [fb_subI (by rw [e0, show (5 : Int32).toInt = 5 from rfl]; omega) (by rw [e0, show (5 : Int32).toInt = 5 from rfl]; omega), e0]
      rfl
    refine lv_icmp_gt (tgt := 899) hx hb dL_law_23 (by decide) (fun h => ?_) (fun h => ?_)
    · refine lv_iconst (v := 1) hx hb dL_law_899 (by decide) ?_
      refine va_forget (fun x hx => hS.2.2 x hx) ?_
      exact lw_ret hx hb hr hlocks dL_law_900
    · have hi : i + 5 ≤ L := by
        rw [fa_lt, e5, nI_toInt (by omega)] at h
        omega
      refine lv_aload_n hx hb dL_law_26 rfl (lv_at hl 0 rfl) ?_
      refine lv_iload_n hx hb dL_law_27 rfl (lv_at hl 3 rfl) ?_
      refine va_sld hx hb hX hbl hbA hS (okI_in (okI_nI (n := L) (k := i) (by omega) (by omega))) dL_law_28 ?_
      refine lv_bipush (v := 31) hx hb dL_law_29 (by decide) ?_
      refine lv_iand hx hb dL_law_31 ?_
      refine law_case C hts hK hi hL hl hP hD hS hZ ?_ _
      intro cN sw sX sY cX cF cT d0 dsw dsX dsY dcX dcF dcT a0 a1 a2 a3 a4 a5 a6 b0 b1 b2 b3 b4 b5 b6 ik tO tL pO pk pw pf ps eO ei ej ew et es ed fO fi fj ft fX fY fT mO ms dr mk mik un si sj st mt kd pl vl mw mtm mst mwh mto H locs hP hD hS hZ
      refine lv_iinc (v := nI (i + 5)) (lv' := [(3, .int (nI (i + 5))), (0, .ref b), (1, .ref (a 0)), (2, .ref (q 0))]) hx hb dL_law_893 hl (k := 3) rfl (nI_add i 5) (by decide) rfl (fun ls hl => ?_)
      refine lv_goto (tgt := 18) hx hb dL_law_896 (by decide) ?_
      exact ih (i + 5) hi (by omega) cN sw sX sY cX cF cT d0 dsw dsX dsY dcX dcF dcT a0 a1 a2 a3 a4 a5 a6 b0 b1 b2 b3 b4 b5 b6 ik tO tL pO pk pw pf ps eO ei ej ew et es ed fO fi fj ft fX fY fT mO ms dr mk mik un si sj st mt kd pl vl mw mtm mst mwh mto H locs ls hP hD hS hZ (lv_sub hl [1, 2, 3, 0] rfl)
end LOOP
