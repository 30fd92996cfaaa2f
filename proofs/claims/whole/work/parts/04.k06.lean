set_option maxHeartbeats 4000000 in
set_option maxRecDepth 100000 in
theorem kX5_best (l : Launch) (G : va_G) (cI cZ : ClassId) (tl : List (ClassId × FieldType)) (sz : Nat) (A : Nat → Prop) (A0 A0_now A0_draft A0_kept A0_isKept A0_text A0_past A0_ear A0_finder A0_now_swallows A0_now_seatX A0_now_seatY A0_now_curtainX A0_now_curtainFrom A0_now_curtainTo A0_ear_is A0_ear_js A0_ear_ways A0_ear_times A0_ear_strengths A0_ear_deafened : Nat) (c0_now c0_ear c0_now_seatX c0_now_seatY c0_now_curtainX c0_now_curtainFrom c0_now_curtainTo c0_ear_times c0_ear_is c0_ear_js c0_ear_ways c0_ear_strengths c0_now_swallows : Nat → Int32) (x1 : Int32) (res : Int32 × (Nat → Int32) × (Nat → Int32) × (Nat → Int32) × (Nat → Int32) × (Nat → Int32) × (Nat → Int32)) (hAe : A = va_A [o5 A0 A0_now A0_draft A0_kept A0_isKept A0_text A0_past A0_ear A0_finder, o3 A0_now c0_now A0_now_swallows A0_now_seatX A0_now_seatY A0_now_curtainX A0_now_curtainFrom A0_now_curtainTo, o0 A0_ear c0_ear A0_ear_is A0_ear_js A0_ear_ways A0_ear_times A0_ear_strengths A0_ear_deafened, (A0_now_seatX, .inl (cI, 4, .inl c0_now_seatX)), (A0_now_seatY, .inl (cI, 4, .inl c0_now_seatY)), (A0_now_curtainX, .inl (cI, 3, .inl c0_now_curtainX)), (A0_now_curtainFrom, .inl (cI, 3, .inl c0_now_curtainFrom)), (A0_now_curtainTo, .inl (cI, 3, .inl c0_now_curtainTo)), (A0_ear_times, .inl (cI, 25, .inl c0_ear_times)), (A0_ear_is, .inl (cI, 25, .inl c0_ear_is)), (A0_ear_js, .inl (cI, 25, .inl c0_ear_js)), (A0_ear_ways, .inl (cI, 25, .inl c0_ear_ways)), (A0_ear_strengths, .inl (cI, 25, .inl c0_ear_strengths)), (A0_now_swallows, .inl (cI, 4, .inl c0_now_swallows))] sz) (hres : fX5_best c0_now c0_ear c0_now_seatX c0_now_seatY c0_now_curtainX c0_now_curtainFrom c0_now_curtainTo c0_ear_times c0_ear_is c0_ear_js c0_ear_ways c0_ear_strengths c0_now_swallows x1 = some res) : Met l yX5_best wsX5_best rX5_best (va_Pc [.ref A0, .int x1] (PRW G cI cZ tl [o5 A0 A0_now A0_draft A0_kept A0_isKept A0_text A0_past A0_ear A0_finder, o3 A0_now c0_now A0_now_swallows A0_now_seatX A0_now_seatY A0_now_curtainX A0_now_curtainFrom A0_now_curtainTo, o0 A0_ear c0_ear A0_ear_is A0_ear_js A0_ear_ways A0_ear_times A0_ear_strengths A0_ear_deafened, (A0_now_seatX, .inl (cI, 4, .inl c0_now_seatX)), (A0_now_seatY, .inl (cI, 4, .inl c0_now_seatY)), (A0_now_curtainX, .inl (cI, 3, .inl c0_now_curtainX)), (A0_now_curtainFrom, .inl (cI, 3, .inl c0_now_curtainFrom)), (A0_now_curtainTo, .inl (cI, 3, .inl c0_now_curtainTo)), (A0_ear_times, .inl (cI, 25, .inl c0_ear_times)), (A0_ear_is, .inl (cI, 25, .inl c0_ear_is)), (A0_ear_js, .inl (cI, 25, .inl c0_ear_js)), (A0_ear_ways, .inl (cI, 25, .inl c0_ear_ways)), (A0_ear_strengths, .inl (cI, 25, .inl c0_ear_strengths)), (A0_now_swallows, .inl (cI, 4, .inl c0_now_swallows))] sz)) (Qiw res.1 G A [o5 A0 A0_now A0_draft A0_kept A0_isKept A0_text A0_past A0_ear A0_finder, o3 A0_now c0_now A0_now_swallows A0_now_seatX A0_now_seatY A0_now_curtainX A0_now_curtainFrom A0_now_curtainTo, o0 A0_ear res.2.1 A0_ear_is A0_ear_js A0_ear_ways A0_ear_times A0_ear_strengths A0_ear_deafened, (A0_now_seatX, .inl (cI, 4, .inl c0_now_seatX)), (A0_now_seatY, .inl (cI, 4, .inl c0_now_seatY)), (A0_now_curtainX, .inl (cI, 3, .inl c0_now_curtainX)), (A0_now_curtainFrom, .inl (cI, 3, .inl c0_now_curtainFrom)), (A0_now_curtainTo, .inl (cI, 3, .inl c0_now_curtainTo)), (A0_ear_times, .inl (cI, 25, .inl res.2.2.1)), (A0_ear_is, .inl (cI, 25, .inl res.2.2.2.1)), (A0_ear_js, .inl (cI, 25, .inl res.2.2.2.2.1)), (A0_ear_ways, .inl (cI, 25, .inl res.2.2.2.2.2.1)), (A0_ear_strengths, .inl (cI, 25, .inl res.2.2.2.2.2.2)), (A0_now_swallows, .inl (cI, 4, .inl c0_now_swallows))]) 0 0 A := by
  refine Met.ofW (cc := cX5_best) (maxL := 12) (ret := (some .int)) (by decide) rfl ?_
  intro p e s m args below meth c s₁ B hml hv
  obtain ⟨rfl, hsz, hP, hK, hD0⟩ := hv
  have hx := B.exec
  have hb := B.bytes
  have hr := B.returns
  have hts := atoms_spec (ws := wsX5_best) B.pre
  have hown : s.vm.findClass RX5 = some m.cls := findClass_of_methodNamed B.named
  have hlocks := B.notSynchronized
  subst hsz
  have hD : va_D A [o5 A0 A0_now A0_draft A0_kept A0_isKept A0_text A0_past A0_ear A0_finder, o3 A0_now c0_now A0_now_swallows A0_now_seatX A0_now_seatY A0_now_curtainX A0_now_curtainFrom A0_now_curtainTo, o0 A0_ear c0_ear A0_ear_is A0_ear_js A0_ear_ways A0_ear_times A0_ear_strengths A0_ear_deafened, (A0_now_seatX, .inl (cI, 4, .inl c0_now_seatX)), (A0_now_seatY, .inl (cI, 4, .inl c0_now_seatY)), (A0_now_curtainX, .inl (cI, 3, .inl c0_now_curtainX)), (A0_now_curtainFrom, .inl (cI, 3, .inl c0_now_curtainFrom)), (A0_now_curtainTo, .inl (cI, 3, .inl c0_now_curtainTo)), (A0_ear_times, .inl (cI, 25, .inl c0_ear_times)), (A0_ear_is, .inl (cI, 25, .inl c0_ear_is)), (A0_ear_js, .inl (cI, 25, .inl c0_ear_js)), (A0_ear_ways, .inl (cI, 25, .inl c0_ear_ways)), (A0_ear_strengths, .inl (cI, 25, .inl c0_ear_strengths)), (A0_now_swallows, .inl (cI, 4, .inl c0_now_swallows))] := by rw [hAe]; exact hD0.self
  have hA : ∀ q : Nat, s.heap.size ≤ q → A q := fun q h => by rw [hAe]; exact Or.inr h
  clear hAe hD0
  have hS : va_S A s.heap s.heap [] := va_S.rf
  have hl := lv_entry ([.ref A0, .int x1] : List Value) (n := 12) (Nat.le_of_ble_eq_true rfl)
  rw [lg_entry_eq]
  generalize (lg_sl ([.ref A0, .int x1] : List Value) ++ List.replicate (12 - (lg_sl ([.ref A0, .int x1] : List Value)).length) Slot.unset).toArray = ls at hl ⊢
  have hl : lv_has ls 12 [(0, .ref A0), (1, .int x1)] := hl
  refine lv_iload_n hx hb dX5_best_0 rfl (lv_at hl 1 rfl) ?_
  refine lv_iconst (v := 0) hx hb dX5_best_1 (by decide) ?_
  refine lv_sipush (v := 999) hx hb dX5_best_2 (by decide) ?_
  obtain ⟨r1, hr1, hres⟩ := bi_1 hres
  refine x_cp (va_runS (As := [.int x1, .int 0, .int 999]) (rest := []) ⟨hx, hb, hml, hown, hts⟩ (kX5_isWithin l G cI cZ tl x1 0 999 r1 hr1) (va_cwS 3 hts gX5_best_X5_isWithin rfl rfl rfl hsX5_isWithin ⟨Nat.le_of_ble_eq_true rfl, Nat.le_of_ble_eq_true rfl⟩) ⟨PRO_blind, PRO_at va_P0 hK⟩ rfl rfl hl.1 rfl (lv_room (Nat.le_of_ble_eq_true rfl)) dX5_best_5 ⟨Nat.zero_le _, Nat.zero_le _⟩) ?_
  refine lv_if_ne (tgt := 13) hx hb dX5_best_8 (by decide) (fun h2 => ?_) (fun h2 => ?_)
  · have hres := ite_f hres h2
    refine lv_bipush (v := (-9)) hx hb dX5_best_13 (by decide) ?_
    refine lv_istore_n (lv' := [(2, .int (-9)), (0, .ref A0), (1, .int x1)]) hx hb dX5_best_15 rfl hl (by decide) rfl (fun ls hl => ?_)
    refine lv_lconst (v := 0) hx hb dX5_best_16 rfl ?_
    refine lv_lstore_n (lv' := [(3, .long 0), (2, .int (-9)), (0, .ref A0), (1, .int x1)]) hx hb dX5_best_17 rfl hl (by decide) rfl (fun ls hl => ?_)
    refine lv_lconst (v := 1) hx hb dX5_best_18 rfl ?_
    refine lv_lstore (lv' := [(5, .long 1), (3, .long 0), (2, .int (-9)), (0, .ref A0), (1, .int x1)]) hx hb dX5_best_19 hl (by decide) rfl (fun ls hl => ?_)
    refine lv_iconst (v := 0) hx hb dX5_best_21 (by decide) ?_
    refine lv_istore (lv' := [(7, .int 0), (5, .long 1), (3, .long 0), (2, .int (-9)), (0, .ref A0), (1, .int x1)]) hx hb dX5_best_22 hl (by decide) rfl (fun ls hl => ?_)
    have Q24 : ∀ (v1_L24 : Int32) (n24 : Nat) (v2_L24 : Int32) (v3_L24 : Int64) (v5_L24 : Int64) (v7_L24 : Int32) (e0_ear_L24 : (Nat → Int32)) (e0_ear_times_L24 : (Nat → Int32)) (e0_ear_is_L24 : (Nat → Int32)) (e0_ear_js_L24 : (Nat → Int32)) (e0_ear_ways_L24 : (Nat → Int32)) (e0_ear_strengths_L24 : (Nat → Int32)) (H : Heap) (locs : List Loc) (ls : Array Slot), LPX (fX5_best_L24 c0_now c0_now_seatX c0_now_seatY c0_now_curtainX c0_now_curtainFrom c0_now_curtainTo c0_now_swallows v1_L24) n24 (v2_L24, v3_L24, v5_L24, v7_L24, e0_ear_L24, e0_ear_times_L24, e0_ear_is_L24, e0_ear_js_L24, e0_ear_ways_L24, e0_ear_strengths_L24) = some res → va_P G vwCl [o5 A0 A0_now A0_draft A0_kept A0_isKept A0_text A0_past A0_ear A0_finder, o3 A0_now c0_now A0_now_swallows A0_now_seatX A0_now_seatY A0_now_curtainX A0_now_curtainFrom A0_now_curtainTo, o0 A0_ear e0_ear_L24 A0_ear_is A0_ear_js A0_ear_ways A0_ear_times A0_ear_strengths A0_ear_deafened, (A0_now_seatX, .inl (cI, 4, .inl c0_now_seatX)), (A0_now_seatY, .inl (cI, 4, .inl c0_now_seatY)), (A0_now_curtainX, .inl (cI, 3, .inl c0_now_curtainX)), (A0_now_curtainFrom, .inl (cI, 3, .inl c0_now_curtainFrom)), (A0_now_curtainTo, .inl (cI, 3, .inl c0_now_curtainTo)), (A0_ear_times, .inl (cI, 25, .inl e0_ear_times_L24)), (A0_ear_is, .inl (cI, 25, .inl e0_ear_is_L24)), (A0_ear_js, .inl (cI, 25, .inl e0_ear_js_L24)), (A0_ear_ways, .inl (cI, 25, .inl e0_ear_ways_L24)), (A0_ear_strengths, .inl (cI, 25, .inl e0_ear_strengths_L24)), (A0_now_swallows, .inl (cI, 4, .inl c0_now_swallows))] H → va_D A [o5 A0 A0_now A0_draft A0_kept A0_isKept A0_text A0_past A0_ear A0_finder, o3 A0_now c0_now A0_now_swallows A0_now_seatX A0_now_seatY A0_now_curtainX A0_now_curtainFrom A0_now_curtainTo, o0 A0_ear e0_ear_L24 A0_ear_is A0_ear_js A0_ear_ways A0_ear_times A0_ear_strengths A0_ear_deafened, (A0_now_seatX, .inl (cI, 4, .inl c0_now_seatX)), (A0_now_seatY, .inl (cI, 4, .inl c0_now_seatY)), (A0_now_curtainX, .inl (cI, 3, .inl c0_now_curtainX)), (A0_now_curtainFrom, .inl (cI, 3, .inl c0_now_curtainFrom)), (A0_now_curtainTo, .inl (cI, 3, .inl c0_now_curtainTo)), (A0_ear_times, .inl (cI, 25, .inl e0_ear_times_L24)), (A0_ear_is, .inl (cI, 25, .inl e0_ear_is_L24)), (A0_ear_js, .inl (cI, 25, .inl e0_ear_js_L24)), (A0_ear_ways, .inl (cI, 25, .inl e0_ear_ways_L24)), (A0_ear_strengths, .inl (cI, 25, .inl e0_ear_strengths_L24)), (A0_now_swallows, .inl (cI, 4, .inl c0_now_swallows))] → va_S A s.heap H locs → lv_has ls 12 [(0, .ref A0), (1, .int v1_L24), (2, .int v2_L24), (3, .long v3_L24), (5, .long v5_L24), (7, .int v7_L24)] → WRW p l e wsX5_best rX5_best s m ([.ref A0, .int x1] : List Value).toArray below meth c H locs (Qiw res.1 G A [o5 A0 A0_now A0_draft A0_kept A0_isKept A0_text A0_past A0_ear A0_finder, o3 A0_now c0_now A0_now_swallows A0_now_seatX A0_now_seatY A0_now_curtainX A0_now_curtainFrom A0_now_curtainTo, o0 A0_ear res.2.1 A0_ear_is A0_ear_js A0_ear_ways A0_ear_times A0_ear_strengths A0_ear_deafened, (A0_now_seatX, .inl (cI, 4, .inl c0_now_seatX)), (A0_now_seatY, .inl (cI, 4, .inl c0_now_seatY)), (A0_now_curtainX, .inl (cI, 3, .inl c0_now_curtainX)), (A0_now_curtainFrom, .inl (cI, 3, .inl c0_now_curtainFrom)), (A0_now_curtainTo, .inl (cI, 3, .inl c0_now_curtainTo)), (A0_ear_times, .inl (cI, 25, .inl res.2.2.1)), (A0_ear_is, .inl (cI, 25, .inl res.2.2.2.1)), (A0_ear_js, .inl (cI, 25, .inl res.2.2.2.2.1)), (A0_ear_ways, .inl (cI, 25, .inl res.2.2.2.2.2.1)), (A0_ear_strengths, .inl (cI, 25, .inl res.2.2.2.2.2.2)), (A0_now_swallows, .inl (cI, 4, .inl c0_now_swallows))]) A (F0 m 24 ls []) := by
      intro v1_L24 n24
      induction n24 with
      | zero =>
        intro v2_L24 v3_L24 v5_L24 v7_L24 e0_ear_L24 e0_ear_times_L24 e0_ear_is_L24 e0_ear_js_L24 e0_ear_ways_L24 e0_ear_strengths_L24 H locs ls hres
        exact absurd (LPX_0.symm.trans hres) (fun h => by cases h)
      | succ n24 ih24 =>
        intro v2_L24 v3_L24 v5_L24 v7_L24 e0_ear_L24 e0_ear_times_L24 e0_ear_is_L24 e0_ear_js_L24 e0_ear_ways_L24 e0_ear_strengths_L24 H locs ls hres hP hD hS hl
        have hres := LPX_s.symm.trans hres
        refine lv_iload hx hb dX5_best_24 (lv_at hl 5 rfl) ?_
        refine lv_aload_n hx hb dX5_best_26 rfl (lv_at hl 0 rfl) ?_
        refine va_get (D := G) (ci := 5) (v := .ref A0_now) (C := RX5) (T := TX5) (N := 8) hx hb hts (fun w h => (List.mem_cons_of_mem _ (List.mem_append_left _ (List.mem_append_left _ (List.mem_append_right _ h))))) hown hK.1 hP 0 rfl rfl 0 (by decide) (hts (.fieldLink RX5 10 "EchoSeats" "now" "LEchoSeats$Scene;") (List.mem_of_getElem? (i := 1) rfl)) (fun _ h9 => h9) rfl dX5_best_27 ?_
        refine va_get (D := G) (ci := 3) (v := .int (c0_now 4)) (C := RX3) (T := TX3) (N := 12) hx hb hts (fun w h => (List.mem_cons_of_mem _ (List.mem_append_left _ (List.mem_append_right _ h)))) hown hK.1 hP 1 rfl rfl 4 (by decide) (hts (.fieldLink RX5 202 "EchoSeats$Scene" "seats" "I") (List.mem_of_getElem? (i := 2) rfl)) (fun _ h9 => h9) rfl dX5_best_30 ?_
        refine lv_icmp_ge (tgt := 109) hx hb dX5_best_33 (by decide) (fun h3 => ?_) (fun h3 => ?_)
        · have hres := ite_t hres h3
          refine lv_iload_n hx hb dX5_best_109 rfl (lv_at hl 2 rfl) ?_
          obtain rfl := Option.some.inj hres
          exact W.iret hx hb hr (fun t ht hW => ⟨⟨_, (), rfl, rfl, by rw [ht]; exact hP, hD⟩, hS.F ht⟩) hS.2.2 dX5_best_110
        · have hres := ite_f hres h3
          refine lv_aload_n hx hb dX5_best_36 rfl (lv_at hl 0 rfl) ?_
          refine va_get (D := G) (ci := 5) (v := .ref A0_ear) (C := RX5) (T := TX5) (N := 8) hx hb hts (fun w h => (List.mem_cons_of_mem _ (List.mem_append_left _ (List.mem_append_left _ (List.mem_append_right _ h))))) hown hK.1 hP 0 rfl rfl 6 (by decide) (hts (.fieldLink RX5 44 "EchoSeats" "ear" "LEchoSeats$Ear;") (List.mem_of_getElem? (i := 3) rfl)) (fun _ h9 => h9) rfl dX5_best_37 ?_
          refine lv_aload_n hx hb dX5_best_40 rfl (lv_at hl 0 rfl) ?_
          refine va_get (D := G) (ci := 5) (v := .ref A0_now) (C := RX5) (T := TX5) (N := 8) hx hb hts (fun w h => (List.mem_cons_of_mem _ (List.mem_append_left _ (List.mem_append_left _ (List.mem_append_right _ h))))) hown hK.1 hP 0 rfl rfl 0 (by decide) (hts (.fieldLink RX5 10 "EchoSeats" "now" "LEchoSeats$Scene;") (List.mem_of_getElem? (i := 1) rfl)) (fun _ h9 => h9) rfl dX5_best_41 ?_
          refine lv_iload hx hb dX5_best_44 (lv_at hl 5 rfl) ?_
          obtain ⟨r4, hr4, hres⟩ := bi_1 hres
          refine x_cv (wr := [o5 A0 A0_now A0_draft A0_kept A0_isKept A0_text A0_past A0_ear A0_finder]) (w2 := [o5 A0 A0_now A0_draft A0_kept A0_isKept A0_text A0_past A0_ear A0_finder, o3 A0_now c0_now A0_now_swallows A0_now_seatX A0_now_seatY A0_now_curtainX A0_now_curtainFrom A0_now_curtainTo, o0 A0_ear r4.1 A0_ear_is A0_ear_js A0_ear_ways A0_ear_times A0_ear_strengths A0_ear_deafened, (A0_now_seatX, .inl (cI, 4, .inl c0_now_seatX)), (A0_now_seatY, .inl (cI, 4, .inl c0_now_seatY)), (A0_now_curtainX, .inl (cI, 3, .inl c0_now_curtainX)), (A0_now_curtainFrom, .inl (cI, 3, .inl c0_now_curtainFrom)), (A0_now_curtainTo, .inl (cI, 3, .inl c0_now_curtainTo)), (A0_ear_times, .inl (cI, 25, .inl r4.2.1)), (A0_ear_is, .inl (cI, 25, .inl r4.2.2.1)), (A0_ear_js, .inl (cI, 25, .inl r4.2.2.2.1)), (A0_ear_ways, .inl (cI, 25, .inl r4.2.2.2.2.1)), (A0_ear_strengths, .inl (cI, 25, .inl r4.2.2.2.2.2)), (A0_now_swallows, .inl (cI, 4, .inl c0_now_swallows))]) hP hD hS hA (va_runV (As := [.ref A0_now, .int v7_L24]) (rest := []) ⟨hx, hb, hml, hown, hts⟩ (kX0_hearAtSeat l G cI cZ tl H.size _ A0_ear A0_ear_is A0_ear_js A0_ear_ways A0_ear_times A0_ear_strengths A0_ear_deafened A0_now A0_now_swallows A0_now_seatX A0_now_seatY A0_now_curtainX A0_now_curtainFrom A0_now_curtainTo e0_ear_L24 c0_now c0_now_seatX c0_now_seatY c0_now_curtainX c0_now_curtainFrom c0_now_curtainTo e0_ear_times_L24 e0_ear_is_L24 e0_ear_js_L24 e0_ear_ways_L24 e0_ear_strengths_L24 c0_now_swallows v7_L24 r4 rfl hr4) (cwV 2 hts gX5_best_X0_hearAtSeat rfl rfl rfl hsX0_hearAtSeat ⟨Nat.le_of_ble_eq_true rfl, Nat.le_of_ble_eq_true rfl⟩) ⟨PRW_blind, va_recv hK.1 hP (ci := 0) (q0 := 2) rfl rfl, PRW_at (hP.sub (ws' := [o0 A0_ear e0_ear_L24 A0_ear_is A0_ear_js A0_ear_ways A0_ear_times A0_ear_strengths A0_ear_deafened, o3 A0_now c0_now A0_now_swallows A0_now_seatX A0_now_seatY A0_now_curtainX A0_now_curtainFrom A0_now_curtainTo, (A0_now_seatX, .inl (cI, 4, .inl c0_now_seatX)), (A0_now_seatY, .inl (cI, 4, .inl c0_now_seatY)), (A0_now_curtainX, .inl (cI, 3, .inl c0_now_curtainX)), (A0_now_curtainFrom, .inl (cI, 3, .inl c0_now_curtainFrom)), (A0_now_curtainTo, .inl (cI, 3, .inl c0_now_curtainTo)), (A0_ear_times, .inl (cI, 25, .inl e0_ear_times_L24)), (A0_ear_is, .inl (cI, 25, .inl e0_ear_is_L24)), (A0_ear_js, .inl (cI, 25, .inl e0_ear_js_L24)), (A0_ear_ways, .inl (cI, 25, .inl e0_ear_ways_L24)), (A0_ear_strengths, .inl (cI, 25, .inl e0_ear_strengths_L24)), (A0_now_swallows, .inl (cI, 4, .inl c0_now_swallows))]) [2, 1, 3, 4, 5, 6, 7, 8, 9, 10, 11, 12, 13] rfl) (hD.sub (ws' := [o0 A0_ear e0_ear_L24 A0_ear_is A0_ear_js A0_ear_ways A0_ear_times A0_ear_strengths A0_ear_deafened, o3 A0_now c0_now A0_now_swallows A0_now_seatX A0_now_seatY A0_now_curtainX A0_now_curtainFrom A0_now_curtainTo, (A0_now_seatX, .inl (cI, 4, .inl c0_now_seatX)), (A0_now_seatY, .inl (cI, 4, .inl c0_now_seatY)), (A0_now_curtainX, .inl (cI, 3, .inl c0_now_curtainX)), (A0_now_curtainFrom, .inl (cI, 3, .inl c0_now_curtainFrom)), (A0_now_curtainTo, .inl (cI, 3, .inl c0_now_curtainTo)), (A0_ear_times, .inl (cI, 25, .inl e0_ear_times_L24)), (A0_ear_is, .inl (cI, 25, .inl e0_ear_is_L24)), (A0_ear_js, .inl (cI, 25, .inl e0_ear_js_L24)), (A0_ear_ways, .inl (cI, 25, .inl e0_ear_ways_L24)), (A0_ear_strengths, .inl (cI, 25, .inl e0_ear_strengths_L24)), (A0_now_swallows, .inl (cI, 4, .inl c0_now_swallows))]) [2, 1, 3, 4, 5, 6, 7, 8, 9, 10, 11, 12, 13] (by decide) rfl) hK⟩ rfl rfl hl.1 rfl (lv_room (Nat.le_of_ble_eq_true rfl)) dX5_best_46 ⟨Nat.zero_le _, Nat.zero_le _⟩) [2, 1, 3, 4, 5, 6, 7, 8, 9, 10, 11, 12, 13] [0] [0, 2, 1, 3, 4, 5, 6, 7, 8, 9, 10, 11, 12, 13] rfl rfl (by decide) (by decide) rfl rfl (by decide) (fun H locs hP hD hS => ?_)
          refine lv_aload_n hx hb dX5_best_49 rfl (lv_at hl 0 rfl) ?_
          refine va_get (D := G) (ci := 5) (v := .ref A0_ear) (C := RX5) (T := TX5) (N := 8) hx hb hts (fun w h => (List.mem_cons_of_mem _ (List.mem_append_left _ (List.mem_append_left _ (List.mem_append_right _ h))))) hown hK.1 hP 0 rfl rfl 6 (by decide) (hts (.fieldLink RX5 44 "EchoSeats" "ear" "LEchoSeats$Ear;") (List.mem_of_getElem? (i := 3) rfl)) (fun _ h9 => h9) rfl dX5_best_50 ?_
          refine lv_iload_n hx hb dX5_best_53 rfl (lv_at hl 1 rfl) ?_
          obtain ⟨r5, hr5, hres⟩ := bi_1 hres
          refine x_cp (va_runV (As := [.int v1_L24]) (rest := []) ⟨hx, hb, hml, hown, hts⟩ (kX0_strengthUpTo l G cI cZ tl A0_ear A0_ear_is A0_ear_js A0_ear_ways A0_ear_times A0_ear_strengths A0_ear_deafened r4.1 r4.2.1 r4.2.2.2.2.2 v1_L24 r5 hr5) (cwV 1 hts gX5_best_X0_strengthUpTo rfl rfl rfl hsX0_strengthUpTo ⟨Nat.le_of_ble_eq_true rfl, Nat.le_of_ble_eq_true rfl⟩) ⟨PRO_blind, va_recv hK.1 hP (ci := 0) (q0 := 2) rfl rfl, PRO_at (hP.sub (ws' := [o0 A0_ear r4.1 A0_ear_is A0_ear_js A0_ear_ways A0_ear_times A0_ear_strengths A0_ear_deafened, (A0_ear_times, .inl (cI, 25, .inl r4.2.1)), (A0_ear_strengths, .inl (cI, 25, .inl r4.2.2.2.2.2))]) [2, 8, 12] rfl) hK⟩ rfl rfl hl.1 rfl (lv_room (Nat.le_of_ble_eq_true rfl)) dX5_best_54 ⟨Nat.zero_le _, Nat.zero_le _⟩) ?_
          refine lv_i2l (v := (Int32.toInt64 r5)) hx hb dX5_best_57 rfl ?_
          refine lv_topl (fun y6 ey6 => ?_)
          have hres := bnd_z ey6 hres
          refine lv_lstore (lv' := [(8, .long y6), (0, .ref A0), (1, .int v1_L24), (2, .int v2_L24), (3, .long v3_L24), (5, .long v5_L24), (7, .int v7_L24)]) hx hb dX5_best_58 hl (by decide) rfl (fun ls hl => ?_)
          refine lv_iconst (v := 1) hx hb dX5_best_60 (by decide) ?_
          refine lv_aload_n hx hb dX5_best_61 rfl (lv_at hl 1 rfl) ?_
          refine va_get (D := G) (ci := 5) (v := .ref A0_ear) (C := RX5) (T := TX5) (N := 8) hx hb hts (fun w h => (List.mem_cons_of_mem _ (List.mem_append_left _ (List.mem_append_left _ (List.mem_append_right _ h))))) hown hK.1 hP 0 rfl rfl 6 (by decide) (hts (.fieldLink RX5 44 "EchoSeats" "ear" "LEchoSeats$Ear;") (List.mem_of_getElem? (i := 3) rfl)) (fun _ h9 => h9) rfl dX5_best_62 ?_
          refine va_get (D := G) (ci := 0) (v := .int (r4.1 7)) (C := RX0) (T := TX0) (N := 8) hx hb hts (fun w h => (List.mem_cons_of_mem _ (List.mem_append_right _ h))) hown hK.1 hP 2 rfl rfl 7 (by decide) (hts (.fieldLink RX5 186 "EchoSeats$Ear" "total" "I") (List.mem_of_getElem? (i := 4) rfl)) (fun _ h9 => h9) rfl dX5_best_65 ?_
          refine va_mmax hx hb (hml.trans hl.1.symm) hown (hts (.methodLink RX5 205 Lib.Math.max.name) (List.mem_of_getElem? (i := 5) rfl)) (hts (.static Lib.Math.max.name) (List.mem_of_getElem? (i := 6) rfl)) (hts (.initialized "java/lang/Math") (List.mem_of_getElem? (i := 7) rfl)) (hts (.code Lib.Math.max.name Lib.Math.max.code 2 (some .int)) (List.mem_of_getElem? (i := 8) rfl)) (Nat.le_of_ble_eq_true rfl) (Nat.le_of_ble_eq_true rfl) (Nat.zero_le _) (Nat.zero_le _) dX5_best_68 ?_
          refine lv_i2l (v := (Int32.toInt64 (if 1 < (r4.1 7) then (r4.1 7) else 1))) hx hb dX5_best_71 rfl ?_
          refine lv_topl (fun y7 ey7 => ?_)
          have hres := bnd_z ey7 hres
          refine lv_lstore (lv' := [(10, .long y7), (8, .long y6), (0, .ref A0), (1, .int v1_L24), (2, .int v2_L24), (3, .long v3_L24), (5, .long v5_L24), (7, .int v7_L24)]) hx hb dX5_best_72 hl (by decide) rfl (fun ls hl => ?_)
          refine lv_iload_n hx hb dX5_best_74 rfl (lv_at hl 4 rfl) ?_
          refine lv_bipush (v := (-9)) hx hb dX5_best_75 (by decide) ?_
          refine lv_icmp_eq (tgt := 93) hx hb dX5_best_77 (by decide) (fun h8 => ?_) (fun h8 => ?_)
          · have hres := ite_t hres h8
            refine lv_iload hx hb dX5_best_93 (lv_at hl 7 rfl) ?_
            refine lv_istore_n (lv' := [(2, .int v7_L24), (10, .long y7), (8, .long y6), (0, .ref A0), (1, .int v1_L24), (3, .long v3_L24), (5, .long v5_L24), (7, .int v7_L24)]) hx hb dX5_best_95 rfl hl (by decide) rfl (fun ls hl => ?_)
            refine lv_lload hx hb dX5_best_96 (lv_at hl 2 rfl) ?_
            refine lv_lstore_n (lv' := [(3, .long y6), (2, .int v7_L24), (10, .long y7), (8, .long y6), (0, .ref A0), (1, .int v1_L24), (5, .long v5_L24), (7, .int v7_L24)]) hx hb dX5_best_98 rfl hl (by decide) rfl (fun ls hl => ?_)
            refine lv_lload hx hb dX5_best_99 (lv_at hl 2 rfl) ?_
            refine lv_lstore (lv' := [(5, .long y7), (3, .long y6), (2, .int v7_L24), (10, .long y7), (8, .long y6), (0, .ref A0), (1, .int v1_L24), (7, .int v7_L24)]) hx hb dX5_best_101 hl (by decide) rfl (fun ls hl => ?_)
            refine lv_iinc (v := (v7_L24 + 1)) (lv' := [(7, .int (v7_L24 + 1)), (5, .long y7), (3, .long y6), (2, .int v7_L24), (10, .long y7), (8, .long y6), (0, .ref A0), (1, .int v1_L24)]) hx hb dX5_best_103 hl (k := 7) rfl rfl (by decide) rfl (fun ls hl => ?_)
            refine lv_goto (tgt := 24) hx hb dX5_best_106 (by decide) ?_
            exact ih24 v7_L24 y6 y7 (v7_L24 + 1) r4.1 r4.2.1 r4.2.2.1 r4.2.2.2.1 r4.2.2.2.2.1 r4.2.2.2.2.2 _ _ _ hres hP hD hS (lv_sub hl [6, 7, 3, 2, 1, 0] rfl)
          · have hres := ite_f hres h8
            refine lv_lload hx hb dX5_best_80 (lv_at hl 1 rfl) ?_
            refine lv_lload hx hb dX5_best_82 (lv_at hl 6 rfl) ?_
            refine lv_lmul hx hb dX5_best_84 ?_
            refine lv_lload_n hx hb dX5_best_85 rfl (lv_at hl 5 rfl) ?_
            refine lv_lload hx hb dX5_best_86 (lv_at hl 0 rfl) ?_
            refine lv_lmul hx hb dX5_best_88 ?_
            refine W.lcmp hx hb dX5_best_89 ?_
            refine lv_if_le (tgt := 103) hx hb dX5_best_90 (by decide) (fun h9 => ?_) (fun h9 => ?_)
            · have hres := ite_t hres h9
              refine lv_iinc (v := (v7_L24 + 1)) (lv' := [(7, .int (v7_L24 + 1)), (10, .long y7), (8, .long y6), (0, .ref A0), (1, .int v1_L24), (2, .int v2_L24), (3, .long v3_L24), (5, .long v5_L24)]) hx hb dX5_best_103 hl (k := 7) rfl rfl (by decide) rfl (fun ls hl => ?_)
              refine lv_goto (tgt := 24) hx hb dX5_best_106 (by decide) ?_
              exact ih24 v2_L24 v3_L24 v5_L24 (v7_L24 + 1) r4.1 r4.2.1 r4.2.2.1 r4.2.2.2.1 r4.2.2.2.2.1 r4.2.2.2.2.2 _ _ _ hres hP hD hS (lv_sub hl [3, 4, 5, 6, 7, 0] rfl)
            · have hres := ite_f hres h9
              refine lv_iload hx hb dX5_best_93 (lv_at hl 7 rfl) ?_
              refine lv_istore_n (lv' := [(2, .int v7_L24), (10, .long y7), (8, .long y6), (0, .ref A0), (1, .int v1_L24), (3, .long v3_L24), (5, .long v5_L24), (7, .int v7_L24)]) hx hb dX5_best_95 rfl hl (by decide) rfl (fun ls hl => ?_)
              refine lv_lload hx hb dX5_best_96 (lv_at hl 2 rfl) ?_
              refine lv_lstore_n (lv' := [(3, .long y6), (2, .int v7_L24), (10, .long y7), (8, .long y6), (0, .ref A0), (1, .int v1_L24), (5, .long v5_L24), (7, .int v7_L24)]) hx hb dX5_best_98 rfl hl (by decide) rfl (fun ls hl => ?_)
              refine lv_lload hx hb dX5_best_99 (lv_at hl 2 rfl) ?_
              refine lv_lstore (lv' := [(5, .long y7), (3, .long y6), (2, .int v7_L24), (10, .long y7), (8, .long y6), (0, .ref A0), (1, .int v1_L24), (7, .int v7_L24)]) hx hb dX5_best_101 hl (by decide) rfl (fun ls hl => ?_)
              refine lv_iinc (v := (v7_L24 + 1)) (lv' := [(7, .int (v7_L24 + 1)), (5, .long y7), (3, .long y6), (2, .int v7_L24), (10, .long y7), (8, .long y6), (0, .ref A0), (1, .int v1_L24)]) hx hb dX5_best_103 hl (k := 7) rfl rfl (by decide) rfl (fun ls hl => ?_)
              refine lv_goto (tgt := 24) hx hb dX5_best_106 (by decide) ?_
              exact ih24 v7_L24 y6 y7 (v7_L24 + 1) r4.1 r4.2.1 r4.2.2.1 r4.2.2.2.1 r4.2.2.2.2.1 r4.2.2.2.2.2 _ _ _ hres hP hD hS (lv_sub hl [6, 7, 3, 2, 1, 0] rfl)
    exact Q24 x1 FU (-9) 0 1 0 c0_ear c0_ear_times c0_ear_is c0_ear_js c0_ear_ways c0_ear_strengths _ _ _ hres hP hD hS (lv_sub hl [4, 5, 3, 2, 1, 0] rfl)
  · have hres := ite_t hres h2
    refine lv_iconst (v := (-1)) hx hb dX5_best_11 (by decide) ?_
    obtain rfl := Option.some.inj hres
    exact W.iret hx hb hr (fun t ht hW => ⟨⟨_, (), rfl, rfl, by rw [ht]; exact hP, hD⟩, hS.F ht⟩) hS.2.2 dX5_best_12
theorem hsX5_best : yX5_best.cls = RX5 ∧ yX5_best.cls ≠ "java/lang/invoke/MethodHandle" ∧ yX5_best.cls ≠ "java/lang/invoke/VarHandle" ∧ (parseMethodDescriptor yX5_best.desc).map (fun d => d.parameters.length) = some 1 := by decide +kernel
set_option maxHeartbeats 4000000 in
set_option maxRecDepth 100000 in
theorem kX5_chanceOf (l : Launch) (G : va_G) (cI cZ : ClassId) (tl : List (ClassId × FieldType)) (x0 x1 : Int32) (res : Int32) (hres : fX5_chanceOf x0 x1 = some res) : Met l yX5_chanceOf wsX5_chanceOf rX5_chanceOf (va_Pc [.int x0, .int x1] (PRO G cI cZ tl [])) (Sp res) 0 0 (fun _ => False) := by
  refine Met.ofW (cc := cX5_chanceOf) (maxL := 4) (ret := (some .int)) (by decide) rfl ?_
  intro p e s m args below meth c s₁ B hml hv
  obtain ⟨rfl, hP, hK⟩ := hv
  have hx := B.exec
  have hb := B.bytes
  have hr := B.returns
  have hts := atoms_spec (ws := wsX5_chanceOf) B.pre
  have hown : s.vm.findClass RX5 = some m.cls := findClass_of_methodNamed B.named
  have hlocks := B.notSynchronized
  have hl := lv_entry ([.int x0, .int x1] : List Value) (n := 4) (Nat.le_of_ble_eq_true rfl)
  rw [lg_entry_eq]
  generalize (lg_sl ([.int x0, .int x1] : List Value) ++ List.replicate (4 - (lg_sl ([.int x0, .int x1] : List Value)).length) Slot.unset).toArray = ls at hl ⊢
  have hl : lv_has ls 4 [(0, .int x0), (1, .int x1)] := hl
  refine lv_iconst (v := 1) hx hb dX5_chanceOf_0 (by decide) ?_
  refine lv_istore_n (lv' := [(2, .int 1), (0, .int x0), (1, .int x1)]) hx hb dX5_chanceOf_1 rfl hl (by decide) rfl (fun ls hl => ?_)
  refine lv_iconst (v := 0) hx hb dX5_chanceOf_2 (by decide) ?_
  refine lv_istore_n (lv' := [(3, .int 0), (2, .int 1), (0, .int x0), (1, .int x1)]) hx hb dX5_chanceOf_3 rfl hl (by decide) rfl (fun ls hl => ?_)
  have Q4 : ∀ (v0_L4 : Int32) (v1_L4 : Int32) (n4 : Nat) (v2_L4 : Int32) (v3_L4 : Int32) (ls : Array Slot), LPX (fX5_chanceOf_L4 v0_L4 v1_L4) n4 (v2_L4, v3_L4) = some res → lv_has ls 4 [(0, .int v0_L4), (1, .int v1_L4), (2, .int v2_L4), (3, .int v3_L4)] → WRO p l e wsX5_chanceOf rX5_chanceOf s m ([.int x0, .int x1] : List Value).toArray below meth c res (F0 m 4 ls []) := by
    intro v0_L4 v1_L4 n4
    induction n4 with
    | zero =>
      intro v2_L4 v3_L4 ls hres
      exact absurd (LPX_0.symm.trans hres) (fun h => by cases h)
    | succ n4 ih4 =>
      intro v2_L4 v3_L4 ls hres hl
      have hres := LPX_s.symm.trans hres
      refine lv_iload_n hx hb dX5_chanceOf_4 rfl (lv_at hl 3 rfl) ?_
      refine lv_iconst (v := 3) hx hb dX5_chanceOf_5 (by decide) ?_
      refine lv_icmp_gt (tgt := 35) hx hb dX5_chanceOf_6 (by decide) (fun h1 => ?_) (fun h1 => ?_)
      · have hres := ite_t hres h1
        refine lv_iload_n hx hb dX5_chanceOf_35 rfl (lv_at hl 2 rfl) ?_
        obtain rfl := Option.some.inj hres
        exact W.iret hx hb hr (fun t ht hW => ⟨rfl, ht⟩) (fun q h => absurd h List.not_mem_nil) dX5_chanceOf_36
      · have hres := ite_f hres h1
        refine lv_iload_n hx hb dX5_chanceOf_9 rfl (lv_at hl 2 rfl) ?_
        refine lv_iload_n hx hb dX5_chanceOf_10 rfl (lv_at hl 0 rfl) ?_
        refine lv_iload_n hx hb dX5_chanceOf_11 rfl (lv_at hl 3 rfl) ?_
        refine lv_ishr hx hb dX5_chanceOf_12 ?_
        refine lv_iconst (v := 1) hx hb dX5_chanceOf_13 (by decide) ?_
        refine lv_iand hx hb dX5_chanceOf_14 ?_
        refine lv_iconst (v := 1) hx hb dX5_chanceOf_15 (by decide) ?_
        refine lv_icmp_ne (tgt := 23) hx hb dX5_chanceOf_16 (by decide) (fun h2 => ?_) (fun h2 => ?_)
        · have hres := ite_f hres h2
          refine lv_bipush (v := 10) hx hb dX5_chanceOf_23 (by decide) ?_
          refine lv_iload_n hx hb dX5_chanceOf_25 rfl (lv_at hl 1 rfl) ?_
          refine lv_isub hx hb dX5_chanceOf_26 ?_
          refine lv_imul hx hb dX5_chanceOf_27 ?_
          refine lv_topi (fun y3 ey3 => ?_)
          have hres := bnd_z ey3 hres
          refine lv_istore_n (lv' := [(2, .int y3), (0, .int v0_L4), (1, .int v1_L4), (3, .int v3_L4)]) hx hb dX5_chanceOf_28 rfl hl (by decide) rfl (fun ls hl => ?_)
          refine lv_iinc (v := (v3_L4 + 1)) (lv' := [(3, .int (v3_L4 + 1)), (2, .int y3), (0, .int v0_L4), (1, .int v1_L4)]) hx hb dX5_chanceOf_29 hl (k := 3) rfl rfl (by decide) rfl (fun ls hl => ?_)
          refine lv_goto (tgt := 4) hx hb dX5_chanceOf_32 (by decide) ?_
          exact ih4 y3 (v3_L4 + 1) _ hres (lv_sub hl [2, 3, 1, 0] rfl)
        · have hres := ite_t hres h2
          refine lv_iload_n hx hb dX5_chanceOf_19 rfl (lv_at hl 1 rfl) ?_
          refine lv_goto (tgt := 27) hx hb dX5_chanceOf_20 (by decide) ?_
          refine lv_imul hx hb dX5_chanceOf_27 ?_
          refine lv_topi (fun y4 ey4 => ?_)
          have hres := bnd_z ey4 hres
          refine lv_istore_n (lv' := [(2, .int y4), (0, .int v0_L4), (1, .int v1_L4), (3, .int v3_L4)]) hx hb dX5_chanceOf_28 rfl hl (by decide) rfl (fun ls hl => ?_)
          refine lv_iinc (v := (v3_L4 + 1)) (lv' := [(3, .int (v3_L4 + 1)), (2, .int y4), (0, .int v0_L4), (1, .int v1_L4)]) hx hb dX5_chanceOf_29 hl (k := 3) rfl rfl (by decide) rfl (fun ls hl => ?_)
          refine lv_goto (tgt := 4) hx hb dX5_chanceOf_32 (by decide) ?_
          exact ih4 y4 (v3_L4 + 1) _ hres (lv_sub hl [2, 3, 1, 0] rfl)
  exact Q4 x0 x1 FU 1 0 _ hres (lv_sub hl [2, 3, 1, 0] rfl)
theorem hsX5_chanceOf : yX5_chanceOf.cls ≠ "java/lang/invoke/MethodHandle" ∧ yX5_chanceOf.cls ≠ "java/lang/invoke/VarHandle" ∧ (parseMethodDescriptor yX5_chanceOf.desc).map (fun d => d.parameters.length) = some 2 := by decide +kernel
set_option maxHeartbeats 4000000 in
set_option maxRecDepth 100000 in
theorem kX5_clear (l : Launch) (G : va_G) (cI cZ : ClassId) (tl : List (ClassId × FieldType)) (sz : Nat) (A : Nat → Prop) (A0 A0_now A0_draft A0_kept A0_isKept A0_text A0_past A0_ear A0_finder A0_text_letters : Nat) (c0_text : Nat → Int32) (res : Int32 × (Nat → Int32)) (hAe : A = va_A [o5 A0 A0_now A0_draft A0_kept A0_isKept A0_text A0_past A0_ear A0_finder, o4 A0_text c0_text A0_text_letters] sz) (hres : fX5_clear c0_text = some res) : Met l yX5_clear wsX5_clear rX5_clear (va_Pc [.ref A0] (PRW G cI cZ tl [o5 A0 A0_now A0_draft A0_kept A0_isKept A0_text A0_past A0_ear A0_finder, o4 A0_text c0_text A0_text_letters] sz)) (Qiw res.1 G A [o5 A0 A0_now A0_draft A0_kept A0_isKept A0_text A0_past A0_ear A0_finder, o4 A0_text res.2 A0_text_letters]) 0 0 A := by
  refine Met.ofW (cc := cX5_clear) (maxL := 2) (ret := (some .int)) (by decide) rfl ?_
  intro p e s m args below meth c s₁ B hml hv
  obtain ⟨rfl, hsz, hP, hK, hD0⟩ := hv
  have hx := B.exec
  have hb := B.bytes
  have hr := B.returns
  have hts := atoms_spec (ws := wsX5_clear) B.pre
  have hown : s.vm.findClass RX5 = some m.cls := findClass_of_methodNamed B.named
  have hlocks := B.notSynchronized
  subst hsz
  have hD : va_D A [o5 A0 A0_now A0_draft A0_kept A0_isKept A0_text A0_past A0_ear A0_finder, o4 A0_text c0_text A0_text_letters] := by rw [hAe]; exact hD0.self
  have hA : ∀ q : Nat, s.heap.size ≤ q → A q := fun q h => by rw [hAe]; exact Or.inr h
  clear hAe hD0
  have hS : va_S A s.heap s.heap [] := va_S.rf
  have hl := lv_entry ([.ref A0] : List Value) (n := 2) (Nat.le_of_ble_eq_true rfl)
  rw [lg_entry_eq]
  generalize (lg_sl ([.ref A0] : List Value) ++ List.replicate (2 - (lg_sl ([.ref A0] : List Value)).length) Slot.unset).toArray = ls at hl ⊢
  have hl : lv_has ls 2 [(0, .ref A0)] := hl
  refine lv_aload_n hx hb dX5_clear_0 rfl (lv_at hl 0 rfl) ?_
  refine va_get (D := G) (ci := 5) (v := .ref A0_text) (C := RX5) (T := TX5) (N := 8) hx hb hts (fun w h => (List.mem_cons_of_mem _ (List.mem_append_left _ (List.mem_append_right _ h)))) hown hK.1 hP 0 rfl rfl 4 (by decide) (hts (.fieldLink RX5 30 "EchoSeats" "text" "LEchoSeats$Text;") (List.mem_of_getElem? (i := 1) rfl)) (fun _ h9 => h9) rfl dX5_clear_1 ?_
  refine va_get (D := G) (ci := 4) (v := .int (c0_text 1)) (C := RX4) (T := TX4) (N := 6) hx hb hts (fun w h => (List.mem_cons_of_mem _ (List.mem_append_right _ h))) hown hK.1 hP 1 rfl rfl 1 (by decide) (hts (.fieldLink RX5 63 "EchoSeats$Text" "size" "I") (List.mem_of_getElem? (i := 2) rfl)) (fun _ h9 => h9) rfl dX5_clear_4 ?_
  refine lv_topi (fun y1 ey1 => ?_)
  have hres := bnd_z ey1 hres
  refine lv_istore_n (lv' := [(1, .int y1), (0, .ref A0)]) hx hb dX5_clear_7 rfl hl (by decide) rfl (fun ls hl => ?_)
  refine lv_aload_n hx hb dX5_clear_8 rfl (lv_at hl 1 rfl) ?_
  refine va_get (D := G) (ci := 5) (v := .ref A0_text) (C := RX5) (T := TX5) (N := 8) hx hb hts (fun w h => (List.mem_cons_of_mem _ (List.mem_append_left _ (List.mem_append_right _ h)))) hown hK.1 hP 0 rfl rfl 4 (by decide) (hts (.fieldLink RX5 30 "EchoSeats" "text" "LEchoSeats$Text;") (List.mem_of_getElem? (i := 1) rfl)) (fun _ h9 => h9) rfl dX5_clear_9 ?_
  refine lv_iconst (v := 0) hx hb dX5_clear_12 (by decide) ?_
  refine va_put (D := G) (ci := 4) (v := .int 0) (ty := .int) (C := RX4) (T := TX4) (N := 6) hx hb hts (fun w h => (List.mem_cons_of_mem _ (List.mem_append_right _ h))) tyX4 tyX4_ok nmX4 hown hK.1 hP hD hS 1 rfl rfl 1 (by decide) (hts (.fieldLink RX5 63 "EchoSeats$Text" "size" "I") (List.mem_of_getElem? (i := 2) rfl)) (fun _ h9 => h9) rfl (tyX4_ok 1 (by decide)) rfl rfl (Nat.le_of_ble_eq_true rfl) dX5_clear_13 (fun H locs hP hD hS => ?_)
  have hP : va_P G vwCl [o5 A0 A0_now A0_draft A0_kept A0_isKept A0_text A0_past A0_ear A0_finder, o4 A0_text (upd c0_text 1 0) A0_text_letters] H := hP
  have hD : va_D A [o5 A0 A0_now A0_draft A0_kept A0_isKept A0_text A0_past A0_ear A0_finder, o4 A0_text (upd c0_text 1 0) A0_text_letters] := hD
  refine lv_iload_n hx hb dX5_clear_16 rfl (lv_at hl 0 rfl) ?_
  obtain rfl := Option.some.inj hres
  exact W.iret hx hb hr (fun t ht hW => ⟨⟨_, (), rfl, rfl, by rw [ht]; exact hP, hD⟩, hS.F ht⟩) hS.2.2 dX5_clear_17
theorem hsX5_clear : yX5_clear.cls = RX5 ∧ yX5_clear.cls ≠ "java/lang/invoke/MethodHandle" ∧ yX5_clear.cls ≠ "java/lang/invoke/VarHandle" ∧ (parseMethodDescriptor yX5_clear.desc).map (fun d => d.parameters.length) = some 0 := by decide +kernel
set_option maxHeartbeats 4000000 in
set_option maxRecDepth 100000 in
theorem kX5_commonDivisor (l : Launch) (G : va_G) (cI cZ : ClassId) (tl : List (ClassId × FieldType)) (x0 x1 : Int32) (res : Int32) (hres : fX5_commonDivisor x0 x1 = some res) : Met l yX5_commonDivisor wsX5_commonDivisor rX5_commonDivisor (va_Pc [.int x0, .int x1] (PRO G cI cZ tl [])) (Sp res) 0 0 (fun _ => False) := by
  refine Met.ofW (cc := cX5_commonDivisor) (maxL := 6) (ret := (some .int)) (by decide) rfl ?_
  intro p e s m args below meth c s₁ B hml hv
  obtain ⟨rfl, hP, hK⟩ := hv
  have hx := B.exec
  have hb := B.bytes
  have hr := B.returns
  have hts := atoms_spec (ws := wsX5_commonDivisor) B.pre
  have hown : s.vm.findClass RX5 = some m.cls := findClass_of_methodNamed B.named
  have hlocks := B.notSynchronized
  have hl := lv_entry ([.int x0, .int x1] : List Value) (n := 6) (Nat.le_of_ble_eq_true rfl)
  rw [lg_entry_eq]
  generalize (lg_sl ([.int x0, .int x1] : List Value) ++ List.replicate (6 - (lg_sl ([.int x0, .int x1] : List Value)).length) Slot.unset).toArray = ls at hl ⊢
  have hl : lv_has ls 6 [(0, .int x0), (1, .int x1)] := hl
  refine lv_iload_n hx hb dX5_commonDivisor_0 rfl (lv_at hl 0 rfl) ?_
  refine lv_istore_n (lv' := [(2, .int x0), (0, .int x0), (1, .int x1)]) hx hb dX5_commonDivisor_1 rfl hl (by decide) rfl (fun ls hl => ?_)
  refine lv_iload_n hx hb dX5_commonDivisor_2 rfl (lv_at hl 2 rfl) ?_
  refine lv_istore_n (lv' := [(3, .int x1), (2, .int x0), (0, .int x0), (1, .int x1)]) hx hb dX5_commonDivisor_3 rfl hl (by decide) rfl (fun ls hl => ?_)
  refine lv_iconst (v := 0) hx hb dX5_commonDivisor_4 (by decide) ?_
  refine lv_istore (lv' := [(4, .int 0), (3, .int x1), (2, .int x0), (0, .int x0), (1, .int x1)]) hx hb dX5_commonDivisor_5 hl (by decide) rfl (fun ls hl => ?_)
  have Q7 : ∀ (n7 : Nat) (v2_L7 : Int32) (v3_L7 : Int32) (v4_L7 : Int32) (ls : Array Slot), LPX (fX5_commonDivisor_L7) n7 (v2_L7, v3_L7, v4_L7) = some res → lv_has ls 6 [(2, .int v2_L7), (3, .int v3_L7), (4, .int v4_L7)] → WRO p l e wsX5_commonDivisor rX5_commonDivisor s m ([.int x0, .int x1] : List Value).toArray below meth c res (F0 m 7 ls []) := by
    intro n7
    induction n7 with
    | zero =>
      intro v2_L7 v3_L7 v4_L7 ls hres
      exact absurd (LPX_0.symm.trans hres) (fun h => by cases h)
    | succ n7 ih7 =>
      intro v2_L7 v3_L7 v4_L7 ls hres hl
      have hres := LPX_s.symm.trans hres
      refine lv_iload hx hb dX5_commonDivisor_7 (lv_at hl 2 rfl) ?_
      refine lv_bipush (v := 64) hx hb dX5_commonDivisor_9 (by decide) ?_
      refine lv_icmp_ge (tgt := 34) hx hb dX5_commonDivisor_11 (by decide) (fun h1 => ?_) (fun h1 => ?_)
      · have hres := ite_t hres h1
        refine lv_iload_n hx hb dX5_commonDivisor_34 rfl (lv_at hl 0 rfl) ?_
        obtain rfl := Option.some.inj hres
        exact W.iret hx hb hr (fun t ht hW => ⟨rfl, ht⟩) (fun q h => absurd h List.not_mem_nil) dX5_commonDivisor_35
      · have hres := ite_f hres h1
        refine lv_iload_n hx hb dX5_commonDivisor_14 rfl (lv_at hl 1 rfl) ?_
        refine lv_if_eq (tgt := 34) hx hb dX5_commonDivisor_15 (by decide) (fun h2 => ?_) (fun h2 => ?_)
        · have hres := ite_t hres h2
          refine lv_iload_n hx hb dX5_commonDivisor_34 rfl (lv_at hl 0 rfl) ?_
          obtain rfl := Option.some.inj hres
          exact W.iret hx hb hr (fun t ht hW => ⟨rfl, ht⟩) (fun q h => absurd h List.not_mem_nil) dX5_commonDivisor_35
        · have hres := ite_f hres h2
          refine lv_iload_n hx hb dX5_commonDivisor_18 rfl (lv_at hl 0 rfl) ?_
          refine lv_iload_n hx hb dX5_commonDivisor_19 rfl (lv_at hl 1 rfl) ?_
          have g3 := gd_1 hres
          have hres := gd_2 hres
          refine lv_irem hx hb dX5_commonDivisor_20 g3 ?_
          refine lv_topi (fun y4 ey4 => ?_)
          have hres := bnd_z ey4 hres
          refine lv_istore (lv' := [(5, .int y4), (2, .int v2_L7), (3, .int v3_L7), (4, .int v4_L7)]) hx hb dX5_commonDivisor_21 hl (by decide) rfl (fun ls hl => ?_)
          refine lv_iload_n hx hb dX5_commonDivisor_23 rfl (lv_at hl 2 rfl) ?_
          refine lv_istore_n (lv' := [(2, .int v3_L7), (5, .int y4), (3, .int v3_L7), (4, .int v4_L7)]) hx hb dX5_commonDivisor_24 rfl hl (by decide) rfl (fun ls hl => ?_)
          refine lv_iload hx hb dX5_commonDivisor_25 (lv_at hl 1 rfl) ?_
          refine lv_istore_n (lv' := [(3, .int y4), (2, .int v3_L7), (5, .int y4), (4, .int v4_L7)]) hx hb dX5_commonDivisor_27 rfl hl (by decide) rfl (fun ls hl => ?_)
          refine lv_iinc (v := (v4_L7 + 1)) (lv' := [(4, .int (v4_L7 + 1)), (3, .int y4), (2, .int v3_L7), (5, .int y4)]) hx hb dX5_commonDivisor_28 hl (k := 3) rfl rfl (by decide) rfl (fun ls hl => ?_)
          refine lv_goto (tgt := 7) hx hb dX5_commonDivisor_31 (by decide) ?_
          exact ih7 v3_L7 y4 (v4_L7 + 1) _ hres (lv_sub hl [2, 1, 0] rfl)
  exact Q7 FU x0 x1 0 _ hres (lv_sub hl [2, 1, 0] rfl)
theorem hsX5_commonDivisor : yX5_commonDivisor.cls ≠ "java/lang/invoke/MethodHandle" ∧ yX5_commonDivisor.cls ≠ "java/lang/invoke/VarHandle" ∧ (parseMethodDescriptor yX5_commonDivisor.desc).map (fun d => d.parameters.length) = some 2 := by decide +kernel
set_option maxHeartbeats 4000000 in
set_option maxRecDepth 100000 in
theorem kX5_count (l : Launch) (G : va_G) (cI cZ : ClassId) (tl : List (ClassId × FieldType)) (A0 A0_now A0_draft A0_kept A0_isKept A0_text A0_past A0_ear A0_finder A0_past_kinds A0_past_which A0_past_firsts A0_past_seconds A0_text_letters A0_finder_is A0_finder_js A0_finder_times A0_finder_placeX A0_finder_placeY A0_finder_toldBy A0_now_swallows A0_now_seatX A0_now_seatY A0_now_curtainX A0_now_curtainFrom A0_now_curtainTo : Nat) (c0_past c0_text c0_finder c0_now : Nat → Int32) (x1 : Int32) (res : Int32) (hres : fX5_count c0_past c0_text c0_finder c0_now x1 = some res) : Met l yX5_count wsX5_count rX5_count (va_Pc [.ref A0, .int x1] (PRO G cI cZ tl [o5 A0 A0_now A0_draft A0_kept A0_isKept A0_text A0_past A0_ear A0_finder, o2 A0_past c0_past A0_past_kinds A0_past_which A0_past_firsts A0_past_seconds, o4 A0_text c0_text A0_text_letters, o1 A0_finder c0_finder A0_finder_is A0_finder_js A0_finder_times A0_finder_placeX A0_finder_placeY A0_finder_toldBy, o3 A0_now c0_now A0_now_swallows A0_now_seatX A0_now_seatY A0_now_curtainX A0_now_curtainFrom A0_now_curtainTo])) (Sp res) 0 0 (fun _ => False) := by
  refine Met.ofW (cc := cX5_count) (maxL := 2) (ret := (some .int)) (by decide) rfl ?_
  intro p e s m args below meth c s₁ B hml hv
  obtain ⟨rfl, hP, hK⟩ := hv
  have hx := B.exec
  have hb := B.bytes
  have hr := B.returns
  have hts := atoms_spec (ws := wsX5_count) B.pre
  have hown : s.vm.findClass RX5 = some m.cls := findClass_of_methodNamed B.named
  have hlocks := B.notSynchronized
  have hl := lv_entry ([.ref A0, .int x1] : List Value) (n := 2) (Nat.le_of_ble_eq_true rfl)
  rw [lg_entry_eq]
  generalize (lg_sl ([.ref A0, .int x1] : List Value) ++ List.replicate (2 - (lg_sl ([.ref A0, .int x1] : List Value)).length) Slot.unset).toArray = ls at hl ⊢
  have hl : lv_has ls 2 [(0, .ref A0), (1, .int x1)] := hl
  refine lv_iload_n hx hb dX5_count_0 rfl (lv_at hl 1 rfl) ?_
  by_cases h1 : x1 = 0
  · have hres := ite_t hres h1
    refine lv_tableIn (off := 51) (tgt := 52) hx hb dX5_count_1 (by rw [h1]; decide) (by rw [h1]; decide) (by rw [h1]; rfl) (by decide) ?_
    refine lv_aload_n hx hb dX5_count_52 rfl (lv_at hl 0 rfl) ?_
    refine va_get (D := G) (ci := 5) (v := .ref A0_now) (C := RX5) (T := TX5) (N := 8) hx hb hts (fun w h => (List.mem_cons_of_mem _ (List.mem_append_left _ (List.mem_append_left _ (List.mem_append_left _ (List.mem_append_left _ (List.mem_append_right _ h))))))) hown hK.1 hP 0 rfl rfl 0 (by decide) (hts (.fieldLink RX5 10 "EchoSeats" "now" "LEchoSeats$Scene;") (List.mem_of_getElem? (i := 1) rfl)) (fun _ h9 => h9) rfl dX5_count_53 ?_
    refine va_get (D := G) (ci := 3) (v := .int (c0_now 0)) (C := RX3) (T := TX3) (N := 12) hx hb hts (fun w h => (List.mem_cons_of_mem _ (List.mem_append_left _ (List.mem_append_left _ (List.mem_append_left _ (List.mem_append_right _ h)))))) hown hK.1 hP 4 rfl rfl 0 (by decide) (hts (.fieldLink RX5 114 "EchoSeats$Scene" "length" "I") (List.mem_of_getElem? (i := 2) rfl)) (fun _ h9 => h9) rfl dX5_count_56 ?_
    obtain rfl := Option.some.inj hres
    exact W.iret hx hb hr (fun t ht hW => ⟨rfl, ht⟩) (fun q h => absurd h List.not_mem_nil) dX5_count_59
  have hres := ite_f hres h1
  by_cases h2 : x1 = 1
  · have hres := ite_t hres h2
    refine lv_tableIn (off := 59) (tgt := 60) hx hb dX5_count_1 (by rw [h2]; decide) (by rw [h2]; decide) (by rw [h2]; rfl) (by decide) ?_
    refine lv_aload_n hx hb dX5_count_60 rfl (lv_at hl 0 rfl) ?_
    refine va_get (D := G) (ci := 5) (v := .ref A0_now) (C := RX5) (T := TX5) (N := 8) hx hb hts (fun w h => (List.mem_cons_of_mem _ (List.mem_append_left _ (List.mem_append_left _ (List.mem_append_left _ (List.mem_append_left _ (List.mem_append_right _ h))))))) hown hK.1 hP 0 rfl rfl 0 (by decide) (hts (.fieldLink RX5 10 "EchoSeats" "now" "LEchoSeats$Scene;") (List.mem_of_getElem? (i := 1) rfl)) (fun _ h9 => h9) rfl dX5_count_61 ?_
    refine va_get (D := G) (ci := 3) (v := .int (c0_now 1)) (C := RX3) (T := TX3) (N := 12) hx hb hts (fun w h => (List.mem_cons_of_mem _ (List.mem_append_left _ (List.mem_append_left _ (List.mem_append_left _ (List.mem_append_right _ h)))))) hown hK.1 hP 4 rfl rfl 1 (by decide) (hts (.fieldLink RX5 111 "EchoSeats$Scene" "breadth" "I") (List.mem_of_getElem? (i := 3) rfl)) (fun _ h9 => h9) rfl dX5_count_64 ?_
    obtain rfl := Option.some.inj hres
    exact W.iret hx hb hr (fun t ht hW => ⟨rfl, ht⟩) (fun q h => absurd h List.not_mem_nil) dX5_count_67
  have hres := ite_f hres h2
  by_cases h3 : x1 = 2
  · have hres := ite_t hres h3
    refine lv_tableIn (off := 67) (tgt := 68) hx hb dX5_count_1 (by rw [h3]; decide) (by rw [h3]; decide) (by rw [h3]; rfl) (by decide) ?_
    refine lv_aload_n hx hb dX5_count_68 rfl (lv_at hl 0 rfl) ?_
    refine va_get (D := G) (ci := 5) (v := .ref A0_now) (C := RX5) (T := TX5) (N := 8) hx hb hts (fun w h => (List.mem_cons_of_mem _ (List.mem_append_left _ (List.mem_append_left _ (List.mem_append_left _ (List.mem_append_left _ (List.mem_append_right _ h))))))) hown hK.1 hP 0 rfl rfl 0 (by decide) (hts (.fieldLink RX5 10 "EchoSeats" "now" "LEchoSeats$Scene;") (List.mem_of_getElem? (i := 1) rfl)) (fun _ h9 => h9) rfl dX5_count_69 ?_
    refine va_get (D := G) (ci := 3) (v := .int (c0_now 2)) (C := RX3) (T := TX3) (N := 12) hx hb hts (fun w h => (List.mem_cons_of_mem _ (List.mem_append_left _ (List.mem_append_left _ (List.mem_append_left _ (List.mem_append_right _ h)))))) hown hK.1 hP 4 rfl rfl 2 (by decide) (hts (.fieldLink RX5 117 "EchoSeats$Scene" "sourceX" "I") (List.mem_of_getElem? (i := 4) rfl)) (fun _ h9 => h9) rfl dX5_count_72 ?_
    obtain rfl := Option.some.inj hres
    exact W.iret hx hb hr (fun t ht hW => ⟨rfl, ht⟩) (fun q h => absurd h List.not_mem_nil) dX5_count_75
  have hres := ite_f hres h3
  by_cases h4 : x1 = 3
  · have hres := ite_t hres h4
    refine lv_tableIn (off := 75) (tgt := 76) hx hb dX5_count_1 (by rw [h4]; decide) (by rw [h4]; decide) (by rw [h4]; rfl) (by decide) ?_
    refine lv_aload_n hx hb dX5_count_76 rfl (lv_at hl 0 rfl) ?_
    refine va_get (D := G) (ci := 5) (v := .ref A0_now) (C := RX5) (T := TX5) (N := 8) hx hb hts (fun w h => (List.mem_cons_of_mem _ (List.mem_append_left _ (List.mem_append_left _ (List.mem_append_left _ (List.mem_append_left _ (List.mem_append_right _ h))))))) hown hK.1 hP 0 rfl rfl 0 (by decide) (hts (.fieldLink RX5 10 "EchoSeats" "now" "LEchoSeats$Scene;") (List.mem_of_getElem? (i := 1) rfl)) (fun _ h9 => h9) rfl dX5_count_77 ?_
    refine va_get (D := G) (ci := 3) (v := .int (c0_now 3)) (C := RX3) (T := TX3) (N := 12) hx hb hts (fun w h => (List.mem_cons_of_mem _ (List.mem_append_left _ (List.mem_append_left _ (List.mem_append_left _ (List.mem_append_right _ h)))))) hown hK.1 hP 4 rfl rfl 3 (by decide) (hts (.fieldLink RX5 120 "EchoSeats$Scene" "sourceY" "I") (List.mem_of_getElem? (i := 5) rfl)) (fun _ h9 => h9) rfl dX5_count_80 ?_
    obtain rfl := Option.some.inj hres
    exact W.iret hx hb hr (fun t ht hW => ⟨rfl, ht⟩) (fun q h => absurd h List.not_mem_nil) dX5_count_83
  have hres := ite_f hres h4
  by_cases h5 : x1 = 4
  · have hres := ite_t hres h5
    refine lv_tableIn (off := 83) (tgt := 84) hx hb dX5_count_1 (by rw [h5]; decide) (by rw [h5]; decide) (by rw [h5]; rfl) (by decide) ?_
    refine lv_aload_n hx hb dX5_count_84 rfl (lv_at hl 0 rfl) ?_
    refine va_get (D := G) (ci := 5) (v := .ref A0_now) (C := RX5) (T := TX5) (N := 8) hx hb hts (fun w h => (List.mem_cons_of_mem _ (List.mem_append_left _ (List.mem_append_left _ (List.mem_append_left _ (List.mem_append_left _ (List.mem_append_right _ h))))))) hown hK.1 hP 0 rfl rfl 0 (by decide) (hts (.fieldLink RX5 10 "EchoSeats" "now" "LEchoSeats$Scene;") (List.mem_of_getElem? (i := 1) rfl)) (fun _ h9 => h9) rfl dX5_count_85 ?_
    refine va_get (D := G) (ci := 3) (v := .int (c0_now 4)) (C := RX3) (T := TX3) (N := 12) hx hb hts (fun w h => (List.mem_cons_of_mem _ (List.mem_append_left _ (List.mem_append_left _ (List.mem_append_left _ (List.mem_append_right _ h)))))) hown hK.1 hP 4 rfl rfl 4 (by decide) (hts (.fieldLink RX5 202 "EchoSeats$Scene" "seats" "I") (List.mem_of_getElem? (i := 6) rfl)) (fun _ h9 => h9) rfl dX5_count_88 ?_
    obtain rfl := Option.some.inj hres
    exact W.iret hx hb hr (fun t ht hW => ⟨rfl, ht⟩) (fun q h => absurd h List.not_mem_nil) dX5_count_91
  have hres := ite_f hres h5
  by_cases h6 : x1 = 5
  · have hres := ite_t hres h6
    refine lv_tableIn (off := 91) (tgt := 92) hx hb dX5_count_1 (by rw [h6]; decide) (by rw [h6]; decide) (by rw [h6]; rfl) (by decide) ?_
    refine lv_aload_n hx hb dX5_count_92 rfl (lv_at hl 0 rfl) ?_
    refine va_get (D := G) (ci := 5) (v := .ref A0_now) (C := RX5) (T := TX5) (N := 8) hx hb hts (fun w h => (List.mem_cons_of_mem _ (List.mem_append_left _ (List.mem_append_left _ (List.mem_append_left _ (List.mem_append_left _ (List.mem_append_right _ h))))))) hown hK.1 hP 0 rfl rfl 0 (by decide) (hts (.fieldLink RX5 10 "EchoSeats" "now" "LEchoSeats$Scene;") (List.mem_of_getElem? (i := 1) rfl)) (fun _ h9 => h9) rfl dX5_count_93 ?_
    refine va_get (D := G) (ci := 3) (v := .int (c0_now 5)) (C := RX3) (T := TX3) (N := 12) hx hb hts (fun w h => (List.mem_cons_of_mem _ (List.mem_append_left _ (List.mem_append_left _ (List.mem_append_left _ (List.mem_append_right _ h)))))) hown hK.1 hP 4 rfl rfl 5 (by decide) (hts (.fieldLink RX5 234 "EchoSeats$Scene" "curtains" "I") (List.mem_of_getElem? (i := 7) rfl)) (fun _ h9 => h9) rfl dX5_count_96 ?_
    obtain rfl := Option.some.inj hres
    exact W.iret hx hb hr (fun t ht hW => ⟨rfl, ht⟩) (fun q h => absurd h List.not_mem_nil) dX5_count_99
  have hres := ite_f hres h6
  by_cases h7 : x1 = 6
  · have hres := ite_t hres h7
    refine lv_tableIn (off := 99) (tgt := 100) hx hb dX5_count_1 (by rw [h7]; decide) (by rw [h7]; decide) (by rw [h7]; rfl) (by decide) ?_
    refine lv_aload_n hx hb dX5_count_100 rfl (lv_at hl 0 rfl) ?_
    refine va_get (D := G) (ci := 5) (v := .ref A0_finder) (C := RX5) (T := TX5) (N := 8) hx hb hts (fun w h => (List.mem_cons_of_mem _ (List.mem_append_left _ (List.mem_append_left _ (List.mem_append_left _ (List.mem_append_left _ (List.mem_append_right _ h))))))) hown hK.1 hP 0 rfl rfl 7 (by decide) (hts (.fieldLink RX5 51 "EchoSeats" "finder" "LEchoSeats$Finder;") (List.mem_of_getElem? (i := 8) rfl)) (fun _ h9 => h9) rfl dX5_count_101 ?_
    refine va_get (D := G) (ci := 1) (v := .int (c0_finder 3)) (C := RX1) (T := TX1) (N := 8) hx hb hts (fun w h => (List.mem_cons_of_mem _ (List.mem_append_left _ (List.mem_append_left _ (List.mem_append_right _ h))))) hown hK.1 hP 3 rfl rfl 3 (by decide) (hts (.fieldLink RX5 76 "EchoSeats$Finder" "seen" "I") (List.mem_of_getElem? (i := 9) rfl)) (fun _ h9 => h9) rfl dX5_count_104 ?_
    obtain rfl := Option.some.inj hres
    exact W.iret hx hb hr (fun t ht hW => ⟨rfl, ht⟩) (fun q h => absurd h List.not_mem_nil) dX5_count_107
  have hres := ite_f hres h7
  by_cases h8 : x1 = 7
  · have hres := ite_t hres h8
    refine lv_tableIn (off := 107) (tgt := 108) hx hb dX5_count_1 (by rw [h8]; decide) (by rw [h8]; decide) (by rw [h8]; rfl) (by decide) ?_
    refine lv_aload_n hx hb dX5_count_108 rfl (lv_at hl 0 rfl) ?_
    refine va_get (D := G) (ci := 5) (v := .ref A0_text) (C := RX5) (T := TX5) (N := 8) hx hb hts (fun w h => (List.mem_cons_of_mem _ (List.mem_append_left _ (List.mem_append_left _ (List.mem_append_left _ (List.mem_append_left _ (List.mem_append_right _ h))))))) hown hK.1 hP 0 rfl rfl 4 (by decide) (hts (.fieldLink RX5 30 "EchoSeats" "text" "LEchoSeats$Text;") (List.mem_of_getElem? (i := 10) rfl)) (fun _ h9 => h9) rfl dX5_count_109 ?_
    refine va_get (D := G) (ci := 4) (v := .int (c0_text 1)) (C := RX4) (T := TX4) (N := 6) hx hb hts (fun w h => (List.mem_cons_of_mem _ (List.mem_append_left _ (List.mem_append_right _ h)))) hown hK.1 hP 2 rfl rfl 1 (by decide) (hts (.fieldLink RX5 63 "EchoSeats$Text" "size" "I") (List.mem_of_getElem? (i := 11) rfl)) (fun _ h9 => h9) rfl dX5_count_112 ?_
    obtain rfl := Option.some.inj hres
    exact W.iret hx hb hr (fun t ht hW => ⟨rfl, ht⟩) (fun q h => absurd h List.not_mem_nil) dX5_count_115
  have hres := ite_f hres h8
  by_cases h9 : x1 = 8
  · have hres := ite_t hres h9
    refine lv_tableIn (off := 115) (tgt := 116) hx hb dX5_count_1 (by rw [h9]; decide) (by rw [h9]; decide) (by rw [h9]; rfl) (by decide) ?_
    refine lv_aload_n hx hb dX5_count_116 rfl (lv_at hl 0 rfl) ?_
    refine va_get (D := G) (ci := 5) (v := .ref A0_past) (C := RX5) (T := TX5) (N := 8) hx hb hts (fun w h => (List.mem_cons_of_mem _ (List.mem_append_left _ (List.mem_append_left _ (List.mem_append_left _ (List.mem_append_left _ (List.mem_append_right _ h))))))) hown hK.1 hP 0 rfl rfl 5 (by decide) (hts (.fieldLink RX5 37 "EchoSeats" "past" "LEchoSeats$Past;") (List.mem_of_getElem? (i := 12) rfl)) (fun _ h9 => h9) rfl dX5_count_117 ?_
    refine va_get (D := G) (ci := 2) (v := .int (c0_past 4)) (C := RX2) (T := TX2) (N := 5) hx hb hts (fun w h => (List.mem_cons_of_mem _ (List.mem_append_right _ h))) hown hK.1 hP 1 rfl rfl 4 (by decide) (hts (.fieldLink RX5 75 "EchoSeats$Past" "size" "I") (List.mem_of_getElem? (i := 13) rfl)) (fun _ h9 => h9) rfl dX5_count_120 ?_
    obtain rfl := Option.some.inj hres
    exact W.iret hx hb hr (fun t ht hW => ⟨rfl, ht⟩) (fun q h => absurd h List.not_mem_nil) dX5_count_123
  have hres := ite_f hres h9
  refine lv_tableOut (tgt := 124) hx hb dX5_count_1 (by have th1 := lv_neT h1 (a := 0) (by decide); have th2 := lv_neT h2 (a := 1) (by decide); have th3 := lv_neT h3 (a := 2) (by decide); have th4 := lv_neT h4 (a := 3) (by decide); have th5 := lv_neT h5 (a := 4) (by decide); have th6 := lv_neT h6 (a := 5) (by decide); have th7 := lv_neT h7 (a := 6) (by decide); have th8 := lv_neT h8 (a := 7) (by decide); have th9 := lv_neT h9 (a := 8) (by decide); omega) (by decide) ?_
  refine lv_iconst (v := (-1)) hx hb dX5_count_124 (by decide) ?_
  obtain rfl := Option.some.inj hres
  exact W.iret hx hb hr (fun t ht hW => ⟨rfl, ht⟩) (fun q h => absurd h List.not_mem_nil) dX5_count_125
theorem hsX5_count : yX5_count.cls = RX5 ∧ yX5_count.cls ≠ "java/lang/invoke/MethodHandle" ∧ yX5_count.cls ≠ "java/lang/invoke/VarHandle" ∧ (parseMethodDescriptor yX5_count.desc).map (fun d => d.parameters.length) = some 1 := by decide +kernel
set_option maxHeartbeats 4000000 in
set_option maxRecDepth 100000 in
theorem kX5_curtain (l : Launch) (G : va_G) (cI cZ : ClassId) (tl : List (ClassId × FieldType)) (A0 A0_now A0_draft A0_kept A0_isKept A0_text A0_past A0_ear A0_finder A0_now_swallows A0_now_seatX A0_now_seatY A0_now_curtainX A0_now_curtainFrom A0_now_curtainTo : Nat) (c0_now c0_now_curtainTo c0_now_curtainFrom c0_now_curtainX : Nat → Int32) (x1 x2 : Int32) (res : Int32) (hres : fX5_curtain c0_now c0_now_curtainTo c0_now_curtainFrom c0_now_curtainX x1 x2 = some res) : Met l yX5_curtain wsX5_curtain rX5_curtain (va_Pc [.ref A0, .int x1, .int x2] (PRO G cI cZ tl [o5 A0 A0_now A0_draft A0_kept A0_isKept A0_text A0_past A0_ear A0_finder, o3 A0_now c0_now A0_now_swallows A0_now_seatX A0_now_seatY A0_now_curtainX A0_now_curtainFrom A0_now_curtainTo, (A0_now_curtainTo, .inl (cI, 3, .inl c0_now_curtainTo)), (A0_now_curtainFrom, .inl (cI, 3, .inl c0_now_curtainFrom)), (A0_now_curtainX, .inl (cI, 3, .inl c0_now_curtainX))])) (Sp res) 0 0 (fun _ => False) := by
  refine Met.ofW (cc := cX5_curtain) (maxL := 3) (ret := (some .int)) (by decide) rfl ?_
  intro p e s m args below meth c s₁ B hml hv
  obtain ⟨rfl, hP, hK⟩ := hv
  have hx := B.exec
  have hb := B.bytes
  have hr := B.returns
  have hts := atoms_spec (ws := wsX5_curtain) B.pre
  have hown : s.vm.findClass RX5 = some m.cls := findClass_of_methodNamed B.named
  have hlocks := B.notSynchronized
  have hl := lv_entry ([.ref A0, .int x1, .int x2] : List Value) (n := 3) (Nat.le_of_ble_eq_true rfl)
  rw [lg_entry_eq]
  generalize (lg_sl ([.ref A0, .int x1, .int x2] : List Value) ++ List.replicate (3 - (lg_sl ([.ref A0, .int x1, .int x2] : List Value)).length) Slot.unset).toArray = ls at hl ⊢
  have hl : lv_has ls 3 [(0, .ref A0), (1, .int x1), (2, .int x2)] := hl
  refine lv_aload_n hx hb dX5_curtain_0 rfl (lv_at hl 0 rfl) ?_
  refine va_get (D := G) (ci := 5) (v := .ref A0_now) (C := RX5) (T := TX5) (N := 8) hx hb hts (fun w h => (List.mem_cons_of_mem _ (List.mem_append_left _ (List.mem_append_right _ h)))) hown hK.1 hP 0 rfl rfl 0 (by decide) (hts (.fieldLink RX5 10 "EchoSeats" "now" "LEchoSeats$Scene;") (List.mem_of_getElem? (i := 1) rfl)) (fun _ h9 => h9) rfl dX5_curtain_1 ?_
  refine lv_iload_n hx hb dX5_curtain_4 rfl (lv_at hl 1 rfl) ?_
  obtain ⟨r1, hr1, hres⟩ := bi_1 hres
  refine x_cp (va_runV (As := [.int x1]) (rest := []) ⟨hx, hb, hml, hown, hts⟩ (kX3_hasCurtain l G cI cZ tl A0_now A0_now_swallows A0_now_seatX A0_now_seatY A0_now_curtainX A0_now_curtainFrom A0_now_curtainTo c0_now x1 r1 hr1) (cwV 1 hts gX5_curtain_X3_hasCurtain rfl rfl rfl hsX3_hasCurtain ⟨Nat.le_of_ble_eq_true rfl, Nat.le_of_ble_eq_true rfl⟩) ⟨PRO_blind, va_recv hK.1 hP (ci := 3) (q0 := 1) rfl rfl, PRO_at (hP.sub (ws' := [o3 A0_now c0_now A0_now_swallows A0_now_seatX A0_now_seatY A0_now_curtainX A0_now_curtainFrom A0_now_curtainTo]) [1] rfl) hK⟩ rfl rfl hl.1 rfl (lv_room (Nat.le_of_ble_eq_true rfl)) dX5_curtain_5 ⟨Nat.zero_le _, Nat.zero_le _⟩) ?_
  refine lv_if_ne (tgt := 13) hx hb dX5_curtain_8 (by decide) (fun h2 => ?_) (fun h2 => ?_)
  · have hres := ite_f hres h2
    refine lv_iload_n hx hb dX5_curtain_13 rfl (lv_at hl 2 rfl) ?_
    by_cases h3 : x2 = 0
    · have hres := ite_t hres h3
      refine lv_tableIn (off := 26) (tgt := 40) hx hb dX5_curtain_14 (by rw [h3]; decide) (by rw [h3]; decide) (by rw [h3]; rfl) (by decide) ?_
      refine lv_aload_n hx hb dX5_curtain_40 rfl (lv_at hl 0 rfl) ?_
      refine va_get (D := G) (ci := 5) (v := .ref A0_now) (C := RX5) (T := TX5) (N := 8) hx hb hts (fun w h => (List.mem_cons_of_mem _ (List.mem_append_left _ (List.mem_append_right _ h)))) hown hK.1 hP 0 rfl rfl 0 (by decide) (hts (.fieldLink RX5 10 "EchoSeats" "now" "LEchoSeats$Scene;") (List.mem_of_getElem? (i := 1) rfl)) (fun _ h9 => h9) rfl dX5_curtain_41 ?_
      refine va_get (D := G) (ci := 3) (v := .ref A0_now_curtainX) (C := RX3) (T := TX3) (N := 12) hx hb hts (fun w h => (List.mem_cons_of_mem _ (List.mem_append_right _ h))) hown hK.1 hP 1 rfl rfl 9 (by decide) (hts (.fieldLink RX5 98 "EchoSeats$Scene" "curtainX" "[I") (List.mem_of_getElem? (i := 2) rfl)) (fun _ h9 => h9) rfl dX5_curtain_44 ?_
      refine lv_iload_n hx hb dX5_curtain_47 rfl (lv_at hl 1 rfl) ?_
      have g4 := gd_1 hres
      have hres := gd_2 hres
      refine x_iald hx hb hK hP 4 rfl (j := (Int32.toNatClampNeg x1)) rfl g4 dX5_curtain_48 ?_
      obtain rfl := Option.some.inj hres
      exact W.iret hx hb hr (fun t ht hW => ⟨rfl, ht⟩) (fun q h => absurd h List.not_mem_nil) dX5_curtain_49
    have hres := ite_f hres h3
    by_cases h5 : x2 = 1
    · have hres := ite_t hres h5
      refine lv_tableIn (off := 36) (tgt := 50) hx hb dX5_curtain_14 (by rw [h5]; decide) (by rw [h5]; decide) (by rw [h5]; rfl) (by decide) ?_
      refine lv_aload_n hx hb dX5_curtain_50 rfl (lv_at hl 0 rfl) ?_
      refine va_get (D := G) (ci := 5) (v := .ref A0_now) (C := RX5) (T := TX5) (N := 8) hx hb hts (fun w h => (List.mem_cons_of_mem _ (List.mem_append_left _ (List.mem_append_right _ h)))) hown hK.1 hP 0 rfl rfl 0 (by decide) (hts (.fieldLink RX5 10 "EchoSeats" "now" "LEchoSeats$Scene;") (List.mem_of_getElem? (i := 1) rfl)) (fun _ h9 => h9) rfl dX5_curtain_51 ?_
      refine va_get (D := G) (ci := 3) (v := .ref A0_now_curtainFrom) (C := RX3) (T := TX3) (N := 12) hx hb hts (fun w h => (List.mem_cons_of_mem _ (List.mem_append_right _ h))) hown hK.1 hP 1 rfl rfl 10 (by decide) (hts (.fieldLink RX5 101 "EchoSeats$Scene" "curtainFrom" "[I") (List.mem_of_getElem? (i := 3) rfl)) (fun _ h9 => h9) rfl dX5_curtain_54 ?_
      refine lv_iload_n hx hb dX5_curtain_57 rfl (lv_at hl 1 rfl) ?_
      have g6 := gd_1 hres
      have hres := gd_2 hres
      refine x_iald hx hb hK hP 3 rfl (j := (Int32.toNatClampNeg x1)) rfl g6 dX5_curtain_58 ?_
      obtain rfl := Option.some.inj hres
      exact W.iret hx hb hr (fun t ht hW => ⟨rfl, ht⟩) (fun q h => absurd h List.not_mem_nil) dX5_curtain_59
    have hres := ite_f hres h5
    by_cases h7 : x2 = 2
    · have hres := ite_t hres h7
      refine lv_tableIn (off := 46) (tgt := 60) hx hb dX5_curtain_14 (by rw [h7]; decide) (by rw [h7]; decide) (by rw [h7]; rfl) (by decide) ?_
      refine lv_aload_n hx hb dX5_curtain_60 rfl (lv_at hl 0 rfl) ?_
      refine va_get (D := G) (ci := 5) (v := .ref A0_now) (C := RX5) (T := TX5) (N := 8) hx hb hts (fun w h => (List.mem_cons_of_mem _ (List.mem_append_left _ (List.mem_append_right _ h)))) hown hK.1 hP 0 rfl rfl 0 (by decide) (hts (.fieldLink RX5 10 "EchoSeats" "now" "LEchoSeats$Scene;") (List.mem_of_getElem? (i := 1) rfl)) (fun _ h9 => h9) rfl dX5_curtain_61 ?_
      refine va_get (D := G) (ci := 3) (v := .ref A0_now_curtainTo) (C := RX3) (T := TX3) (N := 12) hx hb hts (fun w h => (List.mem_cons_of_mem _ (List.mem_append_right _ h))) hown hK.1 hP 1 rfl rfl 11 (by decide) (hts (.fieldLink RX5 104 "EchoSeats$Scene" "curtainTo" "[I") (List.mem_of_getElem? (i := 4) rfl)) (fun _ h9 => h9) rfl dX5_curtain_64 ?_
      refine lv_iload_n hx hb dX5_curtain_67 rfl (lv_at hl 1 rfl) ?_
      have g8 := gd_1 hres
      have hres := gd_2 hres
      refine x_iald hx hb hK hP 2 rfl (j := (Int32.toNatClampNeg x1)) rfl g8 dX5_curtain_68 ?_
      obtain rfl := Option.some.inj hres
      exact W.iret hx hb hr (fun t ht hW => ⟨rfl, ht⟩) (fun q h => absurd h List.not_mem_nil) dX5_curtain_69
    have hres := ite_f hres h7
    refine lv_tableOut (tgt := 70) hx hb dX5_curtain_14 (by have th3 := lv_neT h3 (a := 0) (by decide); have th5 := lv_neT h5 (a := 1) (by decide); have th7 := lv_neT h7 (a := 2) (by decide); omega) (by decide) ?_
    refine lv_iconst (v := (-1)) hx hb dX5_curtain_70 (by decide) ?_
    obtain rfl := Option.some.inj hres
    exact W.iret hx hb hr (fun t ht hW => ⟨rfl, ht⟩) (fun q h => absurd h List.not_mem_nil) dX5_curtain_71
  · have hres := ite_t hres h2
    refine lv_iconst (v := (-1)) hx hb dX5_curtain_11 (by decide) ?_
    obtain rfl := Option.some.inj hres
    exact W.iret hx hb hr (fun t ht hW => ⟨rfl, ht⟩) (fun q h => absurd h List.not_mem_nil) dX5_curtain_12
theorem hsX5_curtain : yX5_curtain.cls = RX5 ∧ yX5_curtain.cls ≠ "java/lang/invoke/MethodHandle" ∧ yX5_curtain.cls ≠ "java/lang/invoke/VarHandle" ∧ (parseMethodDescriptor yX5_curtain.desc).map (fun d => d.parameters.length) = some 2 := by decide +kernel
set_option maxHeartbeats 4000000 in
set_option maxRecDepth 100000 in
theorem kX5_draws (l : Launch) (G : va_G) (cI cZ : ClassId) (tl : List (ClassId × FieldType)) (sz : Nat) (A : Nat → Prop) (A0 A0_now A0_draft A0_kept A0_isKept A0_text A0_past A0_ear A0_finder A0_now_swallows A0_now_seatX A0_now_seatY A0_now_curtainX A0_now_curtainFrom A0_now_curtainTo A0_past_kinds A0_past_which A0_past_firsts A0_past_seconds : Nat) (c0_now c0_now_curtainFrom c0_now_curtainTo c0_past c0_past_kinds c0_past_which c0_past_firsts c0_past_seconds : Nat → Int32) (x1 x2 x3 : Int32) (res : Int32 × (Nat → Int32) × (Nat → Int32) × (Nat → Int32) × (Nat → Int32) × (Nat → Int32) × (Nat → Int32) × (Nat → Int32)) (hAe : A = va_A [o5 A0 A0_now A0_draft A0_kept A0_isKept A0_text A0_past A0_ear A0_finder, o3 A0_now c0_now A0_now_swallows A0_now_seatX A0_now_seatY A0_now_curtainX A0_now_curtainFrom A0_now_curtainTo, (A0_now_curtainFrom, .inl (cI, 3, .inl c0_now_curtainFrom)), (A0_now_curtainTo, .inl (cI, 3, .inl c0_now_curtainTo)), o2 A0_past c0_past A0_past_kinds A0_past_which A0_past_firsts A0_past_seconds, (A0_past_kinds, .inl (cI, 10, .inl c0_past_kinds)), (A0_past_which, .inl (cI, 10, .inl c0_past_which)), (A0_past_firsts, .inl (cI, 10, .inl c0_past_firsts)), (A0_past_seconds, .inl (cI, 10, .inl c0_past_seconds))] sz) (hres : fX5_draws c0_now c0_now_curtainFrom c0_now_curtainTo c0_past c0_past_kinds c0_past_which c0_past_firsts c0_past_seconds x1 x2 x3 = some res) : Met l yX5_draws wsX5_draws rX5_draws (va_Pc [.ref A0, .int x1, .int x2, .int x3] (PRW G cI cZ tl [o5 A0 A0_now A0_draft A0_kept A0_isKept A0_text A0_past A0_ear A0_finder, o3 A0_now c0_now A0_now_swallows A0_now_seatX A0_now_seatY A0_now_curtainX A0_now_curtainFrom A0_now_curtainTo, (A0_now_curtainFrom, .inl (cI, 3, .inl c0_now_curtainFrom)), (A0_now_curtainTo, .inl (cI, 3, .inl c0_now_curtainTo)), o2 A0_past c0_past A0_past_kinds A0_past_which A0_past_firsts A0_past_seconds, (A0_past_kinds, .inl (cI, 10, .inl c0_past_kinds)), (A0_past_which, .inl (cI, 10, .inl c0_past_which)), (A0_past_firsts, .inl (cI, 10, .inl c0_past_firsts)), (A0_past_seconds, .inl (cI, 10, .inl c0_past_seconds))] sz)) (Qiw res.1 G A [o5 A0 A0_now A0_draft A0_kept A0_isKept A0_text A0_past A0_ear A0_finder, o3 A0_now c0_now A0_now_swallows A0_now_seatX A0_now_seatY A0_now_curtainX A0_now_curtainFrom A0_now_curtainTo, (A0_now_curtainFrom, .inl (cI, 3, .inl res.2.1)), (A0_now_curtainTo, .inl (cI, 3, .inl res.2.2.1)), o2 A0_past res.2.2.2.1 A0_past_kinds A0_past_which A0_past_firsts A0_past_seconds, (A0_past_kinds, .inl (cI, 10, .inl res.2.2.2.2.1)), (A0_past_which, .inl (cI, 10, .inl res.2.2.2.2.2.1)), (A0_past_firsts, .inl (cI, 10, .inl res.2.2.2.2.2.2.1)), (A0_past_seconds, .inl (cI, 10, .inl res.2.2.2.2.2.2.2))]) 0 0 A := by
  refine Met.ofW (cc := cX5_draws) (maxL := 6) (ret := (some .int)) (by decide) rfl ?_
  intro p e s m args below meth c s₁ B hml hv
  obtain ⟨rfl, hsz, hP, hK, hD0⟩ := hv
  have hx := B.exec
  have hb := B.bytes
  have hr := B.returns
  have hts := atoms_spec (ws := wsX5_draws) B.pre
  have hown : s.vm.findClass RX5 = some m.cls := findClass_of_methodNamed B.named
  have hlocks := B.notSynchronized
  subst hsz
  have hD : va_D A [o5 A0 A0_now A0_draft A0_kept A0_isKept A0_text A0_past A0_ear A0_finder, o3 A0_now c0_now A0_now_swallows A0_now_seatX A0_now_seatY A0_now_curtainX A0_now_curtainFrom A0_now_curtainTo, (A0_now_curtainFrom, .inl (cI, 3, .inl c0_now_curtainFrom)), (A0_now_curtainTo, .inl (cI, 3, .inl c0_now_curtainTo)), o2 A0_past c0_past A0_past_kinds A0_past_which A0_past_firsts A0_past_seconds, (A0_past_kinds, .inl (cI, 10, .inl c0_past_kinds)), (A0_past_which, .inl (cI, 10, .inl c0_past_which)), (A0_past_firsts, .inl (cI, 10, .inl c0_past_firsts)), (A0_past_seconds, .inl (cI, 10, .inl c0_past_seconds))] := by rw [hAe]; exact hD0.self
  have hA : ∀ q : Nat, s.heap.size ≤ q → A q := fun q h => by rw [hAe]; exact Or.inr h
  clear hAe hD0
  have hS : va_S A s.heap s.heap [] := va_S.rf
  have hl := lv_entry ([.ref A0, .int x1, .int x2, .int x3] : List Value) (n := 6) (Nat.le_of_ble_eq_true rfl)
  rw [lg_entry_eq]
  generalize (lg_sl ([.ref A0, .int x1, .int x2, .int x3] : List Value) ++ List.replicate (6 - (lg_sl ([.ref A0, .int x1, .int x2, .int x3] : List Value)).length) Slot.unset).toArray = ls at hl ⊢
  have hl : lv_has ls 6 [(0, .ref A0), (1, .int x1), (2, .int x2), (3, .int x3)] := hl
  have J80 : ∀ (v1_j80 : Int32) (v2_j80 : Int32) (v3_j80 : Int32) (v4_j80 : Int32) (v5_j80 : Int32) (e0_now_curtainFrom_j80 : (Nat → Int32)) (e0_now_curtainTo_j80 : (Nat → Int32)) (e0_past_j80 : (Nat → Int32)) (e0_past_kinds_j80 : (Nat → Int32)) (e0_past_which_j80 : (Nat → Int32)) (e0_past_firsts_j80 : (Nat → Int32)) (e0_past_seconds_j80 : (Nat → Int32)) (H : Heap) (locs : List Loc) (ls : Array Slot), fX5_draws_j80 c0_now v1_j80 v2_j80 v3_j80 v4_j80 v5_j80 e0_now_curtainFrom_j80 e0_now_curtainTo_j80 e0_past_j80 e0_past_kinds_j80 e0_past_which_j80 e0_past_firsts_j80 e0_past_seconds_j80 = some res → va_P G vwCl [o5 A0 A0_now A0_draft A0_kept A0_isKept A0_text A0_past A0_ear A0_finder, o3 A0_now c0_now A0_now_swallows A0_now_seatX A0_now_seatY A0_now_curtainX A0_now_curtainFrom A0_now_curtainTo, (A0_now_curtainFrom, .inl (cI, 3, .inl e0_now_curtainFrom_j80)), (A0_now_curtainTo, .inl (cI, 3, .inl e0_now_curtainTo_j80)), o2 A0_past e0_past_j80 A0_past_kinds A0_past_which A0_past_firsts A0_past_seconds, (A0_past_kinds, .inl (cI, 10, .inl e0_past_kinds_j80)), (A0_past_which, .inl (cI, 10, .inl e0_past_which_j80)), (A0_past_firsts, .inl (cI, 10, .inl e0_past_firsts_j80)), (A0_past_seconds, .inl (cI, 10, .inl e0_past_seconds_j80))] H → va_D A [o5 A0 A0_now A0_draft A0_kept A0_isKept A0_text A0_past A0_ear A0_finder, o3 A0_now c0_now A0_now_swallows A0_now_seatX A0_now_seatY A0_now_curtainX A0_now_curtainFrom A0_now_curtainTo, (A0_now_curtainFrom, .inl (cI, 3, .inl e0_now_curtainFrom_j80)), (A0_now_curtainTo, .inl (cI, 3, .inl e0_now_curtainTo_j80)), o2 A0_past e0_past_j80 A0_past_kinds A0_past_which A0_past_firsts A0_past_seconds, (A0_past_kinds, .inl (cI, 10, .inl e0_past_kinds_j80)), (A0_past_which, .inl (cI, 10, .inl e0_past_which_j80)), (A0_past_firsts, .inl (cI, 10, .inl e0_past_firsts_j80)), (A0_past_seconds, .inl (cI, 10, .inl e0_past_seconds_j80))] → va_S A s.heap H locs → lv_has ls 6 [(0, .ref A0), (1, .int v1_j80), (2, .int v2_j80), (3, .int v3_j80), (4, .int v4_j80), (5, .int v5_j80)] → WRW p l e wsX5_draws rX5_draws s m ([.ref A0, .int x1, .int x2, .int x3] : List Value).toArray below meth c H locs (Qiw res.1 G A [o5 A0 A0_now A0_draft A0_kept A0_isKept A0_text A0_past A0_ear A0_finder, o3 A0_now c0_now A0_now_swallows A0_now_seatX A0_now_seatY A0_now_curtainX A0_now_curtainFrom A0_now_curtainTo, (A0_now_curtainFrom, .inl (cI, 3, .inl res.2.1)), (A0_now_curtainTo, .inl (cI, 3, .inl res.2.2.1)), o2 A0_past res.2.2.2.1 A0_past_kinds A0_past_which A0_past_firsts A0_past_seconds, (A0_past_kinds, .inl (cI, 10, .inl res.2.2.2.2.1)), (A0_past_which, .inl (cI, 10, .inl res.2.2.2.2.2.1)), (A0_past_firsts, .inl (cI, 10, .inl res.2.2.2.2.2.2.1)), (A0_past_seconds, .inl (cI, 10, .inl res.2.2.2.2.2.2.2))]) A (F0 m 80 ls []) := by
    intro v1_j80 v2_j80 v3_j80 v4_j80 v5_j80 e0_now_curtainFrom_j80 e0_now_curtainTo_j80 e0_past_j80 e0_past_kinds_j80 e0_past_which_j80 e0_past_firsts_j80 e0_past_seconds_j80 H locs ls hres hP hD hS hl
    refine lv_aload_n hx hb dX5_draws_80 rfl (lv_at hl 0 rfl) ?_
    refine va_get (D := G) (ci := 5) (v := .ref A0_past) (C := RX5) (T := TX5) (N := 8) hx hb hts (fun w h => (List.mem_cons_of_mem _ (List.mem_append_left _ (List.mem_append_left _ (List.mem_append_right _ h))))) hown hK.1 hP 0 rfl rfl 5 (by decide) (hts (.fieldLink RX5 37 "EchoSeats" "past" "LEchoSeats$Past;") (List.mem_of_getElem? (i := 5) rfl)) (fun _ h9 => h9) rfl dX5_draws_81 ?_
    refine lv_iconst (v := 1) hx hb dX5_draws_84 (by decide) ?_
    refine lv_iload_n hx hb dX5_draws_85 rfl (lv_at hl 1 rfl) ?_
    refine lv_iload hx hb dX5_draws_86 (lv_at hl 4 rfl) ?_
    refine lv_iload hx hb dX5_draws_88 (lv_at hl 5 rfl) ?_
    obtain ⟨r1, hr1, hres⟩ := bi_1 hres
    refine x_cv (wr := [o5 A0 A0_now A0_draft A0_kept A0_isKept A0_text A0_past A0_ear A0_finder, o3 A0_now c0_now A0_now_swallows A0_now_seatX A0_now_seatY A0_now_curtainX A0_now_curtainFrom A0_now_curtainTo, (A0_now_curtainFrom, .inl (cI, 3, .inl e0_now_curtainFrom_j80)), (A0_now_curtainTo, .inl (cI, 3, .inl e0_now_curtainTo_j80))]) (w2 := [o5 A0 A0_now A0_draft A0_kept A0_isKept A0_text A0_past A0_ear A0_finder, o3 A0_now c0_now A0_now_swallows A0_now_seatX A0_now_seatY A0_now_curtainX A0_now_curtainFrom A0_now_curtainTo, (A0_now_curtainFrom, .inl (cI, 3, .inl e0_now_curtainFrom_j80)), (A0_now_curtainTo, .inl (cI, 3, .inl e0_now_curtainTo_j80)), o2 A0_past r1.1 A0_past_kinds A0_past_which A0_past_firsts A0_past_seconds, (A0_past_kinds, .inl (cI, 10, .inl r1.2.1)), (A0_past_which, .inl (cI, 10, .inl r1.2.2.1)), (A0_past_firsts, .inl (cI, 10, .inl r1.2.2.2.1)), (A0_past_seconds, .inl (cI, 10, .inl r1.2.2.2.2))]) hP hD hS hA (va_runV (As := [.int 1, .int v1_j80, .int v4_j80, .int v5_j80]) (rest := []) ⟨hx, hb, hml, hown, hts⟩ (kX2_add l G cI cZ tl H.size _ A0_past A0_past_kinds A0_past_which A0_past_firsts A0_past_seconds e0_past_j80 e0_past_kinds_j80 e0_past_which_j80 e0_past_firsts_j80 e0_past_seconds_j80 1 v1_j80 v4_j80 v5_j80 r1 rfl hr1) (cwV 4 hts gX5_draws_X2_add rfl rfl rfl hsX2_add ⟨Nat.le_of_ble_eq_true rfl, Nat.le_of_ble_eq_true rfl⟩) ⟨PRW_blind, va_recv hK.1 hP (ci := 2) (q0 := 4) rfl rfl, PRW_at (hP.sub (ws' := [o2 A0_past e0_past_j80 A0_past_kinds A0_past_which A0_past_firsts A0_past_seconds, (A0_past_kinds, .inl (cI, 10, .inl e0_past_kinds_j80)), (A0_past_which, .inl (cI, 10, .inl e0_past_which_j80)), (A0_past_firsts, .inl (cI, 10, .inl e0_past_firsts_j80)), (A0_past_seconds, .inl (cI, 10, .inl e0_past_seconds_j80))]) [4, 5, 6, 7, 8] rfl) (hD.sub (ws' := [o2 A0_past e0_past_j80 A0_past_kinds A0_past_which A0_past_firsts A0_past_seconds, (A0_past_kinds, .inl (cI, 10, .inl e0_past_kinds_j80)), (A0_past_which, .inl (cI, 10, .inl e0_past_which_j80)), (A0_past_firsts, .inl (cI, 10, .inl e0_past_firsts_j80)), (A0_past_seconds, .inl (cI, 10, .inl e0_past_seconds_j80))]) [4, 5, 6, 7, 8] (by decide) rfl) hK⟩ rfl rfl hl.1 rfl (lv_room (Nat.le_of_ble_eq_true rfl)) dX5_draws_90 ⟨Nat.zero_le _, Nat.zero_le _⟩) [4, 5, 6, 7, 8] [0, 1, 2, 3] [0, 1, 2, 3, 4, 5, 6, 7, 8] rfl rfl (by decide) (by decide) rfl rfl (by decide) (fun H locs hP hD hS => ?_)
    refine lv_aload_n hx hb dX5_draws_93 rfl (lv_at hl 0 rfl) ?_
    refine va_get (D := G) (ci := 5) (v := .ref A0_now) (C := RX5) (T := TX5) (N := 8) hx hb hts (fun w h => (List.mem_cons_of_mem _ (List.mem_append_left _ (List.mem_append_left _ (List.mem_append_right _ h))))) hown hK.1 hP 0 rfl rfl 0 (by decide) (hts (.fieldLink RX5 10 "EchoSeats" "now" "LEchoSeats$Scene;") (List.mem_of_getElem? (i := 1) rfl)) (fun _ h9 => h9) rfl dX5_draws_94 ?_
    refine va_get (D := G) (ci := 3) (v := .ref A0_now_curtainFrom) (C := RX3) (T := TX3) (N := 12) hx hb hts (fun w h => (List.mem_cons_of_mem _ (List.mem_append_left _ (List.mem_append_right _ h)))) hown hK.1 hP 1 rfl rfl 10 (by decide) (hts (.fieldLink RX5 101 "EchoSeats$Scene" "curtainFrom" "[I") (List.mem_of_getElem? (i := 3) rfl)) (fun _ h9 => h9) rfl dX5_draws_97 ?_
    refine lv_iload_n hx hb dX5_draws_100 rfl (lv_at hl 1 rfl) ?_
    refine lv_iload_n hx hb dX5_draws_101 rfl (lv_at hl 2 rfl) ?_
    have g2 := gd_1 hres
    have hres := gd_2 hres
    refine x_iast hx hb hK hP hD hS 2 rfl (j := (Int32.toNatClampNeg v1_j80)) rfl g2 dX5_draws_102 (fun H locs hP hD hS => ?_)
    have hP : va_P G vwCl [o5 A0 A0_now A0_draft A0_kept A0_isKept A0_text A0_past A0_ear A0_finder, o3 A0_now c0_now A0_now_swallows A0_now_seatX A0_now_seatY A0_now_curtainX A0_now_curtainFrom A0_now_curtainTo, (A0_now_curtainFrom, .inl (cI, 3, .inl (upd e0_now_curtainFrom_j80 (Int32.toNatClampNeg v1_j80) v2_j80))), (A0_now_curtainTo, .inl (cI, 3, .inl e0_now_curtainTo_j80)), o2 A0_past r1.1 A0_past_kinds A0_past_which A0_past_firsts A0_past_seconds, (A0_past_kinds, .inl (cI, 10, .inl r1.2.1)), (A0_past_which, .inl (cI, 10, .inl r1.2.2.1)), (A0_past_firsts, .inl (cI, 10, .inl r1.2.2.2.1)), (A0_past_seconds, .inl (cI, 10, .inl r1.2.2.2.2))] H := hP
    have hD : va_D A [o5 A0 A0_now A0_draft A0_kept A0_isKept A0_text A0_past A0_ear A0_finder, o3 A0_now c0_now A0_now_swallows A0_now_seatX A0_now_seatY A0_now_curtainX A0_now_curtainFrom A0_now_curtainTo, (A0_now_curtainFrom, .inl (cI, 3, .inl (upd e0_now_curtainFrom_j80 (Int32.toNatClampNeg v1_j80) v2_j80))), (A0_now_curtainTo, .inl (cI, 3, .inl e0_now_curtainTo_j80)), o2 A0_past r1.1 A0_past_kinds A0_past_which A0_past_firsts A0_past_seconds, (A0_past_kinds, .inl (cI, 10, .inl r1.2.1)), (A0_past_which, .inl (cI, 10, .inl r1.2.2.1)), (A0_past_firsts, .inl (cI, 10, .inl r1.2.2.2.1)), (A0_past_seconds, .inl (cI, 10, .inl r1.2.2.2.2))] := hD
    refine lv_aload_n hx hb dX5_draws_103 rfl (lv_at hl 0 rfl) ?_
    refine va_get (D := G) (ci := 5) (v := .ref A0_now) (C := RX5) (T := TX5) (N := 8) hx hb hts (fun w h => (List.mem_cons_of_mem _ (List.mem_append_left _ (List.mem_append_left _ (List.mem_append_right _ h))))) hown hK.1 hP 0 rfl rfl 0 (by decide) (hts (.fieldLink RX5 10 "EchoSeats" "now" "LEchoSeats$Scene;") (List.mem_of_getElem? (i := 1) rfl)) (fun _ h9 => h9) rfl dX5_draws_104 ?_
    refine va_get (D := G) (ci := 3) (v := .ref A0_now_curtainTo) (C := RX3) (T := TX3) (N := 12) hx hb hts (fun w h => (List.mem_cons_of_mem _ (List.mem_append_left _ (List.mem_append_right _ h)))) hown hK.1 hP 1 rfl rfl 11 (by decide) (hts (.fieldLink RX5 104 "EchoSeats$Scene" "curtainTo" "[I") (List.mem_of_getElem? (i := 4) rfl)) (fun _ h9 => h9) rfl dX5_draws_107 ?_
    refine lv_iload_n hx hb dX5_draws_110 rfl (lv_at hl 1 rfl) ?_
    refine lv_iload_n hx hb dX5_draws_111 rfl (lv_at hl 3 rfl) ?_
    have g3 := gd_1 hres
    have hres := gd_2 hres
    refine x_iast hx hb hK hP hD hS 3 rfl (j := (Int32.toNatClampNeg v1_j80)) rfl g3 dX5_draws_112 (fun H locs hP hD hS => ?_)
    have hP : va_P G vwCl [o5 A0 A0_now A0_draft A0_kept A0_isKept A0_text A0_past A0_ear A0_finder, o3 A0_now c0_now A0_now_swallows A0_now_seatX A0_now_seatY A0_now_curtainX A0_now_curtainFrom A0_now_curtainTo, (A0_now_curtainFrom, .inl (cI, 3, .inl (upd e0_now_curtainFrom_j80 (Int32.toNatClampNeg v1_j80) v2_j80))), (A0_now_curtainTo, .inl (cI, 3, .inl (upd e0_now_curtainTo_j80 (Int32.toNatClampNeg v1_j80) v3_j80))), o2 A0_past r1.1 A0_past_kinds A0_past_which A0_past_firsts A0_past_seconds, (A0_past_kinds, .inl (cI, 10, .inl r1.2.1)), (A0_past_which, .inl (cI, 10, .inl r1.2.2.1)), (A0_past_firsts, .inl (cI, 10, .inl r1.2.2.2.1)), (A0_past_seconds, .inl (cI, 10, .inl r1.2.2.2.2))] H := hP
    have hD : va_D A [o5 A0 A0_now A0_draft A0_kept A0_isKept A0_text A0_past A0_ear A0_finder, o3 A0_now c0_now A0_now_swallows A0_now_seatX A0_now_seatY A0_now_curtainX A0_now_curtainFrom A0_now_curtainTo, (A0_now_curtainFrom, .inl (cI, 3, .inl (upd e0_now_curtainFrom_j80 (Int32.toNatClampNeg v1_j80) v2_j80))), (A0_now_curtainTo, .inl (cI, 3, .inl (upd e0_now_curtainTo_j80 (Int32.toNatClampNeg v1_j80) v3_j80))), o2 A0_past r1.1 A0_past_kinds A0_past_which A0_past_firsts A0_past_seconds, (A0_past_kinds, .inl (cI, 10, .inl r1.2.1)), (A0_past_which, .inl (cI, 10, .inl r1.2.2.1)), (A0_past_firsts, .inl (cI, 10, .inl r1.2.2.2.1)), (A0_past_seconds, .inl (cI, 10, .inl r1.2.2.2.2))] := hD
    refine lv_bipush (v := 100) hx hb dX5_draws_113 (by decide) ?_
    refine lv_iload hx hb dX5_draws_115 (lv_at hl 4 rfl) ?_
    refine lv_imul hx hb dX5_draws_117 ?_
    refine lv_iload hx hb dX5_draws_118 (lv_at hl 5 rfl) ?_
    refine lv_iadd hx hb dX5_draws_120 ?_
    obtain rfl := Option.some.inj hres
    exact W.iret hx hb hr (fun t ht hW => ⟨⟨_, (), rfl, rfl, by rw [ht]; exact hP, hD⟩, hS.F ht⟩) hS.2.2 dX5_draws_121
  refine lv_aload_n hx hb dX5_draws_0 rfl (lv_at hl 0 rfl) ?_
  refine va_get (D := G) (ci := 5) (v := .ref A0_now) (C := RX5) (T := TX5) (N := 8) hx hb hts (fun w h => (List.mem_cons_of_mem _ (List.mem_append_left _ (List.mem_append_left _ (List.mem_append_right _ h))))) hown hK.1 hP 0 rfl rfl 0 (by decide) (hts (.fieldLink RX5 10 "EchoSeats" "now" "LEchoSeats$Scene;") (List.mem_of_getElem? (i := 1) rfl)) (fun _ h9 => h9) rfl dX5_draws_1 ?_
  refine lv_iload_n hx hb dX5_draws_4 rfl (lv_at hl 1 rfl) ?_
  obtain ⟨r4, hr4, hres⟩ := bi_1 hres
  refine x_cp (va_runV (As := [.int x1]) (rest := []) ⟨hx, hb, hml, hown, hts⟩ (kX3_hasCurtain l G cI cZ tl A0_now A0_now_swallows A0_now_seatX A0_now_seatY A0_now_curtainX A0_now_curtainFrom A0_now_curtainTo c0_now x1 r4 hr4) (cwV 1 hts gX5_draws_X3_hasCurtain rfl rfl rfl hsX3_hasCurtain ⟨Nat.le_of_ble_eq_true rfl, Nat.le_of_ble_eq_true rfl⟩) ⟨PRO_blind, va_recv hK.1 hP (ci := 3) (q0 := 1) rfl rfl, PRO_at (hP.sub (ws' := [o3 A0_now c0_now A0_now_swallows A0_now_seatX A0_now_seatY A0_now_curtainX A0_now_curtainFrom A0_now_curtainTo]) [1] rfl) hK⟩ rfl rfl hl.1 rfl (lv_room (Nat.le_of_ble_eq_true rfl)) dX5_draws_5 ⟨Nat.zero_le _, Nat.zero_le _⟩) ?_
  refine lv_if_eq (tgt := 41) hx hb dX5_draws_8 (by decide) (fun h5 => ?_) (fun h5 => ?_)
  · have hres := ite_t hres h5
    refine lv_iconst (v := (-1)) hx hb dX5_draws_41 (by decide) ?_
    obtain rfl := Option.some.inj hres
    exact W.iret hx hb hr (fun t ht hW => ⟨⟨_, (), rfl, rfl, by rw [ht]; exact hP, hD⟩, hS.F ht⟩) hS.2.2 dX5_draws_42
  · have hres := ite_f hres h5
    refine lv_iload_n hx hb dX5_draws_11 rfl (lv_at hl 2 rfl) ?_
    refine lv_iconst (v := 0) hx hb dX5_draws_12 (by decide) ?_
    refine lv_aload_n hx hb dX5_draws_13 rfl (lv_at hl 0 rfl) ?_
    refine va_get (D := G) (ci := 5) (v := .ref A0_now) (C := RX5) (T := TX5) (N := 8) hx hb hts (fun w h => (List.mem_cons_of_mem _ (List.mem_append_left _ (List.mem_append_left _ (List.mem_append_right _ h))))) hown hK.1 hP 0 rfl rfl 0 (by decide) (hts (.fieldLink RX5 10 "EchoSeats" "now" "LEchoSeats$Scene;") (List.mem_of_getElem? (i := 1) rfl)) (fun _ h9 => h9) rfl dX5_draws_14 ?_
    refine va_get (D := G) (ci := 3) (v := .int (c0_now 1)) (C := RX3) (T := TX3) (N := 12) hx hb hts (fun w h => (List.mem_cons_of_mem _ (List.mem_append_left _ (List.mem_append_right _ h)))) hown hK.1 hP 1 rfl rfl 1 (by decide) (hts (.fieldLink RX5 111 "EchoSeats$Scene" "breadth" "I") (List.mem_of_getElem? (i := 2) rfl)) (fun _ h9 => h9) rfl dX5_draws_17 ?_
    obtain ⟨r6, hr6, hres⟩ := bi_1 hres
    refine x_cp (va_runS (As := [.int x2, .int 0, .int (c0_now 1)]) (rest := []) ⟨hx, hb, hml, hown, hts⟩ (kX5_isWithin l G cI cZ tl x2 0 (c0_now 1) r6 hr6) (va_cwS 3 hts gX5_draws_X5_isWithin rfl rfl rfl hsX5_isWithin ⟨Nat.le_of_ble_eq_true rfl, Nat.le_of_ble_eq_true rfl⟩) ⟨PRO_blind, PRO_at va_P0 hK⟩ rfl rfl hl.1 rfl (lv_room (Nat.le_of_ble_eq_true rfl)) dX5_draws_20 ⟨Nat.zero_le _, Nat.zero_le _⟩) ?_
    refine lv_if_eq (tgt := 41) hx hb dX5_draws_23 (by decide) (fun h7 => ?_) (fun h7 => ?_)
    · have hres := ite_t hres h7
      refine lv_iconst (v := (-1)) hx hb dX5_draws_41 (by decide) ?_
      obtain rfl := Option.some.inj hres
      exact W.iret hx hb hr (fun t ht hW => ⟨⟨_, (), rfl, rfl, by rw [ht]; exact hP, hD⟩, hS.F ht⟩) hS.2.2 dX5_draws_42
    · have hres := ite_f hres h7
      refine lv_iload_n hx hb dX5_draws_26 rfl (lv_at hl 3 rfl) ?_
      refine lv_iload_n hx hb dX5_draws_27 rfl (lv_at hl 2 rfl) ?_
      refine lv_aload_n hx hb dX5_draws_28 rfl (lv_at hl 0 rfl) ?_
      refine va_get (D := G) (ci := 5) (v := .ref A0_now) (C := RX5) (T := TX5) (N := 8) hx hb hts (fun w h => (List.mem_cons_of_mem _ (List.mem_append_left _ (List.mem_append_left _ (List.mem_append_right _ h))))) hown hK.1 hP 0 rfl rfl 0 (by decide) (hts (.fieldLink RX5 10 "EchoSeats" "now" "LEchoSeats$Scene;") (List.mem_of_getElem? (i := 1) rfl)) (fun _ h9 => h9) rfl dX5_draws_29 ?_
      refine va_get (D := G) (ci := 3) (v := .int (c0_now 1)) (C := RX3) (T := TX3) (N := 12) hx hb hts (fun w h => (List.mem_cons_of_mem _ (List.mem_append_left _ (List.mem_append_right _ h)))) hown hK.1 hP 1 rfl rfl 1 (by decide) (hts (.fieldLink RX5 111 "EchoSeats$Scene" "breadth" "I") (List.mem_of_getElem? (i := 2) rfl)) (fun _ h9 => h9) rfl dX5_draws_32 ?_
      obtain ⟨r8, hr8, hres⟩ := bi_1 hres
      refine x_cp (va_runS (As := [.int x3, .int x2, .int (c0_now 1)]) (rest := []) ⟨hx, hb, hml, hown, hts⟩ (kX5_isWithin l G cI cZ tl x3 x2 (c0_now 1) r8 hr8) (va_cwS 3 hts gX5_draws_X5_isWithin rfl rfl rfl hsX5_isWithin ⟨Nat.le_of_ble_eq_true rfl, Nat.le_of_ble_eq_true rfl⟩) ⟨PRO_blind, PRO_at va_P0 hK⟩ rfl rfl hl.1 rfl (lv_room (Nat.le_of_ble_eq_true rfl)) dX5_draws_35 ⟨Nat.zero_le _, Nat.zero_le _⟩) ?_
      refine lv_if_ne (tgt := 43) hx hb dX5_draws_38 (by decide) (fun h9 => ?_) (fun h9 => ?_)
      · have hres := ite_f hres h9
        refine lv_aload_n hx hb dX5_draws_43 rfl (lv_at hl 0 rfl) ?_
        refine va_get (D := G) (ci := 5) (v := .ref A0_now) (C := RX5) (T := TX5) (N := 8) hx hb hts (fun w h => (List.mem_cons_of_mem _ (List.mem_append_left _ (List.mem_append_left _ (List.mem_append_right _ h))))) hown hK.1 hP 0 rfl rfl 0 (by decide) (hts (.fieldLink RX5 10 "EchoSeats" "now" "LEchoSeats$Scene;") (List.mem_of_getElem? (i := 1) rfl)) (fun _ h9 => h9) rfl dX5_draws_44 ?_
        refine va_get (D := G) (ci := 3) (v := .ref A0_now_curtainFrom) (C := RX3) (T := TX3) (N := 12) hx hb hts (fun w h => (List.mem_cons_of_mem _ (List.mem_append_left _ (List.mem_append_right _ h)))) hown hK.1 hP 1 rfl rfl 10 (by decide) (hts (.fieldLink RX5 101 "EchoSeats$Scene" "curtainFrom" "[I") (List.mem_of_getElem? (i := 3) rfl)) (fun _ h9 => h9) rfl dX5_draws_47 ?_
        refine lv_iload_n hx hb dX5_draws_50 rfl (lv_at hl 1 rfl) ?_
        have g10 := gd_1 hres
        have hres := gd_2 hres
        refine x_iald hx hb hK hP 2 rfl (j := (Int32.toNatClampNeg x1)) rfl g10 dX5_draws_51 ?_
        refine lv_topi (fun y11 ey11 => ?_)
        have hres := bnd_z ey11 hres
        refine lv_istore (lv' := [(4, .int y11), (0, .ref A0), (1, .int x1), (2, .int x2), (3, .int x3)]) hx hb dX5_draws_52 hl (by decide) rfl (fun ls hl => ?_)
        refine lv_aload_n hx hb dX5_draws_54 rfl (lv_at hl 1 rfl) ?_
        refine va_get (D := G) (ci := 5) (v := .ref A0_now) (C := RX5) (T := TX5) (N := 8) hx hb hts (fun w h => (List.mem_cons_of_mem _ (List.mem_append_left _ (List.mem_append_left _ (List.mem_append_right _ h))))) hown hK.1 hP 0 rfl rfl 0 (by decide) (hts (.fieldLink RX5 10 "EchoSeats" "now" "LEchoSeats$Scene;") (List.mem_of_getElem? (i := 1) rfl)) (fun _ h9 => h9) rfl dX5_draws_55 ?_
        refine va_get (D := G) (ci := 3) (v := .ref A0_now_curtainTo) (C := RX3) (T := TX3) (N := 12) hx hb hts (fun w h => (List.mem_cons_of_mem _ (List.mem_append_left _ (List.mem_append_right _ h)))) hown hK.1 hP 1 rfl rfl 11 (by decide) (hts (.fieldLink RX5 104 "EchoSeats$Scene" "curtainTo" "[I") (List.mem_of_getElem? (i := 4) rfl)) (fun _ h9 => h9) rfl dX5_draws_58 ?_
        refine lv_iload_n hx hb dX5_draws_61 rfl (lv_at hl 2 rfl) ?_
        have g12 := gd_1 hres
        have hres := gd_2 hres
        refine x_iald hx hb hK hP 3 rfl (j := (Int32.toNatClampNeg x1)) rfl g12 dX5_draws_62 ?_
        refine lv_topi (fun y13 ey13 => ?_)
        have hres := bnd_z ey13 hres
        refine lv_istore (lv' := [(5, .int y13), (4, .int y11), (0, .ref A0), (1, .int x1), (2, .int x2), (3, .int x3)]) hx hb dX5_draws_63 hl (by decide) rfl (fun ls hl => ?_)
        refine lv_iload hx hb dX5_draws_65 (lv_at hl 1 rfl) ?_
        refine lv_iload_n hx hb dX5_draws_67 rfl (lv_at hl 4 rfl) ?_
        refine lv_icmp_ne (tgt := 80) hx hb dX5_draws_68 (by decide) (fun h14 => ?_) (fun h14 => ?_)
        · have hres := ite_f hres h14
          exact J80 x1 x2 x3 y11 y13 c0_now_curtainFrom c0_now_curtainTo c0_past c0_past_kinds c0_past_which c0_past_firsts c0_past_seconds _ _ _ hres hP hD hS (lv_sub hl [2, 3, 4, 5, 1, 0] rfl)
        · have hres := ite_t hres h14
          refine lv_iload hx hb dX5_draws_71 (lv_at hl 0 rfl) ?_
          refine lv_iload_n hx hb dX5_draws_73 rfl (lv_at hl 5 rfl) ?_
          refine lv_icmp_ne (tgt := 80) hx hb dX5_draws_74 (by decide) (fun h15 => ?_) (fun h15 => ?_)
          · have hres := ite_f hres h15
            exact J80 x1 x2 x3 y11 y13 c0_now_curtainFrom c0_now_curtainTo c0_past c0_past_kinds c0_past_which c0_past_firsts c0_past_seconds _ _ _ hres hP hD hS (lv_sub hl [2, 3, 4, 5, 1, 0] rfl)
          · have hres := ite_t hres h15
            refine lv_bipush (v := (-2)) hx hb dX5_draws_77 (by decide) ?_
            obtain rfl := Option.some.inj hres
            exact W.iret hx hb hr (fun t ht hW => ⟨⟨_, (), rfl, rfl, by rw [ht]; exact hP, hD⟩, hS.F ht⟩) hS.2.2 dX5_draws_79
      · have hres := ite_t hres h9
        refine lv_iconst (v := (-1)) hx hb dX5_draws_41 (by decide) ?_
        obtain rfl := Option.some.inj hres
        exact W.iret hx hb hr (fun t ht hW => ⟨⟨_, (), rfl, rfl, by rw [ht]; exact hP, hD⟩, hS.F ht⟩) hS.2.2 dX5_draws_42
theorem hsX5_draws : yX5_draws.cls = RX5 ∧ yX5_draws.cls ≠ "java/lang/invoke/MethodHandle" ∧ yX5_draws.cls ≠ "java/lang/invoke/VarHandle" ∧ (parseMethodDescriptor yX5_draws.desc).map (fun d => d.parameters.length) = some 3 := by decide +kernel
set_option maxHeartbeats 4000000 in
set_option maxRecDepth 100000 in
theorem kX5_dropKept (l : Launch) (G : va_G) (cI cZ : ClassId) (tl : List (ClassId × FieldType)) (sz : Nat) (A : Nat → Prop) (A0 A0_now A0_draft A0_kept A0_isKept A0_text A0_past A0_ear A0_finder : Nat) (c0_isKept : Nat → Int32) (res : (Nat → Int32)) (hAe : A = va_A [o5 A0 A0_now A0_draft A0_kept A0_isKept A0_text A0_past A0_ear A0_finder, (A0_isKept, .inl (cZ, 2, .inl c0_isKept))] sz) (hres : fX5_dropKept c0_isKept = some res) : Met l yX5_dropKept wsX5_dropKept rX5_dropKept (va_Pc [.ref A0] (PRW G cI cZ tl [o5 A0 A0_now A0_draft A0_kept A0_isKept A0_text A0_past A0_ear A0_finder, (A0_isKept, .inl (cZ, 2, .inl c0_isKept))] sz)) (Qvw G A [o5 A0 A0_now A0_draft A0_kept A0_isKept A0_text A0_past A0_ear A0_finder, (A0_isKept, .inl (cZ, 2, .inl res))]) 0 0 A := by
  refine Met.ofW (cc := cX5_dropKept) (maxL := 2) (ret := none) (by decide) rfl ?_
  intro p e s m args below meth c s₁ B hml hv
  obtain ⟨rfl, hsz, hP, hK, hD0⟩ := hv
  have hx := B.exec
  have hb := B.bytes
  have hr := B.returns
  have hts := atoms_spec (ws := wsX5_dropKept) B.pre
  have hown : s.vm.findClass RX5 = some m.cls := findClass_of_methodNamed B.named
  have hlocks := B.notSynchronized
  subst hsz
  have hD : va_D A [o5 A0 A0_now A0_draft A0_kept A0_isKept A0_text A0_past A0_ear A0_finder, (A0_isKept, .inl (cZ, 2, .inl c0_isKept))] := by rw [hAe]; exact hD0.self
  have hA : ∀ q : Nat, s.heap.size ≤ q → A q := fun q h => by rw [hAe]; exact Or.inr h
  clear hAe hD0
  have hS : va_S A s.heap s.heap [] := va_S.rf
  have hl := lv_entry ([.ref A0] : List Value) (n := 2) (Nat.le_of_ble_eq_true rfl)
  rw [lg_entry_eq]
  generalize (lg_sl ([.ref A0] : List Value) ++ List.replicate (2 - (lg_sl ([.ref A0] : List Value)).length) Slot.unset).toArray = ls at hl ⊢
  have hl : lv_has ls 2 [(0, .ref A0)] := hl
  refine lv_iconst (v := 0) hx hb dX5_dropKept_0 (by decide) ?_
  refine lv_istore_n (lv' := [(1, .int 0), (0, .ref A0)]) hx hb dX5_dropKept_1 rfl hl (by decide) rfl (fun ls hl => ?_)
  have Q2 : ∀ (n2 : Nat) (v1_L2 : Int32) (e0_isKept_L2 : (Nat → Int32)) (H : Heap) (locs : List Loc) (ls : Array Slot), LPX (fX5_dropKept_L2) n2 (v1_L2, e0_isKept_L2) = some res → va_P G vwCl [o5 A0 A0_now A0_draft A0_kept A0_isKept A0_text A0_past A0_ear A0_finder, (A0_isKept, .inl (cZ, 2, .inl e0_isKept_L2))] H → va_D A [o5 A0 A0_now A0_draft A0_kept A0_isKept A0_text A0_past A0_ear A0_finder, (A0_isKept, .inl (cZ, 2, .inl e0_isKept_L2))] → va_S A s.heap H locs → lv_has ls 2 [(0, .ref A0), (1, .int v1_L2)] → WRW p l e wsX5_dropKept rX5_dropKept s m ([.ref A0] : List Value).toArray below meth c H locs (Qvw G A [o5 A0 A0_now A0_draft A0_kept A0_isKept A0_text A0_past A0_ear A0_finder, (A0_isKept, .inl (cZ, 2, .inl res))]) A (F0 m 2 ls []) := by
    intro n2
    induction n2 with
    | zero =>
      intro v1_L2 e0_isKept_L2 H locs ls hres
      exact absurd (LPX_0.symm.trans hres) (fun h => by cases h)
    | succ n2 ih2 =>
      intro v1_L2 e0_isKept_L2 H locs ls hres hP hD hS hl
      have hres := LPX_s.symm.trans hres
      refine lv_iload_n hx hb dX5_dropKept_2 rfl (lv_at hl 1 rfl) ?_
      refine lv_iconst (v := 2) hx hb dX5_dropKept_3 (by decide) ?_
      refine lv_icmp_ge (tgt := 20) hx hb dX5_dropKept_4 (by decide) (fun h1 => ?_) (fun h1 => ?_)
      · have hres := ite_t hres h1
        obtain rfl := Option.some.inj hres
        exact W.vret hx hb hr (fun t ht hW => ⟨⟨(), rfl, trivial, by rw [ht]; exact hP, hD⟩, hS.F ht⟩) hS.2.2 dX5_dropKept_20
      · have hres := ite_f hres h1
        refine lv_aload_n hx hb dX5_dropKept_7 rfl (lv_at hl 0 rfl) ?_
        refine va_get (D := G) (ci := 5) (v := .ref A0_isKept) (C := RX5) (T := TX5) (N := 8) hx hb hts (fun w h => (List.mem_cons_of_mem _ (List.mem_append_right _ h))) hown hK.1 hP 0 rfl rfl 3 (by decide) (hts (.fieldLink RX5 23 "EchoSeats" "isKept" "[Z") (List.mem_of_getElem? (i := 1) rfl)) (fun _ h9 => h9) rfl dX5_dropKept_8 ?_
        refine lv_iload_n hx hb dX5_dropKept_11 rfl (lv_at hl 1 rfl) ?_
        refine lv_iconst (v := 0) hx hb dX5_dropKept_12 (by decide) ?_
        have g2 := gd_1 hres
        have hres := gd_2 hres
        refine x_zast hx hb hK hP hD hS 1 rfl (j := (Int32.toNatClampNeg v1_L2)) rfl g2 (by decide) dX5_dropKept_13 (fun H locs hP hD hS => ?_)
        have hP : va_P G vwCl [o5 A0 A0_now A0_draft A0_kept A0_isKept A0_text A0_past A0_ear A0_finder, (A0_isKept, .inl (cZ, 2, .inl (upd e0_isKept_L2 (Int32.toNatClampNeg v1_L2) 0)))] H := hP
        have hD : va_D A [o5 A0 A0_now A0_draft A0_kept A0_isKept A0_text A0_past A0_ear A0_finder, (A0_isKept, .inl (cZ, 2, .inl (upd e0_isKept_L2 (Int32.toNatClampNeg v1_L2) 0)))] := hD
        refine lv_iinc (v := (v1_L2 + 1)) (lv' := [(1, .int (v1_L2 + 1)), (0, .ref A0)]) hx hb dX5_dropKept_14 hl (k := 1) rfl rfl (by decide) rfl (fun ls hl => ?_)
        refine lv_goto (tgt := 2) hx hb dX5_dropKept_17 (by decide) ?_
        exact ih2 (v1_L2 + 1) (upd e0_isKept_L2 (Int32.toNatClampNeg v1_L2) 0) _ _ _ hres hP hD hS (lv_sub hl [1, 0] rfl)
  exact Q2 FU 0 c0_isKept _ _ _ hres hP hD hS (lv_sub hl [1, 0] rfl)
theorem hsX5_dropKept : yX5_dropKept.cls = RX5 ∧ yX5_dropKept.cls ≠ "java/lang/invoke/MethodHandle" ∧ yX5_dropKept.cls ≠ "java/lang/invoke/VarHandle" ∧ (parseMethodDescriptor yX5_dropKept.desc).map (fun d => d.parameters.length) = some 0 := by decide +kernel
set_option maxHeartbeats 4000000 in
set_option maxRecDepth 100000 in
theorem kX5_leastTerm (l : Launch) (G : va_G) (cI cZ : ClassId) (tl : List (ClassId × FieldType)) (x0 x1 x2 : Int32) (res : Int32) (hres : fX5_leastTerm x0 x1 x2 = some res) : Met l yX5_leastTerm wsX5_leastTerm rX5_leastTerm (va_Pc [.int x0, .int x1, .int x2] (PRO G cI cZ tl [])) (Sp res) 0 0 (fun _ => False) := by
  refine Met.ofW (cc := cX5_leastTerm) (maxL := 4) (ret := (some .int)) (by decide) rfl ?_
  intro p e s m args below meth c s₁ B hml hv
  obtain ⟨rfl, hP, hK⟩ := hv
  have hx := B.exec
  have hb := B.bytes
  have hr := B.returns
  have hts := atoms_spec (ws := wsX5_leastTerm) B.pre
  have hown : s.vm.findClass RX5 = some m.cls := findClass_of_methodNamed B.named
  have hlocks := B.notSynchronized
  have hl := lv_entry ([.int x0, .int x1, .int x2] : List Value) (n := 4) (Nat.le_of_ble_eq_true rfl)
  rw [lg_entry_eq]
  generalize (lg_sl ([.int x0, .int x1, .int x2] : List Value) ++ List.replicate (4 - (lg_sl ([.int x0, .int x1, .int x2] : List Value)).length) Slot.unset).toArray = ls at hl ⊢
  have hl : lv_has ls 4 [(0, .int x0), (1, .int x1), (2, .int x2)] := hl
  refine lv_iload_n hx hb dX5_leastTerm_0 rfl (lv_at hl 0 rfl) ?_
  refine lv_if_le (tgt := 8) hx hb dX5_leastTerm_1 (by decide) (fun h1 => ?_) (fun h1 => ?_)
  · have hres := ite_t hres h1
    refine lv_iload_n hx hb dX5_leastTerm_8 rfl (lv_at hl 2 rfl) ?_
    obtain rfl := Option.some.inj hres
    exact W.iret hx hb hr (fun t ht hW => ⟨rfl, ht⟩) (fun q h => absurd h List.not_mem_nil) dX5_leastTerm_9
  · have hres := ite_f hres h1
    refine lv_iload_n hx hb dX5_leastTerm_4 rfl (lv_at hl 1 rfl) ?_
    refine lv_if_gt (tgt := 10) hx hb dX5_leastTerm_5 (by decide) (fun h2 => ?_) (fun h2 => ?_)
    · have hres := ite_t hres h2
      refine lv_iload_n hx hb dX5_leastTerm_10 rfl (lv_at hl 0 rfl) ?_
      refine lv_iload_n hx hb dX5_leastTerm_11 rfl (lv_at hl 1 rfl) ?_
      obtain ⟨r3, hr3, hres⟩ := bi_1 hres
      refine x_cp (va_runS (As := [.int x0, .int x1]) (rest := []) ⟨hx, hb, hml, hown, hts⟩ (kX5_commonDivisor l G cI cZ tl x0 x1 r3 hr3) (va_cwS 2 hts gX5_leastTerm_X5_commonDivisor rfl rfl rfl hsX5_commonDivisor ⟨Nat.le_of_ble_eq_true rfl, Nat.le_of_ble_eq_true rfl⟩) ⟨PRO_blind, PRO_at va_P0 hK⟩ rfl rfl hl.1 rfl (lv_room (Nat.le_of_ble_eq_true rfl)) dX5_leastTerm_12 ⟨Nat.zero_le _, Nat.zero_le _⟩) ?_
      refine lv_istore_n (lv' := [(3, .int r3), (0, .int x0), (1, .int x1), (2, .int x2)]) hx hb dX5_leastTerm_15 rfl hl (by decide) rfl (fun ls hl => ?_)
      refine lv_iload_n hx hb dX5_leastTerm_16 rfl (lv_at hl 3 rfl) ?_
      refine lv_if_ne (tgt := 24) hx hb dX5_leastTerm_17 (by decide) (fun h4 => ?_) (fun h4 => ?_)
      · have hres := ite_f hres h4
        refine lv_iload_n hx hb dX5_leastTerm_24 rfl (lv_at hl 2 rfl) ?_
        refine lv_iconst (v := 1) hx hb dX5_leastTerm_25 (by decide) ?_
        refine lv_iload_n hx hb dX5_leastTerm_26 rfl (lv_at hl 0 rfl) ?_
        refine va_mmax hx hb (hml.trans hl.1.symm) hown (hts (.methodLink RX5 205 Lib.Math.max.name) (List.mem_of_getElem? (i := 1) rfl)) (hts (.static Lib.Math.max.name) (List.mem_of_getElem? (i := 2) rfl)) (hts (.initialized "java/lang/Math") (List.mem_of_getElem? (i := 3) rfl)) (hts (.code Lib.Math.max.name Lib.Math.max.code 2 (some .int)) (List.mem_of_getElem? (i := 4) rfl)) (Nat.le_of_ble_eq_true rfl) (Nat.le_of_ble_eq_true rfl) (Nat.zero_le _) (Nat.zero_le _) dX5_leastTerm_27 ?_
        have g5 := gd_1 hres
        have hres := gd_2 hres
        refine lv_idiv hx hb dX5_leastTerm_30 g5 ?_
        obtain rfl := Option.some.inj hres
        exact W.iret hx hb hr (fun t ht hW => ⟨rfl, ht⟩) (fun q h => absurd h List.not_mem_nil) dX5_leastTerm_31
      · have hres := ite_t hres h4
        refine lv_iload_n hx hb dX5_leastTerm_20 rfl (lv_at hl 1 rfl) ?_
        refine lv_goto (tgt := 25) hx hb dX5_leastTerm_21 (by decide) ?_
        refine lv_iconst (v := 1) hx hb dX5_leastTerm_25 (by decide) ?_
        refine lv_iload_n hx hb dX5_leastTerm_26 rfl (lv_at hl 0 rfl) ?_
        refine va_mmax hx hb (hml.trans hl.1.symm) hown (hts (.methodLink RX5 205 Lib.Math.max.name) (List.mem_of_getElem? (i := 1) rfl)) (hts (.static Lib.Math.max.name) (List.mem_of_getElem? (i := 2) rfl)) (hts (.initialized "java/lang/Math") (List.mem_of_getElem? (i := 3) rfl)) (hts (.code Lib.Math.max.name Lib.Math.max.code 2 (some .int)) (List.mem_of_getElem? (i := 4) rfl)) (Nat.le_of_ble_eq_true rfl) (Nat.le_of_ble_eq_true rfl) (Nat.zero_le _) (Nat.zero_le _) dX5_leastTerm_27 ?_
        have g6 := gd_1 hres
        have hres := gd_2 hres
        refine lv_idiv hx hb dX5_leastTerm_30 g6 ?_
        obtain rfl := Option.some.inj hres
        exact W.iret hx hb hr (fun t ht hW => ⟨rfl, ht⟩) (fun q h => absurd h List.not_mem_nil) dX5_leastTerm_31
    · have hres := ite_f hres h2
      refine lv_iload_n hx hb dX5_leastTerm_8 rfl (lv_at hl 2 rfl) ?_
      obtain rfl := Option.some.inj hres
      exact W.iret hx hb hr (fun t ht hW => ⟨rfl, ht⟩) (fun q h => absurd h List.not_mem_nil) dX5_leastTerm_9
theorem hsX5_leastTerm : yX5_leastTerm.cls ≠ "java/lang/invoke/MethodHandle" ∧ yX5_leastTerm.cls ≠ "java/lang/invoke/VarHandle" ∧ (parseMethodDescriptor yX5_leastTerm.desc).map (fun d => d.parameters.length) = some 3 := by decide +kernel
