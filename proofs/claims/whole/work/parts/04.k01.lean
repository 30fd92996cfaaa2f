set_option maxHeartbeats 4000000 in
set_option maxRecDepth 100000 in
theorem kX0_insert (l : Launch) (G : va_G) (cI cZ : ClassId) (tl : List (ClassId × FieldType)) (sz : Nat) (A : Nat → Prop) (A0 A0_is A0_js A0_ways A0_times A0_strengths A0_deafened A1 A1_swallows A1_seatX A1_seatY A1_curtainX A1_curtainFrom A1_curtainTo : Nat) (c0 c0_times c0_is c0_js c0_ways c0_strengths c1 c1_swallows : Nat → Int32) (x2 x3 x4 : Int32) (res : (Nat → Int32) × (Nat → Int32) × (Nat → Int32) × (Nat → Int32) × (Nat → Int32) × (Nat → Int32)) (hAe : A = va_A [o0 A0 c0 A0_is A0_js A0_ways A0_times A0_strengths A0_deafened, (A0_times, .inl (cI, 25, .inl c0_times)), (A0_is, .inl (cI, 25, .inl c0_is)), (A0_js, .inl (cI, 25, .inl c0_js)), (A0_ways, .inl (cI, 25, .inl c0_ways)), (A0_strengths, .inl (cI, 25, .inl c0_strengths)), o3 A1 c1 A1_swallows A1_seatX A1_seatY A1_curtainX A1_curtainFrom A1_curtainTo, (A1_swallows, .inl (cI, 4, .inl c1_swallows))] sz) (hres : fX0_insert c0 c0_times c0_is c0_js c0_ways c0_strengths c1 c1_swallows x2 x3 x4 = some res) : Met l yX0_insert wsX0_insert rX0_insert (va_Pc [.ref A0, .ref A1, .int x2, .int x3, .int x4] (PRW G cI cZ tl [o0 A0 c0 A0_is A0_js A0_ways A0_times A0_strengths A0_deafened, (A0_times, .inl (cI, 25, .inl c0_times)), (A0_is, .inl (cI, 25, .inl c0_is)), (A0_js, .inl (cI, 25, .inl c0_js)), (A0_ways, .inl (cI, 25, .inl c0_ways)), (A0_strengths, .inl (cI, 25, .inl c0_strengths)), o3 A1 c1 A1_swallows A1_seatX A1_seatY A1_curtainX A1_curtainFrom A1_curtainTo, (A1_swallows, .inl (cI, 4, .inl c1_swallows))] sz)) (Qvw G A [o0 A0 res.1 A0_is A0_js A0_ways A0_times A0_strengths A0_deafened, (A0_times, .inl (cI, 25, .inl res.2.1)), (A0_is, .inl (cI, 25, .inl res.2.2.1)), (A0_js, .inl (cI, 25, .inl res.2.2.2.1)), (A0_ways, .inl (cI, 25, .inl res.2.2.2.2.1)), (A0_strengths, .inl (cI, 25, .inl res.2.2.2.2.2)), o3 A1 c1 A1_swallows A1_seatX A1_seatY A1_curtainX A1_curtainFrom A1_curtainTo, (A1_swallows, .inl (cI, 4, .inl c1_swallows))]) 0 0 A := by
  refine Met.ofW (cc := cX0_insert) (maxL := 7) (ret := none) (by decide) rfl ?_
  intro p e s m args below meth c s₁ B hml hv
  obtain ⟨rfl, hsz, hP, hK, hD0⟩ := hv
  have hx := B.exec
  have hb := B.bytes
  have hr := B.returns
  have hts := atoms_spec (ws := wsX0_insert) B.pre
  have hown : s.vm.findClass RX0 = some m.cls := findClass_of_methodNamed B.named
  have hlocks := B.notSynchronized
  subst hsz
  have hD : va_D A [o0 A0 c0 A0_is A0_js A0_ways A0_times A0_strengths A0_deafened, (A0_times, .inl (cI, 25, .inl c0_times)), (A0_is, .inl (cI, 25, .inl c0_is)), (A0_js, .inl (cI, 25, .inl c0_js)), (A0_ways, .inl (cI, 25, .inl c0_ways)), (A0_strengths, .inl (cI, 25, .inl c0_strengths)), o3 A1 c1 A1_swallows A1_seatX A1_seatY A1_curtainX A1_curtainFrom A1_curtainTo, (A1_swallows, .inl (cI, 4, .inl c1_swallows))] := by rw [hAe]; exact hD0.self
  have hA : ∀ q : Nat, s.heap.size ≤ q → A q := fun q h => by rw [hAe]; exact Or.inr h
  clear hAe hD0
  have hS : va_S A s.heap s.heap [] := va_S.rf
  have hl := lv_entry ([.ref A0, .ref A1, .int x2, .int x3, .int x4] : List Value) (n := 7) (Nat.le_of_ble_eq_true rfl)
  rw [lg_entry_eq]
  generalize (lg_sl ([.ref A0, .ref A1, .int x2, .int x3, .int x4] : List Value) ++ List.replicate (7 - (lg_sl ([.ref A0, .ref A1, .int x2, .int x3, .int x4] : List Value)).length) Slot.unset).toArray = ls at hl ⊢
  have hl : lv_has ls 7 [(0, .ref A0), (1, .ref A1), (2, .int x2), (3, .int x3), (4, .int x4)] := hl
  have J54 : ∀ (v2_j54 : Int32) (v3_j54 : Int32) (v4_j54 : Int32) (v5_j54 : Int32) (v6_j54 : Int32) (e0_j54 : (Nat → Int32)) (e0_times_j54 : (Nat → Int32)) (e0_is_j54 : (Nat → Int32)) (e0_js_j54 : (Nat → Int32)) (e0_ways_j54 : (Nat → Int32)) (e0_strengths_j54 : (Nat → Int32)) (H : Heap) (locs : List Loc) (ls : Array Slot), fX0_insert_j54 c1 c1_swallows v2_j54 v3_j54 v4_j54 v5_j54 v6_j54 e0_j54 e0_times_j54 e0_is_j54 e0_js_j54 e0_ways_j54 e0_strengths_j54 = some res → va_P G vwCl [o0 A0 e0_j54 A0_is A0_js A0_ways A0_times A0_strengths A0_deafened, (A0_times, .inl (cI, 25, .inl e0_times_j54)), (A0_is, .inl (cI, 25, .inl e0_is_j54)), (A0_js, .inl (cI, 25, .inl e0_js_j54)), (A0_ways, .inl (cI, 25, .inl e0_ways_j54)), (A0_strengths, .inl (cI, 25, .inl e0_strengths_j54)), o3 A1 c1 A1_swallows A1_seatX A1_seatY A1_curtainX A1_curtainFrom A1_curtainTo, (A1_swallows, .inl (cI, 4, .inl c1_swallows))] H → va_D A [o0 A0 e0_j54 A0_is A0_js A0_ways A0_times A0_strengths A0_deafened, (A0_times, .inl (cI, 25, .inl e0_times_j54)), (A0_is, .inl (cI, 25, .inl e0_is_j54)), (A0_js, .inl (cI, 25, .inl e0_js_j54)), (A0_ways, .inl (cI, 25, .inl e0_ways_j54)), (A0_strengths, .inl (cI, 25, .inl e0_strengths_j54)), o3 A1 c1 A1_swallows A1_seatX A1_seatY A1_curtainX A1_curtainFrom A1_curtainTo, (A1_swallows, .inl (cI, 4, .inl c1_swallows))] → va_S A s.heap H locs → lv_has ls 7 [(0, .ref A0), (1, .ref A1), (2, .int v2_j54), (3, .int v3_j54), (4, .int v4_j54), (5, .int v5_j54), (6, .int v6_j54)] → WRW p l e wsX0_insert rX0_insert s m ([.ref A0, .ref A1, .int x2, .int x3, .int x4] : List Value).toArray below meth c H locs (Qvw G A [o0 A0 res.1 A0_is A0_js A0_ways A0_times A0_strengths A0_deafened, (A0_times, .inl (cI, 25, .inl res.2.1)), (A0_is, .inl (cI, 25, .inl res.2.2.1)), (A0_js, .inl (cI, 25, .inl res.2.2.2.1)), (A0_ways, .inl (cI, 25, .inl res.2.2.2.2.1)), (A0_strengths, .inl (cI, 25, .inl res.2.2.2.2.2)), o3 A1 c1 A1_swallows A1_seatX A1_seatY A1_curtainX A1_curtainFrom A1_curtainTo, (A1_swallows, .inl (cI, 4, .inl c1_swallows))]) A (F0 m 54 ls []) := by
    intro v2_j54 v3_j54 v4_j54 v5_j54 v6_j54 e0_j54 e0_times_j54 e0_is_j54 e0_js_j54 e0_ways_j54 e0_strengths_j54 H locs ls hres hP hD hS hl
    refine lv_aload_n hx hb dX0_insert_54 rfl (lv_at hl 0 rfl) ?_
    refine va_get (D := G) (ci := 0) (v := .ref A0_is) (C := RX0) (T := TX0) (N := 8) hx hb hts (fun w h => (List.mem_cons_of_mem _ (List.mem_append_left _ (List.mem_append_right _ h)))) hown hK.1 hP 0 rfl rfl 0 (by decide) (hts (.fieldLink RX0 9 "EchoSeats$Ear" "is" "[I") (List.mem_of_getElem? (i := 3) rfl)) (fun _ h9 => h9) rfl dX0_insert_55 ?_
    refine lv_iload hx hb dX0_insert_58 (lv_at hl 6 rfl) ?_
    refine lv_iload_n hx hb dX0_insert_60 rfl (lv_at hl 2 rfl) ?_
    have g1 := gd_1 hres
    have hres := gd_2 hres
    refine x_iast hx hb hK hP hD hS 2 rfl (j := (Int32.toNatClampNeg v6_j54)) rfl g1 dX0_insert_61 (fun H locs hP hD hS => ?_)
    have hP : va_P G vwCl [o0 A0 e0_j54 A0_is A0_js A0_ways A0_times A0_strengths A0_deafened, (A0_times, .inl (cI, 25, .inl e0_times_j54)), (A0_is, .inl (cI, 25, .inl (upd e0_is_j54 (Int32.toNatClampNeg v6_j54) v2_j54))), (A0_js, .inl (cI, 25, .inl e0_js_j54)), (A0_ways, .inl (cI, 25, .inl e0_ways_j54)), (A0_strengths, .inl (cI, 25, .inl e0_strengths_j54)), o3 A1 c1 A1_swallows A1_seatX A1_seatY A1_curtainX A1_curtainFrom A1_curtainTo, (A1_swallows, .inl (cI, 4, .inl c1_swallows))] H := hP
    have hD : va_D A [o0 A0 e0_j54 A0_is A0_js A0_ways A0_times A0_strengths A0_deafened, (A0_times, .inl (cI, 25, .inl e0_times_j54)), (A0_is, .inl (cI, 25, .inl (upd e0_is_j54 (Int32.toNatClampNeg v6_j54) v2_j54))), (A0_js, .inl (cI, 25, .inl e0_js_j54)), (A0_ways, .inl (cI, 25, .inl e0_ways_j54)), (A0_strengths, .inl (cI, 25, .inl e0_strengths_j54)), o3 A1 c1 A1_swallows A1_seatX A1_seatY A1_curtainX A1_curtainFrom A1_curtainTo, (A1_swallows, .inl (cI, 4, .inl c1_swallows))] := hD
    refine lv_aload_n hx hb dX0_insert_62 rfl (lv_at hl 0 rfl) ?_
    refine va_get (D := G) (ci := 0) (v := .ref A0_js) (C := RX0) (T := TX0) (N := 8) hx hb hts (fun w h => (List.mem_cons_of_mem _ (List.mem_append_left _ (List.mem_append_right _ h)))) hown hK.1 hP 0 rfl rfl 1 (by decide) (hts (.fieldLink RX0 15 "EchoSeats$Ear" "js" "[I") (List.mem_of_getElem? (i := 4) rfl)) (fun _ h9 => h9) rfl dX0_insert_63 ?_
    refine lv_iload hx hb dX0_insert_66 (lv_at hl 6 rfl) ?_
    refine lv_iload_n hx hb dX0_insert_68 rfl (lv_at hl 3 rfl) ?_
    have g2 := gd_1 hres
    have hres := gd_2 hres
    refine x_iast hx hb hK hP hD hS 3 rfl (j := (Int32.toNatClampNeg v6_j54)) rfl g2 dX0_insert_69 (fun H locs hP hD hS => ?_)
    have hP : va_P G vwCl [o0 A0 e0_j54 A0_is A0_js A0_ways A0_times A0_strengths A0_deafened, (A0_times, .inl (cI, 25, .inl e0_times_j54)), (A0_is, .inl (cI, 25, .inl (upd e0_is_j54 (Int32.toNatClampNeg v6_j54) v2_j54))), (A0_js, .inl (cI, 25, .inl (upd e0_js_j54 (Int32.toNatClampNeg v6_j54) v3_j54))), (A0_ways, .inl (cI, 25, .inl e0_ways_j54)), (A0_strengths, .inl (cI, 25, .inl e0_strengths_j54)), o3 A1 c1 A1_swallows A1_seatX A1_seatY A1_curtainX A1_curtainFrom A1_curtainTo, (A1_swallows, .inl (cI, 4, .inl c1_swallows))] H := hP
    have hD : va_D A [o0 A0 e0_j54 A0_is A0_js A0_ways A0_times A0_strengths A0_deafened, (A0_times, .inl (cI, 25, .inl e0_times_j54)), (A0_is, .inl (cI, 25, .inl (upd e0_is_j54 (Int32.toNatClampNeg v6_j54) v2_j54))), (A0_js, .inl (cI, 25, .inl (upd e0_js_j54 (Int32.toNatClampNeg v6_j54) v3_j54))), (A0_ways, .inl (cI, 25, .inl e0_ways_j54)), (A0_strengths, .inl (cI, 25, .inl e0_strengths_j54)), o3 A1 c1 A1_swallows A1_seatX A1_seatY A1_curtainX A1_curtainFrom A1_curtainTo, (A1_swallows, .inl (cI, 4, .inl c1_swallows))] := hD
    refine lv_aload_n hx hb dX0_insert_70 rfl (lv_at hl 0 rfl) ?_
    refine va_get (D := G) (ci := 0) (v := .ref A0_ways) (C := RX0) (T := TX0) (N := 8) hx hb hts (fun w h => (List.mem_cons_of_mem _ (List.mem_append_left _ (List.mem_append_right _ h)))) hown hK.1 hP 0 rfl rfl 2 (by decide) (hts (.fieldLink RX0 18 "EchoSeats$Ear" "ways" "[I") (List.mem_of_getElem? (i := 5) rfl)) (fun _ h9 => h9) rfl dX0_insert_71 ?_
    refine lv_iload hx hb dX0_insert_74 (lv_at hl 6 rfl) ?_
    refine lv_iload hx hb dX0_insert_76 (lv_at hl 4 rfl) ?_
    have g3 := gd_1 hres
    have hres := gd_2 hres
    refine x_iast hx hb hK hP hD hS 4 rfl (j := (Int32.toNatClampNeg v6_j54)) rfl g3 dX0_insert_78 (fun H locs hP hD hS => ?_)
    have hP : va_P G vwCl [o0 A0 e0_j54 A0_is A0_js A0_ways A0_times A0_strengths A0_deafened, (A0_times, .inl (cI, 25, .inl e0_times_j54)), (A0_is, .inl (cI, 25, .inl (upd e0_is_j54 (Int32.toNatClampNeg v6_j54) v2_j54))), (A0_js, .inl (cI, 25, .inl (upd e0_js_j54 (Int32.toNatClampNeg v6_j54) v3_j54))), (A0_ways, .inl (cI, 25, .inl (upd e0_ways_j54 (Int32.toNatClampNeg v6_j54) v4_j54))), (A0_strengths, .inl (cI, 25, .inl e0_strengths_j54)), o3 A1 c1 A1_swallows A1_seatX A1_seatY A1_curtainX A1_curtainFrom A1_curtainTo, (A1_swallows, .inl (cI, 4, .inl c1_swallows))] H := hP
    have hD : va_D A [o0 A0 e0_j54 A0_is A0_js A0_ways A0_times A0_strengths A0_deafened, (A0_times, .inl (cI, 25, .inl e0_times_j54)), (A0_is, .inl (cI, 25, .inl (upd e0_is_j54 (Int32.toNatClampNeg v6_j54) v2_j54))), (A0_js, .inl (cI, 25, .inl (upd e0_js_j54 (Int32.toNatClampNeg v6_j54) v3_j54))), (A0_ways, .inl (cI, 25, .inl (upd e0_ways_j54 (Int32.toNatClampNeg v6_j54) v4_j54))), (A0_strengths, .inl (cI, 25, .inl e0_strengths_j54)), o3 A1 c1 A1_swallows A1_seatX A1_seatY A1_curtainX A1_curtainFrom A1_curtainTo, (A1_swallows, .inl (cI, 4, .inl c1_swallows))] := hD
    refine lv_aload_n hx hb dX0_insert_79 rfl (lv_at hl 0 rfl) ?_
    refine va_get (D := G) (ci := 0) (v := .ref A0_times) (C := RX0) (T := TX0) (N := 8) hx hb hts (fun w h => (List.mem_cons_of_mem _ (List.mem_append_left _ (List.mem_append_right _ h)))) hown hK.1 hP 0 rfl rfl 3 (by decide) (hts (.fieldLink RX0 21 "EchoSeats$Ear" "times" "[I") (List.mem_of_getElem? (i := 2) rfl)) (fun _ h9 => h9) rfl dX0_insert_80 ?_
    refine lv_iload hx hb dX0_insert_83 (lv_at hl 6 rfl) ?_
    refine lv_iload hx hb dX0_insert_85 (lv_at hl 5 rfl) ?_
    have g4 := gd_1 hres
    have hres := gd_2 hres
    refine x_iast hx hb hK hP hD hS 1 rfl (j := (Int32.toNatClampNeg v6_j54)) rfl g4 dX0_insert_87 (fun H locs hP hD hS => ?_)
    have hP : va_P G vwCl [o0 A0 e0_j54 A0_is A0_js A0_ways A0_times A0_strengths A0_deafened, (A0_times, .inl (cI, 25, .inl (upd e0_times_j54 (Int32.toNatClampNeg v6_j54) v5_j54))), (A0_is, .inl (cI, 25, .inl (upd e0_is_j54 (Int32.toNatClampNeg v6_j54) v2_j54))), (A0_js, .inl (cI, 25, .inl (upd e0_js_j54 (Int32.toNatClampNeg v6_j54) v3_j54))), (A0_ways, .inl (cI, 25, .inl (upd e0_ways_j54 (Int32.toNatClampNeg v6_j54) v4_j54))), (A0_strengths, .inl (cI, 25, .inl e0_strengths_j54)), o3 A1 c1 A1_swallows A1_seatX A1_seatY A1_curtainX A1_curtainFrom A1_curtainTo, (A1_swallows, .inl (cI, 4, .inl c1_swallows))] H := hP
    have hD : va_D A [o0 A0 e0_j54 A0_is A0_js A0_ways A0_times A0_strengths A0_deafened, (A0_times, .inl (cI, 25, .inl (upd e0_times_j54 (Int32.toNatClampNeg v6_j54) v5_j54))), (A0_is, .inl (cI, 25, .inl (upd e0_is_j54 (Int32.toNatClampNeg v6_j54) v2_j54))), (A0_js, .inl (cI, 25, .inl (upd e0_js_j54 (Int32.toNatClampNeg v6_j54) v3_j54))), (A0_ways, .inl (cI, 25, .inl (upd e0_ways_j54 (Int32.toNatClampNeg v6_j54) v4_j54))), (A0_strengths, .inl (cI, 25, .inl e0_strengths_j54)), o3 A1 c1 A1_swallows A1_seatX A1_seatY A1_curtainX A1_curtainFrom A1_curtainTo, (A1_swallows, .inl (cI, 4, .inl c1_swallows))] := hD
    refine lv_aload_n hx hb dX0_insert_88 rfl (lv_at hl 0 rfl) ?_
    refine va_get (D := G) (ci := 0) (v := .ref A0_strengths) (C := RX0) (T := TX0) (N := 8) hx hb hts (fun w h => (List.mem_cons_of_mem _ (List.mem_append_left _ (List.mem_append_right _ h)))) hown hK.1 hP 0 rfl rfl 4 (by decide) (hts (.fieldLink RX0 24 "EchoSeats$Ear" "strengths" "[I") (List.mem_of_getElem? (i := 6) rfl)) (fun _ h9 => h9) rfl dX0_insert_89 ?_
    refine lv_iload hx hb dX0_insert_92 (lv_at hl 6 rfl) ?_
    refine lv_aload_n hx hb dX0_insert_94 rfl (lv_at hl 1 rfl) ?_
    refine va_get (D := G) (ci := 3) (v := .ref A1_swallows) (C := RX3) (T := TX3) (N := 12) hx hb hts (fun w h => (List.mem_cons_of_mem _ (List.mem_append_right _ h))) hown hK.1 hP 6 rfl rfl 6 (by decide) (hts (.fieldLink RX0 74 "EchoSeats$Scene" "swallows" "[I") (List.mem_of_getElem? (i := 7) rfl)) (fun _ h9 => h9) rfl dX0_insert_95 ?_
    refine lv_iload_n hx hb dX0_insert_98 rfl (lv_at hl 2 rfl) ?_
    refine lv_iload_n hx hb dX0_insert_99 rfl (lv_at hl 3 rfl) ?_
    refine lv_iload hx hb dX0_insert_100 (lv_at hl 4 rfl) ?_
    obtain ⟨r5, hr5, hres⟩ := bi_1 hres
    refine x_cp (va_runSN (As := [.ref A1_swallows, .int v2_j54, .int v3_j54, .int v4_j54]) (rest := [.int v6_j54, .ref A0_strengths]) ⟨hx, hb, hml, hown, hts⟩ (kX5_strengthOf l G cI cZ tl A1_swallows c1_swallows v2_j54 v3_j54 v4_j54 r5 hr5) ⟨va_cnB 4 hts gX0_insert_X5_strengthOf_n77 rfl rfl rfl hK.2.2.2.2.2.2.1 (hts (.initialized RX5) (List.mem_of_getElem? (i := 10) rfl)) hsX5_strengthOf ⟨Nat.le_of_ble_eq_true rfl, Nat.le_of_ble_eq_true rfl⟩, (hts (.static yX5_strengthOf) (List.mem_of_getElem? (i := 17) rfl)), trivial⟩ ⟨PRO_blind, PRO_at (hP.sub (ws' := [(A1_swallows, .inl (cI, 4, .inl c1_swallows))]) [7] rfl) hK⟩ rfl rfl hl.1 rfl (lv_room (Nat.le_of_ble_eq_true rfl)) dX0_insert_102 ⟨Nat.zero_le _, Nat.zero_le _⟩) ?_
    have g6 := gd_1 hres
    have hres := gd_2 hres
    refine x_iast hx hb hK hP hD hS 5 rfl (j := (Int32.toNatClampNeg v6_j54)) rfl g6 dX0_insert_105 (fun H locs hP hD hS => ?_)
    have hP : va_P G vwCl [o0 A0 e0_j54 A0_is A0_js A0_ways A0_times A0_strengths A0_deafened, (A0_times, .inl (cI, 25, .inl (upd e0_times_j54 (Int32.toNatClampNeg v6_j54) v5_j54))), (A0_is, .inl (cI, 25, .inl (upd e0_is_j54 (Int32.toNatClampNeg v6_j54) v2_j54))), (A0_js, .inl (cI, 25, .inl (upd e0_js_j54 (Int32.toNatClampNeg v6_j54) v3_j54))), (A0_ways, .inl (cI, 25, .inl (upd e0_ways_j54 (Int32.toNatClampNeg v6_j54) v4_j54))), (A0_strengths, .inl (cI, 25, .inl (upd e0_strengths_j54 (Int32.toNatClampNeg v6_j54) r5))), o3 A1 c1 A1_swallows A1_seatX A1_seatY A1_curtainX A1_curtainFrom A1_curtainTo, (A1_swallows, .inl (cI, 4, .inl c1_swallows))] H := hP
    have hD : va_D A [o0 A0 e0_j54 A0_is A0_js A0_ways A0_times A0_strengths A0_deafened, (A0_times, .inl (cI, 25, .inl (upd e0_times_j54 (Int32.toNatClampNeg v6_j54) v5_j54))), (A0_is, .inl (cI, 25, .inl (upd e0_is_j54 (Int32.toNatClampNeg v6_j54) v2_j54))), (A0_js, .inl (cI, 25, .inl (upd e0_js_j54 (Int32.toNatClampNeg v6_j54) v3_j54))), (A0_ways, .inl (cI, 25, .inl (upd e0_ways_j54 (Int32.toNatClampNeg v6_j54) v4_j54))), (A0_strengths, .inl (cI, 25, .inl (upd e0_strengths_j54 (Int32.toNatClampNeg v6_j54) r5))), o3 A1 c1 A1_swallows A1_seatX A1_seatY A1_curtainX A1_curtainFrom A1_curtainTo, (A1_swallows, .inl (cI, 4, .inl c1_swallows))] := hD
    refine lv_aload_n hx hb dX0_insert_106 rfl (lv_at hl 0 rfl) ?_
    refine lv_dup hx hb dX0_insert_107 rfl ?_
    refine va_get (D := G) (ci := 0) (v := .int (e0_j54 7)) (C := RX0) (T := TX0) (N := 8) hx hb hts (fun w h => (List.mem_cons_of_mem _ (List.mem_append_left _ (List.mem_append_right _ h)))) hown hK.1 hP 0 rfl rfl 7 (by decide) (hts (.fieldLink RX0 34 "EchoSeats$Ear" "total" "I") (List.mem_of_getElem? (i := 8) rfl)) (fun _ h9 => h9) rfl dX0_insert_108 ?_
    refine lv_aload_n hx hb dX0_insert_111 rfl (lv_at hl 0 rfl) ?_
    refine va_get (D := G) (ci := 0) (v := .ref A0_strengths) (C := RX0) (T := TX0) (N := 8) hx hb hts (fun w h => (List.mem_cons_of_mem _ (List.mem_append_left _ (List.mem_append_right _ h)))) hown hK.1 hP 0 rfl rfl 4 (by decide) (hts (.fieldLink RX0 24 "EchoSeats$Ear" "strengths" "[I") (List.mem_of_getElem? (i := 6) rfl)) (fun _ h9 => h9) rfl dX0_insert_112 ?_
    refine lv_iload hx hb dX0_insert_115 (lv_at hl 6 rfl) ?_
    have g7 := gd_1 hres
    have hres := gd_2 hres
    refine x_iald hx hb hK hP 5 rfl (j := (Int32.toNatClampNeg v6_j54)) rfl g7 dX0_insert_117 ?_
    refine lv_iadd hx hb dX0_insert_118 ?_
    refine va_put (D := G) (ci := 0) (v := .int ((e0_j54 7) + ((upd e0_strengths_j54 (Int32.toNatClampNeg v6_j54) r5) (Int32.toNatClampNeg v6_j54)))) (ty := .int) (C := RX0) (T := TX0) (N := 8) hx hb hts (fun w h => (List.mem_cons_of_mem _ (List.mem_append_left _ (List.mem_append_right _ h)))) tyX0 tyX0_ok nmX0 hown hK.1 hP hD hS 0 rfl rfl 7 (by decide) (hts (.fieldLink RX0 34 "EchoSeats$Ear" "total" "I") (List.mem_of_getElem? (i := 8) rfl)) (fun _ h9 => h9) rfl (tyX0_ok 7 (by decide)) rfl rfl (Nat.le_of_ble_eq_true rfl) dX0_insert_119 (fun H locs hP hD hS => ?_)
    have hP : va_P G vwCl [o0 A0 (upd e0_j54 7 ((e0_j54 7) + ((upd e0_strengths_j54 (Int32.toNatClampNeg v6_j54) r5) (Int32.toNatClampNeg v6_j54)))) A0_is A0_js A0_ways A0_times A0_strengths A0_deafened, (A0_times, .inl (cI, 25, .inl (upd e0_times_j54 (Int32.toNatClampNeg v6_j54) v5_j54))), (A0_is, .inl (cI, 25, .inl (upd e0_is_j54 (Int32.toNatClampNeg v6_j54) v2_j54))), (A0_js, .inl (cI, 25, .inl (upd e0_js_j54 (Int32.toNatClampNeg v6_j54) v3_j54))), (A0_ways, .inl (cI, 25, .inl (upd e0_ways_j54 (Int32.toNatClampNeg v6_j54) v4_j54))), (A0_strengths, .inl (cI, 25, .inl (upd e0_strengths_j54 (Int32.toNatClampNeg v6_j54) r5))), o3 A1 c1 A1_swallows A1_seatX A1_seatY A1_curtainX A1_curtainFrom A1_curtainTo, (A1_swallows, .inl (cI, 4, .inl c1_swallows))] H := hP
    have hD : va_D A [o0 A0 (upd e0_j54 7 ((e0_j54 7) + ((upd e0_strengths_j54 (Int32.toNatClampNeg v6_j54) r5) (Int32.toNatClampNeg v6_j54)))) A0_is A0_js A0_ways A0_times A0_strengths A0_deafened, (A0_times, .inl (cI, 25, .inl (upd e0_times_j54 (Int32.toNatClampNeg v6_j54) v5_j54))), (A0_is, .inl (cI, 25, .inl (upd e0_is_j54 (Int32.toNatClampNeg v6_j54) v2_j54))), (A0_js, .inl (cI, 25, .inl (upd e0_js_j54 (Int32.toNatClampNeg v6_j54) v3_j54))), (A0_ways, .inl (cI, 25, .inl (upd e0_ways_j54 (Int32.toNatClampNeg v6_j54) v4_j54))), (A0_strengths, .inl (cI, 25, .inl (upd e0_strengths_j54 (Int32.toNatClampNeg v6_j54) r5))), o3 A1 c1 A1_swallows A1_seatX A1_seatY A1_curtainX A1_curtainFrom A1_curtainTo, (A1_swallows, .inl (cI, 4, .inl c1_swallows))] := hD
    refine lv_aload_n hx hb dX0_insert_122 rfl (lv_at hl 0 rfl) ?_
    refine lv_dup hx hb dX0_insert_123 rfl ?_
    refine va_get (D := G) (ci := 0) (v := .int (e0_j54 6)) (C := RX0) (T := TX0) (N := 8) hx hb hts (fun w h => (List.mem_cons_of_mem _ (List.mem_append_left _ (List.mem_append_right _ h)))) hown hK.1 hP 0 rfl rfl 6 (by decide) (hts (.fieldLink RX0 30 "EchoSeats$Ear" "size" "I") (List.mem_of_getElem? (i := 1) rfl)) (fun _ h9 => h9) rfl dX0_insert_124 ?_
    refine lv_iconst (v := 1) hx hb dX0_insert_127 (by decide) ?_
    refine lv_iadd hx hb dX0_insert_128 ?_
    refine va_put (D := G) (ci := 0) (v := .int ((e0_j54 6) + 1)) (ty := .int) (C := RX0) (T := TX0) (N := 8) hx hb hts (fun w h => (List.mem_cons_of_mem _ (List.mem_append_left _ (List.mem_append_right _ h)))) tyX0 tyX0_ok nmX0 hown hK.1 hP hD hS 0 rfl rfl 6 (by decide) (hts (.fieldLink RX0 30 "EchoSeats$Ear" "size" "I") (List.mem_of_getElem? (i := 1) rfl)) (fun _ h9 => h9) rfl (tyX0_ok 6 (by decide)) rfl rfl (Nat.le_of_ble_eq_true rfl) dX0_insert_129 (fun H locs hP hD hS => ?_)
    have hP : va_P G vwCl [o0 A0 (upd (upd e0_j54 7 ((e0_j54 7) + ((upd e0_strengths_j54 (Int32.toNatClampNeg v6_j54) r5) (Int32.toNatClampNeg v6_j54)))) 6 ((e0_j54 6) + 1)) A0_is A0_js A0_ways A0_times A0_strengths A0_deafened, (A0_times, .inl (cI, 25, .inl (upd e0_times_j54 (Int32.toNatClampNeg v6_j54) v5_j54))), (A0_is, .inl (cI, 25, .inl (upd e0_is_j54 (Int32.toNatClampNeg v6_j54) v2_j54))), (A0_js, .inl (cI, 25, .inl (upd e0_js_j54 (Int32.toNatClampNeg v6_j54) v3_j54))), (A0_ways, .inl (cI, 25, .inl (upd e0_ways_j54 (Int32.toNatClampNeg v6_j54) v4_j54))), (A0_strengths, .inl (cI, 25, .inl (upd e0_strengths_j54 (Int32.toNatClampNeg v6_j54) r5))), o3 A1 c1 A1_swallows A1_seatX A1_seatY A1_curtainX A1_curtainFrom A1_curtainTo, (A1_swallows, .inl (cI, 4, .inl c1_swallows))] H := hP
    have hD : va_D A [o0 A0 (upd (upd e0_j54 7 ((e0_j54 7) + ((upd e0_strengths_j54 (Int32.toNatClampNeg v6_j54) r5) (Int32.toNatClampNeg v6_j54)))) 6 ((e0_j54 6) + 1)) A0_is A0_js A0_ways A0_times A0_strengths A0_deafened, (A0_times, .inl (cI, 25, .inl (upd e0_times_j54 (Int32.toNatClampNeg v6_j54) v5_j54))), (A0_is, .inl (cI, 25, .inl (upd e0_is_j54 (Int32.toNatClampNeg v6_j54) v2_j54))), (A0_js, .inl (cI, 25, .inl (upd e0_js_j54 (Int32.toNatClampNeg v6_j54) v3_j54))), (A0_ways, .inl (cI, 25, .inl (upd e0_ways_j54 (Int32.toNatClampNeg v6_j54) v4_j54))), (A0_strengths, .inl (cI, 25, .inl (upd e0_strengths_j54 (Int32.toNatClampNeg v6_j54) r5))), o3 A1 c1 A1_swallows A1_seatX A1_seatY A1_curtainX A1_curtainFrom A1_curtainTo, (A1_swallows, .inl (cI, 4, .inl c1_swallows))] := hD
    obtain rfl := Option.some.inj hres
    exact W.vret hx hb hr (fun t ht hW => ⟨⟨(), rfl, trivial, by rw [ht]; exact hP, hD⟩, hS.F ht⟩) hS.2.2 dX0_insert_132
  refine lv_aload_n hx hb dX0_insert_0 rfl (lv_at hl 0 rfl) ?_
  refine va_get (D := G) (ci := 0) (v := .int (c0 6)) (C := RX0) (T := TX0) (N := 8) hx hb hts (fun w h => (List.mem_cons_of_mem _ (List.mem_append_left _ (List.mem_append_right _ h)))) hown hK.1 hP 0 rfl rfl 6 (by decide) (hts (.fieldLink RX0 30 "EchoSeats$Ear" "size" "I") (List.mem_of_getElem? (i := 1) rfl)) (fun _ h9 => h9) rfl dX0_insert_1 ?_
  refine lv_bipush (v := 25) hx hb dX0_insert_4 (by decide) ?_
  refine lv_icmp_lt (tgt := 10) hx hb dX0_insert_6 (by decide) (fun h8 => ?_) (fun h8 => ?_)
  · have hres := ite_t hres h8
    refine lv_iload hx hb dX0_insert_10 (lv_at hl 4 rfl) ?_
    obtain ⟨r9, hr9, hres⟩ := bi_1 hres
    refine x_cp (va_runSN (As := [.int x4]) (rest := []) ⟨hx, hb, hml, hown, hts⟩ (kX5_timeOf l G cI cZ tl x4 r9 hr9) ⟨va_cnB 1 hts gX0_insert_X5_timeOf_n67 rfl rfl rfl hK.2.2.2.2.2.1 (hts (.initialized RX5) (List.mem_of_getElem? (i := 10) rfl)) hsX5_timeOf ⟨Nat.le_of_ble_eq_true rfl, Nat.le_of_ble_eq_true rfl⟩, (hts (.static yX5_timeOf) (List.mem_of_getElem? (i := 9) rfl)), trivial⟩ ⟨PRO_blind, PRO_at va_P0 hK⟩ rfl rfl hl.1 rfl (lv_room (Nat.le_of_ble_eq_true rfl)) dX0_insert_12 ⟨Nat.zero_le _, Nat.zero_le _⟩) ?_
    refine lv_istore (lv' := [(5, .int r9), (0, .ref A0), (1, .ref A1), (2, .int x2), (3, .int x3), (4, .int x4)]) hx hb dX0_insert_15 hl (by decide) rfl (fun ls hl => ?_)
    refine lv_aload_n hx hb dX0_insert_17 rfl (lv_at hl 1 rfl) ?_
    refine va_get (D := G) (ci := 0) (v := .int (c0 6)) (C := RX0) (T := TX0) (N := 8) hx hb hts (fun w h => (List.mem_cons_of_mem _ (List.mem_append_left _ (List.mem_append_right _ h)))) hown hK.1 hP 0 rfl rfl 6 (by decide) (hts (.fieldLink RX0 30 "EchoSeats$Ear" "size" "I") (List.mem_of_getElem? (i := 1) rfl)) (fun _ h9 => h9) rfl dX0_insert_18 ?_
    refine lv_topi (fun y10 ey10 => ?_)
    have hres := bnd_z ey10 hres
    refine lv_istore (lv' := [(6, .int y10), (5, .int r9), (0, .ref A0), (1, .ref A1), (2, .int x2), (3, .int x3), (4, .int x4)]) hx hb dX0_insert_21 hl (by decide) rfl (fun ls hl => ?_)
    have Q23 : ∀ (v2_L23 : Int32) (v3_L23 : Int32) (v4_L23 : Int32) (v5_L23 : Int32) (e0_L23 : (Nat → Int32)) (n23 : Nat) (v6_L23 : Int32) (e0_times_L23 : (Nat → Int32)) (e0_is_L23 : (Nat → Int32)) (e0_js_L23 : (Nat → Int32)) (e0_ways_L23 : (Nat → Int32)) (e0_strengths_L23 : (Nat → Int32)) (H : Heap) (locs : List Loc) (ls : Array Slot), LPX (fX0_insert_L23 c1 c1_swallows v2_L23 v3_L23 v4_L23 v5_L23 e0_L23) n23 (v6_L23, e0_times_L23, e0_is_L23, e0_js_L23, e0_ways_L23, e0_strengths_L23) = some res → va_P G vwCl [o0 A0 e0_L23 A0_is A0_js A0_ways A0_times A0_strengths A0_deafened, (A0_times, .inl (cI, 25, .inl e0_times_L23)), (A0_is, .inl (cI, 25, .inl e0_is_L23)), (A0_js, .inl (cI, 25, .inl e0_js_L23)), (A0_ways, .inl (cI, 25, .inl e0_ways_L23)), (A0_strengths, .inl (cI, 25, .inl e0_strengths_L23)), o3 A1 c1 A1_swallows A1_seatX A1_seatY A1_curtainX A1_curtainFrom A1_curtainTo, (A1_swallows, .inl (cI, 4, .inl c1_swallows))] H → va_D A [o0 A0 e0_L23 A0_is A0_js A0_ways A0_times A0_strengths A0_deafened, (A0_times, .inl (cI, 25, .inl e0_times_L23)), (A0_is, .inl (cI, 25, .inl e0_is_L23)), (A0_js, .inl (cI, 25, .inl e0_js_L23)), (A0_ways, .inl (cI, 25, .inl e0_ways_L23)), (A0_strengths, .inl (cI, 25, .inl e0_strengths_L23)), o3 A1 c1 A1_swallows A1_seatX A1_seatY A1_curtainX A1_curtainFrom A1_curtainTo, (A1_swallows, .inl (cI, 4, .inl c1_swallows))] → va_S A s.heap H locs → lv_has ls 7 [(0, .ref A0), (1, .ref A1), (2, .int v2_L23), (3, .int v3_L23), (4, .int v4_L23), (5, .int v5_L23), (6, .int v6_L23)] → WRW p l e wsX0_insert rX0_insert s m ([.ref A0, .ref A1, .int x2, .int x3, .int x4] : List Value).toArray below meth c H locs (Qvw G A [o0 A0 res.1 A0_is A0_js A0_ways A0_times A0_strengths A0_deafened, (A0_times, .inl (cI, 25, .inl res.2.1)), (A0_is, .inl (cI, 25, .inl res.2.2.1)), (A0_js, .inl (cI, 25, .inl res.2.2.2.1)), (A0_ways, .inl (cI, 25, .inl res.2.2.2.2.1)), (A0_strengths, .inl (cI, 25, .inl res.2.2.2.2.2)), o3 A1 c1 A1_swallows A1_seatX A1_seatY A1_curtainX A1_curtainFrom A1_curtainTo, (A1_swallows, .inl (cI, 4, .inl c1_swallows))]) A (F0 m 23 ls []) := by
      intro v2_L23 v3_L23 v4_L23 v5_L23 e0_L23 n23
      induction n23 with
      | zero =>
        intro v6_L23 e0_times_L23 e0_is_L23 e0_js_L23 e0_ways_L23 e0_strengths_L23 H locs ls hres
        exact absurd (LPX_0.symm.trans hres) (fun h => by cases h)
      | succ n23 ih23 =>
        intro v6_L23 e0_times_L23 e0_is_L23 e0_js_L23 e0_ways_L23 e0_strengths_L23 H locs ls hres hP hD hS hl
        have hres := LPX_s.symm.trans hres
        refine lv_iload hx hb dX0_insert_23 (lv_at hl 6 rfl) ?_
        refine lv_if_le (tgt := 54) hx hb dX0_insert_25 (by decide) (fun h11 => ?_) (fun h11 => ?_)
        · have hres := ite_t hres h11
          exact J54 v2_L23 v3_L23 v4_L23 v5_L23 v6_L23 e0_L23 e0_times_L23 e0_is_L23 e0_js_L23 e0_ways_L23 e0_strengths_L23 _ _ _ hres hP hD hS (lv_sub hl [0, 1, 2, 3, 4, 5, 6] rfl)
        · have hres := ite_f hres h11
          refine lv_aload_n hx hb dX0_insert_28 rfl (lv_at hl 0 rfl) ?_
          refine va_get (D := G) (ci := 0) (v := .ref A0_times) (C := RX0) (T := TX0) (N := 8) hx hb hts (fun w h => (List.mem_cons_of_mem _ (List.mem_append_left _ (List.mem_append_right _ h)))) hown hK.1 hP 0 rfl rfl 3 (by decide) (hts (.fieldLink RX0 21 "EchoSeats$Ear" "times" "[I") (List.mem_of_getElem? (i := 2) rfl)) (fun _ h9 => h9) rfl dX0_insert_29 ?_
          refine lv_iload hx hb dX0_insert_32 (lv_at hl 6 rfl) ?_
          refine lv_iconst (v := 1) hx hb dX0_insert_34 (by decide) ?_
          refine lv_isub hx hb dX0_insert_35 ?_
          have g12 := gd_1 hres
          have hres := gd_2 hres
          refine x_iald hx hb hK hP 1 rfl (j := (Int32.toNatClampNeg (v6_L23 - 1))) rfl g12 dX0_insert_36 ?_
          refine lv_iload hx hb dX0_insert_37 (lv_at hl 5 rfl) ?_
          refine lv_icmp_le (tgt := 54) hx hb dX0_insert_39 (by decide) (fun h13 => ?_) (fun h13 => ?_)
          · have hres := ite_t hres h13
            exact J54 v2_L23 v3_L23 v4_L23 v5_L23 v6_L23 e0_L23 e0_times_L23 e0_is_L23 e0_js_L23 e0_ways_L23 e0_strengths_L23 _ _ _ hres hP hD hS (lv_sub hl [0, 1, 2, 3, 4, 5, 6] rfl)
          · have hres := ite_f hres h13
            refine lv_aload_n hx hb dX0_insert_42 rfl (lv_at hl 0 rfl) ?_
            refine lv_iload hx hb dX0_insert_43 (lv_at hl 6 rfl) ?_
            obtain ⟨r14, hr14, hres⟩ := bi_1 hres
            refine x_cv (wr := [o3 A1 c1 A1_swallows A1_seatX A1_seatY A1_curtainX A1_curtainFrom A1_curtainTo, (A1_swallows, .inl (cI, 4, .inl c1_swallows))]) (w2 := [o0 A0 e0_L23 A0_is A0_js A0_ways A0_times A0_strengths A0_deafened, (A0_times, .inl (cI, 25, .inl r14.2.2.2.1)), (A0_is, .inl (cI, 25, .inl r14.1)), (A0_js, .inl (cI, 25, .inl r14.2.1)), (A0_ways, .inl (cI, 25, .inl r14.2.2.1)), (A0_strengths, .inl (cI, 25, .inl r14.2.2.2.2)), o3 A1 c1 A1_swallows A1_seatX A1_seatY A1_curtainX A1_curtainFrom A1_curtainTo, (A1_swallows, .inl (cI, 4, .inl c1_swallows))]) hP hD hS hA (va_runV (As := [.int v6_L23]) (rest := []) ⟨hx, hb, hml, hown, hts⟩ (kX0_shiftUp l G cI cZ tl H.size _ A0 A0_is A0_js A0_ways A0_times A0_strengths A0_deafened e0_L23 e0_is_L23 e0_js_L23 e0_ways_L23 e0_times_L23 e0_strengths_L23 v6_L23 r14 rfl hr14) (cwV 1 hts gX0_insert_X0_shiftUp rfl rfl rfl hsX0_shiftUp ⟨Nat.le_of_ble_eq_true rfl, Nat.le_of_ble_eq_true rfl⟩) ⟨PRW_blind, va_recv hK.1 hP (ci := 0) (q0 := 0) rfl rfl, PRW_at (hP.sub (ws' := [o0 A0 e0_L23 A0_is A0_js A0_ways A0_times A0_strengths A0_deafened, (A0_is, .inl (cI, 25, .inl e0_is_L23)), (A0_js, .inl (cI, 25, .inl e0_js_L23)), (A0_ways, .inl (cI, 25, .inl e0_ways_L23)), (A0_times, .inl (cI, 25, .inl e0_times_L23)), (A0_strengths, .inl (cI, 25, .inl e0_strengths_L23))]) [0, 2, 3, 4, 1, 5] rfl) (hD.sub (ws' := [o0 A0 e0_L23 A0_is A0_js A0_ways A0_times A0_strengths A0_deafened, (A0_is, .inl (cI, 25, .inl e0_is_L23)), (A0_js, .inl (cI, 25, .inl e0_js_L23)), (A0_ways, .inl (cI, 25, .inl e0_ways_L23)), (A0_times, .inl (cI, 25, .inl e0_times_L23)), (A0_strengths, .inl (cI, 25, .inl e0_strengths_L23))]) [0, 2, 3, 4, 1, 5] (by decide) rfl) hK⟩ rfl rfl hl.1 rfl (lv_room (Nat.le_of_ble_eq_true rfl)) dX0_insert_45 ⟨Nat.zero_le _, Nat.zero_le _⟩) [0, 2, 3, 4, 1, 5] [6, 7] [2, 6, 3, 4, 5, 7, 0, 1] rfl rfl (by decide) (by decide) rfl rfl (by decide) (fun H locs hP hD hS => ?_)
            refine lv_iinc (v := (v6_L23 + (-1))) (lv' := [(6, .int (v6_L23 + (-1))), (0, .ref A0), (1, .ref A1), (2, .int v2_L23), (3, .int v3_L23), (4, .int v4_L23), (5, .int v5_L23)]) hx hb dX0_insert_48 hl (k := 6) rfl rfl (by decide) rfl (fun ls hl => ?_)
            refine lv_goto (tgt := 23) hx hb dX0_insert_51 (by decide) ?_
            exact ih23 (v6_L23 + (-1)) r14.2.2.2.1 r14.1 r14.2.1 r14.2.2.1 r14.2.2.2.2 _ _ _ hres hP hD hS (lv_sub hl [1, 2, 3, 4, 5, 6, 0] rfl)
    exact Q23 x2 x3 x4 r9 c0 FU y10 c0_times c0_is c0_js c0_ways c0_strengths _ _ _ hres hP hD hS (lv_sub hl [2, 3, 4, 5, 6, 1, 0] rfl)
  · have hres := ite_f hres h8
    obtain rfl := Option.some.inj hres
    exact W.vret hx hb hr (fun t ht hW => ⟨⟨(), rfl, trivial, by rw [ht]; exact hP, hD⟩, hS.F ht⟩) hS.2.2 dX0_insert_9
theorem hsX0_insert : yX0_insert.cls = RX0 ∧ yX0_insert.cls ≠ "java/lang/invoke/MethodHandle" ∧ yX0_insert.cls ≠ "java/lang/invoke/VarHandle" ∧ (parseMethodDescriptor yX0_insert.desc).map (fun d => d.parameters.length) = some 4 := by decide +kernel
set_option maxHeartbeats 4000000 in
set_option maxRecDepth 100000 in
theorem kX0_hearAtSeat (l : Launch) (G : va_G) (cI cZ : ClassId) (tl : List (ClassId × FieldType)) (sz : Nat) (A : Nat → Prop) (A0 A0_is A0_js A0_ways A0_times A0_strengths A0_deafened A1 A1_swallows A1_seatX A1_seatY A1_curtainX A1_curtainFrom A1_curtainTo : Nat) (c0 c1 c1_seatX c1_seatY c1_curtainX c1_curtainFrom c1_curtainTo c0_times c0_is c0_js c0_ways c0_strengths c1_swallows : Nat → Int32) (x2 : Int32) (res : (Nat → Int32) × (Nat → Int32) × (Nat → Int32) × (Nat → Int32) × (Nat → Int32) × (Nat → Int32)) (hAe : A = va_A [o0 A0 c0 A0_is A0_js A0_ways A0_times A0_strengths A0_deafened, o3 A1 c1 A1_swallows A1_seatX A1_seatY A1_curtainX A1_curtainFrom A1_curtainTo, (A1_seatX, .inl (cI, 4, .inl c1_seatX)), (A1_seatY, .inl (cI, 4, .inl c1_seatY)), (A1_curtainX, .inl (cI, 3, .inl c1_curtainX)), (A1_curtainFrom, .inl (cI, 3, .inl c1_curtainFrom)), (A1_curtainTo, .inl (cI, 3, .inl c1_curtainTo)), (A0_times, .inl (cI, 25, .inl c0_times)), (A0_is, .inl (cI, 25, .inl c0_is)), (A0_js, .inl (cI, 25, .inl c0_js)), (A0_ways, .inl (cI, 25, .inl c0_ways)), (A0_strengths, .inl (cI, 25, .inl c0_strengths)), (A1_swallows, .inl (cI, 4, .inl c1_swallows))] sz) (hres : fX0_hearAtSeat c0 c1 c1_seatX c1_seatY c1_curtainX c1_curtainFrom c1_curtainTo c0_times c0_is c0_js c0_ways c0_strengths c1_swallows x2 = some res) : Met l yX0_hearAtSeat wsX0_hearAtSeat rX0_hearAtSeat (va_Pc [.ref A0, .ref A1, .int x2] (PRW G cI cZ tl [o0 A0 c0 A0_is A0_js A0_ways A0_times A0_strengths A0_deafened, o3 A1 c1 A1_swallows A1_seatX A1_seatY A1_curtainX A1_curtainFrom A1_curtainTo, (A1_seatX, .inl (cI, 4, .inl c1_seatX)), (A1_seatY, .inl (cI, 4, .inl c1_seatY)), (A1_curtainX, .inl (cI, 3, .inl c1_curtainX)), (A1_curtainFrom, .inl (cI, 3, .inl c1_curtainFrom)), (A1_curtainTo, .inl (cI, 3, .inl c1_curtainTo)), (A0_times, .inl (cI, 25, .inl c0_times)), (A0_is, .inl (cI, 25, .inl c0_is)), (A0_js, .inl (cI, 25, .inl c0_js)), (A0_ways, .inl (cI, 25, .inl c0_ways)), (A0_strengths, .inl (cI, 25, .inl c0_strengths)), (A1_swallows, .inl (cI, 4, .inl c1_swallows))] sz)) (Qvw G A [o0 A0 res.1 A0_is A0_js A0_ways A0_times A0_strengths A0_deafened, o3 A1 c1 A1_swallows A1_seatX A1_seatY A1_curtainX A1_curtainFrom A1_curtainTo, (A1_seatX, .inl (cI, 4, .inl c1_seatX)), (A1_seatY, .inl (cI, 4, .inl c1_seatY)), (A1_curtainX, .inl (cI, 3, .inl c1_curtainX)), (A1_curtainFrom, .inl (cI, 3, .inl c1_curtainFrom)), (A1_curtainTo, .inl (cI, 3, .inl c1_curtainTo)), (A0_times, .inl (cI, 25, .inl res.2.1)), (A0_is, .inl (cI, 25, .inl res.2.2.1)), (A0_js, .inl (cI, 25, .inl res.2.2.2.1)), (A0_ways, .inl (cI, 25, .inl res.2.2.2.2.1)), (A0_strengths, .inl (cI, 25, .inl res.2.2.2.2.2)), (A1_swallows, .inl (cI, 4, .inl c1_swallows))]) 0 0 A := by
  refine Met.ofW (cc := cX0_hearAtSeat) (maxL := 8) (ret := none) (by decide) rfl ?_
  intro p e s m args below meth c s₁ B hml hv
  obtain ⟨rfl, hsz, hP, hK, hD0⟩ := hv
  have hx := B.exec
  have hb := B.bytes
  have hr := B.returns
  have hts := atoms_spec (ws := wsX0_hearAtSeat) B.pre
  have hown : s.vm.findClass RX0 = some m.cls := findClass_of_methodNamed B.named
  have hlocks := B.notSynchronized
  subst hsz
  have hD : va_D A [o0 A0 c0 A0_is A0_js A0_ways A0_times A0_strengths A0_deafened, o3 A1 c1 A1_swallows A1_seatX A1_seatY A1_curtainX A1_curtainFrom A1_curtainTo, (A1_seatX, .inl (cI, 4, .inl c1_seatX)), (A1_seatY, .inl (cI, 4, .inl c1_seatY)), (A1_curtainX, .inl (cI, 3, .inl c1_curtainX)), (A1_curtainFrom, .inl (cI, 3, .inl c1_curtainFrom)), (A1_curtainTo, .inl (cI, 3, .inl c1_curtainTo)), (A0_times, .inl (cI, 25, .inl c0_times)), (A0_is, .inl (cI, 25, .inl c0_is)), (A0_js, .inl (cI, 25, .inl c0_js)), (A0_ways, .inl (cI, 25, .inl c0_ways)), (A0_strengths, .inl (cI, 25, .inl c0_strengths)), (A1_swallows, .inl (cI, 4, .inl c1_swallows))] := by rw [hAe]; exact hD0.self
  have hA : ∀ q : Nat, s.heap.size ≤ q → A q := fun q h => by rw [hAe]; exact Or.inr h
  clear hAe hD0
  have hS : va_S A s.heap s.heap [] := va_S.rf
  have hl := lv_entry ([.ref A0, .ref A1, .int x2] : List Value) (n := 8) (Nat.le_of_ble_eq_true rfl)
  rw [lg_entry_eq]
  generalize (lg_sl ([.ref A0, .ref A1, .int x2] : List Value) ++ List.replicate (8 - (lg_sl ([.ref A0, .ref A1, .int x2] : List Value)).length) Slot.unset).toArray = ls at hl ⊢
  have hl : lv_has ls 8 [(0, .ref A0), (1, .ref A1), (2, .int x2)] := hl
  refine lv_aload_n hx hb dX0_hearAtSeat_0 rfl (lv_at hl 0 rfl) ?_
  refine lv_iconst (v := 0) hx hb dX0_hearAtSeat_1 (by decide) ?_
  refine va_put (D := G) (ci := 0) (v := .int 0) (ty := .int) (C := RX0) (T := TX0) (N := 8) hx hb hts (fun w h => (List.mem_cons_of_mem _ (List.mem_append_left _ (List.mem_append_right _ h)))) tyX0 tyX0_ok nmX0 hown hK.1 hP hD hS 0 rfl rfl 6 (by decide) (hts (.fieldLink RX0 30 "EchoSeats$Ear" "size" "I") (List.mem_of_getElem? (i := 1) rfl)) (fun _ h9 => h9) rfl (tyX0_ok 6 (by decide)) rfl rfl (Nat.le_of_ble_eq_true rfl) dX0_hearAtSeat_2 (fun H locs hP hD hS => ?_)
  have hP : va_P G vwCl [o0 A0 (upd c0 6 0) A0_is A0_js A0_ways A0_times A0_strengths A0_deafened, o3 A1 c1 A1_swallows A1_seatX A1_seatY A1_curtainX A1_curtainFrom A1_curtainTo, (A1_seatX, .inl (cI, 4, .inl c1_seatX)), (A1_seatY, .inl (cI, 4, .inl c1_seatY)), (A1_curtainX, .inl (cI, 3, .inl c1_curtainX)), (A1_curtainFrom, .inl (cI, 3, .inl c1_curtainFrom)), (A1_curtainTo, .inl (cI, 3, .inl c1_curtainTo)), (A0_times, .inl (cI, 25, .inl c0_times)), (A0_is, .inl (cI, 25, .inl c0_is)), (A0_js, .inl (cI, 25, .inl c0_js)), (A0_ways, .inl (cI, 25, .inl c0_ways)), (A0_strengths, .inl (cI, 25, .inl c0_strengths)), (A1_swallows, .inl (cI, 4, .inl c1_swallows))] H := hP
  have hD : va_D A [o0 A0 (upd c0 6 0) A0_is A0_js A0_ways A0_times A0_strengths A0_deafened, o3 A1 c1 A1_swallows A1_seatX A1_seatY A1_curtainX A1_curtainFrom A1_curtainTo, (A1_seatX, .inl (cI, 4, .inl c1_seatX)), (A1_seatY, .inl (cI, 4, .inl c1_seatY)), (A1_curtainX, .inl (cI, 3, .inl c1_curtainX)), (A1_curtainFrom, .inl (cI, 3, .inl c1_curtainFrom)), (A1_curtainTo, .inl (cI, 3, .inl c1_curtainTo)), (A0_times, .inl (cI, 25, .inl c0_times)), (A0_is, .inl (cI, 25, .inl c0_is)), (A0_js, .inl (cI, 25, .inl c0_js)), (A0_ways, .inl (cI, 25, .inl c0_ways)), (A0_strengths, .inl (cI, 25, .inl c0_strengths)), (A1_swallows, .inl (cI, 4, .inl c1_swallows))] := hD
  refine lv_aload_n hx hb dX0_hearAtSeat_5 rfl (lv_at hl 0 rfl) ?_
  refine lv_iconst (v := 0) hx hb dX0_hearAtSeat_6 (by decide) ?_
  refine va_put (D := G) (ci := 0) (v := .int 0) (ty := .int) (C := RX0) (T := TX0) (N := 8) hx hb hts (fun w h => (List.mem_cons_of_mem _ (List.mem_append_left _ (List.mem_append_right _ h)))) tyX0 tyX0_ok nmX0 hown hK.1 hP hD hS 0 rfl rfl 7 (by decide) (hts (.fieldLink RX0 34 "EchoSeats$Ear" "total" "I") (List.mem_of_getElem? (i := 2) rfl)) (fun _ h9 => h9) rfl (tyX0_ok 7 (by decide)) rfl rfl (Nat.le_of_ble_eq_true rfl) dX0_hearAtSeat_7 (fun H locs hP hD hS => ?_)
  have hP : va_P G vwCl [o0 A0 (upd (upd c0 6 0) 7 0) A0_is A0_js A0_ways A0_times A0_strengths A0_deafened, o3 A1 c1 A1_swallows A1_seatX A1_seatY A1_curtainX A1_curtainFrom A1_curtainTo, (A1_seatX, .inl (cI, 4, .inl c1_seatX)), (A1_seatY, .inl (cI, 4, .inl c1_seatY)), (A1_curtainX, .inl (cI, 3, .inl c1_curtainX)), (A1_curtainFrom, .inl (cI, 3, .inl c1_curtainFrom)), (A1_curtainTo, .inl (cI, 3, .inl c1_curtainTo)), (A0_times, .inl (cI, 25, .inl c0_times)), (A0_is, .inl (cI, 25, .inl c0_is)), (A0_js, .inl (cI, 25, .inl c0_js)), (A0_ways, .inl (cI, 25, .inl c0_ways)), (A0_strengths, .inl (cI, 25, .inl c0_strengths)), (A1_swallows, .inl (cI, 4, .inl c1_swallows))] H := hP
  have hD : va_D A [o0 A0 (upd (upd c0 6 0) 7 0) A0_is A0_js A0_ways A0_times A0_strengths A0_deafened, o3 A1 c1 A1_swallows A1_seatX A1_seatY A1_curtainX A1_curtainFrom A1_curtainTo, (A1_seatX, .inl (cI, 4, .inl c1_seatX)), (A1_seatY, .inl (cI, 4, .inl c1_seatY)), (A1_curtainX, .inl (cI, 3, .inl c1_curtainX)), (A1_curtainFrom, .inl (cI, 3, .inl c1_curtainFrom)), (A1_curtainTo, .inl (cI, 3, .inl c1_curtainTo)), (A0_times, .inl (cI, 25, .inl c0_times)), (A0_is, .inl (cI, 25, .inl c0_is)), (A0_js, .inl (cI, 25, .inl c0_js)), (A0_ways, .inl (cI, 25, .inl c0_ways)), (A0_strengths, .inl (cI, 25, .inl c0_strengths)), (A1_swallows, .inl (cI, 4, .inl c1_swallows))] := hD
  refine lv_aload_n hx hb dX0_hearAtSeat_10 rfl (lv_at hl 1 rfl) ?_
  refine lv_iload_n hx hb dX0_hearAtSeat_11 rfl (lv_at hl 2 rfl) ?_
  obtain ⟨r1, hr1, hres⟩ := bi_1 hres
  refine x_cp (va_runV (As := [.int x2]) (rest := []) ⟨hx, hb, hml, hown, hts⟩ (kX3_hasSeat l G cI cZ tl A1 A1_swallows A1_seatX A1_seatY A1_curtainX A1_curtainFrom A1_curtainTo c1 x2 r1 hr1) (cwV 1 hts gX0_hearAtSeat_X3_hasSeat rfl rfl rfl hsX3_hasSeat ⟨Nat.le_of_ble_eq_true rfl, Nat.le_of_ble_eq_true rfl⟩) ⟨PRO_blind, va_recv hK.1 hP (ci := 3) (q0 := 1) rfl rfl, PRO_at (hP.sub (ws' := [o3 A1 c1 A1_swallows A1_seatX A1_seatY A1_curtainX A1_curtainFrom A1_curtainTo]) [1] rfl) hK⟩ rfl rfl hl.1 rfl (lv_room (Nat.le_of_ble_eq_true rfl)) dX0_hearAtSeat_12 ⟨Nat.zero_le _, Nat.zero_le _⟩) ?_
  refine lv_if_ne (tgt := 19) hx hb dX0_hearAtSeat_15 (by decide) (fun h2 => ?_) (fun h2 => ?_)
  · have hres := ite_f hres h2
    refine lv_aload_n hx hb dX0_hearAtSeat_19 rfl (lv_at hl 1 rfl) ?_
    refine va_get (D := G) (ci := 3) (v := .ref A1_seatX) (C := RX3) (T := TX3) (N := 12) hx hb hts (fun w h => (List.mem_cons_of_mem _ (List.mem_append_right _ h))) hown hK.1 hP 1 rfl rfl 7 (by decide) (hts (.fieldLink RX0 43 "EchoSeats$Scene" "seatX" "[I") (List.mem_of_getElem? (i := 3) rfl)) (fun _ h9 => h9) rfl dX0_hearAtSeat_20 ?_
    refine lv_iload_n hx hb dX0_hearAtSeat_23 rfl (lv_at hl 2 rfl) ?_
    have g3 := gd_1 hres
    have hres := gd_2 hres
    refine x_iald hx hb hK hP 2 rfl (j := (Int32.toNatClampNeg x2)) rfl g3 dX0_hearAtSeat_24 ?_
    refine lv_topi (fun y4 ey4 => ?_)
    have hres := bnd_z ey4 hres
    refine lv_istore_n (lv' := [(3, .int y4), (0, .ref A0), (1, .ref A1), (2, .int x2)]) hx hb dX0_hearAtSeat_25 rfl hl (by decide) rfl (fun ls hl => ?_)
    refine lv_aload_n hx hb dX0_hearAtSeat_26 rfl (lv_at hl 2 rfl) ?_
    refine va_get (D := G) (ci := 3) (v := .ref A1_seatY) (C := RX3) (T := TX3) (N := 12) hx hb hts (fun w h => (List.mem_cons_of_mem _ (List.mem_append_right _ h))) hown hK.1 hP 1 rfl rfl 8 (by decide) (hts (.fieldLink RX0 46 "EchoSeats$Scene" "seatY" "[I") (List.mem_of_getElem? (i := 4) rfl)) (fun _ h9 => h9) rfl dX0_hearAtSeat_27 ?_
    refine lv_iload_n hx hb dX0_hearAtSeat_30 rfl (lv_at hl 3 rfl) ?_
    have g5 := gd_1 hres
    have hres := gd_2 hres
    refine x_iald hx hb hK hP 3 rfl (j := (Int32.toNatClampNeg x2)) rfl g5 dX0_hearAtSeat_31 ?_
    refine lv_topi (fun y6 ey6 => ?_)
    have hres := bnd_z ey6 hres
    refine lv_istore (lv' := [(4, .int y6), (3, .int y4), (0, .ref A0), (1, .ref A1), (2, .int x2)]) hx hb dX0_hearAtSeat_32 hl (by decide) rfl (fun ls hl => ?_)
    refine lv_bipush (v := (-3)) hx hb dX0_hearAtSeat_34 (by decide) ?_
    refine lv_istore (lv' := [(5, .int (-3)), (4, .int y6), (3, .int y4), (0, .ref A0), (1, .ref A1), (2, .int x2)]) hx hb dX0_hearAtSeat_36 hl (by decide) rfl (fun ls hl => ?_)
    have Q38 : ∀ (v3_L38 : Int32) (v4_L38 : Int32) (n38 : Nat) (v5_L38 : Int32) (e0_L38 : (Nat → Int32)) (e0_times_L38 : (Nat → Int32)) (e0_is_L38 : (Nat → Int32)) (e0_js_L38 : (Nat → Int32)) (e0_ways_L38 : (Nat → Int32)) (e0_strengths_L38 : (Nat → Int32)) (H : Heap) (locs : List Loc) (ls : Array Slot), LPX (fX0_hearAtSeat_L38 c1 c1_seatX c1_seatY c1_curtainX c1_curtainFrom c1_curtainTo c1_swallows v3_L38 v4_L38) n38 (v5_L38, e0_L38, e0_times_L38, e0_is_L38, e0_js_L38, e0_ways_L38, e0_strengths_L38) = some res → va_P G vwCl [o0 A0 e0_L38 A0_is A0_js A0_ways A0_times A0_strengths A0_deafened, o3 A1 c1 A1_swallows A1_seatX A1_seatY A1_curtainX A1_curtainFrom A1_curtainTo, (A1_seatX, .inl (cI, 4, .inl c1_seatX)), (A1_seatY, .inl (cI, 4, .inl c1_seatY)), (A1_curtainX, .inl (cI, 3, .inl c1_curtainX)), (A1_curtainFrom, .inl (cI, 3, .inl c1_curtainFrom)), (A1_curtainTo, .inl (cI, 3, .inl c1_curtainTo)), (A0_times, .inl (cI, 25, .inl e0_times_L38)), (A0_is, .inl (cI, 25, .inl e0_is_L38)), (A0_js, .inl (cI, 25, .inl e0_js_L38)), (A0_ways, .inl (cI, 25, .inl e0_ways_L38)), (A0_strengths, .inl (cI, 25, .inl e0_strengths_L38)), (A1_swallows, .inl (cI, 4, .inl c1_swallows))] H → va_D A [o0 A0 e0_L38 A0_is A0_js A0_ways A0_times A0_strengths A0_deafened, o3 A1 c1 A1_swallows A1_seatX A1_seatY A1_curtainX A1_curtainFrom A1_curtainTo, (A1_seatX, .inl (cI, 4, .inl c1_seatX)), (A1_seatY, .inl (cI, 4, .inl c1_seatY)), (A1_curtainX, .inl (cI, 3, .inl c1_curtainX)), (A1_curtainFrom, .inl (cI, 3, .inl c1_curtainFrom)), (A1_curtainTo, .inl (cI, 3, .inl c1_curtainTo)), (A0_times, .inl (cI, 25, .inl e0_times_L38)), (A0_is, .inl (cI, 25, .inl e0_is_L38)), (A0_js, .inl (cI, 25, .inl e0_js_L38)), (A0_ways, .inl (cI, 25, .inl e0_ways_L38)), (A0_strengths, .inl (cI, 25, .inl e0_strengths_L38)), (A1_swallows, .inl (cI, 4, .inl c1_swallows))] → va_S A s.heap H locs → lv_has ls 8 [(0, .ref A0), (1, .ref A1), (3, .int v3_L38), (4, .int v4_L38), (5, .int v5_L38)] → WRW p l e wsX0_hearAtSeat rX0_hearAtSeat s m ([.ref A0, .ref A1, .int x2] : List Value).toArray below meth c H locs (Qvw G A [o0 A0 res.1 A0_is A0_js A0_ways A0_times A0_strengths A0_deafened, o3 A1 c1 A1_swallows A1_seatX A1_seatY A1_curtainX A1_curtainFrom A1_curtainTo, (A1_seatX, .inl (cI, 4, .inl c1_seatX)), (A1_seatY, .inl (cI, 4, .inl c1_seatY)), (A1_curtainX, .inl (cI, 3, .inl c1_curtainX)), (A1_curtainFrom, .inl (cI, 3, .inl c1_curtainFrom)), (A1_curtainTo, .inl (cI, 3, .inl c1_curtainTo)), (A0_times, .inl (cI, 25, .inl res.2.1)), (A0_is, .inl (cI, 25, .inl res.2.2.1)), (A0_js, .inl (cI, 25, .inl res.2.2.2.1)), (A0_ways, .inl (cI, 25, .inl res.2.2.2.2.1)), (A0_strengths, .inl (cI, 25, .inl res.2.2.2.2.2)), (A1_swallows, .inl (cI, 4, .inl c1_swallows))]) A (F0 m 38 ls []) := by
      intro v3_L38 v4_L38 n38
      induction n38 with
      | zero =>
        intro v5_L38 e0_L38 e0_times_L38 e0_is_L38 e0_js_L38 e0_ways_L38 e0_strengths_L38 H locs ls hres
        exact absurd (LPX_0.symm.trans hres) (fun h => by cases h)
      | succ n38 ih38 =>
        intro v5_L38 e0_L38 e0_times_L38 e0_is_L38 e0_js_L38 e0_ways_L38 e0_strengths_L38 H locs ls hres hP hD hS hl
        have hres := LPX_s.symm.trans hres
        refine lv_iload hx hb dX0_hearAtSeat_38 (lv_at hl 4 rfl) ?_
        refine lv_iconst (v := 3) hx hb dX0_hearAtSeat_40 (by decide) ?_
        refine lv_icmp_gt (tgt := 111) hx hb dX0_hearAtSeat_41 (by decide) (fun h7 => ?_) (fun h7 => ?_)
        · have hres := ite_t hres h7
          obtain rfl := Option.some.inj hres
          exact W.vret hx hb hr (fun t ht hW => ⟨⟨(), rfl, trivial, by rw [ht]; exact hP, hD⟩, hS.F ht⟩) hS.2.2 dX0_hearAtSeat_111
        · have hres := ite_f hres h7
          refine lv_iconst (v := 3) hx hb dX0_hearAtSeat_44 (by decide) ?_
          refine lv_iload hx hb dX0_hearAtSeat_45 (lv_at hl 4 rfl) ?_
          refine va_mabs hx hb (hml.trans hl.1.symm) hown (hts (.methodLink RX0 49 Lib.Math.abs.name) (List.mem_of_getElem? (i := 5) rfl)) (hts (.static Lib.Math.abs.name) (List.mem_of_getElem? (i := 6) rfl)) (hts (.initialized "java/lang/Math") (List.mem_of_getElem? (i := 7) rfl)) (hts (.code Lib.Math.abs.name Lib.Math.abs.code 1 (some .int)) (List.mem_of_getElem? (i := 8) rfl)) (Nat.le_of_ble_eq_true rfl) (Nat.le_of_ble_eq_true rfl) (Nat.zero_le _) (Nat.zero_le _) dX0_hearAtSeat_47 ?_
          refine lv_isub hx hb dX0_hearAtSeat_50 ?_
          refine lv_topi (fun y8 ey8 => ?_)
          have hres := bnd_z ey8 hres
          refine lv_istore (lv' := [(6, .int y8), (0, .ref A0), (1, .ref A1), (3, .int v3_L38), (4, .int v4_L38), (5, .int v5_L38)]) hx hb dX0_hearAtSeat_51 hl (by decide) rfl (fun ls hl => ?_)
          refine lv_iload hx hb dX0_hearAtSeat_53 (lv_at hl 0 rfl) ?_
          refine lv_ineg hx hb dX0_hearAtSeat_55 ?_
          refine lv_topi (fun y9 ey9 => ?_)
          have hres := bnd_z ey9 hres
          refine lv_istore (lv' := [(7, .int y9), (6, .int y8), (0, .ref A0), (1, .ref A1), (3, .int v3_L38), (4, .int v4_L38), (5, .int v5_L38)]) hx hb dX0_hearAtSeat_56 hl (by decide) rfl (fun ls hl => ?_)
          have Q58 : ∀ (v5_L58 : Int32) (v6_L58 : Int32) (n58 : Nat) (v7_L58 : Int32) (e0_L58 : (Nat → Int32)) (e0_times_L58 : (Nat → Int32)) (e0_is_L58 : (Nat → Int32)) (e0_js_L58 : (Nat → Int32)) (e0_ways_L58 : (Nat → Int32)) (e0_strengths_L58 : (Nat → Int32)) (H : Heap) (locs : List Loc) (ls : Array Slot), LPX (fX0_hearAtSeat_L58 c1 c1_seatX c1_seatY c1_curtainX c1_curtainFrom c1_curtainTo c1_swallows v3_L38 v4_L38 v5_L58 v6_L58 (LPX (fX0_hearAtSeat_L38 c1 c1_seatX c1_seatY c1_curtainX c1_curtainFrom c1_curtainTo c1_swallows v3_L38 v4_L38) n38)) n58 (v7_L58, e0_L58, e0_times_L58, e0_is_L58, e0_js_L58, e0_ways_L58, e0_strengths_L58) = some res → va_P G vwCl [o0 A0 e0_L58 A0_is A0_js A0_ways A0_times A0_strengths A0_deafened, o3 A1 c1 A1_swallows A1_seatX A1_seatY A1_curtainX A1_curtainFrom A1_curtainTo, (A1_seatX, .inl (cI, 4, .inl c1_seatX)), (A1_seatY, .inl (cI, 4, .inl c1_seatY)), (A1_curtainX, .inl (cI, 3, .inl c1_curtainX)), (A1_curtainFrom, .inl (cI, 3, .inl c1_curtainFrom)), (A1_curtainTo, .inl (cI, 3, .inl c1_curtainTo)), (A0_times, .inl (cI, 25, .inl e0_times_L58)), (A0_is, .inl (cI, 25, .inl e0_is_L58)), (A0_js, .inl (cI, 25, .inl e0_js_L58)), (A0_ways, .inl (cI, 25, .inl e0_ways_L58)), (A0_strengths, .inl (cI, 25, .inl e0_strengths_L58)), (A1_swallows, .inl (cI, 4, .inl c1_swallows))] H → va_D A [o0 A0 e0_L58 A0_is A0_js A0_ways A0_times A0_strengths A0_deafened, o3 A1 c1 A1_swallows A1_seatX A1_seatY A1_curtainX A1_curtainFrom A1_curtainTo, (A1_seatX, .inl (cI, 4, .inl c1_seatX)), (A1_seatY, .inl (cI, 4, .inl c1_seatY)), (A1_curtainX, .inl (cI, 3, .inl c1_curtainX)), (A1_curtainFrom, .inl (cI, 3, .inl c1_curtainFrom)), (A1_curtainTo, .inl (cI, 3, .inl c1_curtainTo)), (A0_times, .inl (cI, 25, .inl e0_times_L58)), (A0_is, .inl (cI, 25, .inl e0_is_L58)), (A0_js, .inl (cI, 25, .inl e0_js_L58)), (A0_ways, .inl (cI, 25, .inl e0_ways_L58)), (A0_strengths, .inl (cI, 25, .inl e0_strengths_L58)), (A1_swallows, .inl (cI, 4, .inl c1_swallows))] → va_S A s.heap H locs → lv_has ls 8 [(0, .ref A0), (1, .ref A1), (3, .int v3_L38), (4, .int v4_L38), (5, .int v5_L58), (6, .int v6_L58), (7, .int v7_L58)] → WRW p l e wsX0_hearAtSeat rX0_hearAtSeat s m ([.ref A0, .ref A1, .int x2] : List Value).toArray below meth c H locs (Qvw G A [o0 A0 res.1 A0_is A0_js A0_ways A0_times A0_strengths A0_deafened, o3 A1 c1 A1_swallows A1_seatX A1_seatY A1_curtainX A1_curtainFrom A1_curtainTo, (A1_seatX, .inl (cI, 4, .inl c1_seatX)), (A1_seatY, .inl (cI, 4, .inl c1_seatY)), (A1_curtainX, .inl (cI, 3, .inl c1_curtainX)), (A1_curtainFrom, .inl (cI, 3, .inl c1_curtainFrom)), (A1_curtainTo, .inl (cI, 3, .inl c1_curtainTo)), (A0_times, .inl (cI, 25, .inl res.2.1)), (A0_is, .inl (cI, 25, .inl res.2.2.1)), (A0_js, .inl (cI, 25, .inl res.2.2.2.1)), (A0_ways, .inl (cI, 25, .inl res.2.2.2.2.1)), (A0_strengths, .inl (cI, 25, .inl res.2.2.2.2.2)), (A1_swallows, .inl (cI, 4, .inl c1_swallows))]) A (F0 m 58 ls []) := by
            intro v5_L58 v6_L58 n58
            induction n58 with
            | zero =>
              intro v7_L58 e0_L58 e0_times_L58 e0_is_L58 e0_js_L58 e0_ways_L58 e0_strengths_L58 H locs ls hres
              exact absurd (LPX_0.symm.trans hres) (fun h => by cases h)
            | succ n58 ih58 =>
              intro v7_L58 e0_L58 e0_times_L58 e0_is_L58 e0_js_L58 e0_ways_L58 e0_strengths_L58 H locs ls hres hP hD hS hl
              have hres := LPX_s.symm.trans hres
              refine lv_iload hx hb dX0_hearAtSeat_58 (lv_at hl 6 rfl) ?_
              refine lv_iload hx hb dX0_hearAtSeat_60 (lv_at hl 5 rfl) ?_
              refine lv_icmp_gt (tgt := 105) hx hb dX0_hearAtSeat_62 (by decide) (fun h10 => ?_) (fun h10 => ?_)
              · have hres := ite_t hres h10
                refine lv_iinc (v := (v5_L58 + 1)) (lv' := [(5, .int (v5_L58 + 1)), (0, .ref A0), (1, .ref A1), (3, .int v3_L38), (4, .int v4_L38), (6, .int v6_L58), (7, .int v7_L58)]) hx hb dX0_hearAtSeat_105 hl (k := 4) rfl rfl (by decide) rfl (fun ls hl => ?_)
                refine lv_goto (tgt := 38) hx hb dX0_hearAtSeat_108 (by decide) ?_
                exact ih38 (v5_L58 + 1) e0_L58 e0_times_L58 e0_is_L58 e0_js_L58 e0_ways_L58 e0_strengths_L58 _ _ _ hres hP hD hS (lv_sub hl [1, 2, 3, 4, 0] rfl)
              · have hres := ite_f hres h10
                refine lv_aload_n hx hb dX0_hearAtSeat_65 rfl (lv_at hl 1 rfl) ?_
                refine lv_iload hx hb dX0_hearAtSeat_66 (lv_at hl 4 rfl) ?_
                refine lv_iload hx hb dX0_hearAtSeat_68 (lv_at hl 6 rfl) ?_
                refine lv_iload_n hx hb dX0_hearAtSeat_70 rfl (lv_at hl 2 rfl) ?_
                refine lv_iload hx hb dX0_hearAtSeat_71 (lv_at hl 3 rfl) ?_
                obtain ⟨r11, hr11, hres⟩ := bi_1 hres
                refine x_cp (va_runV (As := [.int v5_L58, .int v7_L58, .int v3_L38, .int v4_L38]) (rest := []) ⟨hx, hb, hml, hown, hts⟩ (kX3_isHidden l G cI cZ tl A1 A1_swallows A1_seatX A1_seatY A1_curtainX A1_curtainFrom A1_curtainTo c1 c1_curtainX c1_curtainFrom c1_curtainTo v5_L58 v7_L58 v3_L38 v4_L38 r11 hr11) (cwV 4 hts gX0_hearAtSeat_X3_isHidden rfl rfl rfl hsX3_isHidden ⟨Nat.le_of_ble_eq_true rfl, Nat.le_of_ble_eq_true rfl⟩) ⟨PRO_blind, va_recv hK.1 hP (ci := 3) (q0 := 1) rfl rfl, PRO_at (hP.sub (ws' := [o3 A1 c1 A1_swallows A1_seatX A1_seatY A1_curtainX A1_curtainFrom A1_curtainTo, (A1_curtainX, .inl (cI, 3, .inl c1_curtainX)), (A1_curtainFrom, .inl (cI, 3, .inl c1_curtainFrom)), (A1_curtainTo, .inl (cI, 3, .inl c1_curtainTo))]) [1, 4, 5, 6] rfl) hK⟩ rfl rfl hl.1 rfl (lv_room (Nat.le_of_ble_eq_true rfl)) dX0_hearAtSeat_73 ⟨Nat.zero_le _, Nat.zero_le _⟩) ?_
                refine lv_if_ne (tgt := 99) hx hb dX0_hearAtSeat_76 (by decide) (fun h12 => ?_) (fun h12 => ?_)
                · have hres := ite_f hres h12
                  refine lv_iinc (v := (v7_L58 + 1)) (lv' := [(7, .int (v7_L58 + 1)), (0, .ref A0), (1, .ref A1), (3, .int v3_L38), (4, .int v4_L38), (5, .int v5_L58), (6, .int v6_L58)]) hx hb dX0_hearAtSeat_99 hl (k := 6) rfl rfl (by decide) rfl (fun ls hl => ?_)
                  refine lv_goto (tgt := 58) hx hb dX0_hearAtSeat_102 (by decide) ?_
                  exact ih58 (v7_L58 + 1) e0_L58 e0_times_L58 e0_is_L58 e0_js_L58 e0_ways_L58 e0_strengths_L58 _ _ _ hres hP hD hS (lv_sub hl [1, 2, 3, 4, 5, 6, 0] rfl)
                · have hres := ite_t hres h12
                  refine lv_aload_n hx hb dX0_hearAtSeat_79 rfl (lv_at hl 0 rfl) ?_
                  refine lv_aload_n hx hb dX0_hearAtSeat_80 rfl (lv_at hl 1 rfl) ?_
                  refine lv_iload hx hb dX0_hearAtSeat_81 (lv_at hl 4 rfl) ?_
                  refine lv_iload hx hb dX0_hearAtSeat_83 (lv_at hl 6 rfl) ?_
                  refine lv_aload_n hx hb dX0_hearAtSeat_85 rfl (lv_at hl 1 rfl) ?_
                  refine lv_iload hx hb dX0_hearAtSeat_86 (lv_at hl 4 rfl) ?_
                  refine lv_iload hx hb dX0_hearAtSeat_88 (lv_at hl 6 rfl) ?_
                  refine lv_iload_n hx hb dX0_hearAtSeat_90 rfl (lv_at hl 2 rfl) ?_
                  refine lv_iload hx hb dX0_hearAtSeat_91 (lv_at hl 3 rfl) ?_
                  obtain ⟨r13, hr13, hres⟩ := bi_1 hres
                  refine x_cp (va_runV (As := [.int v5_L58, .int v7_L58, .int v3_L38, .int v4_L38]) (rest := [.int v7_L58, .int v5_L58, .ref A1, .ref A0]) ⟨hx, hb, hml, hown, hts⟩ (kX3_waySquared l G cI cZ tl A1 A1_swallows A1_seatX A1_seatY A1_curtainX A1_curtainFrom A1_curtainTo c1 v5_L58 v7_L58 v3_L38 v4_L38 r13 hr13) (cwV 4 hts gX0_hearAtSeat_X3_waySquared rfl rfl rfl hsX3_waySquared ⟨Nat.le_of_ble_eq_true rfl, Nat.le_of_ble_eq_true rfl⟩) ⟨PRO_blind, va_recv hK.1 hP (ci := 3) (q0 := 1) rfl rfl, PRO_at (hP.sub (ws' := [o3 A1 c1 A1_swallows A1_seatX A1_seatY A1_curtainX A1_curtainFrom A1_curtainTo]) [1] rfl) hK⟩ rfl rfl hl.1 rfl (lv_room (Nat.le_of_ble_eq_true rfl)) dX0_hearAtSeat_93 ⟨Nat.zero_le _, Nat.zero_le _⟩) ?_
                  obtain ⟨r14, hr14, hres⟩ := bi_1 hres
                  refine x_cv (wr := [(A1_seatX, .inl (cI, 4, .inl c1_seatX)), (A1_seatY, .inl (cI, 4, .inl c1_seatY)), (A1_curtainX, .inl (cI, 3, .inl c1_curtainX)), (A1_curtainFrom, .inl (cI, 3, .inl c1_curtainFrom)), (A1_curtainTo, .inl (cI, 3, .inl c1_curtainTo))]) (w2 := [o0 A0 r14.1 A0_is A0_js A0_ways A0_times A0_strengths A0_deafened, o3 A1 c1 A1_swallows A1_seatX A1_seatY A1_curtainX A1_curtainFrom A1_curtainTo, (A1_seatX, .inl (cI, 4, .inl c1_seatX)), (A1_seatY, .inl (cI, 4, .inl c1_seatY)), (A1_curtainX, .inl (cI, 3, .inl c1_curtainX)), (A1_curtainFrom, .inl (cI, 3, .inl c1_curtainFrom)), (A1_curtainTo, .inl (cI, 3, .inl c1_curtainTo)), (A0_times, .inl (cI, 25, .inl r14.2.1)), (A0_is, .inl (cI, 25, .inl r14.2.2.1)), (A0_js, .inl (cI, 25, .inl r14.2.2.2.1)), (A0_ways, .inl (cI, 25, .inl r14.2.2.2.2.1)), (A0_strengths, .inl (cI, 25, .inl r14.2.2.2.2.2)), (A1_swallows, .inl (cI, 4, .inl c1_swallows))]) hP hD hS hA (va_runV (As := [.ref A1, .int v5_L58, .int v7_L58, .int r13]) (rest := []) ⟨hx, hb, hml, hown, hts⟩ (kX0_insert l G cI cZ tl H.size _ A0 A0_is A0_js A0_ways A0_times A0_strengths A0_deafened A1 A1_swallows A1_seatX A1_seatY A1_curtainX A1_curtainFrom A1_curtainTo e0_L58 e0_times_L58 e0_is_L58 e0_js_L58 e0_ways_L58 e0_strengths_L58 c1 c1_swallows v5_L58 v7_L58 r13 r14 rfl hr14) (cwV 4 hts gX0_hearAtSeat_X0_insert rfl rfl rfl hsX0_insert ⟨Nat.le_of_ble_eq_true rfl, Nat.le_of_ble_eq_true rfl⟩) ⟨PRW_blind, va_recv hK.1 hP (ci := 0) (q0 := 0) rfl rfl, PRW_at (hP.sub (ws' := [o0 A0 e0_L58 A0_is A0_js A0_ways A0_times A0_strengths A0_deafened, (A0_times, .inl (cI, 25, .inl e0_times_L58)), (A0_is, .inl (cI, 25, .inl e0_is_L58)), (A0_js, .inl (cI, 25, .inl e0_js_L58)), (A0_ways, .inl (cI, 25, .inl e0_ways_L58)), (A0_strengths, .inl (cI, 25, .inl e0_strengths_L58)), o3 A1 c1 A1_swallows A1_seatX A1_seatY A1_curtainX A1_curtainFrom A1_curtainTo, (A1_swallows, .inl (cI, 4, .inl c1_swallows))]) [0, 7, 8, 9, 10, 11, 1, 12] rfl) (hD.sub (ws' := [o0 A0 e0_L58 A0_is A0_js A0_ways A0_times A0_strengths A0_deafened, (A0_times, .inl (cI, 25, .inl e0_times_L58)), (A0_is, .inl (cI, 25, .inl e0_is_L58)), (A0_js, .inl (cI, 25, .inl e0_js_L58)), (A0_ways, .inl (cI, 25, .inl e0_ways_L58)), (A0_strengths, .inl (cI, 25, .inl e0_strengths_L58)), o3 A1 c1 A1_swallows A1_seatX A1_seatY A1_curtainX A1_curtainFrom A1_curtainTo, (A1_swallows, .inl (cI, 4, .inl c1_swallows))]) [0, 7, 8, 9, 10, 11, 1, 12] (by decide) rfl) hK⟩ rfl rfl hl.1 rfl (lv_room (Nat.le_of_ble_eq_true rfl)) dX0_hearAtSeat_96 ⟨Nat.zero_le _, Nat.zero_le _⟩) [0, 7, 8, 9, 10, 11, 1, 12] [2, 3, 4, 5, 6] [5, 11, 0, 1, 2, 3, 4, 6, 7, 8, 9, 10, 12] rfl rfl (by decide) (by decide) rfl rfl (by decide) (fun H locs hP hD hS => ?_)
                  refine lv_iinc (v := (v7_L58 + 1)) (lv' := [(7, .int (v7_L58 + 1)), (0, .ref A0), (1, .ref A1), (3, .int v3_L38), (4, .int v4_L38), (5, .int v5_L58), (6, .int v6_L58)]) hx hb dX0_hearAtSeat_99 hl (k := 6) rfl rfl (by decide) rfl (fun ls hl => ?_)
                  refine lv_goto (tgt := 58) hx hb dX0_hearAtSeat_102 (by decide) ?_
                  exact ih58 (v7_L58 + 1) r14.1 r14.2.1 r14.2.2.1 r14.2.2.2.1 r14.2.2.2.2.1 r14.2.2.2.2.2 _ _ _ hres hP hD hS (lv_sub hl [1, 2, 3, 4, 5, 6, 0] rfl)
          exact Q58 v5_L38 y8 FU y9 e0_L38 e0_times_L38 e0_is_L38 e0_js_L38 e0_ways_L38 e0_strengths_L38 _ _ _ hres hP hD hS (lv_sub hl [2, 3, 4, 5, 6, 1, 0] rfl)
    exact Q38 y4 y6 FU (-3) (upd (upd c0 6 0) 7 0) c0_times c0_is c0_js c0_ways c0_strengths _ _ _ hres hP hD hS (lv_sub hl [3, 4, 2, 1, 0] rfl)
  · have hres := ite_t hres h2
    obtain rfl := Option.some.inj hres
    exact W.vret hx hb hr (fun t ht hW => ⟨⟨(), rfl, trivial, by rw [ht]; exact hP, hD⟩, hS.F ht⟩) hS.2.2 dX0_hearAtSeat_18
theorem hsX0_hearAtSeat : yX0_hearAtSeat.cls = RX0 ∧ yX0_hearAtSeat.cls ≠ "java/lang/invoke/MethodHandle" ∧ yX0_hearAtSeat.cls ≠ "java/lang/invoke/VarHandle" ∧ (parseMethodDescriptor yX0_hearAtSeat.desc).map (fun d => d.parameters.length) = some 2 := by decide +kernel
set_option maxHeartbeats 4000000 in
set_option maxRecDepth 100000 in
theorem kX0_soundIfDeaf (l : Launch) (G : va_G) (cI cZ : ClassId) (tl : List (ClassId × FieldType)) (sz : Nat) (A : Nat → Prop) (A0 A0_is A0_js A0_ways A0_times A0_strengths A0_deafened A1 : Nat) (c0 c0_deafened c1 c0_is c0_js c0_ways : Nat → Int32) (x2 : Int32) (res : Int32 × (Nat → Int32)) (hAe : A = va_A [o0 A0 c0 A0_is A0_js A0_ways A0_times A0_strengths A0_deafened, (A0_deafened, .inl (cI, 4, .inl c0_deafened)), (A1, .inl (cI, 4, .inl c1)), (A0_is, .inl (cI, 25, .inl c0_is)), (A0_js, .inl (cI, 25, .inl c0_js)), (A0_ways, .inl (cI, 25, .inl c0_ways))] sz) (hres : fX0_soundIfDeaf c0 c0_deafened c1 c0_is c0_js c0_ways x2 = some res) : Met l yX0_soundIfDeaf wsX0_soundIfDeaf rX0_soundIfDeaf (va_Pc [.ref A0, .ref A1, .int x2] (PRW G cI cZ tl [o0 A0 c0 A0_is A0_js A0_ways A0_times A0_strengths A0_deafened, (A0_deafened, .inl (cI, 4, .inl c0_deafened)), (A1, .inl (cI, 4, .inl c1)), (A0_is, .inl (cI, 25, .inl c0_is)), (A0_js, .inl (cI, 25, .inl c0_js)), (A0_ways, .inl (cI, 25, .inl c0_ways))] sz)) (Qiw res.1 G A [o0 A0 c0 A0_is A0_js A0_ways A0_times A0_strengths A0_deafened, (A0_deafened, .inl (cI, 4, .inl res.2)), (A1, .inl (cI, 4, .inl c1)), (A0_is, .inl (cI, 25, .inl c0_is)), (A0_js, .inl (cI, 25, .inl c0_js)), (A0_ways, .inl (cI, 25, .inl c0_ways))]) 0 0 A := by
  refine Met.ofW (cc := cX0_soundIfDeaf) (maxL := 5) (ret := (some .int)) (by decide) rfl ?_
  intro p e s m args below meth c s₁ B hml hv
  obtain ⟨rfl, hsz, hP, hK, hD0⟩ := hv
  have hx := B.exec
  have hb := B.bytes
  have hr := B.returns
  have hts := atoms_spec (ws := wsX0_soundIfDeaf) B.pre
  have hown : s.vm.findClass RX0 = some m.cls := findClass_of_methodNamed B.named
  have hlocks := B.notSynchronized
  subst hsz
  have hD : va_D A [o0 A0 c0 A0_is A0_js A0_ways A0_times A0_strengths A0_deafened, (A0_deafened, .inl (cI, 4, .inl c0_deafened)), (A1, .inl (cI, 4, .inl c1)), (A0_is, .inl (cI, 25, .inl c0_is)), (A0_js, .inl (cI, 25, .inl c0_js)), (A0_ways, .inl (cI, 25, .inl c0_ways))] := by rw [hAe]; exact hD0.self
  have hA : ∀ q : Nat, s.heap.size ≤ q → A q := fun q h => by rw [hAe]; exact Or.inr h
  clear hAe hD0
  have hS : va_S A s.heap s.heap [] := va_S.rf
  have hl := lv_entry ([.ref A0, .ref A1, .int x2] : List Value) (n := 5) (Nat.le_of_ble_eq_true rfl)
  rw [lg_entry_eq]
  generalize (lg_sl ([.ref A0, .ref A1, .int x2] : List Value) ++ List.replicate (5 - (lg_sl ([.ref A0, .ref A1, .int x2] : List Value)).length) Slot.unset).toArray = ls at hl ⊢
  have hl : lv_has ls 5 [(0, .ref A0), (1, .ref A1), (2, .int x2)] := hl
  refine lv_iconst (v := 0) hx hb dX0_soundIfDeaf_0 (by decide) ?_
  refine lv_istore_n (lv' := [(3, .int 0), (0, .ref A0), (1, .ref A1), (2, .int x2)]) hx hb dX0_soundIfDeaf_1 rfl hl (by decide) rfl (fun ls hl => ?_)
  have Q2 : ∀ (v2_L2 : Int32) (n2 : Nat) (v3_L2 : Int32) (e0_deafened_L2 : (Nat → Int32)) (H : Heap) (locs : List Loc) (ls : Array Slot), LPX (fX0_soundIfDeaf_L2 c0 c1 c0_is c0_js c0_ways v2_L2) n2 (v3_L2, e0_deafened_L2) = some res → va_P G vwCl [o0 A0 c0 A0_is A0_js A0_ways A0_times A0_strengths A0_deafened, (A0_deafened, .inl (cI, 4, .inl e0_deafened_L2)), (A1, .inl (cI, 4, .inl c1)), (A0_is, .inl (cI, 25, .inl c0_is)), (A0_js, .inl (cI, 25, .inl c0_js)), (A0_ways, .inl (cI, 25, .inl c0_ways))] H → va_D A [o0 A0 c0 A0_is A0_js A0_ways A0_times A0_strengths A0_deafened, (A0_deafened, .inl (cI, 4, .inl e0_deafened_L2)), (A1, .inl (cI, 4, .inl c1)), (A0_is, .inl (cI, 25, .inl c0_is)), (A0_js, .inl (cI, 25, .inl c0_js)), (A0_ways, .inl (cI, 25, .inl c0_ways))] → va_S A s.heap H locs → lv_has ls 5 [(0, .ref A0), (1, .ref A1), (2, .int v2_L2), (3, .int v3_L2)] → WRW p l e wsX0_soundIfDeaf rX0_soundIfDeaf s m ([.ref A0, .ref A1, .int x2] : List Value).toArray below meth c H locs (Qiw res.1 G A [o0 A0 c0 A0_is A0_js A0_ways A0_times A0_strengths A0_deafened, (A0_deafened, .inl (cI, 4, .inl res.2)), (A1, .inl (cI, 4, .inl c1)), (A0_is, .inl (cI, 25, .inl c0_is)), (A0_js, .inl (cI, 25, .inl c0_js)), (A0_ways, .inl (cI, 25, .inl c0_ways))]) A (F0 m 2 ls []) := by
    intro v2_L2 n2
    induction n2 with
    | zero =>
      intro v3_L2 e0_deafened_L2 H locs ls hres
      exact absurd (LPX_0.symm.trans hres) (fun h => by cases h)
    | succ n2 ih2 =>
      intro v3_L2 e0_deafened_L2 H locs ls hres hP hD hS hl
      have hres := LPX_s.symm.trans hres
      refine lv_iload_n hx hb dX0_soundIfDeaf_2 rfl (lv_at hl 3 rfl) ?_
      refine lv_iconst (v := 3) hx hb dX0_soundIfDeaf_3 (by decide) ?_
      refine lv_icmp_gt (tgt := 36) hx hb dX0_soundIfDeaf_4 (by decide) (fun h1 => ?_) (fun h1 => ?_)
      · have hres := ite_t hres h1
        refine lv_iconst (v := 0) hx hb dX0_soundIfDeaf_36 (by decide) ?_
        refine lv_istore_n (lv' := [(3, .int 0), (0, .ref A0), (1, .ref A1), (2, .int v2_L2)]) hx hb dX0_soundIfDeaf_37 rfl hl (by decide) rfl (fun ls hl => ?_)
        refine lv_iconst (v := 0) hx hb dX0_soundIfDeaf_38 (by decide) ?_
        refine lv_istore (lv' := [(4, .int 0), (3, .int 0), (0, .ref A0), (1, .ref A1), (2, .int v2_L2)]) hx hb dX0_soundIfDeaf_39 hl (by decide) rfl (fun ls hl => ?_)
        have Q41 : ∀ (e0_deafened_L41 : (Nat → Int32)) (n41 : Nat) (v3_L41 : Int32) (v4_L41 : Int32) (H : Heap) (locs : List Loc) (ls : Array Slot), LPX (fX0_soundIfDeaf_L41 c0 c1 c0_is c0_js c0_ways e0_deafened_L41 (LPX (fX0_soundIfDeaf_L2 c0 c1 c0_is c0_js c0_ways v2_L2) n2)) n41 (v3_L41, v4_L41) = some res → va_P G vwCl [o0 A0 c0 A0_is A0_js A0_ways A0_times A0_strengths A0_deafened, (A0_deafened, .inl (cI, 4, .inl e0_deafened_L41)), (A1, .inl (cI, 4, .inl c1)), (A0_is, .inl (cI, 25, .inl c0_is)), (A0_js, .inl (cI, 25, .inl c0_js)), (A0_ways, .inl (cI, 25, .inl c0_ways))] H → va_D A [o0 A0 c0 A0_is A0_js A0_ways A0_times A0_strengths A0_deafened, (A0_deafened, .inl (cI, 4, .inl e0_deafened_L41)), (A1, .inl (cI, 4, .inl c1)), (A0_is, .inl (cI, 25, .inl c0_is)), (A0_js, .inl (cI, 25, .inl c0_js)), (A0_ways, .inl (cI, 25, .inl c0_ways))] → va_S A s.heap H locs → lv_has ls 5 [(0, .ref A0), (3, .int v3_L41), (4, .int v4_L41)] → WRW p l e wsX0_soundIfDeaf rX0_soundIfDeaf s m ([.ref A0, .ref A1, .int x2] : List Value).toArray below meth c H locs (Qiw res.1 G A [o0 A0 c0 A0_is A0_js A0_ways A0_times A0_strengths A0_deafened, (A0_deafened, .inl (cI, 4, .inl res.2)), (A1, .inl (cI, 4, .inl c1)), (A0_is, .inl (cI, 25, .inl c0_is)), (A0_js, .inl (cI, 25, .inl c0_js)), (A0_ways, .inl (cI, 25, .inl c0_ways))]) A (F0 m 41 ls []) := by
          intro e0_deafened_L41 n41
          induction n41 with
          | zero =>
            intro v3_L41 v4_L41 H locs ls hres
            exact absurd (LPX_0.symm.trans hres) (fun h => by cases h)
          | succ n41 ih41 =>
            intro v3_L41 v4_L41 H locs ls hres hP hD hS hl
            have hres := LPX_s.symm.trans hres
            refine lv_iload hx hb dX0_soundIfDeaf_41 (lv_at hl 2 rfl) ?_
            refine lv_aload_n hx hb dX0_soundIfDeaf_43 rfl (lv_at hl 0 rfl) ?_
            refine va_get (D := G) (ci := 0) (v := .int (c0 6)) (C := RX0) (T := TX0) (N := 8) hx hb hts (fun w h => (List.mem_cons_of_mem _ (List.mem_append_right _ h))) hown hK.1 hP 0 rfl rfl 6 (by decide) (hts (.fieldLink RX0 30 "EchoSeats$Ear" "size" "I") (List.mem_of_getElem? (i := 2) rfl)) (fun _ h9 => h9) rfl dX0_soundIfDeaf_44 ?_
            refine lv_icmp_ge (tgt := 87) hx hb dX0_soundIfDeaf_47 (by decide) (fun h2 => ?_) (fun h2 => ?_)
            · have hres := ite_t hres h2
              refine lv_iload_n hx hb dX0_soundIfDeaf_87 rfl (lv_at hl 1 rfl) ?_
              obtain rfl := Option.some.inj hres
              exact W.iret hx hb hr (fun t ht hW => ⟨⟨_, (), rfl, rfl, by rw [ht]; exact hP, hD⟩, hS.F ht⟩) hS.2.2 dX0_soundIfDeaf_88
            · have hres := ite_f hres h2
              refine lv_iload_n hx hb dX0_soundIfDeaf_50 rfl (lv_at hl 1 rfl) ?_
              refine lv_aload_n hx hb dX0_soundIfDeaf_51 rfl (lv_at hl 0 rfl) ?_
              refine va_get (D := G) (ci := 0) (v := .ref A0_deafened) (C := RX0) (T := TX0) (N := 8) hx hb hts (fun w h => (List.mem_cons_of_mem _ (List.mem_append_right _ h))) hown hK.1 hP 0 rfl rfl 5 (by decide) (hts (.fieldLink RX0 27 "EchoSeats$Ear" "deafened" "[I") (List.mem_of_getElem? (i := 1) rfl)) (fun _ h9 => h9) rfl dX0_soundIfDeaf_52 ?_
              refine lv_aload_n hx hb dX0_soundIfDeaf_55 rfl (lv_at hl 0 rfl) ?_
              refine va_get (D := G) (ci := 0) (v := .ref A0_is) (C := RX0) (T := TX0) (N := 8) hx hb hts (fun w h => (List.mem_cons_of_mem _ (List.mem_append_right _ h))) hown hK.1 hP 0 rfl rfl 0 (by decide) (hts (.fieldLink RX0 9 "EchoSeats$Ear" "is" "[I") (List.mem_of_getElem? (i := 3) rfl)) (fun _ h9 => h9) rfl dX0_soundIfDeaf_56 ?_
              refine lv_iload hx hb dX0_soundIfDeaf_59 (lv_at hl 2 rfl) ?_
              have g3 := gd_1 hres
              have hres := gd_2 hres
              refine x_iald hx hb hK hP 3 rfl (j := (Int32.toNatClampNeg v4_L41)) rfl g3 dX0_soundIfDeaf_61 ?_
              refine lv_aload_n hx hb dX0_soundIfDeaf_62 rfl (lv_at hl 0 rfl) ?_
              refine va_get (D := G) (ci := 0) (v := .ref A0_js) (C := RX0) (T := TX0) (N := 8) hx hb hts (fun w h => (List.mem_cons_of_mem _ (List.mem_append_right _ h))) hown hK.1 hP 0 rfl rfl 1 (by decide) (hts (.fieldLink RX0 15 "EchoSeats$Ear" "js" "[I") (List.mem_of_getElem? (i := 4) rfl)) (fun _ h9 => h9) rfl dX0_soundIfDeaf_63 ?_
              refine lv_iload hx hb dX0_soundIfDeaf_66 (lv_at hl 2 rfl) ?_
              have g4 := gd_1 hres
              have hres := gd_2 hres
              refine x_iald hx hb hK hP 4 rfl (j := (Int32.toNatClampNeg v4_L41)) rfl g4 dX0_soundIfDeaf_68 ?_
              refine lv_aload_n hx hb dX0_soundIfDeaf_69 rfl (lv_at hl 0 rfl) ?_
              refine va_get (D := G) (ci := 0) (v := .ref A0_ways) (C := RX0) (T := TX0) (N := 8) hx hb hts (fun w h => (List.mem_cons_of_mem _ (List.mem_append_right _ h))) hown hK.1 hP 0 rfl rfl 2 (by decide) (hts (.fieldLink RX0 18 "EchoSeats$Ear" "ways" "[I") (List.mem_of_getElem? (i := 5) rfl)) (fun _ h9 => h9) rfl dX0_soundIfDeaf_70 ?_
              refine lv_iload hx hb dX0_soundIfDeaf_73 (lv_at hl 2 rfl) ?_
              have g5 := gd_1 hres
              have hres := gd_2 hres
              refine x_iald hx hb hK hP 5 rfl (j := (Int32.toNatClampNeg v4_L41)) rfl g5 dX0_soundIfDeaf_75 ?_
              obtain ⟨r6, hr6, hres⟩ := bi_1 hres
              refine x_cp (va_runSN (As := [.ref A0_deafened, .int (c0_is (Int32.toNatClampNeg v4_L41)), .int (c0_js (Int32.toNatClampNeg v4_L41)), .int (c0_ways (Int32.toNatClampNeg v4_L41))]) (rest := [.int v3_L41]) ⟨hx, hb, hml, hown, hts⟩ (kX5_strengthOf l G cI cZ tl A0_deafened e0_deafened_L41 (c0_is (Int32.toNatClampNeg v4_L41)) (c0_js (Int32.toNatClampNeg v4_L41)) (c0_ways (Int32.toNatClampNeg v4_L41)) r6 hr6) ⟨va_cnB 4 hts gX0_soundIfDeaf_X5_strengthOf_n77 rfl rfl rfl hK.2.2.2.2.2.2.1 (hts (.initialized RX5) (List.mem_of_getElem? (i := 7) rfl)) hsX5_strengthOf ⟨Nat.le_of_ble_eq_true rfl, Nat.le_of_ble_eq_true rfl⟩, (hts (.static yX5_strengthOf) (List.mem_of_getElem? (i := 6) rfl)), trivial⟩ ⟨PRO_blind, PRO_at (hP.sub (ws' := [(A0_deafened, .inl (cI, 4, .inl e0_deafened_L41))]) [1] rfl) hK⟩ rfl rfl hl.1 rfl (lv_room (Nat.le_of_ble_eq_true rfl)) dX0_soundIfDeaf_76 ⟨Nat.zero_le _, Nat.zero_le _⟩) ?_
              refine lv_iadd hx hb dX0_soundIfDeaf_79 ?_
              refine lv_topi (fun y7 ey7 => ?_)
              have hres := bnd_z ey7 hres
              refine lv_istore_n (lv' := [(3, .int y7), (0, .ref A0), (4, .int v4_L41)]) hx hb dX0_soundIfDeaf_80 rfl hl (by decide) rfl (fun ls hl => ?_)
              refine lv_iinc (v := (v4_L41 + 1)) (lv' := [(4, .int (v4_L41 + 1)), (3, .int y7), (0, .ref A0)]) hx hb dX0_soundIfDeaf_81 hl (k := 2) rfl rfl (by decide) rfl (fun ls hl => ?_)
              refine lv_goto (tgt := 41) hx hb dX0_soundIfDeaf_84 (by decide) ?_
              exact ih41 y7 (v4_L41 + 1) _ _ _ hres hP hD hS (lv_sub hl [2, 1, 0] rfl)
        exact Q41 e0_deafened_L2 FU 0 0 _ _ _ hres hP hD hS (lv_sub hl [2, 1, 0] rfl)
      · have hres := ite_f hres h1
        refine lv_aload_n hx hb dX0_soundIfDeaf_7 rfl (lv_at hl 0 rfl) ?_
        refine va_get (D := G) (ci := 0) (v := .ref A0_deafened) (C := RX0) (T := TX0) (N := 8) hx hb hts (fun w h => (List.mem_cons_of_mem _ (List.mem_append_right _ h))) hown hK.1 hP 0 rfl rfl 5 (by decide) (hts (.fieldLink RX0 27 "EchoSeats$Ear" "deafened" "[I") (List.mem_of_getElem? (i := 1) rfl)) (fun _ h9 => h9) rfl dX0_soundIfDeaf_8 ?_
        refine lv_iload_n hx hb dX0_soundIfDeaf_11 rfl (lv_at hl 3 rfl) ?_
        refine lv_iload_n hx hb dX0_soundIfDeaf_12 rfl (lv_at hl 2 rfl) ?_
        refine lv_iload_n hx hb dX0_soundIfDeaf_13 rfl (lv_at hl 3 rfl) ?_
        refine lv_ishr hx hb dX0_soundIfDeaf_14 ?_
        refine lv_iconst (v := 1) hx hb dX0_soundIfDeaf_15 (by decide) ?_
        refine lv_iand hx hb dX0_soundIfDeaf_16 ?_
        refine lv_iconst (v := 1) hx hb dX0_soundIfDeaf_17 (by decide) ?_
        refine lv_icmp_ne (tgt := 26) hx hb dX0_soundIfDeaf_18 (by decide) (fun h8 => ?_) (fun h8 => ?_)
        · have hres := ite_f hres h8
          refine lv_aload_n hx hb dX0_soundIfDeaf_26 rfl (lv_at hl 1 rfl) ?_
          refine lv_iload_n hx hb dX0_soundIfDeaf_27 rfl (lv_at hl 3 rfl) ?_
          have g9 := gd_1 hres
          have hres := gd_2 hres
          refine x_iald hx hb hK hP 2 rfl (j := (Int32.toNatClampNeg v3_L2)) rfl g9 dX0_soundIfDeaf_28 ?_
          have g10 := gd_1 hres
          have hres := gd_2 hres
          refine x_iast hx hb hK hP hD hS 1 rfl (j := (Int32.toNatClampNeg v3_L2)) rfl g10 dX0_soundIfDeaf_29 (fun H locs hP hD hS => ?_)
          have hP : va_P G vwCl [o0 A0 c0 A0_is A0_js A0_ways A0_times A0_strengths A0_deafened, (A0_deafened, .inl (cI, 4, .inl (upd e0_deafened_L2 (Int32.toNatClampNeg v3_L2) (c1 (Int32.toNatClampNeg v3_L2))))), (A1, .inl (cI, 4, .inl c1)), (A0_is, .inl (cI, 25, .inl c0_is)), (A0_js, .inl (cI, 25, .inl c0_js)), (A0_ways, .inl (cI, 25, .inl c0_ways))] H := hP
          have hD : va_D A [o0 A0 c0 A0_is A0_js A0_ways A0_times A0_strengths A0_deafened, (A0_deafened, .inl (cI, 4, .inl (upd e0_deafened_L2 (Int32.toNatClampNeg v3_L2) (c1 (Int32.toNatClampNeg v3_L2))))), (A1, .inl (cI, 4, .inl c1)), (A0_is, .inl (cI, 25, .inl c0_is)), (A0_js, .inl (cI, 25, .inl c0_js)), (A0_ways, .inl (cI, 25, .inl c0_ways))] := hD
          refine lv_iinc (v := (v3_L2 + 1)) (lv' := [(3, .int (v3_L2 + 1)), (0, .ref A0), (1, .ref A1), (2, .int v2_L2)]) hx hb dX0_soundIfDeaf_30 hl (k := 3) rfl rfl (by decide) rfl (fun ls hl => ?_)
          refine lv_goto (tgt := 2) hx hb dX0_soundIfDeaf_33 (by decide) ?_
          exact ih2 (v3_L2 + 1) (upd e0_deafened_L2 (Int32.toNatClampNeg v3_L2) (c1 (Int32.toNatClampNeg v3_L2))) _ _ _ hres hP hD hS (lv_sub hl [1, 2, 3, 0] rfl)
        · have hres := ite_t hres h8
          refine lv_bipush (v := 10) hx hb dX0_soundIfDeaf_21 (by decide) ?_
          refine lv_goto (tgt := 29) hx hb dX0_soundIfDeaf_23 (by decide) ?_
          have g11 := gd_1 hres
          have hres := gd_2 hres
          refine x_iast hx hb hK hP hD hS 1 rfl (j := (Int32.toNatClampNeg v3_L2)) rfl g11 dX0_soundIfDeaf_29 (fun H locs hP hD hS => ?_)
          have hP : va_P G vwCl [o0 A0 c0 A0_is A0_js A0_ways A0_times A0_strengths A0_deafened, (A0_deafened, .inl (cI, 4, .inl (upd e0_deafened_L2 (Int32.toNatClampNeg v3_L2) 10))), (A1, .inl (cI, 4, .inl c1)), (A0_is, .inl (cI, 25, .inl c0_is)), (A0_js, .inl (cI, 25, .inl c0_js)), (A0_ways, .inl (cI, 25, .inl c0_ways))] H := hP
          have hD : va_D A [o0 A0 c0 A0_is A0_js A0_ways A0_times A0_strengths A0_deafened, (A0_deafened, .inl (cI, 4, .inl (upd e0_deafened_L2 (Int32.toNatClampNeg v3_L2) 10))), (A1, .inl (cI, 4, .inl c1)), (A0_is, .inl (cI, 25, .inl c0_is)), (A0_js, .inl (cI, 25, .inl c0_js)), (A0_ways, .inl (cI, 25, .inl c0_ways))] := hD
          refine lv_iinc (v := (v3_L2 + 1)) (lv' := [(3, .int (v3_L2 + 1)), (0, .ref A0), (1, .ref A1), (2, .int v2_L2)]) hx hb dX0_soundIfDeaf_30 hl (k := 3) rfl rfl (by decide) rfl (fun ls hl => ?_)
          refine lv_goto (tgt := 2) hx hb dX0_soundIfDeaf_33 (by decide) ?_
          exact ih2 (v3_L2 + 1) (upd e0_deafened_L2 (Int32.toNatClampNeg v3_L2) 10) _ _ _ hres hP hD hS (lv_sub hl [1, 2, 3, 0] rfl)
  exact Q2 x2 FU 0 c0_deafened _ _ _ hres hP hD hS (lv_sub hl [1, 2, 3, 0] rfl)
theorem hsX0_soundIfDeaf : yX0_soundIfDeaf.cls = RX0 ∧ yX0_soundIfDeaf.cls ≠ "java/lang/invoke/MethodHandle" ∧ yX0_soundIfDeaf.cls ≠ "java/lang/invoke/VarHandle" ∧ (parseMethodDescriptor yX0_soundIfDeaf.desc).map (fun d => d.parameters.length) = some 2 := by decide +kernel
set_option maxHeartbeats 4000000 in
set_option maxRecDepth 100000 in
theorem kX0_strengthUpTo (l : Launch) (G : va_G) (cI cZ : ClassId) (tl : List (ClassId × FieldType)) (A0 A0_is A0_js A0_ways A0_times A0_strengths A0_deafened : Nat) (c0 c0_times c0_strengths : Nat → Int32) (x1 : Int32) (res : Int32) (hres : fX0_strengthUpTo c0 c0_times c0_strengths x1 = some res) : Met l yX0_strengthUpTo wsX0_strengthUpTo rX0_strengthUpTo (va_Pc [.ref A0, .int x1] (PRO G cI cZ tl [o0 A0 c0 A0_is A0_js A0_ways A0_times A0_strengths A0_deafened, (A0_times, .inl (cI, 25, .inl c0_times)), (A0_strengths, .inl (cI, 25, .inl c0_strengths))])) (Sp res) 0 0 (fun _ => False) := by
  refine Met.ofW (cc := cX0_strengthUpTo) (maxL := 4) (ret := (some .int)) (by decide) rfl ?_
  intro p e s m args below meth c s₁ B hml hv
  obtain ⟨rfl, hP, hK⟩ := hv
  have hx := B.exec
  have hb := B.bytes
  have hr := B.returns
  have hts := atoms_spec (ws := wsX0_strengthUpTo) B.pre
  have hown : s.vm.findClass RX0 = some m.cls := findClass_of_methodNamed B.named
  have hlocks := B.notSynchronized
  have hl := lv_entry ([.ref A0, .int x1] : List Value) (n := 4) (Nat.le_of_ble_eq_true rfl)
  rw [lg_entry_eq]
  generalize (lg_sl ([.ref A0, .int x1] : List Value) ++ List.replicate (4 - (lg_sl ([.ref A0, .int x1] : List Value)).length) Slot.unset).toArray = ls at hl ⊢
  have hl : lv_has ls 4 [(0, .ref A0), (1, .int x1)] := hl
  refine lv_iconst (v := 0) hx hb dX0_strengthUpTo_0 (by decide) ?_
  refine lv_istore_n (lv' := [(2, .int 0), (0, .ref A0), (1, .int x1)]) hx hb dX0_strengthUpTo_1 rfl hl (by decide) rfl (fun ls hl => ?_)
  refine lv_iconst (v := 0) hx hb dX0_strengthUpTo_2 (by decide) ?_
  refine lv_istore_n (lv' := [(3, .int 0), (2, .int 0), (0, .ref A0), (1, .int x1)]) hx hb dX0_strengthUpTo_3 rfl hl (by decide) rfl (fun ls hl => ?_)
  have Q4 : ∀ (v1_L4 : Int32) (n4 : Nat) (v2_L4 : Int32) (v3_L4 : Int32) (ls : Array Slot), LPX (fX0_strengthUpTo_L4 c0 c0_times c0_strengths v1_L4) n4 (v2_L4, v3_L4) = some res → lv_has ls 4 [(0, .ref A0), (1, .int v1_L4), (2, .int v2_L4), (3, .int v3_L4)] → WRO p l e wsX0_strengthUpTo rX0_strengthUpTo s m ([.ref A0, .int x1] : List Value).toArray below meth c res (F0 m 4 ls []) := by
    intro v1_L4 n4
    induction n4 with
    | zero =>
      intro v2_L4 v3_L4 ls hres
      exact absurd (LPX_0.symm.trans hres) (fun h => by cases h)
    | succ n4 ih4 =>
      intro v2_L4 v3_L4 ls hres hl
      have hres := LPX_s.symm.trans hres
      refine lv_iload_n hx hb dX0_strengthUpTo_4 rfl (lv_at hl 3 rfl) ?_
      refine lv_aload_n hx hb dX0_strengthUpTo_5 rfl (lv_at hl 0 rfl) ?_
      refine va_get (D := G) (ci := 0) (v := .int (c0 6)) (C := RX0) (T := TX0) (N := 8) hx hb hts (fun w h => (List.mem_cons_of_mem _ (List.mem_append_right _ h))) hown hK.1 hP 0 rfl rfl 6 (by decide) (hts (.fieldLink RX0 30 "EchoSeats$Ear" "size" "I") (List.mem_of_getElem? (i := 1) rfl)) (fun _ h9 => h9) rfl dX0_strengthUpTo_6 ?_
      refine lv_icmp_ge (tgt := 37) hx hb dX0_strengthUpTo_9 (by decide) (fun h1 => ?_) (fun h1 => ?_)
      · have hres := ite_t hres h1
        refine lv_iload_n hx hb dX0_strengthUpTo_37 rfl (lv_at hl 2 rfl) ?_
        obtain rfl := Option.some.inj hres
        exact W.iret hx hb hr (fun t ht hW => ⟨rfl, ht⟩) (fun q h => absurd h List.not_mem_nil) dX0_strengthUpTo_38
      · have hres := ite_f hres h1
        refine lv_aload_n hx hb dX0_strengthUpTo_12 rfl (lv_at hl 0 rfl) ?_
        refine va_get (D := G) (ci := 0) (v := .ref A0_times) (C := RX0) (T := TX0) (N := 8) hx hb hts (fun w h => (List.mem_cons_of_mem _ (List.mem_append_right _ h))) hown hK.1 hP 0 rfl rfl 3 (by decide) (hts (.fieldLink RX0 21 "EchoSeats$Ear" "times" "[I") (List.mem_of_getElem? (i := 2) rfl)) (fun _ h9 => h9) rfl dX0_strengthUpTo_13 ?_
        refine lv_iload_n hx hb dX0_strengthUpTo_16 rfl (lv_at hl 3 rfl) ?_
        have g2 := gd_1 hres
        have hres := gd_2 hres
        refine x_iald hx hb hK hP 1 rfl (j := (Int32.toNatClampNeg v3_L4)) rfl g2 dX0_strengthUpTo_17 ?_
        refine lv_iload_n hx hb dX0_strengthUpTo_18 rfl (lv_at hl 1 rfl) ?_
        refine lv_icmp_gt (tgt := 37) hx hb dX0_strengthUpTo_19 (by decide) (fun h3 => ?_) (fun h3 => ?_)
        · have hres := ite_t hres h3
          refine lv_iload_n hx hb dX0_strengthUpTo_37 rfl (lv_at hl 2 rfl) ?_
          obtain rfl := Option.some.inj hres
          exact W.iret hx hb hr (fun t ht hW => ⟨rfl, ht⟩) (fun q h => absurd h List.not_mem_nil) dX0_strengthUpTo_38
        · have hres := ite_f hres h3
          refine lv_iload_n hx hb dX0_strengthUpTo_22 rfl (lv_at hl 2 rfl) ?_
          refine lv_aload_n hx hb dX0_strengthUpTo_23 rfl (lv_at hl 0 rfl) ?_
          refine va_get (D := G) (ci := 0) (v := .ref A0_strengths) (C := RX0) (T := TX0) (N := 8) hx hb hts (fun w h => (List.mem_cons_of_mem _ (List.mem_append_right _ h))) hown hK.1 hP 0 rfl rfl 4 (by decide) (hts (.fieldLink RX0 24 "EchoSeats$Ear" "strengths" "[I") (List.mem_of_getElem? (i := 3) rfl)) (fun _ h9 => h9) rfl dX0_strengthUpTo_24 ?_
          refine lv_iload_n hx hb dX0_strengthUpTo_27 rfl (lv_at hl 3 rfl) ?_
          have g4 := gd_1 hres
          have hres := gd_2 hres
          refine x_iald hx hb hK hP 2 rfl (j := (Int32.toNatClampNeg v3_L4)) rfl g4 dX0_strengthUpTo_28 ?_
          refine lv_iadd hx hb dX0_strengthUpTo_29 ?_
          refine lv_topi (fun y5 ey5 => ?_)
          have hres := bnd_z ey5 hres
          refine lv_istore_n (lv' := [(2, .int y5), (0, .ref A0), (1, .int v1_L4), (3, .int v3_L4)]) hx hb dX0_strengthUpTo_30 rfl hl (by decide) rfl (fun ls hl => ?_)
          refine lv_iinc (v := (v3_L4 + 1)) (lv' := [(3, .int (v3_L4 + 1)), (2, .int y5), (0, .ref A0), (1, .int v1_L4)]) hx hb dX0_strengthUpTo_31 hl (k := 3) rfl rfl (by decide) rfl (fun ls hl => ?_)
          refine lv_goto (tgt := 4) hx hb dX0_strengthUpTo_34 (by decide) ?_
          exact ih4 y5 (v3_L4 + 1) _ hres (lv_sub hl [2, 3, 1, 0] rfl)
  exact Q4 x1 FU 0 0 _ hres (lv_sub hl [2, 3, 1, 0] rfl)
theorem hsX0_strengthUpTo : yX0_strengthUpTo.cls = RX0 ∧ yX0_strengthUpTo.cls ≠ "java/lang/invoke/MethodHandle" ∧ yX0_strengthUpTo.cls ≠ "java/lang/invoke/VarHandle" ∧ (parseMethodDescriptor yX0_strengthUpTo.desc).map (fun d => d.parameters.length) = some 1 := by decide +kernel
set_option maxHeartbeats 4000000 in
set_option maxRecDepth 100000 in
theorem kX1_addSeen (l : Launch) (G : va_G) (cI cZ : ClassId) (tl : List (ClassId × FieldType)) (sz : Nat) (A : Nat → Prop) (A0 A0_is A0_js A0_times A0_placeX A0_placeY A0_toldBy : Nat) (c0 c0_is c0_js c0_times : Nat → Int32) (x1 x2 x3 : Int32) (res : Int32 × (Nat → Int32) × (Nat → Int32) × (Nat → Int32) × (Nat → Int32)) (hAe : A = va_A [o1 A0 c0 A0_is A0_js A0_times A0_placeX A0_placeY A0_toldBy, (A0_is, .inl (cI, 4, .inl c0_is)), (A0_js, .inl (cI, 4, .inl c0_js)), (A0_times, .inl (cI, 4, .inl c0_times))] sz) (hres : fX1_addSeen c0 c0_is c0_js c0_times x1 x2 x3 = some res) : Met l yX1_addSeen wsX1_addSeen rX1_addSeen (va_Pc [.ref A0, .int x1, .int x2, .int x3] (PRW G cI cZ tl [o1 A0 c0 A0_is A0_js A0_times A0_placeX A0_placeY A0_toldBy, (A0_is, .inl (cI, 4, .inl c0_is)), (A0_js, .inl (cI, 4, .inl c0_js)), (A0_times, .inl (cI, 4, .inl c0_times))] sz)) (Qiw res.1 G A [o1 A0 res.2.1 A0_is A0_js A0_times A0_placeX A0_placeY A0_toldBy, (A0_is, .inl (cI, 4, .inl res.2.2.1)), (A0_js, .inl (cI, 4, .inl res.2.2.2.1)), (A0_times, .inl (cI, 4, .inl res.2.2.2.2))]) 0 0 A := by
  refine Met.ofW (cc := cX1_addSeen) (maxL := 4) (ret := (some .boolean)) (by decide) rfl ?_
  intro p e s m args below meth c s₁ B hml hv
  obtain ⟨rfl, hsz, hP, hK, hD0⟩ := hv
  have hx := B.exec
  have hb := B.bytes
  have hr := B.returns
  have hts := atoms_spec (ws := wsX1_addSeen) B.pre
  have hown : s.vm.findClass RX1 = some m.cls := findClass_of_methodNamed B.named
  have hlocks := B.notSynchronized
  subst hsz
  have hD : va_D A [o1 A0 c0 A0_is A0_js A0_times A0_placeX A0_placeY A0_toldBy, (A0_is, .inl (cI, 4, .inl c0_is)), (A0_js, .inl (cI, 4, .inl c0_js)), (A0_times, .inl (cI, 4, .inl c0_times))] := by rw [hAe]; exact hD0.self
  have hA : ∀ q : Nat, s.heap.size ≤ q → A q := fun q h => by rw [hAe]; exact Or.inr h
  clear hAe hD0
  have hS : va_S A s.heap s.heap [] := va_S.rf
  have hl := lv_entry ([.ref A0, .int x1, .int x2, .int x3] : List Value) (n := 4) (Nat.le_of_ble_eq_true rfl)
  rw [lg_entry_eq]
  generalize (lg_sl ([.ref A0, .int x1, .int x2, .int x3] : List Value) ++ List.replicate (4 - (lg_sl ([.ref A0, .int x1, .int x2, .int x3] : List Value)).length) Slot.unset).toArray = ls at hl ⊢
  have hl : lv_has ls 4 [(0, .ref A0), (1, .int x1), (2, .int x2), (3, .int x3)] := hl
  refine lv_aload_n hx hb dX1_addSeen_0 rfl (lv_at hl 0 rfl) ?_
  refine va_get (D := G) (ci := 1) (v := .int (c0 3)) (C := RX1) (T := TX1) (N := 8) hx hb hts (fun w h => (List.mem_cons_of_mem _ (List.mem_append_right _ h))) hown hK.1 hP 0 rfl rfl 3 (by decide) (hts (.fieldLink RX1 30 "EchoSeats$Finder" "seen" "I") (List.mem_of_getElem? (i := 1) rfl)) (fun _ h9 => h9) rfl dX1_addSeen_1 ?_
  refine lv_iconst (v := 4) hx hb dX1_addSeen_4 (by decide) ?_
  refine lv_icmp_lt (tgt := 10) hx hb dX1_addSeen_5 (by decide) (fun h1 => ?_) (fun h1 => ?_)
  · have hres := ite_t hres h1
    refine lv_aload_n hx hb dX1_addSeen_10 rfl (lv_at hl 0 rfl) ?_
    refine va_get (D := G) (ci := 1) (v := .ref A0_is) (C := RX1) (T := TX1) (N := 8) hx hb hts (fun w h => (List.mem_cons_of_mem _ (List.mem_append_right _ h))) hown hK.1 hP 0 rfl rfl 0 (by decide) (hts (.fieldLink RX1 9 "EchoSeats$Finder" "is" "[I") (List.mem_of_getElem? (i := 2) rfl)) (fun _ h9 => h9) rfl dX1_addSeen_11 ?_
    refine lv_aload_n hx hb dX1_addSeen_14 rfl (lv_at hl 0 rfl) ?_
    refine va_get (D := G) (ci := 1) (v := .int (c0 3)) (C := RX1) (T := TX1) (N := 8) hx hb hts (fun w h => (List.mem_cons_of_mem _ (List.mem_append_right _ h))) hown hK.1 hP 0 rfl rfl 3 (by decide) (hts (.fieldLink RX1 30 "EchoSeats$Finder" "seen" "I") (List.mem_of_getElem? (i := 1) rfl)) (fun _ h9 => h9) rfl dX1_addSeen_15 ?_
    refine lv_iload_n hx hb dX1_addSeen_18 rfl (lv_at hl 1 rfl) ?_
    have g2 := gd_1 hres
    have hres := gd_2 hres
    refine x_iast hx hb hK hP hD hS 1 rfl (j := (Int32.toNatClampNeg (c0 3))) rfl g2 dX1_addSeen_19 (fun H locs hP hD hS => ?_)
    have hP : va_P G vwCl [o1 A0 c0 A0_is A0_js A0_times A0_placeX A0_placeY A0_toldBy, (A0_is, .inl (cI, 4, .inl (upd c0_is (Int32.toNatClampNeg (c0 3)) x1))), (A0_js, .inl (cI, 4, .inl c0_js)), (A0_times, .inl (cI, 4, .inl c0_times))] H := hP
    have hD : va_D A [o1 A0 c0 A0_is A0_js A0_times A0_placeX A0_placeY A0_toldBy, (A0_is, .inl (cI, 4, .inl (upd c0_is (Int32.toNatClampNeg (c0 3)) x1))), (A0_js, .inl (cI, 4, .inl c0_js)), (A0_times, .inl (cI, 4, .inl c0_times))] := hD
    refine lv_aload_n hx hb dX1_addSeen_20 rfl (lv_at hl 0 rfl) ?_
    refine va_get (D := G) (ci := 1) (v := .ref A0_js) (C := RX1) (T := TX1) (N := 8) hx hb hts (fun w h => (List.mem_cons_of_mem _ (List.mem_append_right _ h))) hown hK.1 hP 0 rfl rfl 1 (by decide) (hts (.fieldLink RX1 15 "EchoSeats$Finder" "js" "[I") (List.mem_of_getElem? (i := 3) rfl)) (fun _ h9 => h9) rfl dX1_addSeen_21 ?_
    refine lv_aload_n hx hb dX1_addSeen_24 rfl (lv_at hl 0 rfl) ?_
    refine va_get (D := G) (ci := 1) (v := .int (c0 3)) (C := RX1) (T := TX1) (N := 8) hx hb hts (fun w h => (List.mem_cons_of_mem _ (List.mem_append_right _ h))) hown hK.1 hP 0 rfl rfl 3 (by decide) (hts (.fieldLink RX1 30 "EchoSeats$Finder" "seen" "I") (List.mem_of_getElem? (i := 1) rfl)) (fun _ h9 => h9) rfl dX1_addSeen_25 ?_
    refine lv_iload_n hx hb dX1_addSeen_28 rfl (lv_at hl 2 rfl) ?_
    have g3 := gd_1 hres
    have hres := gd_2 hres
    refine x_iast hx hb hK hP hD hS 2 rfl (j := (Int32.toNatClampNeg (c0 3))) rfl g3 dX1_addSeen_29 (fun H locs hP hD hS => ?_)
    have hP : va_P G vwCl [o1 A0 c0 A0_is A0_js A0_times A0_placeX A0_placeY A0_toldBy, (A0_is, .inl (cI, 4, .inl (upd c0_is (Int32.toNatClampNeg (c0 3)) x1))), (A0_js, .inl (cI, 4, .inl (upd c0_js (Int32.toNatClampNeg (c0 3)) x2))), (A0_times, .inl (cI, 4, .inl c0_times))] H := hP
    have hD : va_D A [o1 A0 c0 A0_is A0_js A0_times A0_placeX A0_placeY A0_toldBy, (A0_is, .inl (cI, 4, .inl (upd c0_is (Int32.toNatClampNeg (c0 3)) x1))), (A0_js, .inl (cI, 4, .inl (upd c0_js (Int32.toNatClampNeg (c0 3)) x2))), (A0_times, .inl (cI, 4, .inl c0_times))] := hD
    refine lv_aload_n hx hb dX1_addSeen_30 rfl (lv_at hl 0 rfl) ?_
    refine va_get (D := G) (ci := 1) (v := .ref A0_times) (C := RX1) (T := TX1) (N := 8) hx hb hts (fun w h => (List.mem_cons_of_mem _ (List.mem_append_right _ h))) hown hK.1 hP 0 rfl rfl 2 (by decide) (hts (.fieldLink RX1 18 "EchoSeats$Finder" "times" "[I") (List.mem_of_getElem? (i := 4) rfl)) (fun _ h9 => h9) rfl dX1_addSeen_31 ?_
    refine lv_aload_n hx hb dX1_addSeen_34 rfl (lv_at hl 0 rfl) ?_
    refine va_get (D := G) (ci := 1) (v := .int (c0 3)) (C := RX1) (T := TX1) (N := 8) hx hb hts (fun w h => (List.mem_cons_of_mem _ (List.mem_append_right _ h))) hown hK.1 hP 0 rfl rfl 3 (by decide) (hts (.fieldLink RX1 30 "EchoSeats$Finder" "seen" "I") (List.mem_of_getElem? (i := 1) rfl)) (fun _ h9 => h9) rfl dX1_addSeen_35 ?_
    refine lv_iload_n hx hb dX1_addSeen_38 rfl (lv_at hl 3 rfl) ?_
    have g4 := gd_1 hres
    have hres := gd_2 hres
    refine x_iast hx hb hK hP hD hS 3 rfl (j := (Int32.toNatClampNeg (c0 3))) rfl g4 dX1_addSeen_39 (fun H locs hP hD hS => ?_)
    have hP : va_P G vwCl [o1 A0 c0 A0_is A0_js A0_times A0_placeX A0_placeY A0_toldBy, (A0_is, .inl (cI, 4, .inl (upd c0_is (Int32.toNatClampNeg (c0 3)) x1))), (A0_js, .inl (cI, 4, .inl (upd c0_js (Int32.toNatClampNeg (c0 3)) x2))), (A0_times, .inl (cI, 4, .inl (upd c0_times (Int32.toNatClampNeg (c0 3)) x3)))] H := hP
    have hD : va_D A [o1 A0 c0 A0_is A0_js A0_times A0_placeX A0_placeY A0_toldBy, (A0_is, .inl (cI, 4, .inl (upd c0_is (Int32.toNatClampNeg (c0 3)) x1))), (A0_js, .inl (cI, 4, .inl (upd c0_js (Int32.toNatClampNeg (c0 3)) x2))), (A0_times, .inl (cI, 4, .inl (upd c0_times (Int32.toNatClampNeg (c0 3)) x3)))] := hD
    refine lv_aload_n hx hb dX1_addSeen_40 rfl (lv_at hl 0 rfl) ?_
    refine lv_dup hx hb dX1_addSeen_41 rfl ?_
    refine va_get (D := G) (ci := 1) (v := .int (c0 3)) (C := RX1) (T := TX1) (N := 8) hx hb hts (fun w h => (List.mem_cons_of_mem _ (List.mem_append_right _ h))) hown hK.1 hP 0 rfl rfl 3 (by decide) (hts (.fieldLink RX1 30 "EchoSeats$Finder" "seen" "I") (List.mem_of_getElem? (i := 1) rfl)) (fun _ h9 => h9) rfl dX1_addSeen_42 ?_
    refine lv_iconst (v := 1) hx hb dX1_addSeen_45 (by decide) ?_
    refine lv_iadd hx hb dX1_addSeen_46 ?_
    refine va_put (D := G) (ci := 1) (v := .int ((c0 3) + 1)) (ty := .int) (C := RX1) (T := TX1) (N := 8) hx hb hts (fun w h => (List.mem_cons_of_mem _ (List.mem_append_right _ h))) tyX1 tyX1_ok nmX1 hown hK.1 hP hD hS 0 rfl rfl 3 (by decide) (hts (.fieldLink RX1 30 "EchoSeats$Finder" "seen" "I") (List.mem_of_getElem? (i := 1) rfl)) (fun _ h9 => h9) rfl (tyX1_ok 3 (by decide)) rfl rfl (Nat.le_of_ble_eq_true rfl) dX1_addSeen_47 (fun H locs hP hD hS => ?_)
    have hP : va_P G vwCl [o1 A0 (upd c0 3 ((c0 3) + 1)) A0_is A0_js A0_times A0_placeX A0_placeY A0_toldBy, (A0_is, .inl (cI, 4, .inl (upd c0_is (Int32.toNatClampNeg (c0 3)) x1))), (A0_js, .inl (cI, 4, .inl (upd c0_js (Int32.toNatClampNeg (c0 3)) x2))), (A0_times, .inl (cI, 4, .inl (upd c0_times (Int32.toNatClampNeg (c0 3)) x3)))] H := hP
    have hD : va_D A [o1 A0 (upd c0 3 ((c0 3) + 1)) A0_is A0_js A0_times A0_placeX A0_placeY A0_toldBy, (A0_is, .inl (cI, 4, .inl (upd c0_is (Int32.toNatClampNeg (c0 3)) x1))), (A0_js, .inl (cI, 4, .inl (upd c0_js (Int32.toNatClampNeg (c0 3)) x2))), (A0_times, .inl (cI, 4, .inl (upd c0_times (Int32.toNatClampNeg (c0 3)) x3)))] := hD
    refine lv_iconst (v := 1) hx hb dX1_addSeen_50 (by decide) ?_
    obtain rfl := Option.some.inj hres
    exact W.zret hx hb hr (by decide) (fun t ht hW => ⟨⟨_, (), rfl, rfl, by rw [ht]; exact hP, hD⟩, hS.F ht⟩) hS.2.2 dX1_addSeen_51
  · have hres := ite_f hres h1
    refine lv_iconst (v := 0) hx hb dX1_addSeen_8 (by decide) ?_
    obtain rfl := Option.some.inj hres
    exact W.zret hx hb hr (by decide) (fun t ht hW => ⟨⟨_, (), rfl, rfl, by rw [ht]; exact hP, hD⟩, hS.F ht⟩) hS.2.2 dX1_addSeen_9
theorem hsX1_addSeen : yX1_addSeen.cls = RX1 ∧ yX1_addSeen.cls ≠ "java/lang/invoke/MethodHandle" ∧ yX1_addSeen.cls ≠ "java/lang/invoke/VarHandle" ∧ (parseMethodDescriptor yX1_addSeen.desc).map (fun d => d.parameters.length) = some 3 := by decide +kernel
set_option maxHeartbeats 4000000 in
set_option maxRecDepth 100000 in
theorem kX1_isPossible (l : Launch) (G : va_G) (cI cZ : ClassId) (tl : List (ClassId × FieldType)) (A0 A0_is A0_js A0_times A0_placeX A0_placeY A0_toldBy A1 A1_swallows A1_seatX A1_seatY A1_curtainX A1_curtainFrom A1_curtainTo : Nat) (c0 c0_is c0_js c1 c0_times : Nat → Int32) (x2 x3 : Int32) (res : Int32) (hres : fX1_isPossible c0 c0_is c0_js c1 c0_times x2 x3 = some res) : Met l yX1_isPossible wsX1_isPossible rX1_isPossible (va_Pc [.ref A0, .ref A1, .int x2, .int x3] (PRO G cI cZ tl [o1 A0 c0 A0_is A0_js A0_times A0_placeX A0_placeY A0_toldBy, (A0_is, .inl (cI, 4, .inl c0_is)), (A0_js, .inl (cI, 4, .inl c0_js)), o3 A1 c1 A1_swallows A1_seatX A1_seatY A1_curtainX A1_curtainFrom A1_curtainTo, (A0_times, .inl (cI, 4, .inl c0_times))])) (Sp res) 0 0 (fun _ => False) := by
  refine Met.ofW (cc := cX1_isPossible) (maxL := 5) (ret := (some .boolean)) (by decide) rfl ?_
  intro p e s m args below meth c s₁ B hml hv
  obtain ⟨rfl, hP, hK⟩ := hv
  have hx := B.exec
  have hb := B.bytes
  have hr := B.returns
  have hts := atoms_spec (ws := wsX1_isPossible) B.pre
  have hown : s.vm.findClass RX1 = some m.cls := findClass_of_methodNamed B.named
  have hlocks := B.notSynchronized
  have hl := lv_entry ([.ref A0, .ref A1, .int x2, .int x3] : List Value) (n := 5) (Nat.le_of_ble_eq_true rfl)
  rw [lg_entry_eq]
  generalize (lg_sl ([.ref A0, .ref A1, .int x2, .int x3] : List Value) ++ List.replicate (5 - (lg_sl ([.ref A0, .ref A1, .int x2, .int x3] : List Value)).length) Slot.unset).toArray = ls at hl ⊢
  have hl : lv_has ls 5 [(0, .ref A0), (1, .ref A1), (2, .int x2), (3, .int x3)] := hl
  refine lv_iconst (v := 0) hx hb dX1_isPossible_0 (by decide) ?_
  refine lv_istore (lv' := [(4, .int 0), (0, .ref A0), (1, .ref A1), (2, .int x2), (3, .int x3)]) hx hb dX1_isPossible_1 hl (by decide) rfl (fun ls hl => ?_)
  have Q3 : ∀ (v2_L3 : Int32) (v3_L3 : Int32) (n3 : Nat) (v4_L3 : Int32) (ls : Array Slot), LPX (fX1_isPossible_L3 c0 c0_is c0_js c1 c0_times v2_L3 v3_L3) n3 v4_L3 = some res → lv_has ls 5 [(0, .ref A0), (1, .ref A1), (2, .int v2_L3), (3, .int v3_L3), (4, .int v4_L3)] → WRO p l e wsX1_isPossible rX1_isPossible s m ([.ref A0, .ref A1, .int x2, .int x3] : List Value).toArray below meth c res (F0 m 3 ls []) := by
    intro v2_L3 v3_L3 n3
    induction n3 with
    | zero =>
      intro v4_L3 ls hres
      exact absurd (LPX_0.symm.trans hres) (fun h => by cases h)
    | succ n3 ih3 =>
      intro v4_L3 ls hres hl
      have hres := LPX_s.symm.trans hres
      refine lv_iload hx hb dX1_isPossible_3 (lv_at hl 4 rfl) ?_
      refine lv_aload_n hx hb dX1_isPossible_5 rfl (lv_at hl 0 rfl) ?_
      refine va_get (D := G) (ci := 1) (v := .int (c0 3)) (C := RX1) (T := TX1) (N := 8) hx hb hts (fun w h => (List.mem_cons_of_mem _ (List.mem_append_left _ (List.mem_append_right _ h)))) hown hK.1 hP 0 rfl rfl 3 (by decide) (hts (.fieldLink RX1 30 "EchoSeats$Finder" "seen" "I") (List.mem_of_getElem? (i := 1) rfl)) (fun _ h9 => h9) rfl dX1_isPossible_6 ?_
      refine lv_icmp_ge (tgt := 53) hx hb dX1_isPossible_9 (by decide) (fun h1 => ?_) (fun h1 => ?_)
      · have hres := ite_t hres h1
        refine lv_iconst (v := 1) hx hb dX1_isPossible_53 (by decide) ?_
        obtain rfl := Option.some.inj hres
        exact W.zret hx hb hr (by decide) (fun t ht hW => ⟨rfl, ht⟩) (fun q h => absurd h List.not_mem_nil) dX1_isPossible_54
      · have hres := ite_f hres h1
        refine lv_aload_n hx hb dX1_isPossible_12 rfl (lv_at hl 1 rfl) ?_
        refine lv_aload_n hx hb dX1_isPossible_13 rfl (lv_at hl 0 rfl) ?_
        refine va_get (D := G) (ci := 1) (v := .ref A0_is) (C := RX1) (T := TX1) (N := 8) hx hb hts (fun w h => (List.mem_cons_of_mem _ (List.mem_append_left _ (List.mem_append_right _ h)))) hown hK.1 hP 0 rfl rfl 0 (by decide) (hts (.fieldLink RX1 9 "EchoSeats$Finder" "is" "[I") (List.mem_of_getElem? (i := 2) rfl)) (fun _ h9 => h9) rfl dX1_isPossible_14 ?_
        refine lv_iload hx hb dX1_isPossible_17 (lv_at hl 4 rfl) ?_
        have g2 := gd_1 hres
        have hres := gd_2 hres
        refine x_iald hx hb hK hP 1 rfl (j := (Int32.toNatClampNeg v4_L3)) rfl g2 dX1_isPossible_19 ?_
        refine lv_aload_n hx hb dX1_isPossible_20 rfl (lv_at hl 0 rfl) ?_
        refine va_get (D := G) (ci := 1) (v := .ref A0_js) (C := RX1) (T := TX1) (N := 8) hx hb hts (fun w h => (List.mem_cons_of_mem _ (List.mem_append_left _ (List.mem_append_right _ h)))) hown hK.1 hP 0 rfl rfl 1 (by decide) (hts (.fieldLink RX1 15 "EchoSeats$Finder" "js" "[I") (List.mem_of_getElem? (i := 3) rfl)) (fun _ h9 => h9) rfl dX1_isPossible_21 ?_
        refine lv_iload hx hb dX1_isPossible_24 (lv_at hl 4 rfl) ?_
        have g3 := gd_1 hres
        have hres := gd_2 hres
        refine x_iald hx hb hK hP 2 rfl (j := (Int32.toNatClampNeg v4_L3)) rfl g3 dX1_isPossible_26 ?_
        refine lv_iload_n hx hb dX1_isPossible_27 rfl (lv_at hl 2 rfl) ?_
        refine lv_iload_n hx hb dX1_isPossible_28 rfl (lv_at hl 3 rfl) ?_
        obtain ⟨r4, hr4, hres⟩ := bi_1 hres
        refine x_cp (va_runV (As := [.int (c0_is (Int32.toNatClampNeg v4_L3)), .int (c0_js (Int32.toNatClampNeg v4_L3)), .int v2_L3, .int v3_L3]) (rest := []) ⟨hx, hb, hml, hown, hts⟩ (kX3_waySquared l G cI cZ tl A1 A1_swallows A1_seatX A1_seatY A1_curtainX A1_curtainFrom A1_curtainTo c1 (c0_is (Int32.toNatClampNeg v4_L3)) (c0_js (Int32.toNatClampNeg v4_L3)) v2_L3 v3_L3 r4 hr4) (cwV 4 hts gX1_isPossible_X3_waySquared rfl rfl rfl hsX3_waySquared ⟨Nat.le_of_ble_eq_true rfl, Nat.le_of_ble_eq_true rfl⟩) ⟨PRO_blind, va_recv hK.1 hP (ci := 3) (q0 := 3) rfl rfl, PRO_at (hP.sub (ws' := [o3 A1 c1 A1_swallows A1_seatX A1_seatY A1_curtainX A1_curtainFrom A1_curtainTo]) [3] rfl) hK⟩ rfl rfl hl.1 rfl (lv_room (Nat.le_of_ble_eq_true rfl)) dX1_isPossible_29 ⟨Nat.zero_le _, Nat.zero_le _⟩) ?_
        obtain ⟨r5, hr5, hres⟩ := bi_1 hres
        refine x_cp (va_runSN (As := [.int r4]) (rest := []) ⟨hx, hb, hml, hown, hts⟩ (kX5_timeOf l G cI cZ tl r4 r5 hr5) ⟨va_cnB 1 hts gX1_isPossible_X5_timeOf_n53 rfl rfl rfl hK.2.2.2.2.2.2.2.1 (hts (.initialized RX5) (List.mem_of_getElem? (i := 17) rfl)) hsX5_timeOf ⟨Nat.le_of_ble_eq_true rfl, Nat.le_of_ble_eq_true rfl⟩, (hts (.static yX5_timeOf) (List.mem_of_getElem? (i := 27) rfl)), trivial⟩ ⟨PRO_blind, PRO_at va_P0 hK⟩ rfl rfl hl.1 rfl (lv_room (Nat.le_of_ble_eq_true rfl)) dX1_isPossible_32 ⟨Nat.zero_le _, Nat.zero_le _⟩) ?_
        refine lv_aload_n hx hb dX1_isPossible_35 rfl (lv_at hl 0 rfl) ?_
        refine va_get (D := G) (ci := 1) (v := .ref A0_times) (C := RX1) (T := TX1) (N := 8) hx hb hts (fun w h => (List.mem_cons_of_mem _ (List.mem_append_left _ (List.mem_append_right _ h)))) hown hK.1 hP 0 rfl rfl 2 (by decide) (hts (.fieldLink RX1 18 "EchoSeats$Finder" "times" "[I") (List.mem_of_getElem? (i := 4) rfl)) (fun _ h9 => h9) rfl dX1_isPossible_36 ?_
        refine lv_iload hx hb dX1_isPossible_39 (lv_at hl 4 rfl) ?_
        have g6 := gd_1 hres
        have hres := gd_2 hres
        refine x_iald hx hb hK hP 4 rfl (j := (Int32.toNatClampNeg v4_L3)) rfl g6 dX1_isPossible_41 ?_
        refine lv_icmp_eq (tgt := 47) hx hb dX1_isPossible_42 (by decide) (fun h7 => ?_) (fun h7 => ?_)
        · have hres := ite_t hres h7
          refine lv_iinc (v := (v4_L3 + 1)) (lv' := [(4, .int (v4_L3 + 1)), (0, .ref A0), (1, .ref A1), (2, .int v2_L3), (3, .int v3_L3)]) hx hb dX1_isPossible_47 hl (k := 4) rfl rfl (by decide) rfl (fun ls hl => ?_)
          refine lv_goto (tgt := 3) hx hb dX1_isPossible_50 (by decide) ?_
          exact ih3 (v4_L3 + 1) _ hres (lv_sub hl [1, 2, 3, 4, 0] rfl)
        · have hres := ite_f hres h7
          refine lv_iconst (v := 0) hx hb dX1_isPossible_45 (by decide) ?_
          obtain rfl := Option.some.inj hres
          exact W.zret hx hb hr (by decide) (fun t ht hW => ⟨rfl, ht⟩) (fun q h => absurd h List.not_mem_nil) dX1_isPossible_46
  exact Q3 x2 x3 FU 0 _ hres (lv_sub hl [1, 2, 3, 4, 0] rfl)
theorem hsX1_isPossible : yX1_isPossible.cls = RX1 ∧ yX1_isPossible.cls ≠ "java/lang/invoke/MethodHandle" ∧ yX1_isPossible.cls ≠ "java/lang/invoke/VarHandle" ∧ (parseMethodDescriptor yX1_isPossible.desc).map (fun d => d.parameters.length) = some 3 := by decide +kernel
