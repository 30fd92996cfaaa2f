set_option maxHeartbeats 4000000 in
set_option maxRecDepth 100000 in
theorem kX2_takeBackIn (l : Launch) (G : va_G) (cI cZ : ClassId) (tl : List (ClassId × FieldType)) (sz : Nat) (A : Nat → Prop) (A0 A0_kinds A0_which A0_firsts A0_seconds A1 A1_swallows A1_seatX A1_seatY A1_curtainX A1_curtainFrom A1_curtainTo : Nat) (c0 c0_which c0_kinds c1 c0_firsts c1_swallows c1_curtainFrom c0_seconds c1_curtainTo : Nat → Int32) (res : (Nat → Int32) × (Nat → Int32) × (Nat → Int32) × (Nat → Int32) × (Nat → Int32)) (hAe : A = va_A [o2 A0 c0 A0_kinds A0_which A0_firsts A0_seconds, (A0_which, .inl (cI, 10, .inl c0_which)), (A0_kinds, .inl (cI, 10, .inl c0_kinds)), o3 A1 c1 A1_swallows A1_seatX A1_seatY A1_curtainX A1_curtainFrom A1_curtainTo, (A0_firsts, .inl (cI, 10, .inl c0_firsts)), (A1_swallows, .inl (cI, 4, .inl c1_swallows)), (A1_curtainFrom, .inl (cI, 3, .inl c1_curtainFrom)), (A0_seconds, .inl (cI, 10, .inl c0_seconds)), (A1_curtainTo, .inl (cI, 3, .inl c1_curtainTo))] sz) (hres : fX2_takeBackIn c0 c0_which c0_kinds c1 c0_firsts c1_swallows c1_curtainFrom c0_seconds c1_curtainTo = some res) : Met l yX2_takeBackIn wsX2_takeBackIn rX2_takeBackIn (va_Pc [.ref A0, .ref A1] (PRW G cI cZ tl [o2 A0 c0 A0_kinds A0_which A0_firsts A0_seconds, (A0_which, .inl (cI, 10, .inl c0_which)), (A0_kinds, .inl (cI, 10, .inl c0_kinds)), o3 A1 c1 A1_swallows A1_seatX A1_seatY A1_curtainX A1_curtainFrom A1_curtainTo, (A0_firsts, .inl (cI, 10, .inl c0_firsts)), (A1_swallows, .inl (cI, 4, .inl c1_swallows)), (A1_curtainFrom, .inl (cI, 3, .inl c1_curtainFrom)), (A0_seconds, .inl (cI, 10, .inl c0_seconds)), (A1_curtainTo, .inl (cI, 3, .inl c1_curtainTo))] sz)) (Qvw G A [o2 A0 res.1 A0_kinds A0_which A0_firsts A0_seconds, (A0_which, .inl (cI, 10, .inl c0_which)), (A0_kinds, .inl (cI, 10, .inl c0_kinds)), o3 A1 res.2.1 A1_swallows A1_seatX A1_seatY A1_curtainX A1_curtainFrom A1_curtainTo, (A0_firsts, .inl (cI, 10, .inl c0_firsts)), (A1_swallows, .inl (cI, 4, .inl res.2.2.1)), (A1_curtainFrom, .inl (cI, 3, .inl res.2.2.2.1)), (A0_seconds, .inl (cI, 10, .inl c0_seconds)), (A1_curtainTo, .inl (cI, 3, .inl res.2.2.2.2))]) 0 0 A := by
  refine Met.ofW (cc := cX2_takeBackIn) (maxL := 3) (ret := none) (by decide) rfl ?_
  intro p e s m args below meth c s₁ B hml hv
  obtain ⟨rfl, hsz, hP, hK, hD0⟩ := hv
  have hx := B.exec
  have hb := B.bytes
  have hr := B.returns
  have hts := atoms_spec (ws := wsX2_takeBackIn) B.pre
  have hown : s.vm.findClass RX2 = some m.cls := findClass_of_methodNamed B.named
  have hlocks := B.notSynchronized
  subst hsz
  have hD : va_D A [o2 A0 c0 A0_kinds A0_which A0_firsts A0_seconds, (A0_which, .inl (cI, 10, .inl c0_which)), (A0_kinds, .inl (cI, 10, .inl c0_kinds)), o3 A1 c1 A1_swallows A1_seatX A1_seatY A1_curtainX A1_curtainFrom A1_curtainTo, (A0_firsts, .inl (cI, 10, .inl c0_firsts)), (A1_swallows, .inl (cI, 4, .inl c1_swallows)), (A1_curtainFrom, .inl (cI, 3, .inl c1_curtainFrom)), (A0_seconds, .inl (cI, 10, .inl c0_seconds)), (A1_curtainTo, .inl (cI, 3, .inl c1_curtainTo))] := by rw [hAe]; exact hD0.self
  have hA : ∀ q : Nat, s.heap.size ≤ q → A q := fun q h => by rw [hAe]; exact Or.inr h
  clear hAe hD0
  have hS : va_S A s.heap s.heap [] := va_S.rf
  have hl := lv_entry ([.ref A0, .ref A1] : List Value) (n := 3) (Nat.le_of_ble_eq_true rfl)
  rw [lg_entry_eq]
  generalize (lg_sl ([.ref A0, .ref A1] : List Value) ++ List.replicate (3 - (lg_sl ([.ref A0, .ref A1] : List Value)).length) Slot.unset).toArray = ls at hl ⊢
  have hl : lv_has ls 3 [(0, .ref A0), (1, .ref A1)] := hl
  refine lv_aload_n hx hb dX2_takeBackIn_0 rfl (lv_at hl 0 rfl) ?_
  refine va_get (D := G) (ci := 2) (v := .int (c0 4)) (C := RX2) (T := TX2) (N := 5) hx hb hts (fun w h => (List.mem_cons_of_mem _ (List.mem_append_left _ (List.mem_append_right _ h)))) hown hK.1 hP 0 rfl rfl 4 (by decide) (hts (.fieldLink RX2 24 "EchoSeats$Past" "size" "I") (List.mem_of_getElem? (i := 1) rfl)) (fun _ h9 => h9) rfl dX2_takeBackIn_1 ?_
  refine lv_if_gt (tgt := 8) hx hb dX2_takeBackIn_4 (by decide) (fun h1 => ?_) (fun h1 => ?_)
  · have hres := ite_t hres h1
    refine lv_aload_n hx hb dX2_takeBackIn_8 rfl (lv_at hl 0 rfl) ?_
    refine lv_dup hx hb dX2_takeBackIn_9 rfl ?_
    refine va_get (D := G) (ci := 2) (v := .int (c0 4)) (C := RX2) (T := TX2) (N := 5) hx hb hts (fun w h => (List.mem_cons_of_mem _ (List.mem_append_left _ (List.mem_append_right _ h)))) hown hK.1 hP 0 rfl rfl 4 (by decide) (hts (.fieldLink RX2 24 "EchoSeats$Past" "size" "I") (List.mem_of_getElem? (i := 1) rfl)) (fun _ h9 => h9) rfl dX2_takeBackIn_10 ?_
    refine lv_iconst (v := 1) hx hb dX2_takeBackIn_13 (by decide) ?_
    refine lv_isub hx hb dX2_takeBackIn_14 ?_
    refine va_put (D := G) (ci := 2) (v := .int ((c0 4) - 1)) (ty := .int) (C := RX2) (T := TX2) (N := 5) hx hb hts (fun w h => (List.mem_cons_of_mem _ (List.mem_append_left _ (List.mem_append_right _ h)))) tyX2 tyX2_ok nmX2 hown hK.1 hP hD hS 0 rfl rfl 4 (by decide) (hts (.fieldLink RX2 24 "EchoSeats$Past" "size" "I") (List.mem_of_getElem? (i := 1) rfl)) (fun _ h9 => h9) rfl (tyX2_ok 4 (by decide)) rfl rfl (Nat.le_of_ble_eq_true rfl) dX2_takeBackIn_15 (fun H locs hP hD hS => ?_)
    have hP : va_P G vwCl [o2 A0 (upd c0 4 ((c0 4) - 1)) A0_kinds A0_which A0_firsts A0_seconds, (A0_which, .inl (cI, 10, .inl c0_which)), (A0_kinds, .inl (cI, 10, .inl c0_kinds)), o3 A1 c1 A1_swallows A1_seatX A1_seatY A1_curtainX A1_curtainFrom A1_curtainTo, (A0_firsts, .inl (cI, 10, .inl c0_firsts)), (A1_swallows, .inl (cI, 4, .inl c1_swallows)), (A1_curtainFrom, .inl (cI, 3, .inl c1_curtainFrom)), (A0_seconds, .inl (cI, 10, .inl c0_seconds)), (A1_curtainTo, .inl (cI, 3, .inl c1_curtainTo))] H := hP
    have hD : va_D A [o2 A0 (upd c0 4 ((c0 4) - 1)) A0_kinds A0_which A0_firsts A0_seconds, (A0_which, .inl (cI, 10, .inl c0_which)), (A0_kinds, .inl (cI, 10, .inl c0_kinds)), o3 A1 c1 A1_swallows A1_seatX A1_seatY A1_curtainX A1_curtainFrom A1_curtainTo, (A0_firsts, .inl (cI, 10, .inl c0_firsts)), (A1_swallows, .inl (cI, 4, .inl c1_swallows)), (A1_curtainFrom, .inl (cI, 3, .inl c1_curtainFrom)), (A0_seconds, .inl (cI, 10, .inl c0_seconds)), (A1_curtainTo, .inl (cI, 3, .inl c1_curtainTo))] := hD
    refine lv_aload_n hx hb dX2_takeBackIn_18 rfl (lv_at hl 0 rfl) ?_
    refine va_get (D := G) (ci := 2) (v := .ref A0_which) (C := RX2) (T := TX2) (N := 5) hx hb hts (fun w h => (List.mem_cons_of_mem _ (List.mem_append_left _ (List.mem_append_right _ h)))) hown hK.1 hP 0 rfl rfl 1 (by decide) (hts (.fieldLink RX2 15 "EchoSeats$Past" "which" "[I") (List.mem_of_getElem? (i := 2) rfl)) (fun _ h9 => h9) rfl dX2_takeBackIn_19 ?_
    refine lv_aload_n hx hb dX2_takeBackIn_22 rfl (lv_at hl 0 rfl) ?_
    refine va_get (D := G) (ci := 2) (v := .int ((c0 4) - 1)) (C := RX2) (T := TX2) (N := 5) hx hb hts (fun w h => (List.mem_cons_of_mem _ (List.mem_append_left _ (List.mem_append_right _ h)))) hown hK.1 hP 0 rfl rfl 4 (by decide) (hts (.fieldLink RX2 24 "EchoSeats$Past" "size" "I") (List.mem_of_getElem? (i := 1) rfl)) (fun _ h9 => h9) rfl dX2_takeBackIn_23 ?_
    have g2 := gd_1 hres
    have hres := gd_2 hres
    refine x_iald hx hb hK hP 1 rfl (j := (Int32.toNatClampNeg ((c0 4) - 1))) rfl g2 dX2_takeBackIn_26 ?_
    refine lv_topi (fun y3 ey3 => ?_)
    have hres := bnd_z ey3 hres
    refine lv_istore_n (lv' := [(2, .int y3), (0, .ref A0), (1, .ref A1)]) hx hb dX2_takeBackIn_27 rfl hl (by decide) rfl (fun ls hl => ?_)
    refine lv_aload_n hx hb dX2_takeBackIn_28 rfl (lv_at hl 1 rfl) ?_
    refine va_get (D := G) (ci := 2) (v := .ref A0_kinds) (C := RX2) (T := TX2) (N := 5) hx hb hts (fun w h => (List.mem_cons_of_mem _ (List.mem_append_left _ (List.mem_append_right _ h)))) hown hK.1 hP 0 rfl rfl 0 (by decide) (hts (.fieldLink RX2 9 "EchoSeats$Past" "kinds" "[I") (List.mem_of_getElem? (i := 3) rfl)) (fun _ h9 => h9) rfl dX2_takeBackIn_29 ?_
    refine lv_aload_n hx hb dX2_takeBackIn_32 rfl (lv_at hl 1 rfl) ?_
    refine va_get (D := G) (ci := 2) (v := .int ((c0 4) - 1)) (C := RX2) (T := TX2) (N := 5) hx hb hts (fun w h => (List.mem_cons_of_mem _ (List.mem_append_left _ (List.mem_append_right _ h)))) hown hK.1 hP 0 rfl rfl 4 (by decide) (hts (.fieldLink RX2 24 "EchoSeats$Past" "size" "I") (List.mem_of_getElem? (i := 1) rfl)) (fun _ h9 => h9) rfl dX2_takeBackIn_33 ?_
    have g4 := gd_1 hres
    have hres := gd_2 hres
    refine x_iald hx hb hK hP 2 rfl (j := (Int32.toNatClampNeg ((c0 4) - 1))) rfl g4 dX2_takeBackIn_36 ?_
    refine lv_if_ne (tgt := 58) hx hb dX2_takeBackIn_37 (by decide) (fun h5 => ?_) (fun h5 => ?_)
    · have hres := ite_f hres h5
      refine lv_aload_n hx hb dX2_takeBackIn_58 rfl (lv_at hl 1 rfl) ?_
      refine va_get (D := G) (ci := 2) (v := .ref A0_kinds) (C := RX2) (T := TX2) (N := 5) hx hb hts (fun w h => (List.mem_cons_of_mem _ (List.mem_append_left _ (List.mem_append_right _ h)))) hown hK.1 hP 0 rfl rfl 0 (by decide) (hts (.fieldLink RX2 9 "EchoSeats$Past" "kinds" "[I") (List.mem_of_getElem? (i := 3) rfl)) (fun _ h9 => h9) rfl dX2_takeBackIn_59 ?_
      refine lv_aload_n hx hb dX2_takeBackIn_62 rfl (lv_at hl 1 rfl) ?_
      refine va_get (D := G) (ci := 2) (v := .int ((c0 4) - 1)) (C := RX2) (T := TX2) (N := 5) hx hb hts (fun w h => (List.mem_cons_of_mem _ (List.mem_append_left _ (List.mem_append_right _ h)))) hown hK.1 hP 0 rfl rfl 4 (by decide) (hts (.fieldLink RX2 24 "EchoSeats$Past" "size" "I") (List.mem_of_getElem? (i := 1) rfl)) (fun _ h9 => h9) rfl dX2_takeBackIn_63 ?_
      have g6 := gd_1 hres
      have hres := gd_2 hres
      refine x_iald hx hb hK hP 2 rfl (j := (Int32.toNatClampNeg ((c0 4) - 1))) rfl g6 dX2_takeBackIn_66 ?_
      refine lv_iconst (v := 1) hx hb dX2_takeBackIn_67 (by decide) ?_
      refine lv_icmp_ne (tgt := 104) hx hb dX2_takeBackIn_68 (by decide) (fun h7 => ?_) (fun h7 => ?_)
      · have hres := ite_f hres h7
        refine lv_aload_n hx hb dX2_takeBackIn_104 rfl (lv_at hl 2 rfl) ?_
        refine lv_aload_n hx hb dX2_takeBackIn_105 rfl (lv_at hl 1 rfl) ?_
        refine va_get (D := G) (ci := 2) (v := .ref A0_firsts) (C := RX2) (T := TX2) (N := 5) hx hb hts (fun w h => (List.mem_cons_of_mem _ (List.mem_append_left _ (List.mem_append_right _ h)))) hown hK.1 hP 0 rfl rfl 2 (by decide) (hts (.fieldLink RX2 18 "EchoSeats$Past" "firsts" "[I") (List.mem_of_getElem? (i := 5) rfl)) (fun _ h9 => h9) rfl dX2_takeBackIn_106 ?_
        refine lv_aload_n hx hb dX2_takeBackIn_109 rfl (lv_at hl 1 rfl) ?_
        refine va_get (D := G) (ci := 2) (v := .int ((c0 4) - 1)) (C := RX2) (T := TX2) (N := 5) hx hb hts (fun w h => (List.mem_cons_of_mem _ (List.mem_append_left _ (List.mem_append_right _ h)))) hown hK.1 hP 0 rfl rfl 4 (by decide) (hts (.fieldLink RX2 24 "EchoSeats$Past" "size" "I") (List.mem_of_getElem? (i := 1) rfl)) (fun _ h9 => h9) rfl dX2_takeBackIn_110 ?_
        have g8 := gd_1 hres
        have hres := gd_2 hres
        refine x_iald hx hb hK hP 4 rfl (j := (Int32.toNatClampNeg ((c0 4) - 1))) rfl g8 dX2_takeBackIn_113 ?_
        refine va_put (D := G) (ci := 3) (v := .int (c0_firsts (Int32.toNatClampNeg ((c0 4) - 1)))) (ty := .int) (C := RX3) (T := TX3) (N := 12) hx hb hts (fun w h => (List.mem_cons_of_mem _ (List.mem_append_right _ h))) tyX3 tyX3_ok nmX3 hown hK.1 hP hD hS 3 rfl rfl 2 (by decide) (hts (.fieldLink RX2 48 "EchoSeats$Scene" "sourceX" "I") (List.mem_of_getElem? (i := 9) rfl)) (fun _ h9 => h9) rfl (tyX3_ok 2 (by decide)) rfl rfl (Nat.le_of_ble_eq_true rfl) dX2_takeBackIn_114 (fun H locs hP hD hS => ?_)
        have hP : va_P G vwCl [o2 A0 (upd c0 4 ((c0 4) - 1)) A0_kinds A0_which A0_firsts A0_seconds, (A0_which, .inl (cI, 10, .inl c0_which)), (A0_kinds, .inl (cI, 10, .inl c0_kinds)), o3 A1 (upd c1 2 (c0_firsts (Int32.toNatClampNeg ((c0 4) - 1)))) A1_swallows A1_seatX A1_seatY A1_curtainX A1_curtainFrom A1_curtainTo, (A0_firsts, .inl (cI, 10, .inl c0_firsts)), (A1_swallows, .inl (cI, 4, .inl c1_swallows)), (A1_curtainFrom, .inl (cI, 3, .inl c1_curtainFrom)), (A0_seconds, .inl (cI, 10, .inl c0_seconds)), (A1_curtainTo, .inl (cI, 3, .inl c1_curtainTo))] H := hP
        have hD : va_D A [o2 A0 (upd c0 4 ((c0 4) - 1)) A0_kinds A0_which A0_firsts A0_seconds, (A0_which, .inl (cI, 10, .inl c0_which)), (A0_kinds, .inl (cI, 10, .inl c0_kinds)), o3 A1 (upd c1 2 (c0_firsts (Int32.toNatClampNeg ((c0 4) - 1)))) A1_swallows A1_seatX A1_seatY A1_curtainX A1_curtainFrom A1_curtainTo, (A0_firsts, .inl (cI, 10, .inl c0_firsts)), (A1_swallows, .inl (cI, 4, .inl c1_swallows)), (A1_curtainFrom, .inl (cI, 3, .inl c1_curtainFrom)), (A0_seconds, .inl (cI, 10, .inl c0_seconds)), (A1_curtainTo, .inl (cI, 3, .inl c1_curtainTo))] := hD
        refine lv_aload_n hx hb dX2_takeBackIn_117 rfl (lv_at hl 2 rfl) ?_
        refine lv_aload_n hx hb dX2_takeBackIn_118 rfl (lv_at hl 1 rfl) ?_
        refine va_get (D := G) (ci := 2) (v := .ref A0_seconds) (C := RX2) (T := TX2) (N := 5) hx hb hts (fun w h => (List.mem_cons_of_mem _ (List.mem_append_left _ (List.mem_append_right _ h)))) hown hK.1 hP 0 rfl rfl 3 (by decide) (hts (.fieldLink RX2 21 "EchoSeats$Past" "seconds" "[I") (List.mem_of_getElem? (i := 8) rfl)) (fun _ h9 => h9) rfl dX2_takeBackIn_119 ?_
        refine lv_aload_n hx hb dX2_takeBackIn_122 rfl (lv_at hl 1 rfl) ?_
        refine va_get (D := G) (ci := 2) (v := .int ((c0 4) - 1)) (C := RX2) (T := TX2) (N := 5) hx hb hts (fun w h => (List.mem_cons_of_mem _ (List.mem_append_left _ (List.mem_append_right _ h)))) hown hK.1 hP 0 rfl rfl 4 (by decide) (hts (.fieldLink RX2 24 "EchoSeats$Past" "size" "I") (List.mem_of_getElem? (i := 1) rfl)) (fun _ h9 => h9) rfl dX2_takeBackIn_123 ?_
        have g9 := gd_1 hres
        have hres := gd_2 hres
        refine x_iald hx hb hK hP 7 rfl (j := (Int32.toNatClampNeg ((c0 4) - 1))) rfl g9 dX2_takeBackIn_126 ?_
        refine va_put (D := G) (ci := 3) (v := .int (c0_seconds (Int32.toNatClampNeg ((c0 4) - 1)))) (ty := .int) (C := RX3) (T := TX3) (N := 12) hx hb hts (fun w h => (List.mem_cons_of_mem _ (List.mem_append_right _ h))) tyX3 tyX3_ok nmX3 hown hK.1 hP hD hS 3 rfl rfl 3 (by decide) (hts (.fieldLink RX2 51 "EchoSeats$Scene" "sourceY" "I") (List.mem_of_getElem? (i := 10) rfl)) (fun _ h9 => h9) rfl (tyX3_ok 3 (by decide)) rfl rfl (Nat.le_of_ble_eq_true rfl) dX2_takeBackIn_127 (fun H locs hP hD hS => ?_)
        have hP : va_P G vwCl [o2 A0 (upd c0 4 ((c0 4) - 1)) A0_kinds A0_which A0_firsts A0_seconds, (A0_which, .inl (cI, 10, .inl c0_which)), (A0_kinds, .inl (cI, 10, .inl c0_kinds)), o3 A1 (upd (upd c1 2 (c0_firsts (Int32.toNatClampNeg ((c0 4) - 1)))) 3 (c0_seconds (Int32.toNatClampNeg ((c0 4) - 1)))) A1_swallows A1_seatX A1_seatY A1_curtainX A1_curtainFrom A1_curtainTo, (A0_firsts, .inl (cI, 10, .inl c0_firsts)), (A1_swallows, .inl (cI, 4, .inl c1_swallows)), (A1_curtainFrom, .inl (cI, 3, .inl c1_curtainFrom)), (A0_seconds, .inl (cI, 10, .inl c0_seconds)), (A1_curtainTo, .inl (cI, 3, .inl c1_curtainTo))] H := hP
        have hD : va_D A [o2 A0 (upd c0 4 ((c0 4) - 1)) A0_kinds A0_which A0_firsts A0_seconds, (A0_which, .inl (cI, 10, .inl c0_which)), (A0_kinds, .inl (cI, 10, .inl c0_kinds)), o3 A1 (upd (upd c1 2 (c0_firsts (Int32.toNatClampNeg ((c0 4) - 1)))) 3 (c0_seconds (Int32.toNatClampNeg ((c0 4) - 1)))) A1_swallows A1_seatX A1_seatY A1_curtainX A1_curtainFrom A1_curtainTo, (A0_firsts, .inl (cI, 10, .inl c0_firsts)), (A1_swallows, .inl (cI, 4, .inl c1_swallows)), (A1_curtainFrom, .inl (cI, 3, .inl c1_curtainFrom)), (A0_seconds, .inl (cI, 10, .inl c0_seconds)), (A1_curtainTo, .inl (cI, 3, .inl c1_curtainTo))] := hD
        obtain rfl := Option.some.inj hres
        exact W.vret hx hb hr (fun t ht hW => ⟨⟨(), rfl, trivial, by rw [ht]; exact hP, hD⟩, hS.F ht⟩) hS.2.2 dX2_takeBackIn_130
      · have hres := ite_t hres h7
        refine lv_aload_n hx hb dX2_takeBackIn_71 rfl (lv_at hl 2 rfl) ?_
        refine va_get (D := G) (ci := 3) (v := .ref A1_curtainFrom) (C := RX3) (T := TX3) (N := 12) hx hb hts (fun w h => (List.mem_cons_of_mem _ (List.mem_append_right _ h))) hown hK.1 hP 3 rfl rfl 10 (by decide) (hts (.fieldLink RX2 42 "EchoSeats$Scene" "curtainFrom" "[I") (List.mem_of_getElem? (i := 6) rfl)) (fun _ h9 => h9) rfl dX2_takeBackIn_72 ?_
        refine lv_iload_n hx hb dX2_takeBackIn_75 rfl (lv_at hl 0 rfl) ?_
        refine lv_aload_n hx hb dX2_takeBackIn_76 rfl (lv_at hl 1 rfl) ?_
        refine va_get (D := G) (ci := 2) (v := .ref A0_firsts) (C := RX2) (T := TX2) (N := 5) hx hb hts (fun w h => (List.mem_cons_of_mem _ (List.mem_append_left _ (List.mem_append_right _ h)))) hown hK.1 hP 0 rfl rfl 2 (by decide) (hts (.fieldLink RX2 18 "EchoSeats$Past" "firsts" "[I") (List.mem_of_getElem? (i := 5) rfl)) (fun _ h9 => h9) rfl dX2_takeBackIn_77 ?_
        refine lv_aload_n hx hb dX2_takeBackIn_80 rfl (lv_at hl 1 rfl) ?_
        refine va_get (D := G) (ci := 2) (v := .int ((c0 4) - 1)) (C := RX2) (T := TX2) (N := 5) hx hb hts (fun w h => (List.mem_cons_of_mem _ (List.mem_append_left _ (List.mem_append_right _ h)))) hown hK.1 hP 0 rfl rfl 4 (by decide) (hts (.fieldLink RX2 24 "EchoSeats$Past" "size" "I") (List.mem_of_getElem? (i := 1) rfl)) (fun _ h9 => h9) rfl dX2_takeBackIn_81 ?_
        have g10 := gd_1 hres
        have hres := gd_2 hres
        refine x_iald hx hb hK hP 4 rfl (j := (Int32.toNatClampNeg ((c0 4) - 1))) rfl g10 dX2_takeBackIn_84 ?_
        have g11 := gd_1 hres
        have hres := gd_2 hres
        refine x_iast hx hb hK hP hD hS 6 rfl (j := (Int32.toNatClampNeg y3)) rfl g11 dX2_takeBackIn_85 (fun H locs hP hD hS => ?_)
        have hP : va_P G vwCl [o2 A0 (upd c0 4 ((c0 4) - 1)) A0_kinds A0_which A0_firsts A0_seconds, (A0_which, .inl (cI, 10, .inl c0_which)), (A0_kinds, .inl (cI, 10, .inl c0_kinds)), o3 A1 c1 A1_swallows A1_seatX A1_seatY A1_curtainX A1_curtainFrom A1_curtainTo, (A0_firsts, .inl (cI, 10, .inl c0_firsts)), (A1_swallows, .inl (cI, 4, .inl c1_swallows)), (A1_curtainFrom, .inl (cI, 3, .inl (upd c1_curtainFrom (Int32.toNatClampNeg y3) (c0_firsts (Int32.toNatClampNeg ((c0 4) - 1)))))), (A0_seconds, .inl (cI, 10, .inl c0_seconds)), (A1_curtainTo, .inl (cI, 3, .inl c1_curtainTo))] H := hP
        have hD : va_D A [o2 A0 (upd c0 4 ((c0 4) - 1)) A0_kinds A0_which A0_firsts A0_seconds, (A0_which, .inl (cI, 10, .inl c0_which)), (A0_kinds, .inl (cI, 10, .inl c0_kinds)), o3 A1 c1 A1_swallows A1_seatX A1_seatY A1_curtainX A1_curtainFrom A1_curtainTo, (A0_firsts, .inl (cI, 10, .inl c0_firsts)), (A1_swallows, .inl (cI, 4, .inl c1_swallows)), (A1_curtainFrom, .inl (cI, 3, .inl (upd c1_curtainFrom (Int32.toNatClampNeg y3) (c0_firsts (Int32.toNatClampNeg ((c0 4) - 1)))))), (A0_seconds, .inl (cI, 10, .inl c0_seconds)), (A1_curtainTo, .inl (cI, 3, .inl c1_curtainTo))] := hD
        refine lv_aload_n hx hb dX2_takeBackIn_86 rfl (lv_at hl 2 rfl) ?_
        refine va_get (D := G) (ci := 3) (v := .ref A1_curtainTo) (C := RX3) (T := TX3) (N := 12) hx hb hts (fun w h => (List.mem_cons_of_mem _ (List.mem_append_right _ h))) hown hK.1 hP 3 rfl rfl 11 (by decide) (hts (.fieldLink RX2 45 "EchoSeats$Scene" "curtainTo" "[I") (List.mem_of_getElem? (i := 7) rfl)) (fun _ h9 => h9) rfl dX2_takeBackIn_87 ?_
        refine lv_iload_n hx hb dX2_takeBackIn_90 rfl (lv_at hl 0 rfl) ?_
        refine lv_aload_n hx hb dX2_takeBackIn_91 rfl (lv_at hl 1 rfl) ?_
        refine va_get (D := G) (ci := 2) (v := .ref A0_seconds) (C := RX2) (T := TX2) (N := 5) hx hb hts (fun w h => (List.mem_cons_of_mem _ (List.mem_append_left _ (List.mem_append_right _ h)))) hown hK.1 hP 0 rfl rfl 3 (by decide) (hts (.fieldLink RX2 21 "EchoSeats$Past" "seconds" "[I") (List.mem_of_getElem? (i := 8) rfl)) (fun _ h9 => h9) rfl dX2_takeBackIn_92 ?_
        refine lv_aload_n hx hb dX2_takeBackIn_95 rfl (lv_at hl 1 rfl) ?_
        refine va_get (D := G) (ci := 2) (v := .int ((c0 4) - 1)) (C := RX2) (T := TX2) (N := 5) hx hb hts (fun w h => (List.mem_cons_of_mem _ (List.mem_append_left _ (List.mem_append_right _ h)))) hown hK.1 hP 0 rfl rfl 4 (by decide) (hts (.fieldLink RX2 24 "EchoSeats$Past" "size" "I") (List.mem_of_getElem? (i := 1) rfl)) (fun _ h9 => h9) rfl dX2_takeBackIn_96 ?_
        have g12 := gd_1 hres
        have hres := gd_2 hres
        refine x_iald hx hb hK hP 7 rfl (j := (Int32.toNatClampNeg ((c0 4) - 1))) rfl g12 dX2_takeBackIn_99 ?_
        have g13 := gd_1 hres
        have hres := gd_2 hres
        refine x_iast hx hb hK hP hD hS 8 rfl (j := (Int32.toNatClampNeg y3)) rfl g13 dX2_takeBackIn_100 (fun H locs hP hD hS => ?_)
        have hP : va_P G vwCl [o2 A0 (upd c0 4 ((c0 4) - 1)) A0_kinds A0_which A0_firsts A0_seconds, (A0_which, .inl (cI, 10, .inl c0_which)), (A0_kinds, .inl (cI, 10, .inl c0_kinds)), o3 A1 c1 A1_swallows A1_seatX A1_seatY A1_curtainX A1_curtainFrom A1_curtainTo, (A0_firsts, .inl (cI, 10, .inl c0_firsts)), (A1_swallows, .inl (cI, 4, .inl c1_swallows)), (A1_curtainFrom, .inl (cI, 3, .inl (upd c1_curtainFrom (Int32.toNatClampNeg y3) (c0_firsts (Int32.toNatClampNeg ((c0 4) - 1)))))), (A0_seconds, .inl (cI, 10, .inl c0_seconds)), (A1_curtainTo, .inl (cI, 3, .inl (upd c1_curtainTo (Int32.toNatClampNeg y3) (c0_seconds (Int32.toNatClampNeg ((c0 4) - 1))))))] H := hP
        have hD : va_D A [o2 A0 (upd c0 4 ((c0 4) - 1)) A0_kinds A0_which A0_firsts A0_seconds, (A0_which, .inl (cI, 10, .inl c0_which)), (A0_kinds, .inl (cI, 10, .inl c0_kinds)), o3 A1 c1 A1_swallows A1_seatX A1_seatY A1_curtainX A1_curtainFrom A1_curtainTo, (A0_firsts, .inl (cI, 10, .inl c0_firsts)), (A1_swallows, .inl (cI, 4, .inl c1_swallows)), (A1_curtainFrom, .inl (cI, 3, .inl (upd c1_curtainFrom (Int32.toNatClampNeg y3) (c0_firsts (Int32.toNatClampNeg ((c0 4) - 1)))))), (A0_seconds, .inl (cI, 10, .inl c0_seconds)), (A1_curtainTo, .inl (cI, 3, .inl (upd c1_curtainTo (Int32.toNatClampNeg y3) (c0_seconds (Int32.toNatClampNeg ((c0 4) - 1))))))] := hD
        refine lv_goto (tgt := 130) hx hb dX2_takeBackIn_101 (by decide) ?_
        obtain rfl := Option.some.inj hres
        exact W.vret hx hb hr (fun t ht hW => ⟨⟨(), rfl, trivial, by rw [ht]; exact hP, hD⟩, hS.F ht⟩) hS.2.2 dX2_takeBackIn_130
    · have hres := ite_t hres h5
      refine lv_aload_n hx hb dX2_takeBackIn_40 rfl (lv_at hl 2 rfl) ?_
      refine va_get (D := G) (ci := 3) (v := .ref A1_swallows) (C := RX3) (T := TX3) (N := 12) hx hb hts (fun w h => (List.mem_cons_of_mem _ (List.mem_append_right _ h))) hown hK.1 hP 3 rfl rfl 6 (by decide) (hts (.fieldLink RX2 37 "EchoSeats$Scene" "swallows" "[I") (List.mem_of_getElem? (i := 4) rfl)) (fun _ h9 => h9) rfl dX2_takeBackIn_41 ?_
      refine lv_iload_n hx hb dX2_takeBackIn_44 rfl (lv_at hl 0 rfl) ?_
      refine lv_aload_n hx hb dX2_takeBackIn_45 rfl (lv_at hl 1 rfl) ?_
      refine va_get (D := G) (ci := 2) (v := .ref A0_firsts) (C := RX2) (T := TX2) (N := 5) hx hb hts (fun w h => (List.mem_cons_of_mem _ (List.mem_append_left _ (List.mem_append_right _ h)))) hown hK.1 hP 0 rfl rfl 2 (by decide) (hts (.fieldLink RX2 18 "EchoSeats$Past" "firsts" "[I") (List.mem_of_getElem? (i := 5) rfl)) (fun _ h9 => h9) rfl dX2_takeBackIn_46 ?_
      refine lv_aload_n hx hb dX2_takeBackIn_49 rfl (lv_at hl 1 rfl) ?_
      refine va_get (D := G) (ci := 2) (v := .int ((c0 4) - 1)) (C := RX2) (T := TX2) (N := 5) hx hb hts (fun w h => (List.mem_cons_of_mem _ (List.mem_append_left _ (List.mem_append_right _ h)))) hown hK.1 hP 0 rfl rfl 4 (by decide) (hts (.fieldLink RX2 24 "EchoSeats$Past" "size" "I") (List.mem_of_getElem? (i := 1) rfl)) (fun _ h9 => h9) rfl dX2_takeBackIn_50 ?_
      have g14 := gd_1 hres
      have hres := gd_2 hres
      refine x_iald hx hb hK hP 4 rfl (j := (Int32.toNatClampNeg ((c0 4) - 1))) rfl g14 dX2_takeBackIn_53 ?_
      have g15 := gd_1 hres
      have hres := gd_2 hres
      refine x_iast hx hb hK hP hD hS 5 rfl (j := (Int32.toNatClampNeg y3)) rfl g15 dX2_takeBackIn_54 (fun H locs hP hD hS => ?_)
      have hP : va_P G vwCl [o2 A0 (upd c0 4 ((c0 4) - 1)) A0_kinds A0_which A0_firsts A0_seconds, (A0_which, .inl (cI, 10, .inl c0_which)), (A0_kinds, .inl (cI, 10, .inl c0_kinds)), o3 A1 c1 A1_swallows A1_seatX A1_seatY A1_curtainX A1_curtainFrom A1_curtainTo, (A0_firsts, .inl (cI, 10, .inl c0_firsts)), (A1_swallows, .inl (cI, 4, .inl (upd c1_swallows (Int32.toNatClampNeg y3) (c0_firsts (Int32.toNatClampNeg ((c0 4) - 1)))))), (A1_curtainFrom, .inl (cI, 3, .inl c1_curtainFrom)), (A0_seconds, .inl (cI, 10, .inl c0_seconds)), (A1_curtainTo, .inl (cI, 3, .inl c1_curtainTo))] H := hP
      have hD : va_D A [o2 A0 (upd c0 4 ((c0 4) - 1)) A0_kinds A0_which A0_firsts A0_seconds, (A0_which, .inl (cI, 10, .inl c0_which)), (A0_kinds, .inl (cI, 10, .inl c0_kinds)), o3 A1 c1 A1_swallows A1_seatX A1_seatY A1_curtainX A1_curtainFrom A1_curtainTo, (A0_firsts, .inl (cI, 10, .inl c0_firsts)), (A1_swallows, .inl (cI, 4, .inl (upd c1_swallows (Int32.toNatClampNeg y3) (c0_firsts (Int32.toNatClampNeg ((c0 4) - 1)))))), (A1_curtainFrom, .inl (cI, 3, .inl c1_curtainFrom)), (A0_seconds, .inl (cI, 10, .inl c0_seconds)), (A1_curtainTo, .inl (cI, 3, .inl c1_curtainTo))] := hD
      refine lv_goto (tgt := 130) hx hb dX2_takeBackIn_55 (by decide) ?_
      obtain rfl := Option.some.inj hres
      exact W.vret hx hb hr (fun t ht hW => ⟨⟨(), rfl, trivial, by rw [ht]; exact hP, hD⟩, hS.F ht⟩) hS.2.2 dX2_takeBackIn_130
  · have hres := ite_f hres h1
    obtain rfl := Option.some.inj hres
    exact W.vret hx hb hr (fun t ht hW => ⟨⟨(), rfl, trivial, by rw [ht]; exact hP, hD⟩, hS.F ht⟩) hS.2.2 dX2_takeBackIn_7
theorem hsX2_takeBackIn : yX2_takeBackIn.cls = RX2 ∧ yX2_takeBackIn.cls ≠ "java/lang/invoke/MethodHandle" ∧ yX2_takeBackIn.cls ≠ "java/lang/invoke/VarHandle" ∧ (parseMethodDescriptor yX2_takeBackIn.desc).map (fun d => d.parameters.length) = some 1 := by decide +kernel
set_option maxHeartbeats 4000000 in
set_option maxRecDepth 100000 in
theorem kX3_beAsAtFirst (l : Launch) (G : va_G) (cI cZ : ClassId) (tl : List (ClassId × FieldType)) (sz : Nat) (A : Nat → Prop) (A0 A0_swallows A0_seatX A0_seatY A0_curtainX A0_curtainFrom A0_curtainTo : Nat) (c0 c0_swallows : Nat → Int32) (res : (Nat → Int32) × (Nat → Int32)) (hAe : A = va_A [o3 A0 c0 A0_swallows A0_seatX A0_seatY A0_curtainX A0_curtainFrom A0_curtainTo, (A0_swallows, .inl (cI, 4, .inl c0_swallows))] sz) (hres : fX3_beAsAtFirst c0 c0_swallows = some res) : Met l yX3_beAsAtFirst wsX3_beAsAtFirst rX3_beAsAtFirst (va_Pc [.ref A0] (PRW G cI cZ tl [o3 A0 c0 A0_swallows A0_seatX A0_seatY A0_curtainX A0_curtainFrom A0_curtainTo, (A0_swallows, .inl (cI, 4, .inl c0_swallows))] sz)) (Qvw G A [o3 A0 res.1 A0_swallows A0_seatX A0_seatY A0_curtainX A0_curtainFrom A0_curtainTo, (A0_swallows, .inl (cI, 4, .inl res.2))]) 0 0 A := by
  refine Met.ofW (cc := cX3_beAsAtFirst) (maxL := 1) (ret := none) (by decide) rfl ?_
  intro p e s m args below meth c s₁ B hml hv
  obtain ⟨rfl, hsz, hP, hK, hD0⟩ := hv
  have hx := B.exec
  have hb := B.bytes
  have hr := B.returns
  have hts := atoms_spec (ws := wsX3_beAsAtFirst) B.pre
  have hown : s.vm.findClass RX3 = some m.cls := findClass_of_methodNamed B.named
  have hlocks := B.notSynchronized
  subst hsz
  have hD : va_D A [o3 A0 c0 A0_swallows A0_seatX A0_seatY A0_curtainX A0_curtainFrom A0_curtainTo, (A0_swallows, .inl (cI, 4, .inl c0_swallows))] := by rw [hAe]; exact hD0.self
  have hA : ∀ q : Nat, s.heap.size ≤ q → A q := fun q h => by rw [hAe]; exact Or.inr h
  clear hAe hD0
  have hS : va_S A s.heap s.heap [] := va_S.rf
  have hl := lv_entry ([.ref A0] : List Value) (n := 1) (Nat.le_of_ble_eq_true rfl)
  rw [lg_entry_eq]
  generalize (lg_sl ([.ref A0] : List Value) ++ List.replicate (1 - (lg_sl ([.ref A0] : List Value)).length) Slot.unset).toArray = ls at hl ⊢
  have hl : lv_has ls 1 [(0, .ref A0)] := hl
  refine lv_aload_n hx hb dX3_beAsAtFirst_0 rfl (lv_at hl 0 rfl) ?_
  refine lv_bipush (v := 10) hx hb dX3_beAsAtFirst_1 (by decide) ?_
  refine va_put (D := G) (ci := 3) (v := .int 10) (ty := .int) (C := RX3) (T := TX3) (N := 12) hx hb hts (fun w h => (List.mem_cons_of_mem _ (List.mem_append_right _ h))) tyX3 tyX3_ok nmX3 hown hK.1 hP hD hS 0 rfl rfl 0 (by decide) (hts (.fieldLink RX3 33 "EchoSeats$Scene" "length" "I") (List.mem_of_getElem? (i := 1) rfl)) (fun _ h9 => h9) rfl (tyX3_ok 0 (by decide)) rfl rfl (Nat.le_of_ble_eq_true rfl) dX3_beAsAtFirst_3 (fun H locs hP hD hS => ?_)
  have hP : va_P G vwCl [o3 A0 (upd c0 0 10) A0_swallows A0_seatX A0_seatY A0_curtainX A0_curtainFrom A0_curtainTo, (A0_swallows, .inl (cI, 4, .inl c0_swallows))] H := hP
  have hD : va_D A [o3 A0 (upd c0 0 10) A0_swallows A0_seatX A0_seatY A0_curtainX A0_curtainFrom A0_curtainTo, (A0_swallows, .inl (cI, 4, .inl c0_swallows))] := hD
  refine lv_aload_n hx hb dX3_beAsAtFirst_6 rfl (lv_at hl 0 rfl) ?_
  refine lv_bipush (v := 8) hx hb dX3_beAsAtFirst_7 (by decide) ?_
  refine va_put (D := G) (ci := 3) (v := .int 8) (ty := .int) (C := RX3) (T := TX3) (N := 12) hx hb hts (fun w h => (List.mem_cons_of_mem _ (List.mem_append_right _ h))) tyX3 tyX3_ok nmX3 hown hK.1 hP hD hS 0 rfl rfl 1 (by decide) (hts (.fieldLink RX3 37 "EchoSeats$Scene" "breadth" "I") (List.mem_of_getElem? (i := 2) rfl)) (fun _ h9 => h9) rfl (tyX3_ok 1 (by decide)) rfl rfl (Nat.le_of_ble_eq_true rfl) dX3_beAsAtFirst_9 (fun H locs hP hD hS => ?_)
  have hP : va_P G vwCl [o3 A0 (upd (upd c0 0 10) 1 8) A0_swallows A0_seatX A0_seatY A0_curtainX A0_curtainFrom A0_curtainTo, (A0_swallows, .inl (cI, 4, .inl c0_swallows))] H := hP
  have hD : va_D A [o3 A0 (upd (upd c0 0 10) 1 8) A0_swallows A0_seatX A0_seatY A0_curtainX A0_curtainFrom A0_curtainTo, (A0_swallows, .inl (cI, 4, .inl c0_swallows))] := hD
  refine lv_aload_n hx hb dX3_beAsAtFirst_12 rfl (lv_at hl 0 rfl) ?_
  refine lv_iconst (v := 1) hx hb dX3_beAsAtFirst_13 (by decide) ?_
  refine va_put (D := G) (ci := 3) (v := .int 1) (ty := .int) (C := RX3) (T := TX3) (N := 12) hx hb hts (fun w h => (List.mem_cons_of_mem _ (List.mem_append_right _ h))) tyX3 tyX3_ok nmX3 hown hK.1 hP hD hS 0 rfl rfl 2 (by decide) (hts (.fieldLink RX3 40 "EchoSeats$Scene" "sourceX" "I") (List.mem_of_getElem? (i := 3) rfl)) (fun _ h9 => h9) rfl (tyX3_ok 2 (by decide)) rfl rfl (Nat.le_of_ble_eq_true rfl) dX3_beAsAtFirst_14 (fun H locs hP hD hS => ?_)
  have hP : va_P G vwCl [o3 A0 (upd (upd (upd c0 0 10) 1 8) 2 1) A0_swallows A0_seatX A0_seatY A0_curtainX A0_curtainFrom A0_curtainTo, (A0_swallows, .inl (cI, 4, .inl c0_swallows))] H := hP
  have hD : va_D A [o3 A0 (upd (upd (upd c0 0 10) 1 8) 2 1) A0_swallows A0_seatX A0_seatY A0_curtainX A0_curtainFrom A0_curtainTo, (A0_swallows, .inl (cI, 4, .inl c0_swallows))] := hD
  refine lv_aload_n hx hb dX3_beAsAtFirst_17 rfl (lv_at hl 0 rfl) ?_
  refine lv_iconst (v := 1) hx hb dX3_beAsAtFirst_18 (by decide) ?_
  refine va_put (D := G) (ci := 3) (v := .int 1) (ty := .int) (C := RX3) (T := TX3) (N := 12) hx hb hts (fun w h => (List.mem_cons_of_mem _ (List.mem_append_right _ h))) tyX3 tyX3_ok nmX3 hown hK.1 hP hD hS 0 rfl rfl 3 (by decide) (hts (.fieldLink RX3 43 "EchoSeats$Scene" "sourceY" "I") (List.mem_of_getElem? (i := 4) rfl)) (fun _ h9 => h9) rfl (tyX3_ok 3 (by decide)) rfl rfl (Nat.le_of_ble_eq_true rfl) dX3_beAsAtFirst_19 (fun H locs hP hD hS => ?_)
  have hP : va_P G vwCl [o3 A0 (upd (upd (upd (upd c0 0 10) 1 8) 2 1) 3 1) A0_swallows A0_seatX A0_seatY A0_curtainX A0_curtainFrom A0_curtainTo, (A0_swallows, .inl (cI, 4, .inl c0_swallows))] H := hP
  have hD : va_D A [o3 A0 (upd (upd (upd (upd c0 0 10) 1 8) 2 1) 3 1) A0_swallows A0_seatX A0_seatY A0_curtainX A0_curtainFrom A0_curtainTo, (A0_swallows, .inl (cI, 4, .inl c0_swallows))] := hD
  refine lv_aload_n hx hb dX3_beAsAtFirst_22 rfl (lv_at hl 0 rfl) ?_
  refine lv_iconst (v := 0) hx hb dX3_beAsAtFirst_23 (by decide) ?_
  refine va_put (D := G) (ci := 3) (v := .int 0) (ty := .int) (C := RX3) (T := TX3) (N := 12) hx hb hts (fun w h => (List.mem_cons_of_mem _ (List.mem_append_right _ h))) tyX3 tyX3_ok nmX3 hown hK.1 hP hD hS 0 rfl rfl 4 (by decide) (hts (.fieldLink RX3 46 "EchoSeats$Scene" "seats" "I") (List.mem_of_getElem? (i := 5) rfl)) (fun _ h9 => h9) rfl (tyX3_ok 4 (by decide)) rfl rfl (Nat.le_of_ble_eq_true rfl) dX3_beAsAtFirst_24 (fun H locs hP hD hS => ?_)
  have hP : va_P G vwCl [o3 A0 (upd (upd (upd (upd (upd c0 0 10) 1 8) 2 1) 3 1) 4 0) A0_swallows A0_seatX A0_seatY A0_curtainX A0_curtainFrom A0_curtainTo, (A0_swallows, .inl (cI, 4, .inl c0_swallows))] H := hP
  have hD : va_D A [o3 A0 (upd (upd (upd (upd (upd c0 0 10) 1 8) 2 1) 3 1) 4 0) A0_swallows A0_seatX A0_seatY A0_curtainX A0_curtainFrom A0_curtainTo, (A0_swallows, .inl (cI, 4, .inl c0_swallows))] := hD
  refine lv_aload_n hx hb dX3_beAsAtFirst_27 rfl (lv_at hl 0 rfl) ?_
  refine lv_iconst (v := 0) hx hb dX3_beAsAtFirst_28 (by decide) ?_
  refine va_put (D := G) (ci := 3) (v := .int 0) (ty := .int) (C := RX3) (T := TX3) (N := 12) hx hb hts (fun w h => (List.mem_cons_of_mem _ (List.mem_append_right _ h))) tyX3 tyX3_ok nmX3 hown hK.1 hP hD hS 0 rfl rfl 5 (by decide) (hts (.fieldLink RX3 49 "EchoSeats$Scene" "curtains" "I") (List.mem_of_getElem? (i := 6) rfl)) (fun _ h9 => h9) rfl (tyX3_ok 5 (by decide)) rfl rfl (Nat.le_of_ble_eq_true rfl) dX3_beAsAtFirst_29 (fun H locs hP hD hS => ?_)
  have hP : va_P G vwCl [o3 A0 (upd (upd (upd (upd (upd (upd c0 0 10) 1 8) 2 1) 3 1) 4 0) 5 0) A0_swallows A0_seatX A0_seatY A0_curtainX A0_curtainFrom A0_curtainTo, (A0_swallows, .inl (cI, 4, .inl c0_swallows))] H := hP
  have hD : va_D A [o3 A0 (upd (upd (upd (upd (upd (upd c0 0 10) 1 8) 2 1) 3 1) 4 0) 5 0) A0_swallows A0_seatX A0_seatY A0_curtainX A0_curtainFrom A0_curtainTo, (A0_swallows, .inl (cI, 4, .inl c0_swallows))] := hD
  refine lv_aload_n hx hb dX3_beAsAtFirst_32 rfl (lv_at hl 0 rfl) ?_
  refine va_get (D := G) (ci := 3) (v := .ref A0_swallows) (C := RX3) (T := TX3) (N := 12) hx hb hts (fun w h => (List.mem_cons_of_mem _ (List.mem_append_right _ h))) hown hK.1 hP 0 rfl rfl 6 (by decide) (hts (.fieldLink RX3 9 "EchoSeats$Scene" "swallows" "[I") (List.mem_of_getElem? (i := 7) rfl)) (fun _ h9 => h9) rfl dX3_beAsAtFirst_33 ?_
  refine lv_iconst (v := 2) hx hb dX3_beAsAtFirst_36 (by decide) ?_
  obtain ⟨r1, hr1, hres⟩ := bi_1 hres
  refine x_cv (wr := [o3 A0 (upd (upd (upd (upd (upd (upd c0 0 10) 1 8) 2 1) 3 1) 4 0) 5 0) A0_swallows A0_seatX A0_seatY A0_curtainX A0_curtainFrom A0_curtainTo]) (w2 := [o3 A0 (upd (upd (upd (upd (upd (upd c0 0 10) 1 8) 2 1) 3 1) 4 0) 5 0) A0_swallows A0_seatX A0_seatY A0_curtainX A0_curtainFrom A0_curtainTo, (A0_swallows, .inl (cI, 4, .inl r1))]) hP hD hS hA (va_runS (As := [.ref A0_swallows, .int 2]) (rest := []) ⟨hx, hb, hml, hown, hts⟩ (kJ7_fill_53178 l G cI cZ tl H.size _ A0_swallows 4 c0_swallows 2 r1 rfl hr1) (va_cwS 2 hts gX3_beAsAtFirst_J7_fill_53178 rfl rfl rfl hsJ7_fill_53178 ⟨Nat.le_of_ble_eq_true rfl, Nat.le_of_ble_eq_true rfl⟩) ⟨PRW_blind, PRW_at (hP.sub (ws' := [(A0_swallows, .inl (cI, 4, .inl c0_swallows))]) [1] rfl) (hD.sub (ws' := [(A0_swallows, .inl (cI, 4, .inl c0_swallows))]) [1] (by decide) rfl) hK⟩ rfl rfl hl.1 rfl (lv_room (Nat.le_of_ble_eq_true rfl)) dX3_beAsAtFirst_37 ⟨Nat.zero_le _, Nat.zero_le _⟩) [1] [0] [0, 1] rfl rfl (by decide) (by decide) rfl rfl (by decide) (fun H locs hP hD hS => ?_)
  obtain rfl := Option.some.inj hres
  exact W.vret hx hb hr (fun t ht hW => ⟨⟨(), rfl, trivial, by rw [ht]; exact hP, hD⟩, hS.F ht⟩) hS.2.2 dX3_beAsAtFirst_40
theorem hsX3_beAsAtFirst : yX3_beAsAtFirst.cls = RX3 ∧ yX3_beAsAtFirst.cls ≠ "java/lang/invoke/MethodHandle" ∧ yX3_beAsAtFirst.cls ≠ "java/lang/invoke/VarHandle" ∧ (parseMethodDescriptor yX3_beAsAtFirst.desc).map (fun d => d.parameters.length) = some 0 := by decide +kernel
set_option maxHeartbeats 4000000 in
set_option maxRecDepth 100000 in
theorem kX3_copyFrom (l : Launch) (G : va_G) (cI cZ : ClassId) (tl : List (ClassId × FieldType)) (sz : Nat) (A : Nat → Prop) (A1 A1_swallows A1_seatX A1_seatY A1_curtainX A1_curtainFrom A1_curtainTo A0 A0_swallows A0_seatX A0_seatY A0_curtainX A0_curtainFrom A0_curtainTo : Nat) (c1 c0 c1_swallows c0_swallows c1_seatX c0_seatX c1_seatY c0_seatY c1_curtainX c0_curtainX c1_curtainFrom c0_curtainFrom c1_curtainTo c0_curtainTo : Nat → Int32) (res : (Nat → Int32) × (Nat → Int32) × (Nat → Int32) × (Nat → Int32) × (Nat → Int32) × (Nat → Int32) × (Nat → Int32)) (hAe : A = va_A [o3 A1 c1 A1_swallows A1_seatX A1_seatY A1_curtainX A1_curtainFrom A1_curtainTo, o3 A0 c0 A0_swallows A0_seatX A0_seatY A0_curtainX A0_curtainFrom A0_curtainTo, (A1_swallows, .inl (cI, 4, .inl c1_swallows)), (A0_swallows, .inl (cI, 4, .inl c0_swallows)), (A1_seatX, .inl (cI, 4, .inl c1_seatX)), (A0_seatX, .inl (cI, 4, .inl c0_seatX)), (A1_seatY, .inl (cI, 4, .inl c1_seatY)), (A0_seatY, .inl (cI, 4, .inl c0_seatY)), (A1_curtainX, .inl (cI, 3, .inl c1_curtainX)), (A0_curtainX, .inl (cI, 3, .inl c0_curtainX)), (A1_curtainFrom, .inl (cI, 3, .inl c1_curtainFrom)), (A0_curtainFrom, .inl (cI, 3, .inl c0_curtainFrom)), (A1_curtainTo, .inl (cI, 3, .inl c1_curtainTo)), (A0_curtainTo, .inl (cI, 3, .inl c0_curtainTo))] sz) (hres : fX3_copyFrom c1 c0 c1_swallows c0_swallows c1_seatX c0_seatX c1_seatY c0_seatY c1_curtainX c0_curtainX c1_curtainFrom c0_curtainFrom c1_curtainTo c0_curtainTo = some res) : Met l yX3_copyFrom wsX3_copyFrom rX3_copyFrom (va_Pc [.ref A0, .ref A1] (PRW G cI cZ tl [o3 A1 c1 A1_swallows A1_seatX A1_seatY A1_curtainX A1_curtainFrom A1_curtainTo, o3 A0 c0 A0_swallows A0_seatX A0_seatY A0_curtainX A0_curtainFrom A0_curtainTo, (A1_swallows, .inl (cI, 4, .inl c1_swallows)), (A0_swallows, .inl (cI, 4, .inl c0_swallows)), (A1_seatX, .inl (cI, 4, .inl c1_seatX)), (A0_seatX, .inl (cI, 4, .inl c0_seatX)), (A1_seatY, .inl (cI, 4, .inl c1_seatY)), (A0_seatY, .inl (cI, 4, .inl c0_seatY)), (A1_curtainX, .inl (cI, 3, .inl c1_curtainX)), (A0_curtainX, .inl (cI, 3, .inl c0_curtainX)), (A1_curtainFrom, .inl (cI, 3, .inl c1_curtainFrom)), (A0_curtainFrom, .inl (cI, 3, .inl c0_curtainFrom)), (A1_curtainTo, .inl (cI, 3, .inl c1_curtainTo)), (A0_curtainTo, .inl (cI, 3, .inl c0_curtainTo))] sz)) (Qvw G A [o3 A1 c1 A1_swallows A1_seatX A1_seatY A1_curtainX A1_curtainFrom A1_curtainTo, o3 A0 res.1 A0_swallows A0_seatX A0_seatY A0_curtainX A0_curtainFrom A0_curtainTo, (A1_swallows, .inl (cI, 4, .inl c1_swallows)), (A0_swallows, .inl (cI, 4, .inl res.2.1)), (A1_seatX, .inl (cI, 4, .inl c1_seatX)), (A0_seatX, .inl (cI, 4, .inl res.2.2.1)), (A1_seatY, .inl (cI, 4, .inl c1_seatY)), (A0_seatY, .inl (cI, 4, .inl res.2.2.2.1)), (A1_curtainX, .inl (cI, 3, .inl c1_curtainX)), (A0_curtainX, .inl (cI, 3, .inl res.2.2.2.2.1)), (A1_curtainFrom, .inl (cI, 3, .inl c1_curtainFrom)), (A0_curtainFrom, .inl (cI, 3, .inl res.2.2.2.2.2.1)), (A1_curtainTo, .inl (cI, 3, .inl c1_curtainTo)), (A0_curtainTo, .inl (cI, 3, .inl res.2.2.2.2.2.2))]) 0 0 A := by
  refine Met.ofW (cc := cX3_copyFrom) (maxL := 2) (ret := none) (by decide) rfl ?_
  intro p e s m args below meth c s₁ B hml hv
  obtain ⟨rfl, hsz, hP, hK, hD0⟩ := hv
  have hx := B.exec
  have hb := B.bytes
  have hr := B.returns
  have hts := atoms_spec (ws := wsX3_copyFrom) B.pre
  have hown : s.vm.findClass RX3 = some m.cls := findClass_of_methodNamed B.named
  have hlocks := B.notSynchronized
  subst hsz
  have hD : va_D A [o3 A1 c1 A1_swallows A1_seatX A1_seatY A1_curtainX A1_curtainFrom A1_curtainTo, o3 A0 c0 A0_swallows A0_seatX A0_seatY A0_curtainX A0_curtainFrom A0_curtainTo, (A1_swallows, .inl (cI, 4, .inl c1_swallows)), (A0_swallows, .inl (cI, 4, .inl c0_swallows)), (A1_seatX, .inl (cI, 4, .inl c1_seatX)), (A0_seatX, .inl (cI, 4, .inl c0_seatX)), (A1_seatY, .inl (cI, 4, .inl c1_seatY)), (A0_seatY, .inl (cI, 4, .inl c0_seatY)), (A1_curtainX, .inl (cI, 3, .inl c1_curtainX)), (A0_curtainX, .inl (cI, 3, .inl c0_curtainX)), (A1_curtainFrom, .inl (cI, 3, .inl c1_curtainFrom)), (A0_curtainFrom, .inl (cI, 3, .inl c0_curtainFrom)), (A1_curtainTo, .inl (cI, 3, .inl c1_curtainTo)), (A0_curtainTo, .inl (cI, 3, .inl c0_curtainTo))] := by rw [hAe]; exact hD0.self
  have hA : ∀ q : Nat, s.heap.size ≤ q → A q := fun q h => by rw [hAe]; exact Or.inr h
  clear hAe hD0
  have hS : va_S A s.heap s.heap [] := va_S.rf
  have hl := lv_entry ([.ref A0, .ref A1] : List Value) (n := 2) (Nat.le_of_ble_eq_true rfl)
  rw [lg_entry_eq]
  generalize (lg_sl ([.ref A0, .ref A1] : List Value) ++ List.replicate (2 - (lg_sl ([.ref A0, .ref A1] : List Value)).length) Slot.unset).toArray = ls at hl ⊢
  have hl : lv_has ls 2 [(0, .ref A0), (1, .ref A1)] := hl
  refine lv_aload_n hx hb dX3_copyFrom_0 rfl (lv_at hl 0 rfl) ?_
  refine lv_aload_n hx hb dX3_copyFrom_1 rfl (lv_at hl 1 rfl) ?_
  refine va_get (D := G) (ci := 3) (v := .int (c1 0)) (C := RX3) (T := TX3) (N := 12) hx hb hts (fun w h => (List.mem_cons_of_mem _ (List.mem_append_right _ h))) hown hK.1 hP 0 rfl rfl 0 (by decide) (hts (.fieldLink RX3 33 "EchoSeats$Scene" "length" "I") (List.mem_of_getElem? (i := 1) rfl)) (fun _ h9 => h9) rfl dX3_copyFrom_2 ?_
  refine va_put (D := G) (ci := 3) (v := .int (c1 0)) (ty := .int) (C := RX3) (T := TX3) (N := 12) hx hb hts (fun w h => (List.mem_cons_of_mem _ (List.mem_append_right _ h))) tyX3 tyX3_ok nmX3 hown hK.1 hP hD hS 1 rfl rfl 0 (by decide) (hts (.fieldLink RX3 33 "EchoSeats$Scene" "length" "I") (List.mem_of_getElem? (i := 1) rfl)) (fun _ h9 => h9) rfl (tyX3_ok 0 (by decide)) rfl rfl (Nat.le_of_ble_eq_true rfl) dX3_copyFrom_5 (fun H locs hP hD hS => ?_)
  have hP : va_P G vwCl [o3 A1 c1 A1_swallows A1_seatX A1_seatY A1_curtainX A1_curtainFrom A1_curtainTo, o3 A0 (upd c0 0 (c1 0)) A0_swallows A0_seatX A0_seatY A0_curtainX A0_curtainFrom A0_curtainTo, (A1_swallows, .inl (cI, 4, .inl c1_swallows)), (A0_swallows, .inl (cI, 4, .inl c0_swallows)), (A1_seatX, .inl (cI, 4, .inl c1_seatX)), (A0_seatX, .inl (cI, 4, .inl c0_seatX)), (A1_seatY, .inl (cI, 4, .inl c1_seatY)), (A0_seatY, .inl (cI, 4, .inl c0_seatY)), (A1_curtainX, .inl (cI, 3, .inl c1_curtainX)), (A0_curtainX, .inl (cI, 3, .inl c0_curtainX)), (A1_curtainFrom, .inl (cI, 3, .inl c1_curtainFrom)), (A0_curtainFrom, .inl (cI, 3, .inl c0_curtainFrom)), (A1_curtainTo, .inl (cI, 3, .inl c1_curtainTo)), (A0_curtainTo, .inl (cI, 3, .inl c0_curtainTo))] H := hP
  have hD : va_D A [o3 A1 c1 A1_swallows A1_seatX A1_seatY A1_curtainX A1_curtainFrom A1_curtainTo, o3 A0 (upd c0 0 (c1 0)) A0_swallows A0_seatX A0_seatY A0_curtainX A0_curtainFrom A0_curtainTo, (A1_swallows, .inl (cI, 4, .inl c1_swallows)), (A0_swallows, .inl (cI, 4, .inl c0_swallows)), (A1_seatX, .inl (cI, 4, .inl c1_seatX)), (A0_seatX, .inl (cI, 4, .inl c0_seatX)), (A1_seatY, .inl (cI, 4, .inl c1_seatY)), (A0_seatY, .inl (cI, 4, .inl c0_seatY)), (A1_curtainX, .inl (cI, 3, .inl c1_curtainX)), (A0_curtainX, .inl (cI, 3, .inl c0_curtainX)), (A1_curtainFrom, .inl (cI, 3, .inl c1_curtainFrom)), (A0_curtainFrom, .inl (cI, 3, .inl c0_curtainFrom)), (A1_curtainTo, .inl (cI, 3, .inl c1_curtainTo)), (A0_curtainTo, .inl (cI, 3, .inl c0_curtainTo))] := hD
  refine lv_aload_n hx hb dX3_copyFrom_8 rfl (lv_at hl 0 rfl) ?_
  refine lv_aload_n hx hb dX3_copyFrom_9 rfl (lv_at hl 1 rfl) ?_
  refine va_get (D := G) (ci := 3) (v := .int (c1 1)) (C := RX3) (T := TX3) (N := 12) hx hb hts (fun w h => (List.mem_cons_of_mem _ (List.mem_append_right _ h))) hown hK.1 hP 0 rfl rfl 1 (by decide) (hts (.fieldLink RX3 37 "EchoSeats$Scene" "breadth" "I") (List.mem_of_getElem? (i := 2) rfl)) (fun _ h9 => h9) rfl dX3_copyFrom_10 ?_
  refine va_put (D := G) (ci := 3) (v := .int (c1 1)) (ty := .int) (C := RX3) (T := TX3) (N := 12) hx hb hts (fun w h => (List.mem_cons_of_mem _ (List.mem_append_right _ h))) tyX3 tyX3_ok nmX3 hown hK.1 hP hD hS 1 rfl rfl 1 (by decide) (hts (.fieldLink RX3 37 "EchoSeats$Scene" "breadth" "I") (List.mem_of_getElem? (i := 2) rfl)) (fun _ h9 => h9) rfl (tyX3_ok 1 (by decide)) rfl rfl (Nat.le_of_ble_eq_true rfl) dX3_copyFrom_13 (fun H locs hP hD hS => ?_)
  have hP : va_P G vwCl [o3 A1 c1 A1_swallows A1_seatX A1_seatY A1_curtainX A1_curtainFrom A1_curtainTo, o3 A0 (upd (upd c0 0 (c1 0)) 1 (c1 1)) A0_swallows A0_seatX A0_seatY A0_curtainX A0_curtainFrom A0_curtainTo, (A1_swallows, .inl (cI, 4, .inl c1_swallows)), (A0_swallows, .inl (cI, 4, .inl c0_swallows)), (A1_seatX, .inl (cI, 4, .inl c1_seatX)), (A0_seatX, .inl (cI, 4, .inl c0_seatX)), (A1_seatY, .inl (cI, 4, .inl c1_seatY)), (A0_seatY, .inl (cI, 4, .inl c0_seatY)), (A1_curtainX, .inl (cI, 3, .inl c1_curtainX)), (A0_curtainX, .inl (cI, 3, .inl c0_curtainX)), (A1_curtainFrom, .inl (cI, 3, .inl c1_curtainFrom)), (A0_curtainFrom, .inl (cI, 3, .inl c0_curtainFrom)), (A1_curtainTo, .inl (cI, 3, .inl c1_curtainTo)), (A0_curtainTo, .inl (cI, 3, .inl c0_curtainTo))] H := hP
  have hD : va_D A [o3 A1 c1 A1_swallows A1_seatX A1_seatY A1_curtainX A1_curtainFrom A1_curtainTo, o3 A0 (upd (upd c0 0 (c1 0)) 1 (c1 1)) A0_swallows A0_seatX A0_seatY A0_curtainX A0_curtainFrom A0_curtainTo, (A1_swallows, .inl (cI, 4, .inl c1_swallows)), (A0_swallows, .inl (cI, 4, .inl c0_swallows)), (A1_seatX, .inl (cI, 4, .inl c1_seatX)), (A0_seatX, .inl (cI, 4, .inl c0_seatX)), (A1_seatY, .inl (cI, 4, .inl c1_seatY)), (A0_seatY, .inl (cI, 4, .inl c0_seatY)), (A1_curtainX, .inl (cI, 3, .inl c1_curtainX)), (A0_curtainX, .inl (cI, 3, .inl c0_curtainX)), (A1_curtainFrom, .inl (cI, 3, .inl c1_curtainFrom)), (A0_curtainFrom, .inl (cI, 3, .inl c0_curtainFrom)), (A1_curtainTo, .inl (cI, 3, .inl c1_curtainTo)), (A0_curtainTo, .inl (cI, 3, .inl c0_curtainTo))] := hD
  refine lv_aload_n hx hb dX3_copyFrom_16 rfl (lv_at hl 0 rfl) ?_
  refine lv_aload_n hx hb dX3_copyFrom_17 rfl (lv_at hl 1 rfl) ?_
  refine va_get (D := G) (ci := 3) (v := .int (c1 2)) (C := RX3) (T := TX3) (N := 12) hx hb hts (fun w h => (List.mem_cons_of_mem _ (List.mem_append_right _ h))) hown hK.1 hP 0 rfl rfl 2 (by decide) (hts (.fieldLink RX3 40 "EchoSeats$Scene" "sourceX" "I") (List.mem_of_getElem? (i := 3) rfl)) (fun _ h9 => h9) rfl dX3_copyFrom_18 ?_
  refine va_put (D := G) (ci := 3) (v := .int (c1 2)) (ty := .int) (C := RX3) (T := TX3) (N := 12) hx hb hts (fun w h => (List.mem_cons_of_mem _ (List.mem_append_right _ h))) tyX3 tyX3_ok nmX3 hown hK.1 hP hD hS 1 rfl rfl 2 (by decide) (hts (.fieldLink RX3 40 "EchoSeats$Scene" "sourceX" "I") (List.mem_of_getElem? (i := 3) rfl)) (fun _ h9 => h9) rfl (tyX3_ok 2 (by decide)) rfl rfl (Nat.le_of_ble_eq_true rfl) dX3_copyFrom_21 (fun H locs hP hD hS => ?_)
  have hP : va_P G vwCl [o3 A1 c1 A1_swallows A1_seatX A1_seatY A1_curtainX A1_curtainFrom A1_curtainTo, o3 A0 (upd (upd (upd c0 0 (c1 0)) 1 (c1 1)) 2 (c1 2)) A0_swallows A0_seatX A0_seatY A0_curtainX A0_curtainFrom A0_curtainTo, (A1_swallows, .inl (cI, 4, .inl c1_swallows)), (A0_swallows, .inl (cI, 4, .inl c0_swallows)), (A1_seatX, .inl (cI, 4, .inl c1_seatX)), (A0_seatX, .inl (cI, 4, .inl c0_seatX)), (A1_seatY, .inl (cI, 4, .inl c1_seatY)), (A0_seatY, .inl (cI, 4, .inl c0_seatY)), (A1_curtainX, .inl (cI, 3, .inl c1_curtainX)), (A0_curtainX, .inl (cI, 3, .inl c0_curtainX)), (A1_curtainFrom, .inl (cI, 3, .inl c1_curtainFrom)), (A0_curtainFrom, .inl (cI, 3, .inl c0_curtainFrom)), (A1_curtainTo, .inl (cI, 3, .inl c1_curtainTo)), (A0_curtainTo, .inl (cI, 3, .inl c0_curtainTo))] H := hP
  have hD : va_D A [o3 A1 c1 A1_swallows A1_seatX A1_seatY A1_curtainX A1_curtainFrom A1_curtainTo, o3 A0 (upd (upd (upd c0 0 (c1 0)) 1 (c1 1)) 2 (c1 2)) A0_swallows A0_seatX A0_seatY A0_curtainX A0_curtainFrom A0_curtainTo, (A1_swallows, .inl (cI, 4, .inl c1_swallows)), (A0_swallows, .inl (cI, 4, .inl c0_swallows)), (A1_seatX, .inl (cI, 4, .inl c1_seatX)), (A0_seatX, .inl (cI, 4, .inl c0_seatX)), (A1_seatY, .inl (cI, 4, .inl c1_seatY)), (A0_seatY, .inl (cI, 4, .inl c0_seatY)), (A1_curtainX, .inl (cI, 3, .inl c1_curtainX)), (A0_curtainX, .inl (cI, 3, .inl c0_curtainX)), (A1_curtainFrom, .inl (cI, 3, .inl c1_curtainFrom)), (A0_curtainFrom, .inl (cI, 3, .inl c0_curtainFrom)), (A1_curtainTo, .inl (cI, 3, .inl c1_curtainTo)), (A0_curtainTo, .inl (cI, 3, .inl c0_curtainTo))] := hD
  refine lv_aload_n hx hb dX3_copyFrom_24 rfl (lv_at hl 0 rfl) ?_
  refine lv_aload_n hx hb dX3_copyFrom_25 rfl (lv_at hl 1 rfl) ?_
  refine va_get (D := G) (ci := 3) (v := .int (c1 3)) (C := RX3) (T := TX3) (N := 12) hx hb hts (fun w h => (List.mem_cons_of_mem _ (List.mem_append_right _ h))) hown hK.1 hP 0 rfl rfl 3 (by decide) (hts (.fieldLink RX3 43 "EchoSeats$Scene" "sourceY" "I") (List.mem_of_getElem? (i := 4) rfl)) (fun _ h9 => h9) rfl dX3_copyFrom_26 ?_
  refine va_put (D := G) (ci := 3) (v := .int (c1 3)) (ty := .int) (C := RX3) (T := TX3) (N := 12) hx hb hts (fun w h => (List.mem_cons_of_mem _ (List.mem_append_right _ h))) tyX3 tyX3_ok nmX3 hown hK.1 hP hD hS 1 rfl rfl 3 (by decide) (hts (.fieldLink RX3 43 "EchoSeats$Scene" "sourceY" "I") (List.mem_of_getElem? (i := 4) rfl)) (fun _ h9 => h9) rfl (tyX3_ok 3 (by decide)) rfl rfl (Nat.le_of_ble_eq_true rfl) dX3_copyFrom_29 (fun H locs hP hD hS => ?_)
  have hP : va_P G vwCl [o3 A1 c1 A1_swallows A1_seatX A1_seatY A1_curtainX A1_curtainFrom A1_curtainTo, o3 A0 (upd (upd (upd (upd c0 0 (c1 0)) 1 (c1 1)) 2 (c1 2)) 3 (c1 3)) A0_swallows A0_seatX A0_seatY A0_curtainX A0_curtainFrom A0_curtainTo, (A1_swallows, .inl (cI, 4, .inl c1_swallows)), (A0_swallows, .inl (cI, 4, .inl c0_swallows)), (A1_seatX, .inl (cI, 4, .inl c1_seatX)), (A0_seatX, .inl (cI, 4, .inl c0_seatX)), (A1_seatY, .inl (cI, 4, .inl c1_seatY)), (A0_seatY, .inl (cI, 4, .inl c0_seatY)), (A1_curtainX, .inl (cI, 3, .inl c1_curtainX)), (A0_curtainX, .inl (cI, 3, .inl c0_curtainX)), (A1_curtainFrom, .inl (cI, 3, .inl c1_curtainFrom)), (A0_curtainFrom, .inl (cI, 3, .inl c0_curtainFrom)), (A1_curtainTo, .inl (cI, 3, .inl c1_curtainTo)), (A0_curtainTo, .inl (cI, 3, .inl c0_curtainTo))] H := hP
  have hD : va_D A [o3 A1 c1 A1_swallows A1_seatX A1_seatY A1_curtainX A1_curtainFrom A1_curtainTo, o3 A0 (upd (upd (upd (upd c0 0 (c1 0)) 1 (c1 1)) 2 (c1 2)) 3 (c1 3)) A0_swallows A0_seatX A0_seatY A0_curtainX A0_curtainFrom A0_curtainTo, (A1_swallows, .inl (cI, 4, .inl c1_swallows)), (A0_swallows, .inl (cI, 4, .inl c0_swallows)), (A1_seatX, .inl (cI, 4, .inl c1_seatX)), (A0_seatX, .inl (cI, 4, .inl c0_seatX)), (A1_seatY, .inl (cI, 4, .inl c1_seatY)), (A0_seatY, .inl (cI, 4, .inl c0_seatY)), (A1_curtainX, .inl (cI, 3, .inl c1_curtainX)), (A0_curtainX, .inl (cI, 3, .inl c0_curtainX)), (A1_curtainFrom, .inl (cI, 3, .inl c1_curtainFrom)), (A0_curtainFrom, .inl (cI, 3, .inl c0_curtainFrom)), (A1_curtainTo, .inl (cI, 3, .inl c1_curtainTo)), (A0_curtainTo, .inl (cI, 3, .inl c0_curtainTo))] := hD
  refine lv_aload_n hx hb dX3_copyFrom_32 rfl (lv_at hl 0 rfl) ?_
  refine lv_aload_n hx hb dX3_copyFrom_33 rfl (lv_at hl 1 rfl) ?_
  refine va_get (D := G) (ci := 3) (v := .int (c1 4)) (C := RX3) (T := TX3) (N := 12) hx hb hts (fun w h => (List.mem_cons_of_mem _ (List.mem_append_right _ h))) hown hK.1 hP 0 rfl rfl 4 (by decide) (hts (.fieldLink RX3 46 "EchoSeats$Scene" "seats" "I") (List.mem_of_getElem? (i := 5) rfl)) (fun _ h9 => h9) rfl dX3_copyFrom_34 ?_
  refine va_put (D := G) (ci := 3) (v := .int (c1 4)) (ty := .int) (C := RX3) (T := TX3) (N := 12) hx hb hts (fun w h => (List.mem_cons_of_mem _ (List.mem_append_right _ h))) tyX3 tyX3_ok nmX3 hown hK.1 hP hD hS 1 rfl rfl 4 (by decide) (hts (.fieldLink RX3 46 "EchoSeats$Scene" "seats" "I") (List.mem_of_getElem? (i := 5) rfl)) (fun _ h9 => h9) rfl (tyX3_ok 4 (by decide)) rfl rfl (Nat.le_of_ble_eq_true rfl) dX3_copyFrom_37 (fun H locs hP hD hS => ?_)
  have hP : va_P G vwCl [o3 A1 c1 A1_swallows A1_seatX A1_seatY A1_curtainX A1_curtainFrom A1_curtainTo, o3 A0 (upd (upd (upd (upd (upd c0 0 (c1 0)) 1 (c1 1)) 2 (c1 2)) 3 (c1 3)) 4 (c1 4)) A0_swallows A0_seatX A0_seatY A0_curtainX A0_curtainFrom A0_curtainTo, (A1_swallows, .inl (cI, 4, .inl c1_swallows)), (A0_swallows, .inl (cI, 4, .inl c0_swallows)), (A1_seatX, .inl (cI, 4, .inl c1_seatX)), (A0_seatX, .inl (cI, 4, .inl c0_seatX)), (A1_seatY, .inl (cI, 4, .inl c1_seatY)), (A0_seatY, .inl (cI, 4, .inl c0_seatY)), (A1_curtainX, .inl (cI, 3, .inl c1_curtainX)), (A0_curtainX, .inl (cI, 3, .inl c0_curtainX)), (A1_curtainFrom, .inl (cI, 3, .inl c1_curtainFrom)), (A0_curtainFrom, .inl (cI, 3, .inl c0_curtainFrom)), (A1_curtainTo, .inl (cI, 3, .inl c1_curtainTo)), (A0_curtainTo, .inl (cI, 3, .inl c0_curtainTo))] H := hP
  have hD : va_D A [o3 A1 c1 A1_swallows A1_seatX A1_seatY A1_curtainX A1_curtainFrom A1_curtainTo, o3 A0 (upd (upd (upd (upd (upd c0 0 (c1 0)) 1 (c1 1)) 2 (c1 2)) 3 (c1 3)) 4 (c1 4)) A0_swallows A0_seatX A0_seatY A0_curtainX A0_curtainFrom A0_curtainTo, (A1_swallows, .inl (cI, 4, .inl c1_swallows)), (A0_swallows, .inl (cI, 4, .inl c0_swallows)), (A1_seatX, .inl (cI, 4, .inl c1_seatX)), (A0_seatX, .inl (cI, 4, .inl c0_seatX)), (A1_seatY, .inl (cI, 4, .inl c1_seatY)), (A0_seatY, .inl (cI, 4, .inl c0_seatY)), (A1_curtainX, .inl (cI, 3, .inl c1_curtainX)), (A0_curtainX, .inl (cI, 3, .inl c0_curtainX)), (A1_curtainFrom, .inl (cI, 3, .inl c1_curtainFrom)), (A0_curtainFrom, .inl (cI, 3, .inl c0_curtainFrom)), (A1_curtainTo, .inl (cI, 3, .inl c1_curtainTo)), (A0_curtainTo, .inl (cI, 3, .inl c0_curtainTo))] := hD
  refine lv_aload_n hx hb dX3_copyFrom_40 rfl (lv_at hl 0 rfl) ?_
  refine lv_aload_n hx hb dX3_copyFrom_41 rfl (lv_at hl 1 rfl) ?_
  refine va_get (D := G) (ci := 3) (v := .int (c1 5)) (C := RX3) (T := TX3) (N := 12) hx hb hts (fun w h => (List.mem_cons_of_mem _ (List.mem_append_right _ h))) hown hK.1 hP 0 rfl rfl 5 (by decide) (hts (.fieldLink RX3 49 "EchoSeats$Scene" "curtains" "I") (List.mem_of_getElem? (i := 6) rfl)) (fun _ h9 => h9) rfl dX3_copyFrom_42 ?_
  refine va_put (D := G) (ci := 3) (v := .int (c1 5)) (ty := .int) (C := RX3) (T := TX3) (N := 12) hx hb hts (fun w h => (List.mem_cons_of_mem _ (List.mem_append_right _ h))) tyX3 tyX3_ok nmX3 hown hK.1 hP hD hS 1 rfl rfl 5 (by decide) (hts (.fieldLink RX3 49 "EchoSeats$Scene" "curtains" "I") (List.mem_of_getElem? (i := 6) rfl)) (fun _ h9 => h9) rfl (tyX3_ok 5 (by decide)) rfl rfl (Nat.le_of_ble_eq_true rfl) dX3_copyFrom_45 (fun H locs hP hD hS => ?_)
  have hP : va_P G vwCl [o3 A1 c1 A1_swallows A1_seatX A1_seatY A1_curtainX A1_curtainFrom A1_curtainTo, o3 A0 (upd (upd (upd (upd (upd (upd c0 0 (c1 0)) 1 (c1 1)) 2 (c1 2)) 3 (c1 3)) 4 (c1 4)) 5 (c1 5)) A0_swallows A0_seatX A0_seatY A0_curtainX A0_curtainFrom A0_curtainTo, (A1_swallows, .inl (cI, 4, .inl c1_swallows)), (A0_swallows, .inl (cI, 4, .inl c0_swallows)), (A1_seatX, .inl (cI, 4, .inl c1_seatX)), (A0_seatX, .inl (cI, 4, .inl c0_seatX)), (A1_seatY, .inl (cI, 4, .inl c1_seatY)), (A0_seatY, .inl (cI, 4, .inl c0_seatY)), (A1_curtainX, .inl (cI, 3, .inl c1_curtainX)), (A0_curtainX, .inl (cI, 3, .inl c0_curtainX)), (A1_curtainFrom, .inl (cI, 3, .inl c1_curtainFrom)), (A0_curtainFrom, .inl (cI, 3, .inl c0_curtainFrom)), (A1_curtainTo, .inl (cI, 3, .inl c1_curtainTo)), (A0_curtainTo, .inl (cI, 3, .inl c0_curtainTo))] H := hP
  have hD : va_D A [o3 A1 c1 A1_swallows A1_seatX A1_seatY A1_curtainX A1_curtainFrom A1_curtainTo, o3 A0 (upd (upd (upd (upd (upd (upd c0 0 (c1 0)) 1 (c1 1)) 2 (c1 2)) 3 (c1 3)) 4 (c1 4)) 5 (c1 5)) A0_swallows A0_seatX A0_seatY A0_curtainX A0_curtainFrom A0_curtainTo, (A1_swallows, .inl (cI, 4, .inl c1_swallows)), (A0_swallows, .inl (cI, 4, .inl c0_swallows)), (A1_seatX, .inl (cI, 4, .inl c1_seatX)), (A0_seatX, .inl (cI, 4, .inl c0_seatX)), (A1_seatY, .inl (cI, 4, .inl c1_seatY)), (A0_seatY, .inl (cI, 4, .inl c0_seatY)), (A1_curtainX, .inl (cI, 3, .inl c1_curtainX)), (A0_curtainX, .inl (cI, 3, .inl c0_curtainX)), (A1_curtainFrom, .inl (cI, 3, .inl c1_curtainFrom)), (A0_curtainFrom, .inl (cI, 3, .inl c0_curtainFrom)), (A1_curtainTo, .inl (cI, 3, .inl c1_curtainTo)), (A0_curtainTo, .inl (cI, 3, .inl c0_curtainTo))] := hD
  refine lv_aload_n hx hb dX3_copyFrom_48 rfl (lv_at hl 1 rfl) ?_
  refine va_get (D := G) (ci := 3) (v := .ref A1_swallows) (C := RX3) (T := TX3) (N := 12) hx hb hts (fun w h => (List.mem_cons_of_mem _ (List.mem_append_right _ h))) hown hK.1 hP 0 rfl rfl 6 (by decide) (hts (.fieldLink RX3 9 "EchoSeats$Scene" "swallows" "[I") (List.mem_of_getElem? (i := 7) rfl)) (fun _ h9 => h9) rfl dX3_copyFrom_49 ?_
  refine lv_iconst (v := 0) hx hb dX3_copyFrom_52 (by decide) ?_
  refine lv_aload_n hx hb dX3_copyFrom_53 rfl (lv_at hl 0 rfl) ?_
  refine va_get (D := G) (ci := 3) (v := .ref A0_swallows) (C := RX3) (T := TX3) (N := 12) hx hb hts (fun w h => (List.mem_cons_of_mem _ (List.mem_append_right _ h))) hown hK.1 hP 1 rfl rfl 6 (by decide) (hts (.fieldLink RX3 9 "EchoSeats$Scene" "swallows" "[I") (List.mem_of_getElem? (i := 7) rfl)) (fun _ h9 => h9) rfl dX3_copyFrom_54 ?_
  refine lv_iconst (v := 0) hx hb dX3_copyFrom_57 (by decide) ?_
  refine lv_iconst (v := 4) hx hb dX3_copyFrom_58 (by decide) ?_
  refine va_copyi hx hb (hml.trans hl.1.symm) hown (hts (.methodLink RX3 58 arraycopyName) (List.mem_of_getElem? (i := 8) rfl)) (hts (.native arraycopyName) (List.mem_of_getElem? (i := 9) rfl)) (hts (.static arraycopyName) (List.mem_of_getElem? (i := 10) rfl)) (hts (.initialized "java/lang/System") (List.mem_of_getElem? (i := 11) rfl)) hK.1 hP hD hS 2 3 0 0 rfl rfl rfl rfl rfl (by decide) (by decide) (by decide) (by decide) (by decide) (fun _ _ => rfl) (Nat.le_of_ble_eq_true rfl) (Nat.le_of_ble_eq_true (by decide)) dX3_copyFrom_59 (fun H locs hP hD hS => ?_)
  have hP : va_P G vwCl [o3 A1 c1 A1_swallows A1_seatX A1_seatY A1_curtainX A1_curtainFrom A1_curtainTo, o3 A0 (upd (upd (upd (upd (upd (upd c0 0 (c1 0)) 1 (c1 1)) 2 (c1 2)) 3 (c1 3)) 4 (c1 4)) 5 (c1 5)) A0_swallows A0_seatX A0_seatY A0_curtainX A0_curtainFrom A0_curtainTo, (A1_swallows, .inl (cI, 4, .inl c1_swallows)), (A0_swallows, .inl (cI, 4, .inl (va_cpy c1_swallows c0_swallows 0 0 4))), (A1_seatX, .inl (cI, 4, .inl c1_seatX)), (A0_seatX, .inl (cI, 4, .inl c0_seatX)), (A1_seatY, .inl (cI, 4, .inl c1_seatY)), (A0_seatY, .inl (cI, 4, .inl c0_seatY)), (A1_curtainX, .inl (cI, 3, .inl c1_curtainX)), (A0_curtainX, .inl (cI, 3, .inl c0_curtainX)), (A1_curtainFrom, .inl (cI, 3, .inl c1_curtainFrom)), (A0_curtainFrom, .inl (cI, 3, .inl c0_curtainFrom)), (A1_curtainTo, .inl (cI, 3, .inl c1_curtainTo)), (A0_curtainTo, .inl (cI, 3, .inl c0_curtainTo))] H := hP
  have hD : va_D A [o3 A1 c1 A1_swallows A1_seatX A1_seatY A1_curtainX A1_curtainFrom A1_curtainTo, o3 A0 (upd (upd (upd (upd (upd (upd c0 0 (c1 0)) 1 (c1 1)) 2 (c1 2)) 3 (c1 3)) 4 (c1 4)) 5 (c1 5)) A0_swallows A0_seatX A0_seatY A0_curtainX A0_curtainFrom A0_curtainTo, (A1_swallows, .inl (cI, 4, .inl c1_swallows)), (A0_swallows, .inl (cI, 4, .inl (va_cpy c1_swallows c0_swallows 0 0 4))), (A1_seatX, .inl (cI, 4, .inl c1_seatX)), (A0_seatX, .inl (cI, 4, .inl c0_seatX)), (A1_seatY, .inl (cI, 4, .inl c1_seatY)), (A0_seatY, .inl (cI, 4, .inl c0_seatY)), (A1_curtainX, .inl (cI, 3, .inl c1_curtainX)), (A0_curtainX, .inl (cI, 3, .inl c0_curtainX)), (A1_curtainFrom, .inl (cI, 3, .inl c1_curtainFrom)), (A0_curtainFrom, .inl (cI, 3, .inl c0_curtainFrom)), (A1_curtainTo, .inl (cI, 3, .inl c1_curtainTo)), (A0_curtainTo, .inl (cI, 3, .inl c0_curtainTo))] := hD
  refine lv_aload_n hx hb dX3_copyFrom_62 rfl (lv_at hl 1 rfl) ?_
  refine va_get (D := G) (ci := 3) (v := .ref A1_seatX) (C := RX3) (T := TX3) (N := 12) hx hb hts (fun w h => (List.mem_cons_of_mem _ (List.mem_append_right _ h))) hown hK.1 hP 0 rfl rfl 7 (by decide) (hts (.fieldLink RX3 15 "EchoSeats$Scene" "seatX" "[I") (List.mem_of_getElem? (i := 12) rfl)) (fun _ h9 => h9) rfl dX3_copyFrom_63 ?_
  refine lv_iconst (v := 0) hx hb dX3_copyFrom_66 (by decide) ?_
  refine lv_aload_n hx hb dX3_copyFrom_67 rfl (lv_at hl 0 rfl) ?_
  refine va_get (D := G) (ci := 3) (v := .ref A0_seatX) (C := RX3) (T := TX3) (N := 12) hx hb hts (fun w h => (List.mem_cons_of_mem _ (List.mem_append_right _ h))) hown hK.1 hP 1 rfl rfl 7 (by decide) (hts (.fieldLink RX3 15 "EchoSeats$Scene" "seatX" "[I") (List.mem_of_getElem? (i := 12) rfl)) (fun _ h9 => h9) rfl dX3_copyFrom_68 ?_
  refine lv_iconst (v := 0) hx hb dX3_copyFrom_71 (by decide) ?_
  refine lv_iconst (v := 4) hx hb dX3_copyFrom_72 (by decide) ?_
  refine va_copyi hx hb (hml.trans hl.1.symm) hown (hts (.methodLink RX3 58 arraycopyName) (List.mem_of_getElem? (i := 8) rfl)) (hts (.native arraycopyName) (List.mem_of_getElem? (i := 9) rfl)) (hts (.static arraycopyName) (List.mem_of_getElem? (i := 10) rfl)) (hts (.initialized "java/lang/System") (List.mem_of_getElem? (i := 11) rfl)) hK.1 hP hD hS 4 5 0 0 rfl rfl rfl rfl rfl (by decide) (by decide) (by decide) (by decide) (by decide) (fun _ _ => rfl) (Nat.le_of_ble_eq_true rfl) (Nat.le_of_ble_eq_true (by decide)) dX3_copyFrom_73 (fun H locs hP hD hS => ?_)
  have hP : va_P G vwCl [o3 A1 c1 A1_swallows A1_seatX A1_seatY A1_curtainX A1_curtainFrom A1_curtainTo, o3 A0 (upd (upd (upd (upd (upd (upd c0 0 (c1 0)) 1 (c1 1)) 2 (c1 2)) 3 (c1 3)) 4 (c1 4)) 5 (c1 5)) A0_swallows A0_seatX A0_seatY A0_curtainX A0_curtainFrom A0_curtainTo, (A1_swallows, .inl (cI, 4, .inl c1_swallows)), (A0_swallows, .inl (cI, 4, .inl (va_cpy c1_swallows c0_swallows 0 0 4))), (A1_seatX, .inl (cI, 4, .inl c1_seatX)), (A0_seatX, .inl (cI, 4, .inl (va_cpy c1_seatX c0_seatX 0 0 4))), (A1_seatY, .inl (cI, 4, .inl c1_seatY)), (A0_seatY, .inl (cI, 4, .inl c0_seatY)), (A1_curtainX, .inl (cI, 3, .inl c1_curtainX)), (A0_curtainX, .inl (cI, 3, .inl c0_curtainX)), (A1_curtainFrom, .inl (cI, 3, .inl c1_curtainFrom)), (A0_curtainFrom, .inl (cI, 3, .inl c0_curtainFrom)), (A1_curtainTo, .inl (cI, 3, .inl c1_curtainTo)), (A0_curtainTo, .inl (cI, 3, .inl c0_curtainTo))] H := hP
  have hD : va_D A [o3 A1 c1 A1_swallows A1_seatX A1_seatY A1_curtainX A1_curtainFrom A1_curtainTo, o3 A0 (upd (upd (upd (upd (upd (upd c0 0 (c1 0)) 1 (c1 1)) 2 (c1 2)) 3 (c1 3)) 4 (c1 4)) 5 (c1 5)) A0_swallows A0_seatX A0_seatY A0_curtainX A0_curtainFrom A0_curtainTo, (A1_swallows, .inl (cI, 4, .inl c1_swallows)), (A0_swallows, .inl (cI, 4, .inl (va_cpy c1_swallows c0_swallows 0 0 4))), (A1_seatX, .inl (cI, 4, .inl c1_seatX)), (A0_seatX, .inl (cI, 4, .inl (va_cpy c1_seatX c0_seatX 0 0 4))), (A1_seatY, .inl (cI, 4, .inl c1_seatY)), (A0_seatY, .inl (cI, 4, .inl c0_seatY)), (A1_curtainX, .inl (cI, 3, .inl c1_curtainX)), (A0_curtainX, .inl (cI, 3, .inl c0_curtainX)), (A1_curtainFrom, .inl (cI, 3, .inl c1_curtainFrom)), (A0_curtainFrom, .inl (cI, 3, .inl c0_curtainFrom)), (A1_curtainTo, .inl (cI, 3, .inl c1_curtainTo)), (A0_curtainTo, .inl (cI, 3, .inl c0_curtainTo))] := hD
  refine lv_aload_n hx hb dX3_copyFrom_76 rfl (lv_at hl 1 rfl) ?_
  refine va_get (D := G) (ci := 3) (v := .ref A1_seatY) (C := RX3) (T := TX3) (N := 12) hx hb hts (fun w h => (List.mem_cons_of_mem _ (List.mem_append_right _ h))) hown hK.1 hP 0 rfl rfl 8 (by decide) (hts (.fieldLink RX3 18 "EchoSeats$Scene" "seatY" "[I") (List.mem_of_getElem? (i := 13) rfl)) (fun _ h9 => h9) rfl dX3_copyFrom_77 ?_
  refine lv_iconst (v := 0) hx hb dX3_copyFrom_80 (by decide) ?_
  refine lv_aload_n hx hb dX3_copyFrom_81 rfl (lv_at hl 0 rfl) ?_
  refine va_get (D := G) (ci := 3) (v := .ref A0_seatY) (C := RX3) (T := TX3) (N := 12) hx hb hts (fun w h => (List.mem_cons_of_mem _ (List.mem_append_right _ h))) hown hK.1 hP 1 rfl rfl 8 (by decide) (hts (.fieldLink RX3 18 "EchoSeats$Scene" "seatY" "[I") (List.mem_of_getElem? (i := 13) rfl)) (fun _ h9 => h9) rfl dX3_copyFrom_82 ?_
  refine lv_iconst (v := 0) hx hb dX3_copyFrom_85 (by decide) ?_
  refine lv_iconst (v := 4) hx hb dX3_copyFrom_86 (by decide) ?_
  refine va_copyi hx hb (hml.trans hl.1.symm) hown (hts (.methodLink RX3 58 arraycopyName) (List.mem_of_getElem? (i := 8) rfl)) (hts (.native arraycopyName) (List.mem_of_getElem? (i := 9) rfl)) (hts (.static arraycopyName) (List.mem_of_getElem? (i := 10) rfl)) (hts (.initialized "java/lang/System") (List.mem_of_getElem? (i := 11) rfl)) hK.1 hP hD hS 6 7 0 0 rfl rfl rfl rfl rfl (by decide) (by decide) (by decide) (by decide) (by decide) (fun _ _ => rfl) (Nat.le_of_ble_eq_true rfl) (Nat.le_of_ble_eq_true (by decide)) dX3_copyFrom_87 (fun H locs hP hD hS => ?_)
  have hP : va_P G vwCl [o3 A1 c1 A1_swallows A1_seatX A1_seatY A1_curtainX A1_curtainFrom A1_curtainTo, o3 A0 (upd (upd (upd (upd (upd (upd c0 0 (c1 0)) 1 (c1 1)) 2 (c1 2)) 3 (c1 3)) 4 (c1 4)) 5 (c1 5)) A0_swallows A0_seatX A0_seatY A0_curtainX A0_curtainFrom A0_curtainTo, (A1_swallows, .inl (cI, 4, .inl c1_swallows)), (A0_swallows, .inl (cI, 4, .inl (va_cpy c1_swallows c0_swallows 0 0 4))), (A1_seatX, .inl (cI, 4, .inl c1_seatX)), (A0_seatX, .inl (cI, 4, .inl (va_cpy c1_seatX c0_seatX 0 0 4))), (A1_seatY, .inl (cI, 4, .inl c1_seatY)), (A0_seatY, .inl (cI, 4, .inl (va_cpy c1_seatY c0_seatY 0 0 4))), (A1_curtainX, .inl (cI, 3, .inl c1_curtainX)), (A0_curtainX, .inl (cI, 3, .inl c0_curtainX)), (A1_curtainFrom, .inl (cI, 3, .inl c1_curtainFrom)), (A0_curtainFrom, .inl (cI, 3, .inl c0_curtainFrom)), (A1_curtainTo, .inl (cI, 3, .inl c1_curtainTo)), (A0_curtainTo, .inl (cI, 3, .inl c0_curtainTo))] H := hP
  have hD : va_D A [o3 A1 c1 A1_swallows A1_seatX A1_seatY A1_curtainX A1_curtainFrom A1_curtainTo, o3 A0 (upd (upd (upd (upd (upd (upd c0 0 (c1 0)) 1 (c1 1)) 2 (c1 2)) 3 (c1 3)) 4 (c1 4)) 5 (c1 5)) A0_swallows A0_seatX A0_seatY A0_curtainX A0_curtainFrom A0_curtainTo, (A1_swallows, .inl (cI, 4, .inl c1_swallows)), (A0_swallows, .inl (cI, 4, .inl (va_cpy c1_swallows c0_swallows 0 0 4))), (A1_seatX, .inl (cI, 4, .inl c1_seatX)), (A0_seatX, .inl (cI, 4, .inl (va_cpy c1_seatX c0_seatX 0 0 4))), (A1_seatY, .inl (cI, 4, .inl c1_seatY)), (A0_seatY, .inl (cI, 4, .inl (va_cpy c1_seatY c0_seatY 0 0 4))), (A1_curtainX, .inl (cI, 3, .inl c1_curtainX)), (A0_curtainX, .inl (cI, 3, .inl c0_curtainX)), (A1_curtainFrom, .inl (cI, 3, .inl c1_curtainFrom)), (A0_curtainFrom, .inl (cI, 3, .inl c0_curtainFrom)), (A1_curtainTo, .inl (cI, 3, .inl c1_curtainTo)), (A0_curtainTo, .inl (cI, 3, .inl c0_curtainTo))] := hD
  refine lv_aload_n hx hb dX3_copyFrom_90 rfl (lv_at hl 1 rfl) ?_
  refine va_get (D := G) (ci := 3) (v := .ref A1_curtainX) (C := RX3) (T := TX3) (N := 12) hx hb hts (fun w h => (List.mem_cons_of_mem _ (List.mem_append_right _ h))) hown hK.1 hP 0 rfl rfl 9 (by decide) (hts (.fieldLink RX3 21 "EchoSeats$Scene" "curtainX" "[I") (List.mem_of_getElem? (i := 14) rfl)) (fun _ h9 => h9) rfl dX3_copyFrom_91 ?_
  refine lv_iconst (v := 0) hx hb dX3_copyFrom_94 (by decide) ?_
  refine lv_aload_n hx hb dX3_copyFrom_95 rfl (lv_at hl 0 rfl) ?_
  refine va_get (D := G) (ci := 3) (v := .ref A0_curtainX) (C := RX3) (T := TX3) (N := 12) hx hb hts (fun w h => (List.mem_cons_of_mem _ (List.mem_append_right _ h))) hown hK.1 hP 1 rfl rfl 9 (by decide) (hts (.fieldLink RX3 21 "EchoSeats$Scene" "curtainX" "[I") (List.mem_of_getElem? (i := 14) rfl)) (fun _ h9 => h9) rfl dX3_copyFrom_96 ?_
  refine lv_iconst (v := 0) hx hb dX3_copyFrom_99 (by decide) ?_
  refine lv_iconst (v := 3) hx hb dX3_copyFrom_100 (by decide) ?_
  refine va_copyi hx hb (hml.trans hl.1.symm) hown (hts (.methodLink RX3 58 arraycopyName) (List.mem_of_getElem? (i := 8) rfl)) (hts (.native arraycopyName) (List.mem_of_getElem? (i := 9) rfl)) (hts (.static arraycopyName) (List.mem_of_getElem? (i := 10) rfl)) (hts (.initialized "java/lang/System") (List.mem_of_getElem? (i := 11) rfl)) hK.1 hP hD hS 8 9 0 0 rfl rfl rfl rfl rfl (by decide) (by decide) (by decide) (by decide) (by decide) (fun _ _ => rfl) (Nat.le_of_ble_eq_true rfl) (Nat.le_of_ble_eq_true (by decide)) dX3_copyFrom_101 (fun H locs hP hD hS => ?_)
  have hP : va_P G vwCl [o3 A1 c1 A1_swallows A1_seatX A1_seatY A1_curtainX A1_curtainFrom A1_curtainTo, o3 A0 (upd (upd (upd (upd (upd (upd c0 0 (c1 0)) 1 (c1 1)) 2 (c1 2)) 3 (c1 3)) 4 (c1 4)) 5 (c1 5)) A0_swallows A0_seatX A0_seatY A0_curtainX A0_curtainFrom A0_curtainTo, (A1_swallows, .inl (cI, 4, .inl c1_swallows)), (A0_swallows, .inl (cI, 4, .inl (va_cpy c1_swallows c0_swallows 0 0 4))), (A1_seatX, .inl (cI, 4, .inl c1_seatX)), (A0_seatX, .inl (cI, 4, .inl (va_cpy c1_seatX c0_seatX 0 0 4))), (A1_seatY, .inl (cI, 4, .inl c1_seatY)), (A0_seatY, .inl (cI, 4, .inl (va_cpy c1_seatY c0_seatY 0 0 4))), (A1_curtainX, .inl (cI, 3, .inl c1_curtainX)), (A0_curtainX, .inl (cI, 3, .inl (va_cpy c1_curtainX c0_curtainX 0 0 3))), (A1_curtainFrom, .inl (cI, 3, .inl c1_curtainFrom)), (A0_curtainFrom, .inl (cI, 3, .inl c0_curtainFrom)), (A1_curtainTo, .inl (cI, 3, .inl c1_curtainTo)), (A0_curtainTo, .inl (cI, 3, .inl c0_curtainTo))] H := hP
  have hD : va_D A [o3 A1 c1 A1_swallows A1_seatX A1_seatY A1_curtainX A1_curtainFrom A1_curtainTo, o3 A0 (upd (upd (upd (upd (upd (upd c0 0 (c1 0)) 1 (c1 1)) 2 (c1 2)) 3 (c1 3)) 4 (c1 4)) 5 (c1 5)) A0_swallows A0_seatX A0_seatY A0_curtainX A0_curtainFrom A0_curtainTo, (A1_swallows, .inl (cI, 4, .inl c1_swallows)), (A0_swallows, .inl (cI, 4, .inl (va_cpy c1_swallows c0_swallows 0 0 4))), (A1_seatX, .inl (cI, 4, .inl c1_seatX)), (A0_seatX, .inl (cI, 4, .inl (va_cpy c1_seatX c0_seatX 0 0 4))), (A1_seatY, .inl (cI, 4, .inl c1_seatY)), (A0_seatY, .inl (cI, 4, .inl (va_cpy c1_seatY c0_seatY 0 0 4))), (A1_curtainX, .inl (cI, 3, .inl c1_curtainX)), (A0_curtainX, .inl (cI, 3, .inl (va_cpy c1_curtainX c0_curtainX 0 0 3))), (A1_curtainFrom, .inl (cI, 3, .inl c1_curtainFrom)), (A0_curtainFrom, .inl (cI, 3, .inl c0_curtainFrom)), (A1_curtainTo, .inl (cI, 3, .inl c1_curtainTo)), (A0_curtainTo, .inl (cI, 3, .inl c0_curtainTo))] := hD
  refine lv_aload_n hx hb dX3_copyFrom_104 rfl (lv_at hl 1 rfl) ?_
  refine va_get (D := G) (ci := 3) (v := .ref A1_curtainFrom) (C := RX3) (T := TX3) (N := 12) hx hb hts (fun w h => (List.mem_cons_of_mem _ (List.mem_append_right _ h))) hown hK.1 hP 0 rfl rfl 10 (by decide) (hts (.fieldLink RX3 24 "EchoSeats$Scene" "curtainFrom" "[I") (List.mem_of_getElem? (i := 15) rfl)) (fun _ h9 => h9) rfl dX3_copyFrom_105 ?_
  refine lv_iconst (v := 0) hx hb dX3_copyFrom_108 (by decide) ?_
  refine lv_aload_n hx hb dX3_copyFrom_109 rfl (lv_at hl 0 rfl) ?_
  refine va_get (D := G) (ci := 3) (v := .ref A0_curtainFrom) (C := RX3) (T := TX3) (N := 12) hx hb hts (fun w h => (List.mem_cons_of_mem _ (List.mem_append_right _ h))) hown hK.1 hP 1 rfl rfl 10 (by decide) (hts (.fieldLink RX3 24 "EchoSeats$Scene" "curtainFrom" "[I") (List.mem_of_getElem? (i := 15) rfl)) (fun _ h9 => h9) rfl dX3_copyFrom_110 ?_
  refine lv_iconst (v := 0) hx hb dX3_copyFrom_113 (by decide) ?_
  refine lv_iconst (v := 3) hx hb dX3_copyFrom_114 (by decide) ?_
  refine va_copyi hx hb (hml.trans hl.1.symm) hown (hts (.methodLink RX3 58 arraycopyName) (List.mem_of_getElem? (i := 8) rfl)) (hts (.native arraycopyName) (List.mem_of_getElem? (i := 9) rfl)) (hts (.static arraycopyName) (List.mem_of_getElem? (i := 10) rfl)) (hts (.initialized "java/lang/System") (List.mem_of_getElem? (i := 11) rfl)) hK.1 hP hD hS 10 11 0 0 rfl rfl rfl rfl rfl (by decide) (by decide) (by decide) (by decide) (by decide) (fun _ _ => rfl) (Nat.le_of_ble_eq_true rfl) (Nat.le_of_ble_eq_true (by decide)) dX3_copyFrom_115 (fun H locs hP hD hS => ?_)
  have hP : va_P G vwCl [o3 A1 c1 A1_swallows A1_seatX A1_seatY A1_curtainX A1_curtainFrom A1_curtainTo, o3 A0 (upd (upd (upd (upd (upd (upd c0 0 (c1 0)) 1 (c1 1)) 2 (c1 2)) 3 (c1 3)) 4 (c1 4)) 5 (c1 5)) A0_swallows A0_seatX A0_seatY A0_curtainX A0_curtainFrom A0_curtainTo, (A1_swallows, .inl (cI, 4, .inl c1_swallows)), (A0_swallows, .inl (cI, 4, .inl (va_cpy c1_swallows c0_swallows 0 0 4))), (A1_seatX, .inl (cI, 4, .inl c1_seatX)), (A0_seatX, .inl (cI, 4, .inl (va_cpy c1_seatX c0_seatX 0 0 4))), (A1_seatY, .inl (cI, 4, .inl c1_seatY)), (A0_seatY, .inl (cI, 4, .inl (va_cpy c1_seatY c0_seatY 0 0 4))), (A1_curtainX, .inl (cI, 3, .inl c1_curtainX)), (A0_curtainX, .inl (cI, 3, .inl (va_cpy c1_curtainX c0_curtainX 0 0 3))), (A1_curtainFrom, .inl (cI, 3, .inl c1_curtainFrom)), (A0_curtainFrom, .inl (cI, 3, .inl (va_cpy c1_curtainFrom c0_curtainFrom 0 0 3))), (A1_curtainTo, .inl (cI, 3, .inl c1_curtainTo)), (A0_curtainTo, .inl (cI, 3, .inl c0_curtainTo))] H := hP
  have hD : va_D A [o3 A1 c1 A1_swallows A1_seatX A1_seatY A1_curtainX A1_curtainFrom A1_curtainTo, o3 A0 (upd (upd (upd (upd (upd (upd c0 0 (c1 0)) 1 (c1 1)) 2 (c1 2)) 3 (c1 3)) 4 (c1 4)) 5 (c1 5)) A0_swallows A0_seatX A0_seatY A0_curtainX A0_curtainFrom A0_curtainTo, (A1_swallows, .inl (cI, 4, .inl c1_swallows)), (A0_swallows, .inl (cI, 4, .inl (va_cpy c1_swallows c0_swallows 0 0 4))), (A1_seatX, .inl (cI, 4, .inl c1_seatX)), (A0_seatX, .inl (cI, 4, .inl (va_cpy c1_seatX c0_seatX 0 0 4))), (A1_seatY, .inl (cI, 4, .inl c1_seatY)), (A0_seatY, .inl (cI, 4, .inl (va_cpy c1_seatY c0_seatY 0 0 4))), (A1_curtainX, .inl (cI, 3, .inl c1_curtainX)), (A0_curtainX, .inl (cI, 3, .inl (va_cpy c1_curtainX c0_curtainX 0 0 3))), (A1_curtainFrom, .inl (cI, 3, .inl c1_curtainFrom)), (A0_curtainFrom, .inl (cI, 3, .inl (va_cpy c1_curtainFrom c0_curtainFrom 0 0 3))), (A1_curtainTo, .inl (cI, 3, .inl c1_curtainTo)), (A0_curtainTo, .inl (cI, 3, .inl c0_curtainTo))] := hD
  refine lv_aload_n hx hb dX3_copyFrom_118 rfl (lv_at hl 1 rfl) ?_
  refine va_get (D := G) (ci := 3) (v := .ref A1_curtainTo) (C := RX3) (T := TX3) (N := 12) hx hb hts (fun w h => (List.mem_cons_of_mem _ (List.mem_append_right _ h))) hown hK.1 hP 0 rfl rfl 11 (by decide) (hts (.fieldLink RX3 27 "EchoSeats$Scene" "curtainTo" "[I") (List.mem_of_getElem? (i := 16) rfl)) (fun _ h9 => h9) rfl dX3_copyFrom_119 ?_
  refine lv_iconst (v := 0) hx hb dX3_copyFrom_122 (by decide) ?_
  refine lv_aload_n hx hb dX3_copyFrom_123 rfl (lv_at hl 0 rfl) ?_
  refine va_get (D := G) (ci := 3) (v := .ref A0_curtainTo) (C := RX3) (T := TX3) (N := 12) hx hb hts (fun w h => (List.mem_cons_of_mem _ (List.mem_append_right _ h))) hown hK.1 hP 1 rfl rfl 11 (by decide) (hts (.fieldLink RX3 27 "EchoSeats$Scene" "curtainTo" "[I") (List.mem_of_getElem? (i := 16) rfl)) (fun _ h9 => h9) rfl dX3_copyFrom_124 ?_
  refine lv_iconst (v := 0) hx hb dX3_copyFrom_127 (by decide) ?_
  refine lv_iconst (v := 3) hx hb dX3_copyFrom_128 (by decide) ?_
  refine va_copyi hx hb (hml.trans hl.1.symm) hown (hts (.methodLink RX3 58 arraycopyName) (List.mem_of_getElem? (i := 8) rfl)) (hts (.native arraycopyName) (List.mem_of_getElem? (i := 9) rfl)) (hts (.static arraycopyName) (List.mem_of_getElem? (i := 10) rfl)) (hts (.initialized "java/lang/System") (List.mem_of_getElem? (i := 11) rfl)) hK.1 hP hD hS 12 13 0 0 rfl rfl rfl rfl rfl (by decide) (by decide) (by decide) (by decide) (by decide) (fun _ _ => rfl) (Nat.le_of_ble_eq_true rfl) (Nat.le_of_ble_eq_true (by decide)) dX3_copyFrom_129 (fun H locs hP hD hS => ?_)
  have hP : va_P G vwCl [o3 A1 c1 A1_swallows A1_seatX A1_seatY A1_curtainX A1_curtainFrom A1_curtainTo, o3 A0 (upd (upd (upd (upd (upd (upd c0 0 (c1 0)) 1 (c1 1)) 2 (c1 2)) 3 (c1 3)) 4 (c1 4)) 5 (c1 5)) A0_swallows A0_seatX A0_seatY A0_curtainX A0_curtainFrom A0_curtainTo, (A1_swallows, .inl (cI, 4, .inl c1_swallows)), (A0_swallows, .inl (cI, 4, .inl (va_cpy c1_swallows c0_swallows 0 0 4))), (A1_seatX, .inl (cI, 4, .inl c1_seatX)), (A0_seatX, .inl (cI, 4, .inl (va_cpy c1_seatX c0_seatX 0 0 4))), (A1_seatY, .inl (cI, 4, .inl c1_seatY)), (A0_seatY, .inl (cI, 4, .inl (va_cpy c1_seatY c0_seatY 0 0 4))), (A1_curtainX, .inl (cI, 3, .inl c1_curtainX)), (A0_curtainX, .inl (cI, 3, .inl (va_cpy c1_curtainX c0_curtainX 0 0 3))), (A1_curtainFrom, .inl (cI, 3, .inl c1_curtainFrom)), (A0_curtainFrom, .inl (cI, 3, .inl (va_cpy c1_curtainFrom c0_curtainFrom 0 0 3))), (A1_curtainTo, .inl (cI, 3, .inl c1_curtainTo)), (A0_curtainTo, .inl (cI, 3, .inl (va_cpy c1_curtainTo c0_curtainTo 0 0 3)))] H := hP
  have hD : va_D A [o3 A1 c1 A1_swallows A1_seatX A1_seatY A1_curtainX A1_curtainFrom A1_curtainTo, o3 A0 (upd (upd (upd (upd (upd (upd c0 0 (c1 0)) 1 (c1 1)) 2 (c1 2)) 3 (c1 3)) 4 (c1 4)) 5 (c1 5)) A0_swallows A0_seatX A0_seatY A0_curtainX A0_curtainFrom A0_curtainTo, (A1_swallows, .inl (cI, 4, .inl c1_swallows)), (A0_swallows, .inl (cI, 4, .inl (va_cpy c1_swallows c0_swallows 0 0 4))), (A1_seatX, .inl (cI, 4, .inl c1_seatX)), (A0_seatX, .inl (cI, 4, .inl (va_cpy c1_seatX c0_seatX 0 0 4))), (A1_seatY, .inl (cI, 4, .inl c1_seatY)), (A0_seatY, .inl (cI, 4, .inl (va_cpy c1_seatY c0_seatY 0 0 4))), (A1_curtainX, .inl (cI, 3, .inl c1_curtainX)), (A0_curtainX, .inl (cI, 3, .inl (va_cpy c1_curtainX c0_curtainX 0 0 3))), (A1_curtainFrom, .inl (cI, 3, .inl c1_curtainFrom)), (A0_curtainFrom, .inl (cI, 3, .inl (va_cpy c1_curtainFrom c0_curtainFrom 0 0 3))), (A1_curtainTo, .inl (cI, 3, .inl c1_curtainTo)), (A0_curtainTo, .inl (cI, 3, .inl (va_cpy c1_curtainTo c0_curtainTo 0 0 3)))] := hD
  obtain rfl := Option.some.inj hres
  exact W.vret hx hb hr (fun t ht hW => ⟨⟨(), rfl, trivial, by rw [ht]; exact hP, hD⟩, hS.F ht⟩) hS.2.2 dX3_copyFrom_132
theorem hsX3_copyFrom : yX3_copyFrom.cls = RX3 ∧ yX3_copyFrom.cls ≠ "java/lang/invoke/MethodHandle" ∧ yX3_copyFrom.cls ≠ "java/lang/invoke/VarHandle" ∧ (parseMethodDescriptor yX3_copyFrom.desc).map (fun d => d.parameters.length) = some 1 := by decide +kernel
set_option maxHeartbeats 4000000 in
set_option maxRecDepth 100000 in
theorem kX3_hasCurtain (l : Launch) (G : va_G) (cI cZ : ClassId) (tl : List (ClassId × FieldType)) (A0 A0_swallows A0_seatX A0_seatY A0_curtainX A0_curtainFrom A0_curtainTo : Nat) (c0 : Nat → Int32) (x1 : Int32) (res : Int32) (hres : fX3_hasCurtain c0 x1 = some res) : Met l yX3_hasCurtain wsX3_hasCurtain rX3_hasCurtain (va_Pc [.ref A0, .int x1] (PRO G cI cZ tl [o3 A0 c0 A0_swallows A0_seatX A0_seatY A0_curtainX A0_curtainFrom A0_curtainTo])) (Sp res) 0 0 (fun _ => False) := by
  refine Met.ofW (cc := cX3_hasCurtain) (maxL := 2) (ret := (some .boolean)) (by decide) rfl ?_
  intro p e s m args below meth c s₁ B hml hv
  obtain ⟨rfl, hP, hK⟩ := hv
  have hx := B.exec
  have hb := B.bytes
  have hr := B.returns
  have hts := atoms_spec (ws := wsX3_hasCurtain) B.pre
  have hown : s.vm.findClass RX3 = some m.cls := findClass_of_methodNamed B.named
  have hlocks := B.notSynchronized
  have hl := lv_entry ([.ref A0, .int x1] : List Value) (n := 2) (Nat.le_of_ble_eq_true rfl)
  rw [lg_entry_eq]
  generalize (lg_sl ([.ref A0, .int x1] : List Value) ++ List.replicate (2 - (lg_sl ([.ref A0, .int x1] : List Value)).length) Slot.unset).toArray = ls at hl ⊢
  have hl : lv_has ls 2 [(0, .ref A0), (1, .int x1)] := hl
  refine lv_iload_n hx hb dX3_hasCurtain_0 rfl (lv_at hl 1 rfl) ?_
  refine lv_if_lt (tgt := 16) hx hb dX3_hasCurtain_1 (by decide) (fun h1 => ?_) (fun h1 => ?_)
  · have hres := ite_t hres h1
    refine lv_iconst (v := 0) hx hb dX3_hasCurtain_16 (by decide) ?_
    obtain rfl := Option.some.inj hres
    exact W.zret hx hb hr (by decide) (fun t ht hW => ⟨rfl, ht⟩) (fun q h => absurd h List.not_mem_nil) dX3_hasCurtain_17
  · have hres := ite_f hres h1
    refine lv_iload_n hx hb dX3_hasCurtain_4 rfl (lv_at hl 1 rfl) ?_
    refine lv_aload_n hx hb dX3_hasCurtain_5 rfl (lv_at hl 0 rfl) ?_
    refine va_get (D := G) (ci := 3) (v := .int (c0 5)) (C := RX3) (T := TX3) (N := 12) hx hb hts (fun w h => (List.mem_cons_of_mem _ (List.mem_append_right _ h))) hown hK.1 hP 0 rfl rfl 5 (by decide) (hts (.fieldLink RX3 49 "EchoSeats$Scene" "curtains" "I") (List.mem_of_getElem? (i := 1) rfl)) (fun _ h9 => h9) rfl dX3_hasCurtain_6 ?_
    refine lv_icmp_ge (tgt := 16) hx hb dX3_hasCurtain_9 (by decide) (fun h2 => ?_) (fun h2 => ?_)
    · have hres := ite_t hres h2
      refine lv_iconst (v := 0) hx hb dX3_hasCurtain_16 (by decide) ?_
      obtain rfl := Option.some.inj hres
      exact W.zret hx hb hr (by decide) (fun t ht hW => ⟨rfl, ht⟩) (fun q h => absurd h List.not_mem_nil) dX3_hasCurtain_17
    · have hres := ite_f hres h2
      refine lv_iconst (v := 1) hx hb dX3_hasCurtain_12 (by decide) ?_
      refine lv_goto (tgt := 17) hx hb dX3_hasCurtain_13 (by decide) ?_
      obtain rfl := Option.some.inj hres
      exact W.zret hx hb hr (by decide) (fun t ht hW => ⟨rfl, ht⟩) (fun q h => absurd h List.not_mem_nil) dX3_hasCurtain_17
theorem hsX3_hasCurtain : yX3_hasCurtain.cls = RX3 ∧ yX3_hasCurtain.cls ≠ "java/lang/invoke/MethodHandle" ∧ yX3_hasCurtain.cls ≠ "java/lang/invoke/VarHandle" ∧ (parseMethodDescriptor yX3_hasCurtain.desc).map (fun d => d.parameters.length) = some 1 := by decide +kernel
set_option maxHeartbeats 4000000 in
set_option maxRecDepth 100000 in
theorem kX3_softPasses (l : Launch) (G : va_G) (cI cZ : ClassId) (tl : List (ClassId × FieldType)) (A0 A0_swallows A0_seatX A0_seatY A0_curtainX A0_curtainFrom A0_curtainTo : Nat) (c0 c0_swallows : Nat → Int32) (x1 x2 : Int32) (res : Int32) (hres : fX3_softPasses c0 c0_swallows x1 x2 = some res) : Met l yX3_softPasses wsX3_softPasses rX3_softPasses (va_Pc [.ref A0, .int x1, .int x2] (PRO G cI cZ tl [o3 A0 c0 A0_swallows A0_seatX A0_seatY A0_curtainX A0_curtainFrom A0_curtainTo, (A0_swallows, .inl (cI, 4, .inl c0_swallows))])) (Sp res) 0 0 (fun _ => False) := by
  refine Met.ofW (cc := cX3_softPasses) (maxL := 5) (ret := (some .int)) (by decide) rfl ?_
  intro p e s m args below meth c s₁ B hml hv
  obtain ⟨rfl, hP, hK⟩ := hv
  have hx := B.exec
  have hb := B.bytes
  have hr := B.returns
  have hts := atoms_spec (ws := wsX3_softPasses) B.pre
  have hown : s.vm.findClass RX3 = some m.cls := findClass_of_methodNamed B.named
  have hlocks := B.notSynchronized
  have hl := lv_entry ([.ref A0, .int x1, .int x2] : List Value) (n := 5) (Nat.le_of_ble_eq_true rfl)
  rw [lg_entry_eq]
  generalize (lg_sl ([.ref A0, .int x1, .int x2] : List Value) ++ List.replicate (5 - (lg_sl ([.ref A0, .int x1, .int x2] : List Value)).length) Slot.unset).toArray = ls at hl ⊢
  have hl : lv_has ls 5 [(0, .ref A0), (1, .int x1), (2, .int x2)] := hl
  refine lv_iconst (v := 0) hx hb dX3_softPasses_0 (by decide) ?_
  refine lv_istore_n (lv' := [(3, .int 0), (0, .ref A0), (1, .int x1), (2, .int x2)]) hx hb dX3_softPasses_1 rfl hl (by decide) rfl (fun ls hl => ?_)
  refine lv_iconst (v := 0) hx hb dX3_softPasses_2 (by decide) ?_
  refine lv_istore (lv' := [(4, .int 0), (3, .int 0), (0, .ref A0), (1, .int x1), (2, .int x2)]) hx hb dX3_softPasses_3 hl (by decide) rfl (fun ls hl => ?_)
  have Q5 : ∀ (v1_L5 : Int32) (v2_L5 : Int32) (n5 : Nat) (v3_L5 : Int32) (v4_L5 : Int32) (ls : Array Slot), LPX (fX3_softPasses_L5 c0 c0_swallows v1_L5 v2_L5) n5 (v3_L5, v4_L5) = some res → lv_has ls 5 [(0, .ref A0), (1, .int v1_L5), (2, .int v2_L5), (3, .int v3_L5), (4, .int v4_L5)] → WRO p l e wsX3_softPasses rX3_softPasses s m ([.ref A0, .int x1, .int x2] : List Value).toArray below meth c res (F0 m 5 ls []) := by
    intro v1_L5 v2_L5 n5
    induction n5 with
    | zero =>
      intro v3_L5 v4_L5 ls hres
      exact absurd (LPX_0.symm.trans hres) (fun h => by cases h)
    | succ n5 ih5 =>
      intro v3_L5 v4_L5 ls hres hl
      have hres := LPX_s.symm.trans hres
      refine lv_iload hx hb dX3_softPasses_5 (lv_at hl 4 rfl) ?_
      refine lv_iconst (v := 3) hx hb dX3_softPasses_7 (by decide) ?_
      refine lv_icmp_gt (tgt := 37) hx hb dX3_softPasses_8 (by decide) (fun h1 => ?_) (fun h1 => ?_)
      · have hres := ite_t hres h1
        refine lv_iload_n hx hb dX3_softPasses_37 rfl (lv_at hl 3 rfl) ?_
        obtain rfl := Option.some.inj hres
        exact W.iret hx hb hr (fun t ht hW => ⟨rfl, ht⟩) (fun q h => absurd h List.not_mem_nil) dX3_softPasses_38
      · have hres := ite_f hres h1
        refine lv_aload_n hx hb dX3_softPasses_11 rfl (lv_at hl 0 rfl) ?_
        refine va_get (D := G) (ci := 3) (v := .ref A0_swallows) (C := RX3) (T := TX3) (N := 12) hx hb hts (fun w h => (List.mem_cons_of_mem _ (List.mem_append_right _ h))) hown hK.1 hP 0 rfl rfl 6 (by decide) (hts (.fieldLink RX3 9 "EchoSeats$Scene" "swallows" "[I") (List.mem_of_getElem? (i := 1) rfl)) (fun _ h9 => h9) rfl dX3_softPasses_12 ?_
        refine lv_iload hx hb dX3_softPasses_15 (lv_at hl 4 rfl) ?_
        have g2 := gd_1 hres
        have hres := gd_2 hres
        refine x_iald hx hb hK hP 1 rfl (j := (Int32.toNatClampNeg v4_L5)) rfl g2 dX3_softPasses_17 ?_
        refine lv_if_le (tgt := 31) hx hb dX3_softPasses_18 (by decide) (fun h3 => ?_) (fun h3 => ?_)
        · have hres := ite_t hres h3
          refine lv_iinc (v := (v4_L5 + 1)) (lv' := [(4, .int (v4_L5 + 1)), (0, .ref A0), (1, .int v1_L5), (2, .int v2_L5), (3, .int v3_L5)]) hx hb dX3_softPasses_31 hl (k := 4) rfl rfl (by decide) rfl (fun ls hl => ?_)
          refine lv_goto (tgt := 5) hx hb dX3_softPasses_34 (by decide) ?_
          exact ih5 v3_L5 (v4_L5 + 1) _ hres (lv_sub hl [1, 2, 3, 4, 0] rfl)
        · have hres := ite_f hres h3
          refine lv_iload_n hx hb dX3_softPasses_21 rfl (lv_at hl 3 rfl) ?_
          refine lv_iload hx hb dX3_softPasses_22 (lv_at hl 4 rfl) ?_
          refine lv_iload_n hx hb dX3_softPasses_24 rfl (lv_at hl 1 rfl) ?_
          refine lv_iload_n hx hb dX3_softPasses_25 rfl (lv_at hl 2 rfl) ?_
          obtain ⟨r4, hr4, hres⟩ := bi_1 hres
          refine x_cp (va_runSN (As := [.int v4_L5, .int v1_L5, .int v2_L5]) (rest := [.int v3_L5]) ⟨hx, hb, hml, hown, hts⟩ (kX5_passes l G cI cZ tl v4_L5 v1_L5 v2_L5 r4 hr4) ⟨va_cnB 3 hts gX3_softPasses_X5_passes_n68 rfl rfl rfl hK.2.2.2.1 (hts (.initialized RX5) (List.mem_of_getElem? (i := 3) rfl)) hsX5_passes ⟨Nat.le_of_ble_eq_true rfl, Nat.le_of_ble_eq_true rfl⟩, (hts (.static yX5_passes) (List.mem_of_getElem? (i := 2) rfl)), trivial⟩ ⟨PRO_blind, PRO_at va_P0 hK⟩ rfl rfl hl.1 rfl (lv_room (Nat.le_of_ble_eq_true rfl)) dX3_softPasses_26 ⟨Nat.zero_le _, Nat.zero_le _⟩) ?_
          refine lv_iadd hx hb dX3_softPasses_29 ?_
          refine lv_topi (fun y5 ey5 => ?_)
          have hres := bnd_z ey5 hres
          refine lv_istore_n (lv' := [(3, .int y5), (0, .ref A0), (1, .int v1_L5), (2, .int v2_L5), (4, .int v4_L5)]) hx hb dX3_softPasses_30 rfl hl (by decide) rfl (fun ls hl => ?_)
          refine lv_iinc (v := (v4_L5 + 1)) (lv' := [(4, .int (v4_L5 + 1)), (3, .int y5), (0, .ref A0), (1, .int v1_L5), (2, .int v2_L5)]) hx hb dX3_softPasses_31 hl (k := 4) rfl rfl (by decide) rfl (fun ls hl => ?_)
          refine lv_goto (tgt := 5) hx hb dX3_softPasses_34 (by decide) ?_
          exact ih5 y5 (v4_L5 + 1) _ hres (lv_sub hl [2, 3, 4, 1, 0] rfl)
  exact Q5 x1 x2 FU 0 0 _ hres (lv_sub hl [2, 3, 4, 1, 0] rfl)
theorem hsX3_softPasses : yX3_softPasses.cls = RX3 ∧ yX3_softPasses.cls ≠ "java/lang/invoke/MethodHandle" ∧ yX3_softPasses.cls ≠ "java/lang/invoke/VarHandle" ∧ (parseMethodDescriptor yX3_softPasses.desc).map (fun d => d.parameters.length) = some 2 := by decide +kernel
set_option maxHeartbeats 4000000 in
set_option maxRecDepth 100000 in
theorem kX3_sourceCode (l : Launch) (G : va_G) (cI cZ : ClassId) (tl : List (ClassId × FieldType)) (A0 A0_swallows A0_seatX A0_seatY A0_curtainX A0_curtainFrom A0_curtainTo : Nat) (c0 : Nat → Int32) (res : Int32) (hres : fX3_sourceCode c0 = some res) : Met l yX3_sourceCode wsX3_sourceCode rX3_sourceCode (va_Pc [.ref A0] (PRO G cI cZ tl [o3 A0 c0 A0_swallows A0_seatX A0_seatY A0_curtainX A0_curtainFrom A0_curtainTo])) (Sp res) 0 0 (fun _ => False) := by
  refine Met.ofW (cc := cX3_sourceCode) (maxL := 1) (ret := (some .int)) (by decide) rfl ?_
  intro p e s m args below meth c s₁ B hml hv
  obtain ⟨rfl, hP, hK⟩ := hv
  have hx := B.exec
  have hb := B.bytes
  have hr := B.returns
  have hts := atoms_spec (ws := wsX3_sourceCode) B.pre
  have hown : s.vm.findClass RX3 = some m.cls := findClass_of_methodNamed B.named
  have hlocks := B.notSynchronized
  have hl := lv_entry ([.ref A0] : List Value) (n := 1) (Nat.le_of_ble_eq_true rfl)
  rw [lg_entry_eq]
  generalize (lg_sl ([.ref A0] : List Value) ++ List.replicate (1 - (lg_sl ([.ref A0] : List Value)).length) Slot.unset).toArray = ls at hl ⊢
  have hl : lv_has ls 1 [(0, .ref A0)] := hl
  refine lv_bipush (v := 100) hx hb dX3_sourceCode_0 (by decide) ?_
  refine lv_aload_n hx hb dX3_sourceCode_2 rfl (lv_at hl 0 rfl) ?_
  refine va_get (D := G) (ci := 3) (v := .int (c0 2)) (C := RX3) (T := TX3) (N := 12) hx hb hts (fun w h => (List.mem_cons_of_mem _ (List.mem_append_right _ h))) hown hK.1 hP 0 rfl rfl 2 (by decide) (hts (.fieldLink RX3 40 "EchoSeats$Scene" "sourceX" "I") (List.mem_of_getElem? (i := 1) rfl)) (fun _ h9 => h9) rfl dX3_sourceCode_3 ?_
  refine lv_imul hx hb dX3_sourceCode_6 ?_
  refine lv_aload_n hx hb dX3_sourceCode_7 rfl (lv_at hl 0 rfl) ?_
  refine va_get (D := G) (ci := 3) (v := .int (c0 3)) (C := RX3) (T := TX3) (N := 12) hx hb hts (fun w h => (List.mem_cons_of_mem _ (List.mem_append_right _ h))) hown hK.1 hP 0 rfl rfl 3 (by decide) (hts (.fieldLink RX3 43 "EchoSeats$Scene" "sourceY" "I") (List.mem_of_getElem? (i := 2) rfl)) (fun _ h9 => h9) rfl dX3_sourceCode_8 ?_
  refine lv_iadd hx hb dX3_sourceCode_11 ?_
  obtain rfl := Option.some.inj hres
  exact W.iret hx hb hr (fun t ht hW => ⟨rfl, ht⟩) (fun q h => absurd h List.not_mem_nil) dX3_sourceCode_12
theorem hsX3_sourceCode : yX3_sourceCode.cls = RX3 ∧ yX3_sourceCode.cls ≠ "java/lang/invoke/MethodHandle" ∧ yX3_sourceCode.cls ≠ "java/lang/invoke/VarHandle" ∧ (parseMethodDescriptor yX3_sourceCode.desc).map (fun d => d.parameters.length) = some 0 := by decide +kernel
set_option maxHeartbeats 4000000 in
set_option maxRecDepth 100000 in
theorem kX4_append (l : Launch) (G : va_G) (cI cZ : ClassId) (tl : List (ClassId × FieldType)) (sz : Nat) (A : Nat → Prop) (A0 A0_letters : Nat) (c0 c0_letters : Nat → Int32) (x1 : Int32) (res : Int32 × (Nat → Int32) × (Nat → Int32)) (hAe : A = va_A [o4 A0 c0 A0_letters, (A0_letters, .inl (cI, 100, .inl c0_letters))] sz) (hres : fX4_append c0 c0_letters x1 = some res) : Met l yX4_append wsX4_append rX4_append (va_Pc [.ref A0, .int x1] (PRW G cI cZ tl [o4 A0 c0 A0_letters, (A0_letters, .inl (cI, 100, .inl c0_letters))] sz)) (Qiw res.1 G A [o4 A0 res.2.1 A0_letters, (A0_letters, .inl (cI, 100, .inl res.2.2))]) 0 0 A := by
  refine Met.ofW (cc := cX4_append) (maxL := 2) (ret := (some .boolean)) (by decide) rfl ?_
  intro p e s m args below meth c s₁ B hml hv
  obtain ⟨rfl, hsz, hP, hK, hD0⟩ := hv
  have hx := B.exec
  have hb := B.bytes
  have hr := B.returns
  have hts := atoms_spec (ws := wsX4_append) B.pre
  have hown : s.vm.findClass RX4 = some m.cls := findClass_of_methodNamed B.named
  have hlocks := B.notSynchronized
  subst hsz
  have hD : va_D A [o4 A0 c0 A0_letters, (A0_letters, .inl (cI, 100, .inl c0_letters))] := by rw [hAe]; exact hD0.self
  have hA : ∀ q : Nat, s.heap.size ≤ q → A q := fun q h => by rw [hAe]; exact Or.inr h
  clear hAe hD0
  have hS : va_S A s.heap s.heap [] := va_S.rf
  have hl := lv_entry ([.ref A0, .int x1] : List Value) (n := 2) (Nat.le_of_ble_eq_true rfl)
  rw [lg_entry_eq]
  generalize (lg_sl ([.ref A0, .int x1] : List Value) ++ List.replicate (2 - (lg_sl ([.ref A0, .int x1] : List Value)).length) Slot.unset).toArray = ls at hl ⊢
  have hl : lv_has ls 2 [(0, .ref A0), (1, .int x1)] := hl
  refine lv_aload_n hx hb dX4_append_0 rfl (lv_at hl 0 rfl) ?_
  refine va_get (D := G) (ci := 4) (v := .int (c0 1)) (C := RX4) (T := TX4) (N := 6) hx hb hts (fun w h => (List.mem_cons_of_mem _ (List.mem_append_right _ h))) hown hK.1 hP 0 rfl rfl 1 (by decide) (hts (.fieldLink RX4 15 "EchoSeats$Text" "size" "I") (List.mem_of_getElem? (i := 1) rfl)) (fun _ h9 => h9) rfl dX4_append_1 ?_
  refine lv_bipush (v := 100) hx hb dX4_append_4 (by decide) ?_
  refine lv_icmp_lt (tgt := 11) hx hb dX4_append_6 (by decide) (fun h1 => ?_) (fun h1 => ?_)
  · have hres := ite_t hres h1
    refine lv_aload_n hx hb dX4_append_11 rfl (lv_at hl 0 rfl) ?_
    refine va_get (D := G) (ci := 4) (v := .ref A0_letters) (C := RX4) (T := TX4) (N := 6) hx hb hts (fun w h => (List.mem_cons_of_mem _ (List.mem_append_right _ h))) hown hK.1 hP 0 rfl rfl 0 (by decide) (hts (.fieldLink RX4 9 "EchoSeats$Text" "letters" "[I") (List.mem_of_getElem? (i := 2) rfl)) (fun _ h9 => h9) rfl dX4_append_12 ?_
    refine lv_aload_n hx hb dX4_append_15 rfl (lv_at hl 0 rfl) ?_
    refine va_get (D := G) (ci := 4) (v := .int (c0 1)) (C := RX4) (T := TX4) (N := 6) hx hb hts (fun w h => (List.mem_cons_of_mem _ (List.mem_append_right _ h))) hown hK.1 hP 0 rfl rfl 1 (by decide) (hts (.fieldLink RX4 15 "EchoSeats$Text" "size" "I") (List.mem_of_getElem? (i := 1) rfl)) (fun _ h9 => h9) rfl dX4_append_16 ?_
    refine lv_iload_n hx hb dX4_append_19 rfl (lv_at hl 1 rfl) ?_
    have g2 := gd_1 hres
    have hres := gd_2 hres
    refine x_iast hx hb hK hP hD hS 1 rfl (j := (Int32.toNatClampNeg (c0 1))) rfl g2 dX4_append_20 (fun H locs hP hD hS => ?_)
    have hP : va_P G vwCl [o4 A0 c0 A0_letters, (A0_letters, .inl (cI, 100, .inl (upd c0_letters (Int32.toNatClampNeg (c0 1)) x1)))] H := hP
    have hD : va_D A [o4 A0 c0 A0_letters, (A0_letters, .inl (cI, 100, .inl (upd c0_letters (Int32.toNatClampNeg (c0 1)) x1)))] := hD
    refine lv_aload_n hx hb dX4_append_21 rfl (lv_at hl 0 rfl) ?_
    refine lv_dup hx hb dX4_append_22 rfl ?_
    refine va_get (D := G) (ci := 4) (v := .int (c0 1)) (C := RX4) (T := TX4) (N := 6) hx hb hts (fun w h => (List.mem_cons_of_mem _ (List.mem_append_right _ h))) hown hK.1 hP 0 rfl rfl 1 (by decide) (hts (.fieldLink RX4 15 "EchoSeats$Text" "size" "I") (List.mem_of_getElem? (i := 1) rfl)) (fun _ h9 => h9) rfl dX4_append_23 ?_
    refine lv_iconst (v := 1) hx hb dX4_append_26 (by decide) ?_
    refine lv_iadd hx hb dX4_append_27 ?_
    refine va_put (D := G) (ci := 4) (v := .int ((c0 1) + 1)) (ty := .int) (C := RX4) (T := TX4) (N := 6) hx hb hts (fun w h => (List.mem_cons_of_mem _ (List.mem_append_right _ h))) tyX4 tyX4_ok nmX4 hown hK.1 hP hD hS 0 rfl rfl 1 (by decide) (hts (.fieldLink RX4 15 "EchoSeats$Text" "size" "I") (List.mem_of_getElem? (i := 1) rfl)) (fun _ h9 => h9) rfl (tyX4_ok 1 (by decide)) rfl rfl (Nat.le_of_ble_eq_true rfl) dX4_append_28 (fun H locs hP hD hS => ?_)
    have hP : va_P G vwCl [o4 A0 (upd c0 1 ((c0 1) + 1)) A0_letters, (A0_letters, .inl (cI, 100, .inl (upd c0_letters (Int32.toNatClampNeg (c0 1)) x1)))] H := hP
    have hD : va_D A [o4 A0 (upd c0 1 ((c0 1) + 1)) A0_letters, (A0_letters, .inl (cI, 100, .inl (upd c0_letters (Int32.toNatClampNeg (c0 1)) x1)))] := hD
    refine lv_iconst (v := 1) hx hb dX4_append_31 (by decide) ?_
    obtain rfl := Option.some.inj hres
    exact W.zret hx hb hr (by decide) (fun t ht hW => ⟨⟨_, (), rfl, rfl, by rw [ht]; exact hP, hD⟩, hS.F ht⟩) hS.2.2 dX4_append_32
  · have hres := ite_f hres h1
    refine lv_iconst (v := 0) hx hb dX4_append_9 (by decide) ?_
    obtain rfl := Option.some.inj hres
    exact W.zret hx hb hr (by decide) (fun t ht hW => ⟨⟨_, (), rfl, rfl, by rw [ht]; exact hP, hD⟩, hS.F ht⟩) hS.2.2 dX4_append_10
theorem hsX4_append : yX4_append.cls = RX4 ∧ yX4_append.cls ≠ "java/lang/invoke/MethodHandle" ∧ yX4_append.cls ≠ "java/lang/invoke/VarHandle" ∧ (parseMethodDescriptor yX4_append.desc).map (fun d => d.parameters.length) = some 1 := by decide +kernel
set_option maxHeartbeats 4000000 in
set_option maxRecDepth 100000 in
theorem kX4_isFigure (l : Launch) (G : va_G) (cI cZ : ClassId) (tl : List (ClassId × FieldType)) (x0 : Int32) (res : Int32) (hres : fX4_isFigure x0 = some res) : Met l yX4_isFigure wsX4_isFigure rX4_isFigure (va_Pc [.int x0] (PRO G cI cZ tl [])) (Sp res) 0 0 (fun _ => False) := by
  refine Met.ofW (cc := cX4_isFigure) (maxL := 1) (ret := (some .boolean)) (by decide) rfl ?_
  intro p e s m args below meth c s₁ B hml hv
  obtain ⟨rfl, hP, hK⟩ := hv
  have hx := B.exec
  have hb := B.bytes
  have hr := B.returns
  have hts := atoms_spec (ws := wsX4_isFigure) B.pre
  have hown : s.vm.findClass RX4 = some m.cls := findClass_of_methodNamed B.named
  have hlocks := B.notSynchronized
  have hl := lv_entry ([.int x0] : List Value) (n := 1) (Nat.le_of_ble_eq_true rfl)
  rw [lg_entry_eq]
  generalize (lg_sl ([.int x0] : List Value) ++ List.replicate (1 - (lg_sl ([.int x0] : List Value)).length) Slot.unset).toArray = ls at hl ⊢
  have hl : lv_has ls 1 [(0, .int x0)] := hl
  refine lv_iload_n hx hb dX4_isFigure_0 rfl (lv_at hl 0 rfl) ?_
  refine lv_bipush (v := 48) hx hb dX4_isFigure_1 (by decide) ?_
  refine lv_icmp_lt (tgt := 16) hx hb dX4_isFigure_3 (by decide) (fun h1 => ?_) (fun h1 => ?_)
  · have hres := ite_t hres h1
    refine lv_iconst (v := 0) hx hb dX4_isFigure_16 (by decide) ?_
    obtain rfl := Option.some.inj hres
    exact W.zret hx hb hr (by decide) (fun t ht hW => ⟨rfl, ht⟩) (fun q h => absurd h List.not_mem_nil) dX4_isFigure_17
  · have hres := ite_f hres h1
    refine lv_iload_n hx hb dX4_isFigure_6 rfl (lv_at hl 0 rfl) ?_
    refine lv_bipush (v := 57) hx hb dX4_isFigure_7 (by decide) ?_
    refine lv_icmp_gt (tgt := 16) hx hb dX4_isFigure_9 (by decide) (fun h2 => ?_) (fun h2 => ?_)
    · have hres := ite_t hres h2
      refine lv_iconst (v := 0) hx hb dX4_isFigure_16 (by decide) ?_
      obtain rfl := Option.some.inj hres
      exact W.zret hx hb hr (by decide) (fun t ht hW => ⟨rfl, ht⟩) (fun q h => absurd h List.not_mem_nil) dX4_isFigure_17
    · have hres := ite_f hres h2
      refine lv_iconst (v := 1) hx hb dX4_isFigure_12 (by decide) ?_
      refine lv_goto (tgt := 17) hx hb dX4_isFigure_13 (by decide) ?_
      obtain rfl := Option.some.inj hres
      exact W.zret hx hb hr (by decide) (fun t ht hW => ⟨rfl, ht⟩) (fun q h => absurd h List.not_mem_nil) dX4_isFigure_17
theorem hsX4_isFigure : yX4_isFigure.cls ≠ "java/lang/invoke/MethodHandle" ∧ yX4_isFigure.cls ≠ "java/lang/invoke/VarHandle" ∧ (parseMethodDescriptor yX4_isFigure.desc).map (fun d => d.parameters.length) = some 1 := by decide +kernel
