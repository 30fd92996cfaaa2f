set_option maxHeartbeats 4000000 in
set_option maxRecDepth 100000 in
theorem kX4_takeFigures (l : Launch) (G : va_G) (cI cZ : ClassId) (tl : List (ClassId × FieldType)) (sz : Nat) (A : Nat → Prop) (A0 A0_letters : Nat) (c0 c0_letters : Nat → Int32) (res : (Nat → Int32)) (hAe : A = va_A [o4 A0 c0 A0_letters, (A0_letters, .inl (cI, 100, .inl c0_letters))] sz) (hres : fX4_takeFigures c0 c0_letters = some res) : Met l yX4_takeFigures wsX4_takeFigures rX4_takeFigures (va_Pc [.ref A0] (PRW G cI cZ tl [o4 A0 c0 A0_letters, (A0_letters, .inl (cI, 100, .inl c0_letters))] sz)) (Qvw G A [o4 A0 res A0_letters, (A0_letters, .inl (cI, 100, .inl c0_letters))]) 0 0 A := by
  refine Met.ofW (cc := cX4_takeFigures) (maxL := 2) (ret := none) (by decide) rfl ?_
  intro p e s m args below meth c s₁ B hml hv
  obtain ⟨rfl, hsz, hP, hK, hD0⟩ := hv
  have hx := B.exec
  have hb := B.bytes
  have hr := B.returns
  have hts := atoms_spec (ws := wsX4_takeFigures) B.pre
  have hown : s.vm.findClass RX4 = some m.cls := findClass_of_methodNamed B.named
  have hlocks := B.notSynchronized
  subst hsz
  have hD : va_D A [o4 A0 c0 A0_letters, (A0_letters, .inl (cI, 100, .inl c0_letters))] := by rw [hAe]; exact hD0.self
  have hA : ∀ q : Nat, s.heap.size ≤ q → A q := fun q h => by rw [hAe]; exact Or.inr h
  clear hAe hD0
  have hS : va_S A s.heap s.heap [] := va_S.rf
  have hl := lv_entry ([.ref A0] : List Value) (n := 2) (Nat.le_of_ble_eq_true rfl)
  rw [lg_entry_eq]
  generalize (lg_sl ([.ref A0] : List Value) ++ List.replicate (2 - (lg_sl ([.ref A0] : List Value)).length) Slot.unset).toArray = ls at hl ⊢
  have hl : lv_has ls 2 [(0, .ref A0)] := hl
  have J105 : ∀ (z0_j105 : Int32) (e0_j105 : (Nat → Int32)) (H : Heap) (locs : List Loc) (ls : Array Slot), fX4_takeFigures_j105 c0_letters z0_j105 e0_j105 = some res → va_P G vwCl [o4 A0 e0_j105 A0_letters, (A0_letters, .inl (cI, 100, .inl c0_letters))] H → va_D A [o4 A0 e0_j105 A0_letters, (A0_letters, .inl (cI, 100, .inl c0_letters))] → va_S A s.heap H locs → lv_has ls 2 [(0, .ref A0)] → WRW p l e wsX4_takeFigures rX4_takeFigures s m ([.ref A0] : List Value).toArray below meth c H locs (Qvw G A [o4 A0 res A0_letters, (A0_letters, .inl (cI, 100, .inl c0_letters))]) A (F0 m 105 ls [.int z0_j105]) := by
    intro z0_j105 e0_j105 H locs ls hres hP hD hS hl
    refine lv_istore_n (lv' := [(1, .int z0_j105), (0, .ref A0)]) hx hb dX4_takeFigures_105 rfl hl (by decide) rfl (fun ls hl => ?_)
    refine lv_aload_n hx hb dX4_takeFigures_106 rfl (lv_at hl 1 rfl) ?_
    refine lv_aload_n hx hb dX4_takeFigures_107 rfl (lv_at hl 1 rfl) ?_
    refine va_get (D := G) (ci := 4) (v := .int (e0_j105 5)) (C := RX4) (T := TX4) (N := 6) hx hb hts (fun w h => (List.mem_cons_of_mem _ (List.mem_append_right _ h))) hown hK.1 hP 0 rfl rfl 5 (by decide) (hts (.fieldLink RX4 70 "EchoSeats$Text" "number" "I") (List.mem_of_getElem? (i := 1) rfl)) (fun _ h9 => h9) rfl dX4_takeFigures_108 ?_
    refine lv_bipush (v := 99) hx hb dX4_takeFigures_111 (by decide) ?_
    refine lv_icmp_gt (tgt := 120) hx hb dX4_takeFigures_113 (by decide) (fun h1 => ?_) (fun h1 => ?_)
    · have hres := ite_t hres h1
      refine lv_bipush (v := (-3)) hx hb dX4_takeFigures_120 (by decide) ?_
      refine lv_goto (tgt := 127) hx hb dX4_takeFigures_122 (by decide) ?_
      refine va_put (D := G) (ci := 4) (v := .int (-3)) (ty := .int) (C := RX4) (T := TX4) (N := 6) hx hb hts (fun w h => (List.mem_cons_of_mem _ (List.mem_append_right _ h))) tyX4 tyX4_ok nmX4 hown hK.1 hP hD hS 0 rfl rfl 3 (by decide) (hts (.fieldLink RX4 30 "EchoSeats$Text" "token" "I") (List.mem_of_getElem? (i := 10) rfl)) (fun _ h9 => h9) rfl (tyX4_ok 3 (by decide)) rfl rfl (Nat.le_of_ble_eq_true rfl) dX4_takeFigures_127 (fun H locs hP hD hS => ?_)
      have hP : va_P G vwCl [o4 A0 (upd e0_j105 3 (-3)) A0_letters, (A0_letters, .inl (cI, 100, .inl c0_letters))] H := hP
      have hD : va_D A [o4 A0 (upd e0_j105 3 (-3)) A0_letters, (A0_letters, .inl (cI, 100, .inl c0_letters))] := hD
      obtain rfl := Option.some.inj hres
      exact W.vret hx hb hr (fun t ht hW => ⟨⟨(), rfl, trivial, by rw [ht]; exact hP, hD⟩, hS.F ht⟩) hS.2.2 dX4_takeFigures_130
    · have hres := ite_f hres h1
      refine lv_iload_n hx hb dX4_takeFigures_116 rfl (lv_at hl 0 rfl) ?_
      refine lv_if_eq (tgt := 125) hx hb dX4_takeFigures_117 (by decide) (fun h2 => ?_) (fun h2 => ?_)
      · have hres := ite_t hres h2
        refine lv_bipush (v := (-2)) hx hb dX4_takeFigures_125 (by decide) ?_
        refine va_put (D := G) (ci := 4) (v := .int (-2)) (ty := .int) (C := RX4) (T := TX4) (N := 6) hx hb hts (fun w h => (List.mem_cons_of_mem _ (List.mem_append_right _ h))) tyX4 tyX4_ok nmX4 hown hK.1 hP hD hS 0 rfl rfl 3 (by decide) (hts (.fieldLink RX4 30 "EchoSeats$Text" "token" "I") (List.mem_of_getElem? (i := 10) rfl)) (fun _ h9 => h9) rfl (tyX4_ok 3 (by decide)) rfl rfl (Nat.le_of_ble_eq_true rfl) dX4_takeFigures_127 (fun H locs hP hD hS => ?_)
        have hP : va_P G vwCl [o4 A0 (upd e0_j105 3 (-2)) A0_letters, (A0_letters, .inl (cI, 100, .inl c0_letters))] H := hP
        have hD : va_D A [o4 A0 (upd e0_j105 3 (-2)) A0_letters, (A0_letters, .inl (cI, 100, .inl c0_letters))] := hD
        obtain rfl := Option.some.inj hres
        exact W.vret hx hb hr (fun t ht hW => ⟨⟨(), rfl, trivial, by rw [ht]; exact hP, hD⟩, hS.F ht⟩) hS.2.2 dX4_takeFigures_130
      · have hres := ite_f hres h2
        refine lv_bipush (v := (-3)) hx hb dX4_takeFigures_120 (by decide) ?_
        refine lv_goto (tgt := 127) hx hb dX4_takeFigures_122 (by decide) ?_
        refine va_put (D := G) (ci := 4) (v := .int (-3)) (ty := .int) (C := RX4) (T := TX4) (N := 6) hx hb hts (fun w h => (List.mem_cons_of_mem _ (List.mem_append_right _ h))) tyX4 tyX4_ok nmX4 hown hK.1 hP hD hS 0 rfl rfl 3 (by decide) (hts (.fieldLink RX4 30 "EchoSeats$Text" "token" "I") (List.mem_of_getElem? (i := 10) rfl)) (fun _ h9 => h9) rfl (tyX4_ok 3 (by decide)) rfl rfl (Nat.le_of_ble_eq_true rfl) dX4_takeFigures_127 (fun H locs hP hD hS => ?_)
        have hP : va_P G vwCl [o4 A0 (upd e0_j105 3 (-3)) A0_letters, (A0_letters, .inl (cI, 100, .inl c0_letters))] H := hP
        have hD : va_D A [o4 A0 (upd e0_j105 3 (-3)) A0_letters, (A0_letters, .inl (cI, 100, .inl c0_letters))] := hD
        obtain rfl := Option.some.inj hres
        exact W.vret hx hb hr (fun t ht hW => ⟨⟨(), rfl, trivial, by rw [ht]; exact hP, hD⟩, hS.F ht⟩) hS.2.2 dX4_takeFigures_130
  have J73 : ∀ (e0_j73 : (Nat → Int32)) (H : Heap) (locs : List Loc) (ls : Array Slot), fX4_takeFigures_j73 c0_letters e0_j73 = some res → va_P G vwCl [o4 A0 e0_j73 A0_letters, (A0_letters, .inl (cI, 100, .inl c0_letters))] H → va_D A [o4 A0 e0_j73 A0_letters, (A0_letters, .inl (cI, 100, .inl c0_letters))] → va_S A s.heap H locs → lv_has ls 2 [(0, .ref A0)] → WRW p l e wsX4_takeFigures rX4_takeFigures s m ([.ref A0] : List Value).toArray below meth c H locs (Qvw G A [o4 A0 res A0_letters, (A0_letters, .inl (cI, 100, .inl c0_letters))]) A (F0 m 73 ls []) := by
    intro e0_j73 H locs ls hres hP hD hS hl
    refine lv_aload_n hx hb dX4_takeFigures_73 rfl (lv_at hl 0 rfl) ?_
    refine va_get (D := G) (ci := 4) (v := .ref A0_letters) (C := RX4) (T := TX4) (N := 6) hx hb hts (fun w h => (List.mem_cons_of_mem _ (List.mem_append_right _ h))) hown hK.1 hP 0 rfl rfl 0 (by decide) (hts (.fieldLink RX4 9 "EchoSeats$Text" "letters" "[I") (List.mem_of_getElem? (i := 4) rfl)) (fun _ h9 => h9) rfl dX4_takeFigures_74 ?_
    refine lv_aload_n hx hb dX4_takeFigures_77 rfl (lv_at hl 0 rfl) ?_
    refine va_get (D := G) (ci := 4) (v := .int (e0_j73 4)) (C := RX4) (T := TX4) (N := 6) hx hb hts (fun w h => (List.mem_cons_of_mem _ (List.mem_append_right _ h))) hown hK.1 hP 0 rfl rfl 4 (by decide) (hts (.fieldLink RX4 41 "EchoSeats$Text" "start" "I") (List.mem_of_getElem? (i := 9) rfl)) (fun _ h9 => h9) rfl dX4_takeFigures_78 ?_
    have g3 := gd_1 hres
    have hres := gd_2 hres
    refine x_iald hx hb hK hP 1 rfl (j := (Int32.toNatClampNeg (e0_j73 4))) rfl g3 dX4_takeFigures_81 ?_
    refine lv_bipush (v := 48) hx hb dX4_takeFigures_82 (by decide) ?_
    refine lv_icmp_ne (tgt := 104) hx hb dX4_takeFigures_84 (by decide) (fun h4 => ?_) (fun h4 => ?_)
    · have hres := ite_f hres h4
      refine lv_iconst (v := 0) hx hb dX4_takeFigures_104 (by decide) ?_
      exact J105 0 e0_j73 _ _ _ hres hP hD hS (lv_sub hl [0] rfl)
    · have hres := ite_t hres h4
      refine lv_aload_n hx hb dX4_takeFigures_87 rfl (lv_at hl 0 rfl) ?_
      refine va_get (D := G) (ci := 4) (v := .int (e0_j73 2)) (C := RX4) (T := TX4) (N := 6) hx hb hts (fun w h => (List.mem_cons_of_mem _ (List.mem_append_right _ h))) hown hK.1 hP 0 rfl rfl 2 (by decide) (hts (.fieldLink RX4 24 "EchoSeats$Text" "next" "I") (List.mem_of_getElem? (i := 2) rfl)) (fun _ h9 => h9) rfl dX4_takeFigures_88 ?_
      refine lv_aload_n hx hb dX4_takeFigures_91 rfl (lv_at hl 0 rfl) ?_
      refine va_get (D := G) (ci := 4) (v := .int (e0_j73 4)) (C := RX4) (T := TX4) (N := 6) hx hb hts (fun w h => (List.mem_cons_of_mem _ (List.mem_append_right _ h))) hown hK.1 hP 0 rfl rfl 4 (by decide) (hts (.fieldLink RX4 41 "EchoSeats$Text" "start" "I") (List.mem_of_getElem? (i := 9) rfl)) (fun _ h9 => h9) rfl dX4_takeFigures_92 ?_
      refine lv_isub hx hb dX4_takeFigures_95 ?_
      refine lv_iconst (v := 1) hx hb dX4_takeFigures_96 (by decide) ?_
      refine lv_icmp_le (tgt := 104) hx hb dX4_takeFigures_97 (by decide) (fun h5 => ?_) (fun h5 => ?_)
      · have hres := ite_t hres h5
        refine lv_iconst (v := 0) hx hb dX4_takeFigures_104 (by decide) ?_
        exact J105 0 e0_j73 _ _ _ hres hP hD hS (lv_sub hl [0] rfl)
      · have hres := ite_f hres h5
        refine lv_iconst (v := 1) hx hb dX4_takeFigures_100 (by decide) ?_
        refine lv_goto (tgt := 105) hx hb dX4_takeFigures_101 (by decide) ?_
        exact J105 1 e0_j73 _ _ _ hres hP hD hS (lv_sub hl [0] rfl)
  refine lv_aload_n hx hb dX4_takeFigures_0 rfl (lv_at hl 0 rfl) ?_
  refine lv_iconst (v := 0) hx hb dX4_takeFigures_1 (by decide) ?_
  refine va_put (D := G) (ci := 4) (v := .int 0) (ty := .int) (C := RX4) (T := TX4) (N := 6) hx hb hts (fun w h => (List.mem_cons_of_mem _ (List.mem_append_right _ h))) tyX4 tyX4_ok nmX4 hown hK.1 hP hD hS 0 rfl rfl 5 (by decide) (hts (.fieldLink RX4 70 "EchoSeats$Text" "number" "I") (List.mem_of_getElem? (i := 1) rfl)) (fun _ h9 => h9) rfl (tyX4_ok 5 (by decide)) rfl rfl (Nat.le_of_ble_eq_true rfl) dX4_takeFigures_2 (fun H locs hP hD hS => ?_)
  have hP : va_P G vwCl [o4 A0 (upd c0 5 0) A0_letters, (A0_letters, .inl (cI, 100, .inl c0_letters))] H := hP
  have hD : va_D A [o4 A0 (upd c0 5 0) A0_letters, (A0_letters, .inl (cI, 100, .inl c0_letters))] := hD
  have Q5 : ∀ (n5 : Nat) (e0_L5 : (Nat → Int32)) (H : Heap) (locs : List Loc) (ls : Array Slot), LPX (fX4_takeFigures_L5 c0_letters) n5 e0_L5 = some res → va_P G vwCl [o4 A0 e0_L5 A0_letters, (A0_letters, .inl (cI, 100, .inl c0_letters))] H → va_D A [o4 A0 e0_L5 A0_letters, (A0_letters, .inl (cI, 100, .inl c0_letters))] → va_S A s.heap H locs → lv_has ls 2 [(0, .ref A0)] → WRW p l e wsX4_takeFigures rX4_takeFigures s m ([.ref A0] : List Value).toArray below meth c H locs (Qvw G A [o4 A0 res A0_letters, (A0_letters, .inl (cI, 100, .inl c0_letters))]) A (F0 m 5 ls []) := by
    intro n5
    induction n5 with
    | zero =>
      intro e0_L5 H locs ls hres
      exact absurd (LPX_0.symm.trans hres) (fun h => by cases h)
    | succ n5 ih5 =>
      intro e0_L5 H locs ls hres hP hD hS hl
      have hres := LPX_s.symm.trans hres
      refine lv_aload_n hx hb dX4_takeFigures_5 rfl (lv_at hl 0 rfl) ?_
      refine va_get (D := G) (ci := 4) (v := .int (e0_L5 2)) (C := RX4) (T := TX4) (N := 6) hx hb hts (fun w h => (List.mem_cons_of_mem _ (List.mem_append_right _ h))) hown hK.1 hP 0 rfl rfl 2 (by decide) (hts (.fieldLink RX4 24 "EchoSeats$Text" "next" "I") (List.mem_of_getElem? (i := 2) rfl)) (fun _ h9 => h9) rfl dX4_takeFigures_6 ?_
      refine lv_aload_n hx hb dX4_takeFigures_9 rfl (lv_at hl 0 rfl) ?_
      refine va_get (D := G) (ci := 4) (v := .int (e0_L5 1)) (C := RX4) (T := TX4) (N := 6) hx hb hts (fun w h => (List.mem_cons_of_mem _ (List.mem_append_right _ h))) hown hK.1 hP 0 rfl rfl 1 (by decide) (hts (.fieldLink RX4 15 "EchoSeats$Text" "size" "I") (List.mem_of_getElem? (i := 3) rfl)) (fun _ h9 => h9) rfl dX4_takeFigures_10 ?_
      refine lv_icmp_ge (tgt := 73) hx hb dX4_takeFigures_13 (by decide) (fun h6 => ?_) (fun h6 => ?_)
      · have hres := ite_t hres h6
        exact J73 e0_L5 _ _ _ hres hP hD hS (lv_sub hl [0] rfl)
      · have hres := ite_f hres h6
        refine lv_aload_n hx hb dX4_takeFigures_16 rfl (lv_at hl 0 rfl) ?_
        refine va_get (D := G) (ci := 4) (v := .ref A0_letters) (C := RX4) (T := TX4) (N := 6) hx hb hts (fun w h => (List.mem_cons_of_mem _ (List.mem_append_right _ h))) hown hK.1 hP 0 rfl rfl 0 (by decide) (hts (.fieldLink RX4 9 "EchoSeats$Text" "letters" "[I") (List.mem_of_getElem? (i := 4) rfl)) (fun _ h9 => h9) rfl dX4_takeFigures_17 ?_
        refine lv_aload_n hx hb dX4_takeFigures_20 rfl (lv_at hl 0 rfl) ?_
        refine va_get (D := G) (ci := 4) (v := .int (e0_L5 2)) (C := RX4) (T := TX4) (N := 6) hx hb hts (fun w h => (List.mem_cons_of_mem _ (List.mem_append_right _ h))) hown hK.1 hP 0 rfl rfl 2 (by decide) (hts (.fieldLink RX4 24 "EchoSeats$Text" "next" "I") (List.mem_of_getElem? (i := 2) rfl)) (fun _ h9 => h9) rfl dX4_takeFigures_21 ?_
        have g7 := gd_1 hres
        have hres := gd_2 hres
        refine x_iald hx hb hK hP 1 rfl (j := (Int32.toNatClampNeg (e0_L5 2))) rfl g7 dX4_takeFigures_24 ?_
        obtain ⟨r8, hr8, hres⟩ := bi_1 hres
        refine x_cp (va_runS (As := [.int (c0_letters (Int32.toNatClampNeg (e0_L5 2)))]) (rest := []) ⟨hx, hb, hml, hown, hts⟩ (kX4_isFigure l G cI cZ tl (c0_letters (Int32.toNatClampNeg (e0_L5 2))) r8 hr8) (va_cwS 1 hts gX4_takeFigures_X4_isFigure rfl rfl rfl hsX4_isFigure ⟨Nat.le_of_ble_eq_true rfl, Nat.le_of_ble_eq_true rfl⟩) ⟨PRO_blind, PRO_at va_P0 hK⟩ rfl rfl hl.1 rfl (lv_room (Nat.le_of_ble_eq_true rfl)) dX4_takeFigures_25 ⟨Nat.zero_le _, Nat.zero_le _⟩) ?_
        refine lv_if_eq (tgt := 73) hx hb dX4_takeFigures_28 (by decide) (fun h9 => ?_) (fun h9 => ?_)
        · have hres := ite_t hres h9
          exact J73 e0_L5 _ _ _ hres hP hD hS (lv_sub hl [0] rfl)
        · have hres := ite_f hres h9
          refine lv_aload_n hx hb dX4_takeFigures_31 rfl (lv_at hl 0 rfl) ?_
          refine lv_bipush (v := 100) hx hb dX4_takeFigures_32 (by decide) ?_
          refine lv_bipush (v := 10) hx hb dX4_takeFigures_34 (by decide) ?_
          refine lv_aload_n hx hb dX4_takeFigures_36 rfl (lv_at hl 0 rfl) ?_
          refine va_get (D := G) (ci := 4) (v := .int (e0_L5 5)) (C := RX4) (T := TX4) (N := 6) hx hb hts (fun w h => (List.mem_cons_of_mem _ (List.mem_append_right _ h))) hown hK.1 hP 0 rfl rfl 5 (by decide) (hts (.fieldLink RX4 70 "EchoSeats$Text" "number" "I") (List.mem_of_getElem? (i := 1) rfl)) (fun _ h9 => h9) rfl dX4_takeFigures_37 ?_
          refine lv_imul hx hb dX4_takeFigures_40 ?_
          refine lv_aload_n hx hb dX4_takeFigures_41 rfl (lv_at hl 0 rfl) ?_
          refine va_get (D := G) (ci := 4) (v := .ref A0_letters) (C := RX4) (T := TX4) (N := 6) hx hb hts (fun w h => (List.mem_cons_of_mem _ (List.mem_append_right _ h))) hown hK.1 hP 0 rfl rfl 0 (by decide) (hts (.fieldLink RX4 9 "EchoSeats$Text" "letters" "[I") (List.mem_of_getElem? (i := 4) rfl)) (fun _ h9 => h9) rfl dX4_takeFigures_42 ?_
          refine lv_aload_n hx hb dX4_takeFigures_45 rfl (lv_at hl 0 rfl) ?_
          refine va_get (D := G) (ci := 4) (v := .int (e0_L5 2)) (C := RX4) (T := TX4) (N := 6) hx hb hts (fun w h => (List.mem_cons_of_mem _ (List.mem_append_right _ h))) hown hK.1 hP 0 rfl rfl 2 (by decide) (hts (.fieldLink RX4 24 "EchoSeats$Text" "next" "I") (List.mem_of_getElem? (i := 2) rfl)) (fun _ h9 => h9) rfl dX4_takeFigures_46 ?_
          have g10 := gd_1 hres
          have hres := gd_2 hres
          refine x_iald hx hb hK hP 1 rfl (j := (Int32.toNatClampNeg (e0_L5 2))) rfl g10 dX4_takeFigures_49 ?_
          refine lv_iadd hx hb dX4_takeFigures_50 ?_
          refine lv_bipush (v := 48) hx hb dX4_takeFigures_51 (by decide) ?_
          refine lv_isub hx hb dX4_takeFigures_53 ?_
          refine va_mmin hx hb (hml.trans hl.1.symm) hown (hts (.methodLink RX4 114 Lib.Math.min.name) (List.mem_of_getElem? (i := 5) rfl)) (hts (.static Lib.Math.min.name) (List.mem_of_getElem? (i := 6) rfl)) (hts (.initialized "java/lang/Math") (List.mem_of_getElem? (i := 7) rfl)) (hts (.code Lib.Math.min.name Lib.Math.min.code 2 (some .int)) (List.mem_of_getElem? (i := 8) rfl)) (Nat.le_of_ble_eq_true rfl) (Nat.le_of_ble_eq_true rfl) (Nat.zero_le _) (Nat.zero_le _) dX4_takeFigures_54 ?_
          refine va_put (D := G) (ci := 4) (v := .int (if (((10 * (e0_L5 5)) + (c0_letters (Int32.toNatClampNeg (e0_L5 2)))) - 48) < 100 then (((10 * (e0_L5 5)) + (c0_letters (Int32.toNatClampNeg (e0_L5 2)))) - 48) else 100)) (ty := .int) (C := RX4) (T := TX4) (N := 6) hx hb hts (fun w h => (List.mem_cons_of_mem _ (List.mem_append_right _ h))) tyX4 tyX4_ok nmX4 hown hK.1 hP hD hS 0 rfl rfl 5 (by decide) (hts (.fieldLink RX4 70 "EchoSeats$Text" "number" "I") (List.mem_of_getElem? (i := 1) rfl)) (fun _ h9 => h9) rfl (tyX4_ok 5 (by decide)) rfl rfl (Nat.le_of_ble_eq_true rfl) dX4_takeFigures_57 (fun H locs hP hD hS => ?_)
          have hP : va_P G vwCl [o4 A0 (upd e0_L5 5 (if (((10 * (e0_L5 5)) + (c0_letters (Int32.toNatClampNeg (e0_L5 2)))) - 48) < 100 then (((10 * (e0_L5 5)) + (c0_letters (Int32.toNatClampNeg (e0_L5 2)))) - 48) else 100)) A0_letters, (A0_letters, .inl (cI, 100, .inl c0_letters))] H := hP
          have hD : va_D A [o4 A0 (upd e0_L5 5 (if (((10 * (e0_L5 5)) + (c0_letters (Int32.toNatClampNeg (e0_L5 2)))) - 48) < 100 then (((10 * (e0_L5 5)) + (c0_letters (Int32.toNatClampNeg (e0_L5 2)))) - 48) else 100)) A0_letters, (A0_letters, .inl (cI, 100, .inl c0_letters))] := hD
          refine lv_aload_n hx hb dX4_takeFigures_60 rfl (lv_at hl 0 rfl) ?_
          refine lv_dup hx hb dX4_takeFigures_61 rfl ?_
          refine va_get (D := G) (ci := 4) (v := .int (e0_L5 2)) (C := RX4) (T := TX4) (N := 6) hx hb hts (fun w h => (List.mem_cons_of_mem _ (List.mem_append_right _ h))) hown hK.1 hP 0 rfl rfl 2 (by decide) (hts (.fieldLink RX4 24 "EchoSeats$Text" "next" "I") (List.mem_of_getElem? (i := 2) rfl)) (fun _ h9 => h9) rfl dX4_takeFigures_62 ?_
          refine lv_iconst (v := 1) hx hb dX4_takeFigures_65 (by decide) ?_
          refine lv_iadd hx hb dX4_takeFigures_66 ?_
          refine va_put (D := G) (ci := 4) (v := .int ((e0_L5 2) + 1)) (ty := .int) (C := RX4) (T := TX4) (N := 6) hx hb hts (fun w h => (List.mem_cons_of_mem _ (List.mem_append_right _ h))) tyX4 tyX4_ok nmX4 hown hK.1 hP hD hS 0 rfl rfl 2 (by decide) (hts (.fieldLink RX4 24 "EchoSeats$Text" "next" "I") (List.mem_of_getElem? (i := 2) rfl)) (fun _ h9 => h9) rfl (tyX4_ok 2 (by decide)) rfl rfl (Nat.le_of_ble_eq_true rfl) dX4_takeFigures_67 (fun H locs hP hD hS => ?_)
          have hP : va_P G vwCl [o4 A0 (upd (upd e0_L5 5 (if (((10 * (e0_L5 5)) + (c0_letters (Int32.toNatClampNeg (e0_L5 2)))) - 48) < 100 then (((10 * (e0_L5 5)) + (c0_letters (Int32.toNatClampNeg (e0_L5 2)))) - 48) else 100)) 2 ((e0_L5 2) + 1)) A0_letters, (A0_letters, .inl (cI, 100, .inl c0_letters))] H := hP
          have hD : va_D A [o4 A0 (upd (upd e0_L5 5 (if (((10 * (e0_L5 5)) + (c0_letters (Int32.toNatClampNeg (e0_L5 2)))) - 48) < 100 then (((10 * (e0_L5 5)) + (c0_letters (Int32.toNatClampNeg (e0_L5 2)))) - 48) else 100)) 2 ((e0_L5 2) + 1)) A0_letters, (A0_letters, .inl (cI, 100, .inl c0_letters))] := hD
          refine lv_goto (tgt := 5) hx hb dX4_takeFigures_70 (by decide) ?_
          exact ih5 (upd (upd e0_L5 5 (if (((10 * (e0_L5 5)) + (c0_letters (Int32.toNatClampNeg (e0_L5 2)))) - 48) < 100 then (((10 * (e0_L5 5)) + (c0_letters (Int32.toNatClampNeg (e0_L5 2)))) - 48) else 100)) 2 ((e0_L5 2) + 1)) _ _ _ hres hP hD hS (lv_sub hl [0] rfl)
  exact Q5 FU (upd c0 5 0) _ _ _ hres hP hD hS (lv_sub hl [0] rfl)
theorem hsX4_takeFigures : yX4_takeFigures.cls = RX4 ∧ yX4_takeFigures.cls ≠ "java/lang/invoke/MethodHandle" ∧ yX4_takeFigures.cls ≠ "java/lang/invoke/VarHandle" ∧ (parseMethodDescriptor yX4_takeFigures.desc).map (fun d => d.parameters.length) = some 0 := by decide +kernel
set_option maxHeartbeats 4000000 in
set_option maxRecDepth 100000 in
theorem kX4_nextToken (l : Launch) (G : va_G) (cI cZ : ClassId) (tl : List (ClassId × FieldType)) (sz : Nat) (A : Nat → Prop) (A0 A0_letters : Nat) (c0 c0_letters : Nat → Int32) (res : (Nat → Int32)) (hAe : A = va_A [o4 A0 c0 A0_letters, (A0_letters, .inl (cI, 100, .inl c0_letters))] sz) (hres : fX4_nextToken c0 c0_letters = some res) : Met l yX4_nextToken wsX4_nextToken rX4_nextToken (va_Pc [.ref A0] (PRW G cI cZ tl [o4 A0 c0 A0_letters, (A0_letters, .inl (cI, 100, .inl c0_letters))] sz)) (Qvw G A [o4 A0 res A0_letters, (A0_letters, .inl (cI, 100, .inl c0_letters))]) 0 0 A := by
  refine Met.ofW (cc := cX4_nextToken) (maxL := 1) (ret := none) (by decide) rfl ?_
  intro p e s m args below meth c s₁ B hml hv
  obtain ⟨rfl, hsz, hP, hK, hD0⟩ := hv
  have hx := B.exec
  have hb := B.bytes
  have hr := B.returns
  have hts := atoms_spec (ws := wsX4_nextToken) B.pre
  have hown : s.vm.findClass RX4 = some m.cls := findClass_of_methodNamed B.named
  have hlocks := B.notSynchronized
  subst hsz
  have hD : va_D A [o4 A0 c0 A0_letters, (A0_letters, .inl (cI, 100, .inl c0_letters))] := by rw [hAe]; exact hD0.self
  have hA : ∀ q : Nat, s.heap.size ≤ q → A q := fun q h => by rw [hAe]; exact Or.inr h
  clear hAe hD0
  have hS : va_S A s.heap s.heap [] := va_S.rf
  have hl := lv_entry ([.ref A0] : List Value) (n := 1) (Nat.le_of_ble_eq_true rfl)
  rw [lg_entry_eq]
  generalize (lg_sl ([.ref A0] : List Value) ++ List.replicate (1 - (lg_sl ([.ref A0] : List Value)).length) Slot.unset).toArray = ls at hl ⊢
  have hl : lv_has ls 1 [(0, .ref A0)] := hl
  have J38 : ∀ (e0_j38 : (Nat → Int32)) (H : Heap) (locs : List Loc) (ls : Array Slot), fX4_nextToken_j38 c0_letters e0_j38 = some res → va_P G vwCl [o4 A0 e0_j38 A0_letters, (A0_letters, .inl (cI, 100, .inl c0_letters))] H → va_D A [o4 A0 e0_j38 A0_letters, (A0_letters, .inl (cI, 100, .inl c0_letters))] → va_S A s.heap H locs → lv_has ls 1 [(0, .ref A0)] → WRW p l e wsX4_nextToken rX4_nextToken s m ([.ref A0] : List Value).toArray below meth c H locs (Qvw G A [o4 A0 res A0_letters, (A0_letters, .inl (cI, 100, .inl c0_letters))]) A (F0 m 38 ls []) := by
    intro e0_j38 H locs ls hres hP hD hS hl
    refine lv_aload_n hx hb dX4_nextToken_38 rfl (lv_at hl 0 rfl) ?_
    refine lv_aload_n hx hb dX4_nextToken_39 rfl (lv_at hl 0 rfl) ?_
    refine va_get (D := G) (ci := 4) (v := .int (e0_j38 2)) (C := RX4) (T := TX4) (N := 6) hx hb hts (fun w h => (List.mem_cons_of_mem _ (List.mem_append_right _ h))) hown hK.1 hP 0 rfl rfl 2 (by decide) (hts (.fieldLink RX4 24 "EchoSeats$Text" "next" "I") (List.mem_of_getElem? (i := 1) rfl)) (fun _ h9 => h9) rfl dX4_nextToken_40 ?_
    refine va_put (D := G) (ci := 4) (v := .int (e0_j38 2)) (ty := .int) (C := RX4) (T := TX4) (N := 6) hx hb hts (fun w h => (List.mem_cons_of_mem _ (List.mem_append_right _ h))) tyX4 tyX4_ok nmX4 hown hK.1 hP hD hS 0 rfl rfl 4 (by decide) (hts (.fieldLink RX4 41 "EchoSeats$Text" "start" "I") (List.mem_of_getElem? (i := 4) rfl)) (fun _ h9 => h9) rfl (tyX4_ok 4 (by decide)) rfl rfl (Nat.le_of_ble_eq_true rfl) dX4_nextToken_43 (fun H locs hP hD hS => ?_)
    have hP : va_P G vwCl [o4 A0 (upd e0_j38 4 (e0_j38 2)) A0_letters, (A0_letters, .inl (cI, 100, .inl c0_letters))] H := hP
    have hD : va_D A [o4 A0 (upd e0_j38 4 (e0_j38 2)) A0_letters, (A0_letters, .inl (cI, 100, .inl c0_letters))] := hD
    refine lv_aload_n hx hb dX4_nextToken_46 rfl (lv_at hl 0 rfl) ?_
    refine va_get (D := G) (ci := 4) (v := .int (e0_j38 2)) (C := RX4) (T := TX4) (N := 6) hx hb hts (fun w h => (List.mem_cons_of_mem _ (List.mem_append_right _ h))) hown hK.1 hP 0 rfl rfl 2 (by decide) (hts (.fieldLink RX4 24 "EchoSeats$Text" "next" "I") (List.mem_of_getElem? (i := 1) rfl)) (fun _ h9 => h9) rfl dX4_nextToken_47 ?_
    refine lv_aload_n hx hb dX4_nextToken_50 rfl (lv_at hl 0 rfl) ?_
    refine va_get (D := G) (ci := 4) (v := .int (e0_j38 1)) (C := RX4) (T := TX4) (N := 6) hx hb hts (fun w h => (List.mem_cons_of_mem _ (List.mem_append_right _ h))) hown hK.1 hP 0 rfl rfl 1 (by decide) (hts (.fieldLink RX4 15 "EchoSeats$Text" "size" "I") (List.mem_of_getElem? (i := 2) rfl)) (fun _ h9 => h9) rfl dX4_nextToken_51 ?_
    refine lv_icmp_lt (tgt := 65) hx hb dX4_nextToken_54 (by decide) (fun h1 => ?_) (fun h1 => ?_)
    · have hres := ite_t hres h1
      refine lv_aload_n hx hb dX4_nextToken_65 rfl (lv_at hl 0 rfl) ?_
      refine va_get (D := G) (ci := 4) (v := .ref A0_letters) (C := RX4) (T := TX4) (N := 6) hx hb hts (fun w h => (List.mem_cons_of_mem _ (List.mem_append_right _ h))) hown hK.1 hP 0 rfl rfl 0 (by decide) (hts (.fieldLink RX4 9 "EchoSeats$Text" "letters" "[I") (List.mem_of_getElem? (i := 3) rfl)) (fun _ h9 => h9) rfl dX4_nextToken_66 ?_
      refine lv_aload_n hx hb dX4_nextToken_69 rfl (lv_at hl 0 rfl) ?_
      refine va_get (D := G) (ci := 4) (v := .int (e0_j38 2)) (C := RX4) (T := TX4) (N := 6) hx hb hts (fun w h => (List.mem_cons_of_mem _ (List.mem_append_right _ h))) hown hK.1 hP 0 rfl rfl 2 (by decide) (hts (.fieldLink RX4 24 "EchoSeats$Text" "next" "I") (List.mem_of_getElem? (i := 1) rfl)) (fun _ h9 => h9) rfl dX4_nextToken_70 ?_
      have g2 := gd_1 hres
      have hres := gd_2 hres
      refine x_iald hx hb hK hP 1 rfl (j := (Int32.toNatClampNeg (e0_j38 2))) rfl g2 dX4_nextToken_73 ?_
      obtain ⟨r3, hr3, hres⟩ := bi_1 hres
      refine x_cp (va_runS (As := [.int (c0_letters (Int32.toNatClampNeg (e0_j38 2)))]) (rest := []) ⟨hx, hb, hml, hown, hts⟩ (kX4_isFigure l G cI cZ tl (c0_letters (Int32.toNatClampNeg (e0_j38 2))) r3 hr3) (va_cwS 1 hts gX4_nextToken_X4_isFigure rfl rfl rfl hsX4_isFigure ⟨Nat.le_of_ble_eq_true rfl, Nat.le_of_ble_eq_true rfl⟩) ⟨PRO_blind, PRO_at va_P0 hK⟩ rfl rfl hl.1 rfl (lv_room (Nat.le_of_ble_eq_true rfl)) dX4_nextToken_74 ⟨Nat.zero_le _, Nat.zero_le _⟩) ?_
      refine lv_if_eq (tgt := 87) hx hb dX4_nextToken_77 (by decide) (fun h4 => ?_) (fun h4 => ?_)
      · have hres := ite_t hres h4
        refine lv_aload_n hx hb dX4_nextToken_87 rfl (lv_at hl 0 rfl) ?_
        refine lv_aload_n hx hb dX4_nextToken_88 rfl (lv_at hl 0 rfl) ?_
        refine va_get (D := G) (ci := 4) (v := .ref A0_letters) (C := RX4) (T := TX4) (N := 6) hx hb hts (fun w h => (List.mem_cons_of_mem _ (List.mem_append_right _ h))) hown hK.1 hP 0 rfl rfl 0 (by decide) (hts (.fieldLink RX4 9 "EchoSeats$Text" "letters" "[I") (List.mem_of_getElem? (i := 3) rfl)) (fun _ h9 => h9) rfl dX4_nextToken_89 ?_
        refine lv_aload_n hx hb dX4_nextToken_92 rfl (lv_at hl 0 rfl) ?_
        refine va_get (D := G) (ci := 4) (v := .int (e0_j38 2)) (C := RX4) (T := TX4) (N := 6) hx hb hts (fun w h => (List.mem_cons_of_mem _ (List.mem_append_right _ h))) hown hK.1 hP 0 rfl rfl 2 (by decide) (hts (.fieldLink RX4 24 "EchoSeats$Text" "next" "I") (List.mem_of_getElem? (i := 1) rfl)) (fun _ h9 => h9) rfl dX4_nextToken_93 ?_
        have g5 := gd_1 hres
        have hres := gd_2 hres
        refine x_iald hx hb hK hP 1 rfl (j := (Int32.toNatClampNeg (e0_j38 2))) rfl g5 dX4_nextToken_96 ?_
        refine va_put (D := G) (ci := 4) (v := .int (c0_letters (Int32.toNatClampNeg (e0_j38 2)))) (ty := .int) (C := RX4) (T := TX4) (N := 6) hx hb hts (fun w h => (List.mem_cons_of_mem _ (List.mem_append_right _ h))) tyX4 tyX4_ok nmX4 hown hK.1 hP hD hS 0 rfl rfl 3 (by decide) (hts (.fieldLink RX4 30 "EchoSeats$Text" "token" "I") (List.mem_of_getElem? (i := 5) rfl)) (fun _ h9 => h9) rfl (tyX4_ok 3 (by decide)) rfl rfl (Nat.le_of_ble_eq_true rfl) dX4_nextToken_97 (fun H locs hP hD hS => ?_)
        have hP : va_P G vwCl [o4 A0 (upd (upd e0_j38 4 (e0_j38 2)) 3 (c0_letters (Int32.toNatClampNeg (e0_j38 2)))) A0_letters, (A0_letters, .inl (cI, 100, .inl c0_letters))] H := hP
        have hD : va_D A [o4 A0 (upd (upd e0_j38 4 (e0_j38 2)) 3 (c0_letters (Int32.toNatClampNeg (e0_j38 2)))) A0_letters, (A0_letters, .inl (cI, 100, .inl c0_letters))] := hD
        refine lv_aload_n hx hb dX4_nextToken_100 rfl (lv_at hl 0 rfl) ?_
        refine lv_dup hx hb dX4_nextToken_101 rfl ?_
        refine va_get (D := G) (ci := 4) (v := .int (e0_j38 2)) (C := RX4) (T := TX4) (N := 6) hx hb hts (fun w h => (List.mem_cons_of_mem _ (List.mem_append_right _ h))) hown hK.1 hP 0 rfl rfl 2 (by decide) (hts (.fieldLink RX4 24 "EchoSeats$Text" "next" "I") (List.mem_of_getElem? (i := 1) rfl)) (fun _ h9 => h9) rfl dX4_nextToken_102 ?_
        refine lv_iconst (v := 1) hx hb dX4_nextToken_105 (by decide) ?_
        refine lv_iadd hx hb dX4_nextToken_106 ?_
        refine va_put (D := G) (ci := 4) (v := .int ((e0_j38 2) + 1)) (ty := .int) (C := RX4) (T := TX4) (N := 6) hx hb hts (fun w h => (List.mem_cons_of_mem _ (List.mem_append_right _ h))) tyX4 tyX4_ok nmX4 hown hK.1 hP hD hS 0 rfl rfl 2 (by decide) (hts (.fieldLink RX4 24 "EchoSeats$Text" "next" "I") (List.mem_of_getElem? (i := 1) rfl)) (fun _ h9 => h9) rfl (tyX4_ok 2 (by decide)) rfl rfl (Nat.le_of_ble_eq_true rfl) dX4_nextToken_107 (fun H locs hP hD hS => ?_)
        have hP : va_P G vwCl [o4 A0 (upd (upd (upd e0_j38 4 (e0_j38 2)) 3 (c0_letters (Int32.toNatClampNeg (e0_j38 2)))) 2 ((e0_j38 2) + 1)) A0_letters, (A0_letters, .inl (cI, 100, .inl c0_letters))] H := hP
        have hD : va_D A [o4 A0 (upd (upd (upd e0_j38 4 (e0_j38 2)) 3 (c0_letters (Int32.toNatClampNeg (e0_j38 2)))) 2 ((e0_j38 2) + 1)) A0_letters, (A0_letters, .inl (cI, 100, .inl c0_letters))] := hD
        obtain rfl := Option.some.inj hres
        exact W.vret hx hb hr (fun t ht hW => ⟨⟨(), rfl, trivial, by rw [ht]; exact hP, hD⟩, hS.F ht⟩) hS.2.2 dX4_nextToken_110
      · have hres := ite_f hres h4
        refine lv_aload_n hx hb dX4_nextToken_80 rfl (lv_at hl 0 rfl) ?_
        obtain ⟨r6, hr6, hres⟩ := bi_1 hres
        refine x_cv (wr := []) (w2 := [o4 A0 r6 A0_letters, (A0_letters, .inl (cI, 100, .inl c0_letters))]) hP hD hS hA (va_runV (As := []) (rest := []) ⟨hx, hb, hml, hown, hts⟩ (kX4_takeFigures l G cI cZ tl H.size _ A0 A0_letters (upd e0_j38 4 (e0_j38 2)) c0_letters r6 rfl hr6) (cwV 0 hts gX4_nextToken_X4_takeFigures rfl rfl rfl hsX4_takeFigures ⟨Nat.le_of_ble_eq_true rfl, Nat.le_of_ble_eq_true rfl⟩) ⟨PRW_blind, va_recv hK.1 hP (ci := 4) (q0 := 0) rfl rfl, PRW_at (hP.sub (ws' := [o4 A0 (upd e0_j38 4 (e0_j38 2)) A0_letters, (A0_letters, .inl (cI, 100, .inl c0_letters))]) [0, 1] rfl) (hD.sub (ws' := [o4 A0 (upd e0_j38 4 (e0_j38 2)) A0_letters, (A0_letters, .inl (cI, 100, .inl c0_letters))]) [0, 1] (by decide) rfl) hK⟩ rfl rfl hl.1 rfl (lv_room (Nat.le_of_ble_eq_true rfl)) dX4_nextToken_81 ⟨Nat.zero_le _, Nat.zero_le _⟩) [0, 1] [] [0, 1] rfl rfl (by decide) (by decide) rfl rfl (by decide) (fun H locs hP hD hS => ?_)
        refine lv_goto (tgt := 110) hx hb dX4_nextToken_84 (by decide) ?_
        obtain rfl := Option.some.inj hres
        exact W.vret hx hb hr (fun t ht hW => ⟨⟨(), rfl, trivial, by rw [ht]; exact hP, hD⟩, hS.F ht⟩) hS.2.2 dX4_nextToken_110
    · have hres := ite_f hres h1
      refine lv_aload_n hx hb dX4_nextToken_57 rfl (lv_at hl 0 rfl) ?_
      refine lv_iconst (v := (-1)) hx hb dX4_nextToken_58 (by decide) ?_
      refine va_put (D := G) (ci := 4) (v := .int (-1)) (ty := .int) (C := RX4) (T := TX4) (N := 6) hx hb hts (fun w h => (List.mem_cons_of_mem _ (List.mem_append_right _ h))) tyX4 tyX4_ok nmX4 hown hK.1 hP hD hS 0 rfl rfl 3 (by decide) (hts (.fieldLink RX4 30 "EchoSeats$Text" "token" "I") (List.mem_of_getElem? (i := 5) rfl)) (fun _ h9 => h9) rfl (tyX4_ok 3 (by decide)) rfl rfl (Nat.le_of_ble_eq_true rfl) dX4_nextToken_59 (fun H locs hP hD hS => ?_)
      have hP : va_P G vwCl [o4 A0 (upd (upd e0_j38 4 (e0_j38 2)) 3 (-1)) A0_letters, (A0_letters, .inl (cI, 100, .inl c0_letters))] H := hP
      have hD : va_D A [o4 A0 (upd (upd e0_j38 4 (e0_j38 2)) 3 (-1)) A0_letters, (A0_letters, .inl (cI, 100, .inl c0_letters))] := hD
      refine lv_goto (tgt := 110) hx hb dX4_nextToken_62 (by decide) ?_
      obtain rfl := Option.some.inj hres
      exact W.vret hx hb hr (fun t ht hW => ⟨⟨(), rfl, trivial, by rw [ht]; exact hP, hD⟩, hS.F ht⟩) hS.2.2 dX4_nextToken_110
  have Q0 : ∀ (n0 : Nat) (e0_L0 : (Nat → Int32)) (H : Heap) (locs : List Loc) (ls : Array Slot), LPX (fX4_nextToken_L0 c0_letters) n0 e0_L0 = some res → va_P G vwCl [o4 A0 e0_L0 A0_letters, (A0_letters, .inl (cI, 100, .inl c0_letters))] H → va_D A [o4 A0 e0_L0 A0_letters, (A0_letters, .inl (cI, 100, .inl c0_letters))] → va_S A s.heap H locs → lv_has ls 1 [(0, .ref A0)] → WRW p l e wsX4_nextToken rX4_nextToken s m ([.ref A0] : List Value).toArray below meth c H locs (Qvw G A [o4 A0 res A0_letters, (A0_letters, .inl (cI, 100, .inl c0_letters))]) A (F0 m 0 ls []) := by
    intro n0
    induction n0 with
    | zero =>
      intro e0_L0 H locs ls hres
      exact absurd (LPX_0.symm.trans hres) (fun h => by cases h)
    | succ n0 ih0 =>
      intro e0_L0 H locs ls hres hP hD hS hl
      have hres := LPX_s.symm.trans hres
      refine lv_aload_n hx hb dX4_nextToken_0 rfl (lv_at hl 0 rfl) ?_
      refine va_get (D := G) (ci := 4) (v := .int (e0_L0 2)) (C := RX4) (T := TX4) (N := 6) hx hb hts (fun w h => (List.mem_cons_of_mem _ (List.mem_append_right _ h))) hown hK.1 hP 0 rfl rfl 2 (by decide) (hts (.fieldLink RX4 24 "EchoSeats$Text" "next" "I") (List.mem_of_getElem? (i := 1) rfl)) (fun _ h9 => h9) rfl dX4_nextToken_1 ?_
      refine lv_aload_n hx hb dX4_nextToken_4 rfl (lv_at hl 0 rfl) ?_
      refine va_get (D := G) (ci := 4) (v := .int (e0_L0 1)) (C := RX4) (T := TX4) (N := 6) hx hb hts (fun w h => (List.mem_cons_of_mem _ (List.mem_append_right _ h))) hown hK.1 hP 0 rfl rfl 1 (by decide) (hts (.fieldLink RX4 15 "EchoSeats$Text" "size" "I") (List.mem_of_getElem? (i := 2) rfl)) (fun _ h9 => h9) rfl dX4_nextToken_5 ?_
      refine lv_icmp_ge (tgt := 38) hx hb dX4_nextToken_8 (by decide) (fun h7 => ?_) (fun h7 => ?_)
      · have hres := ite_t hres h7
        exact J38 e0_L0 _ _ _ hres hP hD hS (lv_sub hl [0] rfl)
      · have hres := ite_f hres h7
        refine lv_aload_n hx hb dX4_nextToken_11 rfl (lv_at hl 0 rfl) ?_
        refine va_get (D := G) (ci := 4) (v := .ref A0_letters) (C := RX4) (T := TX4) (N := 6) hx hb hts (fun w h => (List.mem_cons_of_mem _ (List.mem_append_right _ h))) hown hK.1 hP 0 rfl rfl 0 (by decide) (hts (.fieldLink RX4 9 "EchoSeats$Text" "letters" "[I") (List.mem_of_getElem? (i := 3) rfl)) (fun _ h9 => h9) rfl dX4_nextToken_12 ?_
        refine lv_aload_n hx hb dX4_nextToken_15 rfl (lv_at hl 0 rfl) ?_
        refine va_get (D := G) (ci := 4) (v := .int (e0_L0 2)) (C := RX4) (T := TX4) (N := 6) hx hb hts (fun w h => (List.mem_cons_of_mem _ (List.mem_append_right _ h))) hown hK.1 hP 0 rfl rfl 2 (by decide) (hts (.fieldLink RX4 24 "EchoSeats$Text" "next" "I") (List.mem_of_getElem? (i := 1) rfl)) (fun _ h9 => h9) rfl dX4_nextToken_16 ?_
        have g8 := gd_1 hres
        have hres := gd_2 hres
        refine x_iald hx hb hK hP 1 rfl (j := (Int32.toNatClampNeg (e0_L0 2))) rfl g8 dX4_nextToken_19 ?_
        refine lv_bipush (v := 32) hx hb dX4_nextToken_20 (by decide) ?_
        refine lv_icmp_ne (tgt := 38) hx hb dX4_nextToken_22 (by decide) (fun h9 => ?_) (fun h9 => ?_)
        · have hres := ite_f hres h9
          exact J38 e0_L0 _ _ _ hres hP hD hS (lv_sub hl [0] rfl)
        · have hres := ite_t hres h9
          refine lv_aload_n hx hb dX4_nextToken_25 rfl (lv_at hl 0 rfl) ?_
          refine lv_dup hx hb dX4_nextToken_26 rfl ?_
          refine va_get (D := G) (ci := 4) (v := .int (e0_L0 2)) (C := RX4) (T := TX4) (N := 6) hx hb hts (fun w h => (List.mem_cons_of_mem _ (List.mem_append_right _ h))) hown hK.1 hP 0 rfl rfl 2 (by decide) (hts (.fieldLink RX4 24 "EchoSeats$Text" "next" "I") (List.mem_of_getElem? (i := 1) rfl)) (fun _ h9 => h9) rfl dX4_nextToken_27 ?_
          refine lv_iconst (v := 1) hx hb dX4_nextToken_30 (by decide) ?_
          refine lv_iadd hx hb dX4_nextToken_31 ?_
          refine va_put (D := G) (ci := 4) (v := .int ((e0_L0 2) + 1)) (ty := .int) (C := RX4) (T := TX4) (N := 6) hx hb hts (fun w h => (List.mem_cons_of_mem _ (List.mem_append_right _ h))) tyX4 tyX4_ok nmX4 hown hK.1 hP hD hS 0 rfl rfl 2 (by decide) (hts (.fieldLink RX4 24 "EchoSeats$Text" "next" "I") (List.mem_of_getElem? (i := 1) rfl)) (fun _ h9 => h9) rfl (tyX4_ok 2 (by decide)) rfl rfl (Nat.le_of_ble_eq_true rfl) dX4_nextToken_32 (fun H locs hP hD hS => ?_)
          have hP : va_P G vwCl [o4 A0 (upd e0_L0 2 ((e0_L0 2) + 1)) A0_letters, (A0_letters, .inl (cI, 100, .inl c0_letters))] H := hP
          have hD : va_D A [o4 A0 (upd e0_L0 2 ((e0_L0 2) + 1)) A0_letters, (A0_letters, .inl (cI, 100, .inl c0_letters))] := hD
          refine lv_goto (tgt := 0) hx hb dX4_nextToken_35 (by decide) ?_
          exact ih0 (upd e0_L0 2 ((e0_L0 2) + 1)) _ _ _ hres hP hD hS (lv_sub hl [0] rfl)
  exact Q0 FU c0 _ _ _ hres hP hD hS (lv_sub hl [0] rfl)
theorem hsX4_nextToken : yX4_nextToken.cls = RX4 ∧ yX4_nextToken.cls ≠ "java/lang/invoke/MethodHandle" ∧ yX4_nextToken.cls ≠ "java/lang/invoke/VarHandle" ∧ (parseMethodDescriptor yX4_nextToken.desc).map (fun d => d.parameters.length) = some 0 := by decide +kernel
set_option maxHeartbeats 4000000 in
set_option maxRecDepth 100000 in
theorem kX5_isWithin (l : Launch) (G : va_G) (cI cZ : ClassId) (tl : List (ClassId × FieldType)) (x0 x1 x2 : Int32) (res : Int32) (hres : fX5_isWithin x0 x1 x2 = some res) : Met l yX5_isWithin wsX5_isWithin rX5_isWithin (va_Pc [.int x0, .int x1, .int x2] (PRO G cI cZ tl [])) (Sp res) 0 0 (fun _ => False) := by
  refine Met.ofW (cc := cX5_isWithin) (maxL := 3) (ret := (some .boolean)) (by decide) rfl ?_
  intro p e s m args below meth c s₁ B hml hv
  obtain ⟨rfl, hP, hK⟩ := hv
  have hx := B.exec
  have hb := B.bytes
  have hr := B.returns
  have hts := atoms_spec (ws := wsX5_isWithin) B.pre
  have hown : s.vm.findClass RX5 = some m.cls := findClass_of_methodNamed B.named
  have hlocks := B.notSynchronized
  have hl := lv_entry ([.int x0, .int x1, .int x2] : List Value) (n := 3) (Nat.le_of_ble_eq_true rfl)
  rw [lg_entry_eq]
  generalize (lg_sl ([.int x0, .int x1, .int x2] : List Value) ++ List.replicate (3 - (lg_sl ([.int x0, .int x1, .int x2] : List Value)).length) Slot.unset).toArray = ls at hl ⊢
  have hl : lv_has ls 3 [(0, .int x0), (1, .int x1), (2, .int x2)] := hl
  refine lv_iload_n hx hb dX5_isWithin_0 rfl (lv_at hl 0 rfl) ?_
  refine lv_iload_n hx hb dX5_isWithin_1 rfl (lv_at hl 1 rfl) ?_
  refine lv_icmp_lt (tgt := 14) hx hb dX5_isWithin_2 (by decide) (fun h1 => ?_) (fun h1 => ?_)
  · have hres := ite_t hres h1
    refine lv_iconst (v := 0) hx hb dX5_isWithin_14 (by decide) ?_
    obtain rfl := Option.some.inj hres
    exact W.zret hx hb hr (by decide) (fun t ht hW => ⟨rfl, ht⟩) (fun q h => absurd h List.not_mem_nil) dX5_isWithin_15
  · have hres := ite_f hres h1
    refine lv_iload_n hx hb dX5_isWithin_5 rfl (lv_at hl 0 rfl) ?_
    refine lv_iload_n hx hb dX5_isWithin_6 rfl (lv_at hl 2 rfl) ?_
    refine lv_icmp_gt (tgt := 14) hx hb dX5_isWithin_7 (by decide) (fun h2 => ?_) (fun h2 => ?_)
    · have hres := ite_t hres h2
      refine lv_iconst (v := 0) hx hb dX5_isWithin_14 (by decide) ?_
      obtain rfl := Option.some.inj hres
      exact W.zret hx hb hr (by decide) (fun t ht hW => ⟨rfl, ht⟩) (fun q h => absurd h List.not_mem_nil) dX5_isWithin_15
    · have hres := ite_f hres h2
      refine lv_iconst (v := 1) hx hb dX5_isWithin_10 (by decide) ?_
      refine lv_goto (tgt := 15) hx hb dX5_isWithin_11 (by decide) ?_
      obtain rfl := Option.some.inj hres
      exact W.zret hx hb hr (by decide) (fun t ht hW => ⟨rfl, ht⟩) (fun q h => absurd h List.not_mem_nil) dX5_isWithin_15
theorem hsX5_isWithin : yX5_isWithin.cls ≠ "java/lang/invoke/MethodHandle" ∧ yX5_isWithin.cls ≠ "java/lang/invoke/VarHandle" ∧ (parseMethodDescriptor yX5_isWithin.desc).map (fun d => d.parameters.length) = some 3 := by decide +kernel
set_option maxHeartbeats 4000000 in
set_option maxRecDepth 100000 in
theorem kX4_readNumber (l : Launch) (G : va_G) (cI cZ : ClassId) (tl : List (ClassId × FieldType)) (sz : Nat) (A : Nat → Prop) (A0 A0_letters : Nat) (c0 c0_letters : Nat → Int32) (x1 x2 : Int32) (res : Int32 × (Nat → Int32)) (hAe : A = va_A [o4 A0 c0 A0_letters, (A0_letters, .inl (cI, 100, .inl c0_letters))] sz) (hres : fX4_readNumber c0 c0_letters x1 x2 = some res) : Met l yX4_readNumber wsX4_readNumber rX4_readNumber (va_Pc [.ref A0, .int x1, .int x2] (PRW G cI cZ tl [o4 A0 c0 A0_letters, (A0_letters, .inl (cI, 100, .inl c0_letters))] sz)) (Qiw res.1 G A [o4 A0 res.2 A0_letters, (A0_letters, .inl (cI, 100, .inl c0_letters))]) 0 0 A := by
  refine Met.ofW (cc := cX4_readNumber) (maxL := 3) (ret := (some .boolean)) (by decide) rfl ?_
  intro p e s m args below meth c s₁ B hml hv
  obtain ⟨rfl, hsz, hP, hK, hD0⟩ := hv
  have hx := B.exec
  have hb := B.bytes
  have hr := B.returns
  have hts := atoms_spec (ws := wsX4_readNumber) B.pre
  have hown : s.vm.findClass RX4 = some m.cls := findClass_of_methodNamed B.named
  have hlocks := B.notSynchronized
  subst hsz
  have hD : va_D A [o4 A0 c0 A0_letters, (A0_letters, .inl (cI, 100, .inl c0_letters))] := by rw [hAe]; exact hD0.self
  have hA : ∀ q : Nat, s.heap.size ≤ q → A q := fun q h => by rw [hAe]; exact Or.inr h
  clear hAe hD0
  have hS : va_S A s.heap s.heap [] := va_S.rf
  have hl := lv_entry ([.ref A0, .int x1, .int x2] : List Value) (n := 3) (Nat.le_of_ble_eq_true rfl)
  rw [lg_entry_eq]
  generalize (lg_sl ([.ref A0, .int x1, .int x2] : List Value) ++ List.replicate (3 - (lg_sl ([.ref A0, .int x1, .int x2] : List Value)).length) Slot.unset).toArray = ls at hl ⊢
  have hl : lv_has ls 3 [(0, .ref A0), (1, .int x1), (2, .int x2)] := hl
  refine lv_aload_n hx hb dX4_readNumber_0 rfl (lv_at hl 0 rfl) ?_
  obtain ⟨r1, hr1, hres⟩ := bi_1 hres
  refine x_cv (wr := []) (w2 := [o4 A0 r1 A0_letters, (A0_letters, .inl (cI, 100, .inl c0_letters))]) hP hD hS hA (va_runV (As := []) (rest := []) ⟨hx, hb, hml, hown, hts⟩ (kX4_nextToken l G cI cZ tl s.heap.size _ A0 A0_letters c0 c0_letters r1 rfl hr1) (cwV 0 hts gX4_readNumber_X4_nextToken rfl rfl rfl hsX4_nextToken ⟨Nat.le_of_ble_eq_true rfl, Nat.le_of_ble_eq_true rfl⟩) ⟨PRW_blind, va_recv hK.1 hP (ci := 4) (q0 := 0) rfl rfl, PRW_at (hP.sub (ws' := [o4 A0 c0 A0_letters, (A0_letters, .inl (cI, 100, .inl c0_letters))]) [0, 1] rfl) (hD.sub (ws' := [o4 A0 c0 A0_letters, (A0_letters, .inl (cI, 100, .inl c0_letters))]) [0, 1] (by decide) rfl) hK⟩ rfl rfl hl.1 rfl (lv_room (Nat.le_of_ble_eq_true rfl)) dX4_readNumber_1 ⟨Nat.zero_le _, Nat.zero_le _⟩) [0, 1] [] [0, 1] rfl rfl (by decide) (by decide) rfl rfl (by decide) (fun H locs hP hD hS => ?_)
  refine lv_aload_n hx hb dX4_readNumber_4 rfl (lv_at hl 0 rfl) ?_
  refine va_get (D := G) (ci := 4) (v := .int (r1 3)) (C := RX4) (T := TX4) (N := 6) hx hb hts (fun w h => (List.mem_cons_of_mem _ (List.mem_append_right _ h))) hown hK.1 hP 0 rfl rfl 3 (by decide) (hts (.fieldLink RX4 30 "EchoSeats$Text" "token" "I") (List.mem_of_getElem? (i := 1) rfl)) (fun _ h9 => h9) rfl dX4_readNumber_5 ?_
  refine lv_bipush (v := (-2)) hx hb dX4_readNumber_8 (by decide) ?_
  refine lv_icmp_ne (tgt := 29) hx hb dX4_readNumber_10 (by decide) (fun h2 => ?_) (fun h2 => ?_)
  · have hres := ite_f hres h2
    refine lv_iconst (v := 0) hx hb dX4_readNumber_29 (by decide) ?_
    obtain rfl := Option.some.inj hres
    exact W.zret hx hb hr (by decide) (fun t ht hW => ⟨⟨_, (), rfl, rfl, by rw [ht]; exact hP, hD⟩, hS.F ht⟩) hS.2.2 dX4_readNumber_30
  · have hres := ite_t hres h2
    refine lv_aload_n hx hb dX4_readNumber_13 rfl (lv_at hl 0 rfl) ?_
    refine va_get (D := G) (ci := 4) (v := .int (r1 5)) (C := RX4) (T := TX4) (N := 6) hx hb hts (fun w h => (List.mem_cons_of_mem _ (List.mem_append_right _ h))) hown hK.1 hP 0 rfl rfl 5 (by decide) (hts (.fieldLink RX4 70 "EchoSeats$Text" "number" "I") (List.mem_of_getElem? (i := 2) rfl)) (fun _ h9 => h9) rfl dX4_readNumber_14 ?_
    refine lv_iload_n hx hb dX4_readNumber_17 rfl (lv_at hl 1 rfl) ?_
    refine lv_iload_n hx hb dX4_readNumber_18 rfl (lv_at hl 2 rfl) ?_
    obtain ⟨r3, hr3, hres⟩ := bi_1 hres
    refine x_cp (va_runSN (As := [.int (r1 5), .int x1, .int x2]) (rest := []) ⟨hx, hb, hml, hown, hts⟩ (kX5_isWithin l G cI cZ tl (r1 5) x1 x2 r3 hr3) ⟨va_cnB 3 hts gX4_readNumber_X5_isWithin_n103 rfl rfl rfl hK.2.1 (hts (.initialized RX5) (List.mem_of_getElem? (i := 24) rfl)) hsX5_isWithin ⟨Nat.le_of_ble_eq_true rfl, Nat.le_of_ble_eq_true rfl⟩, (hts (.static yX5_isWithin) (List.mem_of_getElem? (i := 23) rfl)), trivial⟩ ⟨PRO_blind, PRO_at va_P0 hK⟩ rfl rfl hl.1 rfl (lv_room (Nat.le_of_ble_eq_true rfl)) dX4_readNumber_19 ⟨Nat.zero_le _, Nat.zero_le _⟩) ?_
    refine lv_if_eq (tgt := 29) hx hb dX4_readNumber_22 (by decide) (fun h4 => ?_) (fun h4 => ?_)
    · have hres := ite_t hres h4
      refine lv_iconst (v := 0) hx hb dX4_readNumber_29 (by decide) ?_
      obtain rfl := Option.some.inj hres
      exact W.zret hx hb hr (by decide) (fun t ht hW => ⟨⟨_, (), rfl, rfl, by rw [ht]; exact hP, hD⟩, hS.F ht⟩) hS.2.2 dX4_readNumber_30
    · have hres := ite_f hres h4
      refine lv_iconst (v := 1) hx hb dX4_readNumber_25 (by decide) ?_
      refine lv_goto (tgt := 30) hx hb dX4_readNumber_26 (by decide) ?_
      obtain rfl := Option.some.inj hres
      exact W.zret hx hb hr (by decide) (fun t ht hW => ⟨⟨_, (), rfl, rfl, by rw [ht]; exact hP, hD⟩, hS.F ht⟩) hS.2.2 dX4_readNumber_30
theorem hsX4_readNumber : yX4_readNumber.cls = RX4 ∧ yX4_readNumber.cls ≠ "java/lang/invoke/MethodHandle" ∧ yX4_readNumber.cls ≠ "java/lang/invoke/VarHandle" ∧ (parseMethodDescriptor yX4_readNumber.desc).map (fun d => d.parameters.length) = some 2 := by decide +kernel
set_option maxHeartbeats 4000000 in
set_option maxRecDepth 100000 in
theorem kX4_readCurtain (l : Launch) (G : va_G) (cI cZ : ClassId) (tl : List (ClassId × FieldType)) (sz : Nat) (A : Nat → Prop) (A1 A1_swallows A1_seatX A1_seatY A1_curtainX A1_curtainFrom A1_curtainTo A0 A0_letters : Nat) (c1 c0 c0_letters c1_curtainX c1_curtainFrom c1_curtainTo : Nat → Int32) (res : Int32 × (Nat → Int32) × (Nat → Int32) × (Nat → Int32) × (Nat → Int32) × (Nat → Int32)) (hAe : A = va_A [o3 A1 c1 A1_swallows A1_seatX A1_seatY A1_curtainX A1_curtainFrom A1_curtainTo, o4 A0 c0 A0_letters, (A0_letters, .inl (cI, 100, .inl c0_letters)), (A1_curtainX, .inl (cI, 3, .inl c1_curtainX)), (A1_curtainFrom, .inl (cI, 3, .inl c1_curtainFrom)), (A1_curtainTo, .inl (cI, 3, .inl c1_curtainTo))] sz) (hres : fX4_readCurtain c1 c0 c0_letters c1_curtainX c1_curtainFrom c1_curtainTo = some res) : Met l yX4_readCurtain wsX4_readCurtain rX4_readCurtain (va_Pc [.ref A0, .ref A1] (PRW G cI cZ tl [o3 A1 c1 A1_swallows A1_seatX A1_seatY A1_curtainX A1_curtainFrom A1_curtainTo, o4 A0 c0 A0_letters, (A0_letters, .inl (cI, 100, .inl c0_letters)), (A1_curtainX, .inl (cI, 3, .inl c1_curtainX)), (A1_curtainFrom, .inl (cI, 3, .inl c1_curtainFrom)), (A1_curtainTo, .inl (cI, 3, .inl c1_curtainTo))] sz)) (Qiw res.1 G A [o3 A1 res.2.1 A1_swallows A1_seatX A1_seatY A1_curtainX A1_curtainFrom A1_curtainTo, o4 A0 res.2.2.1 A0_letters, (A0_letters, .inl (cI, 100, .inl c0_letters)), (A1_curtainX, .inl (cI, 3, .inl res.2.2.2.1)), (A1_curtainFrom, .inl (cI, 3, .inl res.2.2.2.2.1)), (A1_curtainTo, .inl (cI, 3, .inl res.2.2.2.2.2))]) 0 0 A := by
  refine Met.ofW (cc := cX4_readCurtain) (maxL := 3) (ret := (some .boolean)) (by decide) rfl ?_
  intro p e s m args below meth c s₁ B hml hv
  obtain ⟨rfl, hsz, hP, hK, hD0⟩ := hv
  have hx := B.exec
  have hb := B.bytes
  have hr := B.returns
  have hts := atoms_spec (ws := wsX4_readCurtain) B.pre
  have hown : s.vm.findClass RX4 = some m.cls := findClass_of_methodNamed B.named
  have hlocks := B.notSynchronized
  subst hsz
  have hD : va_D A [o3 A1 c1 A1_swallows A1_seatX A1_seatY A1_curtainX A1_curtainFrom A1_curtainTo, o4 A0 c0 A0_letters, (A0_letters, .inl (cI, 100, .inl c0_letters)), (A1_curtainX, .inl (cI, 3, .inl c1_curtainX)), (A1_curtainFrom, .inl (cI, 3, .inl c1_curtainFrom)), (A1_curtainTo, .inl (cI, 3, .inl c1_curtainTo))] := by rw [hAe]; exact hD0.self
  have hA : ∀ q : Nat, s.heap.size ≤ q → A q := fun q h => by rw [hAe]; exact Or.inr h
  clear hAe hD0
  have hS : va_S A s.heap s.heap [] := va_S.rf
  have hl := lv_entry ([.ref A0, .ref A1] : List Value) (n := 3) (Nat.le_of_ble_eq_true rfl)
  rw [lg_entry_eq]
  generalize (lg_sl ([.ref A0, .ref A1] : List Value) ++ List.replicate (3 - (lg_sl ([.ref A0, .ref A1] : List Value)).length) Slot.unset).toArray = ls at hl ⊢
  have hl : lv_has ls 3 [(0, .ref A0), (1, .ref A1)] := hl
  refine lv_aload_n hx hb dX4_readCurtain_0 rfl (lv_at hl 1 rfl) ?_
  refine va_get (D := G) (ci := 3) (v := .int (c1 5)) (C := RX3) (T := TX3) (N := 12) hx hb hts (fun w h => (List.mem_cons_of_mem _ (List.mem_append_left _ (List.mem_append_right _ h)))) hown hK.1 hP 0 rfl rfl 5 (by decide) (hts (.fieldLink RX4 60 "EchoSeats$Scene" "curtains" "I") (List.mem_of_getElem? (i := 1) rfl)) (fun _ h9 => h9) rfl dX4_readCurtain_1 ?_
  refine lv_topi (fun y1 ey1 => ?_)
  have hres := bnd_z ey1 hres
  refine lv_istore_n (lv' := [(2, .int y1), (0, .ref A0), (1, .ref A1)]) hx hb dX4_readCurtain_4 rfl hl (by decide) rfl (fun ls hl => ?_)
  refine lv_aload_n hx hb dX4_readCurtain_5 rfl (lv_at hl 1 rfl) ?_
  refine lv_iconst (v := 1) hx hb dX4_readCurtain_6 (by decide) ?_
  refine lv_aload_n hx hb dX4_readCurtain_7 rfl (lv_at hl 2 rfl) ?_
  refine va_get (D := G) (ci := 3) (v := .int (c1 0)) (C := RX3) (T := TX3) (N := 12) hx hb hts (fun w h => (List.mem_cons_of_mem _ (List.mem_append_left _ (List.mem_append_right _ h)))) hown hK.1 hP 0 rfl rfl 0 (by decide) (hts (.fieldLink RX4 73 "EchoSeats$Scene" "length" "I") (List.mem_of_getElem? (i := 2) rfl)) (fun _ h9 => h9) rfl dX4_readCurtain_8 ?_
  refine lv_iconst (v := 1) hx hb dX4_readCurtain_11 (by decide) ?_
  refine lv_isub hx hb dX4_readCurtain_12 ?_
  obtain ⟨r2, hr2, hres⟩ := bi_1 hres
  refine x_ci (wr := [o3 A1 c1 A1_swallows A1_seatX A1_seatY A1_curtainX A1_curtainFrom A1_curtainTo, (A1_curtainX, .inl (cI, 3, .inl c1_curtainX)), (A1_curtainFrom, .inl (cI, 3, .inl c1_curtainFrom)), (A1_curtainTo, .inl (cI, 3, .inl c1_curtainTo))]) (w2 := [o3 A1 c1 A1_swallows A1_seatX A1_seatY A1_curtainX A1_curtainFrom A1_curtainTo, o4 A0 r2.2 A0_letters, (A0_letters, .inl (cI, 100, .inl c0_letters)), (A1_curtainX, .inl (cI, 3, .inl c1_curtainX)), (A1_curtainFrom, .inl (cI, 3, .inl c1_curtainFrom)), (A1_curtainTo, .inl (cI, 3, .inl c1_curtainTo))]) hP hD hS hA (va_runV (As := [.int 1, .int ((c1 0) - 1)]) (rest := []) ⟨hx, hb, hml, hown, hts⟩ (kX4_readNumber l G cI cZ tl s.heap.size _ A0 A0_letters c0 c0_letters 1 ((c1 0) - 1) r2 rfl hr2) (cwV 2 hts gX4_readCurtain_X4_readNumber rfl rfl rfl hsX4_readNumber ⟨Nat.le_of_ble_eq_true rfl, Nat.le_of_ble_eq_true rfl⟩) ⟨PRW_blind, va_recv hK.1 hP (ci := 4) (q0 := 1) rfl rfl, PRW_at (hP.sub (ws' := [o4 A0 c0 A0_letters, (A0_letters, .inl (cI, 100, .inl c0_letters))]) [1, 2] rfl) (hD.sub (ws' := [o4 A0 c0 A0_letters, (A0_letters, .inl (cI, 100, .inl c0_letters))]) [1, 2] (by decide) rfl) hK⟩ rfl rfl hl.1 rfl (lv_room (Nat.le_of_ble_eq_true rfl)) dX4_readCurtain_13 ⟨Nat.zero_le _, Nat.zero_le _⟩) [1, 2] [0, 3, 4, 5] [0, 4, 5, 1, 2, 3] rfl rfl (by decide) (by decide) rfl rfl (by decide) (fun H locs hP hD hS => ?_)
  refine lv_if_ne (tgt := 21) hx hb dX4_readCurtain_16 (by decide) (fun h3 => ?_) (fun h3 => ?_)
  · have hres := ite_f hres h3
    refine lv_aload_n hx hb dX4_readCurtain_21 rfl (lv_at hl 2 rfl) ?_
    refine va_get (D := G) (ci := 3) (v := .ref A1_curtainX) (C := RX3) (T := TX3) (N := 12) hx hb hts (fun w h => (List.mem_cons_of_mem _ (List.mem_append_left _ (List.mem_append_right _ h)))) hown hK.1 hP 0 rfl rfl 9 (by decide) (hts (.fieldLink RX4 94 "EchoSeats$Scene" "curtainX" "[I") (List.mem_of_getElem? (i := 3) rfl)) (fun _ h9 => h9) rfl dX4_readCurtain_22 ?_
    refine lv_iload_n hx hb dX4_readCurtain_25 rfl (lv_at hl 0 rfl) ?_
    refine lv_aload_n hx hb dX4_readCurtain_26 rfl (lv_at hl 1 rfl) ?_
    refine va_get (D := G) (ci := 4) (v := .int (r2.2 5)) (C := RX4) (T := TX4) (N := 6) hx hb hts (fun w h => (List.mem_cons_of_mem _ (List.mem_append_right _ h))) hown hK.1 hP 1 rfl rfl 5 (by decide) (hts (.fieldLink RX4 70 "EchoSeats$Text" "number" "I") (List.mem_of_getElem? (i := 4) rfl)) (fun _ h9 => h9) rfl dX4_readCurtain_27 ?_
    have g4 := gd_1 hres
    have hres := gd_2 hres
    refine x_iast hx hb hK hP hD hS 3 rfl (j := (Int32.toNatClampNeg y1)) rfl g4 dX4_readCurtain_30 (fun H locs hP hD hS => ?_)
    have hP : va_P G vwCl [o3 A1 c1 A1_swallows A1_seatX A1_seatY A1_curtainX A1_curtainFrom A1_curtainTo, o4 A0 r2.2 A0_letters, (A0_letters, .inl (cI, 100, .inl c0_letters)), (A1_curtainX, .inl (cI, 3, .inl (upd c1_curtainX (Int32.toNatClampNeg y1) (r2.2 5)))), (A1_curtainFrom, .inl (cI, 3, .inl c1_curtainFrom)), (A1_curtainTo, .inl (cI, 3, .inl c1_curtainTo))] H := hP
    have hD : va_D A [o3 A1 c1 A1_swallows A1_seatX A1_seatY A1_curtainX A1_curtainFrom A1_curtainTo, o4 A0 r2.2 A0_letters, (A0_letters, .inl (cI, 100, .inl c0_letters)), (A1_curtainX, .inl (cI, 3, .inl (upd c1_curtainX (Int32.toNatClampNeg y1) (r2.2 5)))), (A1_curtainFrom, .inl (cI, 3, .inl c1_curtainFrom)), (A1_curtainTo, .inl (cI, 3, .inl c1_curtainTo))] := hD
    refine lv_aload_n hx hb dX4_readCurtain_31 rfl (lv_at hl 1 rfl) ?_
    refine lv_iconst (v := 0) hx hb dX4_readCurtain_32 (by decide) ?_
    refine lv_aload_n hx hb dX4_readCurtain_33 rfl (lv_at hl 2 rfl) ?_
    refine va_get (D := G) (ci := 3) (v := .int (c1 1)) (C := RX3) (T := TX3) (N := 12) hx hb hts (fun w h => (List.mem_cons_of_mem _ (List.mem_append_left _ (List.mem_append_right _ h)))) hown hK.1 hP 0 rfl rfl 1 (by decide) (hts (.fieldLink RX4 76 "EchoSeats$Scene" "breadth" "I") (List.mem_of_getElem? (i := 5) rfl)) (fun _ h9 => h9) rfl dX4_readCurtain_34 ?_
    obtain ⟨r5, hr5, hres⟩ := bi_1 hres
    refine x_ci (wr := [o3 A1 c1 A1_swallows A1_seatX A1_seatY A1_curtainX A1_curtainFrom A1_curtainTo, (A1_curtainX, .inl (cI, 3, .inl (upd c1_curtainX (Int32.toNatClampNeg y1) (r2.2 5)))), (A1_curtainFrom, .inl (cI, 3, .inl c1_curtainFrom)), (A1_curtainTo, .inl (cI, 3, .inl c1_curtainTo))]) (w2 := [o3 A1 c1 A1_swallows A1_seatX A1_seatY A1_curtainX A1_curtainFrom A1_curtainTo, o4 A0 r5.2 A0_letters, (A0_letters, .inl (cI, 100, .inl c0_letters)), (A1_curtainX, .inl (cI, 3, .inl (upd c1_curtainX (Int32.toNatClampNeg y1) (r2.2 5)))), (A1_curtainFrom, .inl (cI, 3, .inl c1_curtainFrom)), (A1_curtainTo, .inl (cI, 3, .inl c1_curtainTo))]) hP hD hS hA (va_runV (As := [.int 0, .int (c1 1)]) (rest := []) ⟨hx, hb, hml, hown, hts⟩ (kX4_readNumber l G cI cZ tl H.size _ A0 A0_letters r2.2 c0_letters 0 (c1 1) r5 rfl hr5) (cwV 2 hts gX4_readCurtain_X4_readNumber rfl rfl rfl hsX4_readNumber ⟨Nat.le_of_ble_eq_true rfl, Nat.le_of_ble_eq_true rfl⟩) ⟨PRW_blind, va_recv hK.1 hP (ci := 4) (q0 := 1) rfl rfl, PRW_at (hP.sub (ws' := [o4 A0 r2.2 A0_letters, (A0_letters, .inl (cI, 100, .inl c0_letters))]) [1, 2] rfl) (hD.sub (ws' := [o4 A0 r2.2 A0_letters, (A0_letters, .inl (cI, 100, .inl c0_letters))]) [1, 2] (by decide) rfl) hK⟩ rfl rfl hl.1 rfl (lv_room (Nat.le_of_ble_eq_true rfl)) dX4_readCurtain_37 ⟨Nat.zero_le _, Nat.zero_le _⟩) [1, 2] [0, 3, 4, 5] [0, 4, 5, 1, 2, 3] rfl rfl (by decide) (by decide) rfl rfl (by decide) (fun H locs hP hD hS => ?_)
    refine lv_if_ne (tgt := 45) hx hb dX4_readCurtain_40 (by decide) (fun h6 => ?_) (fun h6 => ?_)
    · have hres := ite_f hres h6
      refine lv_aload_n hx hb dX4_readCurtain_45 rfl (lv_at hl 2 rfl) ?_
      refine va_get (D := G) (ci := 3) (v := .ref A1_curtainFrom) (C := RX3) (T := TX3) (N := 12) hx hb hts (fun w h => (List.mem_cons_of_mem _ (List.mem_append_left _ (List.mem_append_right _ h)))) hown hK.1 hP 0 rfl rfl 10 (by decide) (hts (.fieldLink RX4 97 "EchoSeats$Scene" "curtainFrom" "[I") (List.mem_of_getElem? (i := 6) rfl)) (fun _ h9 => h9) rfl dX4_readCurtain_46 ?_
      refine lv_iload_n hx hb dX4_readCurtain_49 rfl (lv_at hl 0 rfl) ?_
      refine lv_aload_n hx hb dX4_readCurtain_50 rfl (lv_at hl 1 rfl) ?_
      refine va_get (D := G) (ci := 4) (v := .int (r5.2 5)) (C := RX4) (T := TX4) (N := 6) hx hb hts (fun w h => (List.mem_cons_of_mem _ (List.mem_append_right _ h))) hown hK.1 hP 1 rfl rfl 5 (by decide) (hts (.fieldLink RX4 70 "EchoSeats$Text" "number" "I") (List.mem_of_getElem? (i := 4) rfl)) (fun _ h9 => h9) rfl dX4_readCurtain_51 ?_
      have g7 := gd_1 hres
      have hres := gd_2 hres
      refine x_iast hx hb hK hP hD hS 4 rfl (j := (Int32.toNatClampNeg y1)) rfl g7 dX4_readCurtain_54 (fun H locs hP hD hS => ?_)
      have hP : va_P G vwCl [o3 A1 c1 A1_swallows A1_seatX A1_seatY A1_curtainX A1_curtainFrom A1_curtainTo, o4 A0 r5.2 A0_letters, (A0_letters, .inl (cI, 100, .inl c0_letters)), (A1_curtainX, .inl (cI, 3, .inl (upd c1_curtainX (Int32.toNatClampNeg y1) (r2.2 5)))), (A1_curtainFrom, .inl (cI, 3, .inl (upd c1_curtainFrom (Int32.toNatClampNeg y1) (r5.2 5)))), (A1_curtainTo, .inl (cI, 3, .inl c1_curtainTo))] H := hP
      have hD : va_D A [o3 A1 c1 A1_swallows A1_seatX A1_seatY A1_curtainX A1_curtainFrom A1_curtainTo, o4 A0 r5.2 A0_letters, (A0_letters, .inl (cI, 100, .inl c0_letters)), (A1_curtainX, .inl (cI, 3, .inl (upd c1_curtainX (Int32.toNatClampNeg y1) (r2.2 5)))), (A1_curtainFrom, .inl (cI, 3, .inl (upd c1_curtainFrom (Int32.toNatClampNeg y1) (r5.2 5)))), (A1_curtainTo, .inl (cI, 3, .inl c1_curtainTo))] := hD
      refine lv_aload_n hx hb dX4_readCurtain_55 rfl (lv_at hl 1 rfl) ?_
      refine lv_aload_n hx hb dX4_readCurtain_56 rfl (lv_at hl 1 rfl) ?_
      refine va_get (D := G) (ci := 4) (v := .int (r5.2 5)) (C := RX4) (T := TX4) (N := 6) hx hb hts (fun w h => (List.mem_cons_of_mem _ (List.mem_append_right _ h))) hown hK.1 hP 1 rfl rfl 5 (by decide) (hts (.fieldLink RX4 70 "EchoSeats$Text" "number" "I") (List.mem_of_getElem? (i := 4) rfl)) (fun _ h9 => h9) rfl dX4_readCurtain_57 ?_
      refine lv_aload_n hx hb dX4_readCurtain_60 rfl (lv_at hl 2 rfl) ?_
      refine va_get (D := G) (ci := 3) (v := .int (c1 1)) (C := RX3) (T := TX3) (N := 12) hx hb hts (fun w h => (List.mem_cons_of_mem _ (List.mem_append_left _ (List.mem_append_right _ h)))) hown hK.1 hP 0 rfl rfl 1 (by decide) (hts (.fieldLink RX4 76 "EchoSeats$Scene" "breadth" "I") (List.mem_of_getElem? (i := 5) rfl)) (fun _ h9 => h9) rfl dX4_readCurtain_61 ?_
      obtain ⟨r8, hr8, hres⟩ := bi_1 hres
      refine x_ci (wr := [o3 A1 c1 A1_swallows A1_seatX A1_seatY A1_curtainX A1_curtainFrom A1_curtainTo, (A1_curtainX, .inl (cI, 3, .inl (upd c1_curtainX (Int32.toNatClampNeg y1) (r2.2 5)))), (A1_curtainFrom, .inl (cI, 3, .inl (upd c1_curtainFrom (Int32.toNatClampNeg y1) (r5.2 5)))), (A1_curtainTo, .inl (cI, 3, .inl c1_curtainTo))]) (w2 := [o3 A1 c1 A1_swallows A1_seatX A1_seatY A1_curtainX A1_curtainFrom A1_curtainTo, o4 A0 r8.2 A0_letters, (A0_letters, .inl (cI, 100, .inl c0_letters)), (A1_curtainX, .inl (cI, 3, .inl (upd c1_curtainX (Int32.toNatClampNeg y1) (r2.2 5)))), (A1_curtainFrom, .inl (cI, 3, .inl (upd c1_curtainFrom (Int32.toNatClampNeg y1) (r5.2 5)))), (A1_curtainTo, .inl (cI, 3, .inl c1_curtainTo))]) hP hD hS hA (va_runV (As := [.int (r5.2 5), .int (c1 1)]) (rest := []) ⟨hx, hb, hml, hown, hts⟩ (kX4_readNumber l G cI cZ tl H.size _ A0 A0_letters r5.2 c0_letters (r5.2 5) (c1 1) r8 rfl hr8) (cwV 2 hts gX4_readCurtain_X4_readNumber rfl rfl rfl hsX4_readNumber ⟨Nat.le_of_ble_eq_true rfl, Nat.le_of_ble_eq_true rfl⟩) ⟨PRW_blind, va_recv hK.1 hP (ci := 4) (q0 := 1) rfl rfl, PRW_at (hP.sub (ws' := [o4 A0 r5.2 A0_letters, (A0_letters, .inl (cI, 100, .inl c0_letters))]) [1, 2] rfl) (hD.sub (ws' := [o4 A0 r5.2 A0_letters, (A0_letters, .inl (cI, 100, .inl c0_letters))]) [1, 2] (by decide) rfl) hK⟩ rfl rfl hl.1 rfl (lv_room (Nat.le_of_ble_eq_true rfl)) dX4_readCurtain_64 ⟨Nat.zero_le _, Nat.zero_le _⟩) [1, 2] [0, 3, 4, 5] [0, 4, 5, 1, 2, 3] rfl rfl (by decide) (by decide) rfl rfl (by decide) (fun H locs hP hD hS => ?_)
      refine lv_if_ne (tgt := 72) hx hb dX4_readCurtain_67 (by decide) (fun h9 => ?_) (fun h9 => ?_)
      · have hres := ite_f hres h9
        refine lv_aload_n hx hb dX4_readCurtain_72 rfl (lv_at hl 2 rfl) ?_
        refine va_get (D := G) (ci := 3) (v := .ref A1_curtainTo) (C := RX3) (T := TX3) (N := 12) hx hb hts (fun w h => (List.mem_cons_of_mem _ (List.mem_append_left _ (List.mem_append_right _ h)))) hown hK.1 hP 0 rfl rfl 11 (by decide) (hts (.fieldLink RX4 100 "EchoSeats$Scene" "curtainTo" "[I") (List.mem_of_getElem? (i := 7) rfl)) (fun _ h9 => h9) rfl dX4_readCurtain_73 ?_
        refine lv_iload_n hx hb dX4_readCurtain_76 rfl (lv_at hl 0 rfl) ?_
        refine lv_aload_n hx hb dX4_readCurtain_77 rfl (lv_at hl 1 rfl) ?_
        refine va_get (D := G) (ci := 4) (v := .int (r8.2 5)) (C := RX4) (T := TX4) (N := 6) hx hb hts (fun w h => (List.mem_cons_of_mem _ (List.mem_append_right _ h))) hown hK.1 hP 1 rfl rfl 5 (by decide) (hts (.fieldLink RX4 70 "EchoSeats$Text" "number" "I") (List.mem_of_getElem? (i := 4) rfl)) (fun _ h9 => h9) rfl dX4_readCurtain_78 ?_
        have g10 := gd_1 hres
        have hres := gd_2 hres
        refine x_iast hx hb hK hP hD hS 5 rfl (j := (Int32.toNatClampNeg y1)) rfl g10 dX4_readCurtain_81 (fun H locs hP hD hS => ?_)
        have hP : va_P G vwCl [o3 A1 c1 A1_swallows A1_seatX A1_seatY A1_curtainX A1_curtainFrom A1_curtainTo, o4 A0 r8.2 A0_letters, (A0_letters, .inl (cI, 100, .inl c0_letters)), (A1_curtainX, .inl (cI, 3, .inl (upd c1_curtainX (Int32.toNatClampNeg y1) (r2.2 5)))), (A1_curtainFrom, .inl (cI, 3, .inl (upd c1_curtainFrom (Int32.toNatClampNeg y1) (r5.2 5)))), (A1_curtainTo, .inl (cI, 3, .inl (upd c1_curtainTo (Int32.toNatClampNeg y1) (r8.2 5))))] H := hP
        have hD : va_D A [o3 A1 c1 A1_swallows A1_seatX A1_seatY A1_curtainX A1_curtainFrom A1_curtainTo, o4 A0 r8.2 A0_letters, (A0_letters, .inl (cI, 100, .inl c0_letters)), (A1_curtainX, .inl (cI, 3, .inl (upd c1_curtainX (Int32.toNatClampNeg y1) (r2.2 5)))), (A1_curtainFrom, .inl (cI, 3, .inl (upd c1_curtainFrom (Int32.toNatClampNeg y1) (r5.2 5)))), (A1_curtainTo, .inl (cI, 3, .inl (upd c1_curtainTo (Int32.toNatClampNeg y1) (r8.2 5))))] := hD
        refine lv_aload_n hx hb dX4_readCurtain_82 rfl (lv_at hl 2 rfl) ?_
        refine lv_dup hx hb dX4_readCurtain_83 rfl ?_
        refine va_get (D := G) (ci := 3) (v := .int (c1 5)) (C := RX3) (T := TX3) (N := 12) hx hb hts (fun w h => (List.mem_cons_of_mem _ (List.mem_append_left _ (List.mem_append_right _ h)))) hown hK.1 hP 0 rfl rfl 5 (by decide) (hts (.fieldLink RX4 60 "EchoSeats$Scene" "curtains" "I") (List.mem_of_getElem? (i := 1) rfl)) (fun _ h9 => h9) rfl dX4_readCurtain_84 ?_
        refine lv_iconst (v := 1) hx hb dX4_readCurtain_87 (by decide) ?_
        refine lv_iadd hx hb dX4_readCurtain_88 ?_
        refine va_put (D := G) (ci := 3) (v := .int ((c1 5) + 1)) (ty := .int) (C := RX3) (T := TX3) (N := 12) hx hb hts (fun w h => (List.mem_cons_of_mem _ (List.mem_append_left _ (List.mem_append_right _ h)))) tyX3 tyX3_ok nmX3 hown hK.1 hP hD hS 0 rfl rfl 5 (by decide) (hts (.fieldLink RX4 60 "EchoSeats$Scene" "curtains" "I") (List.mem_of_getElem? (i := 1) rfl)) (fun _ h9 => h9) rfl (tyX3_ok 5 (by decide)) rfl rfl (Nat.le_of_ble_eq_true rfl) dX4_readCurtain_89 (fun H locs hP hD hS => ?_)
        have hP : va_P G vwCl [o3 A1 (upd c1 5 ((c1 5) + 1)) A1_swallows A1_seatX A1_seatY A1_curtainX A1_curtainFrom A1_curtainTo, o4 A0 r8.2 A0_letters, (A0_letters, .inl (cI, 100, .inl c0_letters)), (A1_curtainX, .inl (cI, 3, .inl (upd c1_curtainX (Int32.toNatClampNeg y1) (r2.2 5)))), (A1_curtainFrom, .inl (cI, 3, .inl (upd c1_curtainFrom (Int32.toNatClampNeg y1) (r5.2 5)))), (A1_curtainTo, .inl (cI, 3, .inl (upd c1_curtainTo (Int32.toNatClampNeg y1) (r8.2 5))))] H := hP
        have hD : va_D A [o3 A1 (upd c1 5 ((c1 5) + 1)) A1_swallows A1_seatX A1_seatY A1_curtainX A1_curtainFrom A1_curtainTo, o4 A0 r8.2 A0_letters, (A0_letters, .inl (cI, 100, .inl c0_letters)), (A1_curtainX, .inl (cI, 3, .inl (upd c1_curtainX (Int32.toNatClampNeg y1) (r2.2 5)))), (A1_curtainFrom, .inl (cI, 3, .inl (upd c1_curtainFrom (Int32.toNatClampNeg y1) (r5.2 5)))), (A1_curtainTo, .inl (cI, 3, .inl (upd c1_curtainTo (Int32.toNatClampNeg y1) (r8.2 5))))] := hD
        refine lv_iconst (v := 1) hx hb dX4_readCurtain_92 (by decide) ?_
        obtain rfl := Option.some.inj hres
        exact W.zret hx hb hr (by decide) (fun t ht hW => ⟨⟨_, (), rfl, rfl, by rw [ht]; exact hP, hD⟩, hS.F ht⟩) hS.2.2 dX4_readCurtain_93
      · have hres := ite_t hres h9
        refine lv_iconst (v := 0) hx hb dX4_readCurtain_70 (by decide) ?_
        obtain rfl := Option.some.inj hres
        exact W.zret hx hb hr (by decide) (fun t ht hW => ⟨⟨_, (), rfl, rfl, by rw [ht]; exact hP, hD⟩, hS.F ht⟩) hS.2.2 dX4_readCurtain_71
    · have hres := ite_t hres h6
      refine lv_iconst (v := 0) hx hb dX4_readCurtain_43 (by decide) ?_
      obtain rfl := Option.some.inj hres
      exact W.zret hx hb hr (by decide) (fun t ht hW => ⟨⟨_, (), rfl, rfl, by rw [ht]; exact hP, hD⟩, hS.F ht⟩) hS.2.2 dX4_readCurtain_44
  · have hres := ite_t hres h3
    refine lv_iconst (v := 0) hx hb dX4_readCurtain_19 (by decide) ?_
    obtain rfl := Option.some.inj hres
    exact W.zret hx hb hr (by decide) (fun t ht hW => ⟨⟨_, (), rfl, rfl, by rw [ht]; exact hP, hD⟩, hS.F ht⟩) hS.2.2 dX4_readCurtain_20
theorem hsX4_readCurtain : yX4_readCurtain.cls = RX4 ∧ yX4_readCurtain.cls ≠ "java/lang/invoke/MethodHandle" ∧ yX4_readCurtain.cls ≠ "java/lang/invoke/VarHandle" ∧ (parseMethodDescriptor yX4_readCurtain.desc).map (fun d => d.parameters.length) = some 1 := by decide +kernel
set_option maxHeartbeats 4000000 in
set_option maxRecDepth 100000 in
theorem kX4_readEnd (l : Launch) (G : va_G) (cI cZ : ClassId) (tl : List (ClassId × FieldType)) (sz : Nat) (A : Nat → Prop) (A0 A0_letters : Nat) (c0 c0_letters : Nat → Int32) (res : Int32 × (Nat → Int32)) (hAe : A = va_A [o4 A0 c0 A0_letters, (A0_letters, .inl (cI, 100, .inl c0_letters))] sz) (hres : fX4_readEnd c0 c0_letters = some res) : Met l yX4_readEnd wsX4_readEnd rX4_readEnd (va_Pc [.ref A0] (PRW G cI cZ tl [o4 A0 c0 A0_letters, (A0_letters, .inl (cI, 100, .inl c0_letters))] sz)) (Qiw res.1 G A [o4 A0 res.2 A0_letters, (A0_letters, .inl (cI, 100, .inl c0_letters))]) 0 0 A := by
  refine Met.ofW (cc := cX4_readEnd) (maxL := 1) (ret := (some .boolean)) (by decide) rfl ?_
  intro p e s m args below meth c s₁ B hml hv
  obtain ⟨rfl, hsz, hP, hK, hD0⟩ := hv
  have hx := B.exec
  have hb := B.bytes
  have hr := B.returns
  have hts := atoms_spec (ws := wsX4_readEnd) B.pre
  have hown : s.vm.findClass RX4 = some m.cls := findClass_of_methodNamed B.named
  have hlocks := B.notSynchronized
  subst hsz
  have hD : va_D A [o4 A0 c0 A0_letters, (A0_letters, .inl (cI, 100, .inl c0_letters))] := by rw [hAe]; exact hD0.self
  have hA : ∀ q : Nat, s.heap.size ≤ q → A q := fun q h => by rw [hAe]; exact Or.inr h
  clear hAe hD0
  have hS : va_S A s.heap s.heap [] := va_S.rf
  have hl := lv_entry ([.ref A0] : List Value) (n := 1) (Nat.le_of_ble_eq_true rfl)
  rw [lg_entry_eq]
  generalize (lg_sl ([.ref A0] : List Value) ++ List.replicate (1 - (lg_sl ([.ref A0] : List Value)).length) Slot.unset).toArray = ls at hl ⊢
  have hl : lv_has ls 1 [(0, .ref A0)] := hl
  refine lv_aload_n hx hb dX4_readEnd_0 rfl (lv_at hl 0 rfl) ?_
  obtain ⟨r1, hr1, hres⟩ := bi_1 hres
  refine x_cv (wr := []) (w2 := [o4 A0 r1 A0_letters, (A0_letters, .inl (cI, 100, .inl c0_letters))]) hP hD hS hA (va_runV (As := []) (rest := []) ⟨hx, hb, hml, hown, hts⟩ (kX4_nextToken l G cI cZ tl s.heap.size _ A0 A0_letters c0 c0_letters r1 rfl hr1) (cwV 0 hts gX4_readEnd_X4_nextToken rfl rfl rfl hsX4_nextToken ⟨Nat.le_of_ble_eq_true rfl, Nat.le_of_ble_eq_true rfl⟩) ⟨PRW_blind, va_recv hK.1 hP (ci := 4) (q0 := 0) rfl rfl, PRW_at (hP.sub (ws' := [o4 A0 c0 A0_letters, (A0_letters, .inl (cI, 100, .inl c0_letters))]) [0, 1] rfl) (hD.sub (ws' := [o4 A0 c0 A0_letters, (A0_letters, .inl (cI, 100, .inl c0_letters))]) [0, 1] (by decide) rfl) hK⟩ rfl rfl hl.1 rfl (lv_room (Nat.le_of_ble_eq_true rfl)) dX4_readEnd_1 ⟨Nat.zero_le _, Nat.zero_le _⟩) [0, 1] [] [0, 1] rfl rfl (by decide) (by decide) rfl rfl (by decide) (fun H locs hP hD hS => ?_)
  refine lv_aload_n hx hb dX4_readEnd_4 rfl (lv_at hl 0 rfl) ?_
  refine va_get (D := G) (ci := 4) (v := .int (r1 3)) (C := RX4) (T := TX4) (N := 6) hx hb hts (fun w h => (List.mem_cons_of_mem _ (List.mem_append_right _ h))) hown hK.1 hP 0 rfl rfl 3 (by decide) (hts (.fieldLink RX4 30 "EchoSeats$Text" "token" "I") (List.mem_of_getElem? (i := 1) rfl)) (fun _ h9 => h9) rfl dX4_readEnd_5 ?_
  refine lv_bipush (v := 59) hx hb dX4_readEnd_8 (by decide) ?_
  refine lv_icmp_ne (tgt := 17) hx hb dX4_readEnd_10 (by decide) (fun h2 => ?_) (fun h2 => ?_)
  · have hres := ite_f hres h2
    refine lv_iconst (v := 0) hx hb dX4_readEnd_17 (by decide) ?_
    obtain rfl := Option.some.inj hres
    exact W.zret hx hb hr (by decide) (fun t ht hW => ⟨⟨_, (), rfl, rfl, by rw [ht]; exact hP, hD⟩, hS.F ht⟩) hS.2.2 dX4_readEnd_18
  · have hres := ite_t hres h2
    refine lv_iconst (v := 1) hx hb dX4_readEnd_13 (by decide) ?_
    refine lv_goto (tgt := 18) hx hb dX4_readEnd_14 (by decide) ?_
    obtain rfl := Option.some.inj hres
    exact W.zret hx hb hr (by decide) (fun t ht hW => ⟨⟨_, (), rfl, rfl, by rw [ht]; exact hP, hD⟩, hS.F ht⟩) hS.2.2 dX4_readEnd_18
theorem hsX4_readEnd : yX4_readEnd.cls = RX4 ∧ yX4_readEnd.cls ≠ "java/lang/invoke/MethodHandle" ∧ yX4_readEnd.cls ≠ "java/lang/invoke/VarHandle" ∧ (parseMethodDescriptor yX4_readEnd.desc).map (fun d => d.parameters.length) = some 0 := by decide +kernel
set_option maxHeartbeats 4000000 in
set_option maxRecDepth 100000 in
theorem kX4_readSides (l : Launch) (G : va_G) (cI cZ : ClassId) (tl : List (ClassId × FieldType)) (sz : Nat) (A : Nat → Prop) (A0 A0_letters A1 A1_swallows A1_seatX A1_seatY A1_curtainX A1_curtainFrom A1_curtainTo : Nat) (c0 c0_letters c1 : Nat → Int32) (res : Int32 × (Nat → Int32) × (Nat → Int32)) (hAe : A = va_A [o4 A0 c0 A0_letters, (A0_letters, .inl (cI, 100, .inl c0_letters)), o3 A1 c1 A1_swallows A1_seatX A1_seatY A1_curtainX A1_curtainFrom A1_curtainTo] sz) (hres : fX4_readSides c0 c0_letters c1 = some res) : Met l yX4_readSides wsX4_readSides rX4_readSides (va_Pc [.ref A0, .ref A1] (PRW G cI cZ tl [o4 A0 c0 A0_letters, (A0_letters, .inl (cI, 100, .inl c0_letters)), o3 A1 c1 A1_swallows A1_seatX A1_seatY A1_curtainX A1_curtainFrom A1_curtainTo] sz)) (Qiw res.1 G A [o4 A0 res.2.1 A0_letters, (A0_letters, .inl (cI, 100, .inl c0_letters)), o3 A1 res.2.2 A1_swallows A1_seatX A1_seatY A1_curtainX A1_curtainFrom A1_curtainTo]) 0 0 A := by
  refine Met.ofW (cc := cX4_readSides) (maxL := 2) (ret := (some .boolean)) (by decide) rfl ?_
  intro p e s m args below meth c s₁ B hml hv
  obtain ⟨rfl, hsz, hP, hK, hD0⟩ := hv
  have hx := B.exec
  have hb := B.bytes
  have hr := B.returns
  have hts := atoms_spec (ws := wsX4_readSides) B.pre
  have hown : s.vm.findClass RX4 = some m.cls := findClass_of_methodNamed B.named
  have hlocks := B.notSynchronized
  subst hsz
  have hD : va_D A [o4 A0 c0 A0_letters, (A0_letters, .inl (cI, 100, .inl c0_letters)), o3 A1 c1 A1_swallows A1_seatX A1_seatY A1_curtainX A1_curtainFrom A1_curtainTo] := by rw [hAe]; exact hD0.self
  have hA : ∀ q : Nat, s.heap.size ≤ q → A q := fun q h => by rw [hAe]; exact Or.inr h
  clear hAe hD0
  have hS : va_S A s.heap s.heap [] := va_S.rf
  have hl := lv_entry ([.ref A0, .ref A1] : List Value) (n := 2) (Nat.le_of_ble_eq_true rfl)
  rw [lg_entry_eq]
  generalize (lg_sl ([.ref A0, .ref A1] : List Value) ++ List.replicate (2 - (lg_sl ([.ref A0, .ref A1] : List Value)).length) Slot.unset).toArray = ls at hl ⊢
  have hl : lv_has ls 2 [(0, .ref A0), (1, .ref A1)] := hl
  refine lv_aload_n hx hb dX4_readSides_0 rfl (lv_at hl 0 rfl) ?_
  refine lv_iconst (v := 2) hx hb dX4_readSides_1 (by decide) ?_
  refine lv_bipush (v := 20) hx hb dX4_readSides_2 (by decide) ?_
  obtain ⟨r1, hr1, hres⟩ := bi_1 hres
  refine x_ci (wr := [o3 A1 c1 A1_swallows A1_seatX A1_seatY A1_curtainX A1_curtainFrom A1_curtainTo]) (w2 := [o4 A0 r1.2 A0_letters, (A0_letters, .inl (cI, 100, .inl c0_letters)), o3 A1 c1 A1_swallows A1_seatX A1_seatY A1_curtainX A1_curtainFrom A1_curtainTo]) hP hD hS hA (va_runV (As := [.int 2, .int 20]) (rest := []) ⟨hx, hb, hml, hown, hts⟩ (kX4_readNumber l G cI cZ tl s.heap.size _ A0 A0_letters c0 c0_letters 2 20 r1 rfl hr1) (cwV 2 hts gX4_readSides_X4_readNumber rfl rfl rfl hsX4_readNumber ⟨Nat.le_of_ble_eq_true rfl, Nat.le_of_ble_eq_true rfl⟩) ⟨PRW_blind, va_recv hK.1 hP (ci := 4) (q0 := 0) rfl rfl, PRW_at (hP.sub (ws' := [o4 A0 c0 A0_letters, (A0_letters, .inl (cI, 100, .inl c0_letters))]) [0, 1] rfl) (hD.sub (ws' := [o4 A0 c0 A0_letters, (A0_letters, .inl (cI, 100, .inl c0_letters))]) [0, 1] (by decide) rfl) hK⟩ rfl rfl hl.1 rfl (lv_room (Nat.le_of_ble_eq_true rfl)) dX4_readSides_4 ⟨Nat.zero_le _, Nat.zero_le _⟩) [0, 1] [2] [1, 2, 0] rfl rfl (by decide) (by decide) rfl rfl (by decide) (fun H locs hP hD hS => ?_)
  refine lv_if_ne (tgt := 12) hx hb dX4_readSides_7 (by decide) (fun h2 => ?_) (fun h2 => ?_)
  · have hres := ite_f hres h2
    refine lv_aload_n hx hb dX4_readSides_12 rfl (lv_at hl 1 rfl) ?_
    refine lv_aload_n hx hb dX4_readSides_13 rfl (lv_at hl 0 rfl) ?_
    refine va_get (D := G) (ci := 4) (v := .int (r1.2 5)) (C := RX4) (T := TX4) (N := 6) hx hb hts (fun w h => (List.mem_cons_of_mem _ (List.mem_append_left _ (List.mem_append_right _ h)))) hown hK.1 hP 0 rfl rfl 5 (by decide) (hts (.fieldLink RX4 70 "EchoSeats$Text" "number" "I") (List.mem_of_getElem? (i := 1) rfl)) (fun _ h9 => h9) rfl dX4_readSides_14 ?_
    refine va_put (D := G) (ci := 3) (v := .int (r1.2 5)) (ty := .int) (C := RX3) (T := TX3) (N := 12) hx hb hts (fun w h => (List.mem_cons_of_mem _ (List.mem_append_right _ h))) tyX3 tyX3_ok nmX3 hown hK.1 hP hD hS 2 rfl rfl 0 (by decide) (hts (.fieldLink RX4 73 "EchoSeats$Scene" "length" "I") (List.mem_of_getElem? (i := 2) rfl)) (fun _ h9 => h9) rfl (tyX3_ok 0 (by decide)) rfl rfl (Nat.le_of_ble_eq_true rfl) dX4_readSides_17 (fun H locs hP hD hS => ?_)
    have hP : va_P G vwCl [o4 A0 r1.2 A0_letters, (A0_letters, .inl (cI, 100, .inl c0_letters)), o3 A1 (upd c1 0 (r1.2 5)) A1_swallows A1_seatX A1_seatY A1_curtainX A1_curtainFrom A1_curtainTo] H := hP
    have hD : va_D A [o4 A0 r1.2 A0_letters, (A0_letters, .inl (cI, 100, .inl c0_letters)), o3 A1 (upd c1 0 (r1.2 5)) A1_swallows A1_seatX A1_seatY A1_curtainX A1_curtainFrom A1_curtainTo] := hD
    refine lv_aload_n hx hb dX4_readSides_20 rfl (lv_at hl 0 rfl) ?_
    refine lv_iconst (v := 2) hx hb dX4_readSides_21 (by decide) ?_
    refine lv_bipush (v := 20) hx hb dX4_readSides_22 (by decide) ?_
    obtain ⟨r3, hr3, hres⟩ := bi_1 hres
    refine x_ci (wr := [o3 A1 (upd c1 0 (r1.2 5)) A1_swallows A1_seatX A1_seatY A1_curtainX A1_curtainFrom A1_curtainTo]) (w2 := [o4 A0 r3.2 A0_letters, (A0_letters, .inl (cI, 100, .inl c0_letters)), o3 A1 (upd c1 0 (r1.2 5)) A1_swallows A1_seatX A1_seatY A1_curtainX A1_curtainFrom A1_curtainTo]) hP hD hS hA (va_runV (As := [.int 2, .int 20]) (rest := []) ⟨hx, hb, hml, hown, hts⟩ (kX4_readNumber l G cI cZ tl H.size _ A0 A0_letters r1.2 c0_letters 2 20 r3 rfl hr3) (cwV 2 hts gX4_readSides_X4_readNumber rfl rfl rfl hsX4_readNumber ⟨Nat.le_of_ble_eq_true rfl, Nat.le_of_ble_eq_true rfl⟩) ⟨PRW_blind, va_recv hK.1 hP (ci := 4) (q0 := 0) rfl rfl, PRW_at (hP.sub (ws' := [o4 A0 r1.2 A0_letters, (A0_letters, .inl (cI, 100, .inl c0_letters))]) [0, 1] rfl) (hD.sub (ws' := [o4 A0 r1.2 A0_letters, (A0_letters, .inl (cI, 100, .inl c0_letters))]) [0, 1] (by decide) rfl) hK⟩ rfl rfl hl.1 rfl (lv_room (Nat.le_of_ble_eq_true rfl)) dX4_readSides_24 ⟨Nat.zero_le _, Nat.zero_le _⟩) [0, 1] [2] [1, 2, 0] rfl rfl (by decide) (by decide) rfl rfl (by decide) (fun H locs hP hD hS => ?_)
    refine lv_if_ne (tgt := 32) hx hb dX4_readSides_27 (by decide) (fun h4 => ?_) (fun h4 => ?_)
    · have hres := ite_f hres h4
      refine lv_aload_n hx hb dX4_readSides_32 rfl (lv_at hl 1 rfl) ?_
      refine lv_aload_n hx hb dX4_readSides_33 rfl (lv_at hl 0 rfl) ?_
      refine va_get (D := G) (ci := 4) (v := .int (r3.2 5)) (C := RX4) (T := TX4) (N := 6) hx hb hts (fun w h => (List.mem_cons_of_mem _ (List.mem_append_left _ (List.mem_append_right _ h)))) hown hK.1 hP 0 rfl rfl 5 (by decide) (hts (.fieldLink RX4 70 "EchoSeats$Text" "number" "I") (List.mem_of_getElem? (i := 1) rfl)) (fun _ h9 => h9) rfl dX4_readSides_34 ?_
      refine va_put (D := G) (ci := 3) (v := .int (r3.2 5)) (ty := .int) (C := RX3) (T := TX3) (N := 12) hx hb hts (fun w h => (List.mem_cons_of_mem _ (List.mem_append_right _ h))) tyX3 tyX3_ok nmX3 hown hK.1 hP hD hS 2 rfl rfl 1 (by decide) (hts (.fieldLink RX4 76 "EchoSeats$Scene" "breadth" "I") (List.mem_of_getElem? (i := 3) rfl)) (fun _ h9 => h9) rfl (tyX3_ok 1 (by decide)) rfl rfl (Nat.le_of_ble_eq_true rfl) dX4_readSides_37 (fun H locs hP hD hS => ?_)
      have hP : va_P G vwCl [o4 A0 r3.2 A0_letters, (A0_letters, .inl (cI, 100, .inl c0_letters)), o3 A1 (upd (upd c1 0 (r1.2 5)) 1 (r3.2 5)) A1_swallows A1_seatX A1_seatY A1_curtainX A1_curtainFrom A1_curtainTo] H := hP
      have hD : va_D A [o4 A0 r3.2 A0_letters, (A0_letters, .inl (cI, 100, .inl c0_letters)), o3 A1 (upd (upd c1 0 (r1.2 5)) 1 (r3.2 5)) A1_swallows A1_seatX A1_seatY A1_curtainX A1_curtainFrom A1_curtainTo] := hD
      refine lv_iconst (v := 1) hx hb dX4_readSides_40 (by decide) ?_
      obtain rfl := Option.some.inj hres
      exact W.zret hx hb hr (by decide) (fun t ht hW => ⟨⟨_, (), rfl, rfl, by rw [ht]; exact hP, hD⟩, hS.F ht⟩) hS.2.2 dX4_readSides_41
    · have hres := ite_t hres h4
      refine lv_iconst (v := 0) hx hb dX4_readSides_30 (by decide) ?_
      obtain rfl := Option.some.inj hres
      exact W.zret hx hb hr (by decide) (fun t ht hW => ⟨⟨_, (), rfl, rfl, by rw [ht]; exact hP, hD⟩, hS.F ht⟩) hS.2.2 dX4_readSides_31
  · have hres := ite_t hres h2
    refine lv_iconst (v := 0) hx hb dX4_readSides_10 (by decide) ?_
    obtain rfl := Option.some.inj hres
    exact W.zret hx hb hr (by decide) (fun t ht hW => ⟨⟨_, (), rfl, rfl, by rw [ht]; exact hP, hD⟩, hS.F ht⟩) hS.2.2 dX4_readSides_11
theorem hsX4_readSides : yX4_readSides.cls = RX4 ∧ yX4_readSides.cls ≠ "java/lang/invoke/MethodHandle" ∧ yX4_readSides.cls ≠ "java/lang/invoke/VarHandle" ∧ (parseMethodDescriptor yX4_readSides.desc).map (fun d => d.parameters.length) = some 1 := by decide +kernel
set_option maxHeartbeats 4000000 in
set_option maxRecDepth 100000 in
theorem kX4_readSwallows (l : Launch) (G : va_G) (cI cZ : ClassId) (tl : List (ClassId × FieldType)) (sz : Nat) (A : Nat → Prop) (A0 A0_letters A1 A1_swallows A1_seatX A1_seatY A1_curtainX A1_curtainFrom A1_curtainTo : Nat) (c0 c0_letters c1 c1_swallows : Nat → Int32) (res : Int32 × (Nat → Int32) × (Nat → Int32)) (hAe : A = va_A [o4 A0 c0 A0_letters, (A0_letters, .inl (cI, 100, .inl c0_letters)), o3 A1 c1 A1_swallows A1_seatX A1_seatY A1_curtainX A1_curtainFrom A1_curtainTo, (A1_swallows, .inl (cI, 4, .inl c1_swallows))] sz) (hres : fX4_readSwallows c0 c0_letters c1 c1_swallows = some res) : Met l yX4_readSwallows wsX4_readSwallows rX4_readSwallows (va_Pc [.ref A0, .ref A1] (PRW G cI cZ tl [o4 A0 c0 A0_letters, (A0_letters, .inl (cI, 100, .inl c0_letters)), o3 A1 c1 A1_swallows A1_seatX A1_seatY A1_curtainX A1_curtainFrom A1_curtainTo, (A1_swallows, .inl (cI, 4, .inl c1_swallows))] sz)) (Qiw res.1 G A [o4 A0 res.2.1 A0_letters, (A0_letters, .inl (cI, 100, .inl c0_letters)), o3 A1 c1 A1_swallows A1_seatX A1_seatY A1_curtainX A1_curtainFrom A1_curtainTo, (A1_swallows, .inl (cI, 4, .inl res.2.2))]) 0 0 A := by
  refine Met.ofW (cc := cX4_readSwallows) (maxL := 3) (ret := (some .boolean)) (by decide) rfl ?_
  intro p e s m args below meth c s₁ B hml hv
  obtain ⟨rfl, hsz, hP, hK, hD0⟩ := hv
  have hx := B.exec
  have hb := B.bytes
  have hr := B.returns
  have hts := atoms_spec (ws := wsX4_readSwallows) B.pre
  have hown : s.vm.findClass RX4 = some m.cls := findClass_of_methodNamed B.named
  have hlocks := B.notSynchronized
  subst hsz
  have hD : va_D A [o4 A0 c0 A0_letters, (A0_letters, .inl (cI, 100, .inl c0_letters)), o3 A1 c1 A1_swallows A1_seatX A1_seatY A1_curtainX A1_curtainFrom A1_curtainTo, (A1_swallows, .inl (cI, 4, .inl c1_swallows))] := by rw [hAe]; exact hD0.self
  have hA : ∀ q : Nat, s.heap.size ≤ q → A q := fun q h => by rw [hAe]; exact Or.inr h
  clear hAe hD0
  have hS : va_S A s.heap s.heap [] := va_S.rf
  have hl := lv_entry ([.ref A0, .ref A1] : List Value) (n := 3) (Nat.le_of_ble_eq_true rfl)
  rw [lg_entry_eq]
  generalize (lg_sl ([.ref A0, .ref A1] : List Value) ++ List.replicate (3 - (lg_sl ([.ref A0, .ref A1] : List Value)).length) Slot.unset).toArray = ls at hl ⊢
  have hl : lv_has ls 3 [(0, .ref A0), (1, .ref A1)] := hl
  refine lv_aload_n hx hb dX4_readSwallows_0 rfl (lv_at hl 0 rfl) ?_
  refine lv_iconst (v := 0) hx hb dX4_readSwallows_1 (by decide) ?_
  refine lv_iconst (v := 3) hx hb dX4_readSwallows_2 (by decide) ?_
  obtain ⟨r1, hr1, hres⟩ := bi_1 hres
  refine x_ci (wr := [o3 A1 c1 A1_swallows A1_seatX A1_seatY A1_curtainX A1_curtainFrom A1_curtainTo, (A1_swallows, .inl (cI, 4, .inl c1_swallows))]) (w2 := [o4 A0 r1.2 A0_letters, (A0_letters, .inl (cI, 100, .inl c0_letters)), o3 A1 c1 A1_swallows A1_seatX A1_seatY A1_curtainX A1_curtainFrom A1_curtainTo, (A1_swallows, .inl (cI, 4, .inl c1_swallows))]) hP hD hS hA (va_runV (As := [.int 0, .int 3]) (rest := []) ⟨hx, hb, hml, hown, hts⟩ (kX4_readNumber l G cI cZ tl s.heap.size _ A0 A0_letters c0 c0_letters 0 3 r1 rfl hr1) (cwV 2 hts gX4_readSwallows_X4_readNumber rfl rfl rfl hsX4_readNumber ⟨Nat.le_of_ble_eq_true rfl, Nat.le_of_ble_eq_true rfl⟩) ⟨PRW_blind, va_recv hK.1 hP (ci := 4) (q0 := 0) rfl rfl, PRW_at (hP.sub (ws' := [o4 A0 c0 A0_letters, (A0_letters, .inl (cI, 100, .inl c0_letters))]) [0, 1] rfl) (hD.sub (ws' := [o4 A0 c0 A0_letters, (A0_letters, .inl (cI, 100, .inl c0_letters))]) [0, 1] (by decide) rfl) hK⟩ rfl rfl hl.1 rfl (lv_room (Nat.le_of_ble_eq_true rfl)) dX4_readSwallows_3 ⟨Nat.zero_le _, Nat.zero_le _⟩) [0, 1] [2, 3] [2, 3, 0, 1] rfl rfl (by decide) (by decide) rfl rfl (by decide) (fun H locs hP hD hS => ?_)
  refine lv_if_ne (tgt := 11) hx hb dX4_readSwallows_6 (by decide) (fun h2 => ?_) (fun h2 => ?_)
  · have hres := ite_f hres h2
    refine lv_aload_n hx hb dX4_readSwallows_11 rfl (lv_at hl 0 rfl) ?_
    refine va_get (D := G) (ci := 4) (v := .int (r1.2 5)) (C := RX4) (T := TX4) (N := 6) hx hb hts (fun w h => (List.mem_cons_of_mem _ (List.mem_append_left _ (List.mem_append_right _ h)))) hown hK.1 hP 0 rfl rfl 5 (by decide) (hts (.fieldLink RX4 70 "EchoSeats$Text" "number" "I") (List.mem_of_getElem? (i := 1) rfl)) (fun _ h9 => h9) rfl dX4_readSwallows_12 ?_
    refine lv_topi (fun y3 ey3 => ?_)
    have hres := bnd_z ey3 hres
    refine lv_istore_n (lv' := [(2, .int y3), (0, .ref A0), (1, .ref A1)]) hx hb dX4_readSwallows_15 rfl hl (by decide) rfl (fun ls hl => ?_)
    refine lv_aload_n hx hb dX4_readSwallows_16 rfl (lv_at hl 1 rfl) ?_
    refine lv_iconst (v := 0) hx hb dX4_readSwallows_17 (by decide) ?_
    refine lv_bipush (v := 10) hx hb dX4_readSwallows_18 (by decide) ?_
    obtain ⟨r4, hr4, hres⟩ := bi_1 hres
    refine x_ci (wr := [o3 A1 c1 A1_swallows A1_seatX A1_seatY A1_curtainX A1_curtainFrom A1_curtainTo, (A1_swallows, .inl (cI, 4, .inl c1_swallows))]) (w2 := [o4 A0 r4.2 A0_letters, (A0_letters, .inl (cI, 100, .inl c0_letters)), o3 A1 c1 A1_swallows A1_seatX A1_seatY A1_curtainX A1_curtainFrom A1_curtainTo, (A1_swallows, .inl (cI, 4, .inl c1_swallows))]) hP hD hS hA (va_runV (As := [.int 0, .int 10]) (rest := []) ⟨hx, hb, hml, hown, hts⟩ (kX4_readNumber l G cI cZ tl H.size _ A0 A0_letters r1.2 c0_letters 0 10 r4 rfl hr4) (cwV 2 hts gX4_readSwallows_X4_readNumber rfl rfl rfl hsX4_readNumber ⟨Nat.le_of_ble_eq_true rfl, Nat.le_of_ble_eq_true rfl⟩) ⟨PRW_blind, va_recv hK.1 hP (ci := 4) (q0 := 0) rfl rfl, PRW_at (hP.sub (ws' := [o4 A0 r1.2 A0_letters, (A0_letters, .inl (cI, 100, .inl c0_letters))]) [0, 1] rfl) (hD.sub (ws' := [o4 A0 r1.2 A0_letters, (A0_letters, .inl (cI, 100, .inl c0_letters))]) [0, 1] (by decide) rfl) hK⟩ rfl rfl hl.1 rfl (lv_room (Nat.le_of_ble_eq_true rfl)) dX4_readSwallows_20 ⟨Nat.zero_le _, Nat.zero_le _⟩) [0, 1] [2, 3] [2, 3, 0, 1] rfl rfl (by decide) (by decide) rfl rfl (by decide) (fun H locs hP hD hS => ?_)
    refine lv_if_ne (tgt := 28) hx hb dX4_readSwallows_23 (by decide) (fun h5 => ?_) (fun h5 => ?_)
    · have hres := ite_f hres h5
      refine lv_aload_n hx hb dX4_readSwallows_28 rfl (lv_at hl 2 rfl) ?_
      refine va_get (D := G) (ci := 3) (v := .ref A1_swallows) (C := RX3) (T := TX3) (N := 12) hx hb hts (fun w h => (List.mem_cons_of_mem _ (List.mem_append_right _ h))) hown hK.1 hP 2 rfl rfl 6 (by decide) (hts (.fieldLink RX4 79 "EchoSeats$Scene" "swallows" "[I") (List.mem_of_getElem? (i := 2) rfl)) (fun _ h9 => h9) rfl dX4_readSwallows_29 ?_
      refine lv_iload_n hx hb dX4_readSwallows_32 rfl (lv_at hl 0 rfl) ?_
      refine lv_aload_n hx hb dX4_readSwallows_33 rfl (lv_at hl 1 rfl) ?_
      refine va_get (D := G) (ci := 4) (v := .int (r4.2 5)) (C := RX4) (T := TX4) (N := 6) hx hb hts (fun w h => (List.mem_cons_of_mem _ (List.mem_append_left _ (List.mem_append_right _ h)))) hown hK.1 hP 0 rfl rfl 5 (by decide) (hts (.fieldLink RX4 70 "EchoSeats$Text" "number" "I") (List.mem_of_getElem? (i := 1) rfl)) (fun _ h9 => h9) rfl dX4_readSwallows_34 ?_
      have g6 := gd_1 hres
      have hres := gd_2 hres
      refine x_iast hx hb hK hP hD hS 3 rfl (j := (Int32.toNatClampNeg y3)) rfl g6 dX4_readSwallows_37 (fun H locs hP hD hS => ?_)
      have hP : va_P G vwCl [o4 A0 r4.2 A0_letters, (A0_letters, .inl (cI, 100, .inl c0_letters)), o3 A1 c1 A1_swallows A1_seatX A1_seatY A1_curtainX A1_curtainFrom A1_curtainTo, (A1_swallows, .inl (cI, 4, .inl (upd c1_swallows (Int32.toNatClampNeg y3) (r4.2 5))))] H := hP
      have hD : va_D A [o4 A0 r4.2 A0_letters, (A0_letters, .inl (cI, 100, .inl c0_letters)), o3 A1 c1 A1_swallows A1_seatX A1_seatY A1_curtainX A1_curtainFrom A1_curtainTo, (A1_swallows, .inl (cI, 4, .inl (upd c1_swallows (Int32.toNatClampNeg y3) (r4.2 5))))] := hD
      refine lv_iconst (v := 1) hx hb dX4_readSwallows_38 (by decide) ?_
      obtain rfl := Option.some.inj hres
      exact W.zret hx hb hr (by decide) (fun t ht hW => ⟨⟨_, (), rfl, rfl, by rw [ht]; exact hP, hD⟩, hS.F ht⟩) hS.2.2 dX4_readSwallows_39
    · have hres := ite_t hres h5
      refine lv_iconst (v := 0) hx hb dX4_readSwallows_26 (by decide) ?_
      obtain rfl := Option.some.inj hres
      exact W.zret hx hb hr (by decide) (fun t ht hW => ⟨⟨_, (), rfl, rfl, by rw [ht]; exact hP, hD⟩, hS.F ht⟩) hS.2.2 dX4_readSwallows_27
  · have hres := ite_t hres h2
    refine lv_iconst (v := 0) hx hb dX4_readSwallows_9 (by decide) ?_
    obtain rfl := Option.some.inj hres
    exact W.zret hx hb hr (by decide) (fun t ht hW => ⟨⟨_, (), rfl, rfl, by rw [ht]; exact hP, hD⟩, hS.F ht⟩) hS.2.2 dX4_readSwallows_10
theorem hsX4_readSwallows : yX4_readSwallows.cls = RX4 ∧ yX4_readSwallows.cls ≠ "java/lang/invoke/MethodHandle" ∧ yX4_readSwallows.cls ≠ "java/lang/invoke/VarHandle" ∧ (parseMethodDescriptor yX4_readSwallows.desc).map (fun d => d.parameters.length) = some 1 := by decide +kernel
set_option maxHeartbeats 4000000 in
set_option maxRecDepth 100000 in
theorem kX4_readSource (l : Launch) (G : va_G) (cI cZ : ClassId) (tl : List (ClassId × FieldType)) (sz : Nat) (A : Nat → Prop) (A1 A1_swallows A1_seatX A1_seatY A1_curtainX A1_curtainFrom A1_curtainTo A0 A0_letters : Nat) (c1 c0 c0_letters : Nat → Int32) (res : Int32 × (Nat → Int32) × (Nat → Int32)) (hAe : A = va_A [o3 A1 c1 A1_swallows A1_seatX A1_seatY A1_curtainX A1_curtainFrom A1_curtainTo, o4 A0 c0 A0_letters, (A0_letters, .inl (cI, 100, .inl c0_letters))] sz) (hres : fX4_readSource c1 c0 c0_letters = some res) : Met l yX4_readSource wsX4_readSource rX4_readSource (va_Pc [.ref A0, .ref A1] (PRW G cI cZ tl [o3 A1 c1 A1_swallows A1_seatX A1_seatY A1_curtainX A1_curtainFrom A1_curtainTo, o4 A0 c0 A0_letters, (A0_letters, .inl (cI, 100, .inl c0_letters))] sz)) (Qiw res.1 G A [o3 A1 res.2.1 A1_swallows A1_seatX A1_seatY A1_curtainX A1_curtainFrom A1_curtainTo, o4 A0 res.2.2 A0_letters, (A0_letters, .inl (cI, 100, .inl c0_letters))]) 0 0 A := by
  refine Met.ofW (cc := cX4_readSource) (maxL := 2) (ret := (some .boolean)) (by decide) rfl ?_
  intro p e s m args below meth c s₁ B hml hv
  obtain ⟨rfl, hsz, hP, hK, hD0⟩ := hv
  have hx := B.exec
  have hb := B.bytes
  have hr := B.returns
  have hts := atoms_spec (ws := wsX4_readSource) B.pre
  have hown : s.vm.findClass RX4 = some m.cls := findClass_of_methodNamed B.named
  have hlocks := B.notSynchronized
  subst hsz
  have hD : va_D A [o3 A1 c1 A1_swallows A1_seatX A1_seatY A1_curtainX A1_curtainFrom A1_curtainTo, o4 A0 c0 A0_letters, (A0_letters, .inl (cI, 100, .inl c0_letters))] := by rw [hAe]; exact hD0.self
  have hA : ∀ q : Nat, s.heap.size ≤ q → A q := fun q h => by rw [hAe]; exact Or.inr h
  clear hAe hD0
  have hS : va_S A s.heap s.heap [] := va_S.rf
  have hl := lv_entry ([.ref A0, .ref A1] : List Value) (n := 2) (Nat.le_of_ble_eq_true rfl)
  rw [lg_entry_eq]
  generalize (lg_sl ([.ref A0, .ref A1] : List Value) ++ List.replicate (2 - (lg_sl ([.ref A0, .ref A1] : List Value)).length) Slot.unset).toArray = ls at hl ⊢
  have hl : lv_has ls 2 [(0, .ref A0), (1, .ref A1)] := hl
  refine lv_aload_n hx hb dX4_readSource_0 rfl (lv_at hl 0 rfl) ?_
  refine lv_iconst (v := 0) hx hb dX4_readSource_1 (by decide) ?_
  refine lv_aload_n hx hb dX4_readSource_2 rfl (lv_at hl 1 rfl) ?_
  refine va_get (D := G) (ci := 3) (v := .int (c1 0)) (C := RX3) (T := TX3) (N := 12) hx hb hts (fun w h => (List.mem_cons_of_mem _ (List.mem_append_left _ (List.mem_append_right _ h)))) hown hK.1 hP 0 rfl rfl 0 (by decide) (hts (.fieldLink RX4 73 "EchoSeats$Scene" "length" "I") (List.mem_of_getElem? (i := 1) rfl)) (fun _ h9 => h9) rfl dX4_readSource_3 ?_
  obtain ⟨r1, hr1, hres⟩ := bi_1 hres
  refine x_ci (wr := [o3 A1 c1 A1_swallows A1_seatX A1_seatY A1_curtainX A1_curtainFrom A1_curtainTo]) (w2 := [o3 A1 c1 A1_swallows A1_seatX A1_seatY A1_curtainX A1_curtainFrom A1_curtainTo, o4 A0 r1.2 A0_letters, (A0_letters, .inl (cI, 100, .inl c0_letters))]) hP hD hS hA (va_runV (As := [.int 0, .int (c1 0)]) (rest := []) ⟨hx, hb, hml, hown, hts⟩ (kX4_readNumber l G cI cZ tl s.heap.size _ A0 A0_letters c0 c0_letters 0 (c1 0) r1 rfl hr1) (cwV 2 hts gX4_readSource_X4_readNumber rfl rfl rfl hsX4_readNumber ⟨Nat.le_of_ble_eq_true rfl, Nat.le_of_ble_eq_true rfl⟩) ⟨PRW_blind, va_recv hK.1 hP (ci := 4) (q0 := 1) rfl rfl, PRW_at (hP.sub (ws' := [o4 A0 c0 A0_letters, (A0_letters, .inl (cI, 100, .inl c0_letters))]) [1, 2] rfl) (hD.sub (ws' := [o4 A0 c0 A0_letters, (A0_letters, .inl (cI, 100, .inl c0_letters))]) [1, 2] (by decide) rfl) hK⟩ rfl rfl hl.1 rfl (lv_room (Nat.le_of_ble_eq_true rfl)) dX4_readSource_6 ⟨Nat.zero_le _, Nat.zero_le _⟩) [1, 2] [0] [0, 1, 2] rfl rfl (by decide) (by decide) rfl rfl (by decide) (fun H locs hP hD hS => ?_)
  refine lv_if_ne (tgt := 14) hx hb dX4_readSource_9 (by decide) (fun h2 => ?_) (fun h2 => ?_)
  · have hres := ite_f hres h2
    refine lv_aload_n hx hb dX4_readSource_14 rfl (lv_at hl 1 rfl) ?_
    refine lv_aload_n hx hb dX4_readSource_15 rfl (lv_at hl 0 rfl) ?_
    refine va_get (D := G) (ci := 4) (v := .int (r1.2 5)) (C := RX4) (T := TX4) (N := 6) hx hb hts (fun w h => (List.mem_cons_of_mem _ (List.mem_append_right _ h))) hown hK.1 hP 1 rfl rfl 5 (by decide) (hts (.fieldLink RX4 70 "EchoSeats$Text" "number" "I") (List.mem_of_getElem? (i := 2) rfl)) (fun _ h9 => h9) rfl dX4_readSource_16 ?_
    refine va_put (D := G) (ci := 3) (v := .int (r1.2 5)) (ty := .int) (C := RX3) (T := TX3) (N := 12) hx hb hts (fun w h => (List.mem_cons_of_mem _ (List.mem_append_left _ (List.mem_append_right _ h)))) tyX3 tyX3_ok nmX3 hown hK.1 hP hD hS 0 rfl rfl 2 (by decide) (hts (.fieldLink RX4 82 "EchoSeats$Scene" "sourceX" "I") (List.mem_of_getElem? (i := 3) rfl)) (fun _ h9 => h9) rfl (tyX3_ok 2 (by decide)) rfl rfl (Nat.le_of_ble_eq_true rfl) dX4_readSource_19 (fun H locs hP hD hS => ?_)
    have hP : va_P G vwCl [o3 A1 (upd c1 2 (r1.2 5)) A1_swallows A1_seatX A1_seatY A1_curtainX A1_curtainFrom A1_curtainTo, o4 A0 r1.2 A0_letters, (A0_letters, .inl (cI, 100, .inl c0_letters))] H := hP
    have hD : va_D A [o3 A1 (upd c1 2 (r1.2 5)) A1_swallows A1_seatX A1_seatY A1_curtainX A1_curtainFrom A1_curtainTo, o4 A0 r1.2 A0_letters, (A0_letters, .inl (cI, 100, .inl c0_letters))] := hD
    refine lv_aload_n hx hb dX4_readSource_22 rfl (lv_at hl 0 rfl) ?_
    refine lv_iconst (v := 0) hx hb dX4_readSource_23 (by decide) ?_
    refine lv_aload_n hx hb dX4_readSource_24 rfl (lv_at hl 1 rfl) ?_
    refine va_get (D := G) (ci := 3) (v := .int (c1 1)) (C := RX3) (T := TX3) (N := 12) hx hb hts (fun w h => (List.mem_cons_of_mem _ (List.mem_append_left _ (List.mem_append_right _ h)))) hown hK.1 hP 0 rfl rfl 1 (by decide) (hts (.fieldLink RX4 76 "EchoSeats$Scene" "breadth" "I") (List.mem_of_getElem? (i := 4) rfl)) (fun _ h9 => h9) rfl dX4_readSource_25 ?_
    obtain ⟨r3, hr3, hres⟩ := bi_1 hres
    refine x_ci (wr := [o3 A1 (upd c1 2 (r1.2 5)) A1_swallows A1_seatX A1_seatY A1_curtainX A1_curtainFrom A1_curtainTo]) (w2 := [o3 A1 (upd c1 2 (r1.2 5)) A1_swallows A1_seatX A1_seatY A1_curtainX A1_curtainFrom A1_curtainTo, o4 A0 r3.2 A0_letters, (A0_letters, .inl (cI, 100, .inl c0_letters))]) hP hD hS hA (va_runV (As := [.int 0, .int (c1 1)]) (rest := []) ⟨hx, hb, hml, hown, hts⟩ (kX4_readNumber l G cI cZ tl H.size _ A0 A0_letters r1.2 c0_letters 0 (c1 1) r3 rfl hr3) (cwV 2 hts gX4_readSource_X4_readNumber rfl rfl rfl hsX4_readNumber ⟨Nat.le_of_ble_eq_true rfl, Nat.le_of_ble_eq_true rfl⟩) ⟨PRW_blind, va_recv hK.1 hP (ci := 4) (q0 := 1) rfl rfl, PRW_at (hP.sub (ws' := [o4 A0 r1.2 A0_letters, (A0_letters, .inl (cI, 100, .inl c0_letters))]) [1, 2] rfl) (hD.sub (ws' := [o4 A0 r1.2 A0_letters, (A0_letters, .inl (cI, 100, .inl c0_letters))]) [1, 2] (by decide) rfl) hK⟩ rfl rfl hl.1 rfl (lv_room (Nat.le_of_ble_eq_true rfl)) dX4_readSource_28 ⟨Nat.zero_le _, Nat.zero_le _⟩) [1, 2] [0] [0, 1, 2] rfl rfl (by decide) (by decide) rfl rfl (by decide) (fun H locs hP hD hS => ?_)
    refine lv_if_ne (tgt := 36) hx hb dX4_readSource_31 (by decide) (fun h4 => ?_) (fun h4 => ?_)
    · have hres := ite_f hres h4
      refine lv_aload_n hx hb dX4_readSource_36 rfl (lv_at hl 1 rfl) ?_
      refine lv_aload_n hx hb dX4_readSource_37 rfl (lv_at hl 0 rfl) ?_
      refine va_get (D := G) (ci := 4) (v := .int (r3.2 5)) (C := RX4) (T := TX4) (N := 6) hx hb hts (fun w h => (List.mem_cons_of_mem _ (List.mem_append_right _ h))) hown hK.1 hP 1 rfl rfl 5 (by decide) (hts (.fieldLink RX4 70 "EchoSeats$Text" "number" "I") (List.mem_of_getElem? (i := 2) rfl)) (fun _ h9 => h9) rfl dX4_readSource_38 ?_
      refine va_put (D := G) (ci := 3) (v := .int (r3.2 5)) (ty := .int) (C := RX3) (T := TX3) (N := 12) hx hb hts (fun w h => (List.mem_cons_of_mem _ (List.mem_append_left _ (List.mem_append_right _ h)))) tyX3 tyX3_ok nmX3 hown hK.1 hP hD hS 0 rfl rfl 3 (by decide) (hts (.fieldLink RX4 85 "EchoSeats$Scene" "sourceY" "I") (List.mem_of_getElem? (i := 5) rfl)) (fun _ h9 => h9) rfl (tyX3_ok 3 (by decide)) rfl rfl (Nat.le_of_ble_eq_true rfl) dX4_readSource_41 (fun H locs hP hD hS => ?_)
      have hP : va_P G vwCl [o3 A1 (upd (upd c1 2 (r1.2 5)) 3 (r3.2 5)) A1_swallows A1_seatX A1_seatY A1_curtainX A1_curtainFrom A1_curtainTo, o4 A0 r3.2 A0_letters, (A0_letters, .inl (cI, 100, .inl c0_letters))] H := hP
      have hD : va_D A [o3 A1 (upd (upd c1 2 (r1.2 5)) 3 (r3.2 5)) A1_swallows A1_seatX A1_seatY A1_curtainX A1_curtainFrom A1_curtainTo, o4 A0 r3.2 A0_letters, (A0_letters, .inl (cI, 100, .inl c0_letters))] := hD
      refine lv_iconst (v := 1) hx hb dX4_readSource_44 (by decide) ?_
      obtain rfl := Option.some.inj hres
      exact W.zret hx hb hr (by decide) (fun t ht hW => ⟨⟨_, (), rfl, rfl, by rw [ht]; exact hP, hD⟩, hS.F ht⟩) hS.2.2 dX4_readSource_45
    · have hres := ite_t hres h4
      refine lv_iconst (v := 0) hx hb dX4_readSource_34 (by decide) ?_
      obtain rfl := Option.some.inj hres
      exact W.zret hx hb hr (by decide) (fun t ht hW => ⟨⟨_, (), rfl, rfl, by rw [ht]; exact hP, hD⟩, hS.F ht⟩) hS.2.2 dX4_readSource_35
  · have hres := ite_t hres h2
    refine lv_iconst (v := 0) hx hb dX4_readSource_12 (by decide) ?_
    obtain rfl := Option.some.inj hres
    exact W.zret hx hb hr (by decide) (fun t ht hW => ⟨⟨_, (), rfl, rfl, by rw [ht]; exact hP, hD⟩, hS.F ht⟩) hS.2.2 dX4_readSource_13
theorem hsX4_readSource : yX4_readSource.cls = RX4 ∧ yX4_readSource.cls ≠ "java/lang/invoke/MethodHandle" ∧ yX4_readSource.cls ≠ "java/lang/invoke/VarHandle" ∧ (parseMethodDescriptor yX4_readSource.desc).map (fun d => d.parameters.length) = some 1 := by decide +kernel
