set_option maxHeartbeats 4000000 in
set_option maxRecDepth 100000 in
theorem kX6_softTimes (l : Launch) (G : va_G) (cI cZ : ClassId) (tl : List (ClassId × FieldType)) (A0 A0_s A0_draft A0_kept A0_isKept A0_undone A0_seenI A0_seenJ A0_seenTime A0_text A0_kind A0_place A0_value A0_swallows A0_time A0_strength A0_which A0_told : Nat) (c0 c0_s : Nat → Int32) (x1 x2 : Int32) (res : Int32) (hres : fX6_softTimes c0 c0_s x1 x2 = some res) : Met l yX6_softTimes wsX6_softTimes rX6_softTimes (va_Pc [.ref A0, .int x1, .int x2] (PRO G cI cZ tl [o6 A0 c0 A0_s A0_draft A0_kept A0_isKept A0_undone A0_seenI A0_seenJ A0_seenTime A0_text A0_kind A0_place A0_value A0_swallows A0_time A0_strength A0_which A0_told, (A0_s, .inl (cI, 27, .inl c0_s))])) (Sp res) 0 0 (fun _ => False) := by
  refine Met.ofW (cc := cX6_softTimes) (maxL := 5) (ret := (some .int)) (by decide) rfl ?_
  intro p e s m args below meth c s₁ B hml hv
  obtain ⟨rfl, hP, hK⟩ := hv
  have hx := B.exec
  have hb := B.bytes
  have hr := B.returns
  have hts := atoms_spec (ws := wsX6_softTimes) B.pre
  have hown : s.vm.findClass RX6 = some m.cls := findClass_of_methodNamed B.named
  have hlocks := B.notSynchronized
  have hl := lv_entry ([.ref A0, .int x1, .int x2] : List Value) (n := 5) (Nat.le_of_ble_eq_true rfl)
  rw [lg_entry_eq]
  generalize (lg_sl ([.ref A0, .int x1, .int x2] : List Value) ++ List.replicate (5 - (lg_sl ([.ref A0, .int x1, .int x2] : List Value)).length) Slot.unset).toArray = ls at hl ⊢
  have hl : lv_has ls 5 [(0, .ref A0), (1, .int x1), (2, .int x2)] := hl
  refine lv_iconst (v := 0) hx hb dX6_softTimes_0 (by decide) ?_
  refine lv_istore_n (lv' := [(3, .int 0), (0, .ref A0), (1, .int x1), (2, .int x2)]) hx hb dX6_softTimes_1 rfl hl (by decide) rfl (fun ls hl => ?_)
  refine lv_iconst (v := 0) hx hb dX6_softTimes_2 (by decide) ?_
  refine lv_istore (lv' := [(4, .int 0), (3, .int 0), (0, .ref A0), (1, .int x1), (2, .int x2)]) hx hb dX6_softTimes_3 hl (by decide) rfl (fun ls hl => ?_)
  have Q5 : ∀ (v1_L5 : Int32) (v2_L5 : Int32) (n5 : Nat) (v3_L5 : Int32) (v4_L5 : Int32) (ls : Array Slot), LPX (fX6_softTimes_L5 c0 c0_s v1_L5 v2_L5) n5 (v3_L5, v4_L5) = some res → lv_has ls 5 [(0, .ref A0), (1, .int v1_L5), (2, .int v2_L5), (3, .int v3_L5), (4, .int v4_L5)] → WRO p l e wsX6_softTimes rX6_softTimes s m ([.ref A0, .int x1, .int x2] : List Value).toArray below meth c res (F0 m 5 ls []) := by
    intro v1_L5 v2_L5 n5
    induction n5 with
    | zero =>
      intro v3_L5 v4_L5 ls hres
      exact absurd (LPX_0.symm.trans hres) (fun h => by cases h)
    | succ n5 ih5 =>
      intro v3_L5 v4_L5 ls hres hl
      have hres := LPX_s.symm.trans hres
      refine lv_iload hx hb dX6_softTimes_5 (lv_at hl 4 rfl) ?_
      refine lv_iconst (v := 4) hx hb dX6_softTimes_7 (by decide) ?_
      refine lv_icmp_ge (tgt := 43) hx hb dX6_softTimes_8 (by decide) (fun h1 => ?_) (fun h1 => ?_)
      · have hres := ite_t hres h1
        refine lv_iload_n hx hb dX6_softTimes_43 rfl (lv_at hl 3 rfl) ?_
        obtain rfl := Option.some.inj hres
        exact W.iret hx hb hr (fun t ht hW => ⟨rfl, ht⟩) (fun q h => absurd h List.not_mem_nil) dX6_softTimes_44
      · have hres := ite_f hres h1
        refine lv_iload_n hx hb dX6_softTimes_11 rfl (lv_at hl 3 rfl) ?_
        refine lv_aload_n hx hb dX6_softTimes_12 rfl (lv_at hl 0 rfl) ?_
        refine va_get (D := G) (ci := 6) (v := .ref A0_s) (C := RX6) (T := TX6) (N := 22) hx hb hts (fun w h => (List.mem_cons_of_mem _ (List.mem_append_right _ h))) hown hK.1 hP 0 rfl rfl 0 (by decide) (hts (.fieldLink RX6 7 "EchoSeatsModel" "s" "[I") (List.mem_of_getElem? (i := 1) rfl)) (fun _ h9 => h9) rfl dX6_softTimes_13 ?_
        refine lv_iconst (v := 4) hx hb dX6_softTimes_16 (by decide) ?_
        refine lv_iload hx hb dX6_softTimes_17 (lv_at hl 4 rfl) ?_
        refine lv_iadd hx hb dX6_softTimes_19 ?_
        have g2 := gd_1 hres
        have hres := gd_2 hres
        refine x_iald hx hb hK hP 1 rfl (j := (Int32.toNatClampNeg (4 + v4_L5))) rfl g2 dX6_softTimes_20 ?_
        refine lv_if_le (tgt := 34) hx hb dX6_softTimes_21 (by decide) (fun h3 => ?_) (fun h3 => ?_)
        · have hres := ite_t hres h3
          refine lv_iconst (v := 0) hx hb dX6_softTimes_34 (by decide) ?_
          refine lv_iadd hx hb dX6_softTimes_35 ?_
          refine lv_topi (fun y4 ey4 => ?_)
          have hres := bnd_z ey4 hres
          refine lv_istore_n (lv' := [(3, .int y4), (0, .ref A0), (1, .int v1_L5), (2, .int v2_L5), (4, .int v4_L5)]) hx hb dX6_softTimes_36 rfl hl (by decide) rfl (fun ls hl => ?_)
          refine lv_iinc (v := (v4_L5 + 1)) (lv' := [(4, .int (v4_L5 + 1)), (3, .int y4), (0, .ref A0), (1, .int v1_L5), (2, .int v2_L5)]) hx hb dX6_softTimes_37 hl (k := 4) rfl rfl (by decide) rfl (fun ls hl => ?_)
          refine lv_goto (tgt := 5) hx hb dX6_softTimes_40 (by decide) ?_
          exact ih5 y4 (v4_L5 + 1) _ hres (lv_sub hl [2, 3, 4, 1, 0] rfl)
        · have hres := ite_f hres h3
          refine lv_iload hx hb dX6_softTimes_24 (lv_at hl 4 rfl) ?_
          refine lv_iload_n hx hb dX6_softTimes_26 rfl (lv_at hl 1 rfl) ?_
          refine lv_iload_n hx hb dX6_softTimes_27 rfl (lv_at hl 2 rfl) ?_
          obtain ⟨r5, hr5, hres⟩ := bi_1 hres
          refine x_cp (va_runS (As := [.int v4_L5, .int v1_L5, .int v2_L5]) (rest := [.int v3_L5]) ⟨hx, hb, hml, hown, hts⟩ (kX6_times l G cI cZ tl v4_L5 v1_L5 v2_L5 r5 hr5) (va_cwS 3 hts gX6_softTimes_X6_times rfl rfl rfl hsX6_times ⟨Nat.le_of_ble_eq_true rfl, Nat.le_of_ble_eq_true rfl⟩) ⟨PRO_blind, PRO_at va_P0 hK⟩ rfl rfl hl.1 rfl (lv_room (Nat.le_of_ble_eq_true rfl)) dX6_softTimes_28 ⟨Nat.zero_le _, Nat.zero_le _⟩) ?_
          refine lv_goto (tgt := 35) hx hb dX6_softTimes_31 (by decide) ?_
          refine lv_iadd hx hb dX6_softTimes_35 ?_
          refine lv_topi (fun y6 ey6 => ?_)
          have hres := bnd_z ey6 hres
          refine lv_istore_n (lv' := [(3, .int y6), (0, .ref A0), (1, .int v1_L5), (2, .int v2_L5), (4, .int v4_L5)]) hx hb dX6_softTimes_36 rfl hl (by decide) rfl (fun ls hl => ?_)
          refine lv_iinc (v := (v4_L5 + 1)) (lv' := [(4, .int (v4_L5 + 1)), (3, .int y6), (0, .ref A0), (1, .int v1_L5), (2, .int v2_L5)]) hx hb dX6_softTimes_37 hl (k := 4) rfl rfl (by decide) rfl (fun ls hl => ?_)
          refine lv_goto (tgt := 5) hx hb dX6_softTimes_40 (by decide) ?_
          exact ih5 y6 (v4_L5 + 1) _ hres (lv_sub hl [2, 3, 4, 1, 0] rfl)
  exact Q5 x1 x2 FU 0 0 _ hres (lv_sub hl [2, 3, 4, 1, 0] rfl)
theorem hsX6_softTimes : yX6_softTimes.cls = RX6 ∧ yX6_softTimes.cls ≠ "java/lang/invoke/MethodHandle" ∧ yX6_softTimes.cls ≠ "java/lang/invoke/VarHandle" ∧ (parseMethodDescriptor yX6_softTimes.desc).map (fun d => d.parameters.length) = some 2 := by decide +kernel
set_option maxHeartbeats 4000000 in
set_option maxRecDepth 100000 in
theorem kX6_mirror (l : Launch) (G : va_G) (cI cZ : ClassId) (tl : List (ClassId × FieldType)) (A0 A0_s A0_draft A0_kept A0_isKept A0_undone A0_seenI A0_seenJ A0_seenTime A0_text A0_kind A0_place A0_value A0_swallows A0_time A0_strength A0_which A0_told : Nat) (c0 c0_s : Nat → Int32) (x1 x2 x3 : Int32) (res : Int32) (hres : fX6_mirror c0 c0_s x1 x2 x3 = some res) : Met l yX6_mirror wsX6_mirror rX6_mirror (va_Pc [.ref A0, .int x1, .int x2, .int x3] (PRO G cI cZ tl [o6 A0 c0 A0_s A0_draft A0_kept A0_isKept A0_undone A0_seenI A0_seenJ A0_seenTime A0_text A0_kind A0_place A0_value A0_swallows A0_time A0_strength A0_which A0_told, (A0_s, .inl (cI, 27, .inl c0_s))])) (Sp res) 0 0 (fun _ => False) := by
  refine Met.ofW (cc := cX6_mirror) (maxL := 4) (ret := (some .int)) (by decide) rfl ?_
  intro p e s m args below meth c s₁ B hml hv
  obtain ⟨rfl, hP, hK⟩ := hv
  have hx := B.exec
  have hb := B.bytes
  have hr := B.returns
  have hts := atoms_spec (ws := wsX6_mirror) B.pre
  have hown : s.vm.findClass RX6 = some m.cls := findClass_of_methodNamed B.named
  have hlocks := B.notSynchronized
  have hl := lv_entry ([.ref A0, .int x1, .int x2, .int x3] : List Value) (n := 4) (Nat.le_of_ble_eq_true rfl)
  rw [lg_entry_eq]
  generalize (lg_sl ([.ref A0, .int x1, .int x2, .int x3] : List Value) ++ List.replicate (4 - (lg_sl ([.ref A0, .int x1, .int x2, .int x3] : List Value)).length) Slot.unset).toArray = ls at hl ⊢
  have hl : lv_has ls 4 [(0, .ref A0), (1, .int x1), (2, .int x2), (3, .int x3)] := hl
  refine lv_iload_n hx hb dX6_mirror_0 rfl (lv_at hl 1 rfl) ?_
  refine lv_iload_n hx hb dX6_mirror_1 rfl (lv_at hl 2 rfl) ?_
  obtain ⟨r1, hr1, hres⟩ := bi_1 hres
  refine x_cp (va_runS (As := [.int x1, .int x2]) (rest := []) ⟨hx, hb, hml, hown, hts⟩ (kX6_isImage l G cI cZ tl x1 x2 r1 hr1) (va_cwS 2 hts gX6_mirror_X6_isImage rfl rfl rfl hsX6_isImage ⟨Nat.le_of_ble_eq_true rfl, Nat.le_of_ble_eq_true rfl⟩) ⟨PRO_blind, PRO_at va_P0 hK⟩ rfl rfl hl.1 rfl (lv_room (Nat.le_of_ble_eq_true rfl)) dX6_mirror_2 ⟨Nat.zero_le _, Nat.zero_le _⟩) ?_
  refine lv_if_eq (tgt := 17) hx hb dX6_mirror_5 (by decide) (fun h2 => ?_) (fun h2 => ?_)
  · have hres := ite_t hres h2
    refine lv_ldc (v := (-1000000)) hx hb hown (hts (.constant RX6 145 (-1000000)) (List.mem_of_getElem? (i := 1) rfl)) dX6_mirror_17 ?_
    obtain rfl := Option.some.inj hres
    exact W.iret hx hb hr (fun t ht hW => ⟨rfl, ht⟩) (fun q h => absurd h List.not_mem_nil) dX6_mirror_19
  · have hres := ite_f hres h2
    refine lv_iload_n hx hb dX6_mirror_8 rfl (lv_at hl 3 rfl) ?_
    refine lv_iconst (v := 0) hx hb dX6_mirror_9 (by decide) ?_
    refine lv_iconst (v := 3) hx hb dX6_mirror_10 (by decide) ?_
    obtain ⟨r3, hr3, hres⟩ := bi_1 hres
    refine x_cp (va_runS (As := [.int x3, .int 0, .int 3]) (rest := []) ⟨hx, hb, hml, hown, hts⟩ (kX6_in l G cI cZ tl x3 0 3 r3 hr3) (va_cwS 3 hts gX6_mirror_X6_in rfl rfl rfl hsX6_in ⟨Nat.le_of_ble_eq_true rfl, Nat.le_of_ble_eq_true rfl⟩) ⟨PRO_blind, PRO_at va_P0 hK⟩ rfl rfl hl.1 rfl (lv_room (Nat.le_of_ble_eq_true rfl)) dX6_mirror_11 ⟨Nat.zero_le _, Nat.zero_le _⟩) ?_
    refine lv_if_ne (tgt := 20) hx hb dX6_mirror_14 (by decide) (fun h4 => ?_) (fun h4 => ?_)
    · have hres := ite_f hres h4
      refine lv_iload_n hx hb dX6_mirror_20 rfl (lv_at hl 3 rfl) ?_
      refine lv_if_ne (tgt := 43) hx hb dX6_mirror_21 (by decide) (fun h5 => ?_) (fun h5 => ?_)
      · have hres := ite_f hres h5
        refine lv_iload_n hx hb dX6_mirror_43 rfl (lv_at hl 3 rfl) ?_
        refine lv_iconst (v := 1) hx hb dX6_mirror_44 (by decide) ?_
        refine lv_icmp_ne (tgt := 67) hx hb dX6_mirror_45 (by decide) (fun h6 => ?_) (fun h6 => ?_)
        · have hres := ite_f hres h6
          refine lv_iload_n hx hb dX6_mirror_67 rfl (lv_at hl 3 rfl) ?_
          refine lv_iconst (v := 2) hx hb dX6_mirror_68 (by decide) ?_
          refine lv_icmp_ne (tgt := 84) hx hb dX6_mirror_69 (by decide) (fun h7 => ?_) (fun h7 => ?_)
          · have hres := ite_f hres h7
            refine lv_aload_n hx hb dX6_mirror_84 rfl (lv_at hl 0 rfl) ?_
            refine lv_iload_n hx hb dX6_mirror_85 rfl (lv_at hl 1 rfl) ?_
            refine lv_iload_n hx hb dX6_mirror_86 rfl (lv_at hl 2 rfl) ?_
            obtain ⟨r8, hr8, hres⟩ := bi_1 hres
            refine x_cp (va_runV (As := [.int x1, .int x2]) (rest := []) ⟨hx, hb, hml, hown, hts⟩ (kX6_softTimes l G cI cZ tl A0 A0_s A0_draft A0_kept A0_isKept A0_undone A0_seenI A0_seenJ A0_seenTime A0_text A0_kind A0_place A0_value A0_swallows A0_time A0_strength A0_which A0_told c0 c0_s x1 x2 r8 hr8) (cwV 2 hts gX6_mirror_X6_softTimes rfl rfl rfl hsX6_softTimes ⟨Nat.le_of_ble_eq_true rfl, Nat.le_of_ble_eq_true rfl⟩) ⟨PRO_blind, va_recv hK.1 hP (ci := 6) (q0 := 0) rfl rfl, PRO_at (hP.sub (ws' := [o6 A0 c0 A0_s A0_draft A0_kept A0_isKept A0_undone A0_seenI A0_seenJ A0_seenTime A0_text A0_kind A0_place A0_value A0_swallows A0_time A0_strength A0_which A0_told, (A0_s, .inl (cI, 27, .inl c0_s))]) [0, 1] rfl) hK⟩ rfl rfl hl.1 rfl (lv_room (Nat.le_of_ble_eq_true rfl)) dX6_mirror_87 ⟨Nat.zero_le _, Nat.zero_le _⟩) ?_
            obtain rfl := Option.some.inj hres
            exact W.iret hx hb hr (fun t ht hW => ⟨rfl, ht⟩) (fun q h => absurd h List.not_mem_nil) dX6_mirror_90
          · have hres := ite_t hres h7
            refine lv_iload_n hx hb dX6_mirror_72 rfl (lv_at hl 1 rfl) ?_
            obtain ⟨r9, hr9, hres⟩ := bi_1 hres
            refine x_cp (va_runS (As := [.int x1]) (rest := []) ⟨hx, hb, hml, hown, hts⟩ (kX6_size l G cI cZ tl x1 r9 hr9) (va_cwS 1 hts gX6_mirror_X6_size rfl rfl rfl hsX6_size ⟨Nat.le_of_ble_eq_true rfl, Nat.le_of_ble_eq_true rfl⟩) ⟨PRO_blind, PRO_at va_P0 hK⟩ rfl rfl hl.1 rfl (lv_room (Nat.le_of_ble_eq_true rfl)) dX6_mirror_73 ⟨Nat.zero_le _, Nat.zero_le _⟩) ?_
            refine lv_iload_n hx hb dX6_mirror_76 rfl (lv_at hl 2 rfl) ?_
            obtain ⟨r10, hr10, hres⟩ := bi_1 hres
            refine x_cp (va_runS (As := [.int x2]) (rest := [.int r9]) ⟨hx, hb, hml, hown, hts⟩ (kX6_size l G cI cZ tl x2 r10 hr10) (va_cwS 1 hts gX6_mirror_X6_size rfl rfl rfl hsX6_size ⟨Nat.le_of_ble_eq_true rfl, Nat.le_of_ble_eq_true rfl⟩) ⟨PRO_blind, PRO_at va_P0 hK⟩ rfl rfl hl.1 rfl (lv_room (Nat.le_of_ble_eq_true rfl)) dX6_mirror_77 ⟨Nat.zero_le _, Nat.zero_le _⟩) ?_
            refine lv_iadd hx hb dX6_mirror_80 ?_
            refine lv_goto (tgt := 90) hx hb dX6_mirror_81 (by decide) ?_
            obtain rfl := Option.some.inj hres
            exact W.iret hx hb hr (fun t ht hW => ⟨rfl, ht⟩) (fun q h => absurd h List.not_mem_nil) dX6_mirror_90
        · have hres := ite_t hres h6
          refine lv_iload_n hx hb dX6_mirror_48 rfl (lv_at hl 2 rfl) ?_
          refine lv_aload_n hx hb dX6_mirror_49 rfl (lv_at hl 0 rfl) ?_
          refine va_get (D := G) (ci := 6) (v := .ref A0_s) (C := RX6) (T := TX6) (N := 22) hx hb hts (fun w h => (List.mem_cons_of_mem _ (List.mem_append_right _ h))) hown hK.1 hP 0 rfl rfl 0 (by decide) (hts (.fieldLink RX6 7 "EchoSeatsModel" "s" "[I") (List.mem_of_getElem? (i := 2) rfl)) (fun _ h9 => h9) rfl dX6_mirror_50 ?_
          refine lv_iconst (v := 1) hx hb dX6_mirror_53 (by decide) ?_
          refine x_iald hx hb hK hP 1 rfl (j := 1) (by decide) (by decide) dX6_mirror_54 ?_
          refine lv_aload_n hx hb dX6_mirror_55 rfl (lv_at hl 0 rfl) ?_
          refine va_get (D := G) (ci := 6) (v := .ref A0_s) (C := RX6) (T := TX6) (N := 22) hx hb hts (fun w h => (List.mem_cons_of_mem _ (List.mem_append_right _ h))) hown hK.1 hP 0 rfl rfl 0 (by decide) (hts (.fieldLink RX6 7 "EchoSeatsModel" "s" "[I") (List.mem_of_getElem? (i := 2) rfl)) (fun _ h9 => h9) rfl dX6_mirror_56 ?_
          refine lv_iconst (v := 3) hx hb dX6_mirror_59 (by decide) ?_
          refine x_iald hx hb hK hP 1 rfl (j := 3) (by decide) (by decide) dX6_mirror_60 ?_
          obtain ⟨r11, hr11, hres⟩ := bi_1 hres
          refine x_cp (va_runS (As := [.int x2, .int (c0_s 1), .int (c0_s 3)]) (rest := []) ⟨hx, hb, hml, hown, hts⟩ (kX6_mirrored l G cI cZ tl x2 (c0_s 1) (c0_s 3) r11 hr11) (va_cwS 3 hts gX6_mirror_X6_mirrored rfl rfl rfl hsX6_mirrored ⟨Nat.le_of_ble_eq_true rfl, Nat.le_of_ble_eq_true rfl⟩) ⟨PRO_blind, PRO_at va_P0 hK⟩ rfl rfl hl.1 rfl (lv_room (Nat.le_of_ble_eq_true rfl)) dX6_mirror_61 ⟨Nat.zero_le _, Nat.zero_le _⟩) ?_
          refine lv_goto (tgt := 90) hx hb dX6_mirror_64 (by decide) ?_
          obtain rfl := Option.some.inj hres
          exact W.iret hx hb hr (fun t ht hW => ⟨rfl, ht⟩) (fun q h => absurd h List.not_mem_nil) dX6_mirror_90
      · have hres := ite_t hres h5
        refine lv_iload_n hx hb dX6_mirror_24 rfl (lv_at hl 1 rfl) ?_
        refine lv_aload_n hx hb dX6_mirror_25 rfl (lv_at hl 0 rfl) ?_
        refine va_get (D := G) (ci := 6) (v := .ref A0_s) (C := RX6) (T := TX6) (N := 22) hx hb hts (fun w h => (List.mem_cons_of_mem _ (List.mem_append_right _ h))) hown hK.1 hP 0 rfl rfl 0 (by decide) (hts (.fieldLink RX6 7 "EchoSeatsModel" "s" "[I") (List.mem_of_getElem? (i := 2) rfl)) (fun _ h9 => h9) rfl dX6_mirror_26 ?_
        refine lv_iconst (v := 0) hx hb dX6_mirror_29 (by decide) ?_
        refine x_iald hx hb hK hP 1 rfl (j := 0) (by decide) (by decide) dX6_mirror_30 ?_
        refine lv_aload_n hx hb dX6_mirror_31 rfl (lv_at hl 0 rfl) ?_
        refine va_get (D := G) (ci := 6) (v := .ref A0_s) (C := RX6) (T := TX6) (N := 22) hx hb hts (fun w h => (List.mem_cons_of_mem _ (List.mem_append_right _ h))) hown hK.1 hP 0 rfl rfl 0 (by decide) (hts (.fieldLink RX6 7 "EchoSeatsModel" "s" "[I") (List.mem_of_getElem? (i := 2) rfl)) (fun _ h9 => h9) rfl dX6_mirror_32 ?_
        refine lv_iconst (v := 2) hx hb dX6_mirror_35 (by decide) ?_
        refine x_iald hx hb hK hP 1 rfl (j := 2) (by decide) (by decide) dX6_mirror_36 ?_
        obtain ⟨r12, hr12, hres⟩ := bi_1 hres
        refine x_cp (va_runS (As := [.int x1, .int (c0_s 0), .int (c0_s 2)]) (rest := []) ⟨hx, hb, hml, hown, hts⟩ (kX6_mirrored l G cI cZ tl x1 (c0_s 0) (c0_s 2) r12 hr12) (va_cwS 3 hts gX6_mirror_X6_mirrored rfl rfl rfl hsX6_mirrored ⟨Nat.le_of_ble_eq_true rfl, Nat.le_of_ble_eq_true rfl⟩) ⟨PRO_blind, PRO_at va_P0 hK⟩ rfl rfl hl.1 rfl (lv_room (Nat.le_of_ble_eq_true rfl)) dX6_mirror_37 ⟨Nat.zero_le _, Nat.zero_le _⟩) ?_
        refine lv_goto (tgt := 90) hx hb dX6_mirror_40 (by decide) ?_
        obtain rfl := Option.some.inj hres
        exact W.iret hx hb hr (fun t ht hW => ⟨rfl, ht⟩) (fun q h => absurd h List.not_mem_nil) dX6_mirror_90
    · have hres := ite_t hres h4
      refine lv_ldc (v := (-1000000)) hx hb hown (hts (.constant RX6 145 (-1000000)) (List.mem_of_getElem? (i := 1) rfl)) dX6_mirror_17 ?_
      obtain rfl := Option.some.inj hres
      exact W.iret hx hb hr (fun t ht hW => ⟨rfl, ht⟩) (fun q h => absurd h List.not_mem_nil) dX6_mirror_19
theorem hsX6_mirror : yX6_mirror.cls = RX6 ∧ yX6_mirror.cls ≠ "java/lang/invoke/MethodHandle" ∧ yX6_mirror.cls ≠ "java/lang/invoke/VarHandle" ∧ (parseMethodDescriptor yX6_mirror.desc).map (fun d => d.parameters.length) = some 3 := by decide +kernel
set_option maxHeartbeats 4000000 in
set_option maxRecDepth 100000 in
theorem kX6_moves (l : Launch) (G : va_G) (cI cZ : ClassId) (tl : List (ClassId × FieldType)) (sz : Nat) (A : Nat → Prop) (A0 A0_s A0_draft A0_kept A0_isKept A0_undone A0_seenI A0_seenJ A0_seenTime A0_text A0_kind A0_place A0_value A0_swallows A0_time A0_strength A0_which A0_told : Nat) (c0 c0_s c0_undone : Nat → Int32) (x1 x2 : Int32) (res : Int32 × (Nat → Int32) × (Nat → Int32) × (Nat → Int32)) (hAe : A = va_A [o6 A0 c0 A0_s A0_draft A0_kept A0_isKept A0_undone A0_seenI A0_seenJ A0_seenTime A0_text A0_kind A0_place A0_value A0_swallows A0_time A0_strength A0_which A0_told, (A0_s, .inl (cI, 27, .inl c0_s)), (A0_undone, .inl (cI, 40, .inl c0_undone))] sz) (hres : fX6_moves c0 c0_s c0_undone x1 x2 = some res) : Met l yX6_moves wsX6_moves rX6_moves (va_Pc [.ref A0, .int x1, .int x2] (PRW G cI cZ tl [o6 A0 c0 A0_s A0_draft A0_kept A0_isKept A0_undone A0_seenI A0_seenJ A0_seenTime A0_text A0_kind A0_place A0_value A0_swallows A0_time A0_strength A0_which A0_told, (A0_s, .inl (cI, 27, .inl c0_s)), (A0_undone, .inl (cI, 40, .inl c0_undone))] sz)) (Qiw res.1 G A [o6 A0 res.2.1 A0_s A0_draft A0_kept A0_isKept A0_undone A0_seenI A0_seenJ A0_seenTime A0_text A0_kind A0_place A0_value A0_swallows A0_time A0_strength A0_which A0_told, (A0_s, .inl (cI, 27, .inl res.2.2.1)), (A0_undone, .inl (cI, 40, .inl res.2.2.2))]) 0 0 A := by
  refine Met.ofW (cc := cX6_moves) (maxL := 4) (ret := (some .int)) (by decide) rfl ?_
  intro p e s m args below meth c s₁ B hml hv
  obtain ⟨rfl, hsz, hP, hK, hD0⟩ := hv
  have hx := B.exec
  have hb := B.bytes
  have hr := B.returns
  have hts := atoms_spec (ws := wsX6_moves) B.pre
  have hown : s.vm.findClass RX6 = some m.cls := findClass_of_methodNamed B.named
  have hlocks := B.notSynchronized
  subst hsz
  have hD : va_D A [o6 A0 c0 A0_s A0_draft A0_kept A0_isKept A0_undone A0_seenI A0_seenJ A0_seenTime A0_text A0_kind A0_place A0_value A0_swallows A0_time A0_strength A0_which A0_told, (A0_s, .inl (cI, 27, .inl c0_s)), (A0_undone, .inl (cI, 40, .inl c0_undone))] := by rw [hAe]; exact hD0.self
  have hA : ∀ q : Nat, s.heap.size ≤ q → A q := fun q h => by rw [hAe]; exact Or.inr h
  clear hAe hD0
  have hS : va_S A s.heap s.heap [] := va_S.rf
  have hl := lv_entry ([.ref A0, .int x1, .int x2] : List Value) (n := 4) (Nat.le_of_ble_eq_true rfl)
  rw [lg_entry_eq]
  generalize (lg_sl ([.ref A0, .int x1, .int x2] : List Value) ++ List.replicate (4 - (lg_sl ([.ref A0, .int x1, .int x2] : List Value)).length) Slot.unset).toArray = ls at hl ⊢
  have hl : lv_has ls 4 [(0, .ref A0), (1, .int x1), (2, .int x2)] := hl
  refine lv_aload_n hx hb dX6_moves_0 rfl (lv_at hl 0 rfl) ?_
  refine lv_iload_n hx hb dX6_moves_1 rfl (lv_at hl 1 rfl) ?_
  refine lv_iload_n hx hb dX6_moves_2 rfl (lv_at hl 2 rfl) ?_
  obtain ⟨r1, hr1, hres⟩ := bi_1 hres
  refine x_cp (va_runV (As := [.int x1, .int x2]) (rest := []) ⟨hx, hb, hml, hown, hts⟩ (kX6_isWithin l G cI cZ tl A0 A0_s A0_draft A0_kept A0_isKept A0_undone A0_seenI A0_seenJ A0_seenTime A0_text A0_kind A0_place A0_value A0_swallows A0_time A0_strength A0_which A0_told c0 c0_s x1 x2 r1 hr1) (cwV 2 hts gX6_moves_X6_isWithin rfl rfl rfl hsX6_isWithin ⟨Nat.le_of_ble_eq_true rfl, Nat.le_of_ble_eq_true rfl⟩) ⟨PRO_blind, va_recv hK.1 hP (ci := 6) (q0 := 0) rfl rfl, PRO_at (hP.sub (ws' := [o6 A0 c0 A0_s A0_draft A0_kept A0_isKept A0_undone A0_seenI A0_seenJ A0_seenTime A0_text A0_kind A0_place A0_value A0_swallows A0_time A0_strength A0_which A0_told, (A0_s, .inl (cI, 27, .inl c0_s))]) [0, 1] rfl) hK⟩ rfl rfl hl.1 rfl (lv_room (Nat.le_of_ble_eq_true rfl)) dX6_moves_3 ⟨Nat.zero_le _, Nat.zero_le _⟩) ?_
  refine lv_if_ne (tgt := 11) hx hb dX6_moves_6 (by decide) (fun h2 => ?_) (fun h2 => ?_)
  · have hres := ite_f hres h2
    refine lv_aload_n hx hb dX6_moves_11 rfl (lv_at hl 0 rfl) ?_
    obtain ⟨r3, hr3, hres⟩ := bi_1 hres
    refine x_cp (va_runV (As := []) (rest := []) ⟨hx, hb, hml, hown, hts⟩ (kX6_sourceAt l G cI cZ tl A0 A0_s A0_draft A0_kept A0_isKept A0_undone A0_seenI A0_seenJ A0_seenTime A0_text A0_kind A0_place A0_value A0_swallows A0_time A0_strength A0_which A0_told c0 c0_s r3 hr3) (cwV 0 hts gX6_moves_X6_sourceAt rfl rfl rfl hsX6_sourceAt ⟨Nat.le_of_ble_eq_true rfl, Nat.le_of_ble_eq_true rfl⟩) ⟨PRO_blind, va_recv hK.1 hP (ci := 6) (q0 := 0) rfl rfl, PRO_at (hP.sub (ws' := [o6 A0 c0 A0_s A0_draft A0_kept A0_isKept A0_undone A0_seenI A0_seenJ A0_seenTime A0_text A0_kind A0_place A0_value A0_swallows A0_time A0_strength A0_which A0_told, (A0_s, .inl (cI, 27, .inl c0_s))]) [0, 1] rfl) hK⟩ rfl rfl hl.1 rfl (lv_room (Nat.le_of_ble_eq_true rfl)) dX6_moves_12 ⟨Nat.zero_le _, Nat.zero_le _⟩) ?_
    refine lv_istore_n (lv' := [(3, .int r3), (0, .ref A0), (1, .int x1), (2, .int x2)]) hx hb dX6_moves_15 rfl hl (by decide) rfl (fun ls hl => ?_)
    refine lv_iload_n hx hb dX6_moves_16 rfl (lv_at hl 0 rfl) ?_
    refine lv_bipush (v := 100) hx hb dX6_moves_17 (by decide) ?_
    refine lv_iload_n hx hb dX6_moves_19 rfl (lv_at hl 2 rfl) ?_
    refine lv_imul hx hb dX6_moves_20 ?_
    refine lv_iload_n hx hb dX6_moves_21 rfl (lv_at hl 3 rfl) ?_
    refine lv_iadd hx hb dX6_moves_22 ?_
    refine lv_icmp_ne (tgt := 29) hx hb dX6_moves_23 (by decide) (fun h4 => ?_) (fun h4 => ?_)
    · have hres := ite_f hres h4
      refine lv_aload_n hx hb dX6_moves_29 rfl (lv_at hl 1 rfl) ?_
      refine lv_iconst (v := 2) hx hb dX6_moves_30 (by decide) ?_
      refine lv_iconst (v := 3) hx hb dX6_moves_31 (by decide) ?_
      obtain ⟨r5, hr5, hres⟩ := bi_1 hres
      refine x_cv (wr := []) (w2 := [o6 A0 r5.1 A0_s A0_draft A0_kept A0_isKept A0_undone A0_seenI A0_seenJ A0_seenTime A0_text A0_kind A0_place A0_value A0_swallows A0_time A0_strength A0_which A0_told, (A0_s, .inl (cI, 27, .inl c0_s)), (A0_undone, .inl (cI, 40, .inl r5.2))]) hP hD hS hA (va_runV (As := [.int 2, .int 3]) (rest := []) ⟨hx, hb, hml, hown, hts⟩ (kX6_known l G cI cZ tl s.heap.size _ A0 A0_s A0_draft A0_kept A0_isKept A0_undone A0_seenI A0_seenJ A0_seenTime A0_text A0_kind A0_place A0_value A0_swallows A0_time A0_strength A0_which A0_told c0 c0_undone c0_s 2 3 r5 rfl hr5) (cwV 2 hts gX6_moves_X6_known rfl rfl rfl hsX6_known ⟨Nat.le_of_ble_eq_true rfl, Nat.le_of_ble_eq_true rfl⟩) ⟨PRW_blind, va_recv hK.1 hP (ci := 6) (q0 := 0) rfl rfl, PRW_at (hP.sub (ws' := [o6 A0 c0 A0_s A0_draft A0_kept A0_isKept A0_undone A0_seenI A0_seenJ A0_seenTime A0_text A0_kind A0_place A0_value A0_swallows A0_time A0_strength A0_which A0_told, (A0_undone, .inl (cI, 40, .inl c0_undone)), (A0_s, .inl (cI, 27, .inl c0_s))]) [0, 2, 1] rfl) (hD.sub (ws' := [o6 A0 c0 A0_s A0_draft A0_kept A0_isKept A0_undone A0_seenI A0_seenJ A0_seenTime A0_text A0_kind A0_place A0_value A0_swallows A0_time A0_strength A0_which A0_told, (A0_undone, .inl (cI, 40, .inl c0_undone)), (A0_s, .inl (cI, 27, .inl c0_s))]) [0, 2, 1] (by decide) rfl) hK⟩ rfl rfl hl.1 rfl (lv_room (Nat.le_of_ble_eq_true rfl)) dX6_moves_32 ⟨Nat.zero_le _, Nat.zero_le _⟩) [0, 2, 1] [] [0, 2, 1] rfl rfl (by decide) (by decide) rfl rfl (by decide) (fun H locs hP hD hS => ?_)
      refine lv_aload_n hx hb dX6_moves_35 rfl (lv_at hl 1 rfl) ?_
      refine va_get (D := G) (ci := 6) (v := .ref A0_s) (C := RX6) (T := TX6) (N := 22) hx hb hts (fun w h => (List.mem_cons_of_mem _ (List.mem_append_right _ h))) hown hK.1 hP 0 rfl rfl 0 (by decide) (hts (.fieldLink RX6 7 "EchoSeatsModel" "s" "[I") (List.mem_of_getElem? (i := 1) rfl)) (fun _ h9 => h9) rfl dX6_moves_36 ?_
      refine lv_iconst (v := 2) hx hb dX6_moves_39 (by decide) ?_
      refine lv_iload_n hx hb dX6_moves_40 rfl (lv_at hl 2 rfl) ?_
      refine x_iast hx hb hK hP hD hS 1 rfl (j := 2) (by decide) (by decide) dX6_moves_41 (fun H locs hP hD hS => ?_)
      have hP : va_P G vwCl [o6 A0 r5.1 A0_s A0_draft A0_kept A0_isKept A0_undone A0_seenI A0_seenJ A0_seenTime A0_text A0_kind A0_place A0_value A0_swallows A0_time A0_strength A0_which A0_told, (A0_s, .inl (cI, 27, .inl (upd c0_s 2 x1))), (A0_undone, .inl (cI, 40, .inl r5.2))] H := hP
      have hD : va_D A [o6 A0 r5.1 A0_s A0_draft A0_kept A0_isKept A0_undone A0_seenI A0_seenJ A0_seenTime A0_text A0_kind A0_place A0_value A0_swallows A0_time A0_strength A0_which A0_told, (A0_s, .inl (cI, 27, .inl (upd c0_s 2 x1))), (A0_undone, .inl (cI, 40, .inl r5.2))] := hD
      refine lv_aload_n hx hb dX6_moves_42 rfl (lv_at hl 1 rfl) ?_
      refine va_get (D := G) (ci := 6) (v := .ref A0_s) (C := RX6) (T := TX6) (N := 22) hx hb hts (fun w h => (List.mem_cons_of_mem _ (List.mem_append_right _ h))) hown hK.1 hP 0 rfl rfl 0 (by decide) (hts (.fieldLink RX6 7 "EchoSeatsModel" "s" "[I") (List.mem_of_getElem? (i := 1) rfl)) (fun _ h9 => h9) rfl dX6_moves_43 ?_
      refine lv_iconst (v := 3) hx hb dX6_moves_46 (by decide) ?_
      refine lv_iload_n hx hb dX6_moves_47 rfl (lv_at hl 3 rfl) ?_
      refine x_iast hx hb hK hP hD hS 1 rfl (j := 3) (by decide) (by decide) dX6_moves_48 (fun H locs hP hD hS => ?_)
      have hP : va_P G vwCl [o6 A0 r5.1 A0_s A0_draft A0_kept A0_isKept A0_undone A0_seenI A0_seenJ A0_seenTime A0_text A0_kind A0_place A0_value A0_swallows A0_time A0_strength A0_which A0_told, (A0_s, .inl (cI, 27, .inl (upd (upd c0_s 2 x1) 3 x2))), (A0_undone, .inl (cI, 40, .inl r5.2))] H := hP
      have hD : va_D A [o6 A0 r5.1 A0_s A0_draft A0_kept A0_isKept A0_undone A0_seenI A0_seenJ A0_seenTime A0_text A0_kind A0_place A0_value A0_swallows A0_time A0_strength A0_which A0_told, (A0_s, .inl (cI, 27, .inl (upd (upd c0_s 2 x1) 3 x2))), (A0_undone, .inl (cI, 40, .inl r5.2))] := hD
      refine lv_iload_n hx hb dX6_moves_49 rfl (lv_at hl 0 rfl) ?_
      obtain rfl := Option.some.inj hres
      exact W.iret hx hb hr (fun t ht hW => ⟨⟨_, (), rfl, rfl, by rw [ht]; exact hP, hD⟩, hS.F ht⟩) hS.2.2 dX6_moves_50
    · have hres := ite_t hres h4
      refine lv_bipush (v := (-2)) hx hb dX6_moves_26 (by decide) ?_
      obtain rfl := Option.some.inj hres
      exact W.iret hx hb hr (fun t ht hW => ⟨⟨_, (), rfl, rfl, by rw [ht]; exact hP, hD⟩, hS.F ht⟩) hS.2.2 dX6_moves_28
  · have hres := ite_t hres h2
    refine lv_iconst (v := (-1)) hx hb dX6_moves_9 (by decide) ?_
    obtain rfl := Option.some.inj hres
    exact W.iret hx hb hr (fun t ht hW => ⟨⟨_, (), rfl, rfl, by rw [ht]; exact hP, hD⟩, hS.F ht⟩) hS.2.2 dX6_moves_10
theorem hsX6_moves : yX6_moves.cls = RX6 ∧ yX6_moves.cls ≠ "java/lang/invoke/MethodHandle" ∧ yX6_moves.cls ≠ "java/lang/invoke/VarHandle" ∧ (parseMethodDescriptor yX6_moves.desc).map (fun d => d.parameters.length) = some 2 := by decide +kernel
set_option maxHeartbeats 4000000 in
set_option maxRecDepth 100000 in
theorem kX6_numbered (l : Launch) (G : va_G) (cI cZ : ClassId) (tl : List (ClassId × FieldType)) (sz : Nat) (A : Nat → Prop) (A0 A0_s A0_draft A0_kept A0_isKept A0_undone A0_seenI A0_seenJ A0_seenTime A0_text A0_kind A0_place A0_value A0_swallows A0_time A0_strength A0_which A0_told : Nat) (c0 c0_text c0_kind c0_value : Nat → Int32) (x1 : Int32) (res : Int32 × (Nat → Int32) × (Nat → Int32)) (hAe : A = va_A [o6 A0 c0 A0_s A0_draft A0_kept A0_isKept A0_undone A0_seenI A0_seenJ A0_seenTime A0_text A0_kind A0_place A0_value A0_swallows A0_time A0_strength A0_which A0_told, (A0_text, .inl (cI, 100, .inl c0_text)), (A0_kind, .inl (cI, 100, .inl c0_kind)), (A0_value, .inl (cI, 100, .inl c0_value))] sz) (hres : fX6_numbered c0 c0_text c0_kind c0_value x1 = some res) : Met l yX6_numbered wsX6_numbered rX6_numbered (va_Pc [.ref A0, .int x1] (PRW G cI cZ tl [o6 A0 c0 A0_s A0_draft A0_kept A0_isKept A0_undone A0_seenI A0_seenJ A0_seenTime A0_text A0_kind A0_place A0_value A0_swallows A0_time A0_strength A0_which A0_told, (A0_text, .inl (cI, 100, .inl c0_text)), (A0_kind, .inl (cI, 100, .inl c0_kind)), (A0_value, .inl (cI, 100, .inl c0_value))] sz)) (Qiw res.1 G A [o6 A0 c0 A0_s A0_draft A0_kept A0_isKept A0_undone A0_seenI A0_seenJ A0_seenTime A0_text A0_kind A0_place A0_value A0_swallows A0_time A0_strength A0_which A0_told, (A0_text, .inl (cI, 100, .inl c0_text)), (A0_kind, .inl (cI, 100, .inl res.2.1)), (A0_value, .inl (cI, 100, .inl res.2.2))]) 0 0 A := by
  refine Met.ofW (cc := cX6_numbered) (maxL := 5) (ret := (some .int)) (by decide) rfl ?_
  intro p e s m args below meth c s₁ B hml hv
  obtain ⟨rfl, hsz, hP, hK, hD0⟩ := hv
  have hx := B.exec
  have hb := B.bytes
  have hr := B.returns
  have hts := atoms_spec (ws := wsX6_numbered) B.pre
  have hown : s.vm.findClass RX6 = some m.cls := findClass_of_methodNamed B.named
  have hlocks := B.notSynchronized
  subst hsz
  have hD : va_D A [o6 A0 c0 A0_s A0_draft A0_kept A0_isKept A0_undone A0_seenI A0_seenJ A0_seenTime A0_text A0_kind A0_place A0_value A0_swallows A0_time A0_strength A0_which A0_told, (A0_text, .inl (cI, 100, .inl c0_text)), (A0_kind, .inl (cI, 100, .inl c0_kind)), (A0_value, .inl (cI, 100, .inl c0_value))] := by rw [hAe]; exact hD0.self
  have hA : ∀ q : Nat, s.heap.size ≤ q → A q := fun q h => by rw [hAe]; exact Or.inr h
  clear hAe hD0
  have hS : va_S A s.heap s.heap [] := va_S.rf
  have hl := lv_entry ([.ref A0, .int x1] : List Value) (n := 5) (Nat.le_of_ble_eq_true rfl)
  rw [lg_entry_eq]
  generalize (lg_sl ([.ref A0, .int x1] : List Value) ++ List.replicate (5 - (lg_sl ([.ref A0, .int x1] : List Value)).length) Slot.unset).toArray = ls at hl ⊢
  have hl : lv_has ls 5 [(0, .ref A0), (1, .int x1)] := hl
  have J84 : ∀ (v2_j84 : Int32) (v3_j84 : Int32) (z0_j84 : Int32) (e0_kind_j84 : (Nat → Int32)) (e0_value_j84 : (Nat → Int32)) (H : Heap) (locs : List Loc) (ls : Array Slot), fX6_numbered_j84 c0 c0_text v2_j84 v3_j84 z0_j84 e0_kind_j84 e0_value_j84 = some res → va_P G vwCl [o6 A0 c0 A0_s A0_draft A0_kept A0_isKept A0_undone A0_seenI A0_seenJ A0_seenTime A0_text A0_kind A0_place A0_value A0_swallows A0_time A0_strength A0_which A0_told, (A0_text, .inl (cI, 100, .inl c0_text)), (A0_kind, .inl (cI, 100, .inl e0_kind_j84)), (A0_value, .inl (cI, 100, .inl e0_value_j84))] H → va_D A [o6 A0 c0 A0_s A0_draft A0_kept A0_isKept A0_undone A0_seenI A0_seenJ A0_seenTime A0_text A0_kind A0_place A0_value A0_swallows A0_time A0_strength A0_which A0_told, (A0_text, .inl (cI, 100, .inl c0_text)), (A0_kind, .inl (cI, 100, .inl e0_kind_j84)), (A0_value, .inl (cI, 100, .inl e0_value_j84))] → va_S A s.heap H locs → lv_has ls 5 [(0, .ref A0), (2, .int v2_j84), (3, .int v3_j84)] → WRW p l e wsX6_numbered rX6_numbered s m ([.ref A0, .int x1] : List Value).toArray below meth c H locs (Qiw res.1 G A [o6 A0 c0 A0_s A0_draft A0_kept A0_isKept A0_undone A0_seenI A0_seenJ A0_seenTime A0_text A0_kind A0_place A0_value A0_swallows A0_time A0_strength A0_which A0_told, (A0_text, .inl (cI, 100, .inl c0_text)), (A0_kind, .inl (cI, 100, .inl res.2.1)), (A0_value, .inl (cI, 100, .inl res.2.2))]) A (F0 m 84 ls [.int z0_j84]) := by
    intro v2_j84 v3_j84 z0_j84 e0_kind_j84 e0_value_j84 H locs ls hres hP hD hS hl
    refine lv_istore (lv' := [(4, .int z0_j84), (0, .ref A0), (2, .int v2_j84), (3, .int v3_j84)]) hx hb dX6_numbered_84 hl (by decide) rfl (fun ls hl => ?_)
    refine lv_aload_n hx hb dX6_numbered_86 rfl (lv_at hl 1 rfl) ?_
    refine va_get (D := G) (ci := 6) (v := .ref A0_kind) (C := RX6) (T := TX6) (N := 22) hx hb hts (fun w h => (List.mem_cons_of_mem _ (List.mem_append_right _ h))) hown hK.1 hP 0 rfl rfl 12 (by decide) (hts (.fieldLink RX6 38 "EchoSeatsModel" "kind" "[I") (List.mem_of_getElem? (i := 3) rfl)) (fun _ h9 => h9) rfl dX6_numbered_87 ?_
    refine lv_aload_n hx hb dX6_numbered_90 rfl (lv_at hl 1 rfl) ?_
    refine va_get (D := G) (ci := 6) (v := .int (c0 15)) (C := RX6) (T := TX6) (N := 22) hx hb hts (fun w h => (List.mem_cons_of_mem _ (List.mem_append_right _ h))) hown hK.1 hP 0 rfl rfl 15 (by decide) (hts (.fieldLink RX6 90 "EchoSeatsModel" "tokens" "I") (List.mem_of_getElem? (i := 4) rfl)) (fun _ h9 => h9) rfl dX6_numbered_91 ?_
    refine lv_iload hx hb dX6_numbered_94 (lv_at hl 0 rfl) ?_
    refine lv_if_eq (tgt := 103) hx hb dX6_numbered_96 (by decide) (fun h1 => ?_) (fun h1 => ?_)
    · have hres := ite_t hres h1
      refine lv_iconst (v := 1) hx hb dX6_numbered_103 (by decide) ?_
      have g2 := gd_1 hres
      have hres := gd_2 hres
      refine x_iast hx hb hK hP hD hS 2 rfl (j := (Int32.toNatClampNeg (c0 15))) rfl g2 dX6_numbered_104 (fun H locs hP hD hS => ?_)
      have hP : va_P G vwCl [o6 A0 c0 A0_s A0_draft A0_kept A0_isKept A0_undone A0_seenI A0_seenJ A0_seenTime A0_text A0_kind A0_place A0_value A0_swallows A0_time A0_strength A0_which A0_told, (A0_text, .inl (cI, 100, .inl c0_text)), (A0_kind, .inl (cI, 100, .inl (upd e0_kind_j84 (Int32.toNatClampNeg (c0 15)) 1))), (A0_value, .inl (cI, 100, .inl e0_value_j84))] H := hP
      have hD : va_D A [o6 A0 c0 A0_s A0_draft A0_kept A0_isKept A0_undone A0_seenI A0_seenJ A0_seenTime A0_text A0_kind A0_place A0_value A0_swallows A0_time A0_strength A0_which A0_told, (A0_text, .inl (cI, 100, .inl c0_text)), (A0_kind, .inl (cI, 100, .inl (upd e0_kind_j84 (Int32.toNatClampNeg (c0 15)) 1))), (A0_value, .inl (cI, 100, .inl e0_value_j84))] := hD
      refine lv_aload_n hx hb dX6_numbered_105 rfl (lv_at hl 1 rfl) ?_
      refine va_get (D := G) (ci := 6) (v := .ref A0_value) (C := RX6) (T := TX6) (N := 22) hx hb hts (fun w h => (List.mem_cons_of_mem _ (List.mem_append_right _ h))) hown hK.1 hP 0 rfl rfl 14 (by decide) (hts (.fieldLink RX6 44 "EchoSeatsModel" "value" "[I") (List.mem_of_getElem? (i := 5) rfl)) (fun _ h9 => h9) rfl dX6_numbered_106 ?_
      refine lv_aload_n hx hb dX6_numbered_109 rfl (lv_at hl 1 rfl) ?_
      refine va_get (D := G) (ci := 6) (v := .int (c0 15)) (C := RX6) (T := TX6) (N := 22) hx hb hts (fun w h => (List.mem_cons_of_mem _ (List.mem_append_right _ h))) hown hK.1 hP 0 rfl rfl 15 (by decide) (hts (.fieldLink RX6 90 "EchoSeatsModel" "tokens" "I") (List.mem_of_getElem? (i := 4) rfl)) (fun _ h9 => h9) rfl dX6_numbered_110 ?_
      refine lv_iload_n hx hb dX6_numbered_113 rfl (lv_at hl 3 rfl) ?_
      have g3 := gd_1 hres
      have hres := gd_2 hres
      refine x_iast hx hb hK hP hD hS 3 rfl (j := (Int32.toNatClampNeg (c0 15))) rfl g3 dX6_numbered_114 (fun H locs hP hD hS => ?_)
      have hP : va_P G vwCl [o6 A0 c0 A0_s A0_draft A0_kept A0_isKept A0_undone A0_seenI A0_seenJ A0_seenTime A0_text A0_kind A0_place A0_value A0_swallows A0_time A0_strength A0_which A0_told, (A0_text, .inl (cI, 100, .inl c0_text)), (A0_kind, .inl (cI, 100, .inl (upd e0_kind_j84 (Int32.toNatClampNeg (c0 15)) 1))), (A0_value, .inl (cI, 100, .inl (upd e0_value_j84 (Int32.toNatClampNeg (c0 15)) v3_j84)))] H := hP
      have hD : va_D A [o6 A0 c0 A0_s A0_draft A0_kept A0_isKept A0_undone A0_seenI A0_seenJ A0_seenTime A0_text A0_kind A0_place A0_value A0_swallows A0_time A0_strength A0_which A0_told, (A0_text, .inl (cI, 100, .inl c0_text)), (A0_kind, .inl (cI, 100, .inl (upd e0_kind_j84 (Int32.toNatClampNeg (c0 15)) 1))), (A0_value, .inl (cI, 100, .inl (upd e0_value_j84 (Int32.toNatClampNeg (c0 15)) v3_j84)))] := hD
      refine lv_iload_n hx hb dX6_numbered_115 rfl (lv_at hl 2 rfl) ?_
      obtain rfl := Option.some.inj hres
      exact W.iret hx hb hr (fun t ht hW => ⟨⟨_, (), rfl, rfl, by rw [ht]; exact hP, hD⟩, hS.F ht⟩) hS.2.2 dX6_numbered_116
    · have hres := ite_f hres h1
      refine lv_iconst (v := 2) hx hb dX6_numbered_99 (by decide) ?_
      refine lv_goto (tgt := 104) hx hb dX6_numbered_100 (by decide) ?_
      have g4 := gd_1 hres
      have hres := gd_2 hres
      refine x_iast hx hb hK hP hD hS 2 rfl (j := (Int32.toNatClampNeg (c0 15))) rfl g4 dX6_numbered_104 (fun H locs hP hD hS => ?_)
      have hP : va_P G vwCl [o6 A0 c0 A0_s A0_draft A0_kept A0_isKept A0_undone A0_seenI A0_seenJ A0_seenTime A0_text A0_kind A0_place A0_value A0_swallows A0_time A0_strength A0_which A0_told, (A0_text, .inl (cI, 100, .inl c0_text)), (A0_kind, .inl (cI, 100, .inl (upd e0_kind_j84 (Int32.toNatClampNeg (c0 15)) 2))), (A0_value, .inl (cI, 100, .inl e0_value_j84))] H := hP
      have hD : va_D A [o6 A0 c0 A0_s A0_draft A0_kept A0_isKept A0_undone A0_seenI A0_seenJ A0_seenTime A0_text A0_kind A0_place A0_value A0_swallows A0_time A0_strength A0_which A0_told, (A0_text, .inl (cI, 100, .inl c0_text)), (A0_kind, .inl (cI, 100, .inl (upd e0_kind_j84 (Int32.toNatClampNeg (c0 15)) 2))), (A0_value, .inl (cI, 100, .inl e0_value_j84))] := hD
      refine lv_aload_n hx hb dX6_numbered_105 rfl (lv_at hl 1 rfl) ?_
      refine va_get (D := G) (ci := 6) (v := .ref A0_value) (C := RX6) (T := TX6) (N := 22) hx hb hts (fun w h => (List.mem_cons_of_mem _ (List.mem_append_right _ h))) hown hK.1 hP 0 rfl rfl 14 (by decide) (hts (.fieldLink RX6 44 "EchoSeatsModel" "value" "[I") (List.mem_of_getElem? (i := 5) rfl)) (fun _ h9 => h9) rfl dX6_numbered_106 ?_
      refine lv_aload_n hx hb dX6_numbered_109 rfl (lv_at hl 1 rfl) ?_
      refine va_get (D := G) (ci := 6) (v := .int (c0 15)) (C := RX6) (T := TX6) (N := 22) hx hb hts (fun w h => (List.mem_cons_of_mem _ (List.mem_append_right _ h))) hown hK.1 hP 0 rfl rfl 15 (by decide) (hts (.fieldLink RX6 90 "EchoSeatsModel" "tokens" "I") (List.mem_of_getElem? (i := 4) rfl)) (fun _ h9 => h9) rfl dX6_numbered_110 ?_
      refine lv_iload_n hx hb dX6_numbered_113 rfl (lv_at hl 3 rfl) ?_
      have g5 := gd_1 hres
      have hres := gd_2 hres
      refine x_iast hx hb hK hP hD hS 3 rfl (j := (Int32.toNatClampNeg (c0 15))) rfl g5 dX6_numbered_114 (fun H locs hP hD hS => ?_)
      have hP : va_P G vwCl [o6 A0 c0 A0_s A0_draft A0_kept A0_isKept A0_undone A0_seenI A0_seenJ A0_seenTime A0_text A0_kind A0_place A0_value A0_swallows A0_time A0_strength A0_which A0_told, (A0_text, .inl (cI, 100, .inl c0_text)), (A0_kind, .inl (cI, 100, .inl (upd e0_kind_j84 (Int32.toNatClampNeg (c0 15)) 2))), (A0_value, .inl (cI, 100, .inl (upd e0_value_j84 (Int32.toNatClampNeg (c0 15)) v3_j84)))] H := hP
      have hD : va_D A [o6 A0 c0 A0_s A0_draft A0_kept A0_isKept A0_undone A0_seenI A0_seenJ A0_seenTime A0_text A0_kind A0_place A0_value A0_swallows A0_time A0_strength A0_which A0_told, (A0_text, .inl (cI, 100, .inl c0_text)), (A0_kind, .inl (cI, 100, .inl (upd e0_kind_j84 (Int32.toNatClampNeg (c0 15)) 2))), (A0_value, .inl (cI, 100, .inl (upd e0_value_j84 (Int32.toNatClampNeg (c0 15)) v3_j84)))] := hD
      refine lv_iload_n hx hb dX6_numbered_115 rfl (lv_at hl 2 rfl) ?_
      obtain rfl := Option.some.inj hres
      exact W.iret hx hb hr (fun t ht hW => ⟨⟨_, (), rfl, rfl, by rw [ht]; exact hP, hD⟩, hS.F ht⟩) hS.2.2 dX6_numbered_116
  have J55 : ∀ (v1_j55 : Int32) (v2_j55 : Int32) (v3_j55 : Int32) (e0_kind_j55 : (Nat → Int32)) (e0_value_j55 : (Nat → Int32)) (H : Heap) (locs : List Loc) (ls : Array Slot), fX6_numbered_j55 c0 c0_text v1_j55 v2_j55 v3_j55 e0_kind_j55 e0_value_j55 = some res → va_P G vwCl [o6 A0 c0 A0_s A0_draft A0_kept A0_isKept A0_undone A0_seenI A0_seenJ A0_seenTime A0_text A0_kind A0_place A0_value A0_swallows A0_time A0_strength A0_which A0_told, (A0_text, .inl (cI, 100, .inl c0_text)), (A0_kind, .inl (cI, 100, .inl e0_kind_j55)), (A0_value, .inl (cI, 100, .inl e0_value_j55))] H → va_D A [o6 A0 c0 A0_s A0_draft A0_kept A0_isKept A0_undone A0_seenI A0_seenJ A0_seenTime A0_text A0_kind A0_place A0_value A0_swallows A0_time A0_strength A0_which A0_told, (A0_text, .inl (cI, 100, .inl c0_text)), (A0_kind, .inl (cI, 100, .inl e0_kind_j55)), (A0_value, .inl (cI, 100, .inl e0_value_j55))] → va_S A s.heap H locs → lv_has ls 5 [(0, .ref A0), (1, .int v1_j55), (2, .int v2_j55), (3, .int v3_j55)] → WRW p l e wsX6_numbered rX6_numbered s m ([.ref A0, .int x1] : List Value).toArray below meth c H locs (Qiw res.1 G A [o6 A0 c0 A0_s A0_draft A0_kept A0_isKept A0_undone A0_seenI A0_seenJ A0_seenTime A0_text A0_kind A0_place A0_value A0_swallows A0_time A0_strength A0_which A0_told, (A0_text, .inl (cI, 100, .inl c0_text)), (A0_kind, .inl (cI, 100, .inl res.2.1)), (A0_value, .inl (cI, 100, .inl res.2.2))]) A (F0 m 55 ls []) := by
    intro v1_j55 v2_j55 v3_j55 e0_kind_j55 e0_value_j55 H locs ls hres hP hD hS hl
    refine lv_iload_n hx hb dX6_numbered_55 rfl (lv_at hl 3 rfl) ?_
    refine lv_bipush (v := 99) hx hb dX6_numbered_56 (by decide) ?_
    refine lv_icmp_gt (tgt := 79) hx hb dX6_numbered_58 (by decide) (fun h6 => ?_) (fun h6 => ?_)
    · have hres := ite_t hres h6
      refine lv_iconst (v := 1) hx hb dX6_numbered_79 (by decide) ?_
      refine lv_goto (tgt := 84) hx hb dX6_numbered_80 (by decide) ?_
      exact J84 v2_j55 v3_j55 1 e0_kind_j55 e0_value_j55 _ _ _ hres hP hD hS (lv_sub hl [0, 2, 3] rfl)
    · have hres := ite_f hres h6
      refine lv_aload_n hx hb dX6_numbered_61 rfl (lv_at hl 0 rfl) ?_
      refine va_get (D := G) (ci := 6) (v := .ref A0_text) (C := RX6) (T := TX6) (N := 22) hx hb hts (fun w h => (List.mem_cons_of_mem _ (List.mem_append_right _ h))) hown hK.1 hP 0 rfl rfl 10 (by decide) (hts (.fieldLink RX6 35 "EchoSeatsModel" "text" "[I") (List.mem_of_getElem? (i := 2) rfl)) (fun _ h9 => h9) rfl dX6_numbered_62 ?_
      refine lv_iload_n hx hb dX6_numbered_65 rfl (lv_at hl 1 rfl) ?_
      have g7 := gd_1 hres
      have hres := gd_2 hres
      refine x_iald hx hb hK hP 1 rfl (j := (Int32.toNatClampNeg v1_j55)) rfl g7 dX6_numbered_66 ?_
      refine lv_bipush (v := 48) hx hb dX6_numbered_67 (by decide) ?_
      refine lv_icmp_ne (tgt := 83) hx hb dX6_numbered_69 (by decide) (fun h8 => ?_) (fun h8 => ?_)
      · have hres := ite_f hres h8
        refine lv_iconst (v := 0) hx hb dX6_numbered_83 (by decide) ?_
        exact J84 v2_j55 v3_j55 0 e0_kind_j55 e0_value_j55 _ _ _ hres hP hD hS (lv_sub hl [0, 2, 3] rfl)
      · have hres := ite_t hres h8
        refine lv_iload_n hx hb dX6_numbered_72 rfl (lv_at hl 2 rfl) ?_
        refine lv_iload_n hx hb dX6_numbered_73 rfl (lv_at hl 1 rfl) ?_
        refine lv_iconst (v := 1) hx hb dX6_numbered_74 (by decide) ?_
        refine lv_iadd hx hb dX6_numbered_75 ?_
        refine lv_icmp_le (tgt := 83) hx hb dX6_numbered_76 (by decide) (fun h9 => ?_) (fun h9 => ?_)
        · have hres := ite_t hres h9
          refine lv_iconst (v := 0) hx hb dX6_numbered_83 (by decide) ?_
          exact J84 v2_j55 v3_j55 0 e0_kind_j55 e0_value_j55 _ _ _ hres hP hD hS (lv_sub hl [0, 2, 3] rfl)
        · have hres := ite_f hres h9
          refine lv_iconst (v := 1) hx hb dX6_numbered_79 (by decide) ?_
          refine lv_goto (tgt := 84) hx hb dX6_numbered_80 (by decide) ?_
          exact J84 v2_j55 v3_j55 1 e0_kind_j55 e0_value_j55 _ _ _ hres hP hD hS (lv_sub hl [0, 2, 3] rfl)
  refine lv_iload_n hx hb dX6_numbered_0 rfl (lv_at hl 1 rfl) ?_
  refine lv_istore_n (lv' := [(2, .int x1), (0, .ref A0), (1, .int x1)]) hx hb dX6_numbered_1 rfl hl (by decide) rfl (fun ls hl => ?_)
  refine lv_iconst (v := 0) hx hb dX6_numbered_2 (by decide) ?_
  refine lv_istore_n (lv' := [(3, .int 0), (2, .int x1), (0, .ref A0), (1, .int x1)]) hx hb dX6_numbered_3 rfl hl (by decide) rfl (fun ls hl => ?_)
  have Q4 : ∀ (v1_L4 : Int32) (e0_kind_L4 : (Nat → Int32)) (e0_value_L4 : (Nat → Int32)) (n4 : Nat) (v2_L4 : Int32) (v3_L4 : Int32) (H : Heap) (locs : List Loc) (ls : Array Slot), LPX (fX6_numbered_L4 c0 c0_text v1_L4 e0_kind_L4 e0_value_L4) n4 (v2_L4, v3_L4) = some res → va_P G vwCl [o6 A0 c0 A0_s A0_draft A0_kept A0_isKept A0_undone A0_seenI A0_seenJ A0_seenTime A0_text A0_kind A0_place A0_value A0_swallows A0_time A0_strength A0_which A0_told, (A0_text, .inl (cI, 100, .inl c0_text)), (A0_kind, .inl (cI, 100, .inl e0_kind_L4)), (A0_value, .inl (cI, 100, .inl e0_value_L4))] H → va_D A [o6 A0 c0 A0_s A0_draft A0_kept A0_isKept A0_undone A0_seenI A0_seenJ A0_seenTime A0_text A0_kind A0_place A0_value A0_swallows A0_time A0_strength A0_which A0_told, (A0_text, .inl (cI, 100, .inl c0_text)), (A0_kind, .inl (cI, 100, .inl e0_kind_L4)), (A0_value, .inl (cI, 100, .inl e0_value_L4))] → va_S A s.heap H locs → lv_has ls 5 [(0, .ref A0), (1, .int v1_L4), (2, .int v2_L4), (3, .int v3_L4)] → WRW p l e wsX6_numbered rX6_numbered s m ([.ref A0, .int x1] : List Value).toArray below meth c H locs (Qiw res.1 G A [o6 A0 c0 A0_s A0_draft A0_kept A0_isKept A0_undone A0_seenI A0_seenJ A0_seenTime A0_text A0_kind A0_place A0_value A0_swallows A0_time A0_strength A0_which A0_told, (A0_text, .inl (cI, 100, .inl c0_text)), (A0_kind, .inl (cI, 100, .inl res.2.1)), (A0_value, .inl (cI, 100, .inl res.2.2))]) A (F0 m 4 ls []) := by
    intro v1_L4 e0_kind_L4 e0_value_L4 n4
    induction n4 with
    | zero =>
      intro v2_L4 v3_L4 H locs ls hres
      exact absurd (LPX_0.symm.trans hres) (fun h => by cases h)
    | succ n4 ih4 =>
      intro v2_L4 v3_L4 H locs ls hres hP hD hS hl
      have hres := LPX_s.symm.trans hres
      refine lv_iload_n hx hb dX6_numbered_4 rfl (lv_at hl 2 rfl) ?_
      refine lv_aload_n hx hb dX6_numbered_5 rfl (lv_at hl 0 rfl) ?_
      refine va_get (D := G) (ci := 6) (v := .int (c0 11)) (C := RX6) (T := TX6) (N := 22) hx hb hts (fun w h => (List.mem_cons_of_mem _ (List.mem_append_right _ h))) hown hK.1 hP 0 rfl rfl 11 (by decide) (hts (.fieldLink RX6 83 "EchoSeatsModel" "typed" "I") (List.mem_of_getElem? (i := 1) rfl)) (fun _ h9 => h9) rfl dX6_numbered_6 ?_
      refine lv_icmp_ge (tgt := 55) hx hb dX6_numbered_9 (by decide) (fun h10 => ?_) (fun h10 => ?_)
      · have hres := ite_t hres h10
        exact J55 v1_L4 v2_L4 v3_L4 e0_kind_L4 e0_value_L4 _ _ _ hres hP hD hS (lv_sub hl [0, 1, 2, 3] rfl)
      · have hres := ite_f hres h10
        refine lv_aload_n hx hb dX6_numbered_12 rfl (lv_at hl 0 rfl) ?_
        refine va_get (D := G) (ci := 6) (v := .ref A0_text) (C := RX6) (T := TX6) (N := 22) hx hb hts (fun w h => (List.mem_cons_of_mem _ (List.mem_append_right _ h))) hown hK.1 hP 0 rfl rfl 10 (by decide) (hts (.fieldLink RX6 35 "EchoSeatsModel" "text" "[I") (List.mem_of_getElem? (i := 2) rfl)) (fun _ h9 => h9) rfl dX6_numbered_13 ?_
        refine lv_iload_n hx hb dX6_numbered_16 rfl (lv_at hl 2 rfl) ?_
        have g11 := gd_1 hres
        have hres := gd_2 hres
        refine x_iald hx hb hK hP 1 rfl (j := (Int32.toNatClampNeg v2_L4)) rfl g11 dX6_numbered_17 ?_
        obtain ⟨r12, hr12, hres⟩ := bi_1 hres
        refine x_cp (va_runS (As := [.int (c0_text (Int32.toNatClampNeg v2_L4))]) (rest := []) ⟨hx, hb, hml, hown, hts⟩ (kX6_isFigure l G cI cZ tl (c0_text (Int32.toNatClampNeg v2_L4)) r12 hr12) (va_cwS 1 hts gX6_numbered_X6_isFigure rfl rfl rfl hsX6_isFigure ⟨Nat.le_of_ble_eq_true rfl, Nat.le_of_ble_eq_true rfl⟩) ⟨PRO_blind, PRO_at va_P0 hK⟩ rfl rfl hl.1 rfl (lv_room (Nat.le_of_ble_eq_true rfl)) dX6_numbered_18 ⟨Nat.zero_le _, Nat.zero_le _⟩) ?_
        refine lv_if_eq (tgt := 55) hx hb dX6_numbered_21 (by decide) (fun h13 => ?_) (fun h13 => ?_)
        · have hres := ite_t hres h13
          exact J55 v1_L4 v2_L4 v3_L4 e0_kind_L4 e0_value_L4 _ _ _ hres hP hD hS (lv_sub hl [0, 1, 2, 3] rfl)
        · have hres := ite_f hres h13
          refine lv_iload_n hx hb dX6_numbered_24 rfl (lv_at hl 3 rfl) ?_
          refine lv_bipush (v := 100) hx hb dX6_numbered_25 (by decide) ?_
          refine lv_icmp_ge (tgt := 47) hx hb dX6_numbered_27 (by decide) (fun h14 => ?_) (fun h14 => ?_)
          · have hres := ite_t hres h14
            refine lv_iload_n hx hb dX6_numbered_47 rfl (lv_at hl 3 rfl) ?_
            refine lv_istore_n (lv' := [(3, .int v3_L4), (0, .ref A0), (1, .int v1_L4), (2, .int v2_L4)]) hx hb dX6_numbered_48 rfl hl (by decide) rfl (fun ls hl => ?_)
            refine lv_iinc (v := (v2_L4 + 1)) (lv' := [(2, .int (v2_L4 + 1)), (3, .int v3_L4), (0, .ref A0), (1, .int v1_L4)]) hx hb dX6_numbered_49 hl (k := 3) rfl rfl (by decide) rfl (fun ls hl => ?_)
            refine lv_goto (tgt := 4) hx hb dX6_numbered_52 (by decide) ?_
            exact ih4 (v2_L4 + 1) v3_L4 _ _ _ hres hP hD hS (lv_sub hl [2, 3, 0, 1] rfl)
          · have hres := ite_f hres h14
            refine lv_bipush (v := 10) hx hb dX6_numbered_30 (by decide) ?_
            refine lv_iload_n hx hb dX6_numbered_32 rfl (lv_at hl 3 rfl) ?_
            refine lv_imul hx hb dX6_numbered_33 ?_
            refine lv_aload_n hx hb dX6_numbered_34 rfl (lv_at hl 0 rfl) ?_
            refine va_get (D := G) (ci := 6) (v := .ref A0_text) (C := RX6) (T := TX6) (N := 22) hx hb hts (fun w h => (List.mem_cons_of_mem _ (List.mem_append_right _ h))) hown hK.1 hP 0 rfl rfl 10 (by decide) (hts (.fieldLink RX6 35 "EchoSeatsModel" "text" "[I") (List.mem_of_getElem? (i := 2) rfl)) (fun _ h9 => h9) rfl dX6_numbered_35 ?_
            refine lv_iload_n hx hb dX6_numbered_38 rfl (lv_at hl 2 rfl) ?_
            have g15 := gd_1 hres
            have hres := gd_2 hres
            refine x_iald hx hb hK hP 1 rfl (j := (Int32.toNatClampNeg v2_L4)) rfl g15 dX6_numbered_39 ?_
            refine lv_iadd hx hb dX6_numbered_40 ?_
            refine lv_bipush (v := 48) hx hb dX6_numbered_41 (by decide) ?_
            refine lv_isub hx hb dX6_numbered_43 ?_
            refine lv_goto (tgt := 48) hx hb dX6_numbered_44 (by decide) ?_
            refine lv_topi (fun y16 ey16 => ?_)
            have hres := bnd_z ey16 hres
            refine lv_istore_n (lv' := [(3, .int y16), (0, .ref A0), (1, .int v1_L4), (2, .int v2_L4)]) hx hb dX6_numbered_48 rfl hl (by decide) rfl (fun ls hl => ?_)
            refine lv_iinc (v := (v2_L4 + 1)) (lv' := [(2, .int (v2_L4 + 1)), (3, .int y16), (0, .ref A0), (1, .int v1_L4)]) hx hb dX6_numbered_49 hl (k := 3) rfl rfl (by decide) rfl (fun ls hl => ?_)
            refine lv_goto (tgt := 4) hx hb dX6_numbered_52 (by decide) ?_
            exact ih4 (v2_L4 + 1) y16 _ _ _ hres hP hD hS (lv_sub hl [2, 3, 0, 1] rfl)
  exact Q4 x1 c0_kind c0_value FU x1 0 _ _ _ hres hP hD hS (lv_sub hl [2, 3, 1, 0] rfl)
theorem hsX6_numbered : yX6_numbered.cls = RX6 ∧ yX6_numbered.cls ≠ "java/lang/invoke/MethodHandle" ∧ yX6_numbered.cls ≠ "java/lang/invoke/VarHandle" ∧ (parseMethodDescriptor yX6_numbered.desc).map (fun d => d.parameters.length) = some 1 := by decide +kernel
set_option maxHeartbeats 4000000 in
set_option maxRecDepth 100000 in
theorem kX6_odds (l : Launch) (G : va_G) (cI cZ : ClassId) (tl : List (ClassId × FieldType)) (sz : Nat) (A : Nat → Prop) (A0 A0_s A0_draft A0_kept A0_isKept A0_undone A0_seenI A0_seenJ A0_seenTime A0_text A0_kind A0_place A0_value A0_swallows A0_time A0_strength A0_which A0_told : Nat) (c0 c0_s c0_swallows c0_time c0_strength c0_which : Nat → Int32) (x1 x2 x3 x4 : Int32) (res : Int32 × (Nat → Int32) × (Nat → Int32) × (Nat → Int32) × (Nat → Int32) × (Nat → Int32)) (hAe : A = va_A [o6 A0 c0 A0_s A0_draft A0_kept A0_isKept A0_undone A0_seenI A0_seenJ A0_seenTime A0_text A0_kind A0_place A0_value A0_swallows A0_time A0_strength A0_which A0_told, (A0_s, .inl (cI, 27, .inl c0_s)), (A0_swallows, .inl (cI, 4, .inl c0_swallows)), (A0_time, .inl (cI, 25, .inl c0_time)), (A0_strength, .inl (cI, 25, .inl c0_strength)), (A0_which, .inl (cI, 25, .inl c0_which))] sz) (hres : fX6_odds c0 c0_s c0_swallows c0_time c0_strength c0_which x1 x2 x3 x4 = some res) : Met l yX6_odds wsX6_odds rX6_odds (va_Pc [.ref A0, .int x1, .int x2, .int x3, .int x4] (PRW G cI cZ tl [o6 A0 c0 A0_s A0_draft A0_kept A0_isKept A0_undone A0_seenI A0_seenJ A0_seenTime A0_text A0_kind A0_place A0_value A0_swallows A0_time A0_strength A0_which A0_told, (A0_s, .inl (cI, 27, .inl c0_s)), (A0_swallows, .inl (cI, 4, .inl c0_swallows)), (A0_time, .inl (cI, 25, .inl c0_time)), (A0_strength, .inl (cI, 25, .inl c0_strength)), (A0_which, .inl (cI, 25, .inl c0_which))] sz)) (Qiw res.1 G A [o6 A0 res.2.1 A0_s A0_draft A0_kept A0_isKept A0_undone A0_seenI A0_seenJ A0_seenTime A0_text A0_kind A0_place A0_value A0_swallows A0_time A0_strength A0_which A0_told, (A0_s, .inl (cI, 27, .inl c0_s)), (A0_swallows, .inl (cI, 4, .inl res.2.2.1)), (A0_time, .inl (cI, 25, .inl res.2.2.2.1)), (A0_strength, .inl (cI, 25, .inl res.2.2.2.2.1)), (A0_which, .inl (cI, 25, .inl res.2.2.2.2.2))]) 0 0 A := by
  refine Met.ofW (cc := cX6_odds) (maxL := 10) (ret := (some .int)) (by decide) rfl ?_
  intro p e s m args below meth c s₁ B hml hv
  obtain ⟨rfl, hsz, hP, hK, hD0⟩ := hv
  have hx := B.exec
  have hb := B.bytes
  have hr := B.returns
  have hts := atoms_spec (ws := wsX6_odds) B.pre
  have hown : s.vm.findClass RX6 = some m.cls := findClass_of_methodNamed B.named
  have hlocks := B.notSynchronized
  subst hsz
  have hD : va_D A [o6 A0 c0 A0_s A0_draft A0_kept A0_isKept A0_undone A0_seenI A0_seenJ A0_seenTime A0_text A0_kind A0_place A0_value A0_swallows A0_time A0_strength A0_which A0_told, (A0_s, .inl (cI, 27, .inl c0_s)), (A0_swallows, .inl (cI, 4, .inl c0_swallows)), (A0_time, .inl (cI, 25, .inl c0_time)), (A0_strength, .inl (cI, 25, .inl c0_strength)), (A0_which, .inl (cI, 25, .inl c0_which))] := by rw [hAe]; exact hD0.self
  have hA : ∀ q : Nat, s.heap.size ≤ q → A q := fun q h => by rw [hAe]; exact Or.inr h
  clear hAe hD0
  have hS : va_S A s.heap s.heap [] := va_S.rf
  have hl := lv_entry ([.ref A0, .int x1, .int x2, .int x3, .int x4] : List Value) (n := 10) (Nat.le_of_ble_eq_true rfl)
  rw [lg_entry_eq]
  generalize (lg_sl ([.ref A0, .int x1, .int x2, .int x3, .int x4] : List Value) ++ List.replicate (10 - (lg_sl ([.ref A0, .int x1, .int x2, .int x3, .int x4] : List Value)).length) Slot.unset).toArray = ls at hl ⊢
  have hl : lv_has ls 10 [(0, .ref A0), (1, .int x1), (2, .int x2), (3, .int x3), (4, .int x4)] := hl
  refine lv_iload_n hx hb dX6_odds_0 rfl (lv_at hl 1 rfl) ?_
  refine lv_iconst (v := 0) hx hb dX6_odds_1 (by decide) ?_
  refine lv_bipush (v := 10) hx hb dX6_odds_2 (by decide) ?_
  obtain ⟨r1, hr1, hres⟩ := bi_1 hres
  refine x_cp (va_runS (As := [.int x1, .int 0, .int 10]) (rest := []) ⟨hx, hb, hml, hown, hts⟩ (kX6_in l G cI cZ tl x1 0 10 r1 hr1) (va_cwS 3 hts gX6_odds_X6_in rfl rfl rfl hsX6_in ⟨Nat.le_of_ble_eq_true rfl, Nat.le_of_ble_eq_true rfl⟩) ⟨PRO_blind, PRO_at va_P0 hK⟩ rfl rfl hl.1 rfl (lv_room (Nat.le_of_ble_eq_true rfl)) dX6_odds_4 ⟨Nat.zero_le _, Nat.zero_le _⟩) ?_
  refine lv_if_eq (tgt := 38) hx hb dX6_odds_7 (by decide) (fun h2 => ?_) (fun h2 => ?_)
  · have hres := ite_t hres h2
    refine lv_iconst (v := (-1)) hx hb dX6_odds_38 (by decide) ?_
    obtain rfl := Option.some.inj hres
    exact W.iret hx hb hr (fun t ht hW => ⟨⟨_, (), rfl, rfl, by rw [ht]; exact hP, hD⟩, hS.F ht⟩) hS.2.2 dX6_odds_39
  · have hres := ite_f hres h2
    refine lv_aload_n hx hb dX6_odds_10 rfl (lv_at hl 0 rfl) ?_
    refine lv_iload_n hx hb dX6_odds_11 rfl (lv_at hl 2 rfl) ?_
    obtain ⟨r3, hr3, hres⟩ := bi_1 hres
    refine x_cp (va_runV (As := [.int x2]) (rest := []) ⟨hx, hb, hml, hown, hts⟩ (kX6_isSeat l G cI cZ tl A0 A0_s A0_draft A0_kept A0_isKept A0_undone A0_seenI A0_seenJ A0_seenTime A0_text A0_kind A0_place A0_value A0_swallows A0_time A0_strength A0_which A0_told c0 c0_s x2 r3 hr3) (cwV 1 hts gX6_odds_X6_isSeat rfl rfl rfl hsX6_isSeat ⟨Nat.le_of_ble_eq_true rfl, Nat.le_of_ble_eq_true rfl⟩) ⟨PRO_blind, va_recv hK.1 hP (ci := 6) (q0 := 0) rfl rfl, PRO_at (hP.sub (ws' := [o6 A0 c0 A0_s A0_draft A0_kept A0_isKept A0_undone A0_seenI A0_seenJ A0_seenTime A0_text A0_kind A0_place A0_value A0_swallows A0_time A0_strength A0_which A0_told, (A0_s, .inl (cI, 27, .inl c0_s))]) [0, 1] rfl) hK⟩ rfl rfl hl.1 rfl (lv_room (Nat.le_of_ble_eq_true rfl)) dX6_odds_12 ⟨Nat.zero_le _, Nat.zero_le _⟩) ?_
    refine lv_if_eq (tgt := 38) hx hb dX6_odds_15 (by decide) (fun h4 => ?_) (fun h4 => ?_)
    · have hres := ite_t hres h4
      refine lv_iconst (v := (-1)) hx hb dX6_odds_38 (by decide) ?_
      obtain rfl := Option.some.inj hres
      exact W.iret hx hb hr (fun t ht hW => ⟨⟨_, (), rfl, rfl, by rw [ht]; exact hP, hD⟩, hS.F ht⟩) hS.2.2 dX6_odds_39
    · have hres := ite_f hres h4
      refine lv_iload_n hx hb dX6_odds_18 rfl (lv_at hl 3 rfl) ?_
      refine lv_iconst (v := 0) hx hb dX6_odds_19 (by decide) ?_
      refine lv_ldc (v := 999999) hx hb hown (hts (.constant RX6 201 999999) (List.mem_of_getElem? (i := 1) rfl)) dX6_odds_20 ?_
      obtain ⟨r5, hr5, hres⟩ := bi_1 hres
      refine x_cp (va_runS (As := [.int x3, .int 0, .int 999999]) (rest := []) ⟨hx, hb, hml, hown, hts⟩ (kX6_in l G cI cZ tl x3 0 999999 r5 hr5) (va_cwS 3 hts gX6_odds_X6_in rfl rfl rfl hsX6_in ⟨Nat.le_of_ble_eq_true rfl, Nat.le_of_ble_eq_true rfl⟩) ⟨PRO_blind, PRO_at va_P0 hK⟩ rfl rfl hl.1 rfl (lv_room (Nat.le_of_ble_eq_true rfl)) dX6_odds_22 ⟨Nat.zero_le _, Nat.zero_le _⟩) ?_
      refine lv_if_eq (tgt := 38) hx hb dX6_odds_25 (by decide) (fun h6 => ?_) (fun h6 => ?_)
      · have hres := ite_t hres h6
        refine lv_iconst (v := (-1)) hx hb dX6_odds_38 (by decide) ?_
        obtain rfl := Option.some.inj hres
        exact W.iret hx hb hr (fun t ht hW => ⟨⟨_, (), rfl, rfl, by rw [ht]; exact hP, hD⟩, hS.F ht⟩) hS.2.2 dX6_odds_39
      · have hres := ite_f hres h6
        refine lv_iload hx hb dX6_odds_28 (lv_at hl 4 rfl) ?_
        refine lv_iconst (v := 0) hx hb dX6_odds_30 (by decide) ?_
        refine lv_iconst (v := 1) hx hb dX6_odds_31 (by decide) ?_
        obtain ⟨r7, hr7, hres⟩ := bi_1 hres
        refine x_cp (va_runS (As := [.int x4, .int 0, .int 1]) (rest := []) ⟨hx, hb, hml, hown, hts⟩ (kX6_in l G cI cZ tl x4 0 1 r7 hr7) (va_cwS 3 hts gX6_odds_X6_in rfl rfl rfl hsX6_in ⟨Nat.le_of_ble_eq_true rfl, Nat.le_of_ble_eq_true rfl⟩) ⟨PRO_blind, PRO_at va_P0 hK⟩ rfl rfl hl.1 rfl (lv_room (Nat.le_of_ble_eq_true rfl)) dX6_odds_32 ⟨Nat.zero_le _, Nat.zero_le _⟩) ?_
        refine lv_if_ne (tgt := 40) hx hb dX6_odds_35 (by decide) (fun h8 => ?_) (fun h8 => ?_)
        · have hres := ite_f hres h8
          refine lv_iconst (v := 0) hx hb dX6_odds_40 (by decide) ?_
          refine lv_istore (lv' := [(5, .int 0), (0, .ref A0), (1, .int x1), (2, .int x2), (3, .int x3), (4, .int x4)]) hx hb dX6_odds_41 hl (by decide) rfl (fun ls hl => ?_)
          refine lv_iconst (v := 0) hx hb dX6_odds_43 (by decide) ?_
          refine lv_istore (lv' := [(6, .int 0), (5, .int 0), (0, .ref A0), (1, .int x1), (2, .int x2), (3, .int x3), (4, .int x4)]) hx hb dX6_odds_44 hl (by decide) rfl (fun ls hl => ?_)
          have Q46 : ∀ (v1_L46 : Int32) (v2_L46 : Int32) (v3_L46 : Int32) (v4_L46 : Int32) (n46 : Nat) (v5_L46 : Int32) (v6_L46 : Int32) (e0_L46 : (Nat → Int32)) (e0_swallows_L46 : (Nat → Int32)) (e0_time_L46 : (Nat → Int32)) (e0_strength_L46 : (Nat → Int32)) (e0_which_L46 : (Nat → Int32)) (H : Heap) (locs : List Loc) (ls : Array Slot), LPX (fX6_odds_L46 c0_s v1_L46 v2_L46 v3_L46 v4_L46) n46 (v5_L46, v6_L46, e0_L46, e0_swallows_L46, e0_time_L46, e0_strength_L46, e0_which_L46) = some res → va_P G vwCl [o6 A0 e0_L46 A0_s A0_draft A0_kept A0_isKept A0_undone A0_seenI A0_seenJ A0_seenTime A0_text A0_kind A0_place A0_value A0_swallows A0_time A0_strength A0_which A0_told, (A0_s, .inl (cI, 27, .inl c0_s)), (A0_swallows, .inl (cI, 4, .inl e0_swallows_L46)), (A0_time, .inl (cI, 25, .inl e0_time_L46)), (A0_strength, .inl (cI, 25, .inl e0_strength_L46)), (A0_which, .inl (cI, 25, .inl e0_which_L46))] H → va_D A [o6 A0 e0_L46 A0_s A0_draft A0_kept A0_isKept A0_undone A0_seenI A0_seenJ A0_seenTime A0_text A0_kind A0_place A0_value A0_swallows A0_time A0_strength A0_which A0_told, (A0_s, .inl (cI, 27, .inl c0_s)), (A0_swallows, .inl (cI, 4, .inl e0_swallows_L46)), (A0_time, .inl (cI, 25, .inl e0_time_L46)), (A0_strength, .inl (cI, 25, .inl e0_strength_L46)), (A0_which, .inl (cI, 25, .inl e0_which_L46))] → va_S A s.heap H locs → lv_has ls 10 [(0, .ref A0), (1, .int v1_L46), (2, .int v2_L46), (3, .int v3_L46), (4, .int v4_L46), (5, .int v5_L46), (6, .int v6_L46)] → WRW p l e wsX6_odds rX6_odds s m ([.ref A0, .int x1, .int x2, .int x3, .int x4] : List Value).toArray below meth c H locs (Qiw res.1 G A [o6 A0 res.2.1 A0_s A0_draft A0_kept A0_isKept A0_undone A0_seenI A0_seenJ A0_seenTime A0_text A0_kind A0_place A0_value A0_swallows A0_time A0_strength A0_which A0_told, (A0_s, .inl (cI, 27, .inl c0_s)), (A0_swallows, .inl (cI, 4, .inl res.2.2.1)), (A0_time, .inl (cI, 25, .inl res.2.2.2.1)), (A0_strength, .inl (cI, 25, .inl res.2.2.2.2.1)), (A0_which, .inl (cI, 25, .inl res.2.2.2.2.2))]) A (F0 m 46 ls []) := by
            intro v1_L46 v2_L46 v3_L46 v4_L46 n46
            induction n46 with
            | zero =>
              intro v5_L46 v6_L46 e0_L46 e0_swallows_L46 e0_time_L46 e0_strength_L46 e0_which_L46 H locs ls hres
              exact absurd (LPX_0.symm.trans hres) (fun h => by cases h)
            | succ n46 ih46 =>
              intro v5_L46 v6_L46 e0_L46 e0_swallows_L46 e0_time_L46 e0_strength_L46 e0_which_L46 H locs ls hres hP hD hS hl
              have hres := LPX_s.symm.trans hres
              refine lv_iload hx hb dX6_odds_46 (lv_at hl 6 rfl) ?_
              refine lv_bipush (v := 16) hx hb dX6_odds_48 (by decide) ?_
              refine lv_icmp_ge (tgt := 163) hx hb dX6_odds_50 (by decide) (fun h9 => ?_) (fun h9 => ?_)
              · have hres := ite_t hres h9
                refine lv_iload hx hb dX6_odds_163 (lv_at hl 5 rfl) ?_
                refine lv_sipush (v := 10000) hx hb dX6_odds_165 (by decide) ?_
                refine lv_iload hx hb dX6_odds_168 (lv_at hl 4 rfl) ?_
                obtain ⟨r10, hr10, hres⟩ := bi_1 hres
                refine x_cp (va_runS (As := [.int v5_L46, .int 10000, .int v4_L46]) (rest := []) ⟨hx, hb, hml, hown, hts⟩ (kX6_fraction l G cI cZ tl v5_L46 10000 v4_L46 r10 hr10) (va_cwS 3 hts gX6_odds_X6_fraction rfl rfl rfl hsX6_fraction ⟨Nat.le_of_ble_eq_true rfl, Nat.le_of_ble_eq_true rfl⟩) ⟨PRO_blind, PRO_at va_P0 hK⟩ rfl rfl hl.1 rfl (lv_room (Nat.le_of_ble_eq_true rfl)) dX6_odds_170 ⟨Nat.zero_le _, Nat.zero_le _⟩) ?_
                obtain rfl := Option.some.inj hres
                exact W.iret hx hb hr (fun t ht hW => ⟨⟨_, (), rfl, rfl, by rw [ht]; exact hP, hD⟩, hS.F ht⟩) hS.2.2 dX6_odds_173
              · have hres := ite_f hres h9
                refine lv_iconst (v := 1) hx hb dX6_odds_53 (by decide) ?_
                refine lv_istore (lv' := [(7, .int 1), (0, .ref A0), (1, .int v1_L46), (2, .int v2_L46), (3, .int v3_L46), (4, .int v4_L46), (5, .int v5_L46), (6, .int v6_L46)]) hx hb dX6_odds_54 hl (by decide) rfl (fun ls hl => ?_)
                refine lv_iconst (v := 0) hx hb dX6_odds_56 (by decide) ?_
                refine lv_istore (lv' := [(8, .int 0), (7, .int 1), (0, .ref A0), (1, .int v1_L46), (2, .int v2_L46), (3, .int v3_L46), (4, .int v4_L46), (5, .int v5_L46), (6, .int v6_L46)]) hx hb dX6_odds_57 hl (by decide) rfl (fun ls hl => ?_)
                have Q59 : ∀ (v5_L59 : Int32) (v6_L59 : Int32) (e0_L59 : (Nat → Int32)) (e0_time_L59 : (Nat → Int32)) (e0_strength_L59 : (Nat → Int32)) (e0_which_L59 : (Nat → Int32)) (n59 : Nat) (v7_L59 : Int32) (v8_L59 : Int32) (e0_swallows_L59 : (Nat → Int32)) (H : Heap) (locs : List Loc) (ls : Array Slot), LPX (fX6_odds_L59 c0_s v1_L46 v2_L46 v3_L46 v4_L46 v5_L59 v6_L59 e0_L59 e0_time_L59 e0_strength_L59 e0_which_L59 (LPX (fX6_odds_L46 c0_s v1_L46 v2_L46 v3_L46 v4_L46) n46)) n59 (v7_L59, v8_L59, e0_swallows_L59) = some res → va_P G vwCl [o6 A0 e0_L59 A0_s A0_draft A0_kept A0_isKept A0_undone A0_seenI A0_seenJ A0_seenTime A0_text A0_kind A0_place A0_value A0_swallows A0_time A0_strength A0_which A0_told, (A0_s, .inl (cI, 27, .inl c0_s)), (A0_swallows, .inl (cI, 4, .inl e0_swallows_L59)), (A0_time, .inl (cI, 25, .inl e0_time_L59)), (A0_strength, .inl (cI, 25, .inl e0_strength_L59)), (A0_which, .inl (cI, 25, .inl e0_which_L59))] H → va_D A [o6 A0 e0_L59 A0_s A0_draft A0_kept A0_isKept A0_undone A0_seenI A0_seenJ A0_seenTime A0_text A0_kind A0_place A0_value A0_swallows A0_time A0_strength A0_which A0_told, (A0_s, .inl (cI, 27, .inl c0_s)), (A0_swallows, .inl (cI, 4, .inl e0_swallows_L59)), (A0_time, .inl (cI, 25, .inl e0_time_L59)), (A0_strength, .inl (cI, 25, .inl e0_strength_L59)), (A0_which, .inl (cI, 25, .inl e0_which_L59))] → va_S A s.heap H locs → lv_has ls 10 [(0, .ref A0), (1, .int v1_L46), (2, .int v2_L46), (3, .int v3_L46), (4, .int v4_L46), (5, .int v5_L59), (6, .int v6_L59), (7, .int v7_L59), (8, .int v8_L59)] → WRW p l e wsX6_odds rX6_odds s m ([.ref A0, .int x1, .int x2, .int x3, .int x4] : List Value).toArray below meth c H locs (Qiw res.1 G A [o6 A0 res.2.1 A0_s A0_draft A0_kept A0_isKept A0_undone A0_seenI A0_seenJ A0_seenTime A0_text A0_kind A0_place A0_value A0_swallows A0_time A0_strength A0_which A0_told, (A0_s, .inl (cI, 27, .inl c0_s)), (A0_swallows, .inl (cI, 4, .inl res.2.2.1)), (A0_time, .inl (cI, 25, .inl res.2.2.2.1)), (A0_strength, .inl (cI, 25, .inl res.2.2.2.2.1)), (A0_which, .inl (cI, 25, .inl res.2.2.2.2.2))]) A (F0 m 59 ls []) := by
                  intro v5_L59 v6_L59 e0_L59 e0_time_L59 e0_strength_L59 e0_which_L59 n59
                  induction n59 with
                  | zero =>
                    intro v7_L59 v8_L59 e0_swallows_L59 H locs ls hres
                    exact absurd (LPX_0.symm.trans hres) (fun h => by cases h)
                  | succ n59 ih59 =>
                    intro v7_L59 v8_L59 e0_swallows_L59 H locs ls hres hP hD hS hl
                    have hres := LPX_s.symm.trans hres
                    have J108 : ∀ (v7_j108 : Int32) (v8_j108 : Int32) (v9_j108 : Int32) (z0_j108 : Int32) (z1_j108 : Int32) (e0_swallows_j108 : (Nat → Int32)) (H : Heap) (locs : List Loc) (ls : Array Slot), fX6_odds_j108 c0_s v1_L46 v2_L46 v3_L46 v4_L46 v5_L59 v6_L59 e0_L59 e0_time_L59 e0_strength_L59 e0_which_L59 v7_j108 v8_j108 v9_j108 z0_j108 z1_j108 e0_swallows_j108 (LPX (fX6_odds_L46 c0_s v1_L46 v2_L46 v3_L46 v4_L46) n46) (LPX (fX6_odds_L59 c0_s v1_L46 v2_L46 v3_L46 v4_L46 v5_L59 v6_L59 e0_L59 e0_time_L59 e0_strength_L59 e0_which_L59 (LPX (fX6_odds_L46 c0_s v1_L46 v2_L46 v3_L46 v4_L46) n46)) n59) = some res → va_P G vwCl [o6 A0 e0_L59 A0_s A0_draft A0_kept A0_isKept A0_undone A0_seenI A0_seenJ A0_seenTime A0_text A0_kind A0_place A0_value A0_swallows A0_time A0_strength A0_which A0_told, (A0_s, .inl (cI, 27, .inl c0_s)), (A0_swallows, .inl (cI, 4, .inl e0_swallows_j108)), (A0_time, .inl (cI, 25, .inl e0_time_L59)), (A0_strength, .inl (cI, 25, .inl e0_strength_L59)), (A0_which, .inl (cI, 25, .inl e0_which_L59))] H → va_D A [o6 A0 e0_L59 A0_s A0_draft A0_kept A0_isKept A0_undone A0_seenI A0_seenJ A0_seenTime A0_text A0_kind A0_place A0_value A0_swallows A0_time A0_strength A0_which A0_told, (A0_s, .inl (cI, 27, .inl c0_s)), (A0_swallows, .inl (cI, 4, .inl e0_swallows_j108)), (A0_time, .inl (cI, 25, .inl e0_time_L59)), (A0_strength, .inl (cI, 25, .inl e0_strength_L59)), (A0_which, .inl (cI, 25, .inl e0_which_L59))] → va_S A s.heap H locs → lv_has ls 10 [(0, .ref A0), (1, .int v1_L46), (2, .int v2_L46), (3, .int v3_L46), (4, .int v4_L46), (5, .int v5_L59), (6, .int v6_L59), (7, .int v7_j108), (8, .int v8_j108), (9, .int v9_j108)] → WRW p l e wsX6_odds rX6_odds s m ([.ref A0, .int x1, .int x2, .int x3, .int x4] : List Value).toArray below meth c H locs (Qiw res.1 G A [o6 A0 res.2.1 A0_s A0_draft A0_kept A0_isKept A0_undone A0_seenI A0_seenJ A0_seenTime A0_text A0_kind A0_place A0_value A0_swallows A0_time A0_strength A0_which A0_told, (A0_s, .inl (cI, 27, .inl c0_s)), (A0_swallows, .inl (cI, 4, .inl res.2.2.1)), (A0_time, .inl (cI, 25, .inl res.2.2.2.1)), (A0_strength, .inl (cI, 25, .inl res.2.2.2.2.1)), (A0_which, .inl (cI, 25, .inl res.2.2.2.2.2))]) A (F0 m 108 ls [.int z0_j108, .int z1_j108, .ref A0_swallows]) := by
                      intro v7_j108 v8_j108 v9_j108 z0_j108 z1_j108 e0_swallows_j108 H locs ls hres hP hD hS hl
                      have g11 := gd_1 hres
                      have hres := gd_2 hres
                      refine x_iast hx hb hK hP hD hS 2 rfl (j := (Int32.toNatClampNeg z1_j108)) rfl g11 dX6_odds_108 (fun H locs hP hD hS => ?_)
                      have hP : va_P G vwCl [o6 A0 e0_L59 A0_s A0_draft A0_kept A0_isKept A0_undone A0_seenI A0_seenJ A0_seenTime A0_text A0_kind A0_place A0_value A0_swallows A0_time A0_strength A0_which A0_told, (A0_s, .inl (cI, 27, .inl c0_s)), (A0_swallows, .inl (cI, 4, .inl (upd e0_swallows_j108 (Int32.toNatClampNeg z1_j108) z0_j108))), (A0_time, .inl (cI, 25, .inl e0_time_L59)), (A0_strength, .inl (cI, 25, .inl e0_strength_L59)), (A0_which, .inl (cI, 25, .inl e0_which_L59))] H := hP
                      have hD : va_D A [o6 A0 e0_L59 A0_s A0_draft A0_kept A0_isKept A0_undone A0_seenI A0_seenJ A0_seenTime A0_text A0_kind A0_place A0_value A0_swallows A0_time A0_strength A0_which A0_told, (A0_s, .inl (cI, 27, .inl c0_s)), (A0_swallows, .inl (cI, 4, .inl (upd e0_swallows_j108 (Int32.toNatClampNeg z1_j108) z0_j108))), (A0_time, .inl (cI, 25, .inl e0_time_L59)), (A0_strength, .inl (cI, 25, .inl e0_strength_L59)), (A0_which, .inl (cI, 25, .inl e0_which_L59))] := hD
                      refine lv_iload hx hb dX6_odds_109 (lv_at hl 7 rfl) ?_
                      refine lv_iload hx hb dX6_odds_111 (lv_at hl 9 rfl) ?_
                      refine lv_if_eq (tgt := 120) hx hb dX6_odds_113 (by decide) (fun h12 => ?_) (fun h12 => ?_)
                      · have hres := ite_t hres h12
                        refine lv_bipush (v := 10) hx hb dX6_odds_120 (by decide) ?_
                        refine lv_iload_n hx hb dX6_odds_122 rfl (lv_at hl 1 rfl) ?_
                        refine lv_isub hx hb dX6_odds_123 ?_
                        refine lv_imul hx hb dX6_odds_124 ?_
                        refine lv_topi (fun y13 ey13 => ?_)
                        have hres := bnd_z ey13 hres
                        refine lv_istore (lv' := [(7, .int y13), (0, .ref A0), (1, .int v1_L46), (2, .int v2_L46), (3, .int v3_L46), (4, .int v4_L46), (5, .int v5_L59), (6, .int v6_L59), (8, .int v8_j108), (9, .int v9_j108)]) hx hb dX6_odds_125 hl (by decide) rfl (fun ls hl => ?_)
                        refine lv_iinc (v := (v8_j108 + 1)) (lv' := [(8, .int (v8_j108 + 1)), (7, .int y13), (0, .ref A0), (1, .int v1_L46), (2, .int v2_L46), (3, .int v3_L46), (4, .int v4_L46), (5, .int v5_L59), (6, .int v6_L59), (9, .int v9_j108)]) hx hb dX6_odds_127 hl (k := 8) rfl rfl (by decide) rfl (fun ls hl => ?_)
                        refine lv_goto (tgt := 59) hx hb dX6_odds_130 (by decide) ?_
                        exact ih59 y13 (v8_j108 + 1) (upd e0_swallows_j108 (Int32.toNatClampNeg z1_j108) z0_j108) _ _ _ hres hP hD hS (lv_sub hl [2, 3, 4, 5, 6, 7, 8, 1, 0] rfl)
                      · have hres := ite_f hres h12
                        refine lv_iload_n hx hb dX6_odds_116 rfl (lv_at hl 1 rfl) ?_
                        refine lv_goto (tgt := 124) hx hb dX6_odds_117 (by decide) ?_
                        refine lv_imul hx hb dX6_odds_124 ?_
                        refine lv_topi (fun y14 ey14 => ?_)
                        have hres := bnd_z ey14 hres
                        refine lv_istore (lv' := [(7, .int y14), (0, .ref A0), (1, .int v1_L46), (2, .int v2_L46), (3, .int v3_L46), (4, .int v4_L46), (5, .int v5_L59), (6, .int v6_L59), (8, .int v8_j108), (9, .int v9_j108)]) hx hb dX6_odds_125 hl (by decide) rfl (fun ls hl => ?_)
                        refine lv_iinc (v := (v8_j108 + 1)) (lv' := [(8, .int (v8_j108 + 1)), (7, .int y14), (0, .ref A0), (1, .int v1_L46), (2, .int v2_L46), (3, .int v3_L46), (4, .int v4_L46), (5, .int v5_L59), (6, .int v6_L59), (9, .int v9_j108)]) hx hb dX6_odds_127 hl (k := 8) rfl rfl (by decide) rfl (fun ls hl => ?_)
                        refine lv_goto (tgt := 59) hx hb dX6_odds_130 (by decide) ?_
                        exact ih59 y14 (v8_j108 + 1) (upd e0_swallows_j108 (Int32.toNatClampNeg z1_j108) z0_j108) _ _ _ hres hP hD hS (lv_sub hl [2, 3, 4, 5, 6, 7, 8, 1, 0] rfl)
                    have J81 : ∀ (v7_j81 : Int32) (v8_j81 : Int32) (z0_j81 : Int32) (e0_swallows_j81 : (Nat → Int32)) (H : Heap) (locs : List Loc) (ls : Array Slot), fX6_odds_j81 c0_s v1_L46 v2_L46 v3_L46 v4_L46 v5_L59 v6_L59 e0_L59 e0_time_L59 e0_strength_L59 e0_which_L59 v7_j81 v8_j81 z0_j81 e0_swallows_j81 (LPX (fX6_odds_L46 c0_s v1_L46 v2_L46 v3_L46 v4_L46) n46) (LPX (fX6_odds_L59 c0_s v1_L46 v2_L46 v3_L46 v4_L46 v5_L59 v6_L59 e0_L59 e0_time_L59 e0_strength_L59 e0_which_L59 (LPX (fX6_odds_L46 c0_s v1_L46 v2_L46 v3_L46 v4_L46) n46)) n59) = some res → va_P G vwCl [o6 A0 e0_L59 A0_s A0_draft A0_kept A0_isKept A0_undone A0_seenI A0_seenJ A0_seenTime A0_text A0_kind A0_place A0_value A0_swallows A0_time A0_strength A0_which A0_told, (A0_s, .inl (cI, 27, .inl c0_s)), (A0_swallows, .inl (cI, 4, .inl e0_swallows_j81)), (A0_time, .inl (cI, 25, .inl e0_time_L59)), (A0_strength, .inl (cI, 25, .inl e0_strength_L59)), (A0_which, .inl (cI, 25, .inl e0_which_L59))] H → va_D A [o6 A0 e0_L59 A0_s A0_draft A0_kept A0_isKept A0_undone A0_seenI A0_seenJ A0_seenTime A0_text A0_kind A0_place A0_value A0_swallows A0_time A0_strength A0_which A0_told, (A0_s, .inl (cI, 27, .inl c0_s)), (A0_swallows, .inl (cI, 4, .inl e0_swallows_j81)), (A0_time, .inl (cI, 25, .inl e0_time_L59)), (A0_strength, .inl (cI, 25, .inl e0_strength_L59)), (A0_which, .inl (cI, 25, .inl e0_which_L59))] → va_S A s.heap H locs → lv_has ls 10 [(0, .ref A0), (1, .int v1_L46), (2, .int v2_L46), (3, .int v3_L46), (4, .int v4_L46), (5, .int v5_L59), (6, .int v6_L59), (7, .int v7_j81), (8, .int v8_j81)] → WRW p l e wsX6_odds rX6_odds s m ([.ref A0, .int x1, .int x2, .int x3, .int x4] : List Value).toArray below meth c H locs (Qiw res.1 G A [o6 A0 res.2.1 A0_s A0_draft A0_kept A0_isKept A0_undone A0_seenI A0_seenJ A0_seenTime A0_text A0_kind A0_place A0_value A0_swallows A0_time A0_strength A0_which A0_told, (A0_s, .inl (cI, 27, .inl c0_s)), (A0_swallows, .inl (cI, 4, .inl res.2.2.1)), (A0_time, .inl (cI, 25, .inl res.2.2.2.1)), (A0_strength, .inl (cI, 25, .inl res.2.2.2.2.1)), (A0_which, .inl (cI, 25, .inl res.2.2.2.2.2))]) A (F0 m 81 ls [.int z0_j81]) := by
                      intro v7_j81 v8_j81 z0_j81 e0_swallows_j81 H locs ls hres hP hD hS hl
                      refine lv_istore (lv' := [(9, .int z0_j81), (0, .ref A0), (1, .int v1_L46), (2, .int v2_L46), (3, .int v3_L46), (4, .int v4_L46), (5, .int v5_L59), (6, .int v6_L59), (7, .int v7_j81), (8, .int v8_j81)]) hx hb dX6_odds_81 hl (by decide) rfl (fun ls hl => ?_)
                      refine lv_aload_n hx hb dX6_odds_83 rfl (lv_at hl 1 rfl) ?_
                      refine va_get (D := G) (ci := 6) (v := .ref A0_swallows) (C := RX6) (T := TX6) (N := 22) hx hb hts (fun w h => (List.mem_cons_of_mem _ (List.mem_append_right _ h))) hown hK.1 hP 0 rfl rfl 16 (by decide) (hts (.fieldLink RX6 47 "EchoSeatsModel" "swallows" "[I") (List.mem_of_getElem? (i := 2) rfl)) (fun _ h9 => h9) rfl dX6_odds_84 ?_
                      refine lv_iload hx hb dX6_odds_87 (lv_at hl 9 rfl) ?_
                      refine lv_iload hx hb dX6_odds_89 (lv_at hl 0 rfl) ?_
                      refine lv_if_eq (tgt := 99) hx hb dX6_odds_91 (by decide) (fun h15 => ?_) (fun h15 => ?_)
                      · have hres := ite_t hres h15
                        refine lv_aload_n hx hb dX6_odds_99 rfl (lv_at hl 1 rfl) ?_
                        refine va_get (D := G) (ci := 6) (v := .ref A0_s) (C := RX6) (T := TX6) (N := 22) hx hb hts (fun w h => (List.mem_cons_of_mem _ (List.mem_append_right _ h))) hown hK.1 hP 0 rfl rfl 0 (by decide) (hts (.fieldLink RX6 7 "EchoSeatsModel" "s" "[I") (List.mem_of_getElem? (i := 3) rfl)) (fun _ h9 => h9) rfl dX6_odds_100 ?_
                        refine lv_iconst (v := 4) hx hb dX6_odds_103 (by decide) ?_
                        refine lv_iload hx hb dX6_odds_104 (lv_at hl 9 rfl) ?_
                        refine lv_iadd hx hb dX6_odds_106 ?_
                        have g16 := gd_1 hres
                        have hres := gd_2 hres
                        refine x_iald hx hb hK hP 1 rfl (j := (Int32.toNatClampNeg (4 + v8_j81))) rfl g16 dX6_odds_107 ?_
                        exact J108 v7_j81 v8_j81 z0_j81 (c0_s (Int32.toNatClampNeg (4 + v8_j81))) v8_j81 e0_swallows_j81 _ _ _ hres hP hD hS (lv_sub hl [1, 2, 3, 4, 5, 6, 7, 8, 9, 0] rfl)
                      · have hres := ite_f hres h15
                        refine lv_bipush (v := 10) hx hb dX6_odds_94 (by decide) ?_
                        refine lv_goto (tgt := 108) hx hb dX6_odds_96 (by decide) ?_
                        exact J108 v7_j81 v8_j81 z0_j81 10 v8_j81 e0_swallows_j81 _ _ _ hres hP hD hS (lv_sub hl [1, 2, 3, 4, 5, 6, 7, 8, 9, 0] rfl)
                    refine lv_iload hx hb dX6_odds_59 (lv_at hl 8 rfl) ?_
                    refine lv_iconst (v := 4) hx hb dX6_odds_61 (by decide) ?_
                    refine lv_icmp_ge (tgt := 133) hx hb dX6_odds_62 (by decide) (fun h17 => ?_) (fun h17 => ?_)
                    · have hres := ite_t hres h17
                      refine lv_aload_n hx hb dX6_odds_133 rfl (lv_at hl 0 rfl) ?_
                      refine lv_iload_n hx hb dX6_odds_134 rfl (lv_at hl 2 rfl) ?_
                      obtain ⟨r18, hr18, hres⟩ := bi_1 hres
                      refine x_cv (wr := []) (w2 := [o6 A0 r18.1 A0_s A0_draft A0_kept A0_isKept A0_undone A0_seenI A0_seenJ A0_seenTime A0_text A0_kind A0_place A0_value A0_swallows A0_time A0_strength A0_which A0_told, (A0_s, .inl (cI, 27, .inl c0_s)), (A0_swallows, .inl (cI, 4, .inl e0_swallows_L59)), (A0_time, .inl (cI, 25, .inl r18.2.1)), (A0_strength, .inl (cI, 25, .inl r18.2.2.1)), (A0_which, .inl (cI, 25, .inl r18.2.2.2))]) hP hD hS hA (va_runV (As := [.int v2_L46]) (rest := []) ⟨hx, hb, hml, hown, hts⟩ (kX6_hears l G cI cZ tl H.size _ A0 A0_s A0_draft A0_kept A0_isKept A0_undone A0_seenI A0_seenJ A0_seenTime A0_text A0_kind A0_place A0_value A0_swallows A0_time A0_strength A0_which A0_told e0_L59 c0_s e0_time_L59 e0_swallows_L59 e0_strength_L59 e0_which_L59 v2_L46 r18 rfl hr18) (cwV 1 hts gX6_odds_X6_hears rfl rfl rfl hsX6_hears ⟨Nat.le_of_ble_eq_true rfl, Nat.le_of_ble_eq_true rfl⟩) ⟨PRW_blind, va_recv hK.1 hP (ci := 6) (q0 := 0) rfl rfl, PRW_at (hP.sub (ws' := [o6 A0 e0_L59 A0_s A0_draft A0_kept A0_isKept A0_undone A0_seenI A0_seenJ A0_seenTime A0_text A0_kind A0_place A0_value A0_swallows A0_time A0_strength A0_which A0_told, (A0_s, .inl (cI, 27, .inl c0_s)), (A0_time, .inl (cI, 25, .inl e0_time_L59)), (A0_swallows, .inl (cI, 4, .inl e0_swallows_L59)), (A0_strength, .inl (cI, 25, .inl e0_strength_L59)), (A0_which, .inl (cI, 25, .inl e0_which_L59))]) [0, 1, 3, 2, 4, 5] rfl) (hD.sub (ws' := [o6 A0 e0_L59 A0_s A0_draft A0_kept A0_isKept A0_undone A0_seenI A0_seenJ A0_seenTime A0_text A0_kind A0_place A0_value A0_swallows A0_time A0_strength A0_which A0_told, (A0_s, .inl (cI, 27, .inl c0_s)), (A0_time, .inl (cI, 25, .inl e0_time_L59)), (A0_swallows, .inl (cI, 4, .inl e0_swallows_L59)), (A0_strength, .inl (cI, 25, .inl e0_strength_L59)), (A0_which, .inl (cI, 25, .inl e0_which_L59))]) [0, 1, 3, 2, 4, 5] (by decide) rfl) hK⟩ rfl rfl hl.1 rfl (lv_room (Nat.le_of_ble_eq_true rfl)) dX6_odds_135 ⟨Nat.zero_le _, Nat.zero_le _⟩) [0, 1, 3, 2, 4, 5] [] [0, 1, 3, 2, 4, 5] rfl rfl (by decide) (by decide) rfl rfl (by decide) (fun H locs hP hD hS => ?_)
                      refine lv_iload hx hb dX6_odds_138 (lv_at hl 5 rfl) ?_
                      refine lv_aload_n hx hb dX6_odds_140 rfl (lv_at hl 0 rfl) ?_
                      obtain ⟨r19, hr19, hres⟩ := bi_1 hres
                      refine x_cp (va_runV (As := []) (rest := [.int v5_L59]) ⟨hx, hb, hml, hown, hts⟩ (kX6_soundAll l G cI cZ tl A0 A0_s A0_draft A0_kept A0_isKept A0_undone A0_seenI A0_seenJ A0_seenTime A0_text A0_kind A0_place A0_value A0_swallows A0_time A0_strength A0_which A0_told r18.1 r18.2.1 r18.2.2.1 r19 hr19) (cwV 0 hts gX6_odds_X6_soundAll rfl rfl rfl hsX6_soundAll ⟨Nat.le_of_ble_eq_true rfl, Nat.le_of_ble_eq_true rfl⟩) ⟨PRO_blind, va_recv hK.1 hP (ci := 6) (q0 := 0) rfl rfl, PRO_at (hP.sub (ws' := [o6 A0 r18.1 A0_s A0_draft A0_kept A0_isKept A0_undone A0_seenI A0_seenJ A0_seenTime A0_text A0_kind A0_place A0_value A0_swallows A0_time A0_strength A0_which A0_told, (A0_time, .inl (cI, 25, .inl r18.2.1)), (A0_strength, .inl (cI, 25, .inl r18.2.2.1))]) [0, 3, 4] rfl) hK⟩ rfl rfl hl.1 rfl (lv_room (Nat.le_of_ble_eq_true rfl)) dX6_odds_141 ⟨Nat.zero_le _, Nat.zero_le _⟩) ?_
                      refine lv_iload_n hx hb dX6_odds_144 rfl (lv_at hl 3 rfl) ?_
                      refine lv_icmp_lt (tgt := 153) hx hb dX6_odds_145 (by decide) (fun h20 => ?_) (fun h20 => ?_)
                      · have hres := ite_t hres h20
                        refine lv_iconst (v := 0) hx hb dX6_odds_153 (by decide) ?_
                        refine lv_iadd hx hb dX6_odds_154 ?_
                        refine lv_topi (fun y21 ey21 => ?_)
                        have hres := bnd_z ey21 hres
                        refine lv_istore (lv' := [(5, .int y21), (0, .ref A0), (1, .int v1_L46), (2, .int v2_L46), (3, .int v3_L46), (4, .int v4_L46), (6, .int v6_L59), (7, .int v7_L59), (8, .int v8_L59)]) hx hb dX6_odds_155 hl (by decide) rfl (fun ls hl => ?_)
                        refine lv_iinc (v := (v6_L59 + 1)) (lv' := [(6, .int (v6_L59 + 1)), (5, .int y21), (0, .ref A0), (1, .int v1_L46), (2, .int v2_L46), (3, .int v3_L46), (4, .int v4_L46), (7, .int v7_L59), (8, .int v8_L59)]) hx hb dX6_odds_157 hl (k := 6) rfl rfl (by decide) rfl (fun ls hl => ?_)
                        refine lv_goto (tgt := 46) hx hb dX6_odds_160 (by decide) ?_
                        exact ih46 y21 (v6_L59 + 1) r18.1 e0_swallows_L59 r18.2.1 r18.2.2.1 r18.2.2.2 _ _ _ hres hP hD hS (lv_sub hl [2, 3, 4, 5, 6, 1, 0] rfl)
                      · have hres := ite_f hres h20
                        refine lv_iload hx hb dX6_odds_148 (lv_at hl 7 rfl) ?_
                        refine lv_goto (tgt := 154) hx hb dX6_odds_150 (by decide) ?_
                        refine lv_iadd hx hb dX6_odds_154 ?_
                        refine lv_topi (fun y22 ey22 => ?_)
                        have hres := bnd_z ey22 hres
                        refine lv_istore (lv' := [(5, .int y22), (0, .ref A0), (1, .int v1_L46), (2, .int v2_L46), (3, .int v3_L46), (4, .int v4_L46), (6, .int v6_L59), (7, .int v7_L59), (8, .int v8_L59)]) hx hb dX6_odds_155 hl (by decide) rfl (fun ls hl => ?_)
                        refine lv_iinc (v := (v6_L59 + 1)) (lv' := [(6, .int (v6_L59 + 1)), (5, .int y22), (0, .ref A0), (1, .int v1_L46), (2, .int v2_L46), (3, .int v3_L46), (4, .int v4_L46), (7, .int v7_L59), (8, .int v8_L59)]) hx hb dX6_odds_157 hl (k := 6) rfl rfl (by decide) rfl (fun ls hl => ?_)
                        refine lv_goto (tgt := 46) hx hb dX6_odds_160 (by decide) ?_
                        exact ih46 y22 (v6_L59 + 1) r18.1 e0_swallows_L59 r18.2.1 r18.2.2.1 r18.2.2.2 _ _ _ hres hP hD hS (lv_sub hl [2, 3, 4, 5, 6, 1, 0] rfl)
                    · have hres := ite_f hres h17
                      refine lv_iload hx hb dX6_odds_65 (lv_at hl 6 rfl) ?_
                      refine lv_iload hx hb dX6_odds_67 (lv_at hl 8 rfl) ?_
                      refine lv_ishr hx hb dX6_odds_69 ?_
                      refine lv_iconst (v := 1) hx hb dX6_odds_70 (by decide) ?_
                      refine lv_iand hx hb dX6_odds_71 ?_
                      refine lv_iconst (v := 1) hx hb dX6_odds_72 (by decide) ?_
                      refine lv_icmp_ne (tgt := 80) hx hb dX6_odds_73 (by decide) (fun h23 => ?_) (fun h23 => ?_)
                      · have hres := ite_f hres h23
                        refine lv_iconst (v := 0) hx hb dX6_odds_80 (by decide) ?_
                        exact J81 v7_L59 v8_L59 0 e0_swallows_L59 _ _ _ hres hP hD hS (lv_sub hl [0, 1, 2, 3, 4, 5, 6, 7, 8] rfl)
                      · have hres := ite_t hres h23
                        refine lv_iconst (v := 1) hx hb dX6_odds_76 (by decide) ?_
                        refine lv_goto (tgt := 81) hx hb dX6_odds_77 (by decide) ?_
                        exact J81 v7_L59 v8_L59 1 e0_swallows_L59 _ _ _ hres hP hD hS (lv_sub hl [0, 1, 2, 3, 4, 5, 6, 7, 8] rfl)
                exact Q59 v5_L46 v6_L46 e0_L46 e0_time_L46 e0_strength_L46 e0_which_L46 FU 1 0 e0_swallows_L46 _ _ _ hres hP hD hS (lv_sub hl [2, 3, 4, 5, 6, 7, 8, 1, 0] rfl)
          exact Q46 x1 x2 x3 x4 FU 0 0 c0 c0_swallows c0_time c0_strength c0_which _ _ _ hres hP hD hS (lv_sub hl [2, 3, 4, 5, 6, 1, 0] rfl)
        · have hres := ite_t hres h8
          refine lv_iconst (v := (-1)) hx hb dX6_odds_38 (by decide) ?_
          obtain rfl := Option.some.inj hres
          exact W.iret hx hb hr (fun t ht hW => ⟨⟨_, (), rfl, rfl, by rw [ht]; exact hP, hD⟩, hS.F ht⟩) hS.2.2 dX6_odds_39
theorem hsX6_odds : yX6_odds.cls = RX6 ∧ yX6_odds.cls ≠ "java/lang/invoke/MethodHandle" ∧ yX6_odds.cls ≠ "java/lang/invoke/VarHandle" ∧ (parseMethodDescriptor yX6_odds.desc).map (fun d => d.parameters.length) = some 4 := by decide +kernel
set_option maxHeartbeats 4000000 in
set_option maxRecDepth 100000 in
theorem kX6_pads (l : Launch) (G : va_G) (cI cZ : ClassId) (tl : List (ClassId × FieldType)) (sz : Nat) (A : Nat → Prop) (A0 A0_s A0_draft A0_kept A0_isKept A0_undone A0_seenI A0_seenJ A0_seenTime A0_text A0_kind A0_place A0_value A0_swallows A0_time A0_strength A0_which A0_told : Nat) (c0 c0_s c0_undone : Nat → Int32) (x1 x2 : Int32) (res : Int32 × (Nat → Int32) × (Nat → Int32) × (Nat → Int32)) (hAe : A = va_A [o6 A0 c0 A0_s A0_draft A0_kept A0_isKept A0_undone A0_seenI A0_seenJ A0_seenTime A0_text A0_kind A0_place A0_value A0_swallows A0_time A0_strength A0_which A0_told, (A0_s, .inl (cI, 27, .inl c0_s)), (A0_undone, .inl (cI, 40, .inl c0_undone))] sz) (hres : fX6_pads c0 c0_s c0_undone x1 x2 = some res) : Met l yX6_pads wsX6_pads rX6_pads (va_Pc [.ref A0, .int x1, .int x2] (PRW G cI cZ tl [o6 A0 c0 A0_s A0_draft A0_kept A0_isKept A0_undone A0_seenI A0_seenJ A0_seenTime A0_text A0_kind A0_place A0_value A0_swallows A0_time A0_strength A0_which A0_told, (A0_s, .inl (cI, 27, .inl c0_s)), (A0_undone, .inl (cI, 40, .inl c0_undone))] sz)) (Qiw res.1 G A [o6 A0 res.2.1 A0_s A0_draft A0_kept A0_isKept A0_undone A0_seenI A0_seenJ A0_seenTime A0_text A0_kind A0_place A0_value A0_swallows A0_time A0_strength A0_which A0_told, (A0_s, .inl (cI, 27, .inl res.2.2.1)), (A0_undone, .inl (cI, 40, .inl res.2.2.2))]) 0 0 A := by
  refine Met.ofW (cc := cX6_pads) (maxL := 4) (ret := (some .int)) (by decide) rfl ?_
  intro p e s m args below meth c s₁ B hml hv
  obtain ⟨rfl, hsz, hP, hK, hD0⟩ := hv
  have hx := B.exec
  have hb := B.bytes
  have hr := B.returns
  have hts := atoms_spec (ws := wsX6_pads) B.pre
  have hown : s.vm.findClass RX6 = some m.cls := findClass_of_methodNamed B.named
  have hlocks := B.notSynchronized
  subst hsz
  have hD : va_D A [o6 A0 c0 A0_s A0_draft A0_kept A0_isKept A0_undone A0_seenI A0_seenJ A0_seenTime A0_text A0_kind A0_place A0_value A0_swallows A0_time A0_strength A0_which A0_told, (A0_s, .inl (cI, 27, .inl c0_s)), (A0_undone, .inl (cI, 40, .inl c0_undone))] := by rw [hAe]; exact hD0.self
  have hA : ∀ q : Nat, s.heap.size ≤ q → A q := fun q h => by rw [hAe]; exact Or.inr h
  clear hAe hD0
  have hS : va_S A s.heap s.heap [] := va_S.rf
  have hl := lv_entry ([.ref A0, .int x1, .int x2] : List Value) (n := 4) (Nat.le_of_ble_eq_true rfl)
  rw [lg_entry_eq]
  generalize (lg_sl ([.ref A0, .int x1, .int x2] : List Value) ++ List.replicate (4 - (lg_sl ([.ref A0, .int x1, .int x2] : List Value)).length) Slot.unset).toArray = ls at hl ⊢
  have hl : lv_has ls 4 [(0, .ref A0), (1, .int x1), (2, .int x2)] := hl
  refine lv_iload_n hx hb dX6_pads_0 rfl (lv_at hl 1 rfl) ?_
  refine lv_iconst (v := 0) hx hb dX6_pads_1 (by decide) ?_
  refine lv_iconst (v := 3) hx hb dX6_pads_2 (by decide) ?_
  obtain ⟨r1, hr1, hres⟩ := bi_1 hres
  refine x_cp (va_runS (As := [.int x1, .int 0, .int 3]) (rest := []) ⟨hx, hb, hml, hown, hts⟩ (kX6_in l G cI cZ tl x1 0 3 r1 hr1) (va_cwS 3 hts gX6_pads_X6_in rfl rfl rfl hsX6_in ⟨Nat.le_of_ble_eq_true rfl, Nat.le_of_ble_eq_true rfl⟩) ⟨PRO_blind, PRO_at va_P0 hK⟩ rfl rfl hl.1 rfl (lv_room (Nat.le_of_ble_eq_true rfl)) dX6_pads_3 ⟨Nat.zero_le _, Nat.zero_le _⟩) ?_
  refine lv_if_eq (tgt := 19) hx hb dX6_pads_6 (by decide) (fun h2 => ?_) (fun h2 => ?_)
  · have hres := ite_t hres h2
    refine lv_iconst (v := (-1)) hx hb dX6_pads_19 (by decide) ?_
    obtain rfl := Option.some.inj hres
    exact W.iret hx hb hr (fun t ht hW => ⟨⟨_, (), rfl, rfl, by rw [ht]; exact hP, hD⟩, hS.F ht⟩) hS.2.2 dX6_pads_20
  · have hres := ite_f hres h2
    refine lv_iload_n hx hb dX6_pads_9 rfl (lv_at hl 2 rfl) ?_
    refine lv_iconst (v := 0) hx hb dX6_pads_10 (by decide) ?_
    refine lv_bipush (v := 10) hx hb dX6_pads_11 (by decide) ?_
    obtain ⟨r3, hr3, hres⟩ := bi_1 hres
    refine x_cp (va_runS (As := [.int x2, .int 0, .int 10]) (rest := []) ⟨hx, hb, hml, hown, hts⟩ (kX6_in l G cI cZ tl x2 0 10 r3 hr3) (va_cwS 3 hts gX6_pads_X6_in rfl rfl rfl hsX6_in ⟨Nat.le_of_ble_eq_true rfl, Nat.le_of_ble_eq_true rfl⟩) ⟨PRO_blind, PRO_at va_P0 hK⟩ rfl rfl hl.1 rfl (lv_room (Nat.le_of_ble_eq_true rfl)) dX6_pads_13 ⟨Nat.zero_le _, Nat.zero_le _⟩) ?_
    refine lv_if_ne (tgt := 21) hx hb dX6_pads_16 (by decide) (fun h4 => ?_) (fun h4 => ?_)
    · have hres := ite_f hres h4
      refine lv_aload_n hx hb dX6_pads_21 rfl (lv_at hl 0 rfl) ?_
      refine va_get (D := G) (ci := 6) (v := .ref A0_s) (C := RX6) (T := TX6) (N := 22) hx hb hts (fun w h => (List.mem_cons_of_mem _ (List.mem_append_right _ h))) hown hK.1 hP 0 rfl rfl 0 (by decide) (hts (.fieldLink RX6 7 "EchoSeatsModel" "s" "[I") (List.mem_of_getElem? (i := 1) rfl)) (fun _ h9 => h9) rfl dX6_pads_22 ?_
      refine lv_iconst (v := 4) hx hb dX6_pads_25 (by decide) ?_
      refine lv_iload_n hx hb dX6_pads_26 rfl (lv_at hl 1 rfl) ?_
      refine lv_iadd hx hb dX6_pads_27 ?_
      have g5 := gd_1 hres
      have hres := gd_2 hres
      refine x_iald hx hb hK hP 1 rfl (j := (Int32.toNatClampNeg (4 + x1))) rfl g5 dX6_pads_28 ?_
      refine lv_topi (fun y6 ey6 => ?_)
      have hres := bnd_z ey6 hres
      refine lv_istore_n (lv' := [(3, .int y6), (0, .ref A0), (1, .int x1), (2, .int x2)]) hx hb dX6_pads_29 rfl hl (by decide) rfl (fun ls hl => ?_)
      refine lv_iload_n hx hb dX6_pads_30 rfl (lv_at hl 0 rfl) ?_
      refine lv_iload_n hx hb dX6_pads_31 rfl (lv_at hl 3 rfl) ?_
      refine lv_icmp_ne (tgt := 38) hx hb dX6_pads_32 (by decide) (fun h7 => ?_) (fun h7 => ?_)
      · have hres := ite_f hres h7
        refine lv_aload_n hx hb dX6_pads_38 rfl (lv_at hl 1 rfl) ?_
        refine lv_iconst (v := 4) hx hb dX6_pads_39 (by decide) ?_
        refine lv_iload_n hx hb dX6_pads_40 rfl (lv_at hl 2 rfl) ?_
        refine lv_iadd hx hb dX6_pads_41 ?_
        refine lv_iconst (v := 4) hx hb dX6_pads_42 (by decide) ?_
        refine lv_iload_n hx hb dX6_pads_43 rfl (lv_at hl 2 rfl) ?_
        refine lv_iadd hx hb dX6_pads_44 ?_
        obtain ⟨r8, hr8, hres⟩ := bi_1 hres
        refine x_cv (wr := []) (w2 := [o6 A0 r8.1 A0_s A0_draft A0_kept A0_isKept A0_undone A0_seenI A0_seenJ A0_seenTime A0_text A0_kind A0_place A0_value A0_swallows A0_time A0_strength A0_which A0_told, (A0_s, .inl (cI, 27, .inl c0_s)), (A0_undone, .inl (cI, 40, .inl r8.2))]) hP hD hS hA (va_runV (As := [.int (4 + x1), .int (4 + x1)]) (rest := []) ⟨hx, hb, hml, hown, hts⟩ (kX6_known l G cI cZ tl s.heap.size _ A0 A0_s A0_draft A0_kept A0_isKept A0_undone A0_seenI A0_seenJ A0_seenTime A0_text A0_kind A0_place A0_value A0_swallows A0_time A0_strength A0_which A0_told c0 c0_undone c0_s (4 + x1) (4 + x1) r8 rfl hr8) (cwV 2 hts gX6_pads_X6_known rfl rfl rfl hsX6_known ⟨Nat.le_of_ble_eq_true rfl, Nat.le_of_ble_eq_true rfl⟩) ⟨PRW_blind, va_recv hK.1 hP (ci := 6) (q0 := 0) rfl rfl, PRW_at (hP.sub (ws' := [o6 A0 c0 A0_s A0_draft A0_kept A0_isKept A0_undone A0_seenI A0_seenJ A0_seenTime A0_text A0_kind A0_place A0_value A0_swallows A0_time A0_strength A0_which A0_told, (A0_undone, .inl (cI, 40, .inl c0_undone)), (A0_s, .inl (cI, 27, .inl c0_s))]) [0, 2, 1] rfl) (hD.sub (ws' := [o6 A0 c0 A0_s A0_draft A0_kept A0_isKept A0_undone A0_seenI A0_seenJ A0_seenTime A0_text A0_kind A0_place A0_value A0_swallows A0_time A0_strength A0_which A0_told, (A0_undone, .inl (cI, 40, .inl c0_undone)), (A0_s, .inl (cI, 27, .inl c0_s))]) [0, 2, 1] (by decide) rfl) hK⟩ rfl rfl hl.1 rfl (lv_room (Nat.le_of_ble_eq_true rfl)) dX6_pads_45 ⟨Nat.zero_le _, Nat.zero_le _⟩) [0, 2, 1] [] [0, 2, 1] rfl rfl (by decide) (by decide) rfl rfl (by decide) (fun H locs hP hD hS => ?_)
        refine lv_aload_n hx hb dX6_pads_48 rfl (lv_at hl 1 rfl) ?_
        refine va_get (D := G) (ci := 6) (v := .ref A0_s) (C := RX6) (T := TX6) (N := 22) hx hb hts (fun w h => (List.mem_cons_of_mem _ (List.mem_append_right _ h))) hown hK.1 hP 0 rfl rfl 0 (by decide) (hts (.fieldLink RX6 7 "EchoSeatsModel" "s" "[I") (List.mem_of_getElem? (i := 1) rfl)) (fun _ h9 => h9) rfl dX6_pads_49 ?_
        refine lv_iconst (v := 4) hx hb dX6_pads_52 (by decide) ?_
        refine lv_iload_n hx hb dX6_pads_53 rfl (lv_at hl 2 rfl) ?_
        refine lv_iadd hx hb dX6_pads_54 ?_
        refine lv_iload_n hx hb dX6_pads_55 rfl (lv_at hl 3 rfl) ?_
        have g9 := gd_1 hres
        have hres := gd_2 hres
        refine x_iast hx hb hK hP hD hS 1 rfl (j := (Int32.toNatClampNeg (4 + x1))) rfl g9 dX6_pads_56 (fun H locs hP hD hS => ?_)
        have hP : va_P G vwCl [o6 A0 r8.1 A0_s A0_draft A0_kept A0_isKept A0_undone A0_seenI A0_seenJ A0_seenTime A0_text A0_kind A0_place A0_value A0_swallows A0_time A0_strength A0_which A0_told, (A0_s, .inl (cI, 27, .inl (upd c0_s (Int32.toNatClampNeg (4 + x1)) x2))), (A0_undone, .inl (cI, 40, .inl r8.2))] H := hP
        have hD : va_D A [o6 A0 r8.1 A0_s A0_draft A0_kept A0_isKept A0_undone A0_seenI A0_seenJ A0_seenTime A0_text A0_kind A0_place A0_value A0_swallows A0_time A0_strength A0_which A0_told, (A0_s, .inl (cI, 27, .inl (upd c0_s (Int32.toNatClampNeg (4 + x1)) x2))), (A0_undone, .inl (cI, 40, .inl r8.2))] := hD
        refine lv_iload_n hx hb dX6_pads_57 rfl (lv_at hl 0 rfl) ?_
        obtain rfl := Option.some.inj hres
        exact W.iret hx hb hr (fun t ht hW => ⟨⟨_, (), rfl, rfl, by rw [ht]; exact hP, hD⟩, hS.F ht⟩) hS.2.2 dX6_pads_58
      · have hres := ite_t hres h7
        refine lv_bipush (v := (-2)) hx hb dX6_pads_35 (by decide) ?_
        obtain rfl := Option.some.inj hres
        exact W.iret hx hb hr (fun t ht hW => ⟨⟨_, (), rfl, rfl, by rw [ht]; exact hP, hD⟩, hS.F ht⟩) hS.2.2 dX6_pads_37
    · have hres := ite_t hres h4
      refine lv_iconst (v := (-1)) hx hb dX6_pads_19 (by decide) ?_
      obtain rfl := Option.some.inj hres
      exact W.iret hx hb hr (fun t ht hW => ⟨⟨_, (), rfl, rfl, by rw [ht]; exact hP, hD⟩, hS.F ht⟩) hS.2.2 dX6_pads_20
theorem hsX6_pads : yX6_pads.cls = RX6 ∧ yX6_pads.cls ≠ "java/lang/invoke/MethodHandle" ∧ yX6_pads.cls ≠ "java/lang/invoke/VarHandle" ∧ (parseMethodDescriptor yX6_pads.desc).map (fun d => d.parameters.length) = some 2 := by decide +kernel
