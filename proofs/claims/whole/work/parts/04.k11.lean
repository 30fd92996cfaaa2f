set_option maxHeartbeats 4000000 in
set_option maxRecDepth 100000 in
theorem kX6_strengthOf (l : Launch) (G : va_G) (cI cZ : ClassId) (tl : List (ClassId × FieldType)) (A0 A0_s A0_draft A0_kept A0_isKept A0_undone A0_seenI A0_seenJ A0_seenTime A0_text A0_kind A0_place A0_value A0_swallows A0_time A0_strength A0_which A0_told : Nat) (c0 c0_swallows : Nat → Int32) (x1 x2 x3 : Int32) (res : Int32) (hres : fX6_strengthOf c0 c0_swallows x1 x2 x3 = some res) : Met l yX6_strengthOf wsX6_strengthOf rX6_strengthOf (va_Pc [.ref A0, .int x1, .int x2, .int x3] (PRO G cI cZ tl [o6 A0 c0 A0_s A0_draft A0_kept A0_isKept A0_undone A0_seenI A0_seenJ A0_seenTime A0_text A0_kind A0_place A0_value A0_swallows A0_time A0_strength A0_which A0_told, (A0_swallows, .inl (cI, 4, .inl c0_swallows))])) (Sp res) 0 0 (fun _ => False) := by
  refine Met.ofW (cc := cX6_strengthOf) (maxL := 7) (ret := (some .int)) (by decide) rfl ?_
  intro p e s m args below meth c s₁ B hml hv
  obtain ⟨rfl, hP, hK⟩ := hv
  have hx := B.exec
  have hb := B.bytes
  have hr := B.returns
  have hts := atoms_spec (ws := wsX6_strengthOf) B.pre
  have hown : s.vm.findClass RX6 = some m.cls := findClass_of_methodNamed B.named
  have hlocks := B.notSynchronized
  have hl := lv_entry ([.ref A0, .int x1, .int x2, .int x3] : List Value) (n := 7) (Nat.le_of_ble_eq_true rfl)
  rw [lg_entry_eq]
  generalize (lg_sl ([.ref A0, .int x1, .int x2, .int x3] : List Value) ++ List.replicate (7 - (lg_sl ([.ref A0, .int x1, .int x2, .int x3] : List Value)).length) Slot.unset).toArray = ls at hl ⊢
  have hl : lv_has ls 7 [(0, .ref A0), (1, .int x1), (2, .int x2), (3, .int x3)] := hl
  refine lv_ldc (v := 1000000) hx hb hown (hts (.constant RX6 153 1000000) (List.mem_of_getElem? (i := 1) rfl)) dX6_strengthOf_0 ?_
  refine lv_istore (lv' := [(4, .int 1000000), (0, .ref A0), (1, .int x1), (2, .int x2), (3, .int x3)]) hx hb dX6_strengthOf_2 hl (by decide) rfl (fun ls hl => ?_)
  refine lv_iconst (v := 0) hx hb dX6_strengthOf_4 (by decide) ?_
  refine lv_istore (lv' := [(5, .int 0), (4, .int 1000000), (0, .ref A0), (1, .int x1), (2, .int x2), (3, .int x3)]) hx hb dX6_strengthOf_5 hl (by decide) rfl (fun ls hl => ?_)
  have Q7 : ∀ (v1_L7 : Int32) (v2_L7 : Int32) (v3_L7 : Int32) (n7 : Nat) (v4_L7 : Int32) (v5_L7 : Int32) (ls : Array Slot), LPX (fX6_strengthOf_L7 c0 c0_swallows v1_L7 v2_L7 v3_L7) n7 (v4_L7, v5_L7) = some res → lv_has ls 7 [(0, .ref A0), (1, .int v1_L7), (2, .int v2_L7), (3, .int v3_L7), (4, .int v4_L7), (5, .int v5_L7)] → WRO p l e wsX6_strengthOf rX6_strengthOf s m ([.ref A0, .int x1, .int x2, .int x3] : List Value).toArray below meth c res (F0 m 7 ls []) := by
    intro v1_L7 v2_L7 v3_L7 n7
    induction n7 with
    | zero =>
      intro v4_L7 v5_L7 ls hres
      exact absurd (LPX_0.symm.trans hres) (fun h => by cases h)
    | succ n7 ih7 =>
      intro v4_L7 v5_L7 ls hres hl
      have hres := LPX_s.symm.trans hres
      refine lv_iload hx hb dX6_strengthOf_7 (lv_at hl 5 rfl) ?_
      refine lv_iconst (v := 4) hx hb dX6_strengthOf_9 (by decide) ?_
      refine lv_icmp_ge (tgt := 57) hx hb dX6_strengthOf_10 (by decide) (fun h1 => ?_) (fun h1 => ?_)
      · have hres := ite_t hres h1
        refine lv_iload hx hb dX6_strengthOf_57 (lv_at hl 4 rfl) ?_
        refine lv_iload_n hx hb dX6_strengthOf_59 rfl (lv_at hl 3 rfl) ?_
        refine lv_iconst (v := 1) hx hb dX6_strengthOf_60 (by decide) ?_
        refine lv_iadd hx hb dX6_strengthOf_61 ?_
        have g2 := gd_1 hres
        have hres := gd_2 hres
        refine lv_idiv hx hb dX6_strengthOf_62 g2 ?_
        obtain rfl := Option.some.inj hres
        exact W.iret hx hb hr (fun t ht hW => ⟨rfl, ht⟩) (fun q h => absurd h List.not_mem_nil) dX6_strengthOf_63
      · have hres := ite_f hres h1
        refine lv_iload hx hb dX6_strengthOf_13 (lv_at hl 5 rfl) ?_
        refine lv_iload_n hx hb dX6_strengthOf_15 rfl (lv_at hl 1 rfl) ?_
        refine lv_iload_n hx hb dX6_strengthOf_16 rfl (lv_at hl 2 rfl) ?_
        obtain ⟨r3, hr3, hres⟩ := bi_1 hres
        refine x_cp (va_runS (As := [.int v5_L7, .int v1_L7, .int v2_L7]) (rest := []) ⟨hx, hb, hml, hown, hts⟩ (kX6_times l G cI cZ tl v5_L7 v1_L7 v2_L7 r3 hr3) (va_cwS 3 hts gX6_strengthOf_X6_times rfl rfl rfl hsX6_times ⟨Nat.le_of_ble_eq_true rfl, Nat.le_of_ble_eq_true rfl⟩) ⟨PRO_blind, PRO_at va_P0 hK⟩ rfl rfl hl.1 rfl (lv_room (Nat.le_of_ble_eq_true rfl)) dX6_strengthOf_17 ⟨Nat.zero_le _, Nat.zero_le _⟩) ?_
        refine lv_istore (lv' := [(6, .int r3), (0, .ref A0), (1, .int v1_L7), (2, .int v2_L7), (3, .int v3_L7), (4, .int v4_L7), (5, .int v5_L7)]) hx hb dX6_strengthOf_20 hl (by decide) rfl (fun ls hl => ?_)
        have Q22 : ∀ (v5_L22 : Int32) (n22 : Nat) (v4_L22 : Int32) (v6_L22 : Int32) (ls : Array Slot), LPX (fX6_strengthOf_L22 c0 c0_swallows v1_L7 v2_L7 v3_L7 v5_L22 (LPX (fX6_strengthOf_L7 c0 c0_swallows v1_L7 v2_L7 v3_L7) n7)) n22 (v4_L22, v6_L22) = some res → lv_has ls 7 [(0, .ref A0), (1, .int v1_L7), (2, .int v2_L7), (3, .int v3_L7), (4, .int v4_L22), (5, .int v5_L22), (6, .int v6_L22)] → WRO p l e wsX6_strengthOf rX6_strengthOf s m ([.ref A0, .int x1, .int x2, .int x3] : List Value).toArray below meth c res (F0 m 22 ls []) := by
          intro v5_L22 n22
          induction n22 with
          | zero =>
            intro v4_L22 v6_L22 ls hres
            exact absurd (LPX_0.symm.trans hres) (fun h => by cases h)
          | succ n22 ih22 =>
            intro v4_L22 v6_L22 ls hres hl
            have hres := LPX_s.symm.trans hres
            refine lv_iload hx hb dX6_strengthOf_22 (lv_at hl 6 rfl) ?_
            refine lv_if_le (tgt := 51) hx hb dX6_strengthOf_24 (by decide) (fun h4 => ?_) (fun h4 => ?_)
            · have hres := ite_t hres h4
              refine lv_iinc (v := (v5_L22 + 1)) (lv' := [(5, .int (v5_L22 + 1)), (0, .ref A0), (1, .int v1_L7), (2, .int v2_L7), (3, .int v3_L7), (4, .int v4_L22), (6, .int v6_L22)]) hx hb dX6_strengthOf_51 hl (k := 5) rfl rfl (by decide) rfl (fun ls hl => ?_)
              refine lv_goto (tgt := 7) hx hb dX6_strengthOf_54 (by decide) ?_
              exact ih7 v4_L22 (v5_L22 + 1) _ hres (lv_sub hl [1, 2, 3, 4, 5, 0] rfl)
            · have hres := ite_f hres h4
              refine lv_iload hx hb dX6_strengthOf_27 (lv_at hl 4 rfl) ?_
              refine lv_bipush (v := 10) hx hb dX6_strengthOf_29 (by decide) ?_
              refine lv_aload_n hx hb dX6_strengthOf_31 rfl (lv_at hl 0 rfl) ?_
              refine va_get (D := G) (ci := 6) (v := .ref A0_swallows) (C := RX6) (T := TX6) (N := 22) hx hb hts (fun w h => (List.mem_cons_of_mem _ (List.mem_append_right _ h))) hown hK.1 hP 0 rfl rfl 16 (by decide) (hts (.fieldLink RX6 47 "EchoSeatsModel" "swallows" "[I") (List.mem_of_getElem? (i := 2) rfl)) (fun _ h9 => h9) rfl dX6_strengthOf_32 ?_
              refine lv_iload hx hb dX6_strengthOf_35 (lv_at hl 5 rfl) ?_
              have g5 := gd_1 hres
              have hres := gd_2 hres
              refine x_iald hx hb hK hP 1 rfl (j := (Int32.toNatClampNeg v5_L22)) rfl g5 dX6_strengthOf_37 ?_
              refine lv_isub hx hb dX6_strengthOf_38 ?_
              refine lv_imul hx hb dX6_strengthOf_39 ?_
              refine lv_bipush (v := 10) hx hb dX6_strengthOf_40 (by decide) ?_
              refine lv_idiv hx hb dX6_strengthOf_42 (by decide) ?_
              refine lv_topi (fun y6 ey6 => ?_)
              have hres := bnd_z ey6 hres
              refine lv_istore (lv' := [(4, .int y6), (0, .ref A0), (1, .int v1_L7), (2, .int v2_L7), (3, .int v3_L7), (5, .int v5_L22), (6, .int v6_L22)]) hx hb dX6_strengthOf_43 hl (by decide) rfl (fun ls hl => ?_)
              refine lv_iinc (v := (v6_L22 + (-1))) (lv' := [(6, .int (v6_L22 + (-1))), (4, .int y6), (0, .ref A0), (1, .int v1_L7), (2, .int v2_L7), (3, .int v3_L7), (5, .int v5_L22)]) hx hb dX6_strengthOf_45 hl (k := 6) rfl rfl (by decide) rfl (fun ls hl => ?_)
              refine lv_goto (tgt := 22) hx hb dX6_strengthOf_48 (by decide) ?_
              exact ih22 y6 (v6_L22 + (-1)) _ hres (lv_sub hl [2, 3, 4, 5, 1, 6, 0] rfl)
        exact Q22 v5_L7 FU v4_L7 r3 _ hres (lv_sub hl [1, 2, 3, 4, 5, 6, 0] rfl)
  exact Q7 x1 x2 x3 FU 1000000 0 _ hres (lv_sub hl [2, 3, 4, 5, 1, 0] rfl)
theorem hsX6_strengthOf : yX6_strengthOf.cls = RX6 ∧ yX6_strengthOf.cls ≠ "java/lang/invoke/MethodHandle" ∧ yX6_strengthOf.cls ≠ "java/lang/invoke/VarHandle" ∧ (parseMethodDescriptor yX6_strengthOf.desc).map (fun d => d.parameters.length) = some 3 := by decide +kernel
set_option maxHeartbeats 4000000 in
set_option maxRecDepth 100000 in
theorem kX6_hears (l : Launch) (G : va_G) (cI cZ : ClassId) (tl : List (ClassId × FieldType)) (sz : Nat) (A : Nat → Prop) (A0 A0_s A0_draft A0_kept A0_isKept A0_undone A0_seenI A0_seenJ A0_seenTime A0_text A0_kind A0_place A0_value A0_swallows A0_time A0_strength A0_which A0_told : Nat) (c0 c0_s c0_time c0_swallows c0_strength c0_which : Nat → Int32) (x1 : Int32) (res : (Nat → Int32) × (Nat → Int32) × (Nat → Int32) × (Nat → Int32)) (hAe : A = va_A [o6 A0 c0 A0_s A0_draft A0_kept A0_isKept A0_undone A0_seenI A0_seenJ A0_seenTime A0_text A0_kind A0_place A0_value A0_swallows A0_time A0_strength A0_which A0_told, (A0_s, .inl (cI, 27, .inl c0_s)), (A0_time, .inl (cI, 25, .inl c0_time)), (A0_swallows, .inl (cI, 4, .inl c0_swallows)), (A0_strength, .inl (cI, 25, .inl c0_strength)), (A0_which, .inl (cI, 25, .inl c0_which))] sz) (hres : fX6_hears c0 c0_s c0_time c0_swallows c0_strength c0_which x1 = some res) : Met l yX6_hears wsX6_hears rX6_hears (va_Pc [.ref A0, .int x1] (PRW G cI cZ tl [o6 A0 c0 A0_s A0_draft A0_kept A0_isKept A0_undone A0_seenI A0_seenJ A0_seenTime A0_text A0_kind A0_place A0_value A0_swallows A0_time A0_strength A0_which A0_told, (A0_s, .inl (cI, 27, .inl c0_s)), (A0_time, .inl (cI, 25, .inl c0_time)), (A0_swallows, .inl (cI, 4, .inl c0_swallows)), (A0_strength, .inl (cI, 25, .inl c0_strength)), (A0_which, .inl (cI, 25, .inl c0_which))] sz)) (Qvw G A [o6 A0 res.1 A0_s A0_draft A0_kept A0_isKept A0_undone A0_seenI A0_seenJ A0_seenTime A0_text A0_kind A0_place A0_value A0_swallows A0_time A0_strength A0_which A0_told, (A0_s, .inl (cI, 27, .inl c0_s)), (A0_time, .inl (cI, 25, .inl res.2.1)), (A0_swallows, .inl (cI, 4, .inl c0_swallows)), (A0_strength, .inl (cI, 25, .inl res.2.2.1)), (A0_which, .inl (cI, 25, .inl res.2.2.2))]) 0 0 A := by
  refine Met.ofW (cc := cX6_hears) (maxL := 7) (ret := none) (by decide) rfl ?_
  intro p e s m args below meth c s₁ B hml hv
  obtain ⟨rfl, hsz, hP, hK, hD0⟩ := hv
  have hx := B.exec
  have hb := B.bytes
  have hr := B.returns
  have hts := atoms_spec (ws := wsX6_hears) B.pre
  have hown : s.vm.findClass RX6 = some m.cls := findClass_of_methodNamed B.named
  have hlocks := B.notSynchronized
  subst hsz
  have hD : va_D A [o6 A0 c0 A0_s A0_draft A0_kept A0_isKept A0_undone A0_seenI A0_seenJ A0_seenTime A0_text A0_kind A0_place A0_value A0_swallows A0_time A0_strength A0_which A0_told, (A0_s, .inl (cI, 27, .inl c0_s)), (A0_time, .inl (cI, 25, .inl c0_time)), (A0_swallows, .inl (cI, 4, .inl c0_swallows)), (A0_strength, .inl (cI, 25, .inl c0_strength)), (A0_which, .inl (cI, 25, .inl c0_which))] := by rw [hAe]; exact hD0.self
  have hA : ∀ q : Nat, s.heap.size ≤ q → A q := fun q h => by rw [hAe]; exact Or.inr h
  clear hAe hD0
  have hS : va_S A s.heap s.heap [] := va_S.rf
  have hl := lv_entry ([.ref A0, .int x1] : List Value) (n := 7) (Nat.le_of_ble_eq_true rfl)
  rw [lg_entry_eq]
  generalize (lg_sl ([.ref A0, .int x1] : List Value) ++ List.replicate (7 - (lg_sl ([.ref A0, .int x1] : List Value)).length) Slot.unset).toArray = ls at hl ⊢
  have hl : lv_has ls 7 [(0, .ref A0), (1, .int x1)] := hl
  refine lv_aload_n hx hb dX6_hears_0 rfl (lv_at hl 0 rfl) ?_
  refine va_get (D := G) (ci := 6) (v := .ref A0_s) (C := RX6) (T := TX6) (N := 22) hx hb hts (fun w h => (List.mem_cons_of_mem _ (List.mem_append_right _ h))) hown hK.1 hP 0 rfl rfl 0 (by decide) (hts (.fieldLink RX6 7 "EchoSeatsModel" "s" "[I") (List.mem_of_getElem? (i := 1) rfl)) (fun _ h9 => h9) rfl dX6_hears_1 ?_
  refine lv_bipush (v := 9) hx hb dX6_hears_4 (by decide) ?_
  refine lv_iload_n hx hb dX6_hears_6 rfl (lv_at hl 1 rfl) ?_
  refine lv_iadd hx hb dX6_hears_7 ?_
  have g1 := gd_1 hres
  have hres := gd_2 hres
  refine x_iald hx hb hK hP 1 rfl (j := (Int32.toNatClampNeg (9 + x1))) rfl g1 dX6_hears_8 ?_
  refine lv_topi (fun y2 ey2 => ?_)
  have hres := bnd_z ey2 hres
  refine lv_istore_n (lv' := [(2, .int y2), (0, .ref A0), (1, .int x1)]) hx hb dX6_hears_9 rfl hl (by decide) rfl (fun ls hl => ?_)
  refine lv_aload_n hx hb dX6_hears_10 rfl (lv_at hl 1 rfl) ?_
  refine va_get (D := G) (ci := 6) (v := .ref A0_s) (C := RX6) (T := TX6) (N := 22) hx hb hts (fun w h => (List.mem_cons_of_mem _ (List.mem_append_right _ h))) hown hK.1 hP 0 rfl rfl 0 (by decide) (hts (.fieldLink RX6 7 "EchoSeatsModel" "s" "[I") (List.mem_of_getElem? (i := 1) rfl)) (fun _ h9 => h9) rfl dX6_hears_11 ?_
  refine lv_bipush (v := 13) hx hb dX6_hears_14 (by decide) ?_
  refine lv_iload_n hx hb dX6_hears_16 rfl (lv_at hl 2 rfl) ?_
  refine lv_iadd hx hb dX6_hears_17 ?_
  have g3 := gd_1 hres
  have hres := gd_2 hres
  refine x_iald hx hb hK hP 1 rfl (j := (Int32.toNatClampNeg (13 + x1))) rfl g3 dX6_hears_18 ?_
  refine lv_topi (fun y4 ey4 => ?_)
  have hres := bnd_z ey4 hres
  refine lv_istore_n (lv' := [(3, .int y4), (2, .int y2), (0, .ref A0), (1, .int x1)]) hx hb dX6_hears_19 rfl hl (by decide) rfl (fun ls hl => ?_)
  refine lv_aload_n hx hb dX6_hears_20 rfl (lv_at hl 2 rfl) ?_
  refine lv_iconst (v := 0) hx hb dX6_hears_21 (by decide) ?_
  refine va_put (D := G) (ci := 6) (v := .int 0) (ty := .int) (C := RX6) (T := TX6) (N := 22) hx hb hts (fun w h => (List.mem_cons_of_mem _ (List.mem_append_right _ h))) tyX6 tyX6_ok nmX6 hown hK.1 hP hD hS 0 rfl rfl 20 (by decide) (hts (.fieldLink RX6 175 "EchoSeatsModel" "heard" "I") (List.mem_of_getElem? (i := 2) rfl)) (fun _ h9 => h9) rfl (tyX6_ok 20 (by decide)) rfl rfl (Nat.le_of_ble_eq_true rfl) dX6_hears_22 (fun H locs hP hD hS => ?_)
  have hP : va_P G vwCl [o6 A0 (upd c0 20 0) A0_s A0_draft A0_kept A0_isKept A0_undone A0_seenI A0_seenJ A0_seenTime A0_text A0_kind A0_place A0_value A0_swallows A0_time A0_strength A0_which A0_told, (A0_s, .inl (cI, 27, .inl c0_s)), (A0_time, .inl (cI, 25, .inl c0_time)), (A0_swallows, .inl (cI, 4, .inl c0_swallows)), (A0_strength, .inl (cI, 25, .inl c0_strength)), (A0_which, .inl (cI, 25, .inl c0_which))] H := hP
  have hD : va_D A [o6 A0 (upd c0 20 0) A0_s A0_draft A0_kept A0_isKept A0_undone A0_seenI A0_seenJ A0_seenTime A0_text A0_kind A0_place A0_value A0_swallows A0_time A0_strength A0_which A0_told, (A0_s, .inl (cI, 27, .inl c0_s)), (A0_time, .inl (cI, 25, .inl c0_time)), (A0_swallows, .inl (cI, 4, .inl c0_swallows)), (A0_strength, .inl (cI, 25, .inl c0_strength)), (A0_which, .inl (cI, 25, .inl c0_which))] := hD
  refine lv_bipush (v := (-3)) hx hb dX6_hears_25 (by decide) ?_
  refine lv_istore (lv' := [(4, .int (-3)), (3, .int y4), (2, .int y2), (0, .ref A0), (1, .int x1)]) hx hb dX6_hears_27 hl (by decide) rfl (fun ls hl => ?_)
  have Q29 : ∀ (v2_L29 : Int32) (v3_L29 : Int32) (n29 : Nat) (v4_L29 : Int32) (e0_L29 : (Nat → Int32)) (e0_time_L29 : (Nat → Int32)) (e0_strength_L29 : (Nat → Int32)) (e0_which_L29 : (Nat → Int32)) (H : Heap) (locs : List Loc) (ls : Array Slot), LPX (fX6_hears_L29 c0_s c0_swallows v2_L29 v3_L29) n29 (v4_L29, e0_L29, e0_time_L29, e0_strength_L29, e0_which_L29) = some res → va_P G vwCl [o6 A0 e0_L29 A0_s A0_draft A0_kept A0_isKept A0_undone A0_seenI A0_seenJ A0_seenTime A0_text A0_kind A0_place A0_value A0_swallows A0_time A0_strength A0_which A0_told, (A0_s, .inl (cI, 27, .inl c0_s)), (A0_time, .inl (cI, 25, .inl e0_time_L29)), (A0_swallows, .inl (cI, 4, .inl c0_swallows)), (A0_strength, .inl (cI, 25, .inl e0_strength_L29)), (A0_which, .inl (cI, 25, .inl e0_which_L29))] H → va_D A [o6 A0 e0_L29 A0_s A0_draft A0_kept A0_isKept A0_undone A0_seenI A0_seenJ A0_seenTime A0_text A0_kind A0_place A0_value A0_swallows A0_time A0_strength A0_which A0_told, (A0_s, .inl (cI, 27, .inl c0_s)), (A0_time, .inl (cI, 25, .inl e0_time_L29)), (A0_swallows, .inl (cI, 4, .inl c0_swallows)), (A0_strength, .inl (cI, 25, .inl e0_strength_L29)), (A0_which, .inl (cI, 25, .inl e0_which_L29))] → va_S A s.heap H locs → lv_has ls 7 [(0, .ref A0), (2, .int v2_L29), (3, .int v3_L29), (4, .int v4_L29)] → WRW p l e wsX6_hears rX6_hears s m ([.ref A0, .int x1] : List Value).toArray below meth c H locs (Qvw G A [o6 A0 res.1 A0_s A0_draft A0_kept A0_isKept A0_undone A0_seenI A0_seenJ A0_seenTime A0_text A0_kind A0_place A0_value A0_swallows A0_time A0_strength A0_which A0_told, (A0_s, .inl (cI, 27, .inl c0_s)), (A0_time, .inl (cI, 25, .inl res.2.1)), (A0_swallows, .inl (cI, 4, .inl c0_swallows)), (A0_strength, .inl (cI, 25, .inl res.2.2.1)), (A0_which, .inl (cI, 25, .inl res.2.2.2))]) A (F0 m 29 ls []) := by
    intro v2_L29 v3_L29 n29
    induction n29 with
    | zero =>
      intro v4_L29 e0_L29 e0_time_L29 e0_strength_L29 e0_which_L29 H locs ls hres
      exact absurd (LPX_0.symm.trans hres) (fun h => by cases h)
    | succ n29 ih29 =>
      intro v4_L29 e0_L29 e0_time_L29 e0_strength_L29 e0_which_L29 H locs ls hres hP hD hS hl
      have hres := LPX_s.symm.trans hres
      refine lv_iload hx hb dX6_hears_29 (lv_at hl 3 rfl) ?_
      refine lv_iconst (v := 3) hx hb dX6_hears_31 (by decide) ?_
      refine lv_icmp_gt (tgt := 156) hx hb dX6_hears_32 (by decide) (fun h5 => ?_) (fun h5 => ?_)
      · have hres := ite_t hres h5
        obtain rfl := Option.some.inj hres
        exact W.vret hx hb hr (fun t ht hW => ⟨⟨(), rfl, trivial, by rw [ht]; exact hP, hD⟩, hS.F ht⟩) hS.2.2 dX6_hears_156
      · have hres := ite_f hres h5
        refine lv_bipush (v := (-3)) hx hb dX6_hears_35 (by decide) ?_
        refine lv_istore (lv' := [(5, .int (-3)), (0, .ref A0), (2, .int v2_L29), (3, .int v3_L29), (4, .int v4_L29)]) hx hb dX6_hears_37 hl (by decide) rfl (fun ls hl => ?_)
        have Q39 : ∀ (v4_L39 : Int32) (n39 : Nat) (v5_L39 : Int32) (e0_L39 : (Nat → Int32)) (e0_time_L39 : (Nat → Int32)) (e0_strength_L39 : (Nat → Int32)) (e0_which_L39 : (Nat → Int32)) (H : Heap) (locs : List Loc) (ls : Array Slot), LPX (fX6_hears_L39 c0_s c0_swallows v2_L29 v3_L29 v4_L39 (LPX (fX6_hears_L29 c0_s c0_swallows v2_L29 v3_L29) n29)) n39 (v5_L39, e0_L39, e0_time_L39, e0_strength_L39, e0_which_L39) = some res → va_P G vwCl [o6 A0 e0_L39 A0_s A0_draft A0_kept A0_isKept A0_undone A0_seenI A0_seenJ A0_seenTime A0_text A0_kind A0_place A0_value A0_swallows A0_time A0_strength A0_which A0_told, (A0_s, .inl (cI, 27, .inl c0_s)), (A0_time, .inl (cI, 25, .inl e0_time_L39)), (A0_swallows, .inl (cI, 4, .inl c0_swallows)), (A0_strength, .inl (cI, 25, .inl e0_strength_L39)), (A0_which, .inl (cI, 25, .inl e0_which_L39))] H → va_D A [o6 A0 e0_L39 A0_s A0_draft A0_kept A0_isKept A0_undone A0_seenI A0_seenJ A0_seenTime A0_text A0_kind A0_place A0_value A0_swallows A0_time A0_strength A0_which A0_told, (A0_s, .inl (cI, 27, .inl c0_s)), (A0_time, .inl (cI, 25, .inl e0_time_L39)), (A0_swallows, .inl (cI, 4, .inl c0_swallows)), (A0_strength, .inl (cI, 25, .inl e0_strength_L39)), (A0_which, .inl (cI, 25, .inl e0_which_L39))] → va_S A s.heap H locs → lv_has ls 7 [(0, .ref A0), (2, .int v2_L29), (3, .int v3_L29), (4, .int v4_L39), (5, .int v5_L39)] → WRW p l e wsX6_hears rX6_hears s m ([.ref A0, .int x1] : List Value).toArray below meth c H locs (Qvw G A [o6 A0 res.1 A0_s A0_draft A0_kept A0_isKept A0_undone A0_seenI A0_seenJ A0_seenTime A0_text A0_kind A0_place A0_value A0_swallows A0_time A0_strength A0_which A0_told, (A0_s, .inl (cI, 27, .inl c0_s)), (A0_time, .inl (cI, 25, .inl res.2.1)), (A0_swallows, .inl (cI, 4, .inl c0_swallows)), (A0_strength, .inl (cI, 25, .inl res.2.2.1)), (A0_which, .inl (cI, 25, .inl res.2.2.2))]) A (F0 m 39 ls []) := by
          intro v4_L39 n39
          induction n39 with
          | zero =>
            intro v5_L39 e0_L39 e0_time_L39 e0_strength_L39 e0_which_L39 H locs ls hres
            exact absurd (LPX_0.symm.trans hres) (fun h => by cases h)
          | succ n39 ih39 =>
            intro v5_L39 e0_L39 e0_time_L39 e0_strength_L39 e0_which_L39 H locs ls hres hP hD hS hl
            have hres := LPX_s.symm.trans hres
            refine lv_iload hx hb dX6_hears_39 (lv_at hl 4 rfl) ?_
            refine lv_iconst (v := 3) hx hb dX6_hears_41 (by decide) ?_
            refine lv_icmp_gt (tgt := 150) hx hb dX6_hears_42 (by decide) (fun h6 => ?_) (fun h6 => ?_)
            · have hres := ite_t hres h6
              refine lv_iinc (v := (v4_L39 + 1)) (lv' := [(4, .int (v4_L39 + 1)), (0, .ref A0), (2, .int v2_L29), (3, .int v3_L29), (5, .int v5_L39)]) hx hb dX6_hears_150 hl (k := 3) rfl rfl (by decide) rfl (fun ls hl => ?_)
              refine lv_goto (tgt := 29) hx hb dX6_hears_153 (by decide) ?_
              exact ih29 (v4_L39 + 1) e0_L39 e0_time_L39 e0_strength_L39 e0_which_L39 _ _ _ hres hP hD hS (lv_sub hl [1, 2, 3, 0] rfl)
            · have hres := ite_f hres h6
              refine lv_iload hx hb dX6_hears_45 (lv_at hl 3 rfl) ?_
              refine lv_iload hx hb dX6_hears_47 (lv_at hl 4 rfl) ?_
              obtain ⟨r7, hr7, hres⟩ := bi_1 hres
              refine x_cp (va_runS (As := [.int v4_L39, .int v5_L39]) (rest := []) ⟨hx, hb, hml, hown, hts⟩ (kX6_isImage l G cI cZ tl v4_L39 v5_L39 r7 hr7) (va_cwS 2 hts gX6_hears_X6_isImage rfl rfl rfl hsX6_isImage ⟨Nat.le_of_ble_eq_true rfl, Nat.le_of_ble_eq_true rfl⟩) ⟨PRO_blind, PRO_at va_P0 hK⟩ rfl rfl hl.1 rfl (lv_room (Nat.le_of_ble_eq_true rfl)) dX6_hears_49 ⟨Nat.zero_le _, Nat.zero_le _⟩) ?_
              refine lv_if_eq (tgt := 144) hx hb dX6_hears_52 (by decide) (fun h8 => ?_) (fun h8 => ?_)
              · have hres := ite_t hres h8
                refine lv_iinc (v := (v5_L39 + 1)) (lv' := [(5, .int (v5_L39 + 1)), (0, .ref A0), (2, .int v2_L29), (3, .int v3_L29), (4, .int v4_L39)]) hx hb dX6_hears_144 hl (k := 4) rfl rfl (by decide) rfl (fun ls hl => ?_)
                refine lv_goto (tgt := 39) hx hb dX6_hears_147 (by decide) ?_
                exact ih39 (v5_L39 + 1) e0_L39 e0_time_L39 e0_strength_L39 e0_which_L39 _ _ _ hres hP hD hS (lv_sub hl [1, 2, 3, 4, 0] rfl)
              · have hres := ite_f hres h8
                refine lv_aload_n hx hb dX6_hears_55 rfl (lv_at hl 0 rfl) ?_
                refine lv_iload hx hb dX6_hears_56 (lv_at hl 3 rfl) ?_
                refine lv_iload hx hb dX6_hears_58 (lv_at hl 4 rfl) ?_
                refine lv_iload_n hx hb dX6_hears_60 rfl (lv_at hl 1 rfl) ?_
                refine lv_iload_n hx hb dX6_hears_61 rfl (lv_at hl 2 rfl) ?_
                obtain ⟨r9, hr9, hres⟩ := bi_1 hres
                refine x_cp (va_runV (As := [.int v4_L39, .int v5_L39, .int v2_L29, .int v3_L29]) (rest := []) ⟨hx, hb, hml, hown, hts⟩ (kX6_isHidden l G cI cZ tl A0 A0_s A0_draft A0_kept A0_isKept A0_undone A0_seenI A0_seenJ A0_seenTime A0_text A0_kind A0_place A0_value A0_swallows A0_time A0_strength A0_which A0_told e0_L39 c0_s v4_L39 v5_L39 v2_L29 v3_L29 r9 hr9) (cwV 4 hts gX6_hears_X6_isHidden rfl rfl rfl hsX6_isHidden ⟨Nat.le_of_ble_eq_true rfl, Nat.le_of_ble_eq_true rfl⟩) ⟨PRO_blind, va_recv hK.1 hP (ci := 6) (q0 := 0) rfl rfl, PRO_at (hP.sub (ws' := [o6 A0 e0_L39 A0_s A0_draft A0_kept A0_isKept A0_undone A0_seenI A0_seenJ A0_seenTime A0_text A0_kind A0_place A0_value A0_swallows A0_time A0_strength A0_which A0_told, (A0_s, .inl (cI, 27, .inl c0_s))]) [0, 1] rfl) hK⟩ rfl rfl hl.1 rfl (lv_room (Nat.le_of_ble_eq_true rfl)) dX6_hears_62 ⟨Nat.zero_le _, Nat.zero_le _⟩) ?_
                refine lv_if_ne (tgt := 144) hx hb dX6_hears_65 (by decide) (fun h10 => ?_) (fun h10 => ?_)
                · have hres := ite_f hres h10
                  refine lv_iinc (v := (v5_L39 + 1)) (lv' := [(5, .int (v5_L39 + 1)), (0, .ref A0), (2, .int v2_L29), (3, .int v3_L29), (4, .int v4_L39)]) hx hb dX6_hears_144 hl (k := 4) rfl rfl (by decide) rfl (fun ls hl => ?_)
                  refine lv_goto (tgt := 39) hx hb dX6_hears_147 (by decide) ?_
                  exact ih39 (v5_L39 + 1) e0_L39 e0_time_L39 e0_strength_L39 e0_which_L39 _ _ _ hres hP hD hS (lv_sub hl [1, 2, 3, 4, 0] rfl)
                · have hres := ite_t hres h10
                  refine lv_aload_n hx hb dX6_hears_68 rfl (lv_at hl 0 rfl) ?_
                  refine lv_iload hx hb dX6_hears_69 (lv_at hl 3 rfl) ?_
                  refine lv_iload hx hb dX6_hears_71 (lv_at hl 4 rfl) ?_
                  refine lv_iload_n hx hb dX6_hears_73 rfl (lv_at hl 1 rfl) ?_
                  refine lv_iload_n hx hb dX6_hears_74 rfl (lv_at hl 2 rfl) ?_
                  obtain ⟨r11, hr11, hres⟩ := bi_1 hres
                  refine x_cp (va_runV (As := [.int v4_L39, .int v5_L39, .int v2_L29, .int v3_L29]) (rest := []) ⟨hx, hb, hml, hown, hts⟩ (kX6_wayOf l G cI cZ tl A0 A0_s A0_draft A0_kept A0_isKept A0_undone A0_seenI A0_seenJ A0_seenTime A0_text A0_kind A0_place A0_value A0_swallows A0_time A0_strength A0_which A0_told e0_L39 c0_s v4_L39 v5_L39 v2_L29 v3_L29 r11 hr11) (cwV 4 hts gX6_hears_X6_wayOf rfl rfl rfl hsX6_wayOf ⟨Nat.le_of_ble_eq_true rfl, Nat.le_of_ble_eq_true rfl⟩) ⟨PRO_blind, va_recv hK.1 hP (ci := 6) (q0 := 0) rfl rfl, PRO_at (hP.sub (ws' := [o6 A0 e0_L39 A0_s A0_draft A0_kept A0_isKept A0_undone A0_seenI A0_seenJ A0_seenTime A0_text A0_kind A0_place A0_value A0_swallows A0_time A0_strength A0_which A0_told, (A0_s, .inl (cI, 27, .inl c0_s))]) [0, 1] rfl) hK⟩ rfl rfl hl.1 rfl (lv_room (Nat.le_of_ble_eq_true rfl)) dX6_hears_75 ⟨Nat.zero_le _, Nat.zero_le _⟩) ?_
                  refine lv_istore (lv' := [(6, .int r11), (0, .ref A0), (2, .int v2_L29), (3, .int v3_L29), (4, .int v4_L39), (5, .int v5_L39)]) hx hb dX6_hears_78 hl (by decide) rfl (fun ls hl => ?_)
                  refine lv_aload_n hx hb dX6_hears_80 rfl (lv_at hl 1 rfl) ?_
                  refine va_get (D := G) (ci := 6) (v := .ref A0_time) (C := RX6) (T := TX6) (N := 22) hx hb hts (fun w h => (List.mem_cons_of_mem _ (List.mem_append_right _ h))) hown hK.1 hP 0 rfl rfl 17 (by decide) (hts (.fieldLink RX6 50 "EchoSeatsModel" "time" "[I") (List.mem_of_getElem? (i := 3) rfl)) (fun _ h9 => h9) rfl dX6_hears_81 ?_
                  refine lv_aload_n hx hb dX6_hears_84 rfl (lv_at hl 1 rfl) ?_
                  refine va_get (D := G) (ci := 6) (v := .int (e0_L39 20)) (C := RX6) (T := TX6) (N := 22) hx hb hts (fun w h => (List.mem_cons_of_mem _ (List.mem_append_right _ h))) hown hK.1 hP 0 rfl rfl 20 (by decide) (hts (.fieldLink RX6 175 "EchoSeatsModel" "heard" "I") (List.mem_of_getElem? (i := 2) rfl)) (fun _ h9 => h9) rfl dX6_hears_85 ?_
                  refine lv_iload hx hb dX6_hears_88 (lv_at hl 0 rfl) ?_
                  obtain ⟨r12, hr12, hres⟩ := bi_1 hres
                  refine x_cp (va_runS (As := [.int r11]) (rest := [.int (e0_L39 20), .ref A0_time]) ⟨hx, hb, hml, hown, hts⟩ (kX6_timeOf l G cI cZ tl r11 r12 hr12) (va_cwS 1 hts gX6_hears_X6_timeOf rfl rfl rfl hsX6_timeOf ⟨Nat.le_of_ble_eq_true rfl, Nat.le_of_ble_eq_true rfl⟩) ⟨PRO_blind, PRO_at va_P0 hK⟩ rfl rfl hl.1 rfl (lv_room (Nat.le_of_ble_eq_true rfl)) dX6_hears_90 ⟨Nat.zero_le _, Nat.zero_le _⟩) ?_
                  have g13 := gd_1 hres
                  have hres := gd_2 hres
                  refine x_iast hx hb hK hP hD hS 2 rfl (j := (Int32.toNatClampNeg (e0_L39 20))) rfl g13 dX6_hears_93 (fun H locs hP hD hS => ?_)
                  have hP : va_P G vwCl [o6 A0 e0_L39 A0_s A0_draft A0_kept A0_isKept A0_undone A0_seenI A0_seenJ A0_seenTime A0_text A0_kind A0_place A0_value A0_swallows A0_time A0_strength A0_which A0_told, (A0_s, .inl (cI, 27, .inl c0_s)), (A0_time, .inl (cI, 25, .inl (upd e0_time_L39 (Int32.toNatClampNeg (e0_L39 20)) r12))), (A0_swallows, .inl (cI, 4, .inl c0_swallows)), (A0_strength, .inl (cI, 25, .inl e0_strength_L39)), (A0_which, .inl (cI, 25, .inl e0_which_L39))] H := hP
                  have hD : va_D A [o6 A0 e0_L39 A0_s A0_draft A0_kept A0_isKept A0_undone A0_seenI A0_seenJ A0_seenTime A0_text A0_kind A0_place A0_value A0_swallows A0_time A0_strength A0_which A0_told, (A0_s, .inl (cI, 27, .inl c0_s)), (A0_time, .inl (cI, 25, .inl (upd e0_time_L39 (Int32.toNatClampNeg (e0_L39 20)) r12))), (A0_swallows, .inl (cI, 4, .inl c0_swallows)), (A0_strength, .inl (cI, 25, .inl e0_strength_L39)), (A0_which, .inl (cI, 25, .inl e0_which_L39))] := hD
                  refine lv_aload_n hx hb dX6_hears_94 rfl (lv_at hl 1 rfl) ?_
                  refine va_get (D := G) (ci := 6) (v := .ref A0_strength) (C := RX6) (T := TX6) (N := 22) hx hb hts (fun w h => (List.mem_cons_of_mem _ (List.mem_append_right _ h))) hown hK.1 hP 0 rfl rfl 18 (by decide) (hts (.fieldLink RX6 53 "EchoSeatsModel" "strength" "[I") (List.mem_of_getElem? (i := 4) rfl)) (fun _ h9 => h9) rfl dX6_hears_95 ?_
                  refine lv_aload_n hx hb dX6_hears_98 rfl (lv_at hl 1 rfl) ?_
                  refine va_get (D := G) (ci := 6) (v := .int (e0_L39 20)) (C := RX6) (T := TX6) (N := 22) hx hb hts (fun w h => (List.mem_cons_of_mem _ (List.mem_append_right _ h))) hown hK.1 hP 0 rfl rfl 20 (by decide) (hts (.fieldLink RX6 175 "EchoSeatsModel" "heard" "I") (List.mem_of_getElem? (i := 2) rfl)) (fun _ h9 => h9) rfl dX6_hears_99 ?_
                  refine lv_aload_n hx hb dX6_hears_102 rfl (lv_at hl 1 rfl) ?_
                  refine lv_iload hx hb dX6_hears_103 (lv_at hl 4 rfl) ?_
                  refine lv_iload hx hb dX6_hears_105 (lv_at hl 5 rfl) ?_
                  refine lv_iload hx hb dX6_hears_107 (lv_at hl 0 rfl) ?_
                  obtain ⟨r14, hr14, hres⟩ := bi_1 hres
                  refine x_cp (va_runV (As := [.int v4_L39, .int v5_L39, .int r11]) (rest := [.int (e0_L39 20), .ref A0_strength]) ⟨hx, hb, hml, hown, hts⟩ (kX6_strengthOf l G cI cZ tl A0 A0_s A0_draft A0_kept A0_isKept A0_undone A0_seenI A0_seenJ A0_seenTime A0_text A0_kind A0_place A0_value A0_swallows A0_time A0_strength A0_which A0_told e0_L39 c0_swallows v4_L39 v5_L39 r11 r14 hr14) (cwV 3 hts gX6_hears_X6_strengthOf rfl rfl rfl hsX6_strengthOf ⟨Nat.le_of_ble_eq_true rfl, Nat.le_of_ble_eq_true rfl⟩) ⟨PRO_blind, va_recv hK.1 hP (ci := 6) (q0 := 0) rfl rfl, PRO_at (hP.sub (ws' := [o6 A0 e0_L39 A0_s A0_draft A0_kept A0_isKept A0_undone A0_seenI A0_seenJ A0_seenTime A0_text A0_kind A0_place A0_value A0_swallows A0_time A0_strength A0_which A0_told, (A0_swallows, .inl (cI, 4, .inl c0_swallows))]) [0, 3] rfl) hK⟩ rfl rfl hl.1 rfl (lv_room (Nat.le_of_ble_eq_true rfl)) dX6_hears_109 ⟨Nat.zero_le _, Nat.zero_le _⟩) ?_
                  have g15 := gd_1 hres
                  have hres := gd_2 hres
                  refine x_iast hx hb hK hP hD hS 4 rfl (j := (Int32.toNatClampNeg (e0_L39 20))) rfl g15 dX6_hears_112 (fun H locs hP hD hS => ?_)
                  have hP : va_P G vwCl [o6 A0 e0_L39 A0_s A0_draft A0_kept A0_isKept A0_undone A0_seenI A0_seenJ A0_seenTime A0_text A0_kind A0_place A0_value A0_swallows A0_time A0_strength A0_which A0_told, (A0_s, .inl (cI, 27, .inl c0_s)), (A0_time, .inl (cI, 25, .inl (upd e0_time_L39 (Int32.toNatClampNeg (e0_L39 20)) r12))), (A0_swallows, .inl (cI, 4, .inl c0_swallows)), (A0_strength, .inl (cI, 25, .inl (upd e0_strength_L39 (Int32.toNatClampNeg (e0_L39 20)) r14))), (A0_which, .inl (cI, 25, .inl e0_which_L39))] H := hP
                  have hD : va_D A [o6 A0 e0_L39 A0_s A0_draft A0_kept A0_isKept A0_undone A0_seenI A0_seenJ A0_seenTime A0_text A0_kind A0_place A0_value A0_swallows A0_time A0_strength A0_which A0_told, (A0_s, .inl (cI, 27, .inl c0_s)), (A0_time, .inl (cI, 25, .inl (upd e0_time_L39 (Int32.toNatClampNeg (e0_L39 20)) r12))), (A0_swallows, .inl (cI, 4, .inl c0_swallows)), (A0_strength, .inl (cI, 25, .inl (upd e0_strength_L39 (Int32.toNatClampNeg (e0_L39 20)) r14))), (A0_which, .inl (cI, 25, .inl e0_which_L39))] := hD
                  refine lv_aload_n hx hb dX6_hears_113 rfl (lv_at hl 1 rfl) ?_
                  refine va_get (D := G) (ci := 6) (v := .ref A0_which) (C := RX6) (T := TX6) (N := 22) hx hb hts (fun w h => (List.mem_cons_of_mem _ (List.mem_append_right _ h))) hown hK.1 hP 0 rfl rfl 19 (by decide) (hts (.fieldLink RX6 56 "EchoSeatsModel" "which" "[I") (List.mem_of_getElem? (i := 5) rfl)) (fun _ h9 => h9) rfl dX6_hears_114 ?_
                  refine lv_aload_n hx hb dX6_hears_117 rfl (lv_at hl 1 rfl) ?_
                  refine va_get (D := G) (ci := 6) (v := .int (e0_L39 20)) (C := RX6) (T := TX6) (N := 22) hx hb hts (fun w h => (List.mem_cons_of_mem _ (List.mem_append_right _ h))) hown hK.1 hP 0 rfl rfl 20 (by decide) (hts (.fieldLink RX6 175 "EchoSeatsModel" "heard" "I") (List.mem_of_getElem? (i := 2) rfl)) (fun _ h9 => h9) rfl dX6_hears_118 ?_
                  refine lv_bipush (v := 100) hx hb dX6_hears_121 (by decide) ?_
                  refine lv_iload hx hb dX6_hears_123 (lv_at hl 4 rfl) ?_
                  refine lv_iconst (v := 3) hx hb dX6_hears_125 (by decide) ?_
                  refine lv_iadd hx hb dX6_hears_126 ?_
                  refine lv_imul hx hb dX6_hears_127 ?_
                  refine lv_iload hx hb dX6_hears_128 (lv_at hl 5 rfl) ?_
                  refine lv_iadd hx hb dX6_hears_130 ?_
                  refine lv_iconst (v := 3) hx hb dX6_hears_131 (by decide) ?_
                  refine lv_iadd hx hb dX6_hears_132 ?_
                  have g16 := gd_1 hres
                  have hres := gd_2 hres
                  refine x_iast hx hb hK hP hD hS 5 rfl (j := (Int32.toNatClampNeg (e0_L39 20))) rfl g16 dX6_hears_133 (fun H locs hP hD hS => ?_)
                  have hP : va_P G vwCl [o6 A0 e0_L39 A0_s A0_draft A0_kept A0_isKept A0_undone A0_seenI A0_seenJ A0_seenTime A0_text A0_kind A0_place A0_value A0_swallows A0_time A0_strength A0_which A0_told, (A0_s, .inl (cI, 27, .inl c0_s)), (A0_time, .inl (cI, 25, .inl (upd e0_time_L39 (Int32.toNatClampNeg (e0_L39 20)) r12))), (A0_swallows, .inl (cI, 4, .inl c0_swallows)), (A0_strength, .inl (cI, 25, .inl (upd e0_strength_L39 (Int32.toNatClampNeg (e0_L39 20)) r14))), (A0_which, .inl (cI, 25, .inl (upd e0_which_L39 (Int32.toNatClampNeg (e0_L39 20)) (((100 * (v4_L39 + 3)) + v5_L39) + 3))))] H := hP
                  have hD : va_D A [o6 A0 e0_L39 A0_s A0_draft A0_kept A0_isKept A0_undone A0_seenI A0_seenJ A0_seenTime A0_text A0_kind A0_place A0_value A0_swallows A0_time A0_strength A0_which A0_told, (A0_s, .inl (cI, 27, .inl c0_s)), (A0_time, .inl (cI, 25, .inl (upd e0_time_L39 (Int32.toNatClampNeg (e0_L39 20)) r12))), (A0_swallows, .inl (cI, 4, .inl c0_swallows)), (A0_strength, .inl (cI, 25, .inl (upd e0_strength_L39 (Int32.toNatClampNeg (e0_L39 20)) r14))), (A0_which, .inl (cI, 25, .inl (upd e0_which_L39 (Int32.toNatClampNeg (e0_L39 20)) (((100 * (v4_L39 + 3)) + v5_L39) + 3))))] := hD
                  refine lv_aload_n hx hb dX6_hears_134 rfl (lv_at hl 1 rfl) ?_
                  refine lv_dup hx hb dX6_hears_135 rfl ?_
                  refine va_get (D := G) (ci := 6) (v := .int (e0_L39 20)) (C := RX6) (T := TX6) (N := 22) hx hb hts (fun w h => (List.mem_cons_of_mem _ (List.mem_append_right _ h))) hown hK.1 hP 0 rfl rfl 20 (by decide) (hts (.fieldLink RX6 175 "EchoSeatsModel" "heard" "I") (List.mem_of_getElem? (i := 2) rfl)) (fun _ h9 => h9) rfl dX6_hears_136 ?_
                  refine lv_iconst (v := 1) hx hb dX6_hears_139 (by decide) ?_
                  refine lv_iadd hx hb dX6_hears_140 ?_
                  refine va_put (D := G) (ci := 6) (v := .int ((e0_L39 20) + 1)) (ty := .int) (C := RX6) (T := TX6) (N := 22) hx hb hts (fun w h => (List.mem_cons_of_mem _ (List.mem_append_right _ h))) tyX6 tyX6_ok nmX6 hown hK.1 hP hD hS 0 rfl rfl 20 (by decide) (hts (.fieldLink RX6 175 "EchoSeatsModel" "heard" "I") (List.mem_of_getElem? (i := 2) rfl)) (fun _ h9 => h9) rfl (tyX6_ok 20 (by decide)) rfl rfl (Nat.le_of_ble_eq_true rfl) dX6_hears_141 (fun H locs hP hD hS => ?_)
                  have hP : va_P G vwCl [o6 A0 (upd e0_L39 20 ((e0_L39 20) + 1)) A0_s A0_draft A0_kept A0_isKept A0_undone A0_seenI A0_seenJ A0_seenTime A0_text A0_kind A0_place A0_value A0_swallows A0_time A0_strength A0_which A0_told, (A0_s, .inl (cI, 27, .inl c0_s)), (A0_time, .inl (cI, 25, .inl (upd e0_time_L39 (Int32.toNatClampNeg (e0_L39 20)) r12))), (A0_swallows, .inl (cI, 4, .inl c0_swallows)), (A0_strength, .inl (cI, 25, .inl (upd e0_strength_L39 (Int32.toNatClampNeg (e0_L39 20)) r14))), (A0_which, .inl (cI, 25, .inl (upd e0_which_L39 (Int32.toNatClampNeg (e0_L39 20)) (((100 * (v4_L39 + 3)) + v5_L39) + 3))))] H := hP
                  have hD : va_D A [o6 A0 (upd e0_L39 20 ((e0_L39 20) + 1)) A0_s A0_draft A0_kept A0_isKept A0_undone A0_seenI A0_seenJ A0_seenTime A0_text A0_kind A0_place A0_value A0_swallows A0_time A0_strength A0_which A0_told, (A0_s, .inl (cI, 27, .inl c0_s)), (A0_time, .inl (cI, 25, .inl (upd e0_time_L39 (Int32.toNatClampNeg (e0_L39 20)) r12))), (A0_swallows, .inl (cI, 4, .inl c0_swallows)), (A0_strength, .inl (cI, 25, .inl (upd e0_strength_L39 (Int32.toNatClampNeg (e0_L39 20)) r14))), (A0_which, .inl (cI, 25, .inl (upd e0_which_L39 (Int32.toNatClampNeg (e0_L39 20)) (((100 * (v4_L39 + 3)) + v5_L39) + 3))))] := hD
                  refine lv_iinc (v := (v5_L39 + 1)) (lv' := [(5, .int (v5_L39 + 1)), (6, .int r11), (0, .ref A0), (2, .int v2_L29), (3, .int v3_L29), (4, .int v4_L39)]) hx hb dX6_hears_144 hl (k := 5) rfl rfl (by decide) rfl (fun ls hl => ?_)
                  refine lv_goto (tgt := 39) hx hb dX6_hears_147 (by decide) ?_
                  exact ih39 (v5_L39 + 1) (upd e0_L39 20 ((e0_L39 20) + 1)) (upd e0_time_L39 (Int32.toNatClampNeg (e0_L39 20)) r12) (upd e0_strength_L39 (Int32.toNatClampNeg (e0_L39 20)) r14) (upd e0_which_L39 (Int32.toNatClampNeg (e0_L39 20)) (((100 * (v4_L39 + 3)) + v5_L39) + 3)) _ _ _ hres hP hD hS (lv_sub hl [2, 3, 4, 5, 0] rfl)
        exact Q39 v4_L29 FU (-3) e0_L29 e0_time_L29 e0_strength_L29 e0_which_L29 _ _ _ hres hP hD hS (lv_sub hl [1, 2, 3, 4, 0] rfl)
  exact Q29 y2 y4 FU (-3) (upd c0 20 0) c0_time c0_strength c0_which _ _ _ hres hP hD hS (lv_sub hl [3, 2, 1, 0] rfl)
theorem hsX6_hears : yX6_hears.cls = RX6 ∧ yX6_hears.cls ≠ "java/lang/invoke/MethodHandle" ∧ yX6_hears.cls ≠ "java/lang/invoke/VarHandle" ∧ (parseMethodDescriptor yX6_hears.desc).map (fun d => d.parameters.length) = some 1 := by decide +kernel
set_option maxHeartbeats 4000000 in
set_option maxRecDepth 100000 in
theorem kX6_hearsNow (l : Launch) (G : va_G) (cI cZ : ClassId) (tl : List (ClassId × FieldType)) (sz : Nat) (A : Nat → Prop) (A0 A0_s A0_draft A0_kept A0_isKept A0_undone A0_seenI A0_seenJ A0_seenTime A0_text A0_kind A0_place A0_value A0_swallows A0_time A0_strength A0_which A0_told : Nat) (c0 c0_s c0_swallows c0_time c0_strength c0_which : Nat → Int32) (x1 : Int32) (res : (Nat → Int32) × (Nat → Int32) × (Nat → Int32) × (Nat → Int32) × (Nat → Int32)) (hAe : A = va_A [o6 A0 c0 A0_s A0_draft A0_kept A0_isKept A0_undone A0_seenI A0_seenJ A0_seenTime A0_text A0_kind A0_place A0_value A0_swallows A0_time A0_strength A0_which A0_told, (A0_s, .inl (cI, 27, .inl c0_s)), (A0_swallows, .inl (cI, 4, .inl c0_swallows)), (A0_time, .inl (cI, 25, .inl c0_time)), (A0_strength, .inl (cI, 25, .inl c0_strength)), (A0_which, .inl (cI, 25, .inl c0_which))] sz) (hres : fX6_hearsNow c0 c0_s c0_swallows c0_time c0_strength c0_which x1 = some res) : Met l yX6_hearsNow wsX6_hearsNow rX6_hearsNow (va_Pc [.ref A0, .int x1] (PRW G cI cZ tl [o6 A0 c0 A0_s A0_draft A0_kept A0_isKept A0_undone A0_seenI A0_seenJ A0_seenTime A0_text A0_kind A0_place A0_value A0_swallows A0_time A0_strength A0_which A0_told, (A0_s, .inl (cI, 27, .inl c0_s)), (A0_swallows, .inl (cI, 4, .inl c0_swallows)), (A0_time, .inl (cI, 25, .inl c0_time)), (A0_strength, .inl (cI, 25, .inl c0_strength)), (A0_which, .inl (cI, 25, .inl c0_which))] sz)) (Qvw G A [o6 A0 res.1 A0_s A0_draft A0_kept A0_isKept A0_undone A0_seenI A0_seenJ A0_seenTime A0_text A0_kind A0_place A0_value A0_swallows A0_time A0_strength A0_which A0_told, (A0_s, .inl (cI, 27, .inl c0_s)), (A0_swallows, .inl (cI, 4, .inl res.2.1)), (A0_time, .inl (cI, 25, .inl res.2.2.1)), (A0_strength, .inl (cI, 25, .inl res.2.2.2.1)), (A0_which, .inl (cI, 25, .inl res.2.2.2.2))]) 0 0 A := by
  refine Met.ofW (cc := cX6_hearsNow) (maxL := 2) (ret := none) (by decide) rfl ?_
  intro p e s m args below meth c s₁ B hml hv
  obtain ⟨rfl, hsz, hP, hK, hD0⟩ := hv
  have hx := B.exec
  have hb := B.bytes
  have hr := B.returns
  have hts := atoms_spec (ws := wsX6_hearsNow) B.pre
  have hown : s.vm.findClass RX6 = some m.cls := findClass_of_methodNamed B.named
  have hlocks := B.notSynchronized
  subst hsz
  have hD : va_D A [o6 A0 c0 A0_s A0_draft A0_kept A0_isKept A0_undone A0_seenI A0_seenJ A0_seenTime A0_text A0_kind A0_place A0_value A0_swallows A0_time A0_strength A0_which A0_told, (A0_s, .inl (cI, 27, .inl c0_s)), (A0_swallows, .inl (cI, 4, .inl c0_swallows)), (A0_time, .inl (cI, 25, .inl c0_time)), (A0_strength, .inl (cI, 25, .inl c0_strength)), (A0_which, .inl (cI, 25, .inl c0_which))] := by rw [hAe]; exact hD0.self
  have hA : ∀ q : Nat, s.heap.size ≤ q → A q := fun q h => by rw [hAe]; exact Or.inr h
  clear hAe hD0
  have hS : va_S A s.heap s.heap [] := va_S.rf
  have hl := lv_entry ([.ref A0, .int x1] : List Value) (n := 2) (Nat.le_of_ble_eq_true rfl)
  rw [lg_entry_eq]
  generalize (lg_sl ([.ref A0, .int x1] : List Value) ++ List.replicate (2 - (lg_sl ([.ref A0, .int x1] : List Value)).length) Slot.unset).toArray = ls at hl ⊢
  have hl : lv_has ls 2 [(0, .ref A0), (1, .int x1)] := hl
  refine lv_aload_n hx hb dX6_hearsNow_0 rfl (lv_at hl 0 rfl) ?_
  obtain ⟨r1, hr1, hres⟩ := bi_1 hres
  refine x_cv (wr := [(A0_time, .inl (cI, 25, .inl c0_time)), (A0_strength, .inl (cI, 25, .inl c0_strength)), (A0_which, .inl (cI, 25, .inl c0_which))]) (w2 := [o6 A0 c0 A0_s A0_draft A0_kept A0_isKept A0_undone A0_seenI A0_seenJ A0_seenTime A0_text A0_kind A0_place A0_value A0_swallows A0_time A0_strength A0_which A0_told, (A0_s, .inl (cI, 27, .inl c0_s)), (A0_swallows, .inl (cI, 4, .inl r1)), (A0_time, .inl (cI, 25, .inl c0_time)), (A0_strength, .inl (cI, 25, .inl c0_strength)), (A0_which, .inl (cI, 25, .inl c0_which))]) hP hD hS hA (va_runV (As := []) (rest := []) ⟨hx, hb, hml, hown, hts⟩ (kX6_swallowsNow l G cI cZ tl s.heap.size _ A0 A0_s A0_draft A0_kept A0_isKept A0_undone A0_seenI A0_seenJ A0_seenTime A0_text A0_kind A0_place A0_value A0_swallows A0_time A0_strength A0_which A0_told c0 c0_s c0_swallows r1 rfl hr1) (cwV 0 hts gX6_hearsNow_X6_swallowsNow rfl rfl rfl hsX6_swallowsNow ⟨Nat.le_of_ble_eq_true rfl, Nat.le_of_ble_eq_true rfl⟩) ⟨PRW_blind, va_recv hK.1 hP (ci := 6) (q0 := 0) rfl rfl, PRW_at (hP.sub (ws' := [o6 A0 c0 A0_s A0_draft A0_kept A0_isKept A0_undone A0_seenI A0_seenJ A0_seenTime A0_text A0_kind A0_place A0_value A0_swallows A0_time A0_strength A0_which A0_told, (A0_s, .inl (cI, 27, .inl c0_s)), (A0_swallows, .inl (cI, 4, .inl c0_swallows))]) [0, 1, 2] rfl) (hD.sub (ws' := [o6 A0 c0 A0_s A0_draft A0_kept A0_isKept A0_undone A0_seenI A0_seenJ A0_seenTime A0_text A0_kind A0_place A0_value A0_swallows A0_time A0_strength A0_which A0_told, (A0_s, .inl (cI, 27, .inl c0_s)), (A0_swallows, .inl (cI, 4, .inl c0_swallows))]) [0, 1, 2] (by decide) rfl) hK⟩ rfl rfl hl.1 rfl (lv_room (Nat.le_of_ble_eq_true rfl)) dX6_hearsNow_1 ⟨Nat.zero_le _, Nat.zero_le _⟩) [0, 1, 2] [3, 4, 5] [3, 4, 5, 0, 1, 2] rfl rfl (by decide) (by decide) rfl rfl (by decide) (fun H locs hP hD hS => ?_)
  refine lv_aload_n hx hb dX6_hearsNow_4 rfl (lv_at hl 0 rfl) ?_
  refine lv_iload_n hx hb dX6_hearsNow_5 rfl (lv_at hl 1 rfl) ?_
  obtain ⟨r2, hr2, hres⟩ := bi_1 hres
  refine x_cv (wr := []) (w2 := [o6 A0 r2.1 A0_s A0_draft A0_kept A0_isKept A0_undone A0_seenI A0_seenJ A0_seenTime A0_text A0_kind A0_place A0_value A0_swallows A0_time A0_strength A0_which A0_told, (A0_s, .inl (cI, 27, .inl c0_s)), (A0_swallows, .inl (cI, 4, .inl r1)), (A0_time, .inl (cI, 25, .inl r2.2.1)), (A0_strength, .inl (cI, 25, .inl r2.2.2.1)), (A0_which, .inl (cI, 25, .inl r2.2.2.2))]) hP hD hS hA (va_runV (As := [.int x1]) (rest := []) ⟨hx, hb, hml, hown, hts⟩ (kX6_hears l G cI cZ tl H.size _ A0 A0_s A0_draft A0_kept A0_isKept A0_undone A0_seenI A0_seenJ A0_seenTime A0_text A0_kind A0_place A0_value A0_swallows A0_time A0_strength A0_which A0_told c0 c0_s c0_time r1 c0_strength c0_which x1 r2 rfl hr2) (cwV 1 hts gX6_hearsNow_X6_hears rfl rfl rfl hsX6_hears ⟨Nat.le_of_ble_eq_true rfl, Nat.le_of_ble_eq_true rfl⟩) ⟨PRW_blind, va_recv hK.1 hP (ci := 6) (q0 := 0) rfl rfl, PRW_at (hP.sub (ws' := [o6 A0 c0 A0_s A0_draft A0_kept A0_isKept A0_undone A0_seenI A0_seenJ A0_seenTime A0_text A0_kind A0_place A0_value A0_swallows A0_time A0_strength A0_which A0_told, (A0_s, .inl (cI, 27, .inl c0_s)), (A0_time, .inl (cI, 25, .inl c0_time)), (A0_swallows, .inl (cI, 4, .inl r1)), (A0_strength, .inl (cI, 25, .inl c0_strength)), (A0_which, .inl (cI, 25, .inl c0_which))]) [0, 1, 3, 2, 4, 5] rfl) (hD.sub (ws' := [o6 A0 c0 A0_s A0_draft A0_kept A0_isKept A0_undone A0_seenI A0_seenJ A0_seenTime A0_text A0_kind A0_place A0_value A0_swallows A0_time A0_strength A0_which A0_told, (A0_s, .inl (cI, 27, .inl c0_s)), (A0_time, .inl (cI, 25, .inl c0_time)), (A0_swallows, .inl (cI, 4, .inl r1)), (A0_strength, .inl (cI, 25, .inl c0_strength)), (A0_which, .inl (cI, 25, .inl c0_which))]) [0, 1, 3, 2, 4, 5] (by decide) rfl) hK⟩ rfl rfl hl.1 rfl (lv_room (Nat.le_of_ble_eq_true rfl)) dX6_hearsNow_6 ⟨Nat.zero_le _, Nat.zero_le _⟩) [0, 1, 3, 2, 4, 5] [] [0, 1, 3, 2, 4, 5] rfl rfl (by decide) (by decide) rfl rfl (by decide) (fun H locs hP hD hS => ?_)
  obtain rfl := Option.some.inj hres
  exact W.vret hx hb hr (fun t ht hW => ⟨⟨(), rfl, trivial, by rw [ht]; exact hP, hD⟩, hS.F ht⟩) hS.2.2 dX6_hearsNow_9
theorem hsX6_hearsNow : yX6_hearsNow.cls = RX6 ∧ yX6_hearsNow.cls ≠ "java/lang/invoke/MethodHandle" ∧ yX6_hearsNow.cls ≠ "java/lang/invoke/VarHandle" ∧ (parseMethodDescriptor yX6_hearsNow.desc).map (fun d => d.parameters.length) = some 1 := by decide +kernel
set_option maxHeartbeats 4000000 in
set_option maxRecDepth 100000 in
theorem kX6_soundBy (l : Launch) (G : va_G) (cI cZ : ClassId) (tl : List (ClassId × FieldType)) (A0 A0_s A0_draft A0_kept A0_isKept A0_undone A0_seenI A0_seenJ A0_seenTime A0_text A0_kind A0_place A0_value A0_swallows A0_time A0_strength A0_which A0_told : Nat) (c0 c0_time c0_strength : Nat → Int32) (x1 : Int32) (res : Int32) (hres : fX6_soundBy c0 c0_time c0_strength x1 = some res) : Met l yX6_soundBy wsX6_soundBy rX6_soundBy (va_Pc [.ref A0, .int x1] (PRO G cI cZ tl [o6 A0 c0 A0_s A0_draft A0_kept A0_isKept A0_undone A0_seenI A0_seenJ A0_seenTime A0_text A0_kind A0_place A0_value A0_swallows A0_time A0_strength A0_which A0_told, (A0_time, .inl (cI, 25, .inl c0_time)), (A0_strength, .inl (cI, 25, .inl c0_strength))])) (Sp res) 0 0 (fun _ => False) := by
  refine Met.ofW (cc := cX6_soundBy) (maxL := 4) (ret := (some .int)) (by decide) rfl ?_
  intro p e s m args below meth c s₁ B hml hv
  obtain ⟨rfl, hP, hK⟩ := hv
  have hx := B.exec
  have hb := B.bytes
  have hr := B.returns
  have hts := atoms_spec (ws := wsX6_soundBy) B.pre
  have hown : s.vm.findClass RX6 = some m.cls := findClass_of_methodNamed B.named
  have hlocks := B.notSynchronized
  have hl := lv_entry ([.ref A0, .int x1] : List Value) (n := 4) (Nat.le_of_ble_eq_true rfl)
  rw [lg_entry_eq]
  generalize (lg_sl ([.ref A0, .int x1] : List Value) ++ List.replicate (4 - (lg_sl ([.ref A0, .int x1] : List Value)).length) Slot.unset).toArray = ls at hl ⊢
  have hl : lv_has ls 4 [(0, .ref A0), (1, .int x1)] := hl
  refine lv_iconst (v := 0) hx hb dX6_soundBy_0 (by decide) ?_
  refine lv_istore_n (lv' := [(2, .int 0), (0, .ref A0), (1, .int x1)]) hx hb dX6_soundBy_1 rfl hl (by decide) rfl (fun ls hl => ?_)
  refine lv_iconst (v := 0) hx hb dX6_soundBy_2 (by decide) ?_
  refine lv_istore_n (lv' := [(3, .int 0), (2, .int 0), (0, .ref A0), (1, .int x1)]) hx hb dX6_soundBy_3 rfl hl (by decide) rfl (fun ls hl => ?_)
  have Q4 : ∀ (v1_L4 : Int32) (n4 : Nat) (v2_L4 : Int32) (v3_L4 : Int32) (ls : Array Slot), LPX (fX6_soundBy_L4 c0 c0_time c0_strength v1_L4) n4 (v2_L4, v3_L4) = some res → lv_has ls 4 [(0, .ref A0), (1, .int v1_L4), (2, .int v2_L4), (3, .int v3_L4)] → WRO p l e wsX6_soundBy rX6_soundBy s m ([.ref A0, .int x1] : List Value).toArray below meth c res (F0 m 4 ls []) := by
    intro v1_L4 n4
    induction n4 with
    | zero =>
      intro v2_L4 v3_L4 ls hres
      exact absurd (LPX_0.symm.trans hres) (fun h => by cases h)
    | succ n4 ih4 =>
      intro v2_L4 v3_L4 ls hres hl
      have hres := LPX_s.symm.trans hres
      refine lv_iload_n hx hb dX6_soundBy_4 rfl (lv_at hl 3 rfl) ?_
      refine lv_aload_n hx hb dX6_soundBy_5 rfl (lv_at hl 0 rfl) ?_
      refine va_get (D := G) (ci := 6) (v := .int (c0 20)) (C := RX6) (T := TX6) (N := 22) hx hb hts (fun w h => (List.mem_cons_of_mem _ (List.mem_append_right _ h))) hown hK.1 hP 0 rfl rfl 20 (by decide) (hts (.fieldLink RX6 175 "EchoSeatsModel" "heard" "I") (List.mem_of_getElem? (i := 1) rfl)) (fun _ h9 => h9) rfl dX6_soundBy_6 ?_
      refine lv_icmp_ge (tgt := 41) hx hb dX6_soundBy_9 (by decide) (fun h1 => ?_) (fun h1 => ?_)
      · have hres := ite_t hres h1
        refine lv_iload_n hx hb dX6_soundBy_41 rfl (lv_at hl 2 rfl) ?_
        obtain rfl := Option.some.inj hres
        exact W.iret hx hb hr (fun t ht hW => ⟨rfl, ht⟩) (fun q h => absurd h List.not_mem_nil) dX6_soundBy_42
      · have hres := ite_f hres h1
        refine lv_iload_n hx hb dX6_soundBy_12 rfl (lv_at hl 2 rfl) ?_
        refine lv_aload_n hx hb dX6_soundBy_13 rfl (lv_at hl 0 rfl) ?_
        refine va_get (D := G) (ci := 6) (v := .ref A0_time) (C := RX6) (T := TX6) (N := 22) hx hb hts (fun w h => (List.mem_cons_of_mem _ (List.mem_append_right _ h))) hown hK.1 hP 0 rfl rfl 17 (by decide) (hts (.fieldLink RX6 50 "EchoSeatsModel" "time" "[I") (List.mem_of_getElem? (i := 2) rfl)) (fun _ h9 => h9) rfl dX6_soundBy_14 ?_
        refine lv_iload_n hx hb dX6_soundBy_17 rfl (lv_at hl 3 rfl) ?_
        have g2 := gd_1 hres
        have hres := gd_2 hres
        refine x_iald hx hb hK hP 1 rfl (j := (Int32.toNatClampNeg v3_L4)) rfl g2 dX6_soundBy_18 ?_
        refine lv_iload_n hx hb dX6_soundBy_19 rfl (lv_at hl 1 rfl) ?_
        refine lv_icmp_gt (tgt := 32) hx hb dX6_soundBy_20 (by decide) (fun h3 => ?_) (fun h3 => ?_)
        · have hres := ite_t hres h3
          refine lv_iconst (v := 0) hx hb dX6_soundBy_32 (by decide) ?_
          refine lv_iadd hx hb dX6_soundBy_33 ?_
          refine lv_topi (fun y4 ey4 => ?_)
          have hres := bnd_z ey4 hres
          refine lv_istore_n (lv' := [(2, .int y4), (0, .ref A0), (1, .int v1_L4), (3, .int v3_L4)]) hx hb dX6_soundBy_34 rfl hl (by decide) rfl (fun ls hl => ?_)
          refine lv_iinc (v := (v3_L4 + 1)) (lv' := [(3, .int (v3_L4 + 1)), (2, .int y4), (0, .ref A0), (1, .int v1_L4)]) hx hb dX6_soundBy_35 hl (k := 3) rfl rfl (by decide) rfl (fun ls hl => ?_)
          refine lv_goto (tgt := 4) hx hb dX6_soundBy_38 (by decide) ?_
          exact ih4 y4 (v3_L4 + 1) _ hres (lv_sub hl [2, 3, 1, 0] rfl)
        · have hres := ite_f hres h3
          refine lv_aload_n hx hb dX6_soundBy_23 rfl (lv_at hl 0 rfl) ?_
          refine va_get (D := G) (ci := 6) (v := .ref A0_strength) (C := RX6) (T := TX6) (N := 22) hx hb hts (fun w h => (List.mem_cons_of_mem _ (List.mem_append_right _ h))) hown hK.1 hP 0 rfl rfl 18 (by decide) (hts (.fieldLink RX6 53 "EchoSeatsModel" "strength" "[I") (List.mem_of_getElem? (i := 3) rfl)) (fun _ h9 => h9) rfl dX6_soundBy_24 ?_
          refine lv_iload_n hx hb dX6_soundBy_27 rfl (lv_at hl 3 rfl) ?_
          have g5 := gd_1 hres
          have hres := gd_2 hres
          refine x_iald hx hb hK hP 2 rfl (j := (Int32.toNatClampNeg v3_L4)) rfl g5 dX6_soundBy_28 ?_
          refine lv_goto (tgt := 33) hx hb dX6_soundBy_29 (by decide) ?_
          refine lv_iadd hx hb dX6_soundBy_33 ?_
          refine lv_topi (fun y6 ey6 => ?_)
          have hres := bnd_z ey6 hres
          refine lv_istore_n (lv' := [(2, .int y6), (0, .ref A0), (1, .int v1_L4), (3, .int v3_L4)]) hx hb dX6_soundBy_34 rfl hl (by decide) rfl (fun ls hl => ?_)
          refine lv_iinc (v := (v3_L4 + 1)) (lv' := [(3, .int (v3_L4 + 1)), (2, .int y6), (0, .ref A0), (1, .int v1_L4)]) hx hb dX6_soundBy_35 hl (k := 3) rfl rfl (by decide) rfl (fun ls hl => ?_)
          refine lv_goto (tgt := 4) hx hb dX6_soundBy_38 (by decide) ?_
          exact ih4 y6 (v3_L4 + 1) _ hres (lv_sub hl [2, 3, 1, 0] rfl)
  exact Q4 x1 FU 0 0 _ hres (lv_sub hl [2, 3, 1, 0] rfl)
theorem hsX6_soundBy : yX6_soundBy.cls = RX6 ∧ yX6_soundBy.cls ≠ "java/lang/invoke/MethodHandle" ∧ yX6_soundBy.cls ≠ "java/lang/invoke/VarHandle" ∧ (parseMethodDescriptor yX6_soundBy.desc).map (fun d => d.parameters.length) = some 1 := by decide +kernel
set_option maxHeartbeats 4000000 in
set_option maxRecDepth 100000 in
theorem kX6_soundAll (l : Launch) (G : va_G) (cI cZ : ClassId) (tl : List (ClassId × FieldType)) (A0 A0_s A0_draft A0_kept A0_isKept A0_undone A0_seenI A0_seenJ A0_seenTime A0_text A0_kind A0_place A0_value A0_swallows A0_time A0_strength A0_which A0_told : Nat) (c0 c0_time c0_strength : Nat → Int32) (res : Int32) (hres : fX6_soundAll c0 c0_time c0_strength = some res) : Met l yX6_soundAll wsX6_soundAll rX6_soundAll (va_Pc [.ref A0] (PRO G cI cZ tl [o6 A0 c0 A0_s A0_draft A0_kept A0_isKept A0_undone A0_seenI A0_seenJ A0_seenTime A0_text A0_kind A0_place A0_value A0_swallows A0_time A0_strength A0_which A0_told, (A0_time, .inl (cI, 25, .inl c0_time)), (A0_strength, .inl (cI, 25, .inl c0_strength))])) (Sp res) 0 0 (fun _ => False) := by
  refine Met.ofW (cc := cX6_soundAll) (maxL := 1) (ret := (some .int)) (by decide) rfl ?_
  intro p e s m args below meth c s₁ B hml hv
  obtain ⟨rfl, hP, hK⟩ := hv
  have hx := B.exec
  have hb := B.bytes
  have hr := B.returns
  have hts := atoms_spec (ws := wsX6_soundAll) B.pre
  have hown : s.vm.findClass RX6 = some m.cls := findClass_of_methodNamed B.named
  have hlocks := B.notSynchronized
  have hl := lv_entry ([.ref A0] : List Value) (n := 1) (Nat.le_of_ble_eq_true rfl)
  rw [lg_entry_eq]
  generalize (lg_sl ([.ref A0] : List Value) ++ List.replicate (1 - (lg_sl ([.ref A0] : List Value)).length) Slot.unset).toArray = ls at hl ⊢
  have hl : lv_has ls 1 [(0, .ref A0)] := hl
  refine lv_aload_n hx hb dX6_soundAll_0 rfl (lv_at hl 0 rfl) ?_
  refine lv_sipush (v := 2000) hx hb dX6_soundAll_1 (by decide) ?_
  obtain ⟨r1, hr1, hres⟩ := bi_1 hres
  refine x_cp (va_runV (As := [.int 2000]) (rest := []) ⟨hx, hb, hml, hown, hts⟩ (kX6_soundBy l G cI cZ tl A0 A0_s A0_draft A0_kept A0_isKept A0_undone A0_seenI A0_seenJ A0_seenTime A0_text A0_kind A0_place A0_value A0_swallows A0_time A0_strength A0_which A0_told c0 c0_time c0_strength 2000 r1 hr1) (cwV 1 hts gX6_soundAll_X6_soundBy rfl rfl rfl hsX6_soundBy ⟨Nat.le_of_ble_eq_true rfl, Nat.le_of_ble_eq_true rfl⟩) ⟨PRO_blind, va_recv hK.1 hP (ci := 6) (q0 := 0) rfl rfl, PRO_at (hP.sub (ws' := [o6 A0 c0 A0_s A0_draft A0_kept A0_isKept A0_undone A0_seenI A0_seenJ A0_seenTime A0_text A0_kind A0_place A0_value A0_swallows A0_time A0_strength A0_which A0_told, (A0_time, .inl (cI, 25, .inl c0_time)), (A0_strength, .inl (cI, 25, .inl c0_strength))]) [0, 1, 2] rfl) hK⟩ rfl rfl hl.1 rfl (lv_room (Nat.le_of_ble_eq_true rfl)) dX6_soundAll_4 ⟨Nat.zero_le _, Nat.zero_le _⟩) ?_
  obtain rfl := Option.some.inj hres
  exact W.iret hx hb hr (fun t ht hW => ⟨rfl, ht⟩) (fun q h => absurd h List.not_mem_nil) dX6_soundAll_7
theorem hsX6_soundAll : yX6_soundAll.cls = RX6 ∧ yX6_soundAll.cls ≠ "java/lang/invoke/MethodHandle" ∧ yX6_soundAll.cls ≠ "java/lang/invoke/VarHandle" ∧ (parseMethodDescriptor yX6_soundAll.desc).map (fun d => d.parameters.length) = some 0 := by decide +kernel
set_option maxHeartbeats 4000000 in
set_option maxRecDepth 100000 in
theorem kX6_best (l : Launch) (G : va_G) (cI cZ : ClassId) (tl : List (ClassId × FieldType)) (sz : Nat) (A : Nat → Prop) (A0 A0_s A0_draft A0_kept A0_isKept A0_undone A0_seenI A0_seenJ A0_seenTime A0_text A0_kind A0_place A0_value A0_swallows A0_time A0_strength A0_which A0_told : Nat) (c0 c0_s c0_swallows c0_time c0_strength c0_which : Nat → Int32) (x1 : Int32) (res : Int32 × (Nat → Int32) × (Nat → Int32) × (Nat → Int32) × (Nat → Int32) × (Nat → Int32)) (hAe : A = va_A [o6 A0 c0 A0_s A0_draft A0_kept A0_isKept A0_undone A0_seenI A0_seenJ A0_seenTime A0_text A0_kind A0_place A0_value A0_swallows A0_time A0_strength A0_which A0_told, (A0_s, .inl (cI, 27, .inl c0_s)), (A0_swallows, .inl (cI, 4, .inl c0_swallows)), (A0_time, .inl (cI, 25, .inl c0_time)), (A0_strength, .inl (cI, 25, .inl c0_strength)), (A0_which, .inl (cI, 25, .inl c0_which))] sz) (hres : fX6_best c0 c0_s c0_swallows c0_time c0_strength c0_which x1 = some res) : Met l yX6_best wsX6_best rX6_best (va_Pc [.ref A0, .int x1] (PRW G cI cZ tl [o6 A0 c0 A0_s A0_draft A0_kept A0_isKept A0_undone A0_seenI A0_seenJ A0_seenTime A0_text A0_kind A0_place A0_value A0_swallows A0_time A0_strength A0_which A0_told, (A0_s, .inl (cI, 27, .inl c0_s)), (A0_swallows, .inl (cI, 4, .inl c0_swallows)), (A0_time, .inl (cI, 25, .inl c0_time)), (A0_strength, .inl (cI, 25, .inl c0_strength)), (A0_which, .inl (cI, 25, .inl c0_which))] sz)) (Qiw res.1 G A [o6 A0 res.2.1 A0_s A0_draft A0_kept A0_isKept A0_undone A0_seenI A0_seenJ A0_seenTime A0_text A0_kind A0_place A0_value A0_swallows A0_time A0_strength A0_which A0_told, (A0_s, .inl (cI, 27, .inl c0_s)), (A0_swallows, .inl (cI, 4, .inl res.2.2.1)), (A0_time, .inl (cI, 25, .inl res.2.2.2.1)), (A0_strength, .inl (cI, 25, .inl res.2.2.2.2.1)), (A0_which, .inl (cI, 25, .inl res.2.2.2.2.2))]) 0 0 A := by
  refine Met.ofW (cc := cX6_best) (maxL := 12) (ret := (some .int)) (by decide) rfl ?_
  intro p e s m args below meth c s₁ B hml hv
  obtain ⟨rfl, hsz, hP, hK, hD0⟩ := hv
  have hx := B.exec
  have hb := B.bytes
  have hr := B.returns
  have hts := atoms_spec (ws := wsX6_best) B.pre
  have hown : s.vm.findClass RX6 = some m.cls := findClass_of_methodNamed B.named
  have hlocks := B.notSynchronized
  subst hsz
  have hD : va_D A [o6 A0 c0 A0_s A0_draft A0_kept A0_isKept A0_undone A0_seenI A0_seenJ A0_seenTime A0_text A0_kind A0_place A0_value A0_swallows A0_time A0_strength A0_which A0_told, (A0_s, .inl (cI, 27, .inl c0_s)), (A0_swallows, .inl (cI, 4, .inl c0_swallows)), (A0_time, .inl (cI, 25, .inl c0_time)), (A0_strength, .inl (cI, 25, .inl c0_strength)), (A0_which, .inl (cI, 25, .inl c0_which))] := by rw [hAe]; exact hD0.self
  have hA : ∀ q : Nat, s.heap.size ≤ q → A q := fun q h => by rw [hAe]; exact Or.inr h
  clear hAe hD0
  have hS : va_S A s.heap s.heap [] := va_S.rf
  have hl := lv_entry ([.ref A0, .int x1] : List Value) (n := 12) (Nat.le_of_ble_eq_true rfl)
  rw [lg_entry_eq]
  generalize (lg_sl ([.ref A0, .int x1] : List Value) ++ List.replicate (12 - (lg_sl ([.ref A0, .int x1] : List Value)).length) Slot.unset).toArray = ls at hl ⊢
  have hl : lv_has ls 12 [(0, .ref A0), (1, .int x1)] := hl
  refine lv_iload_n hx hb dX6_best_0 rfl (lv_at hl 1 rfl) ?_
  refine lv_iconst (v := 0) hx hb dX6_best_1 (by decide) ?_
  refine lv_sipush (v := 999) hx hb dX6_best_2 (by decide) ?_
  obtain ⟨r1, hr1, hres⟩ := bi_1 hres
  refine x_cp (va_runS (As := [.int x1, .int 0, .int 999]) (rest := []) ⟨hx, hb, hml, hown, hts⟩ (kX6_in l G cI cZ tl x1 0 999 r1 hr1) (va_cwS 3 hts gX6_best_X6_in rfl rfl rfl hsX6_in ⟨Nat.le_of_ble_eq_true rfl, Nat.le_of_ble_eq_true rfl⟩) ⟨PRO_blind, PRO_at va_P0 hK⟩ rfl rfl hl.1 rfl (lv_room (Nat.le_of_ble_eq_true rfl)) dX6_best_5 ⟨Nat.zero_le _, Nat.zero_le _⟩) ?_
  refine lv_if_ne (tgt := 13) hx hb dX6_best_8 (by decide) (fun h2 => ?_) (fun h2 => ?_)
  · have hres := ite_f hres h2
    refine lv_bipush (v := (-9)) hx hb dX6_best_13 (by decide) ?_
    refine lv_istore_n (lv' := [(2, .int (-9)), (0, .ref A0), (1, .int x1)]) hx hb dX6_best_15 rfl hl (by decide) rfl (fun ls hl => ?_)
    refine lv_lconst (v := 0) hx hb dX6_best_16 rfl ?_
    refine lv_lstore_n (lv' := [(3, .long 0), (2, .int (-9)), (0, .ref A0), (1, .int x1)]) hx hb dX6_best_17 rfl hl (by decide) rfl (fun ls hl => ?_)
    refine lv_lconst (v := 1) hx hb dX6_best_18 rfl ?_
    refine lv_lstore (lv' := [(5, .long 1), (3, .long 0), (2, .int (-9)), (0, .ref A0), (1, .int x1)]) hx hb dX6_best_19 hl (by decide) rfl (fun ls hl => ?_)
    refine lv_iconst (v := 0) hx hb dX6_best_21 (by decide) ?_
    refine lv_istore (lv' := [(7, .int 0), (5, .long 1), (3, .long 0), (2, .int (-9)), (0, .ref A0), (1, .int x1)]) hx hb dX6_best_22 hl (by decide) rfl (fun ls hl => ?_)
    have Q24 : ∀ (v1_L24 : Int32) (n24 : Nat) (v2_L24 : Int32) (v3_L24 : Int64) (v5_L24 : Int64) (v7_L24 : Int32) (e0_L24 : (Nat → Int32)) (e0_swallows_L24 : (Nat → Int32)) (e0_time_L24 : (Nat → Int32)) (e0_strength_L24 : (Nat → Int32)) (e0_which_L24 : (Nat → Int32)) (H : Heap) (locs : List Loc) (ls : Array Slot), LPX (fX6_best_L24 c0_s v1_L24) n24 (v2_L24, v3_L24, v5_L24, v7_L24, e0_L24, e0_swallows_L24, e0_time_L24, e0_strength_L24, e0_which_L24) = some res → va_P G vwCl [o6 A0 e0_L24 A0_s A0_draft A0_kept A0_isKept A0_undone A0_seenI A0_seenJ A0_seenTime A0_text A0_kind A0_place A0_value A0_swallows A0_time A0_strength A0_which A0_told, (A0_s, .inl (cI, 27, .inl c0_s)), (A0_swallows, .inl (cI, 4, .inl e0_swallows_L24)), (A0_time, .inl (cI, 25, .inl e0_time_L24)), (A0_strength, .inl (cI, 25, .inl e0_strength_L24)), (A0_which, .inl (cI, 25, .inl e0_which_L24))] H → va_D A [o6 A0 e0_L24 A0_s A0_draft A0_kept A0_isKept A0_undone A0_seenI A0_seenJ A0_seenTime A0_text A0_kind A0_place A0_value A0_swallows A0_time A0_strength A0_which A0_told, (A0_s, .inl (cI, 27, .inl c0_s)), (A0_swallows, .inl (cI, 4, .inl e0_swallows_L24)), (A0_time, .inl (cI, 25, .inl e0_time_L24)), (A0_strength, .inl (cI, 25, .inl e0_strength_L24)), (A0_which, .inl (cI, 25, .inl e0_which_L24))] → va_S A s.heap H locs → lv_has ls 12 [(0, .ref A0), (1, .int v1_L24), (2, .int v2_L24), (3, .long v3_L24), (5, .long v5_L24), (7, .int v7_L24)] → WRW p l e wsX6_best rX6_best s m ([.ref A0, .int x1] : List Value).toArray below meth c H locs (Qiw res.1 G A [o6 A0 res.2.1 A0_s A0_draft A0_kept A0_isKept A0_undone A0_seenI A0_seenJ A0_seenTime A0_text A0_kind A0_place A0_value A0_swallows A0_time A0_strength A0_which A0_told, (A0_s, .inl (cI, 27, .inl c0_s)), (A0_swallows, .inl (cI, 4, .inl res.2.2.1)), (A0_time, .inl (cI, 25, .inl res.2.2.2.1)), (A0_strength, .inl (cI, 25, .inl res.2.2.2.2.1)), (A0_which, .inl (cI, 25, .inl res.2.2.2.2.2))]) A (F0 m 24 ls []) := by
      intro v1_L24 n24
      induction n24 with
      | zero =>
        intro v2_L24 v3_L24 v5_L24 v7_L24 e0_L24 e0_swallows_L24 e0_time_L24 e0_strength_L24 e0_which_L24 H locs ls hres
        exact absurd (LPX_0.symm.trans hres) (fun h => by cases h)
      | succ n24 ih24 =>
        intro v2_L24 v3_L24 v5_L24 v7_L24 e0_L24 e0_swallows_L24 e0_time_L24 e0_strength_L24 e0_which_L24 H locs ls hres hP hD hS hl
        have hres := LPX_s.symm.trans hres
        have J81 : ∀ (v2_j81 : Int32) (v3_j81 : Int64) (v5_j81 : Int64) (v7_j81 : Int32) (v10_j81 : Int64) (z0_j81 : Int64) (e0_j81 : (Nat → Int32)) (e0_swallows_j81 : (Nat → Int32)) (e0_time_j81 : (Nat → Int32)) (e0_strength_j81 : (Nat → Int32)) (e0_which_j81 : (Nat → Int32)) (H : Heap) (locs : List Loc) (ls : Array Slot), fX6_best_j81 c0_s v1_L24 v2_j81 v3_j81 v5_j81 v7_j81 v10_j81 z0_j81 e0_j81 e0_swallows_j81 e0_time_j81 e0_strength_j81 e0_which_j81 (LPX (fX6_best_L24 c0_s v1_L24) n24) = some res → va_P G vwCl [o6 A0 e0_j81 A0_s A0_draft A0_kept A0_isKept A0_undone A0_seenI A0_seenJ A0_seenTime A0_text A0_kind A0_place A0_value A0_swallows A0_time A0_strength A0_which A0_told, (A0_s, .inl (cI, 27, .inl c0_s)), (A0_swallows, .inl (cI, 4, .inl e0_swallows_j81)), (A0_time, .inl (cI, 25, .inl e0_time_j81)), (A0_strength, .inl (cI, 25, .inl e0_strength_j81)), (A0_which, .inl (cI, 25, .inl e0_which_j81))] H → va_D A [o6 A0 e0_j81 A0_s A0_draft A0_kept A0_isKept A0_undone A0_seenI A0_seenJ A0_seenTime A0_text A0_kind A0_place A0_value A0_swallows A0_time A0_strength A0_which A0_told, (A0_s, .inl (cI, 27, .inl c0_s)), (A0_swallows, .inl (cI, 4, .inl e0_swallows_j81)), (A0_time, .inl (cI, 25, .inl e0_time_j81)), (A0_strength, .inl (cI, 25, .inl e0_strength_j81)), (A0_which, .inl (cI, 25, .inl e0_which_j81))] → va_S A s.heap H locs → lv_has ls 12 [(0, .ref A0), (1, .int v1_L24), (2, .int v2_j81), (3, .long v3_j81), (5, .long v5_j81), (7, .int v7_j81), (10, .long v10_j81)] → WRW p l e wsX6_best rX6_best s m ([.ref A0, .int x1] : List Value).toArray below meth c H locs (Qiw res.1 G A [o6 A0 res.2.1 A0_s A0_draft A0_kept A0_isKept A0_undone A0_seenI A0_seenJ A0_seenTime A0_text A0_kind A0_place A0_value A0_swallows A0_time A0_strength A0_which A0_told, (A0_s, .inl (cI, 27, .inl c0_s)), (A0_swallows, .inl (cI, 4, .inl res.2.2.1)), (A0_time, .inl (cI, 25, .inl res.2.2.2.1)), (A0_strength, .inl (cI, 25, .inl res.2.2.2.2.1)), (A0_which, .inl (cI, 25, .inl res.2.2.2.2.2))]) A (F0 m 81 ls [.long z0_j81]) := by
          intro v2_j81 v3_j81 v5_j81 v7_j81 v10_j81 z0_j81 e0_j81 e0_swallows_j81 e0_time_j81 e0_strength_j81 e0_which_j81 H locs ls hres hP hD hS hl
          refine lv_lstore (lv' := [(8, .long z0_j81), (0, .ref A0), (1, .int v1_L24), (2, .int v2_j81), (3, .long v3_j81), (5, .long v5_j81), (7, .int v7_j81), (10, .long v10_j81)]) hx hb dX6_best_81 hl (by decide) rfl (fun ls hl => ?_)
          refine lv_iload_n hx hb dX6_best_83 rfl (lv_at hl 3 rfl) ?_
          refine lv_bipush (v := (-9)) hx hb dX6_best_84 (by decide) ?_
          refine lv_icmp_eq (tgt := 102) hx hb dX6_best_86 (by decide) (fun h3 => ?_) (fun h3 => ?_)
          · have hres := ite_t hres h3
            refine lv_iload hx hb dX6_best_102 (lv_at hl 6 rfl) ?_
            refine lv_istore_n (lv' := [(2, .int v7_j81), (8, .long z0_j81), (0, .ref A0), (1, .int v1_L24), (3, .long v3_j81), (5, .long v5_j81), (7, .int v7_j81), (10, .long v10_j81)]) hx hb dX6_best_104 rfl hl (by decide) rfl (fun ls hl => ?_)
            refine lv_lload hx hb dX6_best_105 (lv_at hl 7 rfl) ?_
            refine lv_lstore_n (lv' := [(3, .long v10_j81), (2, .int v7_j81), (8, .long z0_j81), (0, .ref A0), (1, .int v1_L24), (5, .long v5_j81), (7, .int v7_j81), (10, .long v10_j81)]) hx hb dX6_best_107 rfl hl (by decide) rfl (fun ls hl => ?_)
            refine lv_lload hx hb dX6_best_108 (lv_at hl 2 rfl) ?_
            refine lv_lstore (lv' := [(5, .long z0_j81), (3, .long v10_j81), (2, .int v7_j81), (8, .long z0_j81), (0, .ref A0), (1, .int v1_L24), (7, .int v7_j81), (10, .long v10_j81)]) hx hb dX6_best_110 hl (by decide) rfl (fun ls hl => ?_)
            refine lv_iinc (v := (v7_j81 + 1)) (lv' := [(7, .int (v7_j81 + 1)), (5, .long z0_j81), (3, .long v10_j81), (2, .int v7_j81), (8, .long z0_j81), (0, .ref A0), (1, .int v1_L24), (10, .long v10_j81)]) hx hb dX6_best_112 hl (k := 6) rfl rfl (by decide) rfl (fun ls hl => ?_)
            refine lv_goto (tgt := 24) hx hb dX6_best_115 (by decide) ?_
            exact ih24 v7_j81 v10_j81 z0_j81 (v7_j81 + 1) e0_j81 e0_swallows_j81 e0_time_j81 e0_strength_j81 e0_which_j81 _ _ _ hres hP hD hS (lv_sub hl [5, 6, 3, 2, 1, 0] rfl)
          · have hres := ite_f hres h3
            refine lv_lload hx hb dX6_best_89 (lv_at hl 7 rfl) ?_
            refine lv_lload hx hb dX6_best_91 (lv_at hl 5 rfl) ?_
            refine lv_lmul hx hb dX6_best_93 ?_
            refine lv_lload_n hx hb dX6_best_94 rfl (lv_at hl 4 rfl) ?_
            refine lv_lload hx hb dX6_best_95 (lv_at hl 0 rfl) ?_
            refine lv_lmul hx hb dX6_best_97 ?_
            refine W.lcmp hx hb dX6_best_98 ?_
            refine lv_if_le (tgt := 112) hx hb dX6_best_99 (by decide) (fun h4 => ?_) (fun h4 => ?_)
            · have hres := ite_t hres h4
              refine lv_iinc (v := (v7_j81 + 1)) (lv' := [(7, .int (v7_j81 + 1)), (8, .long z0_j81), (0, .ref A0), (1, .int v1_L24), (2, .int v2_j81), (3, .long v3_j81), (5, .long v5_j81), (10, .long v10_j81)]) hx hb dX6_best_112 hl (k := 6) rfl rfl (by decide) rfl (fun ls hl => ?_)
              refine lv_goto (tgt := 24) hx hb dX6_best_115 (by decide) ?_
              exact ih24 v2_j81 v3_j81 v5_j81 (v7_j81 + 1) e0_j81 e0_swallows_j81 e0_time_j81 e0_strength_j81 e0_which_j81 _ _ _ hres hP hD hS (lv_sub hl [2, 3, 4, 5, 6, 0] rfl)
            · have hres := ite_f hres h4
              refine lv_iload hx hb dX6_best_102 (lv_at hl 6 rfl) ?_
              refine lv_istore_n (lv' := [(2, .int v7_j81), (8, .long z0_j81), (0, .ref A0), (1, .int v1_L24), (3, .long v3_j81), (5, .long v5_j81), (7, .int v7_j81), (10, .long v10_j81)]) hx hb dX6_best_104 rfl hl (by decide) rfl (fun ls hl => ?_)
              refine lv_lload hx hb dX6_best_105 (lv_at hl 7 rfl) ?_
              refine lv_lstore_n (lv' := [(3, .long v10_j81), (2, .int v7_j81), (8, .long z0_j81), (0, .ref A0), (1, .int v1_L24), (5, .long v5_j81), (7, .int v7_j81), (10, .long v10_j81)]) hx hb dX6_best_107 rfl hl (by decide) rfl (fun ls hl => ?_)
              refine lv_lload hx hb dX6_best_108 (lv_at hl 2 rfl) ?_
              refine lv_lstore (lv' := [(5, .long z0_j81), (3, .long v10_j81), (2, .int v7_j81), (8, .long z0_j81), (0, .ref A0), (1, .int v1_L24), (7, .int v7_j81), (10, .long v10_j81)]) hx hb dX6_best_110 hl (by decide) rfl (fun ls hl => ?_)
              refine lv_iinc (v := (v7_j81 + 1)) (lv' := [(7, .int (v7_j81 + 1)), (5, .long z0_j81), (3, .long v10_j81), (2, .int v7_j81), (8, .long z0_j81), (0, .ref A0), (1, .int v1_L24), (10, .long v10_j81)]) hx hb dX6_best_112 hl (k := 6) rfl rfl (by decide) rfl (fun ls hl => ?_)
              refine lv_goto (tgt := 24) hx hb dX6_best_115 (by decide) ?_
              exact ih24 v7_j81 v10_j81 z0_j81 (v7_j81 + 1) e0_j81 e0_swallows_j81 e0_time_j81 e0_strength_j81 e0_which_j81 _ _ _ hres hP hD hS (lv_sub hl [5, 6, 3, 2, 1, 0] rfl)
        refine lv_iload hx hb dX6_best_24 (lv_at hl 5 rfl) ?_
        refine lv_aload_n hx hb dX6_best_26 rfl (lv_at hl 0 rfl) ?_
        refine va_get (D := G) (ci := 6) (v := .ref A0_s) (C := RX6) (T := TX6) (N := 22) hx hb hts (fun w h => (List.mem_cons_of_mem _ (List.mem_append_right _ h))) hown hK.1 hP 0 rfl rfl 0 (by decide) (hts (.fieldLink RX6 7 "EchoSeatsModel" "s" "[I") (List.mem_of_getElem? (i := 1) rfl)) (fun _ h9 => h9) rfl dX6_best_27 ?_
        refine lv_bipush (v := 8) hx hb dX6_best_30 (by decide) ?_
        refine x_iald hx hb hK hP 1 rfl (j := 8) (by decide) (by decide) dX6_best_32 ?_
        refine lv_icmp_ge (tgt := 118) hx hb dX6_best_33 (by decide) (fun h5 => ?_) (fun h5 => ?_)
        · have hres := ite_t hres h5
          refine lv_iload_n hx hb dX6_best_118 rfl (lv_at hl 2 rfl) ?_
          obtain rfl := Option.some.inj hres
          exact W.iret hx hb hr (fun t ht hW => ⟨⟨_, (), rfl, rfl, by rw [ht]; exact hP, hD⟩, hS.F ht⟩) hS.2.2 dX6_best_119
        · have hres := ite_f hres h5
          refine lv_aload_n hx hb dX6_best_36 rfl (lv_at hl 0 rfl) ?_
          refine lv_iload hx hb dX6_best_37 (lv_at hl 5 rfl) ?_
          obtain ⟨r6, hr6, hres⟩ := bi_1 hres
          refine x_cv (wr := []) (w2 := [o6 A0 r6.1 A0_s A0_draft A0_kept A0_isKept A0_undone A0_seenI A0_seenJ A0_seenTime A0_text A0_kind A0_place A0_value A0_swallows A0_time A0_strength A0_which A0_told, (A0_s, .inl (cI, 27, .inl c0_s)), (A0_swallows, .inl (cI, 4, .inl r6.2.1)), (A0_time, .inl (cI, 25, .inl r6.2.2.1)), (A0_strength, .inl (cI, 25, .inl r6.2.2.2.1)), (A0_which, .inl (cI, 25, .inl r6.2.2.2.2))]) hP hD hS hA (va_runV (As := [.int v7_L24]) (rest := []) ⟨hx, hb, hml, hown, hts⟩ (kX6_hearsNow l G cI cZ tl H.size _ A0 A0_s A0_draft A0_kept A0_isKept A0_undone A0_seenI A0_seenJ A0_seenTime A0_text A0_kind A0_place A0_value A0_swallows A0_time A0_strength A0_which A0_told e0_L24 c0_s e0_swallows_L24 e0_time_L24 e0_strength_L24 e0_which_L24 v7_L24 r6 rfl hr6) (cwV 1 hts gX6_best_X6_hearsNow rfl rfl rfl hsX6_hearsNow ⟨Nat.le_of_ble_eq_true rfl, Nat.le_of_ble_eq_true rfl⟩) ⟨PRW_blind, va_recv hK.1 hP (ci := 6) (q0 := 0) rfl rfl, PRW_at (hP.sub (ws' := [o6 A0 e0_L24 A0_s A0_draft A0_kept A0_isKept A0_undone A0_seenI A0_seenJ A0_seenTime A0_text A0_kind A0_place A0_value A0_swallows A0_time A0_strength A0_which A0_told, (A0_s, .inl (cI, 27, .inl c0_s)), (A0_swallows, .inl (cI, 4, .inl e0_swallows_L24)), (A0_time, .inl (cI, 25, .inl e0_time_L24)), (A0_strength, .inl (cI, 25, .inl e0_strength_L24)), (A0_which, .inl (cI, 25, .inl e0_which_L24))]) [0, 1, 2, 3, 4, 5] rfl) (hD.sub (ws' := [o6 A0 e0_L24 A0_s A0_draft A0_kept A0_isKept A0_undone A0_seenI A0_seenJ A0_seenTime A0_text A0_kind A0_place A0_value A0_swallows A0_time A0_strength A0_which A0_told, (A0_s, .inl (cI, 27, .inl c0_s)), (A0_swallows, .inl (cI, 4, .inl e0_swallows_L24)), (A0_time, .inl (cI, 25, .inl e0_time_L24)), (A0_strength, .inl (cI, 25, .inl e0_strength_L24)), (A0_which, .inl (cI, 25, .inl e0_which_L24))]) [0, 1, 2, 3, 4, 5] (by decide) rfl) hK⟩ rfl rfl hl.1 rfl (lv_room (Nat.le_of_ble_eq_true rfl)) dX6_best_39 ⟨Nat.zero_le _, Nat.zero_le _⟩) [0, 1, 2, 3, 4, 5] [] [0, 1, 2, 3, 4, 5] rfl rfl (by decide) (by decide) rfl rfl (by decide) (fun H locs hP hD hS => ?_)
          refine lv_aload_n hx hb dX6_best_42 rfl (lv_at hl 0 rfl) ?_
          obtain ⟨r7, hr7, hres⟩ := bi_1 hres
          refine x_cp (va_runV (As := []) (rest := []) ⟨hx, hb, hml, hown, hts⟩ (kX6_soundAll l G cI cZ tl A0 A0_s A0_draft A0_kept A0_isKept A0_undone A0_seenI A0_seenJ A0_seenTime A0_text A0_kind A0_place A0_value A0_swallows A0_time A0_strength A0_which A0_told r6.1 r6.2.2.1 r6.2.2.2.1 r7 hr7) (cwV 0 hts gX6_best_X6_soundAll rfl rfl rfl hsX6_soundAll ⟨Nat.le_of_ble_eq_true rfl, Nat.le_of_ble_eq_true rfl⟩) ⟨PRO_blind, va_recv hK.1 hP (ci := 6) (q0 := 0) rfl rfl, PRO_at (hP.sub (ws' := [o6 A0 r6.1 A0_s A0_draft A0_kept A0_isKept A0_undone A0_seenI A0_seenJ A0_seenTime A0_text A0_kind A0_place A0_value A0_swallows A0_time A0_strength A0_which A0_told, (A0_time, .inl (cI, 25, .inl r6.2.2.1)), (A0_strength, .inl (cI, 25, .inl r6.2.2.2.1))]) [0, 3, 4] rfl) hK⟩ rfl rfl hl.1 rfl (lv_room (Nat.le_of_ble_eq_true rfl)) dX6_best_43 ⟨Nat.zero_le _, Nat.zero_le _⟩) ?_
          refine lv_i2l (v := (Int32.toInt64 r7)) hx hb dX6_best_46 rfl ?_
          refine lv_topl (fun y8 ey8 => ?_)
          have hres := bnd_z ey8 hres
          refine lv_lstore (lv' := [(8, .long y8), (0, .ref A0), (1, .int v1_L24), (2, .int v2_L24), (3, .long v3_L24), (5, .long v5_L24), (7, .int v7_L24)]) hx hb dX6_best_47 hl (by decide) rfl (fun ls hl => ?_)
          refine lv_lload hx hb dX6_best_49 (lv_at hl 0 rfl) ?_
          refine lv_lconst (v := 0) hx hb dX6_best_51 rfl ?_
          refine W.lcmp hx hb dX6_best_52 ?_
          refine lv_if_ne (tgt := 60) hx hb dX6_best_53 (by decide) (fun h9 => ?_) (fun h9 => ?_)
          · have hres := ite_f hres h9
            refine lv_aload_n hx hb dX6_best_60 rfl (lv_at hl 1 rfl) ?_
            refine lv_iload_n hx hb dX6_best_61 rfl (lv_at hl 2 rfl) ?_
            obtain ⟨r10, hr10, hres⟩ := bi_1 hres
            refine x_cp (va_runV (As := [.int v1_L24]) (rest := []) ⟨hx, hb, hml, hown, hts⟩ (kX6_soundBy l G cI cZ tl A0 A0_s A0_draft A0_kept A0_isKept A0_undone A0_seenI A0_seenJ A0_seenTime A0_text A0_kind A0_place A0_value A0_swallows A0_time A0_strength A0_which A0_told r6.1 r6.2.2.1 r6.2.2.2.1 v1_L24 r10 hr10) (cwV 1 hts gX6_best_X6_soundBy rfl rfl rfl hsX6_soundBy ⟨Nat.le_of_ble_eq_true rfl, Nat.le_of_ble_eq_true rfl⟩) ⟨PRO_blind, va_recv hK.1 hP (ci := 6) (q0 := 0) rfl rfl, PRO_at (hP.sub (ws' := [o6 A0 r6.1 A0_s A0_draft A0_kept A0_isKept A0_undone A0_seenI A0_seenJ A0_seenTime A0_text A0_kind A0_place A0_value A0_swallows A0_time A0_strength A0_which A0_told, (A0_time, .inl (cI, 25, .inl r6.2.2.1)), (A0_strength, .inl (cI, 25, .inl r6.2.2.2.1))]) [0, 3, 4] rfl) hK⟩ rfl rfl hl.1 rfl (lv_room (Nat.le_of_ble_eq_true rfl)) dX6_best_62 ⟨Nat.zero_le _, Nat.zero_le _⟩) ?_
            refine lv_i2l (v := (Int32.toInt64 r10)) hx hb dX6_best_65 rfl ?_
            refine lv_topl (fun y11 ey11 => ?_)
            have hres := bnd_z ey11 hres
            refine lv_lstore (lv' := [(10, .long y11), (8, .long y8), (0, .ref A0), (1, .int v1_L24), (2, .int v2_L24), (3, .long v3_L24), (5, .long v5_L24), (7, .int v7_L24)]) hx hb dX6_best_66 hl (by decide) rfl (fun ls hl => ?_)
            refine lv_lload hx hb dX6_best_68 (lv_at hl 1 rfl) ?_
            refine lv_lconst (v := 0) hx hb dX6_best_70 rfl ?_
            refine W.lcmp hx hb dX6_best_71 ?_
            refine lv_if_ne (tgt := 79) hx hb dX6_best_72 (by decide) (fun h12 => ?_) (fun h12 => ?_)
            · have hres := ite_f hres h12
              refine lv_lload hx hb dX6_best_79 (lv_at hl 1 rfl) ?_
              exact J81 v2_L24 v3_L24 v5_L24 v7_L24 y11 y8 r6.1 r6.2.1 r6.2.2.1 r6.2.2.2.1 r6.2.2.2.2 _ _ _ hres hP hD hS (lv_sub hl [2, 3, 4, 5, 6, 7, 0] rfl)
            · have hres := ite_t hres h12
              refine lv_lconst (v := 1) hx hb dX6_best_75 rfl ?_
              refine lv_goto (tgt := 81) hx hb dX6_best_76 (by decide) ?_
              exact J81 v2_L24 v3_L24 v5_L24 v7_L24 y11 1 r6.1 r6.2.1 r6.2.2.1 r6.2.2.2.1 r6.2.2.2.2 _ _ _ hres hP hD hS (lv_sub hl [2, 3, 4, 5, 6, 7, 0] rfl)
          · have hres := ite_t hres h9
            refine lv_lconst (v := 0) hx hb dX6_best_56 rfl ?_
            refine lv_goto (tgt := 66) hx hb dX6_best_57 (by decide) ?_
            refine lv_lstore (lv' := [(10, .long 0), (8, .long y8), (0, .ref A0), (1, .int v1_L24), (2, .int v2_L24), (3, .long v3_L24), (5, .long v5_L24), (7, .int v7_L24)]) hx hb dX6_best_66 hl (by decide) rfl (fun ls hl => ?_)
            refine lv_lload hx hb dX6_best_68 (lv_at hl 1 rfl) ?_
            refine lv_lconst (v := 0) hx hb dX6_best_70 rfl ?_
            refine W.lcmp hx hb dX6_best_71 ?_
            refine lv_if_ne (tgt := 79) hx hb dX6_best_72 (by decide) (fun h13 => ?_) (fun h13 => ?_)
            · have hres := ite_f hres h13
              refine lv_lload hx hb dX6_best_79 (lv_at hl 1 rfl) ?_
              exact J81 v2_L24 v3_L24 v5_L24 v7_L24 0 y8 r6.1 r6.2.1 r6.2.2.1 r6.2.2.2.1 r6.2.2.2.2 _ _ _ hres hP hD hS (lv_sub hl [2, 3, 4, 5, 6, 7, 0] rfl)
            · have hres := ite_t hres h13
              refine lv_lconst (v := 1) hx hb dX6_best_75 rfl ?_
              refine lv_goto (tgt := 81) hx hb dX6_best_76 (by decide) ?_
              exact J81 v2_L24 v3_L24 v5_L24 v7_L24 0 1 r6.1 r6.2.1 r6.2.2.1 r6.2.2.2.1 r6.2.2.2.2 _ _ _ hres hP hD hS (lv_sub hl [2, 3, 4, 5, 6, 7, 0] rfl)
    exact Q24 x1 FU (-9) 0 1 0 c0 c0_swallows c0_time c0_strength c0_which _ _ _ hres hP hD hS (lv_sub hl [4, 5, 3, 2, 1, 0] rfl)
  · have hres := ite_t hres h2
    refine lv_iconst (v := (-1)) hx hb dX6_best_11 (by decide) ?_
    obtain rfl := Option.some.inj hres
    exact W.iret hx hb hr (fun t ht hW => ⟨⟨_, (), rfl, rfl, by rw [ht]; exact hP, hD⟩, hS.F ht⟩) hS.2.2 dX6_best_12
theorem hsX6_best : yX6_best.cls = RX6 ∧ yX6_best.cls ≠ "java/lang/invoke/MethodHandle" ∧ yX6_best.cls ≠ "java/lang/invoke/VarHandle" ∧ (parseMethodDescriptor yX6_best.desc).map (fun d => d.parameters.length) = some 1 := by decide +kernel
set_option maxHeartbeats 4000000 in
set_option maxRecDepth 100000 in
theorem kX6_clear (l : Launch) (G : va_G) (cI cZ : ClassId) (tl : List (ClassId × FieldType)) (sz : Nat) (A : Nat → Prop) (A0 A0_s A0_draft A0_kept A0_isKept A0_undone A0_seenI A0_seenJ A0_seenTime A0_text A0_kind A0_place A0_value A0_swallows A0_time A0_strength A0_which A0_told : Nat) (c0 : Nat → Int32) (res : Int32 × (Nat → Int32)) (hAe : A = va_A [o6 A0 c0 A0_s A0_draft A0_kept A0_isKept A0_undone A0_seenI A0_seenJ A0_seenTime A0_text A0_kind A0_place A0_value A0_swallows A0_time A0_strength A0_which A0_told] sz) (hres : fX6_clear c0 = some res) : Met l yX6_clear wsX6_clear rX6_clear (va_Pc [.ref A0] (PRW G cI cZ tl [o6 A0 c0 A0_s A0_draft A0_kept A0_isKept A0_undone A0_seenI A0_seenJ A0_seenTime A0_text A0_kind A0_place A0_value A0_swallows A0_time A0_strength A0_which A0_told] sz)) (Qiw res.1 G A [o6 A0 res.2 A0_s A0_draft A0_kept A0_isKept A0_undone A0_seenI A0_seenJ A0_seenTime A0_text A0_kind A0_place A0_value A0_swallows A0_time A0_strength A0_which A0_told]) 0 0 A := by
  refine Met.ofW (cc := cX6_clear) (maxL := 2) (ret := (some .int)) (by decide) rfl ?_
  intro p e s m args below meth c s₁ B hml hv
  obtain ⟨rfl, hsz, hP, hK, hD0⟩ := hv
  have hx := B.exec
  have hb := B.bytes
  have hr := B.returns
  have hts := atoms_spec (ws := wsX6_clear) B.pre
  have hown : s.vm.findClass RX6 = some m.cls := findClass_of_methodNamed B.named
  have hlocks := B.notSynchronized
  subst hsz
  have hD : va_D A [o6 A0 c0 A0_s A0_draft A0_kept A0_isKept A0_undone A0_seenI A0_seenJ A0_seenTime A0_text A0_kind A0_place A0_value A0_swallows A0_time A0_strength A0_which A0_told] := by rw [hAe]; exact hD0.self
  have hA : ∀ q : Nat, s.heap.size ≤ q → A q := fun q h => by rw [hAe]; exact Or.inr h
  clear hAe hD0
  have hS : va_S A s.heap s.heap [] := va_S.rf
  have hl := lv_entry ([.ref A0] : List Value) (n := 2) (Nat.le_of_ble_eq_true rfl)
  rw [lg_entry_eq]
  generalize (lg_sl ([.ref A0] : List Value) ++ List.replicate (2 - (lg_sl ([.ref A0] : List Value)).length) Slot.unset).toArray = ls at hl ⊢
  have hl : lv_has ls 2 [(0, .ref A0)] := hl
  refine lv_aload_n hx hb dX6_clear_0 rfl (lv_at hl 0 rfl) ?_
  refine va_get (D := G) (ci := 6) (v := .int (c0 11)) (C := RX6) (T := TX6) (N := 22) hx hb hts (fun w h => (List.mem_cons_of_mem _ (List.mem_append_right _ h))) hown hK.1 hP 0 rfl rfl 11 (by decide) (hts (.fieldLink RX6 83 "EchoSeatsModel" "typed" "I") (List.mem_of_getElem? (i := 1) rfl)) (fun _ h9 => h9) rfl dX6_clear_1 ?_
  refine lv_topi (fun y1 ey1 => ?_)
  have hres := bnd_z ey1 hres
  refine lv_istore_n (lv' := [(1, .int y1), (0, .ref A0)]) hx hb dX6_clear_4 rfl hl (by decide) rfl (fun ls hl => ?_)
  refine lv_aload_n hx hb dX6_clear_5 rfl (lv_at hl 1 rfl) ?_
  refine lv_iconst (v := 0) hx hb dX6_clear_6 (by decide) ?_
  refine va_put (D := G) (ci := 6) (v := .int 0) (ty := .int) (C := RX6) (T := TX6) (N := 22) hx hb hts (fun w h => (List.mem_cons_of_mem _ (List.mem_append_right _ h))) tyX6 tyX6_ok nmX6 hown hK.1 hP hD hS 0 rfl rfl 11 (by decide) (hts (.fieldLink RX6 83 "EchoSeatsModel" "typed" "I") (List.mem_of_getElem? (i := 1) rfl)) (fun _ h9 => h9) rfl (tyX6_ok 11 (by decide)) rfl rfl (Nat.le_of_ble_eq_true rfl) dX6_clear_7 (fun H locs hP hD hS => ?_)
  have hP : va_P G vwCl [o6 A0 (upd c0 11 0) A0_s A0_draft A0_kept A0_isKept A0_undone A0_seenI A0_seenJ A0_seenTime A0_text A0_kind A0_place A0_value A0_swallows A0_time A0_strength A0_which A0_told] H := hP
  have hD : va_D A [o6 A0 (upd c0 11 0) A0_s A0_draft A0_kept A0_isKept A0_undone A0_seenI A0_seenJ A0_seenTime A0_text A0_kind A0_place A0_value A0_swallows A0_time A0_strength A0_which A0_told] := hD
  refine lv_iload_n hx hb dX6_clear_10 rfl (lv_at hl 0 rfl) ?_
  obtain rfl := Option.some.inj hres
  exact W.iret hx hb hr (fun t ht hW => ⟨⟨_, (), rfl, rfl, by rw [ht]; exact hP, hD⟩, hS.F ht⟩) hS.2.2 dX6_clear_11
theorem hsX6_clear : yX6_clear.cls = RX6 ∧ yX6_clear.cls ≠ "java/lang/invoke/MethodHandle" ∧ yX6_clear.cls ≠ "java/lang/invoke/VarHandle" ∧ (parseMethodDescriptor yX6_clear.desc).map (fun d => d.parameters.length) = some 0 := by decide +kernel
set_option maxHeartbeats 4000000 in
set_option maxRecDepth 100000 in
theorem kX6_common (l : Launch) (G : va_G) (cI cZ : ClassId) (tl : List (ClassId × FieldType)) (x0 x1 : Int32) (res : Int32) (hres : fX6_common x0 x1 = some res) : Met l yX6_common wsX6_common rX6_common (va_Pc [.int x0, .int x1] (PRO G cI cZ tl [])) (Sp res) 0 0 (fun _ => False) := by
  refine Met.ofW (cc := cX6_common) (maxL := 5) (ret := (some .int)) (by decide) rfl ?_
  intro p e s m args below meth c s₁ B hml hv
  obtain ⟨rfl, hP, hK⟩ := hv
  have hx := B.exec
  have hb := B.bytes
  have hr := B.returns
  have hts := atoms_spec (ws := wsX6_common) B.pre
  have hown : s.vm.findClass RX6 = some m.cls := findClass_of_methodNamed B.named
  have hlocks := B.notSynchronized
  have hl := lv_entry ([.int x0, .int x1] : List Value) (n := 5) (Nat.le_of_ble_eq_true rfl)
  rw [lg_entry_eq]
  generalize (lg_sl ([.int x0, .int x1] : List Value) ++ List.replicate (5 - (lg_sl ([.int x0, .int x1] : List Value)).length) Slot.unset).toArray = ls at hl ⊢
  have hl : lv_has ls 5 [(0, .int x0), (1, .int x1)] := hl
  refine lv_iload_n hx hb dX6_common_0 rfl (lv_at hl 0 rfl) ?_
  refine lv_istore_n (lv' := [(2, .int x0), (0, .int x0), (1, .int x1)]) hx hb dX6_common_1 rfl hl (by decide) rfl (fun ls hl => ?_)
  refine lv_iload_n hx hb dX6_common_2 rfl (lv_at hl 2 rfl) ?_
  refine lv_istore_n (lv' := [(3, .int x1), (2, .int x0), (0, .int x0), (1, .int x1)]) hx hb dX6_common_3 rfl hl (by decide) rfl (fun ls hl => ?_)
  have Q4 : ∀ (n4 : Nat) (v2_L4 : Int32) (v3_L4 : Int32) (ls : Array Slot), LPX (fX6_common_L4) n4 (v2_L4, v3_L4) = some res → lv_has ls 5 [(2, .int v2_L4), (3, .int v3_L4)] → WRO p l e wsX6_common rX6_common s m ([.int x0, .int x1] : List Value).toArray below meth c res (F0 m 4 ls []) := by
    intro n4
    induction n4 with
    | zero =>
      intro v2_L4 v3_L4 ls hres
      exact absurd (LPX_0.symm.trans hres) (fun h => by cases h)
    | succ n4 ih4 =>
      intro v2_L4 v3_L4 ls hres hl
      have hres := LPX_s.symm.trans hres
      refine lv_iload_n hx hb dX6_common_4 rfl (lv_at hl 1 rfl) ?_
      refine lv_if_eq (tgt := 21) hx hb dX6_common_5 (by decide) (fun h1 => ?_) (fun h1 => ?_)
      · have hres := ite_t hres h1
        refine lv_iload_n hx hb dX6_common_21 rfl (lv_at hl 0 rfl) ?_
        obtain rfl := Option.some.inj hres
        exact W.iret hx hb hr (fun t ht hW => ⟨rfl, ht⟩) (fun q h => absurd h List.not_mem_nil) dX6_common_22
      · have hres := ite_f hres h1
        refine lv_iload_n hx hb dX6_common_8 rfl (lv_at hl 0 rfl) ?_
        refine lv_iload_n hx hb dX6_common_9 rfl (lv_at hl 1 rfl) ?_
        have g2 := gd_1 hres
        have hres := gd_2 hres
        refine lv_irem hx hb dX6_common_10 g2 ?_
        refine lv_topi (fun y3 ey3 => ?_)
        have hres := bnd_z ey3 hres
        refine lv_istore (lv' := [(4, .int y3), (2, .int v2_L4), (3, .int v3_L4)]) hx hb dX6_common_11 hl (by decide) rfl (fun ls hl => ?_)
        refine lv_iload_n hx hb dX6_common_13 rfl (lv_at hl 2 rfl) ?_
        refine lv_istore_n (lv' := [(2, .int v3_L4), (4, .int y3), (3, .int v3_L4)]) hx hb dX6_common_14 rfl hl (by decide) rfl (fun ls hl => ?_)
        refine lv_iload hx hb dX6_common_15 (lv_at hl 1 rfl) ?_
        refine lv_istore_n (lv' := [(3, .int y3), (2, .int v3_L4), (4, .int y3)]) hx hb dX6_common_17 rfl hl (by decide) rfl (fun ls hl => ?_)
        refine lv_goto (tgt := 4) hx hb dX6_common_18 (by decide) ?_
        exact ih4 v3_L4 y3 _ hres (lv_sub hl [1, 0] rfl)
  exact Q4 FU x0 x1 _ hres (lv_sub hl [1, 0] rfl)
theorem hsX6_common : yX6_common.cls ≠ "java/lang/invoke/MethodHandle" ∧ yX6_common.cls ≠ "java/lang/invoke/VarHandle" ∧ (parseMethodDescriptor yX6_common.desc).map (fun d => d.parameters.length) = some 2 := by decide +kernel
set_option maxHeartbeats 4000000 in
set_option maxRecDepth 100000 in
theorem kX6_count (l : Launch) (G : va_G) (cI cZ : ClassId) (tl : List (ClassId × FieldType)) (A0 A0_s A0_draft A0_kept A0_isKept A0_undone A0_seenI A0_seenJ A0_seenTime A0_text A0_kind A0_place A0_value A0_swallows A0_time A0_strength A0_which A0_told : Nat) (c0 c0_s : Nat → Int32) (x1 : Int32) (res : Int32) (hres : fX6_count c0 c0_s x1 = some res) : Met l yX6_count wsX6_count rX6_count (va_Pc [.ref A0, .int x1] (PRO G cI cZ tl [o6 A0 c0 A0_s A0_draft A0_kept A0_isKept A0_undone A0_seenI A0_seenJ A0_seenTime A0_text A0_kind A0_place A0_value A0_swallows A0_time A0_strength A0_which A0_told, (A0_s, .inl (cI, 27, .inl c0_s))])) (Sp res) 0 0 (fun _ => False) := by
  refine Met.ofW (cc := cX6_count) (maxL := 2) (ret := (some .int)) (by decide) rfl ?_
  intro p e s m args below meth c s₁ B hml hv
  obtain ⟨rfl, hP, hK⟩ := hv
  have hx := B.exec
  have hb := B.bytes
  have hr := B.returns
  have hts := atoms_spec (ws := wsX6_count) B.pre
  have hown : s.vm.findClass RX6 = some m.cls := findClass_of_methodNamed B.named
  have hlocks := B.notSynchronized
  have hl := lv_entry ([.ref A0, .int x1] : List Value) (n := 2) (Nat.le_of_ble_eq_true rfl)
  rw [lg_entry_eq]
  generalize (lg_sl ([.ref A0, .int x1] : List Value) ++ List.replicate (2 - (lg_sl ([.ref A0, .int x1] : List Value)).length) Slot.unset).toArray = ls at hl ⊢
  have hl : lv_has ls 2 [(0, .ref A0), (1, .int x1)] := hl
  refine lv_iload_n hx hb dX6_count_0 rfl (lv_at hl 1 rfl) ?_
  by_cases h1 : x1 = 0
  · have hres := ite_t hres h1
    refine lv_tableIn (off := 51) (tgt := 52) hx hb dX6_count_1 (by rw [h1]; decide) (by rw [h1]; decide) (by rw [h1]; rfl) (by decide) ?_
    refine lv_aload_n hx hb dX6_count_52 rfl (lv_at hl 0 rfl) ?_
    refine va_get (D := G) (ci := 6) (v := .ref A0_s) (C := RX6) (T := TX6) (N := 22) hx hb hts (fun w h => (List.mem_cons_of_mem _ (List.mem_append_right _ h))) hown hK.1 hP 0 rfl rfl 0 (by decide) (hts (.fieldLink RX6 7 "EchoSeatsModel" "s" "[I") (List.mem_of_getElem? (i := 1) rfl)) (fun _ h9 => h9) rfl dX6_count_53 ?_
    refine lv_iload_n hx hb dX6_count_56 rfl (lv_at hl 1 rfl) ?_
    have g2 := gd_1 hres
    have hres := gd_2 hres
    refine x_iald hx hb hK hP 1 rfl (j := (Int32.toNatClampNeg x1)) rfl g2 dX6_count_57 ?_
    obtain rfl := Option.some.inj hres
    exact W.iret hx hb hr (fun t ht hW => ⟨rfl, ht⟩) (fun q h => absurd h List.not_mem_nil) dX6_count_58
  have hres := ite_f hres h1
  by_cases h3 : x1 = 1
  · have hres := ite_t hres h3
    refine lv_tableIn (off := 51) (tgt := 52) hx hb dX6_count_1 (by rw [h3]; decide) (by rw [h3]; decide) (by rw [h3]; rfl) (by decide) ?_
    refine lv_aload_n hx hb dX6_count_52 rfl (lv_at hl 0 rfl) ?_
    refine va_get (D := G) (ci := 6) (v := .ref A0_s) (C := RX6) (T := TX6) (N := 22) hx hb hts (fun w h => (List.mem_cons_of_mem _ (List.mem_append_right _ h))) hown hK.1 hP 0 rfl rfl 0 (by decide) (hts (.fieldLink RX6 7 "EchoSeatsModel" "s" "[I") (List.mem_of_getElem? (i := 1) rfl)) (fun _ h9 => h9) rfl dX6_count_53 ?_
    refine lv_iload_n hx hb dX6_count_56 rfl (lv_at hl 1 rfl) ?_
    have g4 := gd_1 hres
    have hres := gd_2 hres
    refine x_iald hx hb hK hP 1 rfl (j := (Int32.toNatClampNeg x1)) rfl g4 dX6_count_57 ?_
    obtain rfl := Option.some.inj hres
    exact W.iret hx hb hr (fun t ht hW => ⟨rfl, ht⟩) (fun q h => absurd h List.not_mem_nil) dX6_count_58
  have hres := ite_f hres h3
  by_cases h5 : x1 = 2
  · have hres := ite_t hres h5
    refine lv_tableIn (off := 51) (tgt := 52) hx hb dX6_count_1 (by rw [h5]; decide) (by rw [h5]; decide) (by rw [h5]; rfl) (by decide) ?_
    refine lv_aload_n hx hb dX6_count_52 rfl (lv_at hl 0 rfl) ?_
    refine va_get (D := G) (ci := 6) (v := .ref A0_s) (C := RX6) (T := TX6) (N := 22) hx hb hts (fun w h => (List.mem_cons_of_mem _ (List.mem_append_right _ h))) hown hK.1 hP 0 rfl rfl 0 (by decide) (hts (.fieldLink RX6 7 "EchoSeatsModel" "s" "[I") (List.mem_of_getElem? (i := 1) rfl)) (fun _ h9 => h9) rfl dX6_count_53 ?_
    refine lv_iload_n hx hb dX6_count_56 rfl (lv_at hl 1 rfl) ?_
    have g6 := gd_1 hres
    have hres := gd_2 hres
    refine x_iald hx hb hK hP 1 rfl (j := (Int32.toNatClampNeg x1)) rfl g6 dX6_count_57 ?_
    obtain rfl := Option.some.inj hres
    exact W.iret hx hb hr (fun t ht hW => ⟨rfl, ht⟩) (fun q h => absurd h List.not_mem_nil) dX6_count_58
  have hres := ite_f hres h5
  by_cases h7 : x1 = 3
  · have hres := ite_t hres h7
    refine lv_tableIn (off := 51) (tgt := 52) hx hb dX6_count_1 (by rw [h7]; decide) (by rw [h7]; decide) (by rw [h7]; rfl) (by decide) ?_
    refine lv_aload_n hx hb dX6_count_52 rfl (lv_at hl 0 rfl) ?_
    refine va_get (D := G) (ci := 6) (v := .ref A0_s) (C := RX6) (T := TX6) (N := 22) hx hb hts (fun w h => (List.mem_cons_of_mem _ (List.mem_append_right _ h))) hown hK.1 hP 0 rfl rfl 0 (by decide) (hts (.fieldLink RX6 7 "EchoSeatsModel" "s" "[I") (List.mem_of_getElem? (i := 1) rfl)) (fun _ h9 => h9) rfl dX6_count_53 ?_
    refine lv_iload_n hx hb dX6_count_56 rfl (lv_at hl 1 rfl) ?_
    have g8 := gd_1 hres
    have hres := gd_2 hres
    refine x_iald hx hb hK hP 1 rfl (j := (Int32.toNatClampNeg x1)) rfl g8 dX6_count_57 ?_
    obtain rfl := Option.some.inj hres
    exact W.iret hx hb hr (fun t ht hW => ⟨rfl, ht⟩) (fun q h => absurd h List.not_mem_nil) dX6_count_58
  have hres := ite_f hres h7
  by_cases h9 : x1 = 4
  · have hres := ite_t hres h9
    refine lv_tableIn (off := 58) (tgt := 59) hx hb dX6_count_1 (by rw [h9]; decide) (by rw [h9]; decide) (by rw [h9]; rfl) (by decide) ?_
    refine lv_aload_n hx hb dX6_count_59 rfl (lv_at hl 0 rfl) ?_
    refine va_get (D := G) (ci := 6) (v := .ref A0_s) (C := RX6) (T := TX6) (N := 22) hx hb hts (fun w h => (List.mem_cons_of_mem _ (List.mem_append_right _ h))) hown hK.1 hP 0 rfl rfl 0 (by decide) (hts (.fieldLink RX6 7 "EchoSeatsModel" "s" "[I") (List.mem_of_getElem? (i := 1) rfl)) (fun _ h9 => h9) rfl dX6_count_60 ?_
    refine lv_bipush (v := 8) hx hb dX6_count_63 (by decide) ?_
    refine x_iald hx hb hK hP 1 rfl (j := 8) (by decide) (by decide) dX6_count_65 ?_
    obtain rfl := Option.some.inj hres
    exact W.iret hx hb hr (fun t ht hW => ⟨rfl, ht⟩) (fun q h => absurd h List.not_mem_nil) dX6_count_66
  have hres := ite_f hres h9
  by_cases h10 : x1 = 5
  · have hres := ite_t hres h10
    refine lv_tableIn (off := 66) (tgt := 67) hx hb dX6_count_1 (by rw [h10]; decide) (by rw [h10]; decide) (by rw [h10]; rfl) (by decide) ?_
    refine lv_aload_n hx hb dX6_count_67 rfl (lv_at hl 0 rfl) ?_
    refine va_get (D := G) (ci := 6) (v := .ref A0_s) (C := RX6) (T := TX6) (N := 22) hx hb hts (fun w h => (List.mem_cons_of_mem _ (List.mem_append_right _ h))) hown hK.1 hP 0 rfl rfl 0 (by decide) (hts (.fieldLink RX6 7 "EchoSeatsModel" "s" "[I") (List.mem_of_getElem? (i := 1) rfl)) (fun _ h9 => h9) rfl dX6_count_68 ?_
    refine lv_bipush (v := 17) hx hb dX6_count_71 (by decide) ?_
    refine x_iald hx hb hK hP 1 rfl (j := 17) (by decide) (by decide) dX6_count_73 ?_
    obtain rfl := Option.some.inj hres
    exact W.iret hx hb hr (fun t ht hW => ⟨rfl, ht⟩) (fun q h => absurd h List.not_mem_nil) dX6_count_74
  have hres := ite_f hres h10
  by_cases h11 : x1 = 6
  · have hres := ite_t hres h11
    refine lv_tableIn (off := 74) (tgt := 75) hx hb dX6_count_1 (by rw [h11]; decide) (by rw [h11]; decide) (by rw [h11]; rfl) (by decide) ?_
    refine lv_aload_n hx hb dX6_count_75 rfl (lv_at hl 0 rfl) ?_
    refine va_get (D := G) (ci := 6) (v := .int (c0 9)) (C := RX6) (T := TX6) (N := 22) hx hb hts (fun w h => (List.mem_cons_of_mem _ (List.mem_append_right _ h))) hown hK.1 hP 0 rfl rfl 9 (by decide) (hts (.fieldLink RX6 72 "EchoSeatsModel" "seen" "I") (List.mem_of_getElem? (i := 2) rfl)) (fun _ h9 => h9) rfl dX6_count_76 ?_
    obtain rfl := Option.some.inj hres
    exact W.iret hx hb hr (fun t ht hW => ⟨rfl, ht⟩) (fun q h => absurd h List.not_mem_nil) dX6_count_79
  have hres := ite_f hres h11
  by_cases h12 : x1 = 7
  · have hres := ite_t hres h12
    refine lv_tableIn (off := 79) (tgt := 80) hx hb dX6_count_1 (by rw [h12]; decide) (by rw [h12]; decide) (by rw [h12]; rfl) (by decide) ?_
    refine lv_aload_n hx hb dX6_count_80 rfl (lv_at hl 0 rfl) ?_
    refine va_get (D := G) (ci := 6) (v := .int (c0 11)) (C := RX6) (T := TX6) (N := 22) hx hb hts (fun w h => (List.mem_cons_of_mem _ (List.mem_append_right _ h))) hown hK.1 hP 0 rfl rfl 11 (by decide) (hts (.fieldLink RX6 83 "EchoSeatsModel" "typed" "I") (List.mem_of_getElem? (i := 3) rfl)) (fun _ h9 => h9) rfl dX6_count_81 ?_
    obtain rfl := Option.some.inj hres
    exact W.iret hx hb hr (fun t ht hW => ⟨rfl, ht⟩) (fun q h => absurd h List.not_mem_nil) dX6_count_84
  have hres := ite_f hres h12
  by_cases h13 : x1 = 8
  · have hres := ite_t hres h13
    refine lv_tableIn (off := 84) (tgt := 85) hx hb dX6_count_1 (by rw [h13]; decide) (by rw [h13]; decide) (by rw [h13]; rfl) (by decide) ?_
    refine lv_aload_n hx hb dX6_count_85 rfl (lv_at hl 0 rfl) ?_
    refine va_get (D := G) (ci := 6) (v := .int (c0 5)) (C := RX6) (T := TX6) (N := 22) hx hb hts (fun w h => (List.mem_cons_of_mem _ (List.mem_append_right _ h))) hown hK.1 hP 0 rfl rfl 5 (by decide) (hts (.fieldLink RX6 68 "EchoSeatsModel" "known" "I") (List.mem_of_getElem? (i := 4) rfl)) (fun _ h9 => h9) rfl dX6_count_86 ?_
    obtain rfl := Option.some.inj hres
    exact W.iret hx hb hr (fun t ht hW => ⟨rfl, ht⟩) (fun q h => absurd h List.not_mem_nil) dX6_count_89
  have hres := ite_f hres h13
  refine lv_tableOut (tgt := 90) hx hb dX6_count_1 (by have th1 := lv_neT h1 (a := 0) (by decide); have th3 := lv_neT h3 (a := 1) (by decide); have th5 := lv_neT h5 (a := 2) (by decide); have th7 := lv_neT h7 (a := 3) (by decide); have th9 := lv_neT h9 (a := 4) (by decide); have th10 := lv_neT h10 (a := 5) (by decide); have th11 := lv_neT h11 (a := 6) (by decide); have th12 := lv_neT h12 (a := 7) (by decide); have th13 := lv_neT h13 (a := 8) (by decide); omega) (by decide) ?_
  refine lv_iconst (v := (-1)) hx hb dX6_count_90 (by decide) ?_
  obtain rfl := Option.some.inj hres
  exact W.iret hx hb hr (fun t ht hW => ⟨rfl, ht⟩) (fun q h => absurd h List.not_mem_nil) dX6_count_91
theorem hsX6_count : yX6_count.cls = RX6 ∧ yX6_count.cls ≠ "java/lang/invoke/MethodHandle" ∧ yX6_count.cls ≠ "java/lang/invoke/VarHandle" ∧ (parseMethodDescriptor yX6_count.desc).map (fun d => d.parameters.length) = some 1 := by decide +kernel
set_option maxHeartbeats 4000000 in
set_option maxRecDepth 100000 in
theorem kX6_isCurtain (l : Launch) (G : va_G) (cI cZ : ClassId) (tl : List (ClassId × FieldType)) (A0 A0_s A0_draft A0_kept A0_isKept A0_undone A0_seenI A0_seenJ A0_seenTime A0_text A0_kind A0_place A0_value A0_swallows A0_time A0_strength A0_which A0_told : Nat) (c0 c0_s : Nat → Int32) (x1 : Int32) (res : Int32) (hres : fX6_isCurtain c0 c0_s x1 = some res) : Met l yX6_isCurtain wsX6_isCurtain rX6_isCurtain (va_Pc [.ref A0, .int x1] (PRO G cI cZ tl [o6 A0 c0 A0_s A0_draft A0_kept A0_isKept A0_undone A0_seenI A0_seenJ A0_seenTime A0_text A0_kind A0_place A0_value A0_swallows A0_time A0_strength A0_which A0_told, (A0_s, .inl (cI, 27, .inl c0_s))])) (Sp res) 0 0 (fun _ => False) := by
  refine Met.ofW (cc := cX6_isCurtain) (maxL := 2) (ret := (some .boolean)) (by decide) rfl ?_
  intro p e s m args below meth c s₁ B hml hv
  obtain ⟨rfl, hP, hK⟩ := hv
  have hx := B.exec
  have hb := B.bytes
  have hr := B.returns
  have hts := atoms_spec (ws := wsX6_isCurtain) B.pre
  have hown : s.vm.findClass RX6 = some m.cls := findClass_of_methodNamed B.named
  have hlocks := B.notSynchronized
  have hl := lv_entry ([.ref A0, .int x1] : List Value) (n := 2) (Nat.le_of_ble_eq_true rfl)
  rw [lg_entry_eq]
  generalize (lg_sl ([.ref A0, .int x1] : List Value) ++ List.replicate (2 - (lg_sl ([.ref A0, .int x1] : List Value)).length) Slot.unset).toArray = ls at hl ⊢
  have hl : lv_has ls 2 [(0, .ref A0), (1, .int x1)] := hl
  refine lv_iload_n hx hb dX6_isCurtain_0 rfl (lv_at hl 1 rfl) ?_
  refine lv_iconst (v := 0) hx hb dX6_isCurtain_1 (by decide) ?_
  refine lv_aload_n hx hb dX6_isCurtain_2 rfl (lv_at hl 0 rfl) ?_
  refine va_get (D := G) (ci := 6) (v := .ref A0_s) (C := RX6) (T := TX6) (N := 22) hx hb hts (fun w h => (List.mem_cons_of_mem _ (List.mem_append_right _ h))) hown hK.1 hP 0 rfl rfl 0 (by decide) (hts (.fieldLink RX6 7 "EchoSeatsModel" "s" "[I") (List.mem_of_getElem? (i := 1) rfl)) (fun _ h9 => h9) rfl dX6_isCurtain_3 ?_
  refine lv_bipush (v := 17) hx hb dX6_isCurtain_6 (by decide) ?_
  refine x_iald hx hb hK hP 1 rfl (j := 17) (by decide) (by decide) dX6_isCurtain_8 ?_
  refine lv_iconst (v := 1) hx hb dX6_isCurtain_9 (by decide) ?_
  refine lv_isub hx hb dX6_isCurtain_10 ?_
  obtain ⟨r1, hr1, hres⟩ := bi_1 hres
  refine x_cp (va_runS (As := [.int x1, .int 0, .int ((c0_s 17) - 1)]) (rest := []) ⟨hx, hb, hml, hown, hts⟩ (kX6_in l G cI cZ tl x1 0 ((c0_s 17) - 1) r1 hr1) (va_cwS 3 hts gX6_isCurtain_X6_in rfl rfl rfl hsX6_in ⟨Nat.le_of_ble_eq_true rfl, Nat.le_of_ble_eq_true rfl⟩) ⟨PRO_blind, PRO_at va_P0 hK⟩ rfl rfl hl.1 rfl (lv_room (Nat.le_of_ble_eq_true rfl)) dX6_isCurtain_11 ⟨Nat.zero_le _, Nat.zero_le _⟩) ?_
  have g2 := gd_1 hres
  have hres := gd_2 hres
  obtain rfl := Option.some.inj hres
  exact W.zret hx hb hr (by rcases g2 with h | h <;> rw [h] <;> rfl) (fun t ht hW => ⟨rfl, ht⟩) (fun q h => absurd h List.not_mem_nil) dX6_isCurtain_14
theorem hsX6_isCurtain : yX6_isCurtain.cls = RX6 ∧ yX6_isCurtain.cls ≠ "java/lang/invoke/MethodHandle" ∧ yX6_isCurtain.cls ≠ "java/lang/invoke/VarHandle" ∧ (parseMethodDescriptor yX6_isCurtain.desc).map (fun d => d.parameters.length) = some 1 := by decide +kernel
set_option maxHeartbeats 4000000 in
set_option maxRecDepth 100000 in
theorem kX6_curtain (l : Launch) (G : va_G) (cI cZ : ClassId) (tl : List (ClassId × FieldType)) (A0 A0_s A0_draft A0_kept A0_isKept A0_undone A0_seenI A0_seenJ A0_seenTime A0_text A0_kind A0_place A0_value A0_swallows A0_time A0_strength A0_which A0_told : Nat) (c0 c0_s : Nat → Int32) (x1 x2 : Int32) (res : Int32) (hres : fX6_curtain c0 c0_s x1 x2 = some res) : Met l yX6_curtain wsX6_curtain rX6_curtain (va_Pc [.ref A0, .int x1, .int x2] (PRO G cI cZ tl [o6 A0 c0 A0_s A0_draft A0_kept A0_isKept A0_undone A0_seenI A0_seenJ A0_seenTime A0_text A0_kind A0_place A0_value A0_swallows A0_time A0_strength A0_which A0_told, (A0_s, .inl (cI, 27, .inl c0_s))])) (Sp res) 0 0 (fun _ => False) := by
  refine Met.ofW (cc := cX6_curtain) (maxL := 3) (ret := (some .int)) (by decide) rfl ?_
  intro p e s m args below meth c s₁ B hml hv
  obtain ⟨rfl, hP, hK⟩ := hv
  have hx := B.exec
  have hb := B.bytes
  have hr := B.returns
  have hts := atoms_spec (ws := wsX6_curtain) B.pre
  have hown : s.vm.findClass RX6 = some m.cls := findClass_of_methodNamed B.named
  have hlocks := B.notSynchronized
  have hl := lv_entry ([.ref A0, .int x1, .int x2] : List Value) (n := 3) (Nat.le_of_ble_eq_true rfl)
  rw [lg_entry_eq]
  generalize (lg_sl ([.ref A0, .int x1, .int x2] : List Value) ++ List.replicate (3 - (lg_sl ([.ref A0, .int x1, .int x2] : List Value)).length) Slot.unset).toArray = ls at hl ⊢
  have hl : lv_has ls 3 [(0, .ref A0), (1, .int x1), (2, .int x2)] := hl
  refine lv_aload_n hx hb dX6_curtain_0 rfl (lv_at hl 0 rfl) ?_
  refine lv_iload_n hx hb dX6_curtain_1 rfl (lv_at hl 1 rfl) ?_
  obtain ⟨r1, hr1, hres⟩ := bi_1 hres
  refine x_cp (va_runV (As := [.int x1]) (rest := []) ⟨hx, hb, hml, hown, hts⟩ (kX6_isCurtain l G cI cZ tl A0 A0_s A0_draft A0_kept A0_isKept A0_undone A0_seenI A0_seenJ A0_seenTime A0_text A0_kind A0_place A0_value A0_swallows A0_time A0_strength A0_which A0_told c0 c0_s x1 r1 hr1) (cwV 1 hts gX6_curtain_X6_isCurtain rfl rfl rfl hsX6_isCurtain ⟨Nat.le_of_ble_eq_true rfl, Nat.le_of_ble_eq_true rfl⟩) ⟨PRO_blind, va_recv hK.1 hP (ci := 6) (q0 := 0) rfl rfl, PRO_at (hP.sub (ws' := [o6 A0 c0 A0_s A0_draft A0_kept A0_isKept A0_undone A0_seenI A0_seenJ A0_seenTime A0_text A0_kind A0_place A0_value A0_swallows A0_time A0_strength A0_which A0_told, (A0_s, .inl (cI, 27, .inl c0_s))]) [0, 1] rfl) hK⟩ rfl rfl hl.1 rfl (lv_room (Nat.le_of_ble_eq_true rfl)) dX6_curtain_2 ⟨Nat.zero_le _, Nat.zero_le _⟩) ?_
  refine lv_if_eq (tgt := 17) hx hb dX6_curtain_5 (by decide) (fun h2 => ?_) (fun h2 => ?_)
  · have hres := ite_t hres h2
    refine lv_iconst (v := (-1)) hx hb dX6_curtain_17 (by decide) ?_
    obtain rfl := Option.some.inj hres
    exact W.iret hx hb hr (fun t ht hW => ⟨rfl, ht⟩) (fun q h => absurd h List.not_mem_nil) dX6_curtain_18
  · have hres := ite_f hres h2
    refine lv_iload_n hx hb dX6_curtain_8 rfl (lv_at hl 2 rfl) ?_
    refine lv_iconst (v := 0) hx hb dX6_curtain_9 (by decide) ?_
    refine lv_iconst (v := 2) hx hb dX6_curtain_10 (by decide) ?_
    obtain ⟨r3, hr3, hres⟩ := bi_1 hres
    refine x_cp (va_runS (As := [.int x2, .int 0, .int 2]) (rest := []) ⟨hx, hb, hml, hown, hts⟩ (kX6_in l G cI cZ tl x2 0 2 r3 hr3) (va_cwS 3 hts gX6_curtain_X6_in rfl rfl rfl hsX6_in ⟨Nat.le_of_ble_eq_true rfl, Nat.le_of_ble_eq_true rfl⟩) ⟨PRO_blind, PRO_at va_P0 hK⟩ rfl rfl hl.1 rfl (lv_room (Nat.le_of_ble_eq_true rfl)) dX6_curtain_11 ⟨Nat.zero_le _, Nat.zero_le _⟩) ?_
    refine lv_if_ne (tgt := 19) hx hb dX6_curtain_14 (by decide) (fun h4 => ?_) (fun h4 => ?_)
    · have hres := ite_f hres h4
      refine lv_aload_n hx hb dX6_curtain_19 rfl (lv_at hl 0 rfl) ?_
      refine va_get (D := G) (ci := 6) (v := .ref A0_s) (C := RX6) (T := TX6) (N := 22) hx hb hts (fun w h => (List.mem_cons_of_mem _ (List.mem_append_right _ h))) hown hK.1 hP 0 rfl rfl 0 (by decide) (hts (.fieldLink RX6 7 "EchoSeatsModel" "s" "[I") (List.mem_of_getElem? (i := 1) rfl)) (fun _ h9 => h9) rfl dX6_curtain_20 ?_
      refine lv_bipush (v := 18) hx hb dX6_curtain_23 (by decide) ?_
      refine lv_iconst (v := 3) hx hb dX6_curtain_25 (by decide) ?_
      refine lv_iload_n hx hb dX6_curtain_26 rfl (lv_at hl 2 rfl) ?_
      refine lv_imul hx hb dX6_curtain_27 ?_
      refine lv_iadd hx hb dX6_curtain_28 ?_
      refine lv_iload_n hx hb dX6_curtain_29 rfl (lv_at hl 1 rfl) ?_
      refine lv_iadd hx hb dX6_curtain_30 ?_
      have g5 := gd_1 hres
      have hres := gd_2 hres
      refine x_iald hx hb hK hP 1 rfl (j := (Int32.toNatClampNeg ((18 + (3 * x2)) + x1))) rfl g5 dX6_curtain_31 ?_
      obtain rfl := Option.some.inj hres
      exact W.iret hx hb hr (fun t ht hW => ⟨rfl, ht⟩) (fun q h => absurd h List.not_mem_nil) dX6_curtain_32
    · have hres := ite_t hres h4
      refine lv_iconst (v := (-1)) hx hb dX6_curtain_17 (by decide) ?_
      obtain rfl := Option.some.inj hres
      exact W.iret hx hb hr (fun t ht hW => ⟨rfl, ht⟩) (fun q h => absurd h List.not_mem_nil) dX6_curtain_18
theorem hsX6_curtain : yX6_curtain.cls = RX6 ∧ yX6_curtain.cls ≠ "java/lang/invoke/MethodHandle" ∧ yX6_curtain.cls ≠ "java/lang/invoke/VarHandle" ∧ (parseMethodDescriptor yX6_curtain.desc).map (fun d => d.parameters.length) = some 2 := by decide +kernel
