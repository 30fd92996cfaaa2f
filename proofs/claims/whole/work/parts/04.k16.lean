set_option maxHeartbeats 4000000 in
set_option maxRecDepth 100000 in
theorem kX6_parts (l : Launch) (G : va_G) (cI cZ : ClassId) (tl : List (ClassId × FieldType)) (sz : Nat) (A : Nat → Prop) (A0 A0_s A0_draft A0_kept A0_isKept A0_undone A0_seenI A0_seenJ A0_seenTime A0_text A0_kind A0_place A0_value A0_swallows A0_time A0_strength A0_which A0_told : Nat) (c0 c0_text c0_place c0_kind c0_value : Nat → Int32) (res : (Nat → Int32) × (Nat → Int32) × (Nat → Int32) × (Nat → Int32)) (hAe : A = va_A [o6 A0 c0 A0_s A0_draft A0_kept A0_isKept A0_undone A0_seenI A0_seenJ A0_seenTime A0_text A0_kind A0_place A0_value A0_swallows A0_time A0_strength A0_which A0_told, (A0_text, .inl (cI, 100, .inl c0_text)), (A0_place, .inl (cI, 100, .inl c0_place)), (A0_kind, .inl (cI, 100, .inl c0_kind)), (A0_value, .inl (cI, 100, .inl c0_value))] sz) (hres : fX6_parts c0 c0_text c0_place c0_kind c0_value = some res) : Met l yX6_parts wsX6_parts rX6_parts (va_Pc [.ref A0] (PRW G cI cZ tl [o6 A0 c0 A0_s A0_draft A0_kept A0_isKept A0_undone A0_seenI A0_seenJ A0_seenTime A0_text A0_kind A0_place A0_value A0_swallows A0_time A0_strength A0_which A0_told, (A0_text, .inl (cI, 100, .inl c0_text)), (A0_place, .inl (cI, 100, .inl c0_place)), (A0_kind, .inl (cI, 100, .inl c0_kind)), (A0_value, .inl (cI, 100, .inl c0_value))] sz)) (Qvw G A [o6 A0 res.1 A0_s A0_draft A0_kept A0_isKept A0_undone A0_seenI A0_seenJ A0_seenTime A0_text A0_kind A0_place A0_value A0_swallows A0_time A0_strength A0_which A0_told, (A0_text, .inl (cI, 100, .inl c0_text)), (A0_place, .inl (cI, 100, .inl res.2.1)), (A0_kind, .inl (cI, 100, .inl res.2.2.1)), (A0_value, .inl (cI, 100, .inl res.2.2.2))]) 0 0 A := by
  refine Met.ofW (cc := cX6_parts) (maxL := 2) (ret := none) (by decide) rfl ?_
  intro p e s m args below meth c s₁ B hml hv
  obtain ⟨rfl, hsz, hP, hK, hD0⟩ := hv
  have hx := B.exec
  have hb := B.bytes
  have hr := B.returns
  have hts := atoms_spec (ws := wsX6_parts) B.pre
  have hown : s.vm.findClass RX6 = some m.cls := findClass_of_methodNamed B.named
  have hlocks := B.notSynchronized
  subst hsz
  have hD : va_D A [o6 A0 c0 A0_s A0_draft A0_kept A0_isKept A0_undone A0_seenI A0_seenJ A0_seenTime A0_text A0_kind A0_place A0_value A0_swallows A0_time A0_strength A0_which A0_told, (A0_text, .inl (cI, 100, .inl c0_text)), (A0_place, .inl (cI, 100, .inl c0_place)), (A0_kind, .inl (cI, 100, .inl c0_kind)), (A0_value, .inl (cI, 100, .inl c0_value))] := by rw [hAe]; exact hD0.self
  have hA : ∀ q : Nat, s.heap.size ≤ q → A q := fun q h => by rw [hAe]; exact Or.inr h
  clear hAe hD0
  have hS : va_S A s.heap s.heap [] := va_S.rf
  have hl := lv_entry ([.ref A0] : List Value) (n := 2) (Nat.le_of_ble_eq_true rfl)
  rw [lg_entry_eq]
  generalize (lg_sl ([.ref A0] : List Value) ++ List.replicate (2 - (lg_sl ([.ref A0] : List Value)).length) Slot.unset).toArray = ls at hl ⊢
  have hl : lv_has ls 2 [(0, .ref A0)] := hl
  refine lv_aload_n hx hb dX6_parts_0 rfl (lv_at hl 0 rfl) ?_
  refine lv_iconst (v := 0) hx hb dX6_parts_1 (by decide) ?_
  refine va_put (D := G) (ci := 6) (v := .int 0) (ty := .int) (C := RX6) (T := TX6) (N := 22) hx hb hts (fun w h => (List.mem_cons_of_mem _ (List.mem_append_right _ h))) tyX6 tyX6_ok nmX6 hown hK.1 hP hD hS 0 rfl rfl 15 (by decide) (hts (.fieldLink RX6 90 "EchoSeatsModel" "tokens" "I") (List.mem_of_getElem? (i := 1) rfl)) (fun _ h9 => h9) rfl (tyX6_ok 15 (by decide)) rfl rfl (Nat.le_of_ble_eq_true rfl) dX6_parts_2 (fun H locs hP hD hS => ?_)
  have hP : va_P G vwCl [o6 A0 (upd c0 15 0) A0_s A0_draft A0_kept A0_isKept A0_undone A0_seenI A0_seenJ A0_seenTime A0_text A0_kind A0_place A0_value A0_swallows A0_time A0_strength A0_which A0_told, (A0_text, .inl (cI, 100, .inl c0_text)), (A0_place, .inl (cI, 100, .inl c0_place)), (A0_kind, .inl (cI, 100, .inl c0_kind)), (A0_value, .inl (cI, 100, .inl c0_value))] H := hP
  have hD : va_D A [o6 A0 (upd c0 15 0) A0_s A0_draft A0_kept A0_isKept A0_undone A0_seenI A0_seenJ A0_seenTime A0_text A0_kind A0_place A0_value A0_swallows A0_time A0_strength A0_which A0_told, (A0_text, .inl (cI, 100, .inl c0_text)), (A0_place, .inl (cI, 100, .inl c0_place)), (A0_kind, .inl (cI, 100, .inl c0_kind)), (A0_value, .inl (cI, 100, .inl c0_value))] := hD
  refine lv_iconst (v := 0) hx hb dX6_parts_5 (by decide) ?_
  refine lv_istore_n (lv' := [(1, .int 0), (0, .ref A0)]) hx hb dX6_parts_6 rfl hl (by decide) rfl (fun ls hl => ?_)
  have Q7 : ∀ (n7 : Nat) (v1_L7 : Int32) (e0_L7 : (Nat → Int32)) (e0_place_L7 : (Nat → Int32)) (e0_kind_L7 : (Nat → Int32)) (e0_value_L7 : (Nat → Int32)) (H : Heap) (locs : List Loc) (ls : Array Slot), LPX (fX6_parts_L7 c0_text) n7 (v1_L7, e0_L7, e0_place_L7, e0_kind_L7, e0_value_L7) = some res → va_P G vwCl [o6 A0 e0_L7 A0_s A0_draft A0_kept A0_isKept A0_undone A0_seenI A0_seenJ A0_seenTime A0_text A0_kind A0_place A0_value A0_swallows A0_time A0_strength A0_which A0_told, (A0_text, .inl (cI, 100, .inl c0_text)), (A0_place, .inl (cI, 100, .inl e0_place_L7)), (A0_kind, .inl (cI, 100, .inl e0_kind_L7)), (A0_value, .inl (cI, 100, .inl e0_value_L7))] H → va_D A [o6 A0 e0_L7 A0_s A0_draft A0_kept A0_isKept A0_undone A0_seenI A0_seenJ A0_seenTime A0_text A0_kind A0_place A0_value A0_swallows A0_time A0_strength A0_which A0_told, (A0_text, .inl (cI, 100, .inl c0_text)), (A0_place, .inl (cI, 100, .inl e0_place_L7)), (A0_kind, .inl (cI, 100, .inl e0_kind_L7)), (A0_value, .inl (cI, 100, .inl e0_value_L7))] → va_S A s.heap H locs → lv_has ls 2 [(0, .ref A0), (1, .int v1_L7)] → WRW p l e wsX6_parts rX6_parts s m ([.ref A0] : List Value).toArray below meth c H locs (Qvw G A [o6 A0 res.1 A0_s A0_draft A0_kept A0_isKept A0_undone A0_seenI A0_seenJ A0_seenTime A0_text A0_kind A0_place A0_value A0_swallows A0_time A0_strength A0_which A0_told, (A0_text, .inl (cI, 100, .inl c0_text)), (A0_place, .inl (cI, 100, .inl res.2.1)), (A0_kind, .inl (cI, 100, .inl res.2.2.1)), (A0_value, .inl (cI, 100, .inl res.2.2.2))]) A (F0 m 7 ls []) := by
    intro n7
    induction n7 with
    | zero =>
      intro v1_L7 e0_L7 e0_place_L7 e0_kind_L7 e0_value_L7 H locs ls hres
      exact absurd (LPX_0.symm.trans hres) (fun h => by cases h)
    | succ n7 ih7 =>
      intro v1_L7 e0_L7 e0_place_L7 e0_kind_L7 e0_value_L7 H locs ls hres hP hD hS hl
      have hres := LPX_s.symm.trans hres
      refine lv_iload_n hx hb dX6_parts_7 rfl (lv_at hl 1 rfl) ?_
      refine lv_aload_n hx hb dX6_parts_8 rfl (lv_at hl 0 rfl) ?_
      refine va_get (D := G) (ci := 6) (v := .int (e0_L7 11)) (C := RX6) (T := TX6) (N := 22) hx hb hts (fun w h => (List.mem_cons_of_mem _ (List.mem_append_right _ h))) hown hK.1 hP 0 rfl rfl 11 (by decide) (hts (.fieldLink RX6 83 "EchoSeatsModel" "typed" "I") (List.mem_of_getElem? (i := 2) rfl)) (fun _ h9 => h9) rfl dX6_parts_9 ?_
      refine lv_icmp_ge (tgt := 110) hx hb dX6_parts_12 (by decide) (fun h1 => ?_) (fun h1 => ?_)
      · have hres := ite_t hres h1
        obtain rfl := Option.some.inj hres
        exact W.vret hx hb hr (fun t ht hW => ⟨⟨(), rfl, trivial, by rw [ht]; exact hP, hD⟩, hS.F ht⟩) hS.2.2 dX6_parts_110
      · have hres := ite_f hres h1
        refine lv_aload_n hx hb dX6_parts_15 rfl (lv_at hl 0 rfl) ?_
        refine va_get (D := G) (ci := 6) (v := .ref A0_text) (C := RX6) (T := TX6) (N := 22) hx hb hts (fun w h => (List.mem_cons_of_mem _ (List.mem_append_right _ h))) hown hK.1 hP 0 rfl rfl 10 (by decide) (hts (.fieldLink RX6 35 "EchoSeatsModel" "text" "[I") (List.mem_of_getElem? (i := 3) rfl)) (fun _ h9 => h9) rfl dX6_parts_16 ?_
        refine lv_iload_n hx hb dX6_parts_19 rfl (lv_at hl 1 rfl) ?_
        have g2 := gd_1 hres
        have hres := gd_2 hres
        refine x_iald hx hb hK hP 1 rfl (j := (Int32.toNatClampNeg v1_L7)) rfl g2 dX6_parts_20 ?_
        refine lv_bipush (v := 32) hx hb dX6_parts_21 (by decide) ?_
        refine lv_icmp_ne (tgt := 32) hx hb dX6_parts_23 (by decide) (fun h3 => ?_) (fun h3 => ?_)
        · have hres := ite_f hres h3
          refine lv_aload_n hx hb dX6_parts_32 rfl (lv_at hl 0 rfl) ?_
          refine va_get (D := G) (ci := 6) (v := .ref A0_place) (C := RX6) (T := TX6) (N := 22) hx hb hts (fun w h => (List.mem_cons_of_mem _ (List.mem_append_right _ h))) hown hK.1 hP 0 rfl rfl 13 (by decide) (hts (.fieldLink RX6 41 "EchoSeatsModel" "place" "[I") (List.mem_of_getElem? (i := 4) rfl)) (fun _ h9 => h9) rfl dX6_parts_33 ?_
          refine lv_aload_n hx hb dX6_parts_36 rfl (lv_at hl 0 rfl) ?_
          refine va_get (D := G) (ci := 6) (v := .int (e0_L7 15)) (C := RX6) (T := TX6) (N := 22) hx hb hts (fun w h => (List.mem_cons_of_mem _ (List.mem_append_right _ h))) hown hK.1 hP 0 rfl rfl 15 (by decide) (hts (.fieldLink RX6 90 "EchoSeatsModel" "tokens" "I") (List.mem_of_getElem? (i := 1) rfl)) (fun _ h9 => h9) rfl dX6_parts_37 ?_
          refine lv_iload_n hx hb dX6_parts_40 rfl (lv_at hl 1 rfl) ?_
          have g4 := gd_1 hres
          have hres := gd_2 hres
          refine x_iast hx hb hK hP hD hS 2 rfl (j := (Int32.toNatClampNeg (e0_L7 15))) rfl g4 dX6_parts_41 (fun H locs hP hD hS => ?_)
          have hP : va_P G vwCl [o6 A0 e0_L7 A0_s A0_draft A0_kept A0_isKept A0_undone A0_seenI A0_seenJ A0_seenTime A0_text A0_kind A0_place A0_value A0_swallows A0_time A0_strength A0_which A0_told, (A0_text, .inl (cI, 100, .inl c0_text)), (A0_place, .inl (cI, 100, .inl (upd e0_place_L7 (Int32.toNatClampNeg (e0_L7 15)) v1_L7))), (A0_kind, .inl (cI, 100, .inl e0_kind_L7)), (A0_value, .inl (cI, 100, .inl e0_value_L7))] H := hP
          have hD : va_D A [o6 A0 e0_L7 A0_s A0_draft A0_kept A0_isKept A0_undone A0_seenI A0_seenJ A0_seenTime A0_text A0_kind A0_place A0_value A0_swallows A0_time A0_strength A0_which A0_told, (A0_text, .inl (cI, 100, .inl c0_text)), (A0_place, .inl (cI, 100, .inl (upd e0_place_L7 (Int32.toNatClampNeg (e0_L7 15)) v1_L7))), (A0_kind, .inl (cI, 100, .inl e0_kind_L7)), (A0_value, .inl (cI, 100, .inl e0_value_L7))] := hD
          refine lv_aload_n hx hb dX6_parts_42 rfl (lv_at hl 0 rfl) ?_
          refine va_get (D := G) (ci := 6) (v := .ref A0_text) (C := RX6) (T := TX6) (N := 22) hx hb hts (fun w h => (List.mem_cons_of_mem _ (List.mem_append_right _ h))) hown hK.1 hP 0 rfl rfl 10 (by decide) (hts (.fieldLink RX6 35 "EchoSeatsModel" "text" "[I") (List.mem_of_getElem? (i := 3) rfl)) (fun _ h9 => h9) rfl dX6_parts_43 ?_
          refine lv_iload_n hx hb dX6_parts_46 rfl (lv_at hl 1 rfl) ?_
          have g5 := gd_1 hres
          have hres := gd_2 hres
          refine x_iald hx hb hK hP 1 rfl (j := (Int32.toNatClampNeg v1_L7)) rfl g5 dX6_parts_47 ?_
          obtain ⟨r6, hr6, hres⟩ := bi_1 hres
          refine x_cp (va_runS (As := [.int (c0_text (Int32.toNatClampNeg v1_L7))]) (rest := []) ⟨hx, hb, hml, hown, hts⟩ (kX6_isFigure l G cI cZ tl (c0_text (Int32.toNatClampNeg v1_L7)) r6 hr6) (va_cwS 1 hts gX6_parts_X6_isFigure rfl rfl rfl hsX6_isFigure ⟨Nat.le_of_ble_eq_true rfl, Nat.le_of_ble_eq_true rfl⟩) ⟨PRO_blind, PRO_at va_P0 hK⟩ rfl rfl hl.1 rfl (lv_room (Nat.le_of_ble_eq_true rfl)) dX6_parts_48 ⟨Nat.zero_le _, Nat.zero_le _⟩) ?_
          refine lv_if_eq (tgt := 63) hx hb dX6_parts_51 (by decide) (fun h7 => ?_) (fun h7 => ?_)
          · have hres := ite_t hres h7
            refine lv_aload_n hx hb dX6_parts_63 rfl (lv_at hl 0 rfl) ?_
            refine va_get (D := G) (ci := 6) (v := .ref A0_kind) (C := RX6) (T := TX6) (N := 22) hx hb hts (fun w h => (List.mem_cons_of_mem _ (List.mem_append_right _ h))) hown hK.1 hP 0 rfl rfl 12 (by decide) (hts (.fieldLink RX6 38 "EchoSeatsModel" "kind" "[I") (List.mem_of_getElem? (i := 5) rfl)) (fun _ h9 => h9) rfl dX6_parts_64 ?_
            refine lv_aload_n hx hb dX6_parts_67 rfl (lv_at hl 0 rfl) ?_
            refine va_get (D := G) (ci := 6) (v := .int (e0_L7 15)) (C := RX6) (T := TX6) (N := 22) hx hb hts (fun w h => (List.mem_cons_of_mem _ (List.mem_append_right _ h))) hown hK.1 hP 0 rfl rfl 15 (by decide) (hts (.fieldLink RX6 90 "EchoSeatsModel" "tokens" "I") (List.mem_of_getElem? (i := 1) rfl)) (fun _ h9 => h9) rfl dX6_parts_68 ?_
            refine lv_aload_n hx hb dX6_parts_71 rfl (lv_at hl 0 rfl) ?_
            refine va_get (D := G) (ci := 6) (v := .ref A0_text) (C := RX6) (T := TX6) (N := 22) hx hb hts (fun w h => (List.mem_cons_of_mem _ (List.mem_append_right _ h))) hown hK.1 hP 0 rfl rfl 10 (by decide) (hts (.fieldLink RX6 35 "EchoSeatsModel" "text" "[I") (List.mem_of_getElem? (i := 3) rfl)) (fun _ h9 => h9) rfl dX6_parts_72 ?_
            refine lv_iload_n hx hb dX6_parts_75 rfl (lv_at hl 1 rfl) ?_
            have g8 := gd_1 hres
            have hres := gd_2 hres
            refine x_iald hx hb hK hP 1 rfl (j := (Int32.toNatClampNeg v1_L7)) rfl g8 dX6_parts_76 ?_
            obtain ⟨r9, hr9, hres⟩ := bi_1 hres
            refine x_cp (va_runS (As := [.int (c0_text (Int32.toNatClampNeg v1_L7))]) (rest := [.int (e0_L7 15), .ref A0_kind]) ⟨hx, hb, hml, hown, hts⟩ (kX6_isLetter l G cI cZ tl (c0_text (Int32.toNatClampNeg v1_L7)) r9 hr9) (va_cwS 1 hts gX6_parts_X6_isLetter rfl rfl rfl hsX6_isLetter ⟨Nat.le_of_ble_eq_true rfl, Nat.le_of_ble_eq_true rfl⟩) ⟨PRO_blind, PRO_at va_P0 hK⟩ rfl rfl hl.1 rfl (lv_room (Nat.le_of_ble_eq_true rfl)) dX6_parts_77 ⟨Nat.zero_le _, Nat.zero_le _⟩) ?_
            refine lv_if_eq (tgt := 92) hx hb dX6_parts_80 (by decide) (fun h10 => ?_) (fun h10 => ?_)
            · have hres := ite_t hres h10
              refine lv_iconst (v := 2) hx hb dX6_parts_92 (by decide) ?_
              have g11 := gd_1 hres
              have hres := gd_2 hres
              refine x_iast hx hb hK hP hD hS 3 rfl (j := (Int32.toNatClampNeg (e0_L7 15))) rfl g11 dX6_parts_93 (fun H locs hP hD hS => ?_)
              have hP : va_P G vwCl [o6 A0 e0_L7 A0_s A0_draft A0_kept A0_isKept A0_undone A0_seenI A0_seenJ A0_seenTime A0_text A0_kind A0_place A0_value A0_swallows A0_time A0_strength A0_which A0_told, (A0_text, .inl (cI, 100, .inl c0_text)), (A0_place, .inl (cI, 100, .inl (upd e0_place_L7 (Int32.toNatClampNeg (e0_L7 15)) v1_L7))), (A0_kind, .inl (cI, 100, .inl (upd e0_kind_L7 (Int32.toNatClampNeg (e0_L7 15)) 2))), (A0_value, .inl (cI, 100, .inl e0_value_L7))] H := hP
              have hD : va_D A [o6 A0 e0_L7 A0_s A0_draft A0_kept A0_isKept A0_undone A0_seenI A0_seenJ A0_seenTime A0_text A0_kind A0_place A0_value A0_swallows A0_time A0_strength A0_which A0_told, (A0_text, .inl (cI, 100, .inl c0_text)), (A0_place, .inl (cI, 100, .inl (upd e0_place_L7 (Int32.toNatClampNeg (e0_L7 15)) v1_L7))), (A0_kind, .inl (cI, 100, .inl (upd e0_kind_L7 (Int32.toNatClampNeg (e0_L7 15)) 2))), (A0_value, .inl (cI, 100, .inl e0_value_L7))] := hD
              refine lv_iinc (v := (v1_L7 + 1)) (lv' := [(1, .int (v1_L7 + 1)), (0, .ref A0)]) hx hb dX6_parts_94 hl (k := 1) rfl rfl (by decide) rfl (fun ls hl => ?_)
              refine lv_aload_n hx hb dX6_parts_97 rfl (lv_at hl 1 rfl) ?_
              refine lv_dup hx hb dX6_parts_98 rfl ?_
              refine va_get (D := G) (ci := 6) (v := .int (e0_L7 15)) (C := RX6) (T := TX6) (N := 22) hx hb hts (fun w h => (List.mem_cons_of_mem _ (List.mem_append_right _ h))) hown hK.1 hP 0 rfl rfl 15 (by decide) (hts (.fieldLink RX6 90 "EchoSeatsModel" "tokens" "I") (List.mem_of_getElem? (i := 1) rfl)) (fun _ h9 => h9) rfl dX6_parts_99 ?_
              refine lv_iconst (v := 1) hx hb dX6_parts_102 (by decide) ?_
              refine lv_iadd hx hb dX6_parts_103 ?_
              refine va_put (D := G) (ci := 6) (v := .int ((e0_L7 15) + 1)) (ty := .int) (C := RX6) (T := TX6) (N := 22) hx hb hts (fun w h => (List.mem_cons_of_mem _ (List.mem_append_right _ h))) tyX6 tyX6_ok nmX6 hown hK.1 hP hD hS 0 rfl rfl 15 (by decide) (hts (.fieldLink RX6 90 "EchoSeatsModel" "tokens" "I") (List.mem_of_getElem? (i := 1) rfl)) (fun _ h9 => h9) rfl (tyX6_ok 15 (by decide)) rfl rfl (Nat.le_of_ble_eq_true rfl) dX6_parts_104 (fun H locs hP hD hS => ?_)
              have hP : va_P G vwCl [o6 A0 (upd e0_L7 15 ((e0_L7 15) + 1)) A0_s A0_draft A0_kept A0_isKept A0_undone A0_seenI A0_seenJ A0_seenTime A0_text A0_kind A0_place A0_value A0_swallows A0_time A0_strength A0_which A0_told, (A0_text, .inl (cI, 100, .inl c0_text)), (A0_place, .inl (cI, 100, .inl (upd e0_place_L7 (Int32.toNatClampNeg (e0_L7 15)) v1_L7))), (A0_kind, .inl (cI, 100, .inl (upd e0_kind_L7 (Int32.toNatClampNeg (e0_L7 15)) 2))), (A0_value, .inl (cI, 100, .inl e0_value_L7))] H := hP
              have hD : va_D A [o6 A0 (upd e0_L7 15 ((e0_L7 15) + 1)) A0_s A0_draft A0_kept A0_isKept A0_undone A0_seenI A0_seenJ A0_seenTime A0_text A0_kind A0_place A0_value A0_swallows A0_time A0_strength A0_which A0_told, (A0_text, .inl (cI, 100, .inl c0_text)), (A0_place, .inl (cI, 100, .inl (upd e0_place_L7 (Int32.toNatClampNeg (e0_L7 15)) v1_L7))), (A0_kind, .inl (cI, 100, .inl (upd e0_kind_L7 (Int32.toNatClampNeg (e0_L7 15)) 2))), (A0_value, .inl (cI, 100, .inl e0_value_L7))] := hD
              refine lv_goto (tgt := 7) hx hb dX6_parts_107 (by decide) ?_
              exact ih7 (v1_L7 + 1) (upd e0_L7 15 ((e0_L7 15) + 1)) (upd e0_place_L7 (Int32.toNatClampNeg (e0_L7 15)) v1_L7) (upd e0_kind_L7 (Int32.toNatClampNeg (e0_L7 15)) 2) e0_value_L7 _ _ _ hres hP hD hS (lv_sub hl [1, 0] rfl)
            · have hres := ite_f hres h10
              refine lv_aload_n hx hb dX6_parts_83 rfl (lv_at hl 0 rfl) ?_
              refine va_get (D := G) (ci := 6) (v := .ref A0_text) (C := RX6) (T := TX6) (N := 22) hx hb hts (fun w h => (List.mem_cons_of_mem _ (List.mem_append_right _ h))) hown hK.1 hP 0 rfl rfl 10 (by decide) (hts (.fieldLink RX6 35 "EchoSeatsModel" "text" "[I") (List.mem_of_getElem? (i := 3) rfl)) (fun _ h9 => h9) rfl dX6_parts_84 ?_
              refine lv_iload_n hx hb dX6_parts_87 rfl (lv_at hl 1 rfl) ?_
              have g12 := gd_1 hres
              have hres := gd_2 hres
              refine x_iald hx hb hK hP 1 rfl (j := (Int32.toNatClampNeg v1_L7)) rfl g12 dX6_parts_88 ?_
              refine lv_goto (tgt := 93) hx hb dX6_parts_89 (by decide) ?_
              have g13 := gd_1 hres
              have hres := gd_2 hres
              refine x_iast hx hb hK hP hD hS 3 rfl (j := (Int32.toNatClampNeg (e0_L7 15))) rfl g13 dX6_parts_93 (fun H locs hP hD hS => ?_)
              have hP : va_P G vwCl [o6 A0 e0_L7 A0_s A0_draft A0_kept A0_isKept A0_undone A0_seenI A0_seenJ A0_seenTime A0_text A0_kind A0_place A0_value A0_swallows A0_time A0_strength A0_which A0_told, (A0_text, .inl (cI, 100, .inl c0_text)), (A0_place, .inl (cI, 100, .inl (upd e0_place_L7 (Int32.toNatClampNeg (e0_L7 15)) v1_L7))), (A0_kind, .inl (cI, 100, .inl (upd e0_kind_L7 (Int32.toNatClampNeg (e0_L7 15)) (c0_text (Int32.toNatClampNeg v1_L7))))), (A0_value, .inl (cI, 100, .inl e0_value_L7))] H := hP
              have hD : va_D A [o6 A0 e0_L7 A0_s A0_draft A0_kept A0_isKept A0_undone A0_seenI A0_seenJ A0_seenTime A0_text A0_kind A0_place A0_value A0_swallows A0_time A0_strength A0_which A0_told, (A0_text, .inl (cI, 100, .inl c0_text)), (A0_place, .inl (cI, 100, .inl (upd e0_place_L7 (Int32.toNatClampNeg (e0_L7 15)) v1_L7))), (A0_kind, .inl (cI, 100, .inl (upd e0_kind_L7 (Int32.toNatClampNeg (e0_L7 15)) (c0_text (Int32.toNatClampNeg v1_L7))))), (A0_value, .inl (cI, 100, .inl e0_value_L7))] := hD
              refine lv_iinc (v := (v1_L7 + 1)) (lv' := [(1, .int (v1_L7 + 1)), (0, .ref A0)]) hx hb dX6_parts_94 hl (k := 1) rfl rfl (by decide) rfl (fun ls hl => ?_)
              refine lv_aload_n hx hb dX6_parts_97 rfl (lv_at hl 1 rfl) ?_
              refine lv_dup hx hb dX6_parts_98 rfl ?_
              refine va_get (D := G) (ci := 6) (v := .int (e0_L7 15)) (C := RX6) (T := TX6) (N := 22) hx hb hts (fun w h => (List.mem_cons_of_mem _ (List.mem_append_right _ h))) hown hK.1 hP 0 rfl rfl 15 (by decide) (hts (.fieldLink RX6 90 "EchoSeatsModel" "tokens" "I") (List.mem_of_getElem? (i := 1) rfl)) (fun _ h9 => h9) rfl dX6_parts_99 ?_
              refine lv_iconst (v := 1) hx hb dX6_parts_102 (by decide) ?_
              refine lv_iadd hx hb dX6_parts_103 ?_
              refine va_put (D := G) (ci := 6) (v := .int ((e0_L7 15) + 1)) (ty := .int) (C := RX6) (T := TX6) (N := 22) hx hb hts (fun w h => (List.mem_cons_of_mem _ (List.mem_append_right _ h))) tyX6 tyX6_ok nmX6 hown hK.1 hP hD hS 0 rfl rfl 15 (by decide) (hts (.fieldLink RX6 90 "EchoSeatsModel" "tokens" "I") (List.mem_of_getElem? (i := 1) rfl)) (fun _ h9 => h9) rfl (tyX6_ok 15 (by decide)) rfl rfl (Nat.le_of_ble_eq_true rfl) dX6_parts_104 (fun H locs hP hD hS => ?_)
              have hP : va_P G vwCl [o6 A0 (upd e0_L7 15 ((e0_L7 15) + 1)) A0_s A0_draft A0_kept A0_isKept A0_undone A0_seenI A0_seenJ A0_seenTime A0_text A0_kind A0_place A0_value A0_swallows A0_time A0_strength A0_which A0_told, (A0_text, .inl (cI, 100, .inl c0_text)), (A0_place, .inl (cI, 100, .inl (upd e0_place_L7 (Int32.toNatClampNeg (e0_L7 15)) v1_L7))), (A0_kind, .inl (cI, 100, .inl (upd e0_kind_L7 (Int32.toNatClampNeg (e0_L7 15)) (c0_text (Int32.toNatClampNeg v1_L7))))), (A0_value, .inl (cI, 100, .inl e0_value_L7))] H := hP
              have hD : va_D A [o6 A0 (upd e0_L7 15 ((e0_L7 15) + 1)) A0_s A0_draft A0_kept A0_isKept A0_undone A0_seenI A0_seenJ A0_seenTime A0_text A0_kind A0_place A0_value A0_swallows A0_time A0_strength A0_which A0_told, (A0_text, .inl (cI, 100, .inl c0_text)), (A0_place, .inl (cI, 100, .inl (upd e0_place_L7 (Int32.toNatClampNeg (e0_L7 15)) v1_L7))), (A0_kind, .inl (cI, 100, .inl (upd e0_kind_L7 (Int32.toNatClampNeg (e0_L7 15)) (c0_text (Int32.toNatClampNeg v1_L7))))), (A0_value, .inl (cI, 100, .inl e0_value_L7))] := hD
              refine lv_goto (tgt := 7) hx hb dX6_parts_107 (by decide) ?_
              exact ih7 (v1_L7 + 1) (upd e0_L7 15 ((e0_L7 15) + 1)) (upd e0_place_L7 (Int32.toNatClampNeg (e0_L7 15)) v1_L7) (upd e0_kind_L7 (Int32.toNatClampNeg (e0_L7 15)) (c0_text (Int32.toNatClampNeg v1_L7))) e0_value_L7 _ _ _ hres hP hD hS (lv_sub hl [1, 0] rfl)
          · have hres := ite_f hres h7
            refine lv_aload_n hx hb dX6_parts_54 rfl (lv_at hl 0 rfl) ?_
            refine lv_iload_n hx hb dX6_parts_55 rfl (lv_at hl 1 rfl) ?_
            obtain ⟨r14, hr14, hres⟩ := bi_1 hres
            refine x_ci (wr := [(A0_place, .inl (cI, 100, .inl (upd e0_place_L7 (Int32.toNatClampNeg (e0_L7 15)) v1_L7)))]) (w2 := [o6 A0 e0_L7 A0_s A0_draft A0_kept A0_isKept A0_undone A0_seenI A0_seenJ A0_seenTime A0_text A0_kind A0_place A0_value A0_swallows A0_time A0_strength A0_which A0_told, (A0_text, .inl (cI, 100, .inl c0_text)), (A0_place, .inl (cI, 100, .inl (upd e0_place_L7 (Int32.toNatClampNeg (e0_L7 15)) v1_L7))), (A0_kind, .inl (cI, 100, .inl r14.2.1)), (A0_value, .inl (cI, 100, .inl r14.2.2))]) hP hD hS hA (va_runV (As := [.int v1_L7]) (rest := []) ⟨hx, hb, hml, hown, hts⟩ (kX6_numbered l G cI cZ tl H.size _ A0 A0_s A0_draft A0_kept A0_isKept A0_undone A0_seenI A0_seenJ A0_seenTime A0_text A0_kind A0_place A0_value A0_swallows A0_time A0_strength A0_which A0_told e0_L7 c0_text e0_kind_L7 e0_value_L7 v1_L7 r14 rfl hr14) (cwV 1 hts gX6_parts_X6_numbered rfl rfl rfl hsX6_numbered ⟨Nat.le_of_ble_eq_true rfl, Nat.le_of_ble_eq_true rfl⟩) ⟨PRW_blind, va_recv hK.1 hP (ci := 6) (q0 := 0) rfl rfl, PRW_at (hP.sub (ws' := [o6 A0 e0_L7 A0_s A0_draft A0_kept A0_isKept A0_undone A0_seenI A0_seenJ A0_seenTime A0_text A0_kind A0_place A0_value A0_swallows A0_time A0_strength A0_which A0_told, (A0_text, .inl (cI, 100, .inl c0_text)), (A0_kind, .inl (cI, 100, .inl e0_kind_L7)), (A0_value, .inl (cI, 100, .inl e0_value_L7))]) [0, 1, 3, 4] rfl) (hD.sub (ws' := [o6 A0 e0_L7 A0_s A0_draft A0_kept A0_isKept A0_undone A0_seenI A0_seenJ A0_seenTime A0_text A0_kind A0_place A0_value A0_swallows A0_time A0_strength A0_which A0_told, (A0_text, .inl (cI, 100, .inl c0_text)), (A0_kind, .inl (cI, 100, .inl e0_kind_L7)), (A0_value, .inl (cI, 100, .inl e0_value_L7))]) [0, 1, 3, 4] (by decide) rfl) hK⟩ rfl rfl hl.1 rfl (lv_room (Nat.le_of_ble_eq_true rfl)) dX6_parts_56 ⟨Nat.zero_le _, Nat.zero_le _⟩) [0, 1, 3, 4] [2] [1, 2, 0, 3, 4] rfl rfl (by decide) (by decide) rfl rfl (by decide) (fun H locs hP hD hS => ?_)
            refine lv_istore_n (lv' := [(1, .int r14.1), (0, .ref A0)]) hx hb dX6_parts_59 rfl hl (by decide) rfl (fun ls hl => ?_)
            refine lv_goto (tgt := 97) hx hb dX6_parts_60 (by decide) ?_
            refine lv_aload_n hx hb dX6_parts_97 rfl (lv_at hl 1 rfl) ?_
            refine lv_dup hx hb dX6_parts_98 rfl ?_
            refine va_get (D := G) (ci := 6) (v := .int (e0_L7 15)) (C := RX6) (T := TX6) (N := 22) hx hb hts (fun w h => (List.mem_cons_of_mem _ (List.mem_append_right _ h))) hown hK.1 hP 0 rfl rfl 15 (by decide) (hts (.fieldLink RX6 90 "EchoSeatsModel" "tokens" "I") (List.mem_of_getElem? (i := 1) rfl)) (fun _ h9 => h9) rfl dX6_parts_99 ?_
            refine lv_iconst (v := 1) hx hb dX6_parts_102 (by decide) ?_
            refine lv_iadd hx hb dX6_parts_103 ?_
            refine va_put (D := G) (ci := 6) (v := .int ((e0_L7 15) + 1)) (ty := .int) (C := RX6) (T := TX6) (N := 22) hx hb hts (fun w h => (List.mem_cons_of_mem _ (List.mem_append_right _ h))) tyX6 tyX6_ok nmX6 hown hK.1 hP hD hS 0 rfl rfl 15 (by decide) (hts (.fieldLink RX6 90 "EchoSeatsModel" "tokens" "I") (List.mem_of_getElem? (i := 1) rfl)) (fun _ h9 => h9) rfl (tyX6_ok 15 (by decide)) rfl rfl (Nat.le_of_ble_eq_true rfl) dX6_parts_104 (fun H locs hP hD hS => ?_)
            have hP : va_P G vwCl [o6 A0 (upd e0_L7 15 ((e0_L7 15) + 1)) A0_s A0_draft A0_kept A0_isKept A0_undone A0_seenI A0_seenJ A0_seenTime A0_text A0_kind A0_place A0_value A0_swallows A0_time A0_strength A0_which A0_told, (A0_text, .inl (cI, 100, .inl c0_text)), (A0_place, .inl (cI, 100, .inl (upd e0_place_L7 (Int32.toNatClampNeg (e0_L7 15)) v1_L7))), (A0_kind, .inl (cI, 100, .inl r14.2.1)), (A0_value, .inl (cI, 100, .inl r14.2.2))] H := hP
            have hD : va_D A [o6 A0 (upd e0_L7 15 ((e0_L7 15) + 1)) A0_s A0_draft A0_kept A0_isKept A0_undone A0_seenI A0_seenJ A0_seenTime A0_text A0_kind A0_place A0_value A0_swallows A0_time A0_strength A0_which A0_told, (A0_text, .inl (cI, 100, .inl c0_text)), (A0_place, .inl (cI, 100, .inl (upd e0_place_L7 (Int32.toNatClampNeg (e0_L7 15)) v1_L7))), (A0_kind, .inl (cI, 100, .inl r14.2.1)), (A0_value, .inl (cI, 100, .inl r14.2.2))] := hD
            refine lv_goto (tgt := 7) hx hb dX6_parts_107 (by decide) ?_
            exact ih7 r14.1 (upd e0_L7 15 ((e0_L7 15) + 1)) (upd e0_place_L7 (Int32.toNatClampNeg (e0_L7 15)) v1_L7) r14.2.1 r14.2.2 _ _ _ hres hP hD hS (lv_sub hl [1, 0] rfl)
        · have hres := ite_t hres h3
          refine lv_iinc (v := (v1_L7 + 1)) (lv' := [(1, .int (v1_L7 + 1)), (0, .ref A0)]) hx hb dX6_parts_26 hl (k := 1) rfl rfl (by decide) rfl (fun ls hl => ?_)
          refine lv_goto (tgt := 7) hx hb dX6_parts_29 (by decide) ?_
          exact ih7 (v1_L7 + 1) e0_L7 e0_place_L7 e0_kind_L7 e0_value_L7 _ _ _ hres hP hD hS (lv_sub hl [1, 0] rfl)
  exact Q7 FU 0 (upd c0 15 0) c0_place c0_kind c0_value _ _ _ hres hP hD hS (lv_sub hl [1, 0] rfl)
theorem hsX6_parts : yX6_parts.cls = RX6 ∧ yX6_parts.cls ≠ "java/lang/invoke/MethodHandle" ∧ yX6_parts.cls ≠ "java/lang/invoke/VarHandle" ∧ (parseMethodDescriptor yX6_parts.desc).map (fun d => d.parameters.length) = some 0 := by decide +kernel
set_option maxHeartbeats 4000000 in
set_option maxRecDepth 100000 in
theorem kX6_path (l : Launch) (G : va_G) (cI cZ : ClassId) (tl : List (ClassId × FieldType)) (sz : Nat) (A : Nat → Prop) (A0 A0_s A0_draft A0_kept A0_isKept A0_undone A0_seenI A0_seenJ A0_seenTime A0_text A0_kind A0_place A0_value A0_swallows A0_time A0_strength A0_which A0_told : Nat) (c0 c0_s c0_swallows : Nat → Int32) (x1 x2 x3 x4 : Int32) (res : Int32 × (Nat → Int32)) (hAe : A = va_A [o6 A0 c0 A0_s A0_draft A0_kept A0_isKept A0_undone A0_seenI A0_seenJ A0_seenTime A0_text A0_kind A0_place A0_value A0_swallows A0_time A0_strength A0_which A0_told, (A0_s, .inl (cI, 27, .inl c0_s)), (A0_swallows, .inl (cI, 4, .inl c0_swallows))] sz) (hres : fX6_path c0 c0_s c0_swallows x1 x2 x3 x4 = some res) : Met l yX6_path wsX6_path rX6_path (va_Pc [.ref A0, .int x1, .int x2, .int x3, .int x4] (PRW G cI cZ tl [o6 A0 c0 A0_s A0_draft A0_kept A0_isKept A0_undone A0_seenI A0_seenJ A0_seenTime A0_text A0_kind A0_place A0_value A0_swallows A0_time A0_strength A0_which A0_told, (A0_s, .inl (cI, 27, .inl c0_s)), (A0_swallows, .inl (cI, 4, .inl c0_swallows))] sz)) (Qiw res.1 G A [o6 A0 c0 A0_s A0_draft A0_kept A0_isKept A0_undone A0_seenI A0_seenJ A0_seenTime A0_text A0_kind A0_place A0_value A0_swallows A0_time A0_strength A0_which A0_told, (A0_s, .inl (cI, 27, .inl c0_s)), (A0_swallows, .inl (cI, 4, .inl res.2))]) 0 0 A := by
  refine Met.ofW (cc := cX6_path) (maxL := 8) (ret := (some .int)) (by decide) rfl ?_
  intro p e s m args below meth c s₁ B hml hv
  obtain ⟨rfl, hsz, hP, hK, hD0⟩ := hv
  have hx := B.exec
  have hb := B.bytes
  have hr := B.returns
  have hts := atoms_spec (ws := wsX6_path) B.pre
  have hown : s.vm.findClass RX6 = some m.cls := findClass_of_methodNamed B.named
  have hlocks := B.notSynchronized
  subst hsz
  have hD : va_D A [o6 A0 c0 A0_s A0_draft A0_kept A0_isKept A0_undone A0_seenI A0_seenJ A0_seenTime A0_text A0_kind A0_place A0_value A0_swallows A0_time A0_strength A0_which A0_told, (A0_s, .inl (cI, 27, .inl c0_s)), (A0_swallows, .inl (cI, 4, .inl c0_swallows))] := by rw [hAe]; exact hD0.self
  have hA : ∀ q : Nat, s.heap.size ≤ q → A q := fun q h => by rw [hAe]; exact Or.inr h
  clear hAe hD0
  have hS : va_S A s.heap s.heap [] := va_S.rf
  have hl := lv_entry ([.ref A0, .int x1, .int x2, .int x3, .int x4] : List Value) (n := 8) (Nat.le_of_ble_eq_true rfl)
  rw [lg_entry_eq]
  generalize (lg_sl ([.ref A0, .int x1, .int x2, .int x3, .int x4] : List Value) ++ List.replicate (8 - (lg_sl ([.ref A0, .int x1, .int x2, .int x3, .int x4] : List Value)).length) Slot.unset).toArray = ls at hl ⊢
  have hl : lv_has ls 8 [(0, .ref A0), (1, .int x1), (2, .int x2), (3, .int x3), (4, .int x4)] := hl
  refine lv_aload_n hx hb dX6_path_0 rfl (lv_at hl 0 rfl) ?_
  refine lv_iload_n hx hb dX6_path_1 rfl (lv_at hl 1 rfl) ?_
  obtain ⟨r1, hr1, hres⟩ := bi_1 hres
  refine x_cp (va_runV (As := [.int x1]) (rest := []) ⟨hx, hb, hml, hown, hts⟩ (kX6_isSeat l G cI cZ tl A0 A0_s A0_draft A0_kept A0_isKept A0_undone A0_seenI A0_seenJ A0_seenTime A0_text A0_kind A0_place A0_value A0_swallows A0_time A0_strength A0_which A0_told c0 c0_s x1 r1 hr1) (cwV 1 hts gX6_path_X6_isSeat rfl rfl rfl hsX6_isSeat ⟨Nat.le_of_ble_eq_true rfl, Nat.le_of_ble_eq_true rfl⟩) ⟨PRO_blind, va_recv hK.1 hP (ci := 6) (q0 := 0) rfl rfl, PRO_at (hP.sub (ws' := [o6 A0 c0 A0_s A0_draft A0_kept A0_isKept A0_undone A0_seenI A0_seenJ A0_seenTime A0_text A0_kind A0_place A0_value A0_swallows A0_time A0_strength A0_which A0_told, (A0_s, .inl (cI, 27, .inl c0_s))]) [0, 1] rfl) hK⟩ rfl rfl hl.1 rfl (lv_room (Nat.le_of_ble_eq_true rfl)) dX6_path_2 ⟨Nat.zero_le _, Nat.zero_le _⟩) ?_
  refine lv_if_eq (tgt := 26) hx hb dX6_path_5 (by decide) (fun h2 => ?_) (fun h2 => ?_)
  · have hres := ite_t hres h2
    refine lv_iconst (v := (-1)) hx hb dX6_path_26 (by decide) ?_
    obtain rfl := Option.some.inj hres
    exact W.iret hx hb hr (fun t ht hW => ⟨⟨_, (), rfl, rfl, by rw [ht]; exact hP, hD⟩, hS.F ht⟩) hS.2.2 dX6_path_27
  · have hres := ite_f hres h2
    refine lv_iload_n hx hb dX6_path_8 rfl (lv_at hl 2 rfl) ?_
    refine lv_iload_n hx hb dX6_path_9 rfl (lv_at hl 3 rfl) ?_
    obtain ⟨r3, hr3, hres⟩ := bi_1 hres
    refine x_cp (va_runS (As := [.int x2, .int x3]) (rest := []) ⟨hx, hb, hml, hown, hts⟩ (kX6_isImage l G cI cZ tl x2 x3 r3 hr3) (va_cwS 2 hts gX6_path_X6_isImage rfl rfl rfl hsX6_isImage ⟨Nat.le_of_ble_eq_true rfl, Nat.le_of_ble_eq_true rfl⟩) ⟨PRO_blind, PRO_at va_P0 hK⟩ rfl rfl hl.1 rfl (lv_room (Nat.le_of_ble_eq_true rfl)) dX6_path_10 ⟨Nat.zero_le _, Nat.zero_le _⟩) ?_
    refine lv_if_eq (tgt := 26) hx hb dX6_path_13 (by decide) (fun h4 => ?_) (fun h4 => ?_)
    · have hres := ite_t hres h4
      refine lv_iconst (v := (-1)) hx hb dX6_path_26 (by decide) ?_
      obtain rfl := Option.some.inj hres
      exact W.iret hx hb hr (fun t ht hW => ⟨⟨_, (), rfl, rfl, by rw [ht]; exact hP, hD⟩, hS.F ht⟩) hS.2.2 dX6_path_27
    · have hres := ite_f hres h4
      refine lv_iload hx hb dX6_path_16 (lv_at hl 4 rfl) ?_
      refine lv_iconst (v := 0) hx hb dX6_path_18 (by decide) ?_
      refine lv_iconst (v := 3) hx hb dX6_path_19 (by decide) ?_
      obtain ⟨r5, hr5, hres⟩ := bi_1 hres
      refine x_cp (va_runS (As := [.int x4, .int 0, .int 3]) (rest := []) ⟨hx, hb, hml, hown, hts⟩ (kX6_in l G cI cZ tl x4 0 3 r5 hr5) (va_cwS 3 hts gX6_path_X6_in rfl rfl rfl hsX6_in ⟨Nat.le_of_ble_eq_true rfl, Nat.le_of_ble_eq_true rfl⟩) ⟨PRO_blind, PRO_at va_P0 hK⟩ rfl rfl hl.1 rfl (lv_room (Nat.le_of_ble_eq_true rfl)) dX6_path_20 ⟨Nat.zero_le _, Nat.zero_le _⟩) ?_
      refine lv_if_ne (tgt := 28) hx hb dX6_path_23 (by decide) (fun h6 => ?_) (fun h6 => ?_)
      · have hres := ite_f hres h6
        refine lv_aload_n hx hb dX6_path_28 rfl (lv_at hl 0 rfl) ?_
        refine va_get (D := G) (ci := 6) (v := .ref A0_s) (C := RX6) (T := TX6) (N := 22) hx hb hts (fun w h => (List.mem_cons_of_mem _ (List.mem_append_right _ h))) hown hK.1 hP 0 rfl rfl 0 (by decide) (hts (.fieldLink RX6 7 "EchoSeatsModel" "s" "[I") (List.mem_of_getElem? (i := 1) rfl)) (fun _ h9 => h9) rfl dX6_path_29 ?_
        refine lv_bipush (v := 9) hx hb dX6_path_32 (by decide) ?_
        refine lv_iload_n hx hb dX6_path_34 rfl (lv_at hl 1 rfl) ?_
        refine lv_iadd hx hb dX6_path_35 ?_
        have g7 := gd_1 hres
        have hres := gd_2 hres
        refine x_iald hx hb hK hP 1 rfl (j := (Int32.toNatClampNeg (9 + x1))) rfl g7 dX6_path_36 ?_
        refine lv_topi (fun y8 ey8 => ?_)
        have hres := bnd_z ey8 hres
        refine lv_istore (lv' := [(5, .int y8), (0, .ref A0), (1, .int x1), (2, .int x2), (3, .int x3), (4, .int x4)]) hx hb dX6_path_37 hl (by decide) rfl (fun ls hl => ?_)
        refine lv_aload_n hx hb dX6_path_39 rfl (lv_at hl 1 rfl) ?_
        refine va_get (D := G) (ci := 6) (v := .ref A0_s) (C := RX6) (T := TX6) (N := 22) hx hb hts (fun w h => (List.mem_cons_of_mem _ (List.mem_append_right _ h))) hown hK.1 hP 0 rfl rfl 0 (by decide) (hts (.fieldLink RX6 7 "EchoSeatsModel" "s" "[I") (List.mem_of_getElem? (i := 1) rfl)) (fun _ h9 => h9) rfl dX6_path_40 ?_
        refine lv_bipush (v := 13) hx hb dX6_path_43 (by decide) ?_
        refine lv_iload_n hx hb dX6_path_45 rfl (lv_at hl 2 rfl) ?_
        refine lv_iadd hx hb dX6_path_46 ?_
        have g9 := gd_1 hres
        have hres := gd_2 hres
        refine x_iald hx hb hK hP 1 rfl (j := (Int32.toNatClampNeg (13 + x1))) rfl g9 dX6_path_47 ?_
        refine lv_topi (fun y10 ey10 => ?_)
        have hres := bnd_z ey10 hres
        refine lv_istore (lv' := [(6, .int y10), (5, .int y8), (0, .ref A0), (1, .int x1), (2, .int x2), (3, .int x3), (4, .int x4)]) hx hb dX6_path_48 hl (by decide) rfl (fun ls hl => ?_)
        refine lv_aload_n hx hb dX6_path_50 rfl (lv_at hl 2 rfl) ?_
        refine lv_iload_n hx hb dX6_path_51 rfl (lv_at hl 4 rfl) ?_
        refine lv_iload_n hx hb dX6_path_52 rfl (lv_at hl 5 rfl) ?_
        refine lv_iload hx hb dX6_path_53 (lv_at hl 1 rfl) ?_
        refine lv_iload hx hb dX6_path_55 (lv_at hl 0 rfl) ?_
        obtain ⟨r11, hr11, hres⟩ := bi_1 hres
        refine x_cp (va_runV (As := [.int x2, .int x3, .int y8, .int y10]) (rest := []) ⟨hx, hb, hml, hown, hts⟩ (kX6_wayOf l G cI cZ tl A0 A0_s A0_draft A0_kept A0_isKept A0_undone A0_seenI A0_seenJ A0_seenTime A0_text A0_kind A0_place A0_value A0_swallows A0_time A0_strength A0_which A0_told c0 c0_s x2 x3 y8 y10 r11 hr11) (cwV 4 hts gX6_path_X6_wayOf rfl rfl rfl hsX6_wayOf ⟨Nat.le_of_ble_eq_true rfl, Nat.le_of_ble_eq_true rfl⟩) ⟨PRO_blind, va_recv hK.1 hP (ci := 6) (q0 := 0) rfl rfl, PRO_at (hP.sub (ws' := [o6 A0 c0 A0_s A0_draft A0_kept A0_isKept A0_undone A0_seenI A0_seenJ A0_seenTime A0_text A0_kind A0_place A0_value A0_swallows A0_time A0_strength A0_which A0_told, (A0_s, .inl (cI, 27, .inl c0_s))]) [0, 1] rfl) hK⟩ rfl rfl hl.1 rfl (lv_room (Nat.le_of_ble_eq_true rfl)) dX6_path_57 ⟨Nat.zero_le _, Nat.zero_le _⟩) ?_
        refine lv_istore (lv' := [(7, .int r11), (6, .int y10), (5, .int y8), (0, .ref A0), (1, .int x1), (2, .int x2), (3, .int x3), (4, .int x4)]) hx hb dX6_path_60 hl (by decide) rfl (fun ls hl => ?_)
        refine lv_aload_n hx hb dX6_path_62 rfl (lv_at hl 3 rfl) ?_
        obtain ⟨r12, hr12, hres⟩ := bi_1 hres
        refine x_cv (wr := []) (w2 := [o6 A0 c0 A0_s A0_draft A0_kept A0_isKept A0_undone A0_seenI A0_seenJ A0_seenTime A0_text A0_kind A0_place A0_value A0_swallows A0_time A0_strength A0_which A0_told, (A0_s, .inl (cI, 27, .inl c0_s)), (A0_swallows, .inl (cI, 4, .inl r12))]) hP hD hS hA (va_runV (As := []) (rest := []) ⟨hx, hb, hml, hown, hts⟩ (kX6_swallowsNow l G cI cZ tl s.heap.size _ A0 A0_s A0_draft A0_kept A0_isKept A0_undone A0_seenI A0_seenJ A0_seenTime A0_text A0_kind A0_place A0_value A0_swallows A0_time A0_strength A0_which A0_told c0 c0_s c0_swallows r12 rfl hr12) (cwV 0 hts gX6_path_X6_swallowsNow rfl rfl rfl hsX6_swallowsNow ⟨Nat.le_of_ble_eq_true rfl, Nat.le_of_ble_eq_true rfl⟩) ⟨PRW_blind, va_recv hK.1 hP (ci := 6) (q0 := 0) rfl rfl, PRW_at (hP.sub (ws' := [o6 A0 c0 A0_s A0_draft A0_kept A0_isKept A0_undone A0_seenI A0_seenJ A0_seenTime A0_text A0_kind A0_place A0_value A0_swallows A0_time A0_strength A0_which A0_told, (A0_s, .inl (cI, 27, .inl c0_s)), (A0_swallows, .inl (cI, 4, .inl c0_swallows))]) [0, 1, 2] rfl) (hD.sub (ws' := [o6 A0 c0 A0_s A0_draft A0_kept A0_isKept A0_undone A0_seenI A0_seenJ A0_seenTime A0_text A0_kind A0_place A0_value A0_swallows A0_time A0_strength A0_which A0_told, (A0_s, .inl (cI, 27, .inl c0_s)), (A0_swallows, .inl (cI, 4, .inl c0_swallows))]) [0, 1, 2] (by decide) rfl) hK⟩ rfl rfl hl.1 rfl (lv_room (Nat.le_of_ble_eq_true rfl)) dX6_path_63 ⟨Nat.zero_le _, Nat.zero_le _⟩) [0, 1, 2] [] [0, 1, 2] rfl rfl (by decide) (by decide) rfl rfl (by decide) (fun H locs hP hD hS => ?_)
        refine lv_iload hx hb dX6_path_66 (lv_at hl 7 rfl) ?_
        refine lv_if_ne (tgt := 76) hx hb dX6_path_68 (by decide) (fun h13 => ?_) (fun h13 => ?_)
        · have hres := ite_f hres h13
          refine lv_iload hx hb dX6_path_76 (lv_at hl 7 rfl) ?_
          refine lv_iconst (v := 1) hx hb dX6_path_78 (by decide) ?_
          refine lv_icmp_ne (tgt := 90) hx hb dX6_path_79 (by decide) (fun h14 => ?_) (fun h14 => ?_)
          · have hres := ite_f hres h14
            refine lv_iload hx hb dX6_path_90 (lv_at hl 7 rfl) ?_
            refine lv_iconst (v := 2) hx hb dX6_path_92 (by decide) ?_
            refine lv_icmp_ne (tgt := 107) hx hb dX6_path_93 (by decide) (fun h15 => ?_) (fun h15 => ?_)
            · have hres := ite_f hres h15
              refine lv_aload_n hx hb dX6_path_107 rfl (lv_at hl 3 rfl) ?_
              refine lv_iload_n hx hb dX6_path_108 rfl (lv_at hl 5 rfl) ?_
              refine lv_iload_n hx hb dX6_path_109 rfl (lv_at hl 6 rfl) ?_
              refine lv_iload hx hb dX6_path_110 (lv_at hl 2 rfl) ?_
              refine lv_iload hx hb dX6_path_112 (lv_at hl 1 rfl) ?_
              obtain ⟨r16, hr16, hres⟩ := bi_1 hres
              refine x_cp (va_runV (As := [.int x2, .int x3, .int y8, .int y10]) (rest := []) ⟨hx, hb, hml, hown, hts⟩ (kX6_isHidden l G cI cZ tl A0 A0_s A0_draft A0_kept A0_isKept A0_undone A0_seenI A0_seenJ A0_seenTime A0_text A0_kind A0_place A0_value A0_swallows A0_time A0_strength A0_which A0_told c0 c0_s x2 x3 y8 y10 r16 hr16) (cwV 4 hts gX6_path_X6_isHidden rfl rfl rfl hsX6_isHidden ⟨Nat.le_of_ble_eq_true rfl, Nat.le_of_ble_eq_true rfl⟩) ⟨PRO_blind, va_recv hK.1 hP (ci := 6) (q0 := 0) rfl rfl, PRO_at (hP.sub (ws' := [o6 A0 c0 A0_s A0_draft A0_kept A0_isKept A0_undone A0_seenI A0_seenJ A0_seenTime A0_text A0_kind A0_place A0_value A0_swallows A0_time A0_strength A0_which A0_told, (A0_s, .inl (cI, 27, .inl c0_s))]) [0, 1] rfl) hK⟩ rfl rfl hl.1 rfl (lv_room (Nat.le_of_ble_eq_true rfl)) dX6_path_114 ⟨Nat.zero_le _, Nat.zero_le _⟩) ?_
              refine lv_if_eq (tgt := 124) hx hb dX6_path_117 (by decide) (fun h17 => ?_) (fun h17 => ?_)
              · have hres := ite_t hres h17
                refine lv_iconst (v := 0) hx hb dX6_path_124 (by decide) ?_
                obtain rfl := Option.some.inj hres
                exact W.iret hx hb hr (fun t ht hW => ⟨⟨_, (), rfl, rfl, by rw [ht]; exact hP, hD⟩, hS.F ht⟩) hS.2.2 dX6_path_125
              · have hres := ite_f hres h17
                refine lv_iconst (v := 1) hx hb dX6_path_120 (by decide) ?_
                refine lv_goto (tgt := 125) hx hb dX6_path_121 (by decide) ?_
                obtain rfl := Option.some.inj hres
                exact W.iret hx hb hr (fun t ht hW => ⟨⟨_, (), rfl, rfl, by rw [ht]; exact hP, hD⟩, hS.F ht⟩) hS.2.2 dX6_path_125
            · have hres := ite_t hres h15
              refine lv_aload_n hx hb dX6_path_96 rfl (lv_at hl 3 rfl) ?_
              refine lv_iload_n hx hb dX6_path_97 rfl (lv_at hl 5 rfl) ?_
              refine lv_iload_n hx hb dX6_path_98 rfl (lv_at hl 6 rfl) ?_
              refine lv_iload hx hb dX6_path_99 (lv_at hl 0 rfl) ?_
              obtain ⟨r18, hr18, hres⟩ := bi_1 hres
              refine x_cp (va_runV (As := [.int x2, .int x3, .int r11]) (rest := []) ⟨hx, hb, hml, hown, hts⟩ (kX6_strengthOf l G cI cZ tl A0 A0_s A0_draft A0_kept A0_isKept A0_undone A0_seenI A0_seenJ A0_seenTime A0_text A0_kind A0_place A0_value A0_swallows A0_time A0_strength A0_which A0_told c0 r12 x2 x3 r11 r18 hr18) (cwV 3 hts gX6_path_X6_strengthOf rfl rfl rfl hsX6_strengthOf ⟨Nat.le_of_ble_eq_true rfl, Nat.le_of_ble_eq_true rfl⟩) ⟨PRO_blind, va_recv hK.1 hP (ci := 6) (q0 := 0) rfl rfl, PRO_at (hP.sub (ws' := [o6 A0 c0 A0_s A0_draft A0_kept A0_isKept A0_undone A0_seenI A0_seenJ A0_seenTime A0_text A0_kind A0_place A0_value A0_swallows A0_time A0_strength A0_which A0_told, (A0_swallows, .inl (cI, 4, .inl r12))]) [0, 2] rfl) hK⟩ rfl rfl hl.1 rfl (lv_room (Nat.le_of_ble_eq_true rfl)) dX6_path_101 ⟨Nat.zero_le _, Nat.zero_le _⟩) ?_
              refine lv_goto (tgt := 125) hx hb dX6_path_104 (by decide) ?_
              obtain rfl := Option.some.inj hres
              exact W.iret hx hb hr (fun t ht hW => ⟨⟨_, (), rfl, rfl, by rw [ht]; exact hP, hD⟩, hS.F ht⟩) hS.2.2 dX6_path_125
          · have hres := ite_t hres h14
            refine lv_iload hx hb dX6_path_82 (lv_at hl 0 rfl) ?_
            obtain ⟨r19, hr19, hres⟩ := bi_1 hres
            refine x_cp (va_runS (As := [.int r11]) (rest := []) ⟨hx, hb, hml, hown, hts⟩ (kX6_timeOf l G cI cZ tl r11 r19 hr19) (va_cwS 1 hts gX6_path_X6_timeOf rfl rfl rfl hsX6_timeOf ⟨Nat.le_of_ble_eq_true rfl, Nat.le_of_ble_eq_true rfl⟩) ⟨PRO_blind, PRO_at va_P0 hK⟩ rfl rfl hl.1 rfl (lv_room (Nat.le_of_ble_eq_true rfl)) dX6_path_84 ⟨Nat.zero_le _, Nat.zero_le _⟩) ?_
            refine lv_goto (tgt := 125) hx hb dX6_path_87 (by decide) ?_
            obtain rfl := Option.some.inj hres
            exact W.iret hx hb hr (fun t ht hW => ⟨⟨_, (), rfl, rfl, by rw [ht]; exact hP, hD⟩, hS.F ht⟩) hS.2.2 dX6_path_125
        · have hres := ite_t hres h13
          refine lv_iload hx hb dX6_path_71 (lv_at hl 0 rfl) ?_
          refine lv_goto (tgt := 125) hx hb dX6_path_73 (by decide) ?_
          obtain rfl := Option.some.inj hres
          exact W.iret hx hb hr (fun t ht hW => ⟨⟨_, (), rfl, rfl, by rw [ht]; exact hP, hD⟩, hS.F ht⟩) hS.2.2 dX6_path_125
      · have hres := ite_t hres h6
        refine lv_iconst (v := (-1)) hx hb dX6_path_26 (by decide) ?_
        obtain rfl := Option.some.inj hres
        exact W.iret hx hb hr (fun t ht hW => ⟨⟨_, (), rfl, rfl, by rw [ht]; exact hP, hD⟩, hS.F ht⟩) hS.2.2 dX6_path_27
theorem hsX6_path : yX6_path.cls = RX6 ∧ yX6_path.cls ≠ "java/lang/invoke/MethodHandle" ∧ yX6_path.cls ≠ "java/lang/invoke/VarHandle" ∧ (parseMethodDescriptor yX6_path.desc).map (fun d => d.parameters.length) = some 4 := by decide +kernel
set_option maxHeartbeats 4000000 in
set_option maxRecDepth 100000 in
theorem kX6_placeOf (l : Launch) (G : va_G) (cI cZ : ClassId) (tl : List (ClassId × FieldType)) (A0 A0_s A0_draft A0_kept A0_isKept A0_undone A0_seenI A0_seenJ A0_seenTime A0_text A0_kind A0_place A0_value A0_swallows A0_time A0_strength A0_which A0_told : Nat) (c0 c0_place : Nat → Int32) (x1 : Int32) (res : Int32) (hres : fX6_placeOf c0 c0_place x1 = some res) : Met l yX6_placeOf wsX6_placeOf rX6_placeOf (va_Pc [.ref A0, .int x1] (PRO G cI cZ tl [o6 A0 c0 A0_s A0_draft A0_kept A0_isKept A0_undone A0_seenI A0_seenJ A0_seenTime A0_text A0_kind A0_place A0_value A0_swallows A0_time A0_strength A0_which A0_told, (A0_place, .inl (cI, 100, .inl c0_place))])) (Sp res) 0 0 (fun _ => False) := by
  refine Met.ofW (cc := cX6_placeOf) (maxL := 2) (ret := (some .int)) (by decide) rfl ?_
  intro p e s m args below meth c s₁ B hml hv
  obtain ⟨rfl, hP, hK⟩ := hv
  have hx := B.exec
  have hb := B.bytes
  have hr := B.returns
  have hts := atoms_spec (ws := wsX6_placeOf) B.pre
  have hown : s.vm.findClass RX6 = some m.cls := findClass_of_methodNamed B.named
  have hlocks := B.notSynchronized
  have hl := lv_entry ([.ref A0, .int x1] : List Value) (n := 2) (Nat.le_of_ble_eq_true rfl)
  rw [lg_entry_eq]
  generalize (lg_sl ([.ref A0, .int x1] : List Value) ++ List.replicate (2 - (lg_sl ([.ref A0, .int x1] : List Value)).length) Slot.unset).toArray = ls at hl ⊢
  have hl : lv_has ls 2 [(0, .ref A0), (1, .int x1)] := hl
  refine lv_iload_n hx hb dX6_placeOf_0 rfl (lv_at hl 1 rfl) ?_
  refine lv_aload_n hx hb dX6_placeOf_1 rfl (lv_at hl 0 rfl) ?_
  refine va_get (D := G) (ci := 6) (v := .int (c0 15)) (C := RX6) (T := TX6) (N := 22) hx hb hts (fun w h => (List.mem_cons_of_mem _ (List.mem_append_right _ h))) hown hK.1 hP 0 rfl rfl 15 (by decide) (hts (.fieldLink RX6 90 "EchoSeatsModel" "tokens" "I") (List.mem_of_getElem? (i := 1) rfl)) (fun _ h9 => h9) rfl dX6_placeOf_2 ?_
  refine lv_icmp_ge (tgt := 17) hx hb dX6_placeOf_5 (by decide) (fun h1 => ?_) (fun h1 => ?_)
  · have hres := ite_t hres h1
    refine lv_aload_n hx hb dX6_placeOf_17 rfl (lv_at hl 0 rfl) ?_
    refine va_get (D := G) (ci := 6) (v := .int (c0 11)) (C := RX6) (T := TX6) (N := 22) hx hb hts (fun w h => (List.mem_cons_of_mem _ (List.mem_append_right _ h))) hown hK.1 hP 0 rfl rfl 11 (by decide) (hts (.fieldLink RX6 83 "EchoSeatsModel" "typed" "I") (List.mem_of_getElem? (i := 3) rfl)) (fun _ h9 => h9) rfl dX6_placeOf_18 ?_
    obtain rfl := Option.some.inj hres
    exact W.iret hx hb hr (fun t ht hW => ⟨rfl, ht⟩) (fun q h => absurd h List.not_mem_nil) dX6_placeOf_21
  · have hres := ite_f hres h1
    refine lv_aload_n hx hb dX6_placeOf_8 rfl (lv_at hl 0 rfl) ?_
    refine va_get (D := G) (ci := 6) (v := .ref A0_place) (C := RX6) (T := TX6) (N := 22) hx hb hts (fun w h => (List.mem_cons_of_mem _ (List.mem_append_right _ h))) hown hK.1 hP 0 rfl rfl 13 (by decide) (hts (.fieldLink RX6 41 "EchoSeatsModel" "place" "[I") (List.mem_of_getElem? (i := 2) rfl)) (fun _ h9 => h9) rfl dX6_placeOf_9 ?_
    refine lv_iload_n hx hb dX6_placeOf_12 rfl (lv_at hl 1 rfl) ?_
    have g2 := gd_1 hres
    have hres := gd_2 hres
    refine x_iald hx hb hK hP 1 rfl (j := (Int32.toNatClampNeg x1)) rfl g2 dX6_placeOf_13 ?_
    refine lv_goto (tgt := 21) hx hb dX6_placeOf_14 (by decide) ?_
    obtain rfl := Option.some.inj hres
    exact W.iret hx hb hr (fun t ht hW => ⟨rfl, ht⟩) (fun q h => absurd h List.not_mem_nil) dX6_placeOf_21
theorem hsX6_placeOf : yX6_placeOf.cls = RX6 ∧ yX6_placeOf.cls ≠ "java/lang/invoke/MethodHandle" ∧ yX6_placeOf.cls ≠ "java/lang/invoke/VarHandle" ∧ (parseMethodDescriptor yX6_placeOf.desc).map (fun d => d.parameters.length) = some 1 := by decide +kernel
set_option maxHeartbeats 4000000 in
set_option maxRecDepth 100000 in
theorem kX6_room (l : Launch) (G : va_G) (cI cZ : ClassId) (tl : List (ClassId × FieldType)) (sz : Nat) (A : Nat → Prop) (A0 A0_s A0_draft A0_kept A0_isKept A0_undone A0_seenI A0_seenJ A0_seenTime A0_text A0_kind A0_place A0_value A0_swallows A0_time A0_strength A0_which A0_told : Nat) (c0 c0_text c0_place c0_kind c0_value c0_draft c0_s c0_isKept : Nat → Int32) (res : Int32 × (Nat → Int32) × (Nat → Int32) × (Nat → Int32) × (Nat → Int32) × (Nat → Int32) × (Nat → Int32) × (Nat → Int32)) (hAe : A = va_A [o6 A0 c0 A0_s A0_draft A0_kept A0_isKept A0_undone A0_seenI A0_seenJ A0_seenTime A0_text A0_kind A0_place A0_value A0_swallows A0_time A0_strength A0_which A0_told, (A0_text, .inl (cI, 100, .inl c0_text)), (A0_place, .inl (cI, 100, .inl c0_place)), (A0_kind, .inl (cI, 100, .inl c0_kind)), (A0_value, .inl (cI, 100, .inl c0_value)), (A0_draft, .inl (cI, 27, .inl c0_draft)), (A0_s, .inl (cI, 27, .inl c0_s)), (A0_isKept, .inl (cZ, 2, .inl c0_isKept))] sz) (hres : fX6_room c0 c0_text c0_place c0_kind c0_value c0_draft c0_s c0_isKept = some res) : Met l yX6_room wsX6_room rX6_room (va_Pc [.ref A0] (PRW G cI cZ tl [o6 A0 c0 A0_s A0_draft A0_kept A0_isKept A0_undone A0_seenI A0_seenJ A0_seenTime A0_text A0_kind A0_place A0_value A0_swallows A0_time A0_strength A0_which A0_told, (A0_text, .inl (cI, 100, .inl c0_text)), (A0_place, .inl (cI, 100, .inl c0_place)), (A0_kind, .inl (cI, 100, .inl c0_kind)), (A0_value, .inl (cI, 100, .inl c0_value)), (A0_draft, .inl (cI, 27, .inl c0_draft)), (A0_s, .inl (cI, 27, .inl c0_s)), (A0_isKept, .inl (cZ, 2, .inl c0_isKept))] sz)) (Qiw res.1 G A [o6 A0 res.2.1 A0_s A0_draft A0_kept A0_isKept A0_undone A0_seenI A0_seenJ A0_seenTime A0_text A0_kind A0_place A0_value A0_swallows A0_time A0_strength A0_which A0_told, (A0_text, .inl (cI, 100, .inl c0_text)), (A0_place, .inl (cI, 100, .inl res.2.2.1)), (A0_kind, .inl (cI, 100, .inl res.2.2.2.1)), (A0_value, .inl (cI, 100, .inl res.2.2.2.2.1)), (A0_draft, .inl (cI, 27, .inl res.2.2.2.2.2.1)), (A0_s, .inl (cI, 27, .inl res.2.2.2.2.2.2.1)), (A0_isKept, .inl (cZ, 2, .inl res.2.2.2.2.2.2.2))]) 0 0 A := by
  refine Met.ofW (cc := cX6_room) (maxL := 4) (ret := (some .int)) (by decide) rfl ?_
  intro p e s m args below meth c s₁ B hml hv
  obtain ⟨rfl, hsz, hP, hK, hD0⟩ := hv
  have hx := B.exec
  have hb := B.bytes
  have hr := B.returns
  have hts := atoms_spec (ws := wsX6_room) B.pre
  have hown : s.vm.findClass RX6 = some m.cls := findClass_of_methodNamed B.named
  have hlocks := B.notSynchronized
  subst hsz
  have hD : va_D A [o6 A0 c0 A0_s A0_draft A0_kept A0_isKept A0_undone A0_seenI A0_seenJ A0_seenTime A0_text A0_kind A0_place A0_value A0_swallows A0_time A0_strength A0_which A0_told, (A0_text, .inl (cI, 100, .inl c0_text)), (A0_place, .inl (cI, 100, .inl c0_place)), (A0_kind, .inl (cI, 100, .inl c0_kind)), (A0_value, .inl (cI, 100, .inl c0_value)), (A0_draft, .inl (cI, 27, .inl c0_draft)), (A0_s, .inl (cI, 27, .inl c0_s)), (A0_isKept, .inl (cZ, 2, .inl c0_isKept))] := by rw [hAe]; exact hD0.self
  have hA : ∀ q : Nat, s.heap.size ≤ q → A q := fun q h => by rw [hAe]; exact Or.inr h
  clear hAe hD0
  have hS : va_S A s.heap s.heap [] := va_S.rf
  have hl := lv_entry ([.ref A0] : List Value) (n := 4) (Nat.le_of_ble_eq_true rfl)
  rw [lg_entry_eq]
  generalize (lg_sl ([.ref A0] : List Value) ++ List.replicate (4 - (lg_sl ([.ref A0] : List Value)).length) Slot.unset).toArray = ls at hl ⊢
  have hl : lv_has ls 4 [(0, .ref A0)] := hl
  refine lv_aload_n hx hb dX6_room_0 rfl (lv_at hl 0 rfl) ?_
  obtain ⟨r1, hr1, hres⟩ := bi_1 hres
  refine x_cv (wr := [(A0_draft, .inl (cI, 27, .inl c0_draft)), (A0_s, .inl (cI, 27, .inl c0_s)), (A0_isKept, .inl (cZ, 2, .inl c0_isKept))]) (w2 := [o6 A0 r1.1 A0_s A0_draft A0_kept A0_isKept A0_undone A0_seenI A0_seenJ A0_seenTime A0_text A0_kind A0_place A0_value A0_swallows A0_time A0_strength A0_which A0_told, (A0_text, .inl (cI, 100, .inl c0_text)), (A0_place, .inl (cI, 100, .inl r1.2.1)), (A0_kind, .inl (cI, 100, .inl r1.2.2.1)), (A0_value, .inl (cI, 100, .inl r1.2.2.2)), (A0_draft, .inl (cI, 27, .inl c0_draft)), (A0_s, .inl (cI, 27, .inl c0_s)), (A0_isKept, .inl (cZ, 2, .inl c0_isKept))]) hP hD hS hA (va_runV (As := []) (rest := []) ⟨hx, hb, hml, hown, hts⟩ (kX6_parts l G cI cZ tl s.heap.size _ A0 A0_s A0_draft A0_kept A0_isKept A0_undone A0_seenI A0_seenJ A0_seenTime A0_text A0_kind A0_place A0_value A0_swallows A0_time A0_strength A0_which A0_told c0 c0_text c0_place c0_kind c0_value r1 rfl hr1) (cwV 0 hts gX6_room_X6_parts rfl rfl rfl hsX6_parts ⟨Nat.le_of_ble_eq_true rfl, Nat.le_of_ble_eq_true rfl⟩) ⟨PRW_blind, va_recv hK.1 hP (ci := 6) (q0 := 0) rfl rfl, PRW_at (hP.sub (ws' := [o6 A0 c0 A0_s A0_draft A0_kept A0_isKept A0_undone A0_seenI A0_seenJ A0_seenTime A0_text A0_kind A0_place A0_value A0_swallows A0_time A0_strength A0_which A0_told, (A0_text, .inl (cI, 100, .inl c0_text)), (A0_place, .inl (cI, 100, .inl c0_place)), (A0_kind, .inl (cI, 100, .inl c0_kind)), (A0_value, .inl (cI, 100, .inl c0_value))]) [0, 1, 2, 3, 4] rfl) (hD.sub (ws' := [o6 A0 c0 A0_s A0_draft A0_kept A0_isKept A0_undone A0_seenI A0_seenJ A0_seenTime A0_text A0_kind A0_place A0_value A0_swallows A0_time A0_strength A0_which A0_told, (A0_text, .inl (cI, 100, .inl c0_text)), (A0_place, .inl (cI, 100, .inl c0_place)), (A0_kind, .inl (cI, 100, .inl c0_kind)), (A0_value, .inl (cI, 100, .inl c0_value))]) [0, 1, 2, 3, 4] (by decide) rfl) hK⟩ rfl rfl hl.1 rfl (lv_room (Nat.le_of_ble_eq_true rfl)) dX6_room_1 ⟨Nat.zero_le _, Nat.zero_le _⟩) [0, 1, 2, 3, 4] [5, 6, 7] [3, 4, 5, 6, 7, 0, 1, 2] rfl rfl (by decide) (by decide) rfl rfl (by decide) (fun H locs hP hD hS => ?_)
  refine lv_aload_n hx hb dX6_room_4 rfl (lv_at hl 0 rfl) ?_
  obtain ⟨r2, hr2, hres⟩ := bi_1 hres
  refine x_cv (wr := [(A0_text, .inl (cI, 100, .inl c0_text)), (A0_place, .inl (cI, 100, .inl r1.2.1)), (A0_kind, .inl (cI, 100, .inl r1.2.2.1)), (A0_value, .inl (cI, 100, .inl r1.2.2.2)), (A0_s, .inl (cI, 27, .inl c0_s)), (A0_isKept, .inl (cZ, 2, .inl c0_isKept))]) (w2 := [o6 A0 r1.1 A0_s A0_draft A0_kept A0_isKept A0_undone A0_seenI A0_seenJ A0_seenTime A0_text A0_kind A0_place A0_value A0_swallows A0_time A0_strength A0_which A0_told, (A0_text, .inl (cI, 100, .inl c0_text)), (A0_place, .inl (cI, 100, .inl r1.2.1)), (A0_kind, .inl (cI, 100, .inl r1.2.2.1)), (A0_value, .inl (cI, 100, .inl r1.2.2.2)), (A0_draft, .inl (cI, 27, .inl r2)), (A0_s, .inl (cI, 27, .inl c0_s)), (A0_isKept, .inl (cZ, 2, .inl c0_isKept))]) hP hD hS hA (va_runV (As := []) (rest := []) ⟨hx, hb, hml, hown, hts⟩ (kX6_begins l G cI cZ tl H.size _ A0 A0_s A0_draft A0_kept A0_isKept A0_undone A0_seenI A0_seenJ A0_seenTime A0_text A0_kind A0_place A0_value A0_swallows A0_time A0_strength A0_which A0_told r1.1 c0_draft r2 rfl hr2) (cwV 0 hts gX6_room_X6_begins rfl rfl rfl hsX6_begins ⟨Nat.le_of_ble_eq_true rfl, Nat.le_of_ble_eq_true rfl⟩) ⟨PRW_blind, va_recv hK.1 hP (ci := 6) (q0 := 0) rfl rfl, PRW_at (hP.sub (ws' := [o6 A0 r1.1 A0_s A0_draft A0_kept A0_isKept A0_undone A0_seenI A0_seenJ A0_seenTime A0_text A0_kind A0_place A0_value A0_swallows A0_time A0_strength A0_which A0_told, (A0_draft, .inl (cI, 27, .inl c0_draft))]) [0, 5] rfl) (hD.sub (ws' := [o6 A0 r1.1 A0_s A0_draft A0_kept A0_isKept A0_undone A0_seenI A0_seenJ A0_seenTime A0_text A0_kind A0_place A0_value A0_swallows A0_time A0_strength A0_which A0_told, (A0_draft, .inl (cI, 27, .inl c0_draft))]) [0, 5] (by decide) rfl) hK⟩ rfl rfl hl.1 rfl (lv_room (Nat.le_of_ble_eq_true rfl)) dX6_room_5 ⟨Nat.zero_le _, Nat.zero_le _⟩) [0, 5] [1, 2, 3, 4, 6, 7] [6, 0, 1, 2, 3, 7, 4, 5] rfl rfl (by decide) (by decide) rfl rfl (by decide) (fun H locs hP hD hS => ?_)
  refine lv_iconst (v := 0) hx hb dX6_room_8 (by decide) ?_
  refine lv_istore_n (lv' := [(1, .int 0), (0, .ref A0)]) hx hb dX6_room_9 rfl hl (by decide) rfl (fun ls hl => ?_)
  refine lv_iconst (v := 0) hx hb dX6_room_10 (by decide) ?_
  refine lv_istore_n (lv' := [(2, .int 0), (1, .int 0), (0, .ref A0)]) hx hb dX6_room_11 rfl hl (by decide) rfl (fun ls hl => ?_)
  have Q12 : ∀ (e0_L12 : (Nat → Int32)) (e0_place_L12 : (Nat → Int32)) (e0_kind_L12 : (Nat → Int32)) (e0_value_L12 : (Nat → Int32)) (e0_s_L12 : (Nat → Int32)) (e0_isKept_L12 : (Nat → Int32)) (n12 : Nat) (v1_L12 : Int32) (v2_L12 : Int32) (e0_draft_L12 : (Nat → Int32)) (H : Heap) (locs : List Loc) (ls : Array Slot), LPX (fX6_room_L12 c0_text e0_L12 e0_place_L12 e0_kind_L12 e0_value_L12 e0_s_L12 e0_isKept_L12) n12 (v1_L12, v2_L12, e0_draft_L12) = some res → va_P G vwCl [o6 A0 e0_L12 A0_s A0_draft A0_kept A0_isKept A0_undone A0_seenI A0_seenJ A0_seenTime A0_text A0_kind A0_place A0_value A0_swallows A0_time A0_strength A0_which A0_told, (A0_text, .inl (cI, 100, .inl c0_text)), (A0_place, .inl (cI, 100, .inl e0_place_L12)), (A0_kind, .inl (cI, 100, .inl e0_kind_L12)), (A0_value, .inl (cI, 100, .inl e0_value_L12)), (A0_draft, .inl (cI, 27, .inl e0_draft_L12)), (A0_s, .inl (cI, 27, .inl e0_s_L12)), (A0_isKept, .inl (cZ, 2, .inl e0_isKept_L12))] H → va_D A [o6 A0 e0_L12 A0_s A0_draft A0_kept A0_isKept A0_undone A0_seenI A0_seenJ A0_seenTime A0_text A0_kind A0_place A0_value A0_swallows A0_time A0_strength A0_which A0_told, (A0_text, .inl (cI, 100, .inl c0_text)), (A0_place, .inl (cI, 100, .inl e0_place_L12)), (A0_kind, .inl (cI, 100, .inl e0_kind_L12)), (A0_value, .inl (cI, 100, .inl e0_value_L12)), (A0_draft, .inl (cI, 27, .inl e0_draft_L12)), (A0_s, .inl (cI, 27, .inl e0_s_L12)), (A0_isKept, .inl (cZ, 2, .inl e0_isKept_L12))] → va_S A s.heap H locs → lv_has ls 4 [(0, .ref A0), (1, .int v1_L12), (2, .int v2_L12)] → WRW p l e wsX6_room rX6_room s m ([.ref A0] : List Value).toArray below meth c H locs (Qiw res.1 G A [o6 A0 res.2.1 A0_s A0_draft A0_kept A0_isKept A0_undone A0_seenI A0_seenJ A0_seenTime A0_text A0_kind A0_place A0_value A0_swallows A0_time A0_strength A0_which A0_told, (A0_text, .inl (cI, 100, .inl c0_text)), (A0_place, .inl (cI, 100, .inl res.2.2.1)), (A0_kind, .inl (cI, 100, .inl res.2.2.2.1)), (A0_value, .inl (cI, 100, .inl res.2.2.2.2.1)), (A0_draft, .inl (cI, 27, .inl res.2.2.2.2.2.1)), (A0_s, .inl (cI, 27, .inl res.2.2.2.2.2.2.1)), (A0_isKept, .inl (cZ, 2, .inl res.2.2.2.2.2.2.2))]) A (F0 m 12 ls []) := by
    intro e0_L12 e0_place_L12 e0_kind_L12 e0_value_L12 e0_s_L12 e0_isKept_L12 n12
    induction n12 with
    | zero =>
      intro v1_L12 v2_L12 e0_draft_L12 H locs ls hres
      exact absurd (LPX_0.symm.trans hres) (fun h => by cases h)
    | succ n12 ih12 =>
      intro v1_L12 v2_L12 e0_draft_L12 H locs ls hres hP hD hS hl
      have hres := LPX_s.symm.trans hres
      refine lv_iload_n hx hb dX6_room_12 rfl (lv_at hl 2 rfl) ?_
      refine lv_aload_n hx hb dX6_room_13 rfl (lv_at hl 0 rfl) ?_
      refine va_get (D := G) (ci := 6) (v := .int (e0_L12 15)) (C := RX6) (T := TX6) (N := 22) hx hb hts (fun w h => (List.mem_cons_of_mem _ (List.mem_append_right _ h))) hown hK.1 hP 0 rfl rfl 15 (by decide) (hts (.fieldLink RX6 90 "EchoSeatsModel" "tokens" "I") (List.mem_of_getElem? (i := 1) rfl)) (fun _ h9 => h9) rfl dX6_room_14 ?_
      refine lv_icmp_ge (tgt := 71) hx hb dX6_room_17 (by decide) (fun h3 => ?_) (fun h3 => ?_)
      · have hres := ite_t hres h3
        refine lv_aload_n hx hb dX6_room_71 rfl (lv_at hl 0 rfl) ?_
        obtain ⟨r4, hr4, hres⟩ := bi_1 hres
        refine x_cv (wr := [(A0_text, .inl (cI, 100, .inl c0_text)), (A0_place, .inl (cI, 100, .inl e0_place_L12)), (A0_kind, .inl (cI, 100, .inl e0_kind_L12)), (A0_value, .inl (cI, 100, .inl e0_value_L12))]) (w2 := [o6 A0 r4.1 A0_s A0_draft A0_kept A0_isKept A0_undone A0_seenI A0_seenJ A0_seenTime A0_text A0_kind A0_place A0_value A0_swallows A0_time A0_strength A0_which A0_told, (A0_text, .inl (cI, 100, .inl c0_text)), (A0_place, .inl (cI, 100, .inl e0_place_L12)), (A0_kind, .inl (cI, 100, .inl e0_kind_L12)), (A0_value, .inl (cI, 100, .inl e0_value_L12)), (A0_draft, .inl (cI, 27, .inl e0_draft_L12)), (A0_s, .inl (cI, 27, .inl r4.2.1)), (A0_isKept, .inl (cZ, 2, .inl r4.2.2))]) hP hD hS hA (va_runV (As := []) (rest := []) ⟨hx, hb, hml, hown, hts⟩ (kX6_becomes l G cI cZ tl H.size _ A0 A0_s A0_draft A0_kept A0_isKept A0_undone A0_seenI A0_seenJ A0_seenTime A0_text A0_kind A0_place A0_value A0_swallows A0_time A0_strength A0_which A0_told e0_L12 e0_draft_L12 e0_s_L12 e0_isKept_L12 r4 rfl hr4) (cwV 0 hts gX6_room_X6_becomes rfl rfl rfl hsX6_becomes ⟨Nat.le_of_ble_eq_true rfl, Nat.le_of_ble_eq_true rfl⟩) ⟨PRW_blind, va_recv hK.1 hP (ci := 6) (q0 := 0) rfl rfl, PRW_at (hP.sub (ws' := [o6 A0 e0_L12 A0_s A0_draft A0_kept A0_isKept A0_undone A0_seenI A0_seenJ A0_seenTime A0_text A0_kind A0_place A0_value A0_swallows A0_time A0_strength A0_which A0_told, (A0_draft, .inl (cI, 27, .inl e0_draft_L12)), (A0_s, .inl (cI, 27, .inl e0_s_L12)), (A0_isKept, .inl (cZ, 2, .inl e0_isKept_L12))]) [0, 5, 6, 7] rfl) (hD.sub (ws' := [o6 A0 e0_L12 A0_s A0_draft A0_kept A0_isKept A0_undone A0_seenI A0_seenJ A0_seenTime A0_text A0_kind A0_place A0_value A0_swallows A0_time A0_strength A0_which A0_told, (A0_draft, .inl (cI, 27, .inl e0_draft_L12)), (A0_s, .inl (cI, 27, .inl e0_s_L12)), (A0_isKept, .inl (cZ, 2, .inl e0_isKept_L12))]) [0, 5, 6, 7] (by decide) rfl) hK⟩ rfl rfl hl.1 rfl (lv_room (Nat.le_of_ble_eq_true rfl)) dX6_room_72 ⟨Nat.zero_le _, Nat.zero_le _⟩) [0, 5, 6, 7] [1, 2, 3, 4] [4, 0, 1, 2, 3, 5, 6, 7] rfl rfl (by decide) (by decide) rfl rfl (by decide) (fun H locs hP hD hS => ?_)
        refine lv_aload_n hx hb dX6_room_75 rfl (lv_at hl 0 rfl) ?_
        refine lv_iconst (v := 0) hx hb dX6_room_76 (by decide) ?_
        refine va_put (D := G) (ci := 6) (v := .int 0) (ty := .int) (C := RX6) (T := TX6) (N := 22) hx hb hts (fun w h => (List.mem_cons_of_mem _ (List.mem_append_right _ h))) tyX6 tyX6_ok nmX6 hown hK.1 hP hD hS 0 rfl rfl 11 (by decide) (hts (.fieldLink RX6 83 "EchoSeatsModel" "typed" "I") (List.mem_of_getElem? (i := 3) rfl)) (fun _ h9 => h9) rfl (tyX6_ok 11 (by decide)) rfl rfl (Nat.le_of_ble_eq_true rfl) dX6_room_77 (fun H locs hP hD hS => ?_)
        have hP : va_P G vwCl [o6 A0 (upd r4.1 11 0) A0_s A0_draft A0_kept A0_isKept A0_undone A0_seenI A0_seenJ A0_seenTime A0_text A0_kind A0_place A0_value A0_swallows A0_time A0_strength A0_which A0_told, (A0_text, .inl (cI, 100, .inl c0_text)), (A0_place, .inl (cI, 100, .inl e0_place_L12)), (A0_kind, .inl (cI, 100, .inl e0_kind_L12)), (A0_value, .inl (cI, 100, .inl e0_value_L12)), (A0_draft, .inl (cI, 27, .inl e0_draft_L12)), (A0_s, .inl (cI, 27, .inl r4.2.1)), (A0_isKept, .inl (cZ, 2, .inl r4.2.2))] H := hP
        have hD : va_D A [o6 A0 (upd r4.1 11 0) A0_s A0_draft A0_kept A0_isKept A0_undone A0_seenI A0_seenJ A0_seenTime A0_text A0_kind A0_place A0_value A0_swallows A0_time A0_strength A0_which A0_told, (A0_text, .inl (cI, 100, .inl c0_text)), (A0_place, .inl (cI, 100, .inl e0_place_L12)), (A0_kind, .inl (cI, 100, .inl e0_kind_L12)), (A0_value, .inl (cI, 100, .inl e0_value_L12)), (A0_draft, .inl (cI, 27, .inl e0_draft_L12)), (A0_s, .inl (cI, 27, .inl r4.2.1)), (A0_isKept, .inl (cZ, 2, .inl r4.2.2))] := hD
        refine lv_iload_n hx hb dX6_room_80 rfl (lv_at hl 1 rfl) ?_
        obtain rfl := Option.some.inj hres
        exact W.iret hx hb hr (fun t ht hW => ⟨⟨_, (), rfl, rfl, by rw [ht]; exact hP, hD⟩, hS.F ht⟩) hS.2.2 dX6_room_81
      · have hres := ite_f hres h3
        refine lv_aload_n hx hb dX6_room_20 rfl (lv_at hl 0 rfl) ?_
        refine lv_iload_n hx hb dX6_room_21 rfl (lv_at hl 2 rfl) ?_
        obtain ⟨r5, hr5, hres⟩ := bi_1 hres
        refine x_cp (va_runV (As := [.int v2_L12]) (rest := []) ⟨hx, hb, hml, hown, hts⟩ (kX6_firstWrong l G cI cZ tl A0 A0_s A0_draft A0_kept A0_isKept A0_undone A0_seenI A0_seenJ A0_seenTime A0_text A0_kind A0_place A0_value A0_swallows A0_time A0_strength A0_which A0_told e0_L12 e0_kind_L12 e0_draft_L12 e0_value_L12 v2_L12 r5 hr5) (cwV 1 hts gX6_room_X6_firstWrong rfl rfl rfl hsX6_firstWrong ⟨Nat.le_of_ble_eq_true rfl, Nat.le_of_ble_eq_true rfl⟩) ⟨PRO_blind, va_recv hK.1 hP (ci := 6) (q0 := 0) rfl rfl, PRO_at (hP.sub (ws' := [o6 A0 e0_L12 A0_s A0_draft A0_kept A0_isKept A0_undone A0_seenI A0_seenJ A0_seenTime A0_text A0_kind A0_place A0_value A0_swallows A0_time A0_strength A0_which A0_told, (A0_kind, .inl (cI, 100, .inl e0_kind_L12)), (A0_draft, .inl (cI, 27, .inl e0_draft_L12)), (A0_value, .inl (cI, 100, .inl e0_value_L12))]) [0, 3, 5, 4] rfl) hK⟩ rfl rfl hl.1 rfl (lv_room (Nat.le_of_ble_eq_true rfl)) dX6_room_22 ⟨Nat.zero_le _, Nat.zero_le _⟩) ?_
        refine lv_istore_n (lv' := [(3, .int r5), (0, .ref A0), (1, .int v1_L12), (2, .int v2_L12)]) hx hb dX6_room_25 rfl hl (by decide) rfl (fun ls hl => ?_)
        refine lv_iload_n hx hb dX6_room_26 rfl (lv_at hl 0 rfl) ?_
        refine lv_bipush (v := (-9)) hx hb dX6_room_27 (by decide) ?_
        refine lv_icmp_eq (tgt := 41) hx hb dX6_room_29 (by decide) (fun h6 => ?_) (fun h6 => ?_)
        · have hres := ite_t hres h6
          refine lv_aload_n hx hb dX6_room_41 rfl (lv_at hl 1 rfl) ?_
          refine lv_iload_n hx hb dX6_room_42 rfl (lv_at hl 3 rfl) ?_
          obtain ⟨r7, hr7, hres⟩ := bi_1 hres
          refine x_cv (wr := [(A0_text, .inl (cI, 100, .inl c0_text)), (A0_place, .inl (cI, 100, .inl e0_place_L12)), (A0_s, .inl (cI, 27, .inl e0_s_L12)), (A0_isKept, .inl (cZ, 2, .inl e0_isKept_L12))]) (w2 := [o6 A0 e0_L12 A0_s A0_draft A0_kept A0_isKept A0_undone A0_seenI A0_seenJ A0_seenTime A0_text A0_kind A0_place A0_value A0_swallows A0_time A0_strength A0_which A0_told, (A0_text, .inl (cI, 100, .inl c0_text)), (A0_place, .inl (cI, 100, .inl e0_place_L12)), (A0_kind, .inl (cI, 100, .inl e0_kind_L12)), (A0_value, .inl (cI, 100, .inl e0_value_L12)), (A0_draft, .inl (cI, 27, .inl r7)), (A0_s, .inl (cI, 27, .inl e0_s_L12)), (A0_isKept, .inl (cZ, 2, .inl e0_isKept_L12))]) hP hD hS hA (va_runV (As := [.int v2_L12]) (rest := []) ⟨hx, hb, hml, hown, hts⟩ (kX6_lay l G cI cZ tl H.size _ A0 A0_s A0_draft A0_kept A0_isKept A0_undone A0_seenI A0_seenJ A0_seenTime A0_text A0_kind A0_place A0_value A0_swallows A0_time A0_strength A0_which A0_told e0_L12 e0_value_L12 e0_kind_L12 e0_draft_L12 v2_L12 r7 rfl hr7) (cwV 1 hts gX6_room_X6_lay rfl rfl rfl hsX6_lay ⟨Nat.le_of_ble_eq_true rfl, Nat.le_of_ble_eq_true rfl⟩) ⟨PRW_blind, va_recv hK.1 hP (ci := 6) (q0 := 0) rfl rfl, PRW_at (hP.sub (ws' := [o6 A0 e0_L12 A0_s A0_draft A0_kept A0_isKept A0_undone A0_seenI A0_seenJ A0_seenTime A0_text A0_kind A0_place A0_value A0_swallows A0_time A0_strength A0_which A0_told, (A0_value, .inl (cI, 100, .inl e0_value_L12)), (A0_kind, .inl (cI, 100, .inl e0_kind_L12)), (A0_draft, .inl (cI, 27, .inl e0_draft_L12))]) [0, 4, 3, 5] rfl) (hD.sub (ws' := [o6 A0 e0_L12 A0_s A0_draft A0_kept A0_isKept A0_undone A0_seenI A0_seenJ A0_seenTime A0_text A0_kind A0_place A0_value A0_swallows A0_time A0_strength A0_which A0_told, (A0_value, .inl (cI, 100, .inl e0_value_L12)), (A0_kind, .inl (cI, 100, .inl e0_kind_L12)), (A0_draft, .inl (cI, 27, .inl e0_draft_L12))]) [0, 4, 3, 5] (by decide) rfl) hK⟩ rfl rfl hl.1 rfl (lv_room (Nat.le_of_ble_eq_true rfl)) dX6_room_43 ⟨Nat.zero_le _, Nat.zero_le _⟩) [0, 4, 3, 5] [1, 2, 6, 7] [4, 0, 1, 6, 5, 7, 2, 3] rfl rfl (by decide) (by decide) rfl rfl (by decide) (fun H locs hP hD hS => ?_)
          refine lv_iload_n hx hb dX6_room_46 rfl (lv_at hl 3 rfl) ?_
          refine lv_aload_n hx hb dX6_room_47 rfl (lv_at hl 1 rfl) ?_
          refine va_get (D := G) (ci := 6) (v := .ref A0_kind) (C := RX6) (T := TX6) (N := 22) hx hb hts (fun w h => (List.mem_cons_of_mem _ (List.mem_append_right _ h))) hown hK.1 hP 0 rfl rfl 12 (by decide) (hts (.fieldLink RX6 38 "EchoSeatsModel" "kind" "[I") (List.mem_of_getElem? (i := 2) rfl)) (fun _ h9 => h9) rfl dX6_room_48 ?_
          refine lv_iload_n hx hb dX6_room_51 rfl (lv_at hl 3 rfl) ?_
          have g8 := gd_1 hres
          have hres := gd_2 hres
          refine x_iald hx hb hK hP 3 rfl (j := (Int32.toNatClampNeg v2_L12)) rfl g8 dX6_room_52 ?_
          refine lv_bipush (v := 99) hx hb dX6_room_53 (by decide) ?_
          refine lv_icmp_ne (tgt := 62) hx hb dX6_room_55 (by decide) (fun h9 => ?_) (fun h9 => ?_)
          · have hres := ite_f hres h9
            refine lv_iconst (v := 4) hx hb dX6_room_62 (by decide) ?_
            refine lv_iadd hx hb dX6_room_63 ?_
            refine lv_topi (fun y10 ey10 => ?_)
            have hres := bnd_z ey10 hres
            refine lv_istore_n (lv' := [(2, .int y10), (3, .int r5), (0, .ref A0), (1, .int v1_L12)]) hx hb dX6_room_64 rfl hl (by decide) rfl (fun ls hl => ?_)
            refine lv_iinc (v := (v1_L12 + 1)) (lv' := [(1, .int (v1_L12 + 1)), (2, .int y10), (3, .int r5), (0, .ref A0)]) hx hb dX6_room_65 hl (k := 3) rfl rfl (by decide) rfl (fun ls hl => ?_)
            refine lv_goto (tgt := 12) hx hb dX6_room_68 (by decide) ?_
            exact ih12 (v1_L12 + 1) y10 r7 _ _ _ hres hP hD hS (lv_sub hl [3, 0, 1] rfl)
          · have hres := ite_t hres h9
            refine lv_iconst (v := 5) hx hb dX6_room_58 (by decide) ?_
            refine lv_goto (tgt := 63) hx hb dX6_room_59 (by decide) ?_
            refine lv_iadd hx hb dX6_room_63 ?_
            refine lv_topi (fun y11 ey11 => ?_)
            have hres := bnd_z ey11 hres
            refine lv_istore_n (lv' := [(2, .int y11), (3, .int r5), (0, .ref A0), (1, .int v1_L12)]) hx hb dX6_room_64 rfl hl (by decide) rfl (fun ls hl => ?_)
            refine lv_iinc (v := (v1_L12 + 1)) (lv' := [(1, .int (v1_L12 + 1)), (2, .int y11), (3, .int r5), (0, .ref A0)]) hx hb dX6_room_65 hl (k := 3) rfl rfl (by decide) rfl (fun ls hl => ?_)
            refine lv_goto (tgt := 12) hx hb dX6_room_68 (by decide) ?_
            exact ih12 (v1_L12 + 1) y11 r7 _ _ _ hres hP hD hS (lv_sub hl [3, 0, 1] rfl)
        · have hres := ite_f hres h6
          refine lv_bipush (v := (-10)) hx hb dX6_room_32 (by decide) ?_
          refine lv_aload_n hx hb dX6_room_34 rfl (lv_at hl 1 rfl) ?_
          refine lv_iload_n hx hb dX6_room_35 rfl (lv_at hl 0 rfl) ?_
          obtain ⟨r12, hr12, hres⟩ := bi_1 hres
          refine x_cp (va_runV (As := [.int r5]) (rest := [.int (-10)]) ⟨hx, hb, hml, hown, hts⟩ (kX6_placeOf l G cI cZ tl A0 A0_s A0_draft A0_kept A0_isKept A0_undone A0_seenI A0_seenJ A0_seenTime A0_text A0_kind A0_place A0_value A0_swallows A0_time A0_strength A0_which A0_told e0_L12 e0_place_L12 r5 r12 hr12) (cwV 1 hts gX6_room_X6_placeOf rfl rfl rfl hsX6_placeOf ⟨Nat.le_of_ble_eq_true rfl, Nat.le_of_ble_eq_true rfl⟩) ⟨PRO_blind, va_recv hK.1 hP (ci := 6) (q0 := 0) rfl rfl, PRO_at (hP.sub (ws' := [o6 A0 e0_L12 A0_s A0_draft A0_kept A0_isKept A0_undone A0_seenI A0_seenJ A0_seenTime A0_text A0_kind A0_place A0_value A0_swallows A0_time A0_strength A0_which A0_told, (A0_place, .inl (cI, 100, .inl e0_place_L12))]) [0, 2] rfl) hK⟩ rfl rfl hl.1 rfl (lv_room (Nat.le_of_ble_eq_true rfl)) dX6_room_36 ⟨Nat.zero_le _, Nat.zero_le _⟩) ?_
          refine lv_isub hx hb dX6_room_39 ?_
          obtain rfl := Option.some.inj hres
          exact W.iret hx hb hr (fun t ht hW => ⟨⟨_, (), rfl, rfl, by rw [ht]; exact hP, hD⟩, hS.F ht⟩) hS.2.2 dX6_room_40
  exact Q12 r1.1 r1.2.1 r1.2.2.1 r1.2.2.2 c0_s c0_isKept FU 0 0 r2 _ _ _ hres hP hD hS (lv_sub hl [2, 1, 0] rfl)
theorem hsX6_room : yX6_room.cls = RX6 ∧ yX6_room.cls ≠ "java/lang/invoke/MethodHandle" ∧ yX6_room.cls ≠ "java/lang/invoke/VarHandle" ∧ (parseMethodDescriptor yX6_room.desc).map (fun d => d.parameters.length) = some 0 := by decide +kernel
set_option maxHeartbeats 4000000 in
set_option maxRecDepth 100000 in
theorem kX6_seat (l : Launch) (G : va_G) (cI cZ : ClassId) (tl : List (ClassId × FieldType)) (A0 A0_s A0_draft A0_kept A0_isKept A0_undone A0_seenI A0_seenJ A0_seenTime A0_text A0_kind A0_place A0_value A0_swallows A0_time A0_strength A0_which A0_told : Nat) (c0 c0_s : Nat → Int32) (x1 x2 : Int32) (res : Int32) (hres : fX6_seat c0 c0_s x1 x2 = some res) : Met l yX6_seat wsX6_seat rX6_seat (va_Pc [.ref A0, .int x1, .int x2] (PRO G cI cZ tl [o6 A0 c0 A0_s A0_draft A0_kept A0_isKept A0_undone A0_seenI A0_seenJ A0_seenTime A0_text A0_kind A0_place A0_value A0_swallows A0_time A0_strength A0_which A0_told, (A0_s, .inl (cI, 27, .inl c0_s))])) (Sp res) 0 0 (fun _ => False) := by
  refine Met.ofW (cc := cX6_seat) (maxL := 3) (ret := (some .int)) (by decide) rfl ?_
  intro p e s m args below meth c s₁ B hml hv
  obtain ⟨rfl, hP, hK⟩ := hv
  have hx := B.exec
  have hb := B.bytes
  have hr := B.returns
  have hts := atoms_spec (ws := wsX6_seat) B.pre
  have hown : s.vm.findClass RX6 = some m.cls := findClass_of_methodNamed B.named
  have hlocks := B.notSynchronized
  have hl := lv_entry ([.ref A0, .int x1, .int x2] : List Value) (n := 3) (Nat.le_of_ble_eq_true rfl)
  rw [lg_entry_eq]
  generalize (lg_sl ([.ref A0, .int x1, .int x2] : List Value) ++ List.replicate (3 - (lg_sl ([.ref A0, .int x1, .int x2] : List Value)).length) Slot.unset).toArray = ls at hl ⊢
  have hl : lv_has ls 3 [(0, .ref A0), (1, .int x1), (2, .int x2)] := hl
  refine lv_aload_n hx hb dX6_seat_0 rfl (lv_at hl 0 rfl) ?_
  refine lv_iload_n hx hb dX6_seat_1 rfl (lv_at hl 1 rfl) ?_
  obtain ⟨r1, hr1, hres⟩ := bi_1 hres
  refine x_cp (va_runV (As := [.int x1]) (rest := []) ⟨hx, hb, hml, hown, hts⟩ (kX6_isSeat l G cI cZ tl A0 A0_s A0_draft A0_kept A0_isKept A0_undone A0_seenI A0_seenJ A0_seenTime A0_text A0_kind A0_place A0_value A0_swallows A0_time A0_strength A0_which A0_told c0 c0_s x1 r1 hr1) (cwV 1 hts gX6_seat_X6_isSeat rfl rfl rfl hsX6_isSeat ⟨Nat.le_of_ble_eq_true rfl, Nat.le_of_ble_eq_true rfl⟩) ⟨PRO_blind, va_recv hK.1 hP (ci := 6) (q0 := 0) rfl rfl, PRO_at (hP.sub (ws' := [o6 A0 c0 A0_s A0_draft A0_kept A0_isKept A0_undone A0_seenI A0_seenJ A0_seenTime A0_text A0_kind A0_place A0_value A0_swallows A0_time A0_strength A0_which A0_told, (A0_s, .inl (cI, 27, .inl c0_s))]) [0, 1] rfl) hK⟩ rfl rfl hl.1 rfl (lv_room (Nat.le_of_ble_eq_true rfl)) dX6_seat_2 ⟨Nat.zero_le _, Nat.zero_le _⟩) ?_
  refine lv_if_eq (tgt := 17) hx hb dX6_seat_5 (by decide) (fun h2 => ?_) (fun h2 => ?_)
  · have hres := ite_t hres h2
    refine lv_iconst (v := (-1)) hx hb dX6_seat_17 (by decide) ?_
    obtain rfl := Option.some.inj hres
    exact W.iret hx hb hr (fun t ht hW => ⟨rfl, ht⟩) (fun q h => absurd h List.not_mem_nil) dX6_seat_18
  · have hres := ite_f hres h2
    refine lv_iload_n hx hb dX6_seat_8 rfl (lv_at hl 2 rfl) ?_
    refine lv_iconst (v := 0) hx hb dX6_seat_9 (by decide) ?_
    refine lv_iconst (v := 1) hx hb dX6_seat_10 (by decide) ?_
    obtain ⟨r3, hr3, hres⟩ := bi_1 hres
    refine x_cp (va_runS (As := [.int x2, .int 0, .int 1]) (rest := []) ⟨hx, hb, hml, hown, hts⟩ (kX6_in l G cI cZ tl x2 0 1 r3 hr3) (va_cwS 3 hts gX6_seat_X6_in rfl rfl rfl hsX6_in ⟨Nat.le_of_ble_eq_true rfl, Nat.le_of_ble_eq_true rfl⟩) ⟨PRO_blind, PRO_at va_P0 hK⟩ rfl rfl hl.1 rfl (lv_room (Nat.le_of_ble_eq_true rfl)) dX6_seat_11 ⟨Nat.zero_le _, Nat.zero_le _⟩) ?_
    refine lv_if_ne (tgt := 19) hx hb dX6_seat_14 (by decide) (fun h4 => ?_) (fun h4 => ?_)
    · have hres := ite_f hres h4
      refine lv_iload_n hx hb dX6_seat_19 rfl (lv_at hl 2 rfl) ?_
      refine lv_if_ne (tgt := 35) hx hb dX6_seat_20 (by decide) (fun h5 => ?_) (fun h5 => ?_)
      · have hres := ite_f hres h5
        refine lv_aload_n hx hb dX6_seat_35 rfl (lv_at hl 0 rfl) ?_
        refine va_get (D := G) (ci := 6) (v := .ref A0_s) (C := RX6) (T := TX6) (N := 22) hx hb hts (fun w h => (List.mem_cons_of_mem _ (List.mem_append_right _ h))) hown hK.1 hP 0 rfl rfl 0 (by decide) (hts (.fieldLink RX6 7 "EchoSeatsModel" "s" "[I") (List.mem_of_getElem? (i := 1) rfl)) (fun _ h9 => h9) rfl dX6_seat_36 ?_
        refine lv_bipush (v := 13) hx hb dX6_seat_39 (by decide) ?_
        refine lv_iload_n hx hb dX6_seat_41 rfl (lv_at hl 1 rfl) ?_
        refine lv_iadd hx hb dX6_seat_42 ?_
        have g6 := gd_1 hres
        have hres := gd_2 hres
        refine x_iald hx hb hK hP 1 rfl (j := (Int32.toNatClampNeg (13 + x1))) rfl g6 dX6_seat_43 ?_
        obtain rfl := Option.some.inj hres
        exact W.iret hx hb hr (fun t ht hW => ⟨rfl, ht⟩) (fun q h => absurd h List.not_mem_nil) dX6_seat_44
      · have hres := ite_t hres h5
        refine lv_aload_n hx hb dX6_seat_23 rfl (lv_at hl 0 rfl) ?_
        refine va_get (D := G) (ci := 6) (v := .ref A0_s) (C := RX6) (T := TX6) (N := 22) hx hb hts (fun w h => (List.mem_cons_of_mem _ (List.mem_append_right _ h))) hown hK.1 hP 0 rfl rfl 0 (by decide) (hts (.fieldLink RX6 7 "EchoSeatsModel" "s" "[I") (List.mem_of_getElem? (i := 1) rfl)) (fun _ h9 => h9) rfl dX6_seat_24 ?_
        refine lv_bipush (v := 9) hx hb dX6_seat_27 (by decide) ?_
        refine lv_iload_n hx hb dX6_seat_29 rfl (lv_at hl 1 rfl) ?_
        refine lv_iadd hx hb dX6_seat_30 ?_
        have g7 := gd_1 hres
        have hres := gd_2 hres
        refine x_iald hx hb hK hP 1 rfl (j := (Int32.toNatClampNeg (9 + x1))) rfl g7 dX6_seat_31 ?_
        refine lv_goto (tgt := 44) hx hb dX6_seat_32 (by decide) ?_
        obtain rfl := Option.some.inj hres
        exact W.iret hx hb hr (fun t ht hW => ⟨rfl, ht⟩) (fun q h => absurd h List.not_mem_nil) dX6_seat_44
    · have hres := ite_t hres h4
      refine lv_iconst (v := (-1)) hx hb dX6_seat_17 (by decide) ?_
      obtain rfl := Option.some.inj hres
      exact W.iret hx hb hr (fun t ht hW => ⟨rfl, ht⟩) (fun q h => absurd h List.not_mem_nil) dX6_seat_18
theorem hsX6_seat : yX6_seat.cls = RX6 ∧ yX6_seat.cls ≠ "java/lang/invoke/MethodHandle" ∧ yX6_seat.cls ≠ "java/lang/invoke/VarHandle" ∧ (parseMethodDescriptor yX6_seat.desc).map (fun d => d.parameters.length) = some 2 := by decide +kernel
set_option maxHeartbeats 4000000 in
set_option maxRecDepth 100000 in
theorem kX6_sees (l : Launch) (G : va_G) (cI cZ : ClassId) (tl : List (ClassId × FieldType)) (sz : Nat) (A : Nat → Prop) (A0 A0_s A0_draft A0_kept A0_isKept A0_undone A0_seenI A0_seenJ A0_seenTime A0_text A0_kind A0_place A0_value A0_swallows A0_time A0_strength A0_which A0_told : Nat) (c0 c0_seenI c0_seenJ c0_seenTime : Nat → Int32) (x1 x2 x3 : Int32) (res : Int32 × (Nat → Int32) × (Nat → Int32) × (Nat → Int32) × (Nat → Int32)) (hAe : A = va_A [o6 A0 c0 A0_s A0_draft A0_kept A0_isKept A0_undone A0_seenI A0_seenJ A0_seenTime A0_text A0_kind A0_place A0_value A0_swallows A0_time A0_strength A0_which A0_told, (A0_seenI, .inl (cI, 4, .inl c0_seenI)), (A0_seenJ, .inl (cI, 4, .inl c0_seenJ)), (A0_seenTime, .inl (cI, 4, .inl c0_seenTime))] sz) (hres : fX6_sees c0 c0_seenI c0_seenJ c0_seenTime x1 x2 x3 = some res) : Met l yX6_sees wsX6_sees rX6_sees (va_Pc [.ref A0, .int x1, .int x2, .int x3] (PRW G cI cZ tl [o6 A0 c0 A0_s A0_draft A0_kept A0_isKept A0_undone A0_seenI A0_seenJ A0_seenTime A0_text A0_kind A0_place A0_value A0_swallows A0_time A0_strength A0_which A0_told, (A0_seenI, .inl (cI, 4, .inl c0_seenI)), (A0_seenJ, .inl (cI, 4, .inl c0_seenJ)), (A0_seenTime, .inl (cI, 4, .inl c0_seenTime))] sz)) (Qiw res.1 G A [o6 A0 res.2.1 A0_s A0_draft A0_kept A0_isKept A0_undone A0_seenI A0_seenJ A0_seenTime A0_text A0_kind A0_place A0_value A0_swallows A0_time A0_strength A0_which A0_told, (A0_seenI, .inl (cI, 4, .inl res.2.2.1)), (A0_seenJ, .inl (cI, 4, .inl res.2.2.2.1)), (A0_seenTime, .inl (cI, 4, .inl res.2.2.2.2))]) 0 0 A := by
  refine Met.ofW (cc := cX6_sees) (maxL := 4) (ret := (some .int)) (by decide) rfl ?_
  intro p e s m args below meth c s₁ B hml hv
  obtain ⟨rfl, hsz, hP, hK, hD0⟩ := hv
  have hx := B.exec
  have hb := B.bytes
  have hr := B.returns
  have hts := atoms_spec (ws := wsX6_sees) B.pre
  have hown : s.vm.findClass RX6 = some m.cls := findClass_of_methodNamed B.named
  have hlocks := B.notSynchronized
  subst hsz
  have hD : va_D A [o6 A0 c0 A0_s A0_draft A0_kept A0_isKept A0_undone A0_seenI A0_seenJ A0_seenTime A0_text A0_kind A0_place A0_value A0_swallows A0_time A0_strength A0_which A0_told, (A0_seenI, .inl (cI, 4, .inl c0_seenI)), (A0_seenJ, .inl (cI, 4, .inl c0_seenJ)), (A0_seenTime, .inl (cI, 4, .inl c0_seenTime))] := by rw [hAe]; exact hD0.self
  have hA : ∀ q : Nat, s.heap.size ≤ q → A q := fun q h => by rw [hAe]; exact Or.inr h
  clear hAe hD0
  have hS : va_S A s.heap s.heap [] := va_S.rf
  have hl := lv_entry ([.ref A0, .int x1, .int x2, .int x3] : List Value) (n := 4) (Nat.le_of_ble_eq_true rfl)
  rw [lg_entry_eq]
  generalize (lg_sl ([.ref A0, .int x1, .int x2, .int x3] : List Value) ++ List.replicate (4 - (lg_sl ([.ref A0, .int x1, .int x2, .int x3] : List Value)).length) Slot.unset).toArray = ls at hl ⊢
  have hl : lv_has ls 4 [(0, .ref A0), (1, .int x1), (2, .int x2), (3, .int x3)] := hl
  refine lv_iload_n hx hb dX6_sees_0 rfl (lv_at hl 1 rfl) ?_
  refine lv_iload_n hx hb dX6_sees_1 rfl (lv_at hl 2 rfl) ?_
  obtain ⟨r1, hr1, hres⟩ := bi_1 hres
  refine x_cp (va_runS (As := [.int x1, .int x2]) (rest := []) ⟨hx, hb, hml, hown, hts⟩ (kX6_isImage l G cI cZ tl x1 x2 r1 hr1) (va_cwS 2 hts gX6_sees_X6_isImage rfl rfl rfl hsX6_isImage ⟨Nat.le_of_ble_eq_true rfl, Nat.le_of_ble_eq_true rfl⟩) ⟨PRO_blind, PRO_at va_P0 hK⟩ rfl rfl hl.1 rfl (lv_room (Nat.le_of_ble_eq_true rfl)) dX6_sees_2 ⟨Nat.zero_le _, Nat.zero_le _⟩) ?_
  refine lv_if_eq (tgt := 19) hx hb dX6_sees_5 (by decide) (fun h2 => ?_) (fun h2 => ?_)
  · have hres := ite_t hres h2
    refine lv_iconst (v := (-1)) hx hb dX6_sees_19 (by decide) ?_
    obtain rfl := Option.some.inj hres
    exact W.iret hx hb hr (fun t ht hW => ⟨⟨_, (), rfl, rfl, by rw [ht]; exact hP, hD⟩, hS.F ht⟩) hS.2.2 dX6_sees_20
  · have hres := ite_f hres h2
    refine lv_iload_n hx hb dX6_sees_8 rfl (lv_at hl 3 rfl) ?_
    refine lv_iconst (v := 0) hx hb dX6_sees_9 (by decide) ?_
    refine lv_sipush (v := 9999) hx hb dX6_sees_10 (by decide) ?_
    obtain ⟨r3, hr3, hres⟩ := bi_1 hres
    refine x_cp (va_runS (As := [.int x3, .int 0, .int 9999]) (rest := []) ⟨hx, hb, hml, hown, hts⟩ (kX6_in l G cI cZ tl x3 0 9999 r3 hr3) (va_cwS 3 hts gX6_sees_X6_in rfl rfl rfl hsX6_in ⟨Nat.le_of_ble_eq_true rfl, Nat.le_of_ble_eq_true rfl⟩) ⟨PRO_blind, PRO_at va_P0 hK⟩ rfl rfl hl.1 rfl (lv_room (Nat.le_of_ble_eq_true rfl)) dX6_sees_13 ⟨Nat.zero_le _, Nat.zero_le _⟩) ?_
    refine lv_if_ne (tgt := 21) hx hb dX6_sees_16 (by decide) (fun h4 => ?_) (fun h4 => ?_)
    · have hres := ite_f hres h4
      refine lv_aload_n hx hb dX6_sees_21 rfl (lv_at hl 0 rfl) ?_
      refine va_get (D := G) (ci := 6) (v := .int (c0 9)) (C := RX6) (T := TX6) (N := 22) hx hb hts (fun w h => (List.mem_cons_of_mem _ (List.mem_append_right _ h))) hown hK.1 hP 0 rfl rfl 9 (by decide) (hts (.fieldLink RX6 72 "EchoSeatsModel" "seen" "I") (List.mem_of_getElem? (i := 1) rfl)) (fun _ h9 => h9) rfl dX6_sees_22 ?_
      refine lv_iconst (v := 4) hx hb dX6_sees_25 (by decide) ?_
      refine lv_icmp_ne (tgt := 32) hx hb dX6_sees_26 (by decide) (fun h5 => ?_) (fun h5 => ?_)
      · have hres := ite_f hres h5
        refine lv_aload_n hx hb dX6_sees_32 rfl (lv_at hl 0 rfl) ?_
        refine va_get (D := G) (ci := 6) (v := .ref A0_seenI) (C := RX6) (T := TX6) (N := 22) hx hb hts (fun w h => (List.mem_cons_of_mem _ (List.mem_append_right _ h))) hown hK.1 hP 0 rfl rfl 6 (by decide) (hts (.fieldLink RX6 26 "EchoSeatsModel" "seenI" "[I") (List.mem_of_getElem? (i := 2) rfl)) (fun _ h9 => h9) rfl dX6_sees_33 ?_
        refine lv_aload_n hx hb dX6_sees_36 rfl (lv_at hl 0 rfl) ?_
        refine va_get (D := G) (ci := 6) (v := .int (c0 9)) (C := RX6) (T := TX6) (N := 22) hx hb hts (fun w h => (List.mem_cons_of_mem _ (List.mem_append_right _ h))) hown hK.1 hP 0 rfl rfl 9 (by decide) (hts (.fieldLink RX6 72 "EchoSeatsModel" "seen" "I") (List.mem_of_getElem? (i := 1) rfl)) (fun _ h9 => h9) rfl dX6_sees_37 ?_
        refine lv_iload_n hx hb dX6_sees_40 rfl (lv_at hl 1 rfl) ?_
        have g6 := gd_1 hres
        have hres := gd_2 hres
        refine x_iast hx hb hK hP hD hS 1 rfl (j := (Int32.toNatClampNeg (c0 9))) rfl g6 dX6_sees_41 (fun H locs hP hD hS => ?_)
        have hP : va_P G vwCl [o6 A0 c0 A0_s A0_draft A0_kept A0_isKept A0_undone A0_seenI A0_seenJ A0_seenTime A0_text A0_kind A0_place A0_value A0_swallows A0_time A0_strength A0_which A0_told, (A0_seenI, .inl (cI, 4, .inl (upd c0_seenI (Int32.toNatClampNeg (c0 9)) x1))), (A0_seenJ, .inl (cI, 4, .inl c0_seenJ)), (A0_seenTime, .inl (cI, 4, .inl c0_seenTime))] H := hP
        have hD : va_D A [o6 A0 c0 A0_s A0_draft A0_kept A0_isKept A0_undone A0_seenI A0_seenJ A0_seenTime A0_text A0_kind A0_place A0_value A0_swallows A0_time A0_strength A0_which A0_told, (A0_seenI, .inl (cI, 4, .inl (upd c0_seenI (Int32.toNatClampNeg (c0 9)) x1))), (A0_seenJ, .inl (cI, 4, .inl c0_seenJ)), (A0_seenTime, .inl (cI, 4, .inl c0_seenTime))] := hD
        refine lv_aload_n hx hb dX6_sees_42 rfl (lv_at hl 0 rfl) ?_
        refine va_get (D := G) (ci := 6) (v := .ref A0_seenJ) (C := RX6) (T := TX6) (N := 22) hx hb hts (fun w h => (List.mem_cons_of_mem _ (List.mem_append_right _ h))) hown hK.1 hP 0 rfl rfl 7 (by decide) (hts (.fieldLink RX6 29 "EchoSeatsModel" "seenJ" "[I") (List.mem_of_getElem? (i := 3) rfl)) (fun _ h9 => h9) rfl dX6_sees_43 ?_
        refine lv_aload_n hx hb dX6_sees_46 rfl (lv_at hl 0 rfl) ?_
        refine va_get (D := G) (ci := 6) (v := .int (c0 9)) (C := RX6) (T := TX6) (N := 22) hx hb hts (fun w h => (List.mem_cons_of_mem _ (List.mem_append_right _ h))) hown hK.1 hP 0 rfl rfl 9 (by decide) (hts (.fieldLink RX6 72 "EchoSeatsModel" "seen" "I") (List.mem_of_getElem? (i := 1) rfl)) (fun _ h9 => h9) rfl dX6_sees_47 ?_
        refine lv_iload_n hx hb dX6_sees_50 rfl (lv_at hl 2 rfl) ?_
        have g7 := gd_1 hres
        have hres := gd_2 hres
        refine x_iast hx hb hK hP hD hS 2 rfl (j := (Int32.toNatClampNeg (c0 9))) rfl g7 dX6_sees_51 (fun H locs hP hD hS => ?_)
        have hP : va_P G vwCl [o6 A0 c0 A0_s A0_draft A0_kept A0_isKept A0_undone A0_seenI A0_seenJ A0_seenTime A0_text A0_kind A0_place A0_value A0_swallows A0_time A0_strength A0_which A0_told, (A0_seenI, .inl (cI, 4, .inl (upd c0_seenI (Int32.toNatClampNeg (c0 9)) x1))), (A0_seenJ, .inl (cI, 4, .inl (upd c0_seenJ (Int32.toNatClampNeg (c0 9)) x2))), (A0_seenTime, .inl (cI, 4, .inl c0_seenTime))] H := hP
        have hD : va_D A [o6 A0 c0 A0_s A0_draft A0_kept A0_isKept A0_undone A0_seenI A0_seenJ A0_seenTime A0_text A0_kind A0_place A0_value A0_swallows A0_time A0_strength A0_which A0_told, (A0_seenI, .inl (cI, 4, .inl (upd c0_seenI (Int32.toNatClampNeg (c0 9)) x1))), (A0_seenJ, .inl (cI, 4, .inl (upd c0_seenJ (Int32.toNatClampNeg (c0 9)) x2))), (A0_seenTime, .inl (cI, 4, .inl c0_seenTime))] := hD
        refine lv_aload_n hx hb dX6_sees_52 rfl (lv_at hl 0 rfl) ?_
        refine va_get (D := G) (ci := 6) (v := .ref A0_seenTime) (C := RX6) (T := TX6) (N := 22) hx hb hts (fun w h => (List.mem_cons_of_mem _ (List.mem_append_right _ h))) hown hK.1 hP 0 rfl rfl 8 (by decide) (hts (.fieldLink RX6 32 "EchoSeatsModel" "seenTime" "[I") (List.mem_of_getElem? (i := 4) rfl)) (fun _ h9 => h9) rfl dX6_sees_53 ?_
        refine lv_aload_n hx hb dX6_sees_56 rfl (lv_at hl 0 rfl) ?_
        refine va_get (D := G) (ci := 6) (v := .int (c0 9)) (C := RX6) (T := TX6) (N := 22) hx hb hts (fun w h => (List.mem_cons_of_mem _ (List.mem_append_right _ h))) hown hK.1 hP 0 rfl rfl 9 (by decide) (hts (.fieldLink RX6 72 "EchoSeatsModel" "seen" "I") (List.mem_of_getElem? (i := 1) rfl)) (fun _ h9 => h9) rfl dX6_sees_57 ?_
        refine lv_iload_n hx hb dX6_sees_60 rfl (lv_at hl 3 rfl) ?_
        have g8 := gd_1 hres
        have hres := gd_2 hres
        refine x_iast hx hb hK hP hD hS 3 rfl (j := (Int32.toNatClampNeg (c0 9))) rfl g8 dX6_sees_61 (fun H locs hP hD hS => ?_)
        have hP : va_P G vwCl [o6 A0 c0 A0_s A0_draft A0_kept A0_isKept A0_undone A0_seenI A0_seenJ A0_seenTime A0_text A0_kind A0_place A0_value A0_swallows A0_time A0_strength A0_which A0_told, (A0_seenI, .inl (cI, 4, .inl (upd c0_seenI (Int32.toNatClampNeg (c0 9)) x1))), (A0_seenJ, .inl (cI, 4, .inl (upd c0_seenJ (Int32.toNatClampNeg (c0 9)) x2))), (A0_seenTime, .inl (cI, 4, .inl (upd c0_seenTime (Int32.toNatClampNeg (c0 9)) x3)))] H := hP
        have hD : va_D A [o6 A0 c0 A0_s A0_draft A0_kept A0_isKept A0_undone A0_seenI A0_seenJ A0_seenTime A0_text A0_kind A0_place A0_value A0_swallows A0_time A0_strength A0_which A0_told, (A0_seenI, .inl (cI, 4, .inl (upd c0_seenI (Int32.toNatClampNeg (c0 9)) x1))), (A0_seenJ, .inl (cI, 4, .inl (upd c0_seenJ (Int32.toNatClampNeg (c0 9)) x2))), (A0_seenTime, .inl (cI, 4, .inl (upd c0_seenTime (Int32.toNatClampNeg (c0 9)) x3)))] := hD
        refine lv_aload_n hx hb dX6_sees_62 rfl (lv_at hl 0 rfl) ?_
        refine lv_dup hx hb dX6_sees_63 rfl ?_
        refine va_get (D := G) (ci := 6) (v := .int (c0 9)) (C := RX6) (T := TX6) (N := 22) hx hb hts (fun w h => (List.mem_cons_of_mem _ (List.mem_append_right _ h))) hown hK.1 hP 0 rfl rfl 9 (by decide) (hts (.fieldLink RX6 72 "EchoSeatsModel" "seen" "I") (List.mem_of_getElem? (i := 1) rfl)) (fun _ h9 => h9) rfl dX6_sees_64 ?_
        refine lv_iconst (v := 1) hx hb dX6_sees_67 (by decide) ?_
        refine lv_iadd hx hb dX6_sees_68 ?_
        refine va_put (D := G) (ci := 6) (v := .int ((c0 9) + 1)) (ty := .int) (C := RX6) (T := TX6) (N := 22) hx hb hts (fun w h => (List.mem_cons_of_mem _ (List.mem_append_right _ h))) tyX6 tyX6_ok nmX6 hown hK.1 hP hD hS 0 rfl rfl 9 (by decide) (hts (.fieldLink RX6 72 "EchoSeatsModel" "seen" "I") (List.mem_of_getElem? (i := 1) rfl)) (fun _ h9 => h9) rfl (tyX6_ok 9 (by decide)) rfl rfl (Nat.le_of_ble_eq_true rfl) dX6_sees_69 (fun H locs hP hD hS => ?_)
        have hP : va_P G vwCl [o6 A0 (upd c0 9 ((c0 9) + 1)) A0_s A0_draft A0_kept A0_isKept A0_undone A0_seenI A0_seenJ A0_seenTime A0_text A0_kind A0_place A0_value A0_swallows A0_time A0_strength A0_which A0_told, (A0_seenI, .inl (cI, 4, .inl (upd c0_seenI (Int32.toNatClampNeg (c0 9)) x1))), (A0_seenJ, .inl (cI, 4, .inl (upd c0_seenJ (Int32.toNatClampNeg (c0 9)) x2))), (A0_seenTime, .inl (cI, 4, .inl (upd c0_seenTime (Int32.toNatClampNeg (c0 9)) x3)))] H := hP
        have hD : va_D A [o6 A0 (upd c0 9 ((c0 9) + 1)) A0_s A0_draft A0_kept A0_isKept A0_undone A0_seenI A0_seenJ A0_seenTime A0_text A0_kind A0_place A0_value A0_swallows A0_time A0_strength A0_which A0_told, (A0_seenI, .inl (cI, 4, .inl (upd c0_seenI (Int32.toNatClampNeg (c0 9)) x1))), (A0_seenJ, .inl (cI, 4, .inl (upd c0_seenJ (Int32.toNatClampNeg (c0 9)) x2))), (A0_seenTime, .inl (cI, 4, .inl (upd c0_seenTime (Int32.toNatClampNeg (c0 9)) x3)))] := hD
        refine lv_aload_n hx hb dX6_sees_72 rfl (lv_at hl 0 rfl) ?_
        refine va_get (D := G) (ci := 6) (v := .int ((c0 9) + 1)) (C := RX6) (T := TX6) (N := 22) hx hb hts (fun w h => (List.mem_cons_of_mem _ (List.mem_append_right _ h))) hown hK.1 hP 0 rfl rfl 9 (by decide) (hts (.fieldLink RX6 72 "EchoSeatsModel" "seen" "I") (List.mem_of_getElem? (i := 1) rfl)) (fun _ h9 => h9) rfl dX6_sees_73 ?_
        obtain rfl := Option.some.inj hres
        exact W.iret hx hb hr (fun t ht hW => ⟨⟨_, (), rfl, rfl, by rw [ht]; exact hP, hD⟩, hS.F ht⟩) hS.2.2 dX6_sees_76
      · have hres := ite_t hres h5
        refine lv_bipush (v := (-3)) hx hb dX6_sees_29 (by decide) ?_
        obtain rfl := Option.some.inj hres
        exact W.iret hx hb hr (fun t ht hW => ⟨⟨_, (), rfl, rfl, by rw [ht]; exact hP, hD⟩, hS.F ht⟩) hS.2.2 dX6_sees_31
    · have hres := ite_t hres h4
      refine lv_iconst (v := (-1)) hx hb dX6_sees_19 (by decide) ?_
      obtain rfl := Option.some.inj hres
      exact W.iret hx hb hr (fun t ht hW => ⟨⟨_, (), rfl, rfl, by rw [ht]; exact hP, hD⟩, hS.F ht⟩) hS.2.2 dX6_sees_20
theorem hsX6_sees : yX6_sees.cls = RX6 ∧ yX6_sees.cls ≠ "java/lang/invoke/MethodHandle" ∧ yX6_sees.cls ≠ "java/lang/invoke/VarHandle" ∧ (parseMethodDescriptor yX6_sees.desc).map (fun d => d.parameters.length) = some 3 := by decide +kernel
set_option maxHeartbeats 4000000 in
set_option maxRecDepth 100000 in
theorem kX6_sound (l : Launch) (G : va_G) (cI cZ : ClassId) (tl : List (ClassId × FieldType)) (sz : Nat) (A : Nat → Prop) (A0 A0_s A0_draft A0_kept A0_isKept A0_undone A0_seenI A0_seenJ A0_seenTime A0_text A0_kind A0_place A0_value A0_swallows A0_time A0_strength A0_which A0_told : Nat) (c0 c0_s c0_swallows c0_time c0_strength c0_which : Nat → Int32) (x1 x2 : Int32) (res : Int32 × (Nat → Int32) × (Nat → Int32) × (Nat → Int32) × (Nat → Int32) × (Nat → Int32)) (hAe : A = va_A [o6 A0 c0 A0_s A0_draft A0_kept A0_isKept A0_undone A0_seenI A0_seenJ A0_seenTime A0_text A0_kind A0_place A0_value A0_swallows A0_time A0_strength A0_which A0_told, (A0_s, .inl (cI, 27, .inl c0_s)), (A0_swallows, .inl (cI, 4, .inl c0_swallows)), (A0_time, .inl (cI, 25, .inl c0_time)), (A0_strength, .inl (cI, 25, .inl c0_strength)), (A0_which, .inl (cI, 25, .inl c0_which))] sz) (hres : fX6_sound c0 c0_s c0_swallows c0_time c0_strength c0_which x1 x2 = some res) : Met l yX6_sound wsX6_sound rX6_sound (va_Pc [.ref A0, .int x1, .int x2] (PRW G cI cZ tl [o6 A0 c0 A0_s A0_draft A0_kept A0_isKept A0_undone A0_seenI A0_seenJ A0_seenTime A0_text A0_kind A0_place A0_value A0_swallows A0_time A0_strength A0_which A0_told, (A0_s, .inl (cI, 27, .inl c0_s)), (A0_swallows, .inl (cI, 4, .inl c0_swallows)), (A0_time, .inl (cI, 25, .inl c0_time)), (A0_strength, .inl (cI, 25, .inl c0_strength)), (A0_which, .inl (cI, 25, .inl c0_which))] sz)) (Qiw res.1 G A [o6 A0 res.2.1 A0_s A0_draft A0_kept A0_isKept A0_undone A0_seenI A0_seenJ A0_seenTime A0_text A0_kind A0_place A0_value A0_swallows A0_time A0_strength A0_which A0_told, (A0_s, .inl (cI, 27, .inl c0_s)), (A0_swallows, .inl (cI, 4, .inl res.2.2.1)), (A0_time, .inl (cI, 25, .inl res.2.2.2.1)), (A0_strength, .inl (cI, 25, .inl res.2.2.2.2.1)), (A0_which, .inl (cI, 25, .inl res.2.2.2.2.2))]) 0 0 A := by
  refine Met.ofW (cc := cX6_sound) (maxL := 3) (ret := (some .int)) (by decide) rfl ?_
  intro p e s m args below meth c s₁ B hml hv
  obtain ⟨rfl, hsz, hP, hK, hD0⟩ := hv
  have hx := B.exec
  have hb := B.bytes
  have hr := B.returns
  have hts := atoms_spec (ws := wsX6_sound) B.pre
  have hown : s.vm.findClass RX6 = some m.cls := findClass_of_methodNamed B.named
  have hlocks := B.notSynchronized
  subst hsz
  have hD : va_D A [o6 A0 c0 A0_s A0_draft A0_kept A0_isKept A0_undone A0_seenI A0_seenJ A0_seenTime A0_text A0_kind A0_place A0_value A0_swallows A0_time A0_strength A0_which A0_told, (A0_s, .inl (cI, 27, .inl c0_s)), (A0_swallows, .inl (cI, 4, .inl c0_swallows)), (A0_time, .inl (cI, 25, .inl c0_time)), (A0_strength, .inl (cI, 25, .inl c0_strength)), (A0_which, .inl (cI, 25, .inl c0_which))] := by rw [hAe]; exact hD0.self
  have hA : ∀ q : Nat, s.heap.size ≤ q → A q := fun q h => by rw [hAe]; exact Or.inr h
  clear hAe hD0
  have hS : va_S A s.heap s.heap [] := va_S.rf
  have hl := lv_entry ([.ref A0, .int x1, .int x2] : List Value) (n := 3) (Nat.le_of_ble_eq_true rfl)
  rw [lg_entry_eq]
  generalize (lg_sl ([.ref A0, .int x1, .int x2] : List Value) ++ List.replicate (3 - (lg_sl ([.ref A0, .int x1, .int x2] : List Value)).length) Slot.unset).toArray = ls at hl ⊢
  have hl : lv_has ls 3 [(0, .ref A0), (1, .int x1), (2, .int x2)] := hl
  refine lv_aload_n hx hb dX6_sound_0 rfl (lv_at hl 0 rfl) ?_
  refine lv_iload_n hx hb dX6_sound_1 rfl (lv_at hl 1 rfl) ?_
  obtain ⟨r1, hr1, hres⟩ := bi_1 hres
  refine x_cp (va_runV (As := [.int x1]) (rest := []) ⟨hx, hb, hml, hown, hts⟩ (kX6_isSeat l G cI cZ tl A0 A0_s A0_draft A0_kept A0_isKept A0_undone A0_seenI A0_seenJ A0_seenTime A0_text A0_kind A0_place A0_value A0_swallows A0_time A0_strength A0_which A0_told c0 c0_s x1 r1 hr1) (cwV 1 hts gX6_sound_X6_isSeat rfl rfl rfl hsX6_isSeat ⟨Nat.le_of_ble_eq_true rfl, Nat.le_of_ble_eq_true rfl⟩) ⟨PRO_blind, va_recv hK.1 hP (ci := 6) (q0 := 0) rfl rfl, PRO_at (hP.sub (ws' := [o6 A0 c0 A0_s A0_draft A0_kept A0_isKept A0_undone A0_seenI A0_seenJ A0_seenTime A0_text A0_kind A0_place A0_value A0_swallows A0_time A0_strength A0_which A0_told, (A0_s, .inl (cI, 27, .inl c0_s))]) [0, 1] rfl) hK⟩ rfl rfl hl.1 rfl (lv_room (Nat.le_of_ble_eq_true rfl)) dX6_sound_2 ⟨Nat.zero_le _, Nat.zero_le _⟩) ?_
  refine lv_if_eq (tgt := 17) hx hb dX6_sound_5 (by decide) (fun h2 => ?_) (fun h2 => ?_)
  · have hres := ite_t hres h2
    refine lv_iconst (v := (-1)) hx hb dX6_sound_17 (by decide) ?_
    obtain rfl := Option.some.inj hres
    exact W.iret hx hb hr (fun t ht hW => ⟨⟨_, (), rfl, rfl, by rw [ht]; exact hP, hD⟩, hS.F ht⟩) hS.2.2 dX6_sound_18
  · have hres := ite_f hres h2
    refine lv_iload_n hx hb dX6_sound_8 rfl (lv_at hl 2 rfl) ?_
    refine lv_iconst (v := 0) hx hb dX6_sound_9 (by decide) ?_
    refine lv_iconst (v := 2) hx hb dX6_sound_10 (by decide) ?_
    obtain ⟨r3, hr3, hres⟩ := bi_1 hres
    refine x_cp (va_runS (As := [.int x2, .int 0, .int 2]) (rest := []) ⟨hx, hb, hml, hown, hts⟩ (kX6_in l G cI cZ tl x2 0 2 r3 hr3) (va_cwS 3 hts gX6_sound_X6_in rfl rfl rfl hsX6_in ⟨Nat.le_of_ble_eq_true rfl, Nat.le_of_ble_eq_true rfl⟩) ⟨PRO_blind, PRO_at va_P0 hK⟩ rfl rfl hl.1 rfl (lv_room (Nat.le_of_ble_eq_true rfl)) dX6_sound_11 ⟨Nat.zero_le _, Nat.zero_le _⟩) ?_
    refine lv_if_ne (tgt := 19) hx hb dX6_sound_14 (by decide) (fun h4 => ?_) (fun h4 => ?_)
    · have hres := ite_f hres h4
      refine lv_aload_n hx hb dX6_sound_19 rfl (lv_at hl 0 rfl) ?_
      refine lv_iload_n hx hb dX6_sound_20 rfl (lv_at hl 1 rfl) ?_
      obtain ⟨r5, hr5, hres⟩ := bi_1 hres
      refine x_cv (wr := []) (w2 := [o6 A0 r5.1 A0_s A0_draft A0_kept A0_isKept A0_undone A0_seenI A0_seenJ A0_seenTime A0_text A0_kind A0_place A0_value A0_swallows A0_time A0_strength A0_which A0_told, (A0_s, .inl (cI, 27, .inl c0_s)), (A0_swallows, .inl (cI, 4, .inl r5.2.1)), (A0_time, .inl (cI, 25, .inl r5.2.2.1)), (A0_strength, .inl (cI, 25, .inl r5.2.2.2.1)), (A0_which, .inl (cI, 25, .inl r5.2.2.2.2))]) hP hD hS hA (va_runV (As := [.int x1]) (rest := []) ⟨hx, hb, hml, hown, hts⟩ (kX6_hearsNow l G cI cZ tl s.heap.size _ A0 A0_s A0_draft A0_kept A0_isKept A0_undone A0_seenI A0_seenJ A0_seenTime A0_text A0_kind A0_place A0_value A0_swallows A0_time A0_strength A0_which A0_told c0 c0_s c0_swallows c0_time c0_strength c0_which x1 r5 rfl hr5) (cwV 1 hts gX6_sound_X6_hearsNow rfl rfl rfl hsX6_hearsNow ⟨Nat.le_of_ble_eq_true rfl, Nat.le_of_ble_eq_true rfl⟩) ⟨PRW_blind, va_recv hK.1 hP (ci := 6) (q0 := 0) rfl rfl, PRW_at (hP.sub (ws' := [o6 A0 c0 A0_s A0_draft A0_kept A0_isKept A0_undone A0_seenI A0_seenJ A0_seenTime A0_text A0_kind A0_place A0_value A0_swallows A0_time A0_strength A0_which A0_told, (A0_s, .inl (cI, 27, .inl c0_s)), (A0_swallows, .inl (cI, 4, .inl c0_swallows)), (A0_time, .inl (cI, 25, .inl c0_time)), (A0_strength, .inl (cI, 25, .inl c0_strength)), (A0_which, .inl (cI, 25, .inl c0_which))]) [0, 1, 2, 3, 4, 5] rfl) (hD.sub (ws' := [o6 A0 c0 A0_s A0_draft A0_kept A0_isKept A0_undone A0_seenI A0_seenJ A0_seenTime A0_text A0_kind A0_place A0_value A0_swallows A0_time A0_strength A0_which A0_told, (A0_s, .inl (cI, 27, .inl c0_s)), (A0_swallows, .inl (cI, 4, .inl c0_swallows)), (A0_time, .inl (cI, 25, .inl c0_time)), (A0_strength, .inl (cI, 25, .inl c0_strength)), (A0_which, .inl (cI, 25, .inl c0_which))]) [0, 1, 2, 3, 4, 5] (by decide) rfl) hK⟩ rfl rfl hl.1 rfl (lv_room (Nat.le_of_ble_eq_true rfl)) dX6_sound_21 ⟨Nat.zero_le _, Nat.zero_le _⟩) [0, 1, 2, 3, 4, 5] [] [0, 1, 2, 3, 4, 5] rfl rfl (by decide) (by decide) rfl rfl (by decide) (fun H locs hP hD hS => ?_)
      refine lv_iload_n hx hb dX6_sound_24 rfl (lv_at hl 2 rfl) ?_
      refine lv_iconst (v := 2) hx hb dX6_sound_25 (by decide) ?_
      refine lv_icmp_ge (tgt := 45) hx hb dX6_sound_26 (by decide) (fun h6 => ?_) (fun h6 => ?_)
      · have hres := ite_t hres h6
        refine lv_aload_n hx hb dX6_sound_45 rfl (lv_at hl 0 rfl) ?_
        refine va_get (D := G) (ci := 6) (v := .int (r5.1 20)) (C := RX6) (T := TX6) (N := 22) hx hb hts (fun w h => (List.mem_cons_of_mem _ (List.mem_append_right _ h))) hown hK.1 hP 0 rfl rfl 20 (by decide) (hts (.fieldLink RX6 175 "EchoSeatsModel" "heard" "I") (List.mem_of_getElem? (i := 1) rfl)) (fun _ h9 => h9) rfl dX6_sound_46 ?_
        refine lv_iconst (v := 2) hx hb dX6_sound_49 (by decide) ?_
        refine lv_icmp_ge (tgt := 58) hx hb dX6_sound_50 (by decide) (fun h7 => ?_) (fun h7 => ?_)
        · have hres := ite_t hres h7
          refine lv_aload_n hx hb dX6_sound_58 rfl (lv_at hl 0 rfl) ?_
          refine va_get (D := G) (ci := 6) (v := .ref A0_time) (C := RX6) (T := TX6) (N := 22) hx hb hts (fun w h => (List.mem_cons_of_mem _ (List.mem_append_right _ h))) hown hK.1 hP 0 rfl rfl 17 (by decide) (hts (.fieldLink RX6 50 "EchoSeatsModel" "time" "[I") (List.mem_of_getElem? (i := 2) rfl)) (fun _ h9 => h9) rfl dX6_sound_59 ?_
          refine lv_aload_n hx hb dX6_sound_62 rfl (lv_at hl 0 rfl) ?_
          refine lv_iconst (v := 1) hx hb dX6_sound_63 (by decide) ?_
          obtain ⟨r8, hr8, hres⟩ := bi_1 hres
          refine x_cp (va_runV (As := [.int 1]) (rest := [.ref A0_time]) ⟨hx, hb, hml, hown, hts⟩ (kX6_rankedAt l G cI cZ tl A0 A0_s A0_draft A0_kept A0_isKept A0_undone A0_seenI A0_seenJ A0_seenTime A0_text A0_kind A0_place A0_value A0_swallows A0_time A0_strength A0_which A0_told r5.1 r5.2.2.1 1 r8 hr8) (cwV 1 hts gX6_sound_X6_rankedAt rfl rfl rfl hsX6_rankedAt ⟨Nat.le_of_ble_eq_true rfl, Nat.le_of_ble_eq_true rfl⟩) ⟨PRO_blind, va_recv hK.1 hP (ci := 6) (q0 := 0) rfl rfl, PRO_at (hP.sub (ws' := [o6 A0 r5.1 A0_s A0_draft A0_kept A0_isKept A0_undone A0_seenI A0_seenJ A0_seenTime A0_text A0_kind A0_place A0_value A0_swallows A0_time A0_strength A0_which A0_told, (A0_time, .inl (cI, 25, .inl r5.2.2.1))]) [0, 3] rfl) hK⟩ rfl rfl hl.1 rfl (lv_room (Nat.le_of_ble_eq_true rfl)) dX6_sound_64 ⟨Nat.zero_le _, Nat.zero_le _⟩) ?_
          have g9 := gd_1 hres
          have hres := gd_2 hres
          refine x_iald hx hb hK hP 3 rfl (j := (Int32.toNatClampNeg r8)) rfl g9 dX6_sound_67 ?_
          refine lv_aload_n hx hb dX6_sound_68 rfl (lv_at hl 0 rfl) ?_
          refine va_get (D := G) (ci := 6) (v := .ref A0_time) (C := RX6) (T := TX6) (N := 22) hx hb hts (fun w h => (List.mem_cons_of_mem _ (List.mem_append_right _ h))) hown hK.1 hP 0 rfl rfl 17 (by decide) (hts (.fieldLink RX6 50 "EchoSeatsModel" "time" "[I") (List.mem_of_getElem? (i := 2) rfl)) (fun _ h9 => h9) rfl dX6_sound_69 ?_
          refine lv_aload_n hx hb dX6_sound_72 rfl (lv_at hl 0 rfl) ?_
          refine lv_iconst (v := 0) hx hb dX6_sound_73 (by decide) ?_
          obtain ⟨r10, hr10, hres⟩ := bi_1 hres
          refine x_cp (va_runV (As := [.int 0]) (rest := [.ref A0_time, .int (r5.2.2.1 (Int32.toNatClampNeg r8))]) ⟨hx, hb, hml, hown, hts⟩ (kX6_rankedAt l G cI cZ tl A0 A0_s A0_draft A0_kept A0_isKept A0_undone A0_seenI A0_seenJ A0_seenTime A0_text A0_kind A0_place A0_value A0_swallows A0_time A0_strength A0_which A0_told r5.1 r5.2.2.1 0 r10 hr10) (cwV 1 hts gX6_sound_X6_rankedAt rfl rfl rfl hsX6_rankedAt ⟨Nat.le_of_ble_eq_true rfl, Nat.le_of_ble_eq_true rfl⟩) ⟨PRO_blind, va_recv hK.1 hP (ci := 6) (q0 := 0) rfl rfl, PRO_at (hP.sub (ws' := [o6 A0 r5.1 A0_s A0_draft A0_kept A0_isKept A0_undone A0_seenI A0_seenJ A0_seenTime A0_text A0_kind A0_place A0_value A0_swallows A0_time A0_strength A0_which A0_told, (A0_time, .inl (cI, 25, .inl r5.2.2.1))]) [0, 3] rfl) hK⟩ rfl rfl hl.1 rfl (lv_room (Nat.le_of_ble_eq_true rfl)) dX6_sound_74 ⟨Nat.zero_le _, Nat.zero_le _⟩) ?_
          have g11 := gd_1 hres
          have hres := gd_2 hres
          refine x_iald hx hb hK hP 3 rfl (j := (Int32.toNatClampNeg r10)) rfl g11 dX6_sound_77 ?_
          refine lv_isub hx hb dX6_sound_78 ?_
          obtain rfl := Option.some.inj hres
          exact W.iret hx hb hr (fun t ht hW => ⟨⟨_, (), rfl, rfl, by rw [ht]; exact hP, hD⟩, hS.F ht⟩) hS.2.2 dX6_sound_79
        · have hres := ite_f hres h7
          refine lv_bipush (v := (-9)) hx hb dX6_sound_53 (by decide) ?_
          refine lv_goto (tgt := 79) hx hb dX6_sound_55 (by decide) ?_
          obtain rfl := Option.some.inj hres
          exact W.iret hx hb hr (fun t ht hW => ⟨⟨_, (), rfl, rfl, by rw [ht]; exact hP, hD⟩, hS.F ht⟩) hS.2.2 dX6_sound_79
      · have hres := ite_f hres h6
        refine lv_iload_n hx hb dX6_sound_29 rfl (lv_at hl 2 rfl) ?_
        refine lv_if_ne (tgt := 40) hx hb dX6_sound_30 (by decide) (fun h12 => ?_) (fun h12 => ?_)
        · have hres := ite_f hres h12
          refine lv_aload_n hx hb dX6_sound_40 rfl (lv_at hl 0 rfl) ?_
          obtain ⟨r13, hr13, hres⟩ := bi_1 hres
          refine x_cp (va_runV (As := []) (rest := []) ⟨hx, hb, hml, hown, hts⟩ (kX6_soundAll l G cI cZ tl A0 A0_s A0_draft A0_kept A0_isKept A0_undone A0_seenI A0_seenJ A0_seenTime A0_text A0_kind A0_place A0_value A0_swallows A0_time A0_strength A0_which A0_told r5.1 r5.2.2.1 r5.2.2.2.1 r13 hr13) (cwV 0 hts gX6_sound_X6_soundAll rfl rfl rfl hsX6_soundAll ⟨Nat.le_of_ble_eq_true rfl, Nat.le_of_ble_eq_true rfl⟩) ⟨PRO_blind, va_recv hK.1 hP (ci := 6) (q0 := 0) rfl rfl, PRO_at (hP.sub (ws' := [o6 A0 r5.1 A0_s A0_draft A0_kept A0_isKept A0_undone A0_seenI A0_seenJ A0_seenTime A0_text A0_kind A0_place A0_value A0_swallows A0_time A0_strength A0_which A0_told, (A0_time, .inl (cI, 25, .inl r5.2.2.1)), (A0_strength, .inl (cI, 25, .inl r5.2.2.2.1))]) [0, 3, 4] rfl) hK⟩ rfl rfl hl.1 rfl (lv_room (Nat.le_of_ble_eq_true rfl)) dX6_sound_41 ⟨Nat.zero_le _, Nat.zero_le _⟩) ?_
          obtain rfl := Option.some.inj hres
          exact W.iret hx hb hr (fun t ht hW => ⟨⟨_, (), rfl, rfl, by rw [ht]; exact hP, hD⟩, hS.F ht⟩) hS.2.2 dX6_sound_44
        · have hres := ite_t hres h12
          refine lv_aload_n hx hb dX6_sound_33 rfl (lv_at hl 0 rfl) ?_
          refine va_get (D := G) (ci := 6) (v := .int (r5.1 20)) (C := RX6) (T := TX6) (N := 22) hx hb hts (fun w h => (List.mem_cons_of_mem _ (List.mem_append_right _ h))) hown hK.1 hP 0 rfl rfl 20 (by decide) (hts (.fieldLink RX6 175 "EchoSeatsModel" "heard" "I") (List.mem_of_getElem? (i := 1) rfl)) (fun _ h9 => h9) rfl dX6_sound_34 ?_
          refine lv_goto (tgt := 44) hx hb dX6_sound_37 (by decide) ?_
          obtain rfl := Option.some.inj hres
          exact W.iret hx hb hr (fun t ht hW => ⟨⟨_, (), rfl, rfl, by rw [ht]; exact hP, hD⟩, hS.F ht⟩) hS.2.2 dX6_sound_44
    · have hres := ite_t hres h4
      refine lv_iconst (v := (-1)) hx hb dX6_sound_17 (by decide) ?_
      obtain rfl := Option.some.inj hres
      exact W.iret hx hb hr (fun t ht hW => ⟨⟨_, (), rfl, rfl, by rw [ht]; exact hP, hD⟩, hS.F ht⟩) hS.2.2 dX6_sound_18
theorem hsX6_sound : yX6_sound.cls = RX6 ∧ yX6_sound.cls ≠ "java/lang/invoke/MethodHandle" ∧ yX6_sound.cls ≠ "java/lang/invoke/VarHandle" ∧ (parseMethodDescriptor yX6_sound.desc).map (fun d => d.parameters.length) = some 2 := by decide +kernel
