set_option maxHeartbeats 4000000 in
set_option maxRecDepth 100000 in
theorem kX6_known (l : Launch) (G : va_G) (cI cZ : ClassId) (tl : List (ClassId × FieldType)) (sz : Nat) (A : Nat → Prop) (A0 A0_s A0_draft A0_kept A0_isKept A0_undone A0_seenI A0_seenJ A0_seenTime A0_text A0_kind A0_place A0_value A0_swallows A0_time A0_strength A0_which A0_told : Nat) (c0 c0_undone c0_s : Nat → Int32) (x1 x2 : Int32) (res : (Nat → Int32) × (Nat → Int32)) (hAe : A = va_A [o6 A0 c0 A0_s A0_draft A0_kept A0_isKept A0_undone A0_seenI A0_seenJ A0_seenTime A0_text A0_kind A0_place A0_value A0_swallows A0_time A0_strength A0_which A0_told, (A0_undone, .inl (cI, 40, .inl c0_undone)), (A0_s, .inl (cI, 27, .inl c0_s))] sz) (hres : fX6_known c0 c0_undone c0_s x1 x2 = some res) : Met l yX6_known wsX6_known rX6_known (va_Pc [.ref A0, .int x1, .int x2] (PRW G cI cZ tl [o6 A0 c0 A0_s A0_draft A0_kept A0_isKept A0_undone A0_seenI A0_seenJ A0_seenTime A0_text A0_kind A0_place A0_value A0_swallows A0_time A0_strength A0_which A0_told, (A0_undone, .inl (cI, 40, .inl c0_undone)), (A0_s, .inl (cI, 27, .inl c0_s))] sz)) (Qvw G A [o6 A0 res.1 A0_s A0_draft A0_kept A0_isKept A0_undone A0_seenI A0_seenJ A0_seenTime A0_text A0_kind A0_place A0_value A0_swallows A0_time A0_strength A0_which A0_told, (A0_undone, .inl (cI, 40, .inl res.2)), (A0_s, .inl (cI, 27, .inl c0_s))]) 0 0 A := by
  refine Met.ofW (cc := cX6_known) (maxL := 4) (ret := none) (by decide) rfl ?_
  intro p e s m args below meth c s₁ B hml hv
  obtain ⟨rfl, hsz, hP, hK, hD0⟩ := hv
  have hx := B.exec
  have hb := B.bytes
  have hr := B.returns
  have hts := atoms_spec (ws := wsX6_known) B.pre
  have hown : s.vm.findClass RX6 = some m.cls := findClass_of_methodNamed B.named
  have hlocks := B.notSynchronized
  subst hsz
  have hD : va_D A [o6 A0 c0 A0_s A0_draft A0_kept A0_isKept A0_undone A0_seenI A0_seenJ A0_seenTime A0_text A0_kind A0_place A0_value A0_swallows A0_time A0_strength A0_which A0_told, (A0_undone, .inl (cI, 40, .inl c0_undone)), (A0_s, .inl (cI, 27, .inl c0_s))] := by rw [hAe]; exact hD0.self
  have hA : ∀ q : Nat, s.heap.size ≤ q → A q := fun q h => by rw [hAe]; exact Or.inr h
  clear hAe hD0
  have hS : va_S A s.heap s.heap [] := va_S.rf
  have hl := lv_entry ([.ref A0, .int x1, .int x2] : List Value) (n := 4) (Nat.le_of_ble_eq_true rfl)
  rw [lg_entry_eq]
  generalize (lg_sl ([.ref A0, .int x1, .int x2] : List Value) ++ List.replicate (4 - (lg_sl ([.ref A0, .int x1, .int x2] : List Value)).length) Slot.unset).toArray = ls at hl ⊢
  have hl : lv_has ls 4 [(0, .ref A0), (1, .int x1), (2, .int x2)] := hl
  have J47 : ∀ (v1_j47 : Int32) (v2_j47 : Int32) (e0_j47 : (Nat → Int32)) (e0_undone_j47 : (Nat → Int32)) (H : Heap) (locs : List Loc) (ls : Array Slot), fX6_known_j47 c0_s v1_j47 v2_j47 e0_j47 e0_undone_j47 = some res → va_P G vwCl [o6 A0 e0_j47 A0_s A0_draft A0_kept A0_isKept A0_undone A0_seenI A0_seenJ A0_seenTime A0_text A0_kind A0_place A0_value A0_swallows A0_time A0_strength A0_which A0_told, (A0_undone, .inl (cI, 40, .inl e0_undone_j47)), (A0_s, .inl (cI, 27, .inl c0_s))] H → va_D A [o6 A0 e0_j47 A0_s A0_draft A0_kept A0_isKept A0_undone A0_seenI A0_seenJ A0_seenTime A0_text A0_kind A0_place A0_value A0_swallows A0_time A0_strength A0_which A0_told, (A0_undone, .inl (cI, 40, .inl e0_undone_j47)), (A0_s, .inl (cI, 27, .inl c0_s))] → va_S A s.heap H locs → lv_has ls 4 [(0, .ref A0), (1, .int v1_j47), (2, .int v2_j47)] → WRW p l e wsX6_known rX6_known s m ([.ref A0, .int x1, .int x2] : List Value).toArray below meth c H locs (Qvw G A [o6 A0 res.1 A0_s A0_draft A0_kept A0_isKept A0_undone A0_seenI A0_seenJ A0_seenTime A0_text A0_kind A0_place A0_value A0_swallows A0_time A0_strength A0_which A0_told, (A0_undone, .inl (cI, 40, .inl res.2)), (A0_s, .inl (cI, 27, .inl c0_s))]) A (F0 m 47 ls []) := by
    intro v1_j47 v2_j47 e0_j47 e0_undone_j47 H locs ls hres hP hD hS hl
    refine lv_aload_n hx hb dX6_known_47 rfl (lv_at hl 0 rfl) ?_
    refine va_get (D := G) (ci := 6) (v := .ref A0_undone) (C := RX6) (T := TX6) (N := 22) hx hb hts (fun w h => (List.mem_cons_of_mem _ (List.mem_append_right _ h))) hown hK.1 hP 0 rfl rfl 4 (by decide) (hts (.fieldLink RX6 23 "EchoSeatsModel" "undone" "[I") (List.mem_of_getElem? (i := 2) rfl)) (fun _ h9 => h9) rfl dX6_known_48 ?_
    refine lv_iconst (v := 4) hx hb dX6_known_51 (by decide) ?_
    refine lv_aload_n hx hb dX6_known_52 rfl (lv_at hl 0 rfl) ?_
    refine va_get (D := G) (ci := 6) (v := .int (e0_j47 5)) (C := RX6) (T := TX6) (N := 22) hx hb hts (fun w h => (List.mem_cons_of_mem _ (List.mem_append_right _ h))) hown hK.1 hP 0 rfl rfl 5 (by decide) (hts (.fieldLink RX6 68 "EchoSeatsModel" "known" "I") (List.mem_of_getElem? (i := 1) rfl)) (fun _ h9 => h9) rfl dX6_known_53 ?_
    refine lv_imul hx hb dX6_known_56 ?_
    refine lv_iload_n hx hb dX6_known_57 rfl (lv_at hl 1 rfl) ?_
    have g1 := gd_1 hres
    have hres := gd_2 hres
    refine x_iast hx hb hK hP hD hS 1 rfl (j := (Int32.toNatClampNeg (4 * (e0_j47 5)))) rfl g1 dX6_known_58 (fun H locs hP hD hS => ?_)
    have hP : va_P G vwCl [o6 A0 e0_j47 A0_s A0_draft A0_kept A0_isKept A0_undone A0_seenI A0_seenJ A0_seenTime A0_text A0_kind A0_place A0_value A0_swallows A0_time A0_strength A0_which A0_told, (A0_undone, .inl (cI, 40, .inl (upd e0_undone_j47 (Int32.toNatClampNeg (4 * (e0_j47 5))) v1_j47))), (A0_s, .inl (cI, 27, .inl c0_s))] H := hP
    have hD : va_D A [o6 A0 e0_j47 A0_s A0_draft A0_kept A0_isKept A0_undone A0_seenI A0_seenJ A0_seenTime A0_text A0_kind A0_place A0_value A0_swallows A0_time A0_strength A0_which A0_told, (A0_undone, .inl (cI, 40, .inl (upd e0_undone_j47 (Int32.toNatClampNeg (4 * (e0_j47 5))) v1_j47))), (A0_s, .inl (cI, 27, .inl c0_s))] := hD
    refine lv_aload_n hx hb dX6_known_59 rfl (lv_at hl 0 rfl) ?_
    refine va_get (D := G) (ci := 6) (v := .ref A0_undone) (C := RX6) (T := TX6) (N := 22) hx hb hts (fun w h => (List.mem_cons_of_mem _ (List.mem_append_right _ h))) hown hK.1 hP 0 rfl rfl 4 (by decide) (hts (.fieldLink RX6 23 "EchoSeatsModel" "undone" "[I") (List.mem_of_getElem? (i := 2) rfl)) (fun _ h9 => h9) rfl dX6_known_60 ?_
    refine lv_iconst (v := 4) hx hb dX6_known_63 (by decide) ?_
    refine lv_aload_n hx hb dX6_known_64 rfl (lv_at hl 0 rfl) ?_
    refine va_get (D := G) (ci := 6) (v := .int (e0_j47 5)) (C := RX6) (T := TX6) (N := 22) hx hb hts (fun w h => (List.mem_cons_of_mem _ (List.mem_append_right _ h))) hown hK.1 hP 0 rfl rfl 5 (by decide) (hts (.fieldLink RX6 68 "EchoSeatsModel" "known" "I") (List.mem_of_getElem? (i := 1) rfl)) (fun _ h9 => h9) rfl dX6_known_65 ?_
    refine lv_imul hx hb dX6_known_68 ?_
    refine lv_iconst (v := 1) hx hb dX6_known_69 (by decide) ?_
    refine lv_iadd hx hb dX6_known_70 ?_
    refine lv_aload_n hx hb dX6_known_71 rfl (lv_at hl 0 rfl) ?_
    refine va_get (D := G) (ci := 6) (v := .ref A0_s) (C := RX6) (T := TX6) (N := 22) hx hb hts (fun w h => (List.mem_cons_of_mem _ (List.mem_append_right _ h))) hown hK.1 hP 0 rfl rfl 0 (by decide) (hts (.fieldLink RX6 7 "EchoSeatsModel" "s" "[I") (List.mem_of_getElem? (i := 3) rfl)) (fun _ h9 => h9) rfl dX6_known_72 ?_
    refine lv_iload_n hx hb dX6_known_75 rfl (lv_at hl 1 rfl) ?_
    have g2 := gd_1 hres
    have hres := gd_2 hres
    refine x_iald hx hb hK hP 2 rfl (j := (Int32.toNatClampNeg v1_j47)) rfl g2 dX6_known_76 ?_
    have g3 := gd_1 hres
    have hres := gd_2 hres
    refine x_iast hx hb hK hP hD hS 1 rfl (j := (Int32.toNatClampNeg ((4 * (e0_j47 5)) + 1))) rfl g3 dX6_known_77 (fun H locs hP hD hS => ?_)
    have hP : va_P G vwCl [o6 A0 e0_j47 A0_s A0_draft A0_kept A0_isKept A0_undone A0_seenI A0_seenJ A0_seenTime A0_text A0_kind A0_place A0_value A0_swallows A0_time A0_strength A0_which A0_told, (A0_undone, .inl (cI, 40, .inl (upd (upd e0_undone_j47 (Int32.toNatClampNeg (4 * (e0_j47 5))) v1_j47) (Int32.toNatClampNeg ((4 * (e0_j47 5)) + 1)) (c0_s (Int32.toNatClampNeg v1_j47))))), (A0_s, .inl (cI, 27, .inl c0_s))] H := hP
    have hD : va_D A [o6 A0 e0_j47 A0_s A0_draft A0_kept A0_isKept A0_undone A0_seenI A0_seenJ A0_seenTime A0_text A0_kind A0_place A0_value A0_swallows A0_time A0_strength A0_which A0_told, (A0_undone, .inl (cI, 40, .inl (upd (upd e0_undone_j47 (Int32.toNatClampNeg (4 * (e0_j47 5))) v1_j47) (Int32.toNatClampNeg ((4 * (e0_j47 5)) + 1)) (c0_s (Int32.toNatClampNeg v1_j47))))), (A0_s, .inl (cI, 27, .inl c0_s))] := hD
    refine lv_aload_n hx hb dX6_known_78 rfl (lv_at hl 0 rfl) ?_
    refine va_get (D := G) (ci := 6) (v := .ref A0_undone) (C := RX6) (T := TX6) (N := 22) hx hb hts (fun w h => (List.mem_cons_of_mem _ (List.mem_append_right _ h))) hown hK.1 hP 0 rfl rfl 4 (by decide) (hts (.fieldLink RX6 23 "EchoSeatsModel" "undone" "[I") (List.mem_of_getElem? (i := 2) rfl)) (fun _ h9 => h9) rfl dX6_known_79 ?_
    refine lv_iconst (v := 4) hx hb dX6_known_82 (by decide) ?_
    refine lv_aload_n hx hb dX6_known_83 rfl (lv_at hl 0 rfl) ?_
    refine va_get (D := G) (ci := 6) (v := .int (e0_j47 5)) (C := RX6) (T := TX6) (N := 22) hx hb hts (fun w h => (List.mem_cons_of_mem _ (List.mem_append_right _ h))) hown hK.1 hP 0 rfl rfl 5 (by decide) (hts (.fieldLink RX6 68 "EchoSeatsModel" "known" "I") (List.mem_of_getElem? (i := 1) rfl)) (fun _ h9 => h9) rfl dX6_known_84 ?_
    refine lv_imul hx hb dX6_known_87 ?_
    refine lv_iconst (v := 2) hx hb dX6_known_88 (by decide) ?_
    refine lv_iadd hx hb dX6_known_89 ?_
    refine lv_iload_n hx hb dX6_known_90 rfl (lv_at hl 2 rfl) ?_
    have g4 := gd_1 hres
    have hres := gd_2 hres
    refine x_iast hx hb hK hP hD hS 1 rfl (j := (Int32.toNatClampNeg ((4 * (e0_j47 5)) + 2))) rfl g4 dX6_known_91 (fun H locs hP hD hS => ?_)
    have hP : va_P G vwCl [o6 A0 e0_j47 A0_s A0_draft A0_kept A0_isKept A0_undone A0_seenI A0_seenJ A0_seenTime A0_text A0_kind A0_place A0_value A0_swallows A0_time A0_strength A0_which A0_told, (A0_undone, .inl (cI, 40, .inl (upd (upd (upd e0_undone_j47 (Int32.toNatClampNeg (4 * (e0_j47 5))) v1_j47) (Int32.toNatClampNeg ((4 * (e0_j47 5)) + 1)) (c0_s (Int32.toNatClampNeg v1_j47))) (Int32.toNatClampNeg ((4 * (e0_j47 5)) + 2)) v2_j47))), (A0_s, .inl (cI, 27, .inl c0_s))] H := hP
    have hD : va_D A [o6 A0 e0_j47 A0_s A0_draft A0_kept A0_isKept A0_undone A0_seenI A0_seenJ A0_seenTime A0_text A0_kind A0_place A0_value A0_swallows A0_time A0_strength A0_which A0_told, (A0_undone, .inl (cI, 40, .inl (upd (upd (upd e0_undone_j47 (Int32.toNatClampNeg (4 * (e0_j47 5))) v1_j47) (Int32.toNatClampNeg ((4 * (e0_j47 5)) + 1)) (c0_s (Int32.toNatClampNeg v1_j47))) (Int32.toNatClampNeg ((4 * (e0_j47 5)) + 2)) v2_j47))), (A0_s, .inl (cI, 27, .inl c0_s))] := hD
    refine lv_aload_n hx hb dX6_known_92 rfl (lv_at hl 0 rfl) ?_
    refine va_get (D := G) (ci := 6) (v := .ref A0_undone) (C := RX6) (T := TX6) (N := 22) hx hb hts (fun w h => (List.mem_cons_of_mem _ (List.mem_append_right _ h))) hown hK.1 hP 0 rfl rfl 4 (by decide) (hts (.fieldLink RX6 23 "EchoSeatsModel" "undone" "[I") (List.mem_of_getElem? (i := 2) rfl)) (fun _ h9 => h9) rfl dX6_known_93 ?_
    refine lv_iconst (v := 4) hx hb dX6_known_96 (by decide) ?_
    refine lv_aload_n hx hb dX6_known_97 rfl (lv_at hl 0 rfl) ?_
    refine va_get (D := G) (ci := 6) (v := .int (e0_j47 5)) (C := RX6) (T := TX6) (N := 22) hx hb hts (fun w h => (List.mem_cons_of_mem _ (List.mem_append_right _ h))) hown hK.1 hP 0 rfl rfl 5 (by decide) (hts (.fieldLink RX6 68 "EchoSeatsModel" "known" "I") (List.mem_of_getElem? (i := 1) rfl)) (fun _ h9 => h9) rfl dX6_known_98 ?_
    refine lv_imul hx hb dX6_known_101 ?_
    refine lv_iconst (v := 3) hx hb dX6_known_102 (by decide) ?_
    refine lv_iadd hx hb dX6_known_103 ?_
    refine lv_aload_n hx hb dX6_known_104 rfl (lv_at hl 0 rfl) ?_
    refine va_get (D := G) (ci := 6) (v := .ref A0_s) (C := RX6) (T := TX6) (N := 22) hx hb hts (fun w h => (List.mem_cons_of_mem _ (List.mem_append_right _ h))) hown hK.1 hP 0 rfl rfl 0 (by decide) (hts (.fieldLink RX6 7 "EchoSeatsModel" "s" "[I") (List.mem_of_getElem? (i := 3) rfl)) (fun _ h9 => h9) rfl dX6_known_105 ?_
    refine lv_iload_n hx hb dX6_known_108 rfl (lv_at hl 2 rfl) ?_
    have g5 := gd_1 hres
    have hres := gd_2 hres
    refine x_iald hx hb hK hP 2 rfl (j := (Int32.toNatClampNeg v2_j47)) rfl g5 dX6_known_109 ?_
    have g6 := gd_1 hres
    have hres := gd_2 hres
    refine x_iast hx hb hK hP hD hS 1 rfl (j := (Int32.toNatClampNeg ((4 * (e0_j47 5)) + 3))) rfl g6 dX6_known_110 (fun H locs hP hD hS => ?_)
    have hP : va_P G vwCl [o6 A0 e0_j47 A0_s A0_draft A0_kept A0_isKept A0_undone A0_seenI A0_seenJ A0_seenTime A0_text A0_kind A0_place A0_value A0_swallows A0_time A0_strength A0_which A0_told, (A0_undone, .inl (cI, 40, .inl (upd (upd (upd (upd e0_undone_j47 (Int32.toNatClampNeg (4 * (e0_j47 5))) v1_j47) (Int32.toNatClampNeg ((4 * (e0_j47 5)) + 1)) (c0_s (Int32.toNatClampNeg v1_j47))) (Int32.toNatClampNeg ((4 * (e0_j47 5)) + 2)) v2_j47) (Int32.toNatClampNeg ((4 * (e0_j47 5)) + 3)) (c0_s (Int32.toNatClampNeg v2_j47))))), (A0_s, .inl (cI, 27, .inl c0_s))] H := hP
    have hD : va_D A [o6 A0 e0_j47 A0_s A0_draft A0_kept A0_isKept A0_undone A0_seenI A0_seenJ A0_seenTime A0_text A0_kind A0_place A0_value A0_swallows A0_time A0_strength A0_which A0_told, (A0_undone, .inl (cI, 40, .inl (upd (upd (upd (upd e0_undone_j47 (Int32.toNatClampNeg (4 * (e0_j47 5))) v1_j47) (Int32.toNatClampNeg ((4 * (e0_j47 5)) + 1)) (c0_s (Int32.toNatClampNeg v1_j47))) (Int32.toNatClampNeg ((4 * (e0_j47 5)) + 2)) v2_j47) (Int32.toNatClampNeg ((4 * (e0_j47 5)) + 3)) (c0_s (Int32.toNatClampNeg v2_j47))))), (A0_s, .inl (cI, 27, .inl c0_s))] := hD
    refine lv_aload_n hx hb dX6_known_111 rfl (lv_at hl 0 rfl) ?_
    refine lv_dup hx hb dX6_known_112 rfl ?_
    refine va_get (D := G) (ci := 6) (v := .int (e0_j47 5)) (C := RX6) (T := TX6) (N := 22) hx hb hts (fun w h => (List.mem_cons_of_mem _ (List.mem_append_right _ h))) hown hK.1 hP 0 rfl rfl 5 (by decide) (hts (.fieldLink RX6 68 "EchoSeatsModel" "known" "I") (List.mem_of_getElem? (i := 1) rfl)) (fun _ h9 => h9) rfl dX6_known_113 ?_
    refine lv_iconst (v := 1) hx hb dX6_known_116 (by decide) ?_
    refine lv_iadd hx hb dX6_known_117 ?_
    refine va_put (D := G) (ci := 6) (v := .int ((e0_j47 5) + 1)) (ty := .int) (C := RX6) (T := TX6) (N := 22) hx hb hts (fun w h => (List.mem_cons_of_mem _ (List.mem_append_right _ h))) tyX6 tyX6_ok nmX6 hown hK.1 hP hD hS 0 rfl rfl 5 (by decide) (hts (.fieldLink RX6 68 "EchoSeatsModel" "known" "I") (List.mem_of_getElem? (i := 1) rfl)) (fun _ h9 => h9) rfl (tyX6_ok 5 (by decide)) rfl rfl (Nat.le_of_ble_eq_true rfl) dX6_known_118 (fun H locs hP hD hS => ?_)
    have hP : va_P G vwCl [o6 A0 (upd e0_j47 5 ((e0_j47 5) + 1)) A0_s A0_draft A0_kept A0_isKept A0_undone A0_seenI A0_seenJ A0_seenTime A0_text A0_kind A0_place A0_value A0_swallows A0_time A0_strength A0_which A0_told, (A0_undone, .inl (cI, 40, .inl (upd (upd (upd (upd e0_undone_j47 (Int32.toNatClampNeg (4 * (e0_j47 5))) v1_j47) (Int32.toNatClampNeg ((4 * (e0_j47 5)) + 1)) (c0_s (Int32.toNatClampNeg v1_j47))) (Int32.toNatClampNeg ((4 * (e0_j47 5)) + 2)) v2_j47) (Int32.toNatClampNeg ((4 * (e0_j47 5)) + 3)) (c0_s (Int32.toNatClampNeg v2_j47))))), (A0_s, .inl (cI, 27, .inl c0_s))] H := hP
    have hD : va_D A [o6 A0 (upd e0_j47 5 ((e0_j47 5) + 1)) A0_s A0_draft A0_kept A0_isKept A0_undone A0_seenI A0_seenJ A0_seenTime A0_text A0_kind A0_place A0_value A0_swallows A0_time A0_strength A0_which A0_told, (A0_undone, .inl (cI, 40, .inl (upd (upd (upd (upd e0_undone_j47 (Int32.toNatClampNeg (4 * (e0_j47 5))) v1_j47) (Int32.toNatClampNeg ((4 * (e0_j47 5)) + 1)) (c0_s (Int32.toNatClampNeg v1_j47))) (Int32.toNatClampNeg ((4 * (e0_j47 5)) + 2)) v2_j47) (Int32.toNatClampNeg ((4 * (e0_j47 5)) + 3)) (c0_s (Int32.toNatClampNeg v2_j47))))), (A0_s, .inl (cI, 27, .inl c0_s))] := hD
    obtain rfl := Option.some.inj hres
    exact W.vret hx hb hr (fun t ht hW => ⟨⟨(), rfl, trivial, by rw [ht]; exact hP, hD⟩, hS.F ht⟩) hS.2.2 dX6_known_121
  refine lv_aload_n hx hb dX6_known_0 rfl (lv_at hl 0 rfl) ?_
  refine va_get (D := G) (ci := 6) (v := .int (c0 5)) (C := RX6) (T := TX6) (N := 22) hx hb hts (fun w h => (List.mem_cons_of_mem _ (List.mem_append_right _ h))) hown hK.1 hP 0 rfl rfl 5 (by decide) (hts (.fieldLink RX6 68 "EchoSeatsModel" "known" "I") (List.mem_of_getElem? (i := 1) rfl)) (fun _ h9 => h9) rfl dX6_known_1 ?_
  refine lv_bipush (v := 10) hx hb dX6_known_4 (by decide) ?_
  refine lv_icmp_ne (tgt := 47) hx hb dX6_known_6 (by decide) (fun h7 => ?_) (fun h7 => ?_)
  · have hres := ite_f hres h7
    exact J47 x1 x2 c0 c0_undone _ _ _ hres hP hD hS (lv_sub hl [0, 1, 2] rfl)
  · have hres := ite_t hres h7
    refine lv_iconst (v := 0) hx hb dX6_known_9 (by decide) ?_
    refine lv_istore_n (lv' := [(3, .int 0), (0, .ref A0), (1, .int x1), (2, .int x2)]) hx hb dX6_known_10 rfl hl (by decide) rfl (fun ls hl => ?_)
    have Q11 : ∀ (v1_L11 : Int32) (v2_L11 : Int32) (e0_L11 : (Nat → Int32)) (n11 : Nat) (v3_L11 : Int32) (e0_undone_L11 : (Nat → Int32)) (H : Heap) (locs : List Loc) (ls : Array Slot), LPX (fX6_known_L11 c0_s v1_L11 v2_L11 e0_L11) n11 (v3_L11, e0_undone_L11) = some res → va_P G vwCl [o6 A0 e0_L11 A0_s A0_draft A0_kept A0_isKept A0_undone A0_seenI A0_seenJ A0_seenTime A0_text A0_kind A0_place A0_value A0_swallows A0_time A0_strength A0_which A0_told, (A0_undone, .inl (cI, 40, .inl e0_undone_L11)), (A0_s, .inl (cI, 27, .inl c0_s))] H → va_D A [o6 A0 e0_L11 A0_s A0_draft A0_kept A0_isKept A0_undone A0_seenI A0_seenJ A0_seenTime A0_text A0_kind A0_place A0_value A0_swallows A0_time A0_strength A0_which A0_told, (A0_undone, .inl (cI, 40, .inl e0_undone_L11)), (A0_s, .inl (cI, 27, .inl c0_s))] → va_S A s.heap H locs → lv_has ls 4 [(0, .ref A0), (1, .int v1_L11), (2, .int v2_L11), (3, .int v3_L11)] → WRW p l e wsX6_known rX6_known s m ([.ref A0, .int x1, .int x2] : List Value).toArray below meth c H locs (Qvw G A [o6 A0 res.1 A0_s A0_draft A0_kept A0_isKept A0_undone A0_seenI A0_seenJ A0_seenTime A0_text A0_kind A0_place A0_value A0_swallows A0_time A0_strength A0_which A0_told, (A0_undone, .inl (cI, 40, .inl res.2)), (A0_s, .inl (cI, 27, .inl c0_s))]) A (F0 m 11 ls []) := by
      intro v1_L11 v2_L11 e0_L11 n11
      induction n11 with
      | zero =>
        intro v3_L11 e0_undone_L11 H locs ls hres
        exact absurd (LPX_0.symm.trans hres) (fun h => by cases h)
      | succ n11 ih11 =>
        intro v3_L11 e0_undone_L11 H locs ls hres hP hD hS hl
        have hres := LPX_s.symm.trans hres
        refine lv_iload_n hx hb dX6_known_11 rfl (lv_at hl 3 rfl) ?_
        refine lv_bipush (v := 36) hx hb dX6_known_12 (by decide) ?_
        refine lv_icmp_ge (tgt := 37) hx hb dX6_known_14 (by decide) (fun h8 => ?_) (fun h8 => ?_)
        · have hres := ite_t hres h8
          refine lv_aload_n hx hb dX6_known_37 rfl (lv_at hl 0 rfl) ?_
          refine lv_dup hx hb dX6_known_38 rfl ?_
          refine va_get (D := G) (ci := 6) (v := .int (e0_L11 5)) (C := RX6) (T := TX6) (N := 22) hx hb hts (fun w h => (List.mem_cons_of_mem _ (List.mem_append_right _ h))) hown hK.1 hP 0 rfl rfl 5 (by decide) (hts (.fieldLink RX6 68 "EchoSeatsModel" "known" "I") (List.mem_of_getElem? (i := 1) rfl)) (fun _ h9 => h9) rfl dX6_known_39 ?_
          refine lv_iconst (v := 1) hx hb dX6_known_42 (by decide) ?_
          refine lv_isub hx hb dX6_known_43 ?_
          refine va_put (D := G) (ci := 6) (v := .int ((e0_L11 5) - 1)) (ty := .int) (C := RX6) (T := TX6) (N := 22) hx hb hts (fun w h => (List.mem_cons_of_mem _ (List.mem_append_right _ h))) tyX6 tyX6_ok nmX6 hown hK.1 hP hD hS 0 rfl rfl 5 (by decide) (hts (.fieldLink RX6 68 "EchoSeatsModel" "known" "I") (List.mem_of_getElem? (i := 1) rfl)) (fun _ h9 => h9) rfl (tyX6_ok 5 (by decide)) rfl rfl (Nat.le_of_ble_eq_true rfl) dX6_known_44 (fun H locs hP hD hS => ?_)
          have hP : va_P G vwCl [o6 A0 (upd e0_L11 5 ((e0_L11 5) - 1)) A0_s A0_draft A0_kept A0_isKept A0_undone A0_seenI A0_seenJ A0_seenTime A0_text A0_kind A0_place A0_value A0_swallows A0_time A0_strength A0_which A0_told, (A0_undone, .inl (cI, 40, .inl e0_undone_L11)), (A0_s, .inl (cI, 27, .inl c0_s))] H := hP
          have hD : va_D A [o6 A0 (upd e0_L11 5 ((e0_L11 5) - 1)) A0_s A0_draft A0_kept A0_isKept A0_undone A0_seenI A0_seenJ A0_seenTime A0_text A0_kind A0_place A0_value A0_swallows A0_time A0_strength A0_which A0_told, (A0_undone, .inl (cI, 40, .inl e0_undone_L11)), (A0_s, .inl (cI, 27, .inl c0_s))] := hD
          exact J47 v1_L11 v2_L11 (upd e0_L11 5 ((e0_L11 5) - 1)) e0_undone_L11 _ _ _ hres hP hD hS (lv_sub hl [0, 1, 2] rfl)
        · have hres := ite_f hres h8
          refine lv_aload_n hx hb dX6_known_17 rfl (lv_at hl 0 rfl) ?_
          refine va_get (D := G) (ci := 6) (v := .ref A0_undone) (C := RX6) (T := TX6) (N := 22) hx hb hts (fun w h => (List.mem_cons_of_mem _ (List.mem_append_right _ h))) hown hK.1 hP 0 rfl rfl 4 (by decide) (hts (.fieldLink RX6 23 "EchoSeatsModel" "undone" "[I") (List.mem_of_getElem? (i := 2) rfl)) (fun _ h9 => h9) rfl dX6_known_18 ?_
          refine lv_iload_n hx hb dX6_known_21 rfl (lv_at hl 3 rfl) ?_
          refine lv_aload_n hx hb dX6_known_22 rfl (lv_at hl 0 rfl) ?_
          refine va_get (D := G) (ci := 6) (v := .ref A0_undone) (C := RX6) (T := TX6) (N := 22) hx hb hts (fun w h => (List.mem_cons_of_mem _ (List.mem_append_right _ h))) hown hK.1 hP 0 rfl rfl 4 (by decide) (hts (.fieldLink RX6 23 "EchoSeatsModel" "undone" "[I") (List.mem_of_getElem? (i := 2) rfl)) (fun _ h9 => h9) rfl dX6_known_23 ?_
          refine lv_iload_n hx hb dX6_known_26 rfl (lv_at hl 3 rfl) ?_
          refine lv_iconst (v := 4) hx hb dX6_known_27 (by decide) ?_
          refine lv_iadd hx hb dX6_known_28 ?_
          have g9 := gd_1 hres
          have hres := gd_2 hres
          refine x_iald hx hb hK hP 1 rfl (j := (Int32.toNatClampNeg (v3_L11 + 4))) rfl g9 dX6_known_29 ?_
          have g10 := gd_1 hres
          have hres := gd_2 hres
          refine x_iast hx hb hK hP hD hS 1 rfl (j := (Int32.toNatClampNeg v3_L11)) rfl g10 dX6_known_30 (fun H locs hP hD hS => ?_)
          have hP : va_P G vwCl [o6 A0 e0_L11 A0_s A0_draft A0_kept A0_isKept A0_undone A0_seenI A0_seenJ A0_seenTime A0_text A0_kind A0_place A0_value A0_swallows A0_time A0_strength A0_which A0_told, (A0_undone, .inl (cI, 40, .inl (upd e0_undone_L11 (Int32.toNatClampNeg v3_L11) (e0_undone_L11 (Int32.toNatClampNeg (v3_L11 + 4)))))), (A0_s, .inl (cI, 27, .inl c0_s))] H := hP
          have hD : va_D A [o6 A0 e0_L11 A0_s A0_draft A0_kept A0_isKept A0_undone A0_seenI A0_seenJ A0_seenTime A0_text A0_kind A0_place A0_value A0_swallows A0_time A0_strength A0_which A0_told, (A0_undone, .inl (cI, 40, .inl (upd e0_undone_L11 (Int32.toNatClampNeg v3_L11) (e0_undone_L11 (Int32.toNatClampNeg (v3_L11 + 4)))))), (A0_s, .inl (cI, 27, .inl c0_s))] := hD
          refine lv_iinc (v := (v3_L11 + 1)) (lv' := [(3, .int (v3_L11 + 1)), (0, .ref A0), (1, .int v1_L11), (2, .int v2_L11)]) hx hb dX6_known_31 hl (k := 3) rfl rfl (by decide) rfl (fun ls hl => ?_)
          refine lv_goto (tgt := 11) hx hb dX6_known_34 (by decide) ?_
          exact ih11 (v3_L11 + 1) (upd e0_undone_L11 (Int32.toNatClampNeg v3_L11) (e0_undone_L11 (Int32.toNatClampNeg (v3_L11 + 4)))) _ _ _ hres hP hD hS (lv_sub hl [1, 2, 3, 0] rfl)
    exact Q11 x1 x2 c0 FU 0 c0_undone _ _ _ hres hP hD hS (lv_sub hl [1, 2, 3, 0] rfl)
theorem hsX6_known : yX6_known.cls = RX6 ∧ yX6_known.cls ≠ "java/lang/invoke/MethodHandle" ∧ yX6_known.cls ≠ "java/lang/invoke/VarHandle" ∧ (parseMethodDescriptor yX6_known.desc).map (fun d => d.parameters.length) = some 2 := by decide +kernel
set_option maxHeartbeats 4000000 in
set_option maxRecDepth 100000 in
theorem kX6_draws (l : Launch) (G : va_G) (cI cZ : ClassId) (tl : List (ClassId × FieldType)) (sz : Nat) (A : Nat → Prop) (A0 A0_s A0_draft A0_kept A0_isKept A0_undone A0_seenI A0_seenJ A0_seenTime A0_text A0_kind A0_place A0_value A0_swallows A0_time A0_strength A0_which A0_told : Nat) (c0 c0_s c0_undone : Nat → Int32) (x1 x2 x3 : Int32) (res : Int32 × (Nat → Int32) × (Nat → Int32) × (Nat → Int32)) (hAe : A = va_A [o6 A0 c0 A0_s A0_draft A0_kept A0_isKept A0_undone A0_seenI A0_seenJ A0_seenTime A0_text A0_kind A0_place A0_value A0_swallows A0_time A0_strength A0_which A0_told, (A0_s, .inl (cI, 27, .inl c0_s)), (A0_undone, .inl (cI, 40, .inl c0_undone))] sz) (hres : fX6_draws c0 c0_s c0_undone x1 x2 x3 = some res) : Met l yX6_draws wsX6_draws rX6_draws (va_Pc [.ref A0, .int x1, .int x2, .int x3] (PRW G cI cZ tl [o6 A0 c0 A0_s A0_draft A0_kept A0_isKept A0_undone A0_seenI A0_seenJ A0_seenTime A0_text A0_kind A0_place A0_value A0_swallows A0_time A0_strength A0_which A0_told, (A0_s, .inl (cI, 27, .inl c0_s)), (A0_undone, .inl (cI, 40, .inl c0_undone))] sz)) (Qiw res.1 G A [o6 A0 res.2.1 A0_s A0_draft A0_kept A0_isKept A0_undone A0_seenI A0_seenJ A0_seenTime A0_text A0_kind A0_place A0_value A0_swallows A0_time A0_strength A0_which A0_told, (A0_s, .inl (cI, 27, .inl res.2.2.1)), (A0_undone, .inl (cI, 40, .inl res.2.2.2))]) 0 0 A := by
  refine Met.ofW (cc := cX6_draws) (maxL := 5) (ret := (some .int)) (by decide) rfl ?_
  intro p e s m args below meth c s₁ B hml hv
  obtain ⟨rfl, hsz, hP, hK, hD0⟩ := hv
  have hx := B.exec
  have hb := B.bytes
  have hr := B.returns
  have hts := atoms_spec (ws := wsX6_draws) B.pre
  have hown : s.vm.findClass RX6 = some m.cls := findClass_of_methodNamed B.named
  have hlocks := B.notSynchronized
  subst hsz
  have hD : va_D A [o6 A0 c0 A0_s A0_draft A0_kept A0_isKept A0_undone A0_seenI A0_seenJ A0_seenTime A0_text A0_kind A0_place A0_value A0_swallows A0_time A0_strength A0_which A0_told, (A0_s, .inl (cI, 27, .inl c0_s)), (A0_undone, .inl (cI, 40, .inl c0_undone))] := by rw [hAe]; exact hD0.self
  have hA : ∀ q : Nat, s.heap.size ≤ q → A q := fun q h => by rw [hAe]; exact Or.inr h
  clear hAe hD0
  have hS : va_S A s.heap s.heap [] := va_S.rf
  have hl := lv_entry ([.ref A0, .int x1, .int x2, .int x3] : List Value) (n := 5) (Nat.le_of_ble_eq_true rfl)
  rw [lg_entry_eq]
  generalize (lg_sl ([.ref A0, .int x1, .int x2, .int x3] : List Value) ++ List.replicate (5 - (lg_sl ([.ref A0, .int x1, .int x2, .int x3] : List Value)).length) Slot.unset).toArray = ls at hl ⊢
  have hl : lv_has ls 5 [(0, .ref A0), (1, .int x1), (2, .int x2), (3, .int x3)] := hl
  refine lv_aload_n hx hb dX6_draws_0 rfl (lv_at hl 0 rfl) ?_
  refine lv_iload_n hx hb dX6_draws_1 rfl (lv_at hl 1 rfl) ?_
  obtain ⟨r1, hr1, hres⟩ := bi_1 hres
  refine x_cp (va_runV (As := [.int x1]) (rest := []) ⟨hx, hb, hml, hown, hts⟩ (kX6_isCurtain l G cI cZ tl A0 A0_s A0_draft A0_kept A0_isKept A0_undone A0_seenI A0_seenJ A0_seenTime A0_text A0_kind A0_place A0_value A0_swallows A0_time A0_strength A0_which A0_told c0 c0_s x1 r1 hr1) (cwV 1 hts gX6_draws_X6_isCurtain rfl rfl rfl hsX6_isCurtain ⟨Nat.le_of_ble_eq_true rfl, Nat.le_of_ble_eq_true rfl⟩) ⟨PRO_blind, va_recv hK.1 hP (ci := 6) (q0 := 0) rfl rfl, PRO_at (hP.sub (ws' := [o6 A0 c0 A0_s A0_draft A0_kept A0_isKept A0_undone A0_seenI A0_seenJ A0_seenTime A0_text A0_kind A0_place A0_value A0_swallows A0_time A0_strength A0_which A0_told, (A0_s, .inl (cI, 27, .inl c0_s))]) [0, 1] rfl) hK⟩ rfl rfl hl.1 rfl (lv_room (Nat.le_of_ble_eq_true rfl)) dX6_draws_2 ⟨Nat.zero_le _, Nat.zero_le _⟩) ?_
  refine lv_if_eq (tgt := 36) hx hb dX6_draws_5 (by decide) (fun h2 => ?_) (fun h2 => ?_)
  · have hres := ite_t hres h2
    refine lv_iconst (v := (-1)) hx hb dX6_draws_36 (by decide) ?_
    obtain rfl := Option.some.inj hres
    exact W.iret hx hb hr (fun t ht hW => ⟨⟨_, (), rfl, rfl, by rw [ht]; exact hP, hD⟩, hS.F ht⟩) hS.2.2 dX6_draws_37
  · have hres := ite_f hres h2
    refine lv_iload_n hx hb dX6_draws_8 rfl (lv_at hl 2 rfl) ?_
    refine lv_iconst (v := 0) hx hb dX6_draws_9 (by decide) ?_
    refine lv_aload_n hx hb dX6_draws_10 rfl (lv_at hl 0 rfl) ?_
    refine va_get (D := G) (ci := 6) (v := .ref A0_s) (C := RX6) (T := TX6) (N := 22) hx hb hts (fun w h => (List.mem_cons_of_mem _ (List.mem_append_right _ h))) hown hK.1 hP 0 rfl rfl 0 (by decide) (hts (.fieldLink RX6 7 "EchoSeatsModel" "s" "[I") (List.mem_of_getElem? (i := 1) rfl)) (fun _ h9 => h9) rfl dX6_draws_11 ?_
    refine lv_iconst (v := 1) hx hb dX6_draws_14 (by decide) ?_
    refine x_iald hx hb hK hP 1 rfl (j := 1) (by decide) (by decide) dX6_draws_15 ?_
    obtain ⟨r3, hr3, hres⟩ := bi_1 hres
    refine x_cp (va_runS (As := [.int x2, .int 0, .int (c0_s 1)]) (rest := []) ⟨hx, hb, hml, hown, hts⟩ (kX6_in l G cI cZ tl x2 0 (c0_s 1) r3 hr3) (va_cwS 3 hts gX6_draws_X6_in rfl rfl rfl hsX6_in ⟨Nat.le_of_ble_eq_true rfl, Nat.le_of_ble_eq_true rfl⟩) ⟨PRO_blind, PRO_at va_P0 hK⟩ rfl rfl hl.1 rfl (lv_room (Nat.le_of_ble_eq_true rfl)) dX6_draws_16 ⟨Nat.zero_le _, Nat.zero_le _⟩) ?_
    refine lv_if_eq (tgt := 36) hx hb dX6_draws_19 (by decide) (fun h4 => ?_) (fun h4 => ?_)
    · have hres := ite_t hres h4
      refine lv_iconst (v := (-1)) hx hb dX6_draws_36 (by decide) ?_
      obtain rfl := Option.some.inj hres
      exact W.iret hx hb hr (fun t ht hW => ⟨⟨_, (), rfl, rfl, by rw [ht]; exact hP, hD⟩, hS.F ht⟩) hS.2.2 dX6_draws_37
    · have hres := ite_f hres h4
      refine lv_iload_n hx hb dX6_draws_22 rfl (lv_at hl 3 rfl) ?_
      refine lv_iload_n hx hb dX6_draws_23 rfl (lv_at hl 2 rfl) ?_
      refine lv_aload_n hx hb dX6_draws_24 rfl (lv_at hl 0 rfl) ?_
      refine va_get (D := G) (ci := 6) (v := .ref A0_s) (C := RX6) (T := TX6) (N := 22) hx hb hts (fun w h => (List.mem_cons_of_mem _ (List.mem_append_right _ h))) hown hK.1 hP 0 rfl rfl 0 (by decide) (hts (.fieldLink RX6 7 "EchoSeatsModel" "s" "[I") (List.mem_of_getElem? (i := 1) rfl)) (fun _ h9 => h9) rfl dX6_draws_25 ?_
      refine lv_iconst (v := 1) hx hb dX6_draws_28 (by decide) ?_
      refine x_iald hx hb hK hP 1 rfl (j := 1) (by decide) (by decide) dX6_draws_29 ?_
      obtain ⟨r5, hr5, hres⟩ := bi_1 hres
      refine x_cp (va_runS (As := [.int x3, .int x2, .int (c0_s 1)]) (rest := []) ⟨hx, hb, hml, hown, hts⟩ (kX6_in l G cI cZ tl x3 x2 (c0_s 1) r5 hr5) (va_cwS 3 hts gX6_draws_X6_in rfl rfl rfl hsX6_in ⟨Nat.le_of_ble_eq_true rfl, Nat.le_of_ble_eq_true rfl⟩) ⟨PRO_blind, PRO_at va_P0 hK⟩ rfl rfl hl.1 rfl (lv_room (Nat.le_of_ble_eq_true rfl)) dX6_draws_30 ⟨Nat.zero_le _, Nat.zero_le _⟩) ?_
      refine lv_if_ne (tgt := 38) hx hb dX6_draws_33 (by decide) (fun h6 => ?_) (fun h6 => ?_)
      · have hres := ite_f hres h6
        refine lv_bipush (v := 100) hx hb dX6_draws_38 (by decide) ?_
        refine lv_aload_n hx hb dX6_draws_40 rfl (lv_at hl 0 rfl) ?_
        refine va_get (D := G) (ci := 6) (v := .ref A0_s) (C := RX6) (T := TX6) (N := 22) hx hb hts (fun w h => (List.mem_cons_of_mem _ (List.mem_append_right _ h))) hown hK.1 hP 0 rfl rfl 0 (by decide) (hts (.fieldLink RX6 7 "EchoSeatsModel" "s" "[I") (List.mem_of_getElem? (i := 1) rfl)) (fun _ h9 => h9) rfl dX6_draws_41 ?_
        refine lv_bipush (v := 21) hx hb dX6_draws_44 (by decide) ?_
        refine lv_iload_n hx hb dX6_draws_46 rfl (lv_at hl 1 rfl) ?_
        refine lv_iadd hx hb dX6_draws_47 ?_
        have g7 := gd_1 hres
        have hres := gd_2 hres
        refine x_iald hx hb hK hP 1 rfl (j := (Int32.toNatClampNeg (21 + x1))) rfl g7 dX6_draws_48 ?_
        refine lv_imul hx hb dX6_draws_49 ?_
        refine lv_aload_n hx hb dX6_draws_50 rfl (lv_at hl 0 rfl) ?_
        refine va_get (D := G) (ci := 6) (v := .ref A0_s) (C := RX6) (T := TX6) (N := 22) hx hb hts (fun w h => (List.mem_cons_of_mem _ (List.mem_append_right _ h))) hown hK.1 hP 0 rfl rfl 0 (by decide) (hts (.fieldLink RX6 7 "EchoSeatsModel" "s" "[I") (List.mem_of_getElem? (i := 1) rfl)) (fun _ h9 => h9) rfl dX6_draws_51 ?_
        refine lv_bipush (v := 24) hx hb dX6_draws_54 (by decide) ?_
        refine lv_iload_n hx hb dX6_draws_56 rfl (lv_at hl 1 rfl) ?_
        refine lv_iadd hx hb dX6_draws_57 ?_
        have g8 := gd_1 hres
        have hres := gd_2 hres
        refine x_iald hx hb hK hP 1 rfl (j := (Int32.toNatClampNeg (24 + x1))) rfl g8 dX6_draws_58 ?_
        refine lv_iadd hx hb dX6_draws_59 ?_
        refine lv_topi (fun y9 ey9 => ?_)
        have hres := bnd_z ey9 hres
        refine lv_istore (lv' := [(4, .int y9), (0, .ref A0), (1, .int x1), (2, .int x2), (3, .int x3)]) hx hb dX6_draws_60 hl (by decide) rfl (fun ls hl => ?_)
        refine lv_iload hx hb dX6_draws_62 (lv_at hl 0 rfl) ?_
        refine lv_bipush (v := 100) hx hb dX6_draws_64 (by decide) ?_
        refine lv_iload_n hx hb dX6_draws_66 rfl (lv_at hl 3 rfl) ?_
        refine lv_imul hx hb dX6_draws_67 ?_
        refine lv_iload_n hx hb dX6_draws_68 rfl (lv_at hl 4 rfl) ?_
        refine lv_iadd hx hb dX6_draws_69 ?_
        refine lv_icmp_ne (tgt := 76) hx hb dX6_draws_70 (by decide) (fun h10 => ?_) (fun h10 => ?_)
        · have hres := ite_f hres h10
          refine lv_aload_n hx hb dX6_draws_76 rfl (lv_at hl 1 rfl) ?_
          refine lv_bipush (v := 21) hx hb dX6_draws_77 (by decide) ?_
          refine lv_iload_n hx hb dX6_draws_79 rfl (lv_at hl 2 rfl) ?_
          refine lv_iadd hx hb dX6_draws_80 ?_
          refine lv_bipush (v := 24) hx hb dX6_draws_81 (by decide) ?_
          refine lv_iload_n hx hb dX6_draws_83 rfl (lv_at hl 2 rfl) ?_
          refine lv_iadd hx hb dX6_draws_84 ?_
          obtain ⟨r11, hr11, hres⟩ := bi_1 hres
          refine x_cv (wr := []) (w2 := [o6 A0 r11.1 A0_s A0_draft A0_kept A0_isKept A0_undone A0_seenI A0_seenJ A0_seenTime A0_text A0_kind A0_place A0_value A0_swallows A0_time A0_strength A0_which A0_told, (A0_s, .inl (cI, 27, .inl c0_s)), (A0_undone, .inl (cI, 40, .inl r11.2))]) hP hD hS hA (va_runV (As := [.int (21 + x1), .int (24 + x1)]) (rest := []) ⟨hx, hb, hml, hown, hts⟩ (kX6_known l G cI cZ tl s.heap.size _ A0 A0_s A0_draft A0_kept A0_isKept A0_undone A0_seenI A0_seenJ A0_seenTime A0_text A0_kind A0_place A0_value A0_swallows A0_time A0_strength A0_which A0_told c0 c0_undone c0_s (21 + x1) (24 + x1) r11 rfl hr11) (cwV 2 hts gX6_draws_X6_known rfl rfl rfl hsX6_known ⟨Nat.le_of_ble_eq_true rfl, Nat.le_of_ble_eq_true rfl⟩) ⟨PRW_blind, va_recv hK.1 hP (ci := 6) (q0 := 0) rfl rfl, PRW_at (hP.sub (ws' := [o6 A0 c0 A0_s A0_draft A0_kept A0_isKept A0_undone A0_seenI A0_seenJ A0_seenTime A0_text A0_kind A0_place A0_value A0_swallows A0_time A0_strength A0_which A0_told, (A0_undone, .inl (cI, 40, .inl c0_undone)), (A0_s, .inl (cI, 27, .inl c0_s))]) [0, 2, 1] rfl) (hD.sub (ws' := [o6 A0 c0 A0_s A0_draft A0_kept A0_isKept A0_undone A0_seenI A0_seenJ A0_seenTime A0_text A0_kind A0_place A0_value A0_swallows A0_time A0_strength A0_which A0_told, (A0_undone, .inl (cI, 40, .inl c0_undone)), (A0_s, .inl (cI, 27, .inl c0_s))]) [0, 2, 1] (by decide) rfl) hK⟩ rfl rfl hl.1 rfl (lv_room (Nat.le_of_ble_eq_true rfl)) dX6_draws_85 ⟨Nat.zero_le _, Nat.zero_le _⟩) [0, 2, 1] [] [0, 2, 1] rfl rfl (by decide) (by decide) rfl rfl (by decide) (fun H locs hP hD hS => ?_)
          refine lv_aload_n hx hb dX6_draws_88 rfl (lv_at hl 1 rfl) ?_
          refine va_get (D := G) (ci := 6) (v := .ref A0_s) (C := RX6) (T := TX6) (N := 22) hx hb hts (fun w h => (List.mem_cons_of_mem _ (List.mem_append_right _ h))) hown hK.1 hP 0 rfl rfl 0 (by decide) (hts (.fieldLink RX6 7 "EchoSeatsModel" "s" "[I") (List.mem_of_getElem? (i := 1) rfl)) (fun _ h9 => h9) rfl dX6_draws_89 ?_
          refine lv_bipush (v := 21) hx hb dX6_draws_92 (by decide) ?_
          refine lv_iload_n hx hb dX6_draws_94 rfl (lv_at hl 2 rfl) ?_
          refine lv_iadd hx hb dX6_draws_95 ?_
          refine lv_iload_n hx hb dX6_draws_96 rfl (lv_at hl 3 rfl) ?_
          have g12 := gd_1 hres
          have hres := gd_2 hres
          refine x_iast hx hb hK hP hD hS 1 rfl (j := (Int32.toNatClampNeg (21 + x1))) rfl g12 dX6_draws_97 (fun H locs hP hD hS => ?_)
          have hP : va_P G vwCl [o6 A0 r11.1 A0_s A0_draft A0_kept A0_isKept A0_undone A0_seenI A0_seenJ A0_seenTime A0_text A0_kind A0_place A0_value A0_swallows A0_time A0_strength A0_which A0_told, (A0_s, .inl (cI, 27, .inl (upd c0_s (Int32.toNatClampNeg (21 + x1)) x2))), (A0_undone, .inl (cI, 40, .inl r11.2))] H := hP
          have hD : va_D A [o6 A0 r11.1 A0_s A0_draft A0_kept A0_isKept A0_undone A0_seenI A0_seenJ A0_seenTime A0_text A0_kind A0_place A0_value A0_swallows A0_time A0_strength A0_which A0_told, (A0_s, .inl (cI, 27, .inl (upd c0_s (Int32.toNatClampNeg (21 + x1)) x2))), (A0_undone, .inl (cI, 40, .inl r11.2))] := hD
          refine lv_aload_n hx hb dX6_draws_98 rfl (lv_at hl 1 rfl) ?_
          refine va_get (D := G) (ci := 6) (v := .ref A0_s) (C := RX6) (T := TX6) (N := 22) hx hb hts (fun w h => (List.mem_cons_of_mem _ (List.mem_append_right _ h))) hown hK.1 hP 0 rfl rfl 0 (by decide) (hts (.fieldLink RX6 7 "EchoSeatsModel" "s" "[I") (List.mem_of_getElem? (i := 1) rfl)) (fun _ h9 => h9) rfl dX6_draws_99 ?_
          refine lv_bipush (v := 24) hx hb dX6_draws_102 (by decide) ?_
          refine lv_iload_n hx hb dX6_draws_104 rfl (lv_at hl 2 rfl) ?_
          refine lv_iadd hx hb dX6_draws_105 ?_
          refine lv_iload_n hx hb dX6_draws_106 rfl (lv_at hl 4 rfl) ?_
          have g13 := gd_1 hres
          have hres := gd_2 hres
          refine x_iast hx hb hK hP hD hS 1 rfl (j := (Int32.toNatClampNeg (24 + x1))) rfl g13 dX6_draws_107 (fun H locs hP hD hS => ?_)
          have hP : va_P G vwCl [o6 A0 r11.1 A0_s A0_draft A0_kept A0_isKept A0_undone A0_seenI A0_seenJ A0_seenTime A0_text A0_kind A0_place A0_value A0_swallows A0_time A0_strength A0_which A0_told, (A0_s, .inl (cI, 27, .inl (upd (upd c0_s (Int32.toNatClampNeg (21 + x1)) x2) (Int32.toNatClampNeg (24 + x1)) x3))), (A0_undone, .inl (cI, 40, .inl r11.2))] H := hP
          have hD : va_D A [o6 A0 r11.1 A0_s A0_draft A0_kept A0_isKept A0_undone A0_seenI A0_seenJ A0_seenTime A0_text A0_kind A0_place A0_value A0_swallows A0_time A0_strength A0_which A0_told, (A0_s, .inl (cI, 27, .inl (upd (upd c0_s (Int32.toNatClampNeg (21 + x1)) x2) (Int32.toNatClampNeg (24 + x1)) x3))), (A0_undone, .inl (cI, 40, .inl r11.2))] := hD
          refine lv_iload hx hb dX6_draws_108 (lv_at hl 0 rfl) ?_
          obtain rfl := Option.some.inj hres
          exact W.iret hx hb hr (fun t ht hW => ⟨⟨_, (), rfl, rfl, by rw [ht]; exact hP, hD⟩, hS.F ht⟩) hS.2.2 dX6_draws_110
        · have hres := ite_t hres h10
          refine lv_bipush (v := (-2)) hx hb dX6_draws_73 (by decide) ?_
          obtain rfl := Option.some.inj hres
          exact W.iret hx hb hr (fun t ht hW => ⟨⟨_, (), rfl, rfl, by rw [ht]; exact hP, hD⟩, hS.F ht⟩) hS.2.2 dX6_draws_75
      · have hres := ite_t hres h6
        refine lv_iconst (v := (-1)) hx hb dX6_draws_36 (by decide) ?_
        obtain rfl := Option.some.inj hres
        exact W.iret hx hb hr (fun t ht hW => ⟨⟨_, (), rfl, rfl, by rw [ht]; exact hP, hD⟩, hS.F ht⟩) hS.2.2 dX6_draws_37
theorem hsX6_draws : yX6_draws.cls = RX6 ∧ yX6_draws.cls ≠ "java/lang/invoke/MethodHandle" ∧ yX6_draws.cls ≠ "java/lang/invoke/VarHandle" ∧ (parseMethodDescriptor yX6_draws.desc).map (fun d => d.parameters.length) = some 3 := by decide +kernel
set_option maxHeartbeats 4000000 in
set_option maxRecDepth 100000 in
theorem kX6_isSeat (l : Launch) (G : va_G) (cI cZ : ClassId) (tl : List (ClassId × FieldType)) (A0 A0_s A0_draft A0_kept A0_isKept A0_undone A0_seenI A0_seenJ A0_seenTime A0_text A0_kind A0_place A0_value A0_swallows A0_time A0_strength A0_which A0_told : Nat) (c0 c0_s : Nat → Int32) (x1 : Int32) (res : Int32) (hres : fX6_isSeat c0 c0_s x1 = some res) : Met l yX6_isSeat wsX6_isSeat rX6_isSeat (va_Pc [.ref A0, .int x1] (PRO G cI cZ tl [o6 A0 c0 A0_s A0_draft A0_kept A0_isKept A0_undone A0_seenI A0_seenJ A0_seenTime A0_text A0_kind A0_place A0_value A0_swallows A0_time A0_strength A0_which A0_told, (A0_s, .inl (cI, 27, .inl c0_s))])) (Sp res) 0 0 (fun _ => False) := by
  refine Met.ofW (cc := cX6_isSeat) (maxL := 2) (ret := (some .boolean)) (by decide) rfl ?_
  intro p e s m args below meth c s₁ B hml hv
  obtain ⟨rfl, hP, hK⟩ := hv
  have hx := B.exec
  have hb := B.bytes
  have hr := B.returns
  have hts := atoms_spec (ws := wsX6_isSeat) B.pre
  have hown : s.vm.findClass RX6 = some m.cls := findClass_of_methodNamed B.named
  have hlocks := B.notSynchronized
  have hl := lv_entry ([.ref A0, .int x1] : List Value) (n := 2) (Nat.le_of_ble_eq_true rfl)
  rw [lg_entry_eq]
  generalize (lg_sl ([.ref A0, .int x1] : List Value) ++ List.replicate (2 - (lg_sl ([.ref A0, .int x1] : List Value)).length) Slot.unset).toArray = ls at hl ⊢
  have hl : lv_has ls 2 [(0, .ref A0), (1, .int x1)] := hl
  refine lv_iload_n hx hb dX6_isSeat_0 rfl (lv_at hl 1 rfl) ?_
  refine lv_iconst (v := 0) hx hb dX6_isSeat_1 (by decide) ?_
  refine lv_aload_n hx hb dX6_isSeat_2 rfl (lv_at hl 0 rfl) ?_
  refine va_get (D := G) (ci := 6) (v := .ref A0_s) (C := RX6) (T := TX6) (N := 22) hx hb hts (fun w h => (List.mem_cons_of_mem _ (List.mem_append_right _ h))) hown hK.1 hP 0 rfl rfl 0 (by decide) (hts (.fieldLink RX6 7 "EchoSeatsModel" "s" "[I") (List.mem_of_getElem? (i := 1) rfl)) (fun _ h9 => h9) rfl dX6_isSeat_3 ?_
  refine lv_bipush (v := 8) hx hb dX6_isSeat_6 (by decide) ?_
  refine x_iald hx hb hK hP 1 rfl (j := 8) (by decide) (by decide) dX6_isSeat_8 ?_
  refine lv_iconst (v := 1) hx hb dX6_isSeat_9 (by decide) ?_
  refine lv_isub hx hb dX6_isSeat_10 ?_
  obtain ⟨r1, hr1, hres⟩ := bi_1 hres
  refine x_cp (va_runS (As := [.int x1, .int 0, .int ((c0_s 8) - 1)]) (rest := []) ⟨hx, hb, hml, hown, hts⟩ (kX6_in l G cI cZ tl x1 0 ((c0_s 8) - 1) r1 hr1) (va_cwS 3 hts gX6_isSeat_X6_in rfl rfl rfl hsX6_in ⟨Nat.le_of_ble_eq_true rfl, Nat.le_of_ble_eq_true rfl⟩) ⟨PRO_blind, PRO_at va_P0 hK⟩ rfl rfl hl.1 rfl (lv_room (Nat.le_of_ble_eq_true rfl)) dX6_isSeat_11 ⟨Nat.zero_le _, Nat.zero_le _⟩) ?_
  have g2 := gd_1 hres
  have hres := gd_2 hres
  obtain rfl := Option.some.inj hres
  exact W.zret hx hb hr (by rcases g2 with h | h <;> rw [h] <;> rfl) (fun t ht hW => ⟨rfl, ht⟩) (fun q h => absurd h List.not_mem_nil) dX6_isSeat_14
theorem hsX6_isSeat : yX6_isSeat.cls = RX6 ∧ yX6_isSeat.cls ≠ "java/lang/invoke/MethodHandle" ∧ yX6_isSeat.cls ≠ "java/lang/invoke/VarHandle" ∧ (parseMethodDescriptor yX6_isSeat.desc).map (fun d => d.parameters.length) = some 1 := by decide +kernel
set_option maxHeartbeats 4000000 in
set_option maxRecDepth 100000 in
theorem kX6_fraction (l : Launch) (G : va_G) (cI cZ : ClassId) (tl : List (ClassId × FieldType)) (x0 x1 x2 : Int32) (res : Int32) (hres : fX6_fraction x0 x1 x2 = some res) : Met l yX6_fraction wsX6_fraction rX6_fraction (va_Pc [.int x0, .int x1, .int x2] (PRO G cI cZ tl [])) (Sp res) 0 0 (fun _ => False) := by
  refine Met.ofW (cc := cX6_fraction) (maxL := 4) (ret := (some .int)) (by decide) rfl ?_
  intro p e s m args below meth c s₁ B hml hv
  obtain ⟨rfl, hP, hK⟩ := hv
  have hx := B.exec
  have hb := B.bytes
  have hr := B.returns
  have hts := atoms_spec (ws := wsX6_fraction) B.pre
  have hown : s.vm.findClass RX6 = some m.cls := findClass_of_methodNamed B.named
  have hlocks := B.notSynchronized
  have hl := lv_entry ([.int x0, .int x1, .int x2] : List Value) (n := 4) (Nat.le_of_ble_eq_true rfl)
  rw [lg_entry_eq]
  generalize (lg_sl ([.int x0, .int x1, .int x2] : List Value) ++ List.replicate (4 - (lg_sl ([.int x0, .int x1, .int x2] : List Value)).length) Slot.unset).toArray = ls at hl ⊢
  have hl : lv_has ls 4 [(0, .int x0), (1, .int x1), (2, .int x2)] := hl
  refine lv_iload_n hx hb dX6_fraction_0 rfl (lv_at hl 0 rfl) ?_
  refine lv_iload_n hx hb dX6_fraction_1 rfl (lv_at hl 1 rfl) ?_
  obtain ⟨r1, hr1, hres⟩ := bi_1 hres
  refine x_cp (va_runS (As := [.int x0, .int x1]) (rest := []) ⟨hx, hb, hml, hown, hts⟩ (kX6_common l G cI cZ tl x0 x1 r1 hr1) (va_cwS 2 hts gX6_fraction_X6_common rfl rfl rfl hsX6_common ⟨Nat.le_of_ble_eq_true rfl, Nat.le_of_ble_eq_true rfl⟩) ⟨PRO_blind, PRO_at va_P0 hK⟩ rfl rfl hl.1 rfl (lv_room (Nat.le_of_ble_eq_true rfl)) dX6_fraction_2 ⟨Nat.zero_le _, Nat.zero_le _⟩) ?_
  refine lv_istore_n (lv' := [(3, .int r1), (0, .int x0), (1, .int x1), (2, .int x2)]) hx hb dX6_fraction_5 rfl hl (by decide) rfl (fun ls hl => ?_)
  refine lv_iload_n hx hb dX6_fraction_6 rfl (lv_at hl 3 rfl) ?_
  refine lv_if_ne (tgt := 16) hx hb dX6_fraction_7 (by decide) (fun h2 => ?_) (fun h2 => ?_)
  · have hres := ite_f hres h2
    refine lv_iload_n hx hb dX6_fraction_16 rfl (lv_at hl 2 rfl) ?_
    refine lv_iload_n hx hb dX6_fraction_17 rfl (lv_at hl 0 rfl) ?_
    have g3 := gd_1 hres
    have hres := gd_2 hres
    refine lv_idiv hx hb dX6_fraction_18 g3 ?_
    obtain rfl := Option.some.inj hres
    exact W.iret hx hb hr (fun t ht hW => ⟨rfl, ht⟩) (fun q h => absurd h List.not_mem_nil) dX6_fraction_19
  · have hres := ite_t hres h2
    refine lv_iload_n hx hb dX6_fraction_10 rfl (lv_at hl 1 rfl) ?_
    refine lv_iload_n hx hb dX6_fraction_11 rfl (lv_at hl 0 rfl) ?_
    have g4 := gd_1 hres
    have hres := gd_2 hres
    refine lv_idiv hx hb dX6_fraction_12 g4 ?_
    refine lv_goto (tgt := 19) hx hb dX6_fraction_13 (by decide) ?_
    obtain rfl := Option.some.inj hres
    exact W.iret hx hb hr (fun t ht hW => ⟨rfl, ht⟩) (fun q h => absurd h List.not_mem_nil) dX6_fraction_19
theorem hsX6_fraction : yX6_fraction.cls ≠ "java/lang/invoke/MethodHandle" ∧ yX6_fraction.cls ≠ "java/lang/invoke/VarHandle" ∧ (parseMethodDescriptor yX6_fraction.desc).map (fun d => d.parameters.length) = some 3 := by decide +kernel
set_option maxHeartbeats 4000000 in
set_option maxRecDepth 100000 in
theorem kX6_early (l : Launch) (G : va_G) (cI cZ : ClassId) (tl : List (ClassId × FieldType)) (sz : Nat) (A : Nat → Prop) (A0 A0_s A0_draft A0_kept A0_isKept A0_undone A0_seenI A0_seenJ A0_seenTime A0_text A0_kind A0_place A0_value A0_swallows A0_time A0_strength A0_which A0_told : Nat) (c0 c0_s c0_swallows c0_time c0_strength c0_which : Nat → Int32) (x1 x2 x3 : Int32) (res : Int32 × (Nat → Int32) × (Nat → Int32) × (Nat → Int32) × (Nat → Int32) × (Nat → Int32)) (hAe : A = va_A [o6 A0 c0 A0_s A0_draft A0_kept A0_isKept A0_undone A0_seenI A0_seenJ A0_seenTime A0_text A0_kind A0_place A0_value A0_swallows A0_time A0_strength A0_which A0_told, (A0_s, .inl (cI, 27, .inl c0_s)), (A0_swallows, .inl (cI, 4, .inl c0_swallows)), (A0_time, .inl (cI, 25, .inl c0_time)), (A0_strength, .inl (cI, 25, .inl c0_strength)), (A0_which, .inl (cI, 25, .inl c0_which))] sz) (hres : fX6_early c0 c0_s c0_swallows c0_time c0_strength c0_which x1 x2 x3 = some res) : Met l yX6_early wsX6_early rX6_early (va_Pc [.ref A0, .int x1, .int x2, .int x3] (PRW G cI cZ tl [o6 A0 c0 A0_s A0_draft A0_kept A0_isKept A0_undone A0_seenI A0_seenJ A0_seenTime A0_text A0_kind A0_place A0_value A0_swallows A0_time A0_strength A0_which A0_told, (A0_s, .inl (cI, 27, .inl c0_s)), (A0_swallows, .inl (cI, 4, .inl c0_swallows)), (A0_time, .inl (cI, 25, .inl c0_time)), (A0_strength, .inl (cI, 25, .inl c0_strength)), (A0_which, .inl (cI, 25, .inl c0_which))] sz)) (Qiw res.1 G A [o6 A0 res.2.1 A0_s A0_draft A0_kept A0_isKept A0_undone A0_seenI A0_seenJ A0_seenTime A0_text A0_kind A0_place A0_value A0_swallows A0_time A0_strength A0_which A0_told, (A0_s, .inl (cI, 27, .inl c0_s)), (A0_swallows, .inl (cI, 4, .inl res.2.2.1)), (A0_time, .inl (cI, 25, .inl res.2.2.2.1)), (A0_strength, .inl (cI, 25, .inl res.2.2.2.2.1)), (A0_which, .inl (cI, 25, .inl res.2.2.2.2.2))]) 0 0 A := by
  refine Met.ofW (cc := cX6_early) (maxL := 5) (ret := (some .int)) (by decide) rfl ?_
  intro p e s m args below meth c s₁ B hml hv
  obtain ⟨rfl, hsz, hP, hK, hD0⟩ := hv
  have hx := B.exec
  have hb := B.bytes
  have hr := B.returns
  have hts := atoms_spec (ws := wsX6_early) B.pre
  have hown : s.vm.findClass RX6 = some m.cls := findClass_of_methodNamed B.named
  have hlocks := B.notSynchronized
  subst hsz
  have hD : va_D A [o6 A0 c0 A0_s A0_draft A0_kept A0_isKept A0_undone A0_seenI A0_seenJ A0_seenTime A0_text A0_kind A0_place A0_value A0_swallows A0_time A0_strength A0_which A0_told, (A0_s, .inl (cI, 27, .inl c0_s)), (A0_swallows, .inl (cI, 4, .inl c0_swallows)), (A0_time, .inl (cI, 25, .inl c0_time)), (A0_strength, .inl (cI, 25, .inl c0_strength)), (A0_which, .inl (cI, 25, .inl c0_which))] := by rw [hAe]; exact hD0.self
  have hA : ∀ q : Nat, s.heap.size ≤ q → A q := fun q h => by rw [hAe]; exact Or.inr h
  clear hAe hD0
  have hS : va_S A s.heap s.heap [] := va_S.rf
  have hl := lv_entry ([.ref A0, .int x1, .int x2, .int x3] : List Value) (n := 5) (Nat.le_of_ble_eq_true rfl)
  rw [lg_entry_eq]
  generalize (lg_sl ([.ref A0, .int x1, .int x2, .int x3] : List Value) ++ List.replicate (5 - (lg_sl ([.ref A0, .int x1, .int x2, .int x3] : List Value)).length) Slot.unset).toArray = ls at hl ⊢
  have hl : lv_has ls 5 [(0, .ref A0), (1, .int x1), (2, .int x2), (3, .int x3)] := hl
  refine lv_aload_n hx hb dX6_early_0 rfl (lv_at hl 0 rfl) ?_
  refine lv_iload_n hx hb dX6_early_1 rfl (lv_at hl 1 rfl) ?_
  obtain ⟨r1, hr1, hres⟩ := bi_1 hres
  refine x_cp (va_runV (As := [.int x1]) (rest := []) ⟨hx, hb, hml, hown, hts⟩ (kX6_isSeat l G cI cZ tl A0 A0_s A0_draft A0_kept A0_isKept A0_undone A0_seenI A0_seenJ A0_seenTime A0_text A0_kind A0_place A0_value A0_swallows A0_time A0_strength A0_which A0_told c0 c0_s x1 r1 hr1) (cwV 1 hts gX6_early_X6_isSeat rfl rfl rfl hsX6_isSeat ⟨Nat.le_of_ble_eq_true rfl, Nat.le_of_ble_eq_true rfl⟩) ⟨PRO_blind, va_recv hK.1 hP (ci := 6) (q0 := 0) rfl rfl, PRO_at (hP.sub (ws' := [o6 A0 c0 A0_s A0_draft A0_kept A0_isKept A0_undone A0_seenI A0_seenJ A0_seenTime A0_text A0_kind A0_place A0_value A0_swallows A0_time A0_strength A0_which A0_told, (A0_s, .inl (cI, 27, .inl c0_s))]) [0, 1] rfl) hK⟩ rfl rfl hl.1 rfl (lv_room (Nat.le_of_ble_eq_true rfl)) dX6_early_2 ⟨Nat.zero_le _, Nat.zero_le _⟩) ?_
  refine lv_if_eq (tgt := 28) hx hb dX6_early_5 (by decide) (fun h2 => ?_) (fun h2 => ?_)
  · have hres := ite_t hres h2
    refine lv_iconst (v := (-1)) hx hb dX6_early_28 (by decide) ?_
    obtain rfl := Option.some.inj hres
    exact W.iret hx hb hr (fun t ht hW => ⟨⟨_, (), rfl, rfl, by rw [ht]; exact hP, hD⟩, hS.F ht⟩) hS.2.2 dX6_early_29
  · have hres := ite_f hres h2
    refine lv_iload_n hx hb dX6_early_8 rfl (lv_at hl 2 rfl) ?_
    refine lv_iconst (v := 0) hx hb dX6_early_9 (by decide) ?_
    refine lv_sipush (v := 999) hx hb dX6_early_10 (by decide) ?_
    obtain ⟨r3, hr3, hres⟩ := bi_1 hres
    refine x_cp (va_runS (As := [.int x2, .int 0, .int 999]) (rest := []) ⟨hx, hb, hml, hown, hts⟩ (kX6_in l G cI cZ tl x2 0 999 r3 hr3) (va_cwS 3 hts gX6_early_X6_in rfl rfl rfl hsX6_in ⟨Nat.le_of_ble_eq_true rfl, Nat.le_of_ble_eq_true rfl⟩) ⟨PRO_blind, PRO_at va_P0 hK⟩ rfl rfl hl.1 rfl (lv_room (Nat.le_of_ble_eq_true rfl)) dX6_early_13 ⟨Nat.zero_le _, Nat.zero_le _⟩) ?_
    refine lv_if_eq (tgt := 28) hx hb dX6_early_16 (by decide) (fun h4 => ?_) (fun h4 => ?_)
    · have hres := ite_t hres h4
      refine lv_iconst (v := (-1)) hx hb dX6_early_28 (by decide) ?_
      obtain rfl := Option.some.inj hres
      exact W.iret hx hb hr (fun t ht hW => ⟨⟨_, (), rfl, rfl, by rw [ht]; exact hP, hD⟩, hS.F ht⟩) hS.2.2 dX6_early_29
    · have hres := ite_f hres h4
      refine lv_iload_n hx hb dX6_early_19 rfl (lv_at hl 3 rfl) ?_
      refine lv_iconst (v := 0) hx hb dX6_early_20 (by decide) ?_
      refine lv_iconst (v := 1) hx hb dX6_early_21 (by decide) ?_
      obtain ⟨r5, hr5, hres⟩ := bi_1 hres
      refine x_cp (va_runS (As := [.int x3, .int 0, .int 1]) (rest := []) ⟨hx, hb, hml, hown, hts⟩ (kX6_in l G cI cZ tl x3 0 1 r5 hr5) (va_cwS 3 hts gX6_early_X6_in rfl rfl rfl hsX6_in ⟨Nat.le_of_ble_eq_true rfl, Nat.le_of_ble_eq_true rfl⟩) ⟨PRO_blind, PRO_at va_P0 hK⟩ rfl rfl hl.1 rfl (lv_room (Nat.le_of_ble_eq_true rfl)) dX6_early_22 ⟨Nat.zero_le _, Nat.zero_le _⟩) ?_
      refine lv_if_ne (tgt := 30) hx hb dX6_early_25 (by decide) (fun h6 => ?_) (fun h6 => ?_)
      · have hres := ite_f hres h6
        refine lv_aload_n hx hb dX6_early_30 rfl (lv_at hl 0 rfl) ?_
        refine lv_iload_n hx hb dX6_early_31 rfl (lv_at hl 1 rfl) ?_
        obtain ⟨r7, hr7, hres⟩ := bi_1 hres
        refine x_cv (wr := []) (w2 := [o6 A0 r7.1 A0_s A0_draft A0_kept A0_isKept A0_undone A0_seenI A0_seenJ A0_seenTime A0_text A0_kind A0_place A0_value A0_swallows A0_time A0_strength A0_which A0_told, (A0_s, .inl (cI, 27, .inl c0_s)), (A0_swallows, .inl (cI, 4, .inl r7.2.1)), (A0_time, .inl (cI, 25, .inl r7.2.2.1)), (A0_strength, .inl (cI, 25, .inl r7.2.2.2.1)), (A0_which, .inl (cI, 25, .inl r7.2.2.2.2))]) hP hD hS hA (va_runV (As := [.int x1]) (rest := []) ⟨hx, hb, hml, hown, hts⟩ (kX6_hearsNow l G cI cZ tl s.heap.size _ A0 A0_s A0_draft A0_kept A0_isKept A0_undone A0_seenI A0_seenJ A0_seenTime A0_text A0_kind A0_place A0_value A0_swallows A0_time A0_strength A0_which A0_told c0 c0_s c0_swallows c0_time c0_strength c0_which x1 r7 rfl hr7) (cwV 1 hts gX6_early_X6_hearsNow rfl rfl rfl hsX6_hearsNow ⟨Nat.le_of_ble_eq_true rfl, Nat.le_of_ble_eq_true rfl⟩) ⟨PRW_blind, va_recv hK.1 hP (ci := 6) (q0 := 0) rfl rfl, PRW_at (hP.sub (ws' := [o6 A0 c0 A0_s A0_draft A0_kept A0_isKept A0_undone A0_seenI A0_seenJ A0_seenTime A0_text A0_kind A0_place A0_value A0_swallows A0_time A0_strength A0_which A0_told, (A0_s, .inl (cI, 27, .inl c0_s)), (A0_swallows, .inl (cI, 4, .inl c0_swallows)), (A0_time, .inl (cI, 25, .inl c0_time)), (A0_strength, .inl (cI, 25, .inl c0_strength)), (A0_which, .inl (cI, 25, .inl c0_which))]) [0, 1, 2, 3, 4, 5] rfl) (hD.sub (ws' := [o6 A0 c0 A0_s A0_draft A0_kept A0_isKept A0_undone A0_seenI A0_seenJ A0_seenTime A0_text A0_kind A0_place A0_value A0_swallows A0_time A0_strength A0_which A0_told, (A0_s, .inl (cI, 27, .inl c0_s)), (A0_swallows, .inl (cI, 4, .inl c0_swallows)), (A0_time, .inl (cI, 25, .inl c0_time)), (A0_strength, .inl (cI, 25, .inl c0_strength)), (A0_which, .inl (cI, 25, .inl c0_which))]) [0, 1, 2, 3, 4, 5] (by decide) rfl) hK⟩ rfl rfl hl.1 rfl (lv_room (Nat.le_of_ble_eq_true rfl)) dX6_early_32 ⟨Nat.zero_le _, Nat.zero_le _⟩) [0, 1, 2, 3, 4, 5] [] [0, 1, 2, 3, 4, 5] rfl rfl (by decide) (by decide) rfl rfl (by decide) (fun H locs hP hD hS => ?_)
        refine lv_aload_n hx hb dX6_early_35 rfl (lv_at hl 0 rfl) ?_
        obtain ⟨r8, hr8, hres⟩ := bi_1 hres
        refine x_cp (va_runV (As := []) (rest := []) ⟨hx, hb, hml, hown, hts⟩ (kX6_soundAll l G cI cZ tl A0 A0_s A0_draft A0_kept A0_isKept A0_undone A0_seenI A0_seenJ A0_seenTime A0_text A0_kind A0_place A0_value A0_swallows A0_time A0_strength A0_which A0_told r7.1 r7.2.2.1 r7.2.2.2.1 r8 hr8) (cwV 0 hts gX6_early_X6_soundAll rfl rfl rfl hsX6_soundAll ⟨Nat.le_of_ble_eq_true rfl, Nat.le_of_ble_eq_true rfl⟩) ⟨PRO_blind, va_recv hK.1 hP (ci := 6) (q0 := 0) rfl rfl, PRO_at (hP.sub (ws' := [o6 A0 r7.1 A0_s A0_draft A0_kept A0_isKept A0_undone A0_seenI A0_seenJ A0_seenTime A0_text A0_kind A0_place A0_value A0_swallows A0_time A0_strength A0_which A0_told, (A0_time, .inl (cI, 25, .inl r7.2.2.1)), (A0_strength, .inl (cI, 25, .inl r7.2.2.2.1))]) [0, 3, 4] rfl) hK⟩ rfl rfl hl.1 rfl (lv_room (Nat.le_of_ble_eq_true rfl)) dX6_early_36 ⟨Nat.zero_le _, Nat.zero_le _⟩) ?_
        refine lv_istore (lv' := [(4, .int r8), (0, .ref A0), (1, .int x1), (2, .int x2), (3, .int x3)]) hx hb dX6_early_39 hl (by decide) rfl (fun ls hl => ?_)
        refine lv_iload hx hb dX6_early_41 (lv_at hl 0 rfl) ?_
        refine lv_if_ne (tgt := 50) hx hb dX6_early_43 (by decide) (fun h9 => ?_) (fun h9 => ?_)
        · have hres := ite_f hres h9
          refine lv_aload_n hx hb dX6_early_50 rfl (lv_at hl 1 rfl) ?_
          refine lv_iload_n hx hb dX6_early_51 rfl (lv_at hl 3 rfl) ?_
          obtain ⟨r10, hr10, hres⟩ := bi_1 hres
          refine x_cp (va_runV (As := [.int x2]) (rest := []) ⟨hx, hb, hml, hown, hts⟩ (kX6_soundBy l G cI cZ tl A0 A0_s A0_draft A0_kept A0_isKept A0_undone A0_seenI A0_seenJ A0_seenTime A0_text A0_kind A0_place A0_value A0_swallows A0_time A0_strength A0_which A0_told r7.1 r7.2.2.1 r7.2.2.2.1 x2 r10 hr10) (cwV 1 hts gX6_early_X6_soundBy rfl rfl rfl hsX6_soundBy ⟨Nat.le_of_ble_eq_true rfl, Nat.le_of_ble_eq_true rfl⟩) ⟨PRO_blind, va_recv hK.1 hP (ci := 6) (q0 := 0) rfl rfl, PRO_at (hP.sub (ws' := [o6 A0 r7.1 A0_s A0_draft A0_kept A0_isKept A0_undone A0_seenI A0_seenJ A0_seenTime A0_text A0_kind A0_place A0_value A0_swallows A0_time A0_strength A0_which A0_told, (A0_time, .inl (cI, 25, .inl r7.2.2.1)), (A0_strength, .inl (cI, 25, .inl r7.2.2.2.1))]) [0, 3, 4] rfl) hK⟩ rfl rfl hl.1 rfl (lv_room (Nat.le_of_ble_eq_true rfl)) dX6_early_52 ⟨Nat.zero_le _, Nat.zero_le _⟩) ?_
          refine lv_iload hx hb dX6_early_55 (lv_at hl 0 rfl) ?_
          refine lv_iload_n hx hb dX6_early_57 rfl (lv_at hl 4 rfl) ?_
          obtain ⟨r11, hr11, hres⟩ := bi_1 hres
          refine x_cp (va_runS (As := [.int r10, .int r8, .int x3]) (rest := []) ⟨hx, hb, hml, hown, hts⟩ (kX6_fraction l G cI cZ tl r10 r8 x3 r11 hr11) (va_cwS 3 hts gX6_early_X6_fraction rfl rfl rfl hsX6_fraction ⟨Nat.le_of_ble_eq_true rfl, Nat.le_of_ble_eq_true rfl⟩) ⟨PRO_blind, PRO_at va_P0 hK⟩ rfl rfl hl.1 rfl (lv_room (Nat.le_of_ble_eq_true rfl)) dX6_early_58 ⟨Nat.zero_le _, Nat.zero_le _⟩) ?_
          obtain rfl := Option.some.inj hres
          exact W.iret hx hb hr (fun t ht hW => ⟨⟨_, (), rfl, rfl, by rw [ht]; exact hP, hD⟩, hS.F ht⟩) hS.2.2 dX6_early_61
        · have hres := ite_t hres h9
          refine lv_iload_n hx hb dX6_early_46 rfl (lv_at hl 4 rfl) ?_
          refine lv_goto (tgt := 61) hx hb dX6_early_47 (by decide) ?_
          obtain rfl := Option.some.inj hres
          exact W.iret hx hb hr (fun t ht hW => ⟨⟨_, (), rfl, rfl, by rw [ht]; exact hP, hD⟩, hS.F ht⟩) hS.2.2 dX6_early_61
      · have hres := ite_t hres h6
        refine lv_iconst (v := (-1)) hx hb dX6_early_28 (by decide) ?_
        obtain rfl := Option.some.inj hres
        exact W.iret hx hb hr (fun t ht hW => ⟨⟨_, (), rfl, rfl, by rw [ht]; exact hP, hD⟩, hS.F ht⟩) hS.2.2 dX6_early_29
theorem hsX6_early : yX6_early.cls = RX6 ∧ yX6_early.cls ≠ "java/lang/invoke/MethodHandle" ∧ yX6_early.cls ≠ "java/lang/invoke/VarHandle" ∧ (parseMethodDescriptor yX6_early.desc).map (fun d => d.parameters.length) = some 3 := by decide +kernel
set_option maxHeartbeats 4000000 in
set_option maxRecDepth 100000 in
theorem kX6_fade (l : Launch) (G : va_G) (cI cZ : ClassId) (tl : List (ClassId × FieldType)) (sz : Nat) (A : Nat → Prop) (A0 A0_s A0_draft A0_kept A0_isKept A0_undone A0_seenI A0_seenJ A0_seenTime A0_text A0_kind A0_place A0_value A0_swallows A0_time A0_strength A0_which A0_told : Nat) (c0 c0_s c0_swallows c0_time c0_strength c0_which : Nat → Int32) (x1 x2 : Int32) (res : Int32 × (Nat → Int32) × (Nat → Int32) × (Nat → Int32) × (Nat → Int32) × (Nat → Int32)) (hAe : A = va_A [o6 A0 c0 A0_s A0_draft A0_kept A0_isKept A0_undone A0_seenI A0_seenJ A0_seenTime A0_text A0_kind A0_place A0_value A0_swallows A0_time A0_strength A0_which A0_told, (A0_s, .inl (cI, 27, .inl c0_s)), (A0_swallows, .inl (cI, 4, .inl c0_swallows)), (A0_time, .inl (cI, 25, .inl c0_time)), (A0_strength, .inl (cI, 25, .inl c0_strength)), (A0_which, .inl (cI, 25, .inl c0_which))] sz) (hres : fX6_fade c0 c0_s c0_swallows c0_time c0_strength c0_which x1 x2 = some res) : Met l yX6_fade wsX6_fade rX6_fade (va_Pc [.ref A0, .int x1, .int x2] (PRW G cI cZ tl [o6 A0 c0 A0_s A0_draft A0_kept A0_isKept A0_undone A0_seenI A0_seenJ A0_seenTime A0_text A0_kind A0_place A0_value A0_swallows A0_time A0_strength A0_which A0_told, (A0_s, .inl (cI, 27, .inl c0_s)), (A0_swallows, .inl (cI, 4, .inl c0_swallows)), (A0_time, .inl (cI, 25, .inl c0_time)), (A0_strength, .inl (cI, 25, .inl c0_strength)), (A0_which, .inl (cI, 25, .inl c0_which))] sz)) (Qiw res.1 G A [o6 A0 res.2.1 A0_s A0_draft A0_kept A0_isKept A0_undone A0_seenI A0_seenJ A0_seenTime A0_text A0_kind A0_place A0_value A0_swallows A0_time A0_strength A0_which A0_told, (A0_s, .inl (cI, 27, .inl c0_s)), (A0_swallows, .inl (cI, 4, .inl res.2.2.1)), (A0_time, .inl (cI, 25, .inl res.2.2.2.1)), (A0_strength, .inl (cI, 25, .inl res.2.2.2.2.1)), (A0_which, .inl (cI, 25, .inl res.2.2.2.2.2))]) 0 0 A := by
  refine Met.ofW (cc := cX6_fade) (maxL := 10) (ret := (some .int)) (by decide) rfl ?_
  intro p e s m args below meth c s₁ B hml hv
  obtain ⟨rfl, hsz, hP, hK, hD0⟩ := hv
  have hx := B.exec
  have hb := B.bytes
  have hr := B.returns
  have hts := atoms_spec (ws := wsX6_fade) B.pre
  have hown : s.vm.findClass RX6 = some m.cls := findClass_of_methodNamed B.named
  have hlocks := B.notSynchronized
  subst hsz
  have hD : va_D A [o6 A0 c0 A0_s A0_draft A0_kept A0_isKept A0_undone A0_seenI A0_seenJ A0_seenTime A0_text A0_kind A0_place A0_value A0_swallows A0_time A0_strength A0_which A0_told, (A0_s, .inl (cI, 27, .inl c0_s)), (A0_swallows, .inl (cI, 4, .inl c0_swallows)), (A0_time, .inl (cI, 25, .inl c0_time)), (A0_strength, .inl (cI, 25, .inl c0_strength)), (A0_which, .inl (cI, 25, .inl c0_which))] := by rw [hAe]; exact hD0.self
  have hA : ∀ q : Nat, s.heap.size ≤ q → A q := fun q h => by rw [hAe]; exact Or.inr h
  clear hAe hD0
  have hS : va_S A s.heap s.heap [] := va_S.rf
  have hl := lv_entry ([.ref A0, .int x1, .int x2] : List Value) (n := 10) (Nat.le_of_ble_eq_true rfl)
  rw [lg_entry_eq]
  generalize (lg_sl ([.ref A0, .int x1, .int x2] : List Value) ++ List.replicate (10 - (lg_sl ([.ref A0, .int x1, .int x2] : List Value)).length) Slot.unset).toArray = ls at hl ⊢
  have hl : lv_has ls 10 [(0, .ref A0), (1, .int x1), (2, .int x2)] := hl
  refine lv_aload_n hx hb dX6_fade_0 rfl (lv_at hl 0 rfl) ?_
  refine lv_iload_n hx hb dX6_fade_1 rfl (lv_at hl 1 rfl) ?_
  obtain ⟨r1, hr1, hres⟩ := bi_1 hres
  refine x_cp (va_runV (As := [.int x1]) (rest := []) ⟨hx, hb, hml, hown, hts⟩ (kX6_isSeat l G cI cZ tl A0 A0_s A0_draft A0_kept A0_isKept A0_undone A0_seenI A0_seenJ A0_seenTime A0_text A0_kind A0_place A0_value A0_swallows A0_time A0_strength A0_which A0_told c0 c0_s x1 r1 hr1) (cwV 1 hts gX6_fade_X6_isSeat rfl rfl rfl hsX6_isSeat ⟨Nat.le_of_ble_eq_true rfl, Nat.le_of_ble_eq_true rfl⟩) ⟨PRO_blind, va_recv hK.1 hP (ci := 6) (q0 := 0) rfl rfl, PRO_at (hP.sub (ws' := [o6 A0 c0 A0_s A0_draft A0_kept A0_isKept A0_undone A0_seenI A0_seenJ A0_seenTime A0_text A0_kind A0_place A0_value A0_swallows A0_time A0_strength A0_which A0_told, (A0_s, .inl (cI, 27, .inl c0_s))]) [0, 1] rfl) hK⟩ rfl rfl hl.1 rfl (lv_room (Nat.le_of_ble_eq_true rfl)) dX6_fade_2 ⟨Nat.zero_le _, Nat.zero_le _⟩) ?_
  refine lv_if_eq (tgt := 18) hx hb dX6_fade_5 (by decide) (fun h2 => ?_) (fun h2 => ?_)
  · have hres := ite_t hres h2
    refine lv_iconst (v := (-1)) hx hb dX6_fade_18 (by decide) ?_
    obtain rfl := Option.some.inj hres
    exact W.iret hx hb hr (fun t ht hW => ⟨⟨_, (), rfl, rfl, by rw [ht]; exact hP, hD⟩, hS.F ht⟩) hS.2.2 dX6_fade_19
  · have hres := ite_f hres h2
    refine lv_iload_n hx hb dX6_fade_8 rfl (lv_at hl 2 rfl) ?_
    refine lv_iconst (v := 1) hx hb dX6_fade_9 (by decide) ?_
    refine lv_bipush (v := 9) hx hb dX6_fade_10 (by decide) ?_
    obtain ⟨r3, hr3, hres⟩ := bi_1 hres
    refine x_cp (va_runS (As := [.int x2, .int 1, .int 9]) (rest := []) ⟨hx, hb, hml, hown, hts⟩ (kX6_in l G cI cZ tl x2 1 9 r3 hr3) (va_cwS 3 hts gX6_fade_X6_in rfl rfl rfl hsX6_in ⟨Nat.le_of_ble_eq_true rfl, Nat.le_of_ble_eq_true rfl⟩) ⟨PRO_blind, PRO_at va_P0 hK⟩ rfl rfl hl.1 rfl (lv_room (Nat.le_of_ble_eq_true rfl)) dX6_fade_12 ⟨Nat.zero_le _, Nat.zero_le _⟩) ?_
    refine lv_if_ne (tgt := 20) hx hb dX6_fade_15 (by decide) (fun h4 => ?_) (fun h4 => ?_)
    · have hres := ite_f hres h4
      refine lv_aload_n hx hb dX6_fade_20 rfl (lv_at hl 0 rfl) ?_
      refine lv_iload_n hx hb dX6_fade_21 rfl (lv_at hl 1 rfl) ?_
      obtain ⟨r5, hr5, hres⟩ := bi_1 hres
      refine x_cv (wr := []) (w2 := [o6 A0 r5.1 A0_s A0_draft A0_kept A0_isKept A0_undone A0_seenI A0_seenJ A0_seenTime A0_text A0_kind A0_place A0_value A0_swallows A0_time A0_strength A0_which A0_told, (A0_s, .inl (cI, 27, .inl c0_s)), (A0_swallows, .inl (cI, 4, .inl r5.2.1)), (A0_time, .inl (cI, 25, .inl r5.2.2.1)), (A0_strength, .inl (cI, 25, .inl r5.2.2.2.1)), (A0_which, .inl (cI, 25, .inl r5.2.2.2.2))]) hP hD hS hA (va_runV (As := [.int x1]) (rest := []) ⟨hx, hb, hml, hown, hts⟩ (kX6_hearsNow l G cI cZ tl s.heap.size _ A0 A0_s A0_draft A0_kept A0_isKept A0_undone A0_seenI A0_seenJ A0_seenTime A0_text A0_kind A0_place A0_value A0_swallows A0_time A0_strength A0_which A0_told c0 c0_s c0_swallows c0_time c0_strength c0_which x1 r5 rfl hr5) (cwV 1 hts gX6_fade_X6_hearsNow rfl rfl rfl hsX6_hearsNow ⟨Nat.le_of_ble_eq_true rfl, Nat.le_of_ble_eq_true rfl⟩) ⟨PRW_blind, va_recv hK.1 hP (ci := 6) (q0 := 0) rfl rfl, PRW_at (hP.sub (ws' := [o6 A0 c0 A0_s A0_draft A0_kept A0_isKept A0_undone A0_seenI A0_seenJ A0_seenTime A0_text A0_kind A0_place A0_value A0_swallows A0_time A0_strength A0_which A0_told, (A0_s, .inl (cI, 27, .inl c0_s)), (A0_swallows, .inl (cI, 4, .inl c0_swallows)), (A0_time, .inl (cI, 25, .inl c0_time)), (A0_strength, .inl (cI, 25, .inl c0_strength)), (A0_which, .inl (cI, 25, .inl c0_which))]) [0, 1, 2, 3, 4, 5] rfl) (hD.sub (ws' := [o6 A0 c0 A0_s A0_draft A0_kept A0_isKept A0_undone A0_seenI A0_seenJ A0_seenTime A0_text A0_kind A0_place A0_value A0_swallows A0_time A0_strength A0_which A0_told, (A0_s, .inl (cI, 27, .inl c0_s)), (A0_swallows, .inl (cI, 4, .inl c0_swallows)), (A0_time, .inl (cI, 25, .inl c0_time)), (A0_strength, .inl (cI, 25, .inl c0_strength)), (A0_which, .inl (cI, 25, .inl c0_which))]) [0, 1, 2, 3, 4, 5] (by decide) rfl) hK⟩ rfl rfl hl.1 rfl (lv_room (Nat.le_of_ble_eq_true rfl)) dX6_fade_22 ⟨Nat.zero_le _, Nat.zero_le _⟩) [0, 1, 2, 3, 4, 5] [] [0, 1, 2, 3, 4, 5] rfl rfl (by decide) (by decide) rfl rfl (by decide) (fun H locs hP hD hS => ?_)
      refine lv_aload_n hx hb dX6_fade_25 rfl (lv_at hl 0 rfl) ?_
      obtain ⟨r6, hr6, hres⟩ := bi_1 hres
      refine x_cp (va_runV (As := []) (rest := []) ⟨hx, hb, hml, hown, hts⟩ (kX6_soundAll l G cI cZ tl A0 A0_s A0_draft A0_kept A0_isKept A0_undone A0_seenI A0_seenJ A0_seenTime A0_text A0_kind A0_place A0_value A0_swallows A0_time A0_strength A0_which A0_told r5.1 r5.2.2.1 r5.2.2.2.1 r6 hr6) (cwV 0 hts gX6_fade_X6_soundAll rfl rfl rfl hsX6_soundAll ⟨Nat.le_of_ble_eq_true rfl, Nat.le_of_ble_eq_true rfl⟩) ⟨PRO_blind, va_recv hK.1 hP (ci := 6) (q0 := 0) rfl rfl, PRO_at (hP.sub (ws' := [o6 A0 r5.1 A0_s A0_draft A0_kept A0_isKept A0_undone A0_seenI A0_seenJ A0_seenTime A0_text A0_kind A0_place A0_value A0_swallows A0_time A0_strength A0_which A0_told, (A0_time, .inl (cI, 25, .inl r5.2.2.1)), (A0_strength, .inl (cI, 25, .inl r5.2.2.2.1))]) [0, 3, 4] rfl) hK⟩ rfl rfl hl.1 rfl (lv_room (Nat.le_of_ble_eq_true rfl)) dX6_fade_26 ⟨Nat.zero_le _, Nat.zero_le _⟩) ?_
      refine lv_i2l (v := (Int32.toInt64 r6)) hx hb dX6_fade_29 rfl ?_
      refine lv_topl (fun y7 ey7 => ?_)
      have hres := bnd_z ey7 hres
      refine lv_lstore_n (lv' := [(3, .long y7), (0, .ref A0), (1, .int x1), (2, .int x2)]) hx hb dX6_fade_30 rfl hl (by decide) rfl (fun ls hl => ?_)
      refine lv_bipush (v := (-9)) hx hb dX6_fade_31 (by decide) ?_
      refine lv_istore (lv' := [(5, .int (-9)), (3, .long y7), (0, .ref A0), (1, .int x1), (2, .int x2)]) hx hb dX6_fade_33 hl (by decide) rfl (fun ls hl => ?_)
      refine lv_iconst (v := 0) hx hb dX6_fade_35 (by decide) ?_
      refine lv_istore (lv' := [(6, .int 0), (5, .int (-9)), (3, .long y7), (0, .ref A0), (1, .int x1), (2, .int x2)]) hx hb dX6_fade_36 hl (by decide) rfl (fun ls hl => ?_)
      have Q38 : ∀ (v2_L38 : Int32) (v3_L38 : Int64) (e0_L38 : (Nat → Int32)) (e0_swallows_L38 : (Nat → Int32)) (e0_time_L38 : (Nat → Int32)) (e0_strength_L38 : (Nat → Int32)) (e0_which_L38 : (Nat → Int32)) (n38 : Nat) (v5_L38 : Int32) (v6_L38 : Int32) (H : Heap) (locs : List Loc) (ls : Array Slot), LPX (fX6_fade_L38 c0_s v2_L38 v3_L38 e0_L38 e0_swallows_L38 e0_time_L38 e0_strength_L38 e0_which_L38) n38 (v5_L38, v6_L38) = some res → va_P G vwCl [o6 A0 e0_L38 A0_s A0_draft A0_kept A0_isKept A0_undone A0_seenI A0_seenJ A0_seenTime A0_text A0_kind A0_place A0_value A0_swallows A0_time A0_strength A0_which A0_told, (A0_s, .inl (cI, 27, .inl c0_s)), (A0_swallows, .inl (cI, 4, .inl e0_swallows_L38)), (A0_time, .inl (cI, 25, .inl e0_time_L38)), (A0_strength, .inl (cI, 25, .inl e0_strength_L38)), (A0_which, .inl (cI, 25, .inl e0_which_L38))] H → va_D A [o6 A0 e0_L38 A0_s A0_draft A0_kept A0_isKept A0_undone A0_seenI A0_seenJ A0_seenTime A0_text A0_kind A0_place A0_value A0_swallows A0_time A0_strength A0_which A0_told, (A0_s, .inl (cI, 27, .inl c0_s)), (A0_swallows, .inl (cI, 4, .inl e0_swallows_L38)), (A0_time, .inl (cI, 25, .inl e0_time_L38)), (A0_strength, .inl (cI, 25, .inl e0_strength_L38)), (A0_which, .inl (cI, 25, .inl e0_which_L38))] → va_S A s.heap H locs → lv_has ls 10 [(0, .ref A0), (2, .int v2_L38), (3, .long v3_L38), (5, .int v5_L38), (6, .int v6_L38)] → WRW p l e wsX6_fade rX6_fade s m ([.ref A0, .int x1, .int x2] : List Value).toArray below meth c H locs (Qiw res.1 G A [o6 A0 res.2.1 A0_s A0_draft A0_kept A0_isKept A0_undone A0_seenI A0_seenJ A0_seenTime A0_text A0_kind A0_place A0_value A0_swallows A0_time A0_strength A0_which A0_told, (A0_s, .inl (cI, 27, .inl c0_s)), (A0_swallows, .inl (cI, 4, .inl res.2.2.1)), (A0_time, .inl (cI, 25, .inl res.2.2.2.1)), (A0_strength, .inl (cI, 25, .inl res.2.2.2.2.1)), (A0_which, .inl (cI, 25, .inl res.2.2.2.2.2))]) A (F0 m 38 ls []) := by
        intro v2_L38 v3_L38 e0_L38 e0_swallows_L38 e0_time_L38 e0_strength_L38 e0_which_L38 n38
        induction n38 with
        | zero =>
          intro v5_L38 v6_L38 H locs ls hres
          exact absurd (LPX_0.symm.trans hres) (fun h => by cases h)
        | succ n38 ih38 =>
          intro v5_L38 v6_L38 H locs ls hres hP hD hS hl
          have hres := LPX_s.symm.trans hres
          have J82 : ∀ (v5_j82 : Int32) (v6_j82 : Int32) (z0_j82 : Int32) (H : Heap) (locs : List Loc) (ls : Array Slot), fX6_fade_j82 c0_s v2_L38 v3_L38 e0_L38 e0_swallows_L38 e0_time_L38 e0_strength_L38 e0_which_L38 v5_j82 v6_j82 z0_j82 (LPX (fX6_fade_L38 c0_s v2_L38 v3_L38 e0_L38 e0_swallows_L38 e0_time_L38 e0_strength_L38 e0_which_L38) n38) = some res → va_P G vwCl [o6 A0 e0_L38 A0_s A0_draft A0_kept A0_isKept A0_undone A0_seenI A0_seenJ A0_seenTime A0_text A0_kind A0_place A0_value A0_swallows A0_time A0_strength A0_which A0_told, (A0_s, .inl (cI, 27, .inl c0_s)), (A0_swallows, .inl (cI, 4, .inl e0_swallows_L38)), (A0_time, .inl (cI, 25, .inl e0_time_L38)), (A0_strength, .inl (cI, 25, .inl e0_strength_L38)), (A0_which, .inl (cI, 25, .inl e0_which_L38))] H → va_D A [o6 A0 e0_L38 A0_s A0_draft A0_kept A0_isKept A0_undone A0_seenI A0_seenJ A0_seenTime A0_text A0_kind A0_place A0_value A0_swallows A0_time A0_strength A0_which A0_told, (A0_s, .inl (cI, 27, .inl c0_s)), (A0_swallows, .inl (cI, 4, .inl e0_swallows_L38)), (A0_time, .inl (cI, 25, .inl e0_time_L38)), (A0_strength, .inl (cI, 25, .inl e0_strength_L38)), (A0_which, .inl (cI, 25, .inl e0_which_L38))] → va_S A s.heap H locs → lv_has ls 10 [(0, .ref A0), (2, .int v2_L38), (3, .long v3_L38), (5, .int v5_j82), (6, .int v6_j82)] → WRW p l e wsX6_fade rX6_fade s m ([.ref A0, .int x1, .int x2] : List Value).toArray below meth c H locs (Qiw res.1 G A [o6 A0 res.2.1 A0_s A0_draft A0_kept A0_isKept A0_undone A0_seenI A0_seenJ A0_seenTime A0_text A0_kind A0_place A0_value A0_swallows A0_time A0_strength A0_which A0_told, (A0_s, .inl (cI, 27, .inl c0_s)), (A0_swallows, .inl (cI, 4, .inl res.2.2.1)), (A0_time, .inl (cI, 25, .inl res.2.2.2.1)), (A0_strength, .inl (cI, 25, .inl res.2.2.2.2.1)), (A0_which, .inl (cI, 25, .inl res.2.2.2.2.2))]) A (F0 m 82 ls [.int z0_j82]) := by
            intro v5_j82 v6_j82 z0_j82 H locs ls hres hP hD hS hl
            refine lv_istore (lv' := [(9, .int z0_j82), (0, .ref A0), (2, .int v2_L38), (3, .long v3_L38), (5, .int v5_j82), (6, .int v6_j82)]) hx hb dX6_fade_82 hl (by decide) rfl (fun ls hl => ?_)
            refine lv_iload hx hb dX6_fade_84 (lv_at hl 0 rfl) ?_
            refine lv_if_eq (tgt := 118) hx hb dX6_fade_86 (by decide) (fun h8 => ?_) (fun h8 => ?_)
            · have hres := ite_t hres h8
              refine lv_iload hx hb dX6_fade_118 (lv_at hl 4 rfl) ?_
              refine lv_istore (lv' := [(5, .int v5_j82), (9, .int z0_j82), (0, .ref A0), (2, .int v2_L38), (3, .long v3_L38), (6, .int v6_j82)]) hx hb dX6_fade_120 hl (by decide) rfl (fun ls hl => ?_)
              refine lv_iinc (v := (v6_j82 + 1)) (lv' := [(6, .int (v6_j82 + 1)), (5, .int v5_j82), (9, .int z0_j82), (0, .ref A0), (2, .int v2_L38), (3, .long v3_L38)]) hx hb dX6_fade_122 hl (k := 5) rfl rfl (by decide) rfl (fun ls hl => ?_)
              refine lv_goto (tgt := 38) hx hb dX6_fade_125 (by decide) ?_
              exact ih38 v5_j82 (v6_j82 + 1) _ _ _ hres hP hD hS (lv_sub hl [3, 4, 5, 1, 0] rfl)
            · have hres := ite_f hres h8
              refine lv_iload hx hb dX6_fade_89 (lv_at hl 4 rfl) ?_
              refine lv_bipush (v := (-9)) hx hb dX6_fade_91 (by decide) ?_
              refine lv_icmp_eq (tgt := 108) hx hb dX6_fade_93 (by decide) (fun h9 => ?_) (fun h9 => ?_)
              · have hres := ite_t hres h9
                refine lv_aload_n hx hb dX6_fade_108 rfl (lv_at hl 1 rfl) ?_
                refine va_get (D := G) (ci := 6) (v := .ref A0_time) (C := RX6) (T := TX6) (N := 22) hx hb hts (fun w h => (List.mem_cons_of_mem _ (List.mem_append_right _ h))) hown hK.1 hP 0 rfl rfl 17 (by decide) (hts (.fieldLink RX6 50 "EchoSeatsModel" "time" "[I") (List.mem_of_getElem? (i := 2) rfl)) (fun _ h9 => h9) rfl dX6_fade_109 ?_
                refine lv_iload hx hb dX6_fade_112 (lv_at hl 5 rfl) ?_
                have g10 := gd_1 hres
                have hres := gd_2 hres
                refine x_iald hx hb hK hP 3 rfl (j := (Int32.toNatClampNeg v6_j82)) rfl g10 dX6_fade_114 ?_
                refine lv_goto (tgt := 120) hx hb dX6_fade_115 (by decide) ?_
                refine lv_topi (fun y11 ey11 => ?_)
                have hres := bnd_z ey11 hres
                refine lv_istore (lv' := [(5, .int y11), (9, .int z0_j82), (0, .ref A0), (2, .int v2_L38), (3, .long v3_L38), (6, .int v6_j82)]) hx hb dX6_fade_120 hl (by decide) rfl (fun ls hl => ?_)
                refine lv_iinc (v := (v6_j82 + 1)) (lv' := [(6, .int (v6_j82 + 1)), (5, .int y11), (9, .int z0_j82), (0, .ref A0), (2, .int v2_L38), (3, .long v3_L38)]) hx hb dX6_fade_122 hl (k := 5) rfl rfl (by decide) rfl (fun ls hl => ?_)
                refine lv_goto (tgt := 38) hx hb dX6_fade_125 (by decide) ?_
                exact ih38 y11 (v6_j82 + 1) _ _ _ hres hP hD hS (lv_sub hl [3, 4, 5, 1, 0] rfl)
              · have hres := ite_f hres h9
                refine lv_aload_n hx hb dX6_fade_96 rfl (lv_at hl 1 rfl) ?_
                refine va_get (D := G) (ci := 6) (v := .ref A0_time) (C := RX6) (T := TX6) (N := 22) hx hb hts (fun w h => (List.mem_cons_of_mem _ (List.mem_append_right _ h))) hown hK.1 hP 0 rfl rfl 17 (by decide) (hts (.fieldLink RX6 50 "EchoSeatsModel" "time" "[I") (List.mem_of_getElem? (i := 2) rfl)) (fun _ h9 => h9) rfl dX6_fade_97 ?_
                refine lv_iload hx hb dX6_fade_100 (lv_at hl 5 rfl) ?_
                have g12 := gd_1 hres
                have hres := gd_2 hres
                refine x_iald hx hb hK hP 3 rfl (j := (Int32.toNatClampNeg v6_j82)) rfl g12 dX6_fade_102 ?_
                refine lv_iload hx hb dX6_fade_103 (lv_at hl 4 rfl) ?_
                refine lv_icmp_ge (tgt := 118) hx hb dX6_fade_105 (by decide) (fun h13 => ?_) (fun h13 => ?_)
                · have hres := ite_t hres h13
                  refine lv_iload hx hb dX6_fade_118 (lv_at hl 4 rfl) ?_
                  refine lv_istore (lv' := [(5, .int v5_j82), (9, .int z0_j82), (0, .ref A0), (2, .int v2_L38), (3, .long v3_L38), (6, .int v6_j82)]) hx hb dX6_fade_120 hl (by decide) rfl (fun ls hl => ?_)
                  refine lv_iinc (v := (v6_j82 + 1)) (lv' := [(6, .int (v6_j82 + 1)), (5, .int v5_j82), (9, .int z0_j82), (0, .ref A0), (2, .int v2_L38), (3, .long v3_L38)]) hx hb dX6_fade_122 hl (k := 5) rfl rfl (by decide) rfl (fun ls hl => ?_)
                  refine lv_goto (tgt := 38) hx hb dX6_fade_125 (by decide) ?_
                  exact ih38 v5_j82 (v6_j82 + 1) _ _ _ hres hP hD hS (lv_sub hl [3, 4, 5, 1, 0] rfl)
                · have hres := ite_f hres h13
                  refine lv_aload_n hx hb dX6_fade_108 rfl (lv_at hl 1 rfl) ?_
                  refine va_get (D := G) (ci := 6) (v := .ref A0_time) (C := RX6) (T := TX6) (N := 22) hx hb hts (fun w h => (List.mem_cons_of_mem _ (List.mem_append_right _ h))) hown hK.1 hP 0 rfl rfl 17 (by decide) (hts (.fieldLink RX6 50 "EchoSeatsModel" "time" "[I") (List.mem_of_getElem? (i := 2) rfl)) (fun _ h9 => h9) rfl dX6_fade_109 ?_
                  refine lv_iload hx hb dX6_fade_112 (lv_at hl 5 rfl) ?_
                  have g14 := gd_1 hres
                  have hres := gd_2 hres
                  refine x_iald hx hb hK hP 3 rfl (j := (Int32.toNatClampNeg v6_j82)) rfl g14 dX6_fade_114 ?_
                  refine lv_goto (tgt := 120) hx hb dX6_fade_115 (by decide) ?_
                  refine lv_topi (fun y15 ey15 => ?_)
                  have hres := bnd_z ey15 hres
                  refine lv_istore (lv' := [(5, .int y15), (9, .int z0_j82), (0, .ref A0), (2, .int v2_L38), (3, .long v3_L38), (6, .int v6_j82)]) hx hb dX6_fade_120 hl (by decide) rfl (fun ls hl => ?_)
                  refine lv_iinc (v := (v6_j82 + 1)) (lv' := [(6, .int (v6_j82 + 1)), (5, .int y15), (9, .int z0_j82), (0, .ref A0), (2, .int v2_L38), (3, .long v3_L38)]) hx hb dX6_fade_122 hl (k := 5) rfl rfl (by decide) rfl (fun ls hl => ?_)
                  refine lv_goto (tgt := 38) hx hb dX6_fade_125 (by decide) ?_
                  exact ih38 y15 (v6_j82 + 1) _ _ _ hres hP hD hS (lv_sub hl [3, 4, 5, 1, 0] rfl)
          refine lv_iload hx hb dX6_fade_38 (lv_at hl 4 rfl) ?_
          refine lv_aload_n hx hb dX6_fade_40 rfl (lv_at hl 0 rfl) ?_
          refine va_get (D := G) (ci := 6) (v := .int (e0_L38 20)) (C := RX6) (T := TX6) (N := 22) hx hb hts (fun w h => (List.mem_cons_of_mem _ (List.mem_append_right _ h))) hown hK.1 hP 0 rfl rfl 20 (by decide) (hts (.fieldLink RX6 175 "EchoSeatsModel" "heard" "I") (List.mem_of_getElem? (i := 1) rfl)) (fun _ h9 => h9) rfl dX6_fade_41 ?_
          refine lv_icmp_ge (tgt := 128) hx hb dX6_fade_44 (by decide) (fun h16 => ?_) (fun h16 => ?_)
          · have hres := ite_t hres h16
            refine lv_iload hx hb dX6_fade_128 (lv_at hl 3 rfl) ?_
            obtain rfl := Option.some.inj hres
            exact W.iret hx hb hr (fun t ht hW => ⟨⟨_, (), rfl, rfl, by rw [ht]; exact hP, hD⟩, hS.F ht⟩) hS.2.2 dX6_fade_130
          · have hres := ite_f hres h16
            refine lv_lload_n hx hb dX6_fade_47 rfl (lv_at hl 2 rfl) ?_
            refine lv_aload_n hx hb dX6_fade_48 rfl (lv_at hl 0 rfl) ?_
            refine lv_aload_n hx hb dX6_fade_49 rfl (lv_at hl 0 rfl) ?_
            refine va_get (D := G) (ci := 6) (v := .ref A0_time) (C := RX6) (T := TX6) (N := 22) hx hb hts (fun w h => (List.mem_cons_of_mem _ (List.mem_append_right _ h))) hown hK.1 hP 0 rfl rfl 17 (by decide) (hts (.fieldLink RX6 50 "EchoSeatsModel" "time" "[I") (List.mem_of_getElem? (i := 2) rfl)) (fun _ h9 => h9) rfl dX6_fade_50 ?_
            refine lv_iload hx hb dX6_fade_53 (lv_at hl 4 rfl) ?_
            have g17 := gd_1 hres
            have hres := gd_2 hres
            refine x_iald hx hb hK hP 3 rfl (j := (Int32.toNatClampNeg v6_L38)) rfl g17 dX6_fade_55 ?_
            obtain ⟨r18, hr18, hres⟩ := bi_1 hres
            refine x_cp (va_runV (As := [.int (e0_time_L38 (Int32.toNatClampNeg v6_L38))]) (rest := [.long v3_L38]) ⟨hx, hb, hml, hown, hts⟩ (kX6_soundBy l G cI cZ tl A0 A0_s A0_draft A0_kept A0_isKept A0_undone A0_seenI A0_seenJ A0_seenTime A0_text A0_kind A0_place A0_value A0_swallows A0_time A0_strength A0_which A0_told e0_L38 e0_time_L38 e0_strength_L38 (e0_time_L38 (Int32.toNatClampNeg v6_L38)) r18 hr18) (cwV 1 hts gX6_fade_X6_soundBy rfl rfl rfl hsX6_soundBy ⟨Nat.le_of_ble_eq_true rfl, Nat.le_of_ble_eq_true rfl⟩) ⟨PRO_blind, va_recv hK.1 hP (ci := 6) (q0 := 0) rfl rfl, PRO_at (hP.sub (ws' := [o6 A0 e0_L38 A0_s A0_draft A0_kept A0_isKept A0_undone A0_seenI A0_seenJ A0_seenTime A0_text A0_kind A0_place A0_value A0_swallows A0_time A0_strength A0_which A0_told, (A0_time, .inl (cI, 25, .inl e0_time_L38)), (A0_strength, .inl (cI, 25, .inl e0_strength_L38))]) [0, 3, 4] rfl) hK⟩ rfl rfl hl.1 rfl (lv_room (Nat.le_of_ble_eq_true rfl)) dX6_fade_56 ⟨Nat.zero_le _, Nat.zero_le _⟩) ?_
            refine lv_i2l (v := (Int32.toInt64 r18)) hx hb dX6_fade_59 rfl ?_
            refine lv_lsub hx hb dX6_fade_60 ?_
            refine lv_topl (fun y19 ey19 => ?_)
            have hres := bnd_z ey19 hres
            refine lv_lstore (lv' := [(7, .long y19), (0, .ref A0), (2, .int v2_L38), (3, .long v3_L38), (5, .int v5_L38), (6, .int v6_L38)]) hx hb dX6_fade_61 hl (by decide) rfl (fun ls hl => ?_)
            refine lv_ldc2 (v := 10) hx hb hown (hts (.constantLong RX6 199 10) (List.mem_of_getElem? (i := 3) rfl)) dX6_fade_63 ?_
            refine lv_lload hx hb dX6_fade_66 (lv_at hl 0 rfl) ?_
            refine lv_lmul hx hb dX6_fade_68 ?_
            refine lv_iload_n hx hb dX6_fade_69 rfl (lv_at hl 2 rfl) ?_
            refine lv_i2l (v := (Int32.toInt64 v2_L38)) hx hb dX6_fade_70 rfl ?_
            refine lv_lload_n hx hb dX6_fade_71 rfl (lv_at hl 3 rfl) ?_
            refine lv_lmul hx hb dX6_fade_72 ?_
            refine W.lcmp hx hb dX6_fade_73 ?_
            refine lv_if_gt (tgt := 81) hx hb dX6_fade_74 (by decide) (fun h20 => ?_) (fun h20 => ?_)
            · have hres := ite_t hres h20
              refine lv_iconst (v := 0) hx hb dX6_fade_81 (by decide) ?_
              exact J82 v5_L38 v6_L38 0 _ _ _ hres hP hD hS (lv_sub hl [1, 2, 3, 4, 5] rfl)
            · have hres := ite_f hres h20
              refine lv_iconst (v := 1) hx hb dX6_fade_77 (by decide) ?_
              refine lv_goto (tgt := 82) hx hb dX6_fade_78 (by decide) ?_
              exact J82 v5_L38 v6_L38 1 _ _ _ hres hP hD hS (lv_sub hl [1, 2, 3, 4, 5] rfl)
      exact Q38 x2 y7 r5.1 r5.2.1 r5.2.2.1 r5.2.2.2.1 r5.2.2.2.2 FU (-9) 0 _ _ _ hres hP hD hS (lv_sub hl [3, 5, 2, 1, 0] rfl)
    · have hres := ite_t hres h4
      refine lv_iconst (v := (-1)) hx hb dX6_fade_18 (by decide) ?_
      obtain rfl := Option.some.inj hres
      exact W.iret hx hb hr (fun t ht hW => ⟨⟨_, (), rfl, rfl, by rw [ht]; exact hP, hD⟩, hS.F ht⟩) hS.2.2 dX6_fade_19
theorem hsX6_fade : yX6_fade.cls = RX6 ∧ yX6_fade.cls ≠ "java/lang/invoke/MethodHandle" ∧ yX6_fade.cls ≠ "java/lang/invoke/VarHandle" ∧ (parseMethodDescriptor yX6_fade.desc).map (fun d => d.parameters.length) = some 2 := by decide +kernel
set_option maxHeartbeats 4000000 in
set_option maxRecDepth 100000 in
theorem kX6_token (l : Launch) (G : va_G) (cI cZ : ClassId) (tl : List (ClassId × FieldType)) (A0 A0_s A0_draft A0_kept A0_isKept A0_undone A0_seenI A0_seenJ A0_seenTime A0_text A0_kind A0_place A0_value A0_swallows A0_time A0_strength A0_which A0_told : Nat) (c0 c0_kind : Nat → Int32) (x1 : Int32) (res : Int32) (hres : fX6_token c0 c0_kind x1 = some res) : Met l yX6_token wsX6_token rX6_token (va_Pc [.ref A0, .int x1] (PRO G cI cZ tl [o6 A0 c0 A0_s A0_draft A0_kept A0_isKept A0_undone A0_seenI A0_seenJ A0_seenTime A0_text A0_kind A0_place A0_value A0_swallows A0_time A0_strength A0_which A0_told, (A0_kind, .inl (cI, 100, .inl c0_kind))])) (Sp res) 0 0 (fun _ => False) := by
  refine Met.ofW (cc := cX6_token) (maxL := 2) (ret := (some .int)) (by decide) rfl ?_
  intro p e s m args below meth c s₁ B hml hv
  obtain ⟨rfl, hP, hK⟩ := hv
  have hx := B.exec
  have hb := B.bytes
  have hr := B.returns
  have hts := atoms_spec (ws := wsX6_token) B.pre
  have hown : s.vm.findClass RX6 = some m.cls := findClass_of_methodNamed B.named
  have hlocks := B.notSynchronized
  have hl := lv_entry ([.ref A0, .int x1] : List Value) (n := 2) (Nat.le_of_ble_eq_true rfl)
  rw [lg_entry_eq]
  generalize (lg_sl ([.ref A0, .int x1] : List Value) ++ List.replicate (2 - (lg_sl ([.ref A0, .int x1] : List Value)).length) Slot.unset).toArray = ls at hl ⊢
  have hl : lv_has ls 2 [(0, .ref A0), (1, .int x1)] := hl
  refine lv_iload_n hx hb dX6_token_0 rfl (lv_at hl 1 rfl) ?_
  refine lv_aload_n hx hb dX6_token_1 rfl (lv_at hl 0 rfl) ?_
  refine va_get (D := G) (ci := 6) (v := .int (c0 15)) (C := RX6) (T := TX6) (N := 22) hx hb hts (fun w h => (List.mem_cons_of_mem _ (List.mem_append_right _ h))) hown hK.1 hP 0 rfl rfl 15 (by decide) (hts (.fieldLink RX6 90 "EchoSeatsModel" "tokens" "I") (List.mem_of_getElem? (i := 1) rfl)) (fun _ h9 => h9) rfl dX6_token_2 ?_
  refine lv_icmp_ge (tgt := 17) hx hb dX6_token_5 (by decide) (fun h1 => ?_) (fun h1 => ?_)
  · have hres := ite_t hres h1
    refine lv_iconst (v := 0) hx hb dX6_token_17 (by decide) ?_
    obtain rfl := Option.some.inj hres
    exact W.iret hx hb hr (fun t ht hW => ⟨rfl, ht⟩) (fun q h => absurd h List.not_mem_nil) dX6_token_18
  · have hres := ite_f hres h1
    refine lv_aload_n hx hb dX6_token_8 rfl (lv_at hl 0 rfl) ?_
    refine va_get (D := G) (ci := 6) (v := .ref A0_kind) (C := RX6) (T := TX6) (N := 22) hx hb hts (fun w h => (List.mem_cons_of_mem _ (List.mem_append_right _ h))) hown hK.1 hP 0 rfl rfl 12 (by decide) (hts (.fieldLink RX6 38 "EchoSeatsModel" "kind" "[I") (List.mem_of_getElem? (i := 2) rfl)) (fun _ h9 => h9) rfl dX6_token_9 ?_
    refine lv_iload_n hx hb dX6_token_12 rfl (lv_at hl 1 rfl) ?_
    have g2 := gd_1 hres
    have hres := gd_2 hres
    refine x_iald hx hb hK hP 1 rfl (j := (Int32.toNatClampNeg x1)) rfl g2 dX6_token_13 ?_
    refine lv_goto (tgt := 18) hx hb dX6_token_14 (by decide) ?_
    obtain rfl := Option.some.inj hres
    exact W.iret hx hb hr (fun t ht hW => ⟨rfl, ht⟩) (fun q h => absurd h List.not_mem_nil) dX6_token_18
theorem hsX6_token : yX6_token.cls = RX6 ∧ yX6_token.cls ≠ "java/lang/invoke/MethodHandle" ∧ yX6_token.cls ≠ "java/lang/invoke/VarHandle" ∧ (parseMethodDescriptor yX6_token.desc).map (fun d => d.parameters.length) = some 1 := by decide +kernel
set_option maxHeartbeats 4000000 in
set_option maxRecDepth 100000 in
theorem kX6_isKind (l : Launch) (G : va_G) (cI cZ : ClassId) (tl : List (ClassId × FieldType)) (A0 A0_s A0_draft A0_kept A0_isKept A0_undone A0_seenI A0_seenJ A0_seenTime A0_text A0_kind A0_place A0_value A0_swallows A0_time A0_strength A0_which A0_told : Nat) (c0 c0_kind : Nat → Int32) (x1 x2 : Int32) (res : Int32) (hres : fX6_isKind c0 c0_kind x1 x2 = some res) : Met l yX6_isKind wsX6_isKind rX6_isKind (va_Pc [.ref A0, .int x1, .int x2] (PRO G cI cZ tl [o6 A0 c0 A0_s A0_draft A0_kept A0_isKept A0_undone A0_seenI A0_seenJ A0_seenTime A0_text A0_kind A0_place A0_value A0_swallows A0_time A0_strength A0_which A0_told, (A0_kind, .inl (cI, 100, .inl c0_kind))])) (Sp res) 0 0 (fun _ => False) := by
  refine Met.ofW (cc := cX6_isKind) (maxL := 3) (ret := (some .boolean)) (by decide) rfl ?_
  intro p e s m args below meth c s₁ B hml hv
  obtain ⟨rfl, hP, hK⟩ := hv
  have hx := B.exec
  have hb := B.bytes
  have hr := B.returns
  have hts := atoms_spec (ws := wsX6_isKind) B.pre
  have hown : s.vm.findClass RX6 = some m.cls := findClass_of_methodNamed B.named
  have hlocks := B.notSynchronized
  have hl := lv_entry ([.ref A0, .int x1, .int x2] : List Value) (n := 3) (Nat.le_of_ble_eq_true rfl)
  rw [lg_entry_eq]
  generalize (lg_sl ([.ref A0, .int x1, .int x2] : List Value) ++ List.replicate (3 - (lg_sl ([.ref A0, .int x1, .int x2] : List Value)).length) Slot.unset).toArray = ls at hl ⊢
  have hl : lv_has ls 3 [(0, .ref A0), (1, .int x1), (2, .int x2)] := hl
  refine lv_iload_n hx hb dX6_isKind_0 rfl (lv_at hl 1 rfl) ?_
  refine lv_aload_n hx hb dX6_isKind_1 rfl (lv_at hl 0 rfl) ?_
  refine va_get (D := G) (ci := 6) (v := .int (c0 15)) (C := RX6) (T := TX6) (N := 22) hx hb hts (fun w h => (List.mem_cons_of_mem _ (List.mem_append_right _ h))) hown hK.1 hP 0 rfl rfl 15 (by decide) (hts (.fieldLink RX6 90 "EchoSeatsModel" "tokens" "I") (List.mem_of_getElem? (i := 1) rfl)) (fun _ h9 => h9) rfl dX6_isKind_2 ?_
  refine lv_icmp_ge (tgt := 22) hx hb dX6_isKind_5 (by decide) (fun h1 => ?_) (fun h1 => ?_)
  · have hres := ite_t hres h1
    refine lv_iconst (v := 0) hx hb dX6_isKind_22 (by decide) ?_
    obtain rfl := Option.some.inj hres
    exact W.zret hx hb hr (by decide) (fun t ht hW => ⟨rfl, ht⟩) (fun q h => absurd h List.not_mem_nil) dX6_isKind_23
  · have hres := ite_f hres h1
    refine lv_aload_n hx hb dX6_isKind_8 rfl (lv_at hl 0 rfl) ?_
    refine va_get (D := G) (ci := 6) (v := .ref A0_kind) (C := RX6) (T := TX6) (N := 22) hx hb hts (fun w h => (List.mem_cons_of_mem _ (List.mem_append_right _ h))) hown hK.1 hP 0 rfl rfl 12 (by decide) (hts (.fieldLink RX6 38 "EchoSeatsModel" "kind" "[I") (List.mem_of_getElem? (i := 2) rfl)) (fun _ h9 => h9) rfl dX6_isKind_9 ?_
    refine lv_iload_n hx hb dX6_isKind_12 rfl (lv_at hl 1 rfl) ?_
    have g2 := gd_1 hres
    have hres := gd_2 hres
    refine x_iald hx hb hK hP 1 rfl (j := (Int32.toNatClampNeg x1)) rfl g2 dX6_isKind_13 ?_
    refine lv_iload_n hx hb dX6_isKind_14 rfl (lv_at hl 2 rfl) ?_
    refine lv_icmp_ne (tgt := 22) hx hb dX6_isKind_15 (by decide) (fun h3 => ?_) (fun h3 => ?_)
    · have hres := ite_f hres h3
      refine lv_iconst (v := 0) hx hb dX6_isKind_22 (by decide) ?_
      obtain rfl := Option.some.inj hres
      exact W.zret hx hb hr (by decide) (fun t ht hW => ⟨rfl, ht⟩) (fun q h => absurd h List.not_mem_nil) dX6_isKind_23
    · have hres := ite_t hres h3
      refine lv_iconst (v := 1) hx hb dX6_isKind_18 (by decide) ?_
      refine lv_goto (tgt := 23) hx hb dX6_isKind_19 (by decide) ?_
      obtain rfl := Option.some.inj hres
      exact W.zret hx hb hr (by decide) (fun t ht hW => ⟨rfl, ht⟩) (fun q h => absurd h List.not_mem_nil) dX6_isKind_23
theorem hsX6_isKind : yX6_isKind.cls = RX6 ∧ yX6_isKind.cls ≠ "java/lang/invoke/MethodHandle" ∧ yX6_isKind.cls ≠ "java/lang/invoke/VarHandle" ∧ (parseMethodDescriptor yX6_isKind.desc).map (fun d => d.parameters.length) = some 2 := by decide +kernel
set_option maxHeartbeats 4000000 in
set_option maxRecDepth 100000 in
theorem kX6_isNumber (l : Launch) (G : va_G) (cI cZ : ClassId) (tl : List (ClassId × FieldType)) (A0 A0_s A0_draft A0_kept A0_isKept A0_undone A0_seenI A0_seenJ A0_seenTime A0_text A0_kind A0_place A0_value A0_swallows A0_time A0_strength A0_which A0_told : Nat) (c0 c0_kind c0_value : Nat → Int32) (x1 x2 x3 : Int32) (res : Int32) (hres : fX6_isNumber c0 c0_kind c0_value x1 x2 x3 = some res) : Met l yX6_isNumber wsX6_isNumber rX6_isNumber (va_Pc [.ref A0, .int x1, .int x2, .int x3] (PRO G cI cZ tl [o6 A0 c0 A0_s A0_draft A0_kept A0_isKept A0_undone A0_seenI A0_seenJ A0_seenTime A0_text A0_kind A0_place A0_value A0_swallows A0_time A0_strength A0_which A0_told, (A0_kind, .inl (cI, 100, .inl c0_kind)), (A0_value, .inl (cI, 100, .inl c0_value))])) (Sp res) 0 0 (fun _ => False) := by
  refine Met.ofW (cc := cX6_isNumber) (maxL := 4) (ret := (some .boolean)) (by decide) rfl ?_
  intro p e s m args below meth c s₁ B hml hv
  obtain ⟨rfl, hP, hK⟩ := hv
  have hx := B.exec
  have hb := B.bytes
  have hr := B.returns
  have hts := atoms_spec (ws := wsX6_isNumber) B.pre
  have hown : s.vm.findClass RX6 = some m.cls := findClass_of_methodNamed B.named
  have hlocks := B.notSynchronized
  have hl := lv_entry ([.ref A0, .int x1, .int x2, .int x3] : List Value) (n := 4) (Nat.le_of_ble_eq_true rfl)
  rw [lg_entry_eq]
  generalize (lg_sl ([.ref A0, .int x1, .int x2, .int x3] : List Value) ++ List.replicate (4 - (lg_sl ([.ref A0, .int x1, .int x2, .int x3] : List Value)).length) Slot.unset).toArray = ls at hl ⊢
  have hl : lv_has ls 4 [(0, .ref A0), (1, .int x1), (2, .int x2), (3, .int x3)] := hl
  refine lv_aload_n hx hb dX6_isNumber_0 rfl (lv_at hl 0 rfl) ?_
  refine lv_iload_n hx hb dX6_isNumber_1 rfl (lv_at hl 1 rfl) ?_
  refine lv_iconst (v := 1) hx hb dX6_isNumber_2 (by decide) ?_
  obtain ⟨r1, hr1, hres⟩ := bi_1 hres
  refine x_cp (va_runV (As := [.int x1, .int 1]) (rest := []) ⟨hx, hb, hml, hown, hts⟩ (kX6_isKind l G cI cZ tl A0 A0_s A0_draft A0_kept A0_isKept A0_undone A0_seenI A0_seenJ A0_seenTime A0_text A0_kind A0_place A0_value A0_swallows A0_time A0_strength A0_which A0_told c0 c0_kind x1 1 r1 hr1) (cwV 2 hts gX6_isNumber_X6_isKind rfl rfl rfl hsX6_isKind ⟨Nat.le_of_ble_eq_true rfl, Nat.le_of_ble_eq_true rfl⟩) ⟨PRO_blind, va_recv hK.1 hP (ci := 6) (q0 := 0) rfl rfl, PRO_at (hP.sub (ws' := [o6 A0 c0 A0_s A0_draft A0_kept A0_isKept A0_undone A0_seenI A0_seenJ A0_seenTime A0_text A0_kind A0_place A0_value A0_swallows A0_time A0_strength A0_which A0_told, (A0_kind, .inl (cI, 100, .inl c0_kind))]) [0, 1] rfl) hK⟩ rfl rfl hl.1 rfl (lv_room (Nat.le_of_ble_eq_true rfl)) dX6_isNumber_3 ⟨Nat.zero_le _, Nat.zero_le _⟩) ?_
  refine lv_if_eq (tgt := 27) hx hb dX6_isNumber_6 (by decide) (fun h2 => ?_) (fun h2 => ?_)
  · have hres := ite_t hres h2
    refine lv_iconst (v := 0) hx hb dX6_isNumber_27 (by decide) ?_
    obtain rfl := Option.some.inj hres
    exact W.zret hx hb hr (by decide) (fun t ht hW => ⟨rfl, ht⟩) (fun q h => absurd h List.not_mem_nil) dX6_isNumber_28
  · have hres := ite_f hres h2
    refine lv_aload_n hx hb dX6_isNumber_9 rfl (lv_at hl 0 rfl) ?_
    refine va_get (D := G) (ci := 6) (v := .ref A0_value) (C := RX6) (T := TX6) (N := 22) hx hb hts (fun w h => (List.mem_cons_of_mem _ (List.mem_append_right _ h))) hown hK.1 hP 0 rfl rfl 14 (by decide) (hts (.fieldLink RX6 44 "EchoSeatsModel" "value" "[I") (List.mem_of_getElem? (i := 1) rfl)) (fun _ h9 => h9) rfl dX6_isNumber_10 ?_
    refine lv_iload_n hx hb dX6_isNumber_13 rfl (lv_at hl 1 rfl) ?_
    have g3 := gd_1 hres
    have hres := gd_2 hres
    refine x_iald hx hb hK hP 2 rfl (j := (Int32.toNatClampNeg x1)) rfl g3 dX6_isNumber_14 ?_
    refine lv_iload_n hx hb dX6_isNumber_15 rfl (lv_at hl 2 rfl) ?_
    refine lv_iload_n hx hb dX6_isNumber_16 rfl (lv_at hl 3 rfl) ?_
    obtain ⟨r4, hr4, hres⟩ := bi_1 hres
    refine x_cp (va_runS (As := [.int (c0_value (Int32.toNatClampNeg x1)), .int x2, .int x3]) (rest := []) ⟨hx, hb, hml, hown, hts⟩ (kX6_in l G cI cZ tl (c0_value (Int32.toNatClampNeg x1)) x2 x3 r4 hr4) (va_cwS 3 hts gX6_isNumber_X6_in rfl rfl rfl hsX6_in ⟨Nat.le_of_ble_eq_true rfl, Nat.le_of_ble_eq_true rfl⟩) ⟨PRO_blind, PRO_at va_P0 hK⟩ rfl rfl hl.1 rfl (lv_room (Nat.le_of_ble_eq_true rfl)) dX6_isNumber_17 ⟨Nat.zero_le _, Nat.zero_le _⟩) ?_
    refine lv_if_eq (tgt := 27) hx hb dX6_isNumber_20 (by decide) (fun h5 => ?_) (fun h5 => ?_)
    · have hres := ite_t hres h5
      refine lv_iconst (v := 0) hx hb dX6_isNumber_27 (by decide) ?_
      obtain rfl := Option.some.inj hres
      exact W.zret hx hb hr (by decide) (fun t ht hW => ⟨rfl, ht⟩) (fun q h => absurd h List.not_mem_nil) dX6_isNumber_28
    · have hres := ite_f hres h5
      refine lv_iconst (v := 1) hx hb dX6_isNumber_23 (by decide) ?_
      refine lv_goto (tgt := 28) hx hb dX6_isNumber_24 (by decide) ?_
      obtain rfl := Option.some.inj hres
      exact W.zret hx hb hr (by decide) (fun t ht hW => ⟨rfl, ht⟩) (fun q h => absurd h List.not_mem_nil) dX6_isNumber_28
theorem hsX6_isNumber : yX6_isNumber.cls = RX6 ∧ yX6_isNumber.cls ≠ "java/lang/invoke/MethodHandle" ∧ yX6_isNumber.cls ≠ "java/lang/invoke/VarHandle" ∧ (parseMethodDescriptor yX6_isNumber.desc).map (fun d => d.parameters.length) = some 3 := by decide +kernel
