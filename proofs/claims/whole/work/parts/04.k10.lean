set_option maxHeartbeats 4000000 in
set_option maxRecDepth 100000 in
theorem kX6_back (l : Launch) (G : va_G) (cI cZ : ClassId) (tl : List (ClassId × FieldType)) (sz : Nat) (A : Nat → Prop) (A0 A0_s A0_draft A0_kept A0_isKept A0_undone A0_seenI A0_seenJ A0_seenTime A0_text A0_kind A0_place A0_value A0_swallows A0_time A0_strength A0_which A0_told : Nat) (c0 c0_isKept c0_kept c0_s : Nat → Int32) (x1 : Int32) (res : Int32 × (Nat → Int32) × (Nat → Int32)) (hAe : A = va_A [o6 A0 c0 A0_s A0_draft A0_kept A0_isKept A0_undone A0_seenI A0_seenJ A0_seenTime A0_text A0_kind A0_place A0_value A0_swallows A0_time A0_strength A0_which A0_told, (A0_isKept, .inl (cZ, 2, .inl c0_isKept)), (A0_kept, .inl (cI, 54, .inl c0_kept)), (A0_s, .inl (cI, 27, .inl c0_s))] sz) (hres : fX6_back c0 c0_isKept c0_kept c0_s x1 = some res) : Met l yX6_back wsX6_back rX6_back (va_Pc [.ref A0, .int x1] (PRW G cI cZ tl [o6 A0 c0 A0_s A0_draft A0_kept A0_isKept A0_undone A0_seenI A0_seenJ A0_seenTime A0_text A0_kind A0_place A0_value A0_swallows A0_time A0_strength A0_which A0_told, (A0_isKept, .inl (cZ, 2, .inl c0_isKept)), (A0_kept, .inl (cI, 54, .inl c0_kept)), (A0_s, .inl (cI, 27, .inl c0_s))] sz)) (Qiw res.1 G A [o6 A0 res.2.1 A0_s A0_draft A0_kept A0_isKept A0_undone A0_seenI A0_seenJ A0_seenTime A0_text A0_kind A0_place A0_value A0_swallows A0_time A0_strength A0_which A0_told, (A0_isKept, .inl (cZ, 2, .inl c0_isKept)), (A0_kept, .inl (cI, 54, .inl c0_kept)), (A0_s, .inl (cI, 27, .inl res.2.2))]) 0 0 A := by
  refine Met.ofW (cc := cX6_back) (maxL := 3) (ret := (some .int)) (by decide) rfl ?_
  intro p e s m args below meth c s₁ B hml hv
  obtain ⟨rfl, hsz, hP, hK, hD0⟩ := hv
  have hx := B.exec
  have hb := B.bytes
  have hr := B.returns
  have hts := atoms_spec (ws := wsX6_back) B.pre
  have hown : s.vm.findClass RX6 = some m.cls := findClass_of_methodNamed B.named
  have hlocks := B.notSynchronized
  subst hsz
  have hD : va_D A [o6 A0 c0 A0_s A0_draft A0_kept A0_isKept A0_undone A0_seenI A0_seenJ A0_seenTime A0_text A0_kind A0_place A0_value A0_swallows A0_time A0_strength A0_which A0_told, (A0_isKept, .inl (cZ, 2, .inl c0_isKept)), (A0_kept, .inl (cI, 54, .inl c0_kept)), (A0_s, .inl (cI, 27, .inl c0_s))] := by rw [hAe]; exact hD0.self
  have hA : ∀ q : Nat, s.heap.size ≤ q → A q := fun q h => by rw [hAe]; exact Or.inr h
  clear hAe hD0
  have hS : va_S A s.heap s.heap [] := va_S.rf
  have hl := lv_entry ([.ref A0, .int x1] : List Value) (n := 3) (Nat.le_of_ble_eq_true rfl)
  rw [lg_entry_eq]
  generalize (lg_sl ([.ref A0, .int x1] : List Value) ++ List.replicate (3 - (lg_sl ([.ref A0, .int x1] : List Value)).length) Slot.unset).toArray = ls at hl ⊢
  have hl : lv_has ls 3 [(0, .ref A0), (1, .int x1)] := hl
  refine lv_iload_n hx hb dX6_back_0 rfl (lv_at hl 1 rfl) ?_
  refine lv_iconst (v := 0) hx hb dX6_back_1 (by decide) ?_
  refine lv_iconst (v := 1) hx hb dX6_back_2 (by decide) ?_
  obtain ⟨r1, hr1, hres⟩ := bi_1 hres
  refine x_cp (va_runS (As := [.int x1, .int 0, .int 1]) (rest := []) ⟨hx, hb, hml, hown, hts⟩ (kX6_in l G cI cZ tl x1 0 1 r1 hr1) (va_cwS 3 hts gX6_back_X6_in rfl rfl rfl hsX6_in ⟨Nat.le_of_ble_eq_true rfl, Nat.le_of_ble_eq_true rfl⟩) ⟨PRO_blind, PRO_at va_P0 hK⟩ rfl rfl hl.1 rfl (lv_room (Nat.le_of_ble_eq_true rfl)) dX6_back_3 ⟨Nat.zero_le _, Nat.zero_le _⟩) ?_
  refine lv_if_ne (tgt := 11) hx hb dX6_back_6 (by decide) (fun h2 => ?_) (fun h2 => ?_)
  · have hres := ite_f hres h2
    refine lv_aload_n hx hb dX6_back_11 rfl (lv_at hl 0 rfl) ?_
    refine va_get (D := G) (ci := 6) (v := .ref A0_isKept) (C := RX6) (T := TX6) (N := 22) hx hb hts (fun w h => (List.mem_cons_of_mem _ (List.mem_append_right _ h))) hown hK.1 hP 0 rfl rfl 3 (by decide) (hts (.fieldLink RX6 19 "EchoSeatsModel" "isKept" "[Z") (List.mem_of_getElem? (i := 1) rfl)) (fun _ h9 => h9) rfl dX6_back_12 ?_
    refine lv_iload_n hx hb dX6_back_15 rfl (lv_at hl 1 rfl) ?_
    have g3 := gd_1 hres
    have hres := gd_2 hres
    refine x_zald hx hb hK hP 1 rfl (j := (Int32.toNatClampNeg x1)) rfl g3 dX6_back_16 ?_
    refine lv_if_ne (tgt := 23) hx hb dX6_back_17 (by decide) (fun h4 => ?_) (fun h4 => ?_)
    · have hres := ite_f hres h4
      refine lv_iconst (v := 0) hx hb dX6_back_23 (by decide) ?_
      refine lv_istore_n (lv' := [(2, .int 0), (0, .ref A0), (1, .int x1)]) hx hb dX6_back_24 rfl hl (by decide) rfl (fun ls hl => ?_)
      have Q25 : ∀ (v1_L25 : Int32) (e0_L25 : (Nat → Int32)) (n25 : Nat) (v2_L25 : Int32) (e0_s_L25 : (Nat → Int32)) (H : Heap) (locs : List Loc) (ls : Array Slot), LPX (fX6_back_L25 c0_isKept c0_kept v1_L25 e0_L25) n25 (v2_L25, e0_s_L25) = some res → va_P G vwCl [o6 A0 e0_L25 A0_s A0_draft A0_kept A0_isKept A0_undone A0_seenI A0_seenJ A0_seenTime A0_text A0_kind A0_place A0_value A0_swallows A0_time A0_strength A0_which A0_told, (A0_isKept, .inl (cZ, 2, .inl c0_isKept)), (A0_kept, .inl (cI, 54, .inl c0_kept)), (A0_s, .inl (cI, 27, .inl e0_s_L25))] H → va_D A [o6 A0 e0_L25 A0_s A0_draft A0_kept A0_isKept A0_undone A0_seenI A0_seenJ A0_seenTime A0_text A0_kind A0_place A0_value A0_swallows A0_time A0_strength A0_which A0_told, (A0_isKept, .inl (cZ, 2, .inl c0_isKept)), (A0_kept, .inl (cI, 54, .inl c0_kept)), (A0_s, .inl (cI, 27, .inl e0_s_L25))] → va_S A s.heap H locs → lv_has ls 3 [(0, .ref A0), (1, .int v1_L25), (2, .int v2_L25)] → WRW p l e wsX6_back rX6_back s m ([.ref A0, .int x1] : List Value).toArray below meth c H locs (Qiw res.1 G A [o6 A0 res.2.1 A0_s A0_draft A0_kept A0_isKept A0_undone A0_seenI A0_seenJ A0_seenTime A0_text A0_kind A0_place A0_value A0_swallows A0_time A0_strength A0_which A0_told, (A0_isKept, .inl (cZ, 2, .inl c0_isKept)), (A0_kept, .inl (cI, 54, .inl c0_kept)), (A0_s, .inl (cI, 27, .inl res.2.2))]) A (F0 m 25 ls []) := by
        intro v1_L25 e0_L25 n25
        induction n25 with
        | zero =>
          intro v2_L25 e0_s_L25 H locs ls hres
          exact absurd (LPX_0.symm.trans hres) (fun h => by cases h)
        | succ n25 ih25 =>
          intro v2_L25 e0_s_L25 H locs ls hres hP hD hS hl
          have hres := LPX_s.symm.trans hres
          refine lv_iload_n hx hb dX6_back_25 rfl (lv_at hl 2 rfl) ?_
          refine lv_bipush (v := 27) hx hb dX6_back_26 (by decide) ?_
          refine lv_icmp_ge (tgt := 54) hx hb dX6_back_28 (by decide) (fun h5 => ?_) (fun h5 => ?_)
          · have hres := ite_t hres h5
            refine lv_aload_n hx hb dX6_back_54 rfl (lv_at hl 0 rfl) ?_
            refine lv_iconst (v := 0) hx hb dX6_back_55 (by decide) ?_
            refine va_put (D := G) (ci := 6) (v := .int 0) (ty := .int) (C := RX6) (T := TX6) (N := 22) hx hb hts (fun w h => (List.mem_cons_of_mem _ (List.mem_append_right _ h))) tyX6 tyX6_ok nmX6 hown hK.1 hP hD hS 0 rfl rfl 5 (by decide) (hts (.fieldLink RX6 68 "EchoSeatsModel" "known" "I") (List.mem_of_getElem? (i := 4) rfl)) (fun _ h9 => h9) rfl (tyX6_ok 5 (by decide)) rfl rfl (Nat.le_of_ble_eq_true rfl) dX6_back_56 (fun H locs hP hD hS => ?_)
            have hP : va_P G vwCl [o6 A0 (upd e0_L25 5 0) A0_s A0_draft A0_kept A0_isKept A0_undone A0_seenI A0_seenJ A0_seenTime A0_text A0_kind A0_place A0_value A0_swallows A0_time A0_strength A0_which A0_told, (A0_isKept, .inl (cZ, 2, .inl c0_isKept)), (A0_kept, .inl (cI, 54, .inl c0_kept)), (A0_s, .inl (cI, 27, .inl e0_s_L25))] H := hP
            have hD : va_D A [o6 A0 (upd e0_L25 5 0) A0_s A0_draft A0_kept A0_isKept A0_undone A0_seenI A0_seenJ A0_seenTime A0_text A0_kind A0_place A0_value A0_swallows A0_time A0_strength A0_which A0_told, (A0_isKept, .inl (cZ, 2, .inl c0_isKept)), (A0_kept, .inl (cI, 54, .inl c0_kept)), (A0_s, .inl (cI, 27, .inl e0_s_L25))] := hD
            refine lv_aload_n hx hb dX6_back_59 rfl (lv_at hl 0 rfl) ?_
            obtain ⟨r6, hr6, hres⟩ := bi_1 hres
            refine x_cp (va_runV (As := []) (rest := []) ⟨hx, hb, hml, hown, hts⟩ (kX6_sourceAt l G cI cZ tl A0 A0_s A0_draft A0_kept A0_isKept A0_undone A0_seenI A0_seenJ A0_seenTime A0_text A0_kind A0_place A0_value A0_swallows A0_time A0_strength A0_which A0_told (upd e0_L25 5 0) e0_s_L25 r6 hr6) (cwV 0 hts gX6_back_X6_sourceAt rfl rfl rfl hsX6_sourceAt ⟨Nat.le_of_ble_eq_true rfl, Nat.le_of_ble_eq_true rfl⟩) ⟨PRO_blind, va_recv hK.1 hP (ci := 6) (q0 := 0) rfl rfl, PRO_at (hP.sub (ws' := [o6 A0 (upd e0_L25 5 0) A0_s A0_draft A0_kept A0_isKept A0_undone A0_seenI A0_seenJ A0_seenTime A0_text A0_kind A0_place A0_value A0_swallows A0_time A0_strength A0_which A0_told, (A0_s, .inl (cI, 27, .inl e0_s_L25))]) [0, 3] rfl) hK⟩ rfl rfl hl.1 rfl (lv_room (Nat.le_of_ble_eq_true rfl)) dX6_back_60 ⟨Nat.zero_le _, Nat.zero_le _⟩) ?_
            obtain rfl := Option.some.inj hres
            exact W.iret hx hb hr (fun t ht hW => ⟨⟨_, (), rfl, rfl, by rw [ht]; exact hP, hD⟩, hS.F ht⟩) hS.2.2 dX6_back_63
          · have hres := ite_f hres h5
            refine lv_aload_n hx hb dX6_back_31 rfl (lv_at hl 0 rfl) ?_
            refine va_get (D := G) (ci := 6) (v := .ref A0_s) (C := RX6) (T := TX6) (N := 22) hx hb hts (fun w h => (List.mem_cons_of_mem _ (List.mem_append_right _ h))) hown hK.1 hP 0 rfl rfl 0 (by decide) (hts (.fieldLink RX6 7 "EchoSeatsModel" "s" "[I") (List.mem_of_getElem? (i := 2) rfl)) (fun _ h9 => h9) rfl dX6_back_32 ?_
            refine lv_iload_n hx hb dX6_back_35 rfl (lv_at hl 2 rfl) ?_
            refine lv_aload_n hx hb dX6_back_36 rfl (lv_at hl 0 rfl) ?_
            refine va_get (D := G) (ci := 6) (v := .ref A0_kept) (C := RX6) (T := TX6) (N := 22) hx hb hts (fun w h => (List.mem_cons_of_mem _ (List.mem_append_right _ h))) hown hK.1 hP 0 rfl rfl 2 (by decide) (hts (.fieldLink RX6 16 "EchoSeatsModel" "kept" "[I") (List.mem_of_getElem? (i := 3) rfl)) (fun _ h9 => h9) rfl dX6_back_37 ?_
            refine lv_bipush (v := 27) hx hb dX6_back_40 (by decide) ?_
            refine lv_iload_n hx hb dX6_back_42 rfl (lv_at hl 1 rfl) ?_
            refine lv_imul hx hb dX6_back_43 ?_
            refine lv_iload_n hx hb dX6_back_44 rfl (lv_at hl 2 rfl) ?_
            refine lv_iadd hx hb dX6_back_45 ?_
            have g7 := gd_1 hres
            have hres := gd_2 hres
            refine x_iald hx hb hK hP 2 rfl (j := (Int32.toNatClampNeg ((27 * v1_L25) + v2_L25))) rfl g7 dX6_back_46 ?_
            have g8 := gd_1 hres
            have hres := gd_2 hres
            refine x_iast hx hb hK hP hD hS 3 rfl (j := (Int32.toNatClampNeg v2_L25)) rfl g8 dX6_back_47 (fun H locs hP hD hS => ?_)
            have hP : va_P G vwCl [o6 A0 e0_L25 A0_s A0_draft A0_kept A0_isKept A0_undone A0_seenI A0_seenJ A0_seenTime A0_text A0_kind A0_place A0_value A0_swallows A0_time A0_strength A0_which A0_told, (A0_isKept, .inl (cZ, 2, .inl c0_isKept)), (A0_kept, .inl (cI, 54, .inl c0_kept)), (A0_s, .inl (cI, 27, .inl (upd e0_s_L25 (Int32.toNatClampNeg v2_L25) (c0_kept (Int32.toNatClampNeg ((27 * v1_L25) + v2_L25))))))] H := hP
            have hD : va_D A [o6 A0 e0_L25 A0_s A0_draft A0_kept A0_isKept A0_undone A0_seenI A0_seenJ A0_seenTime A0_text A0_kind A0_place A0_value A0_swallows A0_time A0_strength A0_which A0_told, (A0_isKept, .inl (cZ, 2, .inl c0_isKept)), (A0_kept, .inl (cI, 54, .inl c0_kept)), (A0_s, .inl (cI, 27, .inl (upd e0_s_L25 (Int32.toNatClampNeg v2_L25) (c0_kept (Int32.toNatClampNeg ((27 * v1_L25) + v2_L25))))))] := hD
            refine lv_iinc (v := (v2_L25 + 1)) (lv' := [(2, .int (v2_L25 + 1)), (0, .ref A0), (1, .int v1_L25)]) hx hb dX6_back_48 hl (k := 2) rfl rfl (by decide) rfl (fun ls hl => ?_)
            refine lv_goto (tgt := 25) hx hb dX6_back_51 (by decide) ?_
            exact ih25 (v2_L25 + 1) (upd e0_s_L25 (Int32.toNatClampNeg v2_L25) (c0_kept (Int32.toNatClampNeg ((27 * v1_L25) + v2_L25)))) _ _ _ hres hP hD hS (lv_sub hl [1, 2, 0] rfl)
      exact Q25 x1 c0 FU 0 c0_s _ _ _ hres hP hD hS (lv_sub hl [1, 2, 0] rfl)
    · have hres := ite_t hres h4
      refine lv_bipush (v := (-2)) hx hb dX6_back_20 (by decide) ?_
      obtain rfl := Option.some.inj hres
      exact W.iret hx hb hr (fun t ht hW => ⟨⟨_, (), rfl, rfl, by rw [ht]; exact hP, hD⟩, hS.F ht⟩) hS.2.2 dX6_back_22
  · have hres := ite_t hres h2
    refine lv_iconst (v := (-1)) hx hb dX6_back_9 (by decide) ?_
    obtain rfl := Option.some.inj hres
    exact W.iret hx hb hr (fun t ht hW => ⟨⟨_, (), rfl, rfl, by rw [ht]; exact hP, hD⟩, hS.F ht⟩) hS.2.2 dX6_back_10
theorem hsX6_back : yX6_back.cls = RX6 ∧ yX6_back.cls ≠ "java/lang/invoke/MethodHandle" ∧ yX6_back.cls ≠ "java/lang/invoke/VarHandle" ∧ (parseMethodDescriptor yX6_back.desc).map (fun d => d.parameters.length) = some 1 := by decide +kernel
set_option maxHeartbeats 4000000 in
set_option maxRecDepth 100000 in
theorem kX6_becomes (l : Launch) (G : va_G) (cI cZ : ClassId) (tl : List (ClassId × FieldType)) (sz : Nat) (A : Nat → Prop) (A0 A0_s A0_draft A0_kept A0_isKept A0_undone A0_seenI A0_seenJ A0_seenTime A0_text A0_kind A0_place A0_value A0_swallows A0_time A0_strength A0_which A0_told : Nat) (c0 c0_draft c0_s c0_isKept : Nat → Int32) (res : (Nat → Int32) × (Nat → Int32) × (Nat → Int32)) (hAe : A = va_A [o6 A0 c0 A0_s A0_draft A0_kept A0_isKept A0_undone A0_seenI A0_seenJ A0_seenTime A0_text A0_kind A0_place A0_value A0_swallows A0_time A0_strength A0_which A0_told, (A0_draft, .inl (cI, 27, .inl c0_draft)), (A0_s, .inl (cI, 27, .inl c0_s)), (A0_isKept, .inl (cZ, 2, .inl c0_isKept))] sz) (hres : fX6_becomes c0 c0_draft c0_s c0_isKept = some res) : Met l yX6_becomes wsX6_becomes rX6_becomes (va_Pc [.ref A0] (PRW G cI cZ tl [o6 A0 c0 A0_s A0_draft A0_kept A0_isKept A0_undone A0_seenI A0_seenJ A0_seenTime A0_text A0_kind A0_place A0_value A0_swallows A0_time A0_strength A0_which A0_told, (A0_draft, .inl (cI, 27, .inl c0_draft)), (A0_s, .inl (cI, 27, .inl c0_s)), (A0_isKept, .inl (cZ, 2, .inl c0_isKept))] sz)) (Qvw G A [o6 A0 res.1 A0_s A0_draft A0_kept A0_isKept A0_undone A0_seenI A0_seenJ A0_seenTime A0_text A0_kind A0_place A0_value A0_swallows A0_time A0_strength A0_which A0_told, (A0_draft, .inl (cI, 27, .inl c0_draft)), (A0_s, .inl (cI, 27, .inl res.2.1)), (A0_isKept, .inl (cZ, 2, .inl res.2.2))]) 0 0 A := by
  refine Met.ofW (cc := cX6_becomes) (maxL := 2) (ret := none) (by decide) rfl ?_
  intro p e s m args below meth c s₁ B hml hv
  obtain ⟨rfl, hsz, hP, hK, hD0⟩ := hv
  have hx := B.exec
  have hb := B.bytes
  have hr := B.returns
  have hts := atoms_spec (ws := wsX6_becomes) B.pre
  have hown : s.vm.findClass RX6 = some m.cls := findClass_of_methodNamed B.named
  have hlocks := B.notSynchronized
  subst hsz
  have hD : va_D A [o6 A0 c0 A0_s A0_draft A0_kept A0_isKept A0_undone A0_seenI A0_seenJ A0_seenTime A0_text A0_kind A0_place A0_value A0_swallows A0_time A0_strength A0_which A0_told, (A0_draft, .inl (cI, 27, .inl c0_draft)), (A0_s, .inl (cI, 27, .inl c0_s)), (A0_isKept, .inl (cZ, 2, .inl c0_isKept))] := by rw [hAe]; exact hD0.self
  have hA : ∀ q : Nat, s.heap.size ≤ q → A q := fun q h => by rw [hAe]; exact Or.inr h
  clear hAe hD0
  have hS : va_S A s.heap s.heap [] := va_S.rf
  have hl := lv_entry ([.ref A0] : List Value) (n := 2) (Nat.le_of_ble_eq_true rfl)
  rw [lg_entry_eq]
  generalize (lg_sl ([.ref A0] : List Value) ++ List.replicate (2 - (lg_sl ([.ref A0] : List Value)).length) Slot.unset).toArray = ls at hl ⊢
  have hl : lv_has ls 2 [(0, .ref A0)] := hl
  refine lv_iconst (v := 0) hx hb dX6_becomes_0 (by decide) ?_
  refine lv_istore_n (lv' := [(1, .int 0), (0, .ref A0)]) hx hb dX6_becomes_1 rfl hl (by decide) rfl (fun ls hl => ?_)
  have Q2 : ∀ (e0_L2 : (Nat → Int32)) (e0_isKept_L2 : (Nat → Int32)) (n2 : Nat) (v1_L2 : Int32) (e0_s_L2 : (Nat → Int32)) (H : Heap) (locs : List Loc) (ls : Array Slot), LPX (fX6_becomes_L2 c0_draft e0_L2 e0_isKept_L2) n2 (v1_L2, e0_s_L2) = some res → va_P G vwCl [o6 A0 e0_L2 A0_s A0_draft A0_kept A0_isKept A0_undone A0_seenI A0_seenJ A0_seenTime A0_text A0_kind A0_place A0_value A0_swallows A0_time A0_strength A0_which A0_told, (A0_draft, .inl (cI, 27, .inl c0_draft)), (A0_s, .inl (cI, 27, .inl e0_s_L2)), (A0_isKept, .inl (cZ, 2, .inl e0_isKept_L2))] H → va_D A [o6 A0 e0_L2 A0_s A0_draft A0_kept A0_isKept A0_undone A0_seenI A0_seenJ A0_seenTime A0_text A0_kind A0_place A0_value A0_swallows A0_time A0_strength A0_which A0_told, (A0_draft, .inl (cI, 27, .inl c0_draft)), (A0_s, .inl (cI, 27, .inl e0_s_L2)), (A0_isKept, .inl (cZ, 2, .inl e0_isKept_L2))] → va_S A s.heap H locs → lv_has ls 2 [(0, .ref A0), (1, .int v1_L2)] → WRW p l e wsX6_becomes rX6_becomes s m ([.ref A0] : List Value).toArray below meth c H locs (Qvw G A [o6 A0 res.1 A0_s A0_draft A0_kept A0_isKept A0_undone A0_seenI A0_seenJ A0_seenTime A0_text A0_kind A0_place A0_value A0_swallows A0_time A0_strength A0_which A0_told, (A0_draft, .inl (cI, 27, .inl c0_draft)), (A0_s, .inl (cI, 27, .inl res.2.1)), (A0_isKept, .inl (cZ, 2, .inl res.2.2))]) A (F0 m 2 ls []) := by
    intro e0_L2 e0_isKept_L2 n2
    induction n2 with
    | zero =>
      intro v1_L2 e0_s_L2 H locs ls hres
      exact absurd (LPX_0.symm.trans hres) (fun h => by cases h)
    | succ n2 ih2 =>
      intro v1_L2 e0_s_L2 H locs ls hres hP hD hS hl
      have hres := LPX_s.symm.trans hres
      refine lv_iload_n hx hb dX6_becomes_2 rfl (lv_at hl 1 rfl) ?_
      refine lv_bipush (v := 27) hx hb dX6_becomes_3 (by decide) ?_
      refine lv_icmp_ge (tgt := 26) hx hb dX6_becomes_5 (by decide) (fun h1 => ?_) (fun h1 => ?_)
      · have hres := ite_t hres h1
        refine lv_aload_n hx hb dX6_becomes_26 rfl (lv_at hl 0 rfl) ?_
        refine va_get (D := G) (ci := 6) (v := .ref A0_isKept) (C := RX6) (T := TX6) (N := 22) hx hb hts (fun w h => (List.mem_cons_of_mem _ (List.mem_append_right _ h))) hown hK.1 hP 0 rfl rfl 3 (by decide) (hts (.fieldLink RX6 19 "EchoSeatsModel" "isKept" "[Z") (List.mem_of_getElem? (i := 3) rfl)) (fun _ h9 => h9) rfl dX6_becomes_27 ?_
        refine lv_iconst (v := 0) hx hb dX6_becomes_30 (by decide) ?_
        refine lv_iconst (v := 0) hx hb dX6_becomes_31 (by decide) ?_
        refine x_zast hx hb hK hP hD hS 3 rfl (j := 0) (by decide) (by decide) (by decide) dX6_becomes_32 (fun H locs hP hD hS => ?_)
        have hP : va_P G vwCl [o6 A0 e0_L2 A0_s A0_draft A0_kept A0_isKept A0_undone A0_seenI A0_seenJ A0_seenTime A0_text A0_kind A0_place A0_value A0_swallows A0_time A0_strength A0_which A0_told, (A0_draft, .inl (cI, 27, .inl c0_draft)), (A0_s, .inl (cI, 27, .inl e0_s_L2)), (A0_isKept, .inl (cZ, 2, .inl (upd e0_isKept_L2 0 0)))] H := hP
        have hD : va_D A [o6 A0 e0_L2 A0_s A0_draft A0_kept A0_isKept A0_undone A0_seenI A0_seenJ A0_seenTime A0_text A0_kind A0_place A0_value A0_swallows A0_time A0_strength A0_which A0_told, (A0_draft, .inl (cI, 27, .inl c0_draft)), (A0_s, .inl (cI, 27, .inl e0_s_L2)), (A0_isKept, .inl (cZ, 2, .inl (upd e0_isKept_L2 0 0)))] := hD
        refine lv_aload_n hx hb dX6_becomes_33 rfl (lv_at hl 0 rfl) ?_
        refine va_get (D := G) (ci := 6) (v := .ref A0_isKept) (C := RX6) (T := TX6) (N := 22) hx hb hts (fun w h => (List.mem_cons_of_mem _ (List.mem_append_right _ h))) hown hK.1 hP 0 rfl rfl 3 (by decide) (hts (.fieldLink RX6 19 "EchoSeatsModel" "isKept" "[Z") (List.mem_of_getElem? (i := 3) rfl)) (fun _ h9 => h9) rfl dX6_becomes_34 ?_
        refine lv_iconst (v := 1) hx hb dX6_becomes_37 (by decide) ?_
        refine lv_iconst (v := 0) hx hb dX6_becomes_38 (by decide) ?_
        refine x_zast hx hb hK hP hD hS 3 rfl (j := 1) (by decide) (by decide) (by decide) dX6_becomes_39 (fun H locs hP hD hS => ?_)
        have hP : va_P G vwCl [o6 A0 e0_L2 A0_s A0_draft A0_kept A0_isKept A0_undone A0_seenI A0_seenJ A0_seenTime A0_text A0_kind A0_place A0_value A0_swallows A0_time A0_strength A0_which A0_told, (A0_draft, .inl (cI, 27, .inl c0_draft)), (A0_s, .inl (cI, 27, .inl e0_s_L2)), (A0_isKept, .inl (cZ, 2, .inl (upd (upd e0_isKept_L2 0 0) 1 0)))] H := hP
        have hD : va_D A [o6 A0 e0_L2 A0_s A0_draft A0_kept A0_isKept A0_undone A0_seenI A0_seenJ A0_seenTime A0_text A0_kind A0_place A0_value A0_swallows A0_time A0_strength A0_which A0_told, (A0_draft, .inl (cI, 27, .inl c0_draft)), (A0_s, .inl (cI, 27, .inl e0_s_L2)), (A0_isKept, .inl (cZ, 2, .inl (upd (upd e0_isKept_L2 0 0) 1 0)))] := hD
        refine lv_aload_n hx hb dX6_becomes_40 rfl (lv_at hl 0 rfl) ?_
        refine lv_iconst (v := 0) hx hb dX6_becomes_41 (by decide) ?_
        refine va_put (D := G) (ci := 6) (v := .int 0) (ty := .int) (C := RX6) (T := TX6) (N := 22) hx hb hts (fun w h => (List.mem_cons_of_mem _ (List.mem_append_right _ h))) tyX6 tyX6_ok nmX6 hown hK.1 hP hD hS 0 rfl rfl 5 (by decide) (hts (.fieldLink RX6 68 "EchoSeatsModel" "known" "I") (List.mem_of_getElem? (i := 4) rfl)) (fun _ h9 => h9) rfl (tyX6_ok 5 (by decide)) rfl rfl (Nat.le_of_ble_eq_true rfl) dX6_becomes_42 (fun H locs hP hD hS => ?_)
        have hP : va_P G vwCl [o6 A0 (upd e0_L2 5 0) A0_s A0_draft A0_kept A0_isKept A0_undone A0_seenI A0_seenJ A0_seenTime A0_text A0_kind A0_place A0_value A0_swallows A0_time A0_strength A0_which A0_told, (A0_draft, .inl (cI, 27, .inl c0_draft)), (A0_s, .inl (cI, 27, .inl e0_s_L2)), (A0_isKept, .inl (cZ, 2, .inl (upd (upd e0_isKept_L2 0 0) 1 0)))] H := hP
        have hD : va_D A [o6 A0 (upd e0_L2 5 0) A0_s A0_draft A0_kept A0_isKept A0_undone A0_seenI A0_seenJ A0_seenTime A0_text A0_kind A0_place A0_value A0_swallows A0_time A0_strength A0_which A0_told, (A0_draft, .inl (cI, 27, .inl c0_draft)), (A0_s, .inl (cI, 27, .inl e0_s_L2)), (A0_isKept, .inl (cZ, 2, .inl (upd (upd e0_isKept_L2 0 0) 1 0)))] := hD
        refine lv_aload_n hx hb dX6_becomes_45 rfl (lv_at hl 0 rfl) ?_
        refine lv_iconst (v := 0) hx hb dX6_becomes_46 (by decide) ?_
        refine va_put (D := G) (ci := 6) (v := .int 0) (ty := .int) (C := RX6) (T := TX6) (N := 22) hx hb hts (fun w h => (List.mem_cons_of_mem _ (List.mem_append_right _ h))) tyX6 tyX6_ok nmX6 hown hK.1 hP hD hS 0 rfl rfl 9 (by decide) (hts (.fieldLink RX6 72 "EchoSeatsModel" "seen" "I") (List.mem_of_getElem? (i := 5) rfl)) (fun _ h9 => h9) rfl (tyX6_ok 9 (by decide)) rfl rfl (Nat.le_of_ble_eq_true rfl) dX6_becomes_47 (fun H locs hP hD hS => ?_)
        have hP : va_P G vwCl [o6 A0 (upd (upd e0_L2 5 0) 9 0) A0_s A0_draft A0_kept A0_isKept A0_undone A0_seenI A0_seenJ A0_seenTime A0_text A0_kind A0_place A0_value A0_swallows A0_time A0_strength A0_which A0_told, (A0_draft, .inl (cI, 27, .inl c0_draft)), (A0_s, .inl (cI, 27, .inl e0_s_L2)), (A0_isKept, .inl (cZ, 2, .inl (upd (upd e0_isKept_L2 0 0) 1 0)))] H := hP
        have hD : va_D A [o6 A0 (upd (upd e0_L2 5 0) 9 0) A0_s A0_draft A0_kept A0_isKept A0_undone A0_seenI A0_seenJ A0_seenTime A0_text A0_kind A0_place A0_value A0_swallows A0_time A0_strength A0_which A0_told, (A0_draft, .inl (cI, 27, .inl c0_draft)), (A0_s, .inl (cI, 27, .inl e0_s_L2)), (A0_isKept, .inl (cZ, 2, .inl (upd (upd e0_isKept_L2 0 0) 1 0)))] := hD
        obtain rfl := Option.some.inj hres
        exact W.vret hx hb hr (fun t ht hW => ⟨⟨(), rfl, trivial, by rw [ht]; exact hP, hD⟩, hS.F ht⟩) hS.2.2 dX6_becomes_50
      · have hres := ite_f hres h1
        refine lv_aload_n hx hb dX6_becomes_8 rfl (lv_at hl 0 rfl) ?_
        refine va_get (D := G) (ci := 6) (v := .ref A0_s) (C := RX6) (T := TX6) (N := 22) hx hb hts (fun w h => (List.mem_cons_of_mem _ (List.mem_append_right _ h))) hown hK.1 hP 0 rfl rfl 0 (by decide) (hts (.fieldLink RX6 7 "EchoSeatsModel" "s" "[I") (List.mem_of_getElem? (i := 1) rfl)) (fun _ h9 => h9) rfl dX6_becomes_9 ?_
        refine lv_iload_n hx hb dX6_becomes_12 rfl (lv_at hl 1 rfl) ?_
        refine lv_aload_n hx hb dX6_becomes_13 rfl (lv_at hl 0 rfl) ?_
        refine va_get (D := G) (ci := 6) (v := .ref A0_draft) (C := RX6) (T := TX6) (N := 22) hx hb hts (fun w h => (List.mem_cons_of_mem _ (List.mem_append_right _ h))) hown hK.1 hP 0 rfl rfl 1 (by decide) (hts (.fieldLink RX6 13 "EchoSeatsModel" "draft" "[I") (List.mem_of_getElem? (i := 2) rfl)) (fun _ h9 => h9) rfl dX6_becomes_14 ?_
        refine lv_iload_n hx hb dX6_becomes_17 rfl (lv_at hl 1 rfl) ?_
        have g2 := gd_1 hres
        have hres := gd_2 hres
        refine x_iald hx hb hK hP 1 rfl (j := (Int32.toNatClampNeg v1_L2)) rfl g2 dX6_becomes_18 ?_
        have g3 := gd_1 hres
        have hres := gd_2 hres
        refine x_iast hx hb hK hP hD hS 2 rfl (j := (Int32.toNatClampNeg v1_L2)) rfl g3 dX6_becomes_19 (fun H locs hP hD hS => ?_)
        have hP : va_P G vwCl [o6 A0 e0_L2 A0_s A0_draft A0_kept A0_isKept A0_undone A0_seenI A0_seenJ A0_seenTime A0_text A0_kind A0_place A0_value A0_swallows A0_time A0_strength A0_which A0_told, (A0_draft, .inl (cI, 27, .inl c0_draft)), (A0_s, .inl (cI, 27, .inl (upd e0_s_L2 (Int32.toNatClampNeg v1_L2) (c0_draft (Int32.toNatClampNeg v1_L2))))), (A0_isKept, .inl (cZ, 2, .inl e0_isKept_L2))] H := hP
        have hD : va_D A [o6 A0 e0_L2 A0_s A0_draft A0_kept A0_isKept A0_undone A0_seenI A0_seenJ A0_seenTime A0_text A0_kind A0_place A0_value A0_swallows A0_time A0_strength A0_which A0_told, (A0_draft, .inl (cI, 27, .inl c0_draft)), (A0_s, .inl (cI, 27, .inl (upd e0_s_L2 (Int32.toNatClampNeg v1_L2) (c0_draft (Int32.toNatClampNeg v1_L2))))), (A0_isKept, .inl (cZ, 2, .inl e0_isKept_L2))] := hD
        refine lv_iinc (v := (v1_L2 + 1)) (lv' := [(1, .int (v1_L2 + 1)), (0, .ref A0)]) hx hb dX6_becomes_20 hl (k := 1) rfl rfl (by decide) rfl (fun ls hl => ?_)
        refine lv_goto (tgt := 2) hx hb dX6_becomes_23 (by decide) ?_
        exact ih2 (v1_L2 + 1) (upd e0_s_L2 (Int32.toNatClampNeg v1_L2) (c0_draft (Int32.toNatClampNeg v1_L2))) _ _ _ hres hP hD hS (lv_sub hl [1, 0] rfl)
  exact Q2 c0 c0_isKept FU 0 c0_s _ _ _ hres hP hD hS (lv_sub hl [1, 0] rfl)
theorem hsX6_becomes : yX6_becomes.cls = RX6 ∧ yX6_becomes.cls ≠ "java/lang/invoke/MethodHandle" ∧ yX6_becomes.cls ≠ "java/lang/invoke/VarHandle" ∧ (parseMethodDescriptor yX6_becomes.desc).map (fun d => d.parameters.length) = some 0 := by decide +kernel
set_option maxHeartbeats 4000000 in
set_option maxRecDepth 100000 in
theorem kX6_begins (l : Launch) (G : va_G) (cI cZ : ClassId) (tl : List (ClassId × FieldType)) (sz : Nat) (A : Nat → Prop) (A0 A0_s A0_draft A0_kept A0_isKept A0_undone A0_seenI A0_seenJ A0_seenTime A0_text A0_kind A0_place A0_value A0_swallows A0_time A0_strength A0_which A0_told : Nat) (c0 c0_draft : Nat → Int32) (res : (Nat → Int32)) (hAe : A = va_A [o6 A0 c0 A0_s A0_draft A0_kept A0_isKept A0_undone A0_seenI A0_seenJ A0_seenTime A0_text A0_kind A0_place A0_value A0_swallows A0_time A0_strength A0_which A0_told, (A0_draft, .inl (cI, 27, .inl c0_draft))] sz) (hres : fX6_begins c0 c0_draft = some res) : Met l yX6_begins wsX6_begins rX6_begins (va_Pc [.ref A0] (PRW G cI cZ tl [o6 A0 c0 A0_s A0_draft A0_kept A0_isKept A0_undone A0_seenI A0_seenJ A0_seenTime A0_text A0_kind A0_place A0_value A0_swallows A0_time A0_strength A0_which A0_told, (A0_draft, .inl (cI, 27, .inl c0_draft))] sz)) (Qvw G A [o6 A0 c0 A0_s A0_draft A0_kept A0_isKept A0_undone A0_seenI A0_seenJ A0_seenTime A0_text A0_kind A0_place A0_value A0_swallows A0_time A0_strength A0_which A0_told, (A0_draft, .inl (cI, 27, .inl res))]) 0 0 A := by
  refine Met.ofW (cc := cX6_begins) (maxL := 2) (ret := none) (by decide) rfl ?_
  intro p e s m args below meth c s₁ B hml hv
  obtain ⟨rfl, hsz, hP, hK, hD0⟩ := hv
  have hx := B.exec
  have hb := B.bytes
  have hr := B.returns
  have hts := atoms_spec (ws := wsX6_begins) B.pre
  have hown : s.vm.findClass RX6 = some m.cls := findClass_of_methodNamed B.named
  have hlocks := B.notSynchronized
  subst hsz
  have hD : va_D A [o6 A0 c0 A0_s A0_draft A0_kept A0_isKept A0_undone A0_seenI A0_seenJ A0_seenTime A0_text A0_kind A0_place A0_value A0_swallows A0_time A0_strength A0_which A0_told, (A0_draft, .inl (cI, 27, .inl c0_draft))] := by rw [hAe]; exact hD0.self
  have hA : ∀ q : Nat, s.heap.size ≤ q → A q := fun q h => by rw [hAe]; exact Or.inr h
  clear hAe hD0
  have hS : va_S A s.heap s.heap [] := va_S.rf
  have hl := lv_entry ([.ref A0] : List Value) (n := 2) (Nat.le_of_ble_eq_true rfl)
  rw [lg_entry_eq]
  generalize (lg_sl ([.ref A0] : List Value) ++ List.replicate (2 - (lg_sl ([.ref A0] : List Value)).length) Slot.unset).toArray = ls at hl ⊢
  have hl : lv_has ls 2 [(0, .ref A0)] := hl
  refine lv_iconst (v := 0) hx hb dX6_begins_0 (by decide) ?_
  refine lv_istore_n (lv' := [(1, .int 0), (0, .ref A0)]) hx hb dX6_begins_1 rfl hl (by decide) rfl (fun ls hl => ?_)
  have Q2 : ∀ (n2 : Nat) (v1_L2 : Int32) (e0_draft_L2 : (Nat → Int32)) (H : Heap) (locs : List Loc) (ls : Array Slot), LPX (fX6_begins_L2 c0) n2 (v1_L2, e0_draft_L2) = some res → va_P G vwCl [o6 A0 c0 A0_s A0_draft A0_kept A0_isKept A0_undone A0_seenI A0_seenJ A0_seenTime A0_text A0_kind A0_place A0_value A0_swallows A0_time A0_strength A0_which A0_told, (A0_draft, .inl (cI, 27, .inl e0_draft_L2))] H → va_D A [o6 A0 c0 A0_s A0_draft A0_kept A0_isKept A0_undone A0_seenI A0_seenJ A0_seenTime A0_text A0_kind A0_place A0_value A0_swallows A0_time A0_strength A0_which A0_told, (A0_draft, .inl (cI, 27, .inl e0_draft_L2))] → va_S A s.heap H locs → lv_has ls 2 [(0, .ref A0), (1, .int v1_L2)] → WRW p l e wsX6_begins rX6_begins s m ([.ref A0] : List Value).toArray below meth c H locs (Qvw G A [o6 A0 c0 A0_s A0_draft A0_kept A0_isKept A0_undone A0_seenI A0_seenJ A0_seenTime A0_text A0_kind A0_place A0_value A0_swallows A0_time A0_strength A0_which A0_told, (A0_draft, .inl (cI, 27, .inl res))]) A (F0 m 2 ls []) := by
    intro n2
    induction n2 with
    | zero =>
      intro v1_L2 e0_draft_L2 H locs ls hres
      exact absurd (LPX_0.symm.trans hres) (fun h => by cases h)
    | succ n2 ih2 =>
      intro v1_L2 e0_draft_L2 H locs ls hres hP hD hS hl
      have hres := LPX_s.symm.trans hres
      refine lv_iload_n hx hb dX6_begins_2 rfl (lv_at hl 1 rfl) ?_
      refine lv_bipush (v := 27) hx hb dX6_begins_3 (by decide) ?_
      refine lv_icmp_ge (tgt := 36) hx hb dX6_begins_5 (by decide) (fun h1 => ?_) (fun h1 => ?_)
      · have hres := ite_t hres h1
        refine lv_aload_n hx hb dX6_begins_36 rfl (lv_at hl 0 rfl) ?_
        refine va_get (D := G) (ci := 6) (v := .ref A0_draft) (C := RX6) (T := TX6) (N := 22) hx hb hts (fun w h => (List.mem_cons_of_mem _ (List.mem_append_right _ h))) hown hK.1 hP 0 rfl rfl 1 (by decide) (hts (.fieldLink RX6 13 "EchoSeatsModel" "draft" "[I") (List.mem_of_getElem? (i := 1) rfl)) (fun _ h9 => h9) rfl dX6_begins_37 ?_
        refine lv_iconst (v := 0) hx hb dX6_begins_40 (by decide) ?_
        refine lv_bipush (v := 10) hx hb dX6_begins_41 (by decide) ?_
        refine x_iast hx hb hK hP hD hS 1 rfl (j := 0) (by decide) (by decide) dX6_begins_43 (fun H locs hP hD hS => ?_)
        have hP : va_P G vwCl [o6 A0 c0 A0_s A0_draft A0_kept A0_isKept A0_undone A0_seenI A0_seenJ A0_seenTime A0_text A0_kind A0_place A0_value A0_swallows A0_time A0_strength A0_which A0_told, (A0_draft, .inl (cI, 27, .inl (upd e0_draft_L2 0 10)))] H := hP
        have hD : va_D A [o6 A0 c0 A0_s A0_draft A0_kept A0_isKept A0_undone A0_seenI A0_seenJ A0_seenTime A0_text A0_kind A0_place A0_value A0_swallows A0_time A0_strength A0_which A0_told, (A0_draft, .inl (cI, 27, .inl (upd e0_draft_L2 0 10)))] := hD
        refine lv_aload_n hx hb dX6_begins_44 rfl (lv_at hl 0 rfl) ?_
        refine va_get (D := G) (ci := 6) (v := .ref A0_draft) (C := RX6) (T := TX6) (N := 22) hx hb hts (fun w h => (List.mem_cons_of_mem _ (List.mem_append_right _ h))) hown hK.1 hP 0 rfl rfl 1 (by decide) (hts (.fieldLink RX6 13 "EchoSeatsModel" "draft" "[I") (List.mem_of_getElem? (i := 1) rfl)) (fun _ h9 => h9) rfl dX6_begins_45 ?_
        refine lv_iconst (v := 1) hx hb dX6_begins_48 (by decide) ?_
        refine lv_bipush (v := 8) hx hb dX6_begins_49 (by decide) ?_
        refine x_iast hx hb hK hP hD hS 1 rfl (j := 1) (by decide) (by decide) dX6_begins_51 (fun H locs hP hD hS => ?_)
        have hP : va_P G vwCl [o6 A0 c0 A0_s A0_draft A0_kept A0_isKept A0_undone A0_seenI A0_seenJ A0_seenTime A0_text A0_kind A0_place A0_value A0_swallows A0_time A0_strength A0_which A0_told, (A0_draft, .inl (cI, 27, .inl (upd (upd e0_draft_L2 0 10) 1 8)))] H := hP
        have hD : va_D A [o6 A0 c0 A0_s A0_draft A0_kept A0_isKept A0_undone A0_seenI A0_seenJ A0_seenTime A0_text A0_kind A0_place A0_value A0_swallows A0_time A0_strength A0_which A0_told, (A0_draft, .inl (cI, 27, .inl (upd (upd e0_draft_L2 0 10) 1 8)))] := hD
        refine lv_aload_n hx hb dX6_begins_52 rfl (lv_at hl 0 rfl) ?_
        refine va_get (D := G) (ci := 6) (v := .ref A0_draft) (C := RX6) (T := TX6) (N := 22) hx hb hts (fun w h => (List.mem_cons_of_mem _ (List.mem_append_right _ h))) hown hK.1 hP 0 rfl rfl 1 (by decide) (hts (.fieldLink RX6 13 "EchoSeatsModel" "draft" "[I") (List.mem_of_getElem? (i := 1) rfl)) (fun _ h9 => h9) rfl dX6_begins_53 ?_
        refine lv_iconst (v := 2) hx hb dX6_begins_56 (by decide) ?_
        refine lv_iconst (v := 1) hx hb dX6_begins_57 (by decide) ?_
        refine x_iast hx hb hK hP hD hS 1 rfl (j := 2) (by decide) (by decide) dX6_begins_58 (fun H locs hP hD hS => ?_)
        have hP : va_P G vwCl [o6 A0 c0 A0_s A0_draft A0_kept A0_isKept A0_undone A0_seenI A0_seenJ A0_seenTime A0_text A0_kind A0_place A0_value A0_swallows A0_time A0_strength A0_which A0_told, (A0_draft, .inl (cI, 27, .inl (upd (upd (upd e0_draft_L2 0 10) 1 8) 2 1)))] H := hP
        have hD : va_D A [o6 A0 c0 A0_s A0_draft A0_kept A0_isKept A0_undone A0_seenI A0_seenJ A0_seenTime A0_text A0_kind A0_place A0_value A0_swallows A0_time A0_strength A0_which A0_told, (A0_draft, .inl (cI, 27, .inl (upd (upd (upd e0_draft_L2 0 10) 1 8) 2 1)))] := hD
        refine lv_aload_n hx hb dX6_begins_59 rfl (lv_at hl 0 rfl) ?_
        refine va_get (D := G) (ci := 6) (v := .ref A0_draft) (C := RX6) (T := TX6) (N := 22) hx hb hts (fun w h => (List.mem_cons_of_mem _ (List.mem_append_right _ h))) hown hK.1 hP 0 rfl rfl 1 (by decide) (hts (.fieldLink RX6 13 "EchoSeatsModel" "draft" "[I") (List.mem_of_getElem? (i := 1) rfl)) (fun _ h9 => h9) rfl dX6_begins_60 ?_
        refine lv_iconst (v := 3) hx hb dX6_begins_63 (by decide) ?_
        refine lv_iconst (v := 1) hx hb dX6_begins_64 (by decide) ?_
        refine x_iast hx hb hK hP hD hS 1 rfl (j := 3) (by decide) (by decide) dX6_begins_65 (fun H locs hP hD hS => ?_)
        have hP : va_P G vwCl [o6 A0 c0 A0_s A0_draft A0_kept A0_isKept A0_undone A0_seenI A0_seenJ A0_seenTime A0_text A0_kind A0_place A0_value A0_swallows A0_time A0_strength A0_which A0_told, (A0_draft, .inl (cI, 27, .inl (upd (upd (upd (upd e0_draft_L2 0 10) 1 8) 2 1) 3 1)))] H := hP
        have hD : va_D A [o6 A0 c0 A0_s A0_draft A0_kept A0_isKept A0_undone A0_seenI A0_seenJ A0_seenTime A0_text A0_kind A0_place A0_value A0_swallows A0_time A0_strength A0_which A0_told, (A0_draft, .inl (cI, 27, .inl (upd (upd (upd (upd e0_draft_L2 0 10) 1 8) 2 1) 3 1)))] := hD
        obtain rfl := Option.some.inj hres
        exact W.vret hx hb hr (fun t ht hW => ⟨⟨(), rfl, trivial, by rw [ht]; exact hP, hD⟩, hS.F ht⟩) hS.2.2 dX6_begins_66
      · have hres := ite_f hres h1
        refine lv_aload_n hx hb dX6_begins_8 rfl (lv_at hl 0 rfl) ?_
        refine va_get (D := G) (ci := 6) (v := .ref A0_draft) (C := RX6) (T := TX6) (N := 22) hx hb hts (fun w h => (List.mem_cons_of_mem _ (List.mem_append_right _ h))) hown hK.1 hP 0 rfl rfl 1 (by decide) (hts (.fieldLink RX6 13 "EchoSeatsModel" "draft" "[I") (List.mem_of_getElem? (i := 1) rfl)) (fun _ h9 => h9) rfl dX6_begins_9 ?_
        refine lv_iload_n hx hb dX6_begins_12 rfl (lv_at hl 1 rfl) ?_
        refine lv_iload_n hx hb dX6_begins_13 rfl (lv_at hl 1 rfl) ?_
        refine lv_iconst (v := 4) hx hb dX6_begins_14 (by decide) ?_
        refine lv_icmp_lt (tgt := 28) hx hb dX6_begins_15 (by decide) (fun h2 => ?_) (fun h2 => ?_)
        · have hres := ite_t hres h2
          refine lv_iconst (v := 0) hx hb dX6_begins_28 (by decide) ?_
          have g3 := gd_1 hres
          have hres := gd_2 hres
          refine x_iast hx hb hK hP hD hS 1 rfl (j := (Int32.toNatClampNeg v1_L2)) rfl g3 dX6_begins_29 (fun H locs hP hD hS => ?_)
          have hP : va_P G vwCl [o6 A0 c0 A0_s A0_draft A0_kept A0_isKept A0_undone A0_seenI A0_seenJ A0_seenTime A0_text A0_kind A0_place A0_value A0_swallows A0_time A0_strength A0_which A0_told, (A0_draft, .inl (cI, 27, .inl (upd e0_draft_L2 (Int32.toNatClampNeg v1_L2) 0)))] H := hP
          have hD : va_D A [o6 A0 c0 A0_s A0_draft A0_kept A0_isKept A0_undone A0_seenI A0_seenJ A0_seenTime A0_text A0_kind A0_place A0_value A0_swallows A0_time A0_strength A0_which A0_told, (A0_draft, .inl (cI, 27, .inl (upd e0_draft_L2 (Int32.toNatClampNeg v1_L2) 0)))] := hD
          refine lv_iinc (v := (v1_L2 + 1)) (lv' := [(1, .int (v1_L2 + 1)), (0, .ref A0)]) hx hb dX6_begins_30 hl (k := 1) rfl rfl (by decide) rfl (fun ls hl => ?_)
          refine lv_goto (tgt := 2) hx hb dX6_begins_33 (by decide) ?_
          exact ih2 (v1_L2 + 1) (upd e0_draft_L2 (Int32.toNatClampNeg v1_L2) 0) _ _ _ hres hP hD hS (lv_sub hl [1, 0] rfl)
        · have hres := ite_f hres h2
          refine lv_iload_n hx hb dX6_begins_18 rfl (lv_at hl 1 rfl) ?_
          refine lv_bipush (v := 8) hx hb dX6_begins_19 (by decide) ?_
          refine lv_icmp_ge (tgt := 28) hx hb dX6_begins_21 (by decide) (fun h4 => ?_) (fun h4 => ?_)
          · have hres := ite_t hres h4
            refine lv_iconst (v := 0) hx hb dX6_begins_28 (by decide) ?_
            have g5 := gd_1 hres
            have hres := gd_2 hres
            refine x_iast hx hb hK hP hD hS 1 rfl (j := (Int32.toNatClampNeg v1_L2)) rfl g5 dX6_begins_29 (fun H locs hP hD hS => ?_)
            have hP : va_P G vwCl [o6 A0 c0 A0_s A0_draft A0_kept A0_isKept A0_undone A0_seenI A0_seenJ A0_seenTime A0_text A0_kind A0_place A0_value A0_swallows A0_time A0_strength A0_which A0_told, (A0_draft, .inl (cI, 27, .inl (upd e0_draft_L2 (Int32.toNatClampNeg v1_L2) 0)))] H := hP
            have hD : va_D A [o6 A0 c0 A0_s A0_draft A0_kept A0_isKept A0_undone A0_seenI A0_seenJ A0_seenTime A0_text A0_kind A0_place A0_value A0_swallows A0_time A0_strength A0_which A0_told, (A0_draft, .inl (cI, 27, .inl (upd e0_draft_L2 (Int32.toNatClampNeg v1_L2) 0)))] := hD
            refine lv_iinc (v := (v1_L2 + 1)) (lv' := [(1, .int (v1_L2 + 1)), (0, .ref A0)]) hx hb dX6_begins_30 hl (k := 1) rfl rfl (by decide) rfl (fun ls hl => ?_)
            refine lv_goto (tgt := 2) hx hb dX6_begins_33 (by decide) ?_
            exact ih2 (v1_L2 + 1) (upd e0_draft_L2 (Int32.toNatClampNeg v1_L2) 0) _ _ _ hres hP hD hS (lv_sub hl [1, 0] rfl)
          · have hres := ite_f hres h4
            refine lv_iconst (v := 2) hx hb dX6_begins_24 (by decide) ?_
            refine lv_goto (tgt := 29) hx hb dX6_begins_25 (by decide) ?_
            have g6 := gd_1 hres
            have hres := gd_2 hres
            refine x_iast hx hb hK hP hD hS 1 rfl (j := (Int32.toNatClampNeg v1_L2)) rfl g6 dX6_begins_29 (fun H locs hP hD hS => ?_)
            have hP : va_P G vwCl [o6 A0 c0 A0_s A0_draft A0_kept A0_isKept A0_undone A0_seenI A0_seenJ A0_seenTime A0_text A0_kind A0_place A0_value A0_swallows A0_time A0_strength A0_which A0_told, (A0_draft, .inl (cI, 27, .inl (upd e0_draft_L2 (Int32.toNatClampNeg v1_L2) 2)))] H := hP
            have hD : va_D A [o6 A0 c0 A0_s A0_draft A0_kept A0_isKept A0_undone A0_seenI A0_seenJ A0_seenTime A0_text A0_kind A0_place A0_value A0_swallows A0_time A0_strength A0_which A0_told, (A0_draft, .inl (cI, 27, .inl (upd e0_draft_L2 (Int32.toNatClampNeg v1_L2) 2)))] := hD
            refine lv_iinc (v := (v1_L2 + 1)) (lv' := [(1, .int (v1_L2 + 1)), (0, .ref A0)]) hx hb dX6_begins_30 hl (k := 1) rfl rfl (by decide) rfl (fun ls hl => ?_)
            refine lv_goto (tgt := 2) hx hb dX6_begins_33 (by decide) ?_
            exact ih2 (v1_L2 + 1) (upd e0_draft_L2 (Int32.toNatClampNeg v1_L2) 2) _ _ _ hres hP hD hS (lv_sub hl [1, 0] rfl)
  exact Q2 FU 0 c0_draft _ _ _ hres hP hD hS (lv_sub hl [1, 0] rfl)
theorem hsX6_begins : yX6_begins.cls = RX6 ∧ yX6_begins.cls ≠ "java/lang/invoke/MethodHandle" ∧ yX6_begins.cls ≠ "java/lang/invoke/VarHandle" ∧ (parseMethodDescriptor yX6_begins.desc).map (fun d => d.parameters.length) = some 0 := by decide +kernel
set_option maxHeartbeats 4000000 in
set_option maxRecDepth 100000 in
theorem kX6_swallowsNow (l : Launch) (G : va_G) (cI cZ : ClassId) (tl : List (ClassId × FieldType)) (sz : Nat) (A : Nat → Prop) (A0 A0_s A0_draft A0_kept A0_isKept A0_undone A0_seenI A0_seenJ A0_seenTime A0_text A0_kind A0_place A0_value A0_swallows A0_time A0_strength A0_which A0_told : Nat) (c0 c0_s c0_swallows : Nat → Int32) (res : (Nat → Int32)) (hAe : A = va_A [o6 A0 c0 A0_s A0_draft A0_kept A0_isKept A0_undone A0_seenI A0_seenJ A0_seenTime A0_text A0_kind A0_place A0_value A0_swallows A0_time A0_strength A0_which A0_told, (A0_s, .inl (cI, 27, .inl c0_s)), (A0_swallows, .inl (cI, 4, .inl c0_swallows))] sz) (hres : fX6_swallowsNow c0 c0_s c0_swallows = some res) : Met l yX6_swallowsNow wsX6_swallowsNow rX6_swallowsNow (va_Pc [.ref A0] (PRW G cI cZ tl [o6 A0 c0 A0_s A0_draft A0_kept A0_isKept A0_undone A0_seenI A0_seenJ A0_seenTime A0_text A0_kind A0_place A0_value A0_swallows A0_time A0_strength A0_which A0_told, (A0_s, .inl (cI, 27, .inl c0_s)), (A0_swallows, .inl (cI, 4, .inl c0_swallows))] sz)) (Qvw G A [o6 A0 c0 A0_s A0_draft A0_kept A0_isKept A0_undone A0_seenI A0_seenJ A0_seenTime A0_text A0_kind A0_place A0_value A0_swallows A0_time A0_strength A0_which A0_told, (A0_s, .inl (cI, 27, .inl c0_s)), (A0_swallows, .inl (cI, 4, .inl res))]) 0 0 A := by
  refine Met.ofW (cc := cX6_swallowsNow) (maxL := 2) (ret := none) (by decide) rfl ?_
  intro p e s m args below meth c s₁ B hml hv
  obtain ⟨rfl, hsz, hP, hK, hD0⟩ := hv
  have hx := B.exec
  have hb := B.bytes
  have hr := B.returns
  have hts := atoms_spec (ws := wsX6_swallowsNow) B.pre
  have hown : s.vm.findClass RX6 = some m.cls := findClass_of_methodNamed B.named
  have hlocks := B.notSynchronized
  subst hsz
  have hD : va_D A [o6 A0 c0 A0_s A0_draft A0_kept A0_isKept A0_undone A0_seenI A0_seenJ A0_seenTime A0_text A0_kind A0_place A0_value A0_swallows A0_time A0_strength A0_which A0_told, (A0_s, .inl (cI, 27, .inl c0_s)), (A0_swallows, .inl (cI, 4, .inl c0_swallows))] := by rw [hAe]; exact hD0.self
  have hA : ∀ q : Nat, s.heap.size ≤ q → A q := fun q h => by rw [hAe]; exact Or.inr h
  clear hAe hD0
  have hS : va_S A s.heap s.heap [] := va_S.rf
  have hl := lv_entry ([.ref A0] : List Value) (n := 2) (Nat.le_of_ble_eq_true rfl)
  rw [lg_entry_eq]
  generalize (lg_sl ([.ref A0] : List Value) ++ List.replicate (2 - (lg_sl ([.ref A0] : List Value)).length) Slot.unset).toArray = ls at hl ⊢
  have hl : lv_has ls 2 [(0, .ref A0)] := hl
  refine lv_iconst (v := 0) hx hb dX6_swallowsNow_0 (by decide) ?_
  refine lv_istore_n (lv' := [(1, .int 0), (0, .ref A0)]) hx hb dX6_swallowsNow_1 rfl hl (by decide) rfl (fun ls hl => ?_)
  have Q2 : ∀ (n2 : Nat) (v1_L2 : Int32) (e0_swallows_L2 : (Nat → Int32)) (H : Heap) (locs : List Loc) (ls : Array Slot), LPX (fX6_swallowsNow_L2 c0 c0_s) n2 (v1_L2, e0_swallows_L2) = some res → va_P G vwCl [o6 A0 c0 A0_s A0_draft A0_kept A0_isKept A0_undone A0_seenI A0_seenJ A0_seenTime A0_text A0_kind A0_place A0_value A0_swallows A0_time A0_strength A0_which A0_told, (A0_s, .inl (cI, 27, .inl c0_s)), (A0_swallows, .inl (cI, 4, .inl e0_swallows_L2))] H → va_D A [o6 A0 c0 A0_s A0_draft A0_kept A0_isKept A0_undone A0_seenI A0_seenJ A0_seenTime A0_text A0_kind A0_place A0_value A0_swallows A0_time A0_strength A0_which A0_told, (A0_s, .inl (cI, 27, .inl c0_s)), (A0_swallows, .inl (cI, 4, .inl e0_swallows_L2))] → va_S A s.heap H locs → lv_has ls 2 [(0, .ref A0), (1, .int v1_L2)] → WRW p l e wsX6_swallowsNow rX6_swallowsNow s m ([.ref A0] : List Value).toArray below meth c H locs (Qvw G A [o6 A0 c0 A0_s A0_draft A0_kept A0_isKept A0_undone A0_seenI A0_seenJ A0_seenTime A0_text A0_kind A0_place A0_value A0_swallows A0_time A0_strength A0_which A0_told, (A0_s, .inl (cI, 27, .inl c0_s)), (A0_swallows, .inl (cI, 4, .inl res))]) A (F0 m 2 ls []) := by
    intro n2
    induction n2 with
    | zero =>
      intro v1_L2 e0_swallows_L2 H locs ls hres
      exact absurd (LPX_0.symm.trans hres) (fun h => by cases h)
    | succ n2 ih2 =>
      intro v1_L2 e0_swallows_L2 H locs ls hres hP hD hS hl
      have hres := LPX_s.symm.trans hres
      refine lv_iload_n hx hb dX6_swallowsNow_2 rfl (lv_at hl 1 rfl) ?_
      refine lv_iconst (v := 4) hx hb dX6_swallowsNow_3 (by decide) ?_
      refine lv_icmp_ge (tgt := 27) hx hb dX6_swallowsNow_4 (by decide) (fun h1 => ?_) (fun h1 => ?_)
      · have hres := ite_t hres h1
        obtain rfl := Option.some.inj hres
        exact W.vret hx hb hr (fun t ht hW => ⟨⟨(), rfl, trivial, by rw [ht]; exact hP, hD⟩, hS.F ht⟩) hS.2.2 dX6_swallowsNow_27
      · have hres := ite_f hres h1
        refine lv_aload_n hx hb dX6_swallowsNow_7 rfl (lv_at hl 0 rfl) ?_
        refine va_get (D := G) (ci := 6) (v := .ref A0_swallows) (C := RX6) (T := TX6) (N := 22) hx hb hts (fun w h => (List.mem_cons_of_mem _ (List.mem_append_right _ h))) hown hK.1 hP 0 rfl rfl 16 (by decide) (hts (.fieldLink RX6 47 "EchoSeatsModel" "swallows" "[I") (List.mem_of_getElem? (i := 1) rfl)) (fun _ h9 => h9) rfl dX6_swallowsNow_8 ?_
        refine lv_iload_n hx hb dX6_swallowsNow_11 rfl (lv_at hl 1 rfl) ?_
        refine lv_aload_n hx hb dX6_swallowsNow_12 rfl (lv_at hl 0 rfl) ?_
        refine va_get (D := G) (ci := 6) (v := .ref A0_s) (C := RX6) (T := TX6) (N := 22) hx hb hts (fun w h => (List.mem_cons_of_mem _ (List.mem_append_right _ h))) hown hK.1 hP 0 rfl rfl 0 (by decide) (hts (.fieldLink RX6 7 "EchoSeatsModel" "s" "[I") (List.mem_of_getElem? (i := 2) rfl)) (fun _ h9 => h9) rfl dX6_swallowsNow_13 ?_
        refine lv_iconst (v := 4) hx hb dX6_swallowsNow_16 (by decide) ?_
        refine lv_iload_n hx hb dX6_swallowsNow_17 rfl (lv_at hl 1 rfl) ?_
        refine lv_iadd hx hb dX6_swallowsNow_18 ?_
        have g2 := gd_1 hres
        have hres := gd_2 hres
        refine x_iald hx hb hK hP 1 rfl (j := (Int32.toNatClampNeg (4 + v1_L2))) rfl g2 dX6_swallowsNow_19 ?_
        have g3 := gd_1 hres
        have hres := gd_2 hres
        refine x_iast hx hb hK hP hD hS 2 rfl (j := (Int32.toNatClampNeg v1_L2)) rfl g3 dX6_swallowsNow_20 (fun H locs hP hD hS => ?_)
        have hP : va_P G vwCl [o6 A0 c0 A0_s A0_draft A0_kept A0_isKept A0_undone A0_seenI A0_seenJ A0_seenTime A0_text A0_kind A0_place A0_value A0_swallows A0_time A0_strength A0_which A0_told, (A0_s, .inl (cI, 27, .inl c0_s)), (A0_swallows, .inl (cI, 4, .inl (upd e0_swallows_L2 (Int32.toNatClampNeg v1_L2) (c0_s (Int32.toNatClampNeg (4 + v1_L2))))))] H := hP
        have hD : va_D A [o6 A0 c0 A0_s A0_draft A0_kept A0_isKept A0_undone A0_seenI A0_seenJ A0_seenTime A0_text A0_kind A0_place A0_value A0_swallows A0_time A0_strength A0_which A0_told, (A0_s, .inl (cI, 27, .inl c0_s)), (A0_swallows, .inl (cI, 4, .inl (upd e0_swallows_L2 (Int32.toNatClampNeg v1_L2) (c0_s (Int32.toNatClampNeg (4 + v1_L2))))))] := hD
        refine lv_iinc (v := (v1_L2 + 1)) (lv' := [(1, .int (v1_L2 + 1)), (0, .ref A0)]) hx hb dX6_swallowsNow_21 hl (k := 1) rfl rfl (by decide) rfl (fun ls hl => ?_)
        refine lv_goto (tgt := 2) hx hb dX6_swallowsNow_24 (by decide) ?_
        exact ih2 (v1_L2 + 1) (upd e0_swallows_L2 (Int32.toNatClampNeg v1_L2) (c0_s (Int32.toNatClampNeg (4 + v1_L2)))) _ _ _ hres hP hD hS (lv_sub hl [1, 0] rfl)
  exact Q2 FU 0 c0_swallows _ _ _ hres hP hD hS (lv_sub hl [1, 0] rfl)
theorem hsX6_swallowsNow : yX6_swallowsNow.cls = RX6 ∧ yX6_swallowsNow.cls ≠ "java/lang/invoke/MethodHandle" ∧ yX6_swallowsNow.cls ≠ "java/lang/invoke/VarHandle" ∧ (parseMethodDescriptor yX6_swallowsNow.desc).map (fun d => d.parameters.length) = some 0 := by decide +kernel
set_option maxHeartbeats 4000000 in
set_option maxRecDepth 100000 in
theorem kX6_size (l : Launch) (G : va_G) (cI cZ : ClassId) (tl : List (ClassId × FieldType)) (x0 : Int32) (res : Int32) (hres : fX6_size x0 = some res) : Met l yX6_size wsX6_size rX6_size (va_Pc [.int x0] (PRO G cI cZ tl [])) (Sp res) 0 0 (fun _ => False) := by
  refine Met.ofW (cc := cX6_size) (maxL := 1) (ret := (some .int)) (by decide) rfl ?_
  intro p e s m args below meth c s₁ B hml hv
  obtain ⟨rfl, hP, hK⟩ := hv
  have hx := B.exec
  have hb := B.bytes
  have hr := B.returns
  have hts := atoms_spec (ws := wsX6_size) B.pre
  have hown : s.vm.findClass RX6 = some m.cls := findClass_of_methodNamed B.named
  have hlocks := B.notSynchronized
  have hl := lv_entry ([.int x0] : List Value) (n := 1) (Nat.le_of_ble_eq_true rfl)
  rw [lg_entry_eq]
  generalize (lg_sl ([.int x0] : List Value) ++ List.replicate (1 - (lg_sl ([.int x0] : List Value)).length) Slot.unset).toArray = ls at hl ⊢
  have hl : lv_has ls 1 [(0, .int x0)] := hl
  refine lv_iload_n hx hb dX6_size_0 rfl (lv_at hl 0 rfl) ?_
  refine lv_if_ge (tgt := 9) hx hb dX6_size_1 (by decide) (fun h1 => ?_) (fun h1 => ?_)
  · have hres := ite_t hres h1
    refine lv_iload_n hx hb dX6_size_9 rfl (lv_at hl 0 rfl) ?_
    obtain rfl := Option.some.inj hres
    exact W.iret hx hb hr (fun t ht hW => ⟨rfl, ht⟩) (fun q h => absurd h List.not_mem_nil) dX6_size_10
  · have hres := ite_f hres h1
    refine lv_iload_n hx hb dX6_size_4 rfl (lv_at hl 0 rfl) ?_
    refine lv_ineg hx hb dX6_size_5 ?_
    refine lv_goto (tgt := 10) hx hb dX6_size_6 (by decide) ?_
    obtain rfl := Option.some.inj hres
    exact W.iret hx hb hr (fun t ht hW => ⟨rfl, ht⟩) (fun q h => absurd h List.not_mem_nil) dX6_size_10
theorem hsX6_size : yX6_size.cls ≠ "java/lang/invoke/MethodHandle" ∧ yX6_size.cls ≠ "java/lang/invoke/VarHandle" ∧ (parseMethodDescriptor yX6_size.desc).map (fun d => d.parameters.length) = some 1 := by decide +kernel
set_option maxHeartbeats 4000000 in
set_option maxRecDepth 100000 in
theorem kX6_isImage (l : Launch) (G : va_G) (cI cZ : ClassId) (tl : List (ClassId × FieldType)) (x0 x1 : Int32) (res : Int32) (hres : fX6_isImage x0 x1 = some res) : Met l yX6_isImage wsX6_isImage rX6_isImage (va_Pc [.int x0, .int x1] (PRO G cI cZ tl [])) (Sp res) 0 0 (fun _ => False) := by
  refine Met.ofW (cc := cX6_isImage) (maxL := 2) (ret := (some .boolean)) (by decide) rfl ?_
  intro p e s m args below meth c s₁ B hml hv
  obtain ⟨rfl, hP, hK⟩ := hv
  have hx := B.exec
  have hb := B.bytes
  have hr := B.returns
  have hts := atoms_spec (ws := wsX6_isImage) B.pre
  have hown : s.vm.findClass RX6 = some m.cls := findClass_of_methodNamed B.named
  have hlocks := B.notSynchronized
  have hl := lv_entry ([.int x0, .int x1] : List Value) (n := 2) (Nat.le_of_ble_eq_true rfl)
  rw [lg_entry_eq]
  generalize (lg_sl ([.int x0, .int x1] : List Value) ++ List.replicate (2 - (lg_sl ([.int x0, .int x1] : List Value)).length) Slot.unset).toArray = ls at hl ⊢
  have hl : lv_has ls 2 [(0, .int x0), (1, .int x1)] := hl
  refine lv_iload_n hx hb dX6_isImage_0 rfl (lv_at hl 0 rfl) ?_
  refine lv_bipush (v := (-3)) hx hb dX6_isImage_1 (by decide) ?_
  refine lv_iconst (v := 3) hx hb dX6_isImage_3 (by decide) ?_
  obtain ⟨r1, hr1, hres⟩ := bi_1 hres
  refine x_cp (va_runS (As := [.int x0, .int (-3), .int 3]) (rest := []) ⟨hx, hb, hml, hown, hts⟩ (kX6_in l G cI cZ tl x0 (-3) 3 r1 hr1) (va_cwS 3 hts gX6_isImage_X6_in rfl rfl rfl hsX6_in ⟨Nat.le_of_ble_eq_true rfl, Nat.le_of_ble_eq_true rfl⟩) ⟨PRO_blind, PRO_at va_P0 hK⟩ rfl rfl hl.1 rfl (lv_room (Nat.le_of_ble_eq_true rfl)) dX6_isImage_4 ⟨Nat.zero_le _, Nat.zero_le _⟩) ?_
  refine lv_if_eq (tgt := 37) hx hb dX6_isImage_7 (by decide) (fun h2 => ?_) (fun h2 => ?_)
  · have hres := ite_t hres h2
    refine lv_iconst (v := 0) hx hb dX6_isImage_37 (by decide) ?_
    obtain rfl := Option.some.inj hres
    exact W.zret hx hb hr (by decide) (fun t ht hW => ⟨rfl, ht⟩) (fun q h => absurd h List.not_mem_nil) dX6_isImage_38
  · have hres := ite_f hres h2
    refine lv_iload_n hx hb dX6_isImage_10 rfl (lv_at hl 1 rfl) ?_
    refine lv_bipush (v := (-3)) hx hb dX6_isImage_11 (by decide) ?_
    refine lv_iconst (v := 3) hx hb dX6_isImage_13 (by decide) ?_
    obtain ⟨r3, hr3, hres⟩ := bi_1 hres
    refine x_cp (va_runS (As := [.int x1, .int (-3), .int 3]) (rest := []) ⟨hx, hb, hml, hown, hts⟩ (kX6_in l G cI cZ tl x1 (-3) 3 r3 hr3) (va_cwS 3 hts gX6_isImage_X6_in rfl rfl rfl hsX6_in ⟨Nat.le_of_ble_eq_true rfl, Nat.le_of_ble_eq_true rfl⟩) ⟨PRO_blind, PRO_at va_P0 hK⟩ rfl rfl hl.1 rfl (lv_room (Nat.le_of_ble_eq_true rfl)) dX6_isImage_14 ⟨Nat.zero_le _, Nat.zero_le _⟩) ?_
    refine lv_if_eq (tgt := 37) hx hb dX6_isImage_17 (by decide) (fun h4 => ?_) (fun h4 => ?_)
    · have hres := ite_t hres h4
      refine lv_iconst (v := 0) hx hb dX6_isImage_37 (by decide) ?_
      obtain rfl := Option.some.inj hres
      exact W.zret hx hb hr (by decide) (fun t ht hW => ⟨rfl, ht⟩) (fun q h => absurd h List.not_mem_nil) dX6_isImage_38
    · have hres := ite_f hres h4
      refine lv_iload_n hx hb dX6_isImage_20 rfl (lv_at hl 0 rfl) ?_
      obtain ⟨r5, hr5, hres⟩ := bi_1 hres
      refine x_cp (va_runS (As := [.int x0]) (rest := []) ⟨hx, hb, hml, hown, hts⟩ (kX6_size l G cI cZ tl x0 r5 hr5) (va_cwS 1 hts gX6_isImage_X6_size rfl rfl rfl hsX6_size ⟨Nat.le_of_ble_eq_true rfl, Nat.le_of_ble_eq_true rfl⟩) ⟨PRO_blind, PRO_at va_P0 hK⟩ rfl rfl hl.1 rfl (lv_room (Nat.le_of_ble_eq_true rfl)) dX6_isImage_21 ⟨Nat.zero_le _, Nat.zero_le _⟩) ?_
      refine lv_iload_n hx hb dX6_isImage_24 rfl (lv_at hl 1 rfl) ?_
      obtain ⟨r6, hr6, hres⟩ := bi_1 hres
      refine x_cp (va_runS (As := [.int x1]) (rest := [.int r5]) ⟨hx, hb, hml, hown, hts⟩ (kX6_size l G cI cZ tl x1 r6 hr6) (va_cwS 1 hts gX6_isImage_X6_size rfl rfl rfl hsX6_size ⟨Nat.le_of_ble_eq_true rfl, Nat.le_of_ble_eq_true rfl⟩) ⟨PRO_blind, PRO_at va_P0 hK⟩ rfl rfl hl.1 rfl (lv_room (Nat.le_of_ble_eq_true rfl)) dX6_isImage_25 ⟨Nat.zero_le _, Nat.zero_le _⟩) ?_
      refine lv_iadd hx hb dX6_isImage_28 ?_
      refine lv_iconst (v := 3) hx hb dX6_isImage_29 (by decide) ?_
      refine lv_icmp_gt (tgt := 37) hx hb dX6_isImage_30 (by decide) (fun h7 => ?_) (fun h7 => ?_)
      · have hres := ite_t hres h7
        refine lv_iconst (v := 0) hx hb dX6_isImage_37 (by decide) ?_
        obtain rfl := Option.some.inj hres
        exact W.zret hx hb hr (by decide) (fun t ht hW => ⟨rfl, ht⟩) (fun q h => absurd h List.not_mem_nil) dX6_isImage_38
      · have hres := ite_f hres h7
        refine lv_iconst (v := 1) hx hb dX6_isImage_33 (by decide) ?_
        refine lv_goto (tgt := 38) hx hb dX6_isImage_34 (by decide) ?_
        obtain rfl := Option.some.inj hres
        exact W.zret hx hb hr (by decide) (fun t ht hW => ⟨rfl, ht⟩) (fun q h => absurd h List.not_mem_nil) dX6_isImage_38
theorem hsX6_isImage : yX6_isImage.cls ≠ "java/lang/invoke/MethodHandle" ∧ yX6_isImage.cls ≠ "java/lang/invoke/VarHandle" ∧ (parseMethodDescriptor yX6_isImage.desc).map (fun d => d.parameters.length) = some 2 := by decide +kernel
set_option maxHeartbeats 4000000 in
set_option maxRecDepth 100000 in
theorem kX6_mirrored (l : Launch) (G : va_G) (cI cZ : ClassId) (tl : List (ClassId × FieldType)) (x0 x1 x2 : Int32) (res : Int32) (hres : fX6_mirrored x0 x1 x2 = some res) : Met l yX6_mirrored wsX6_mirrored rX6_mirrored (va_Pc [.int x0, .int x1, .int x2] (PRO G cI cZ tl [])) (Sp res) 0 0 (fun _ => False) := by
  refine Met.ofW (cc := cX6_mirrored) (maxL := 3) (ret := (some .int)) (by decide) rfl ?_
  intro p e s m args below meth c s₁ B hml hv
  obtain ⟨rfl, hP, hK⟩ := hv
  have hx := B.exec
  have hb := B.bytes
  have hr := B.returns
  have hts := atoms_spec (ws := wsX6_mirrored) B.pre
  have hown : s.vm.findClass RX6 = some m.cls := findClass_of_methodNamed B.named
  have hlocks := B.notSynchronized
  have hl := lv_entry ([.int x0, .int x1, .int x2] : List Value) (n := 3) (Nat.le_of_ble_eq_true rfl)
  rw [lg_entry_eq]
  generalize (lg_sl ([.int x0, .int x1, .int x2] : List Value) ++ List.replicate (3 - (lg_sl ([.int x0, .int x1, .int x2] : List Value)).length) Slot.unset).toArray = ls at hl ⊢
  have hl : lv_has ls 3 [(0, .int x0), (1, .int x1), (2, .int x2)] := hl
  refine lv_iload_n hx hb dX6_mirrored_0 rfl (lv_at hl 0 rfl) ?_
  refine lv_iload_n hx hb dX6_mirrored_1 rfl (lv_at hl 1 rfl) ?_
  refine lv_imul hx hb dX6_mirrored_2 ?_
  refine lv_iload_n hx hb dX6_mirrored_3 rfl (lv_at hl 0 rfl) ?_
  refine lv_iconst (v := 2) hx hb dX6_mirrored_4 (by decide) ?_
  refine lv_irem hx hb dX6_mirrored_5 (by decide) ?_
  refine lv_if_ne (tgt := 13) hx hb dX6_mirrored_6 (by decide) (fun h1 => ?_) (fun h1 => ?_)
  · have hres := ite_f hres h1
    refine lv_iload_n hx hb dX6_mirrored_13 rfl (lv_at hl 1 rfl) ?_
    refine lv_iload_n hx hb dX6_mirrored_14 rfl (lv_at hl 2 rfl) ?_
    refine lv_isub hx hb dX6_mirrored_15 ?_
    refine lv_iadd hx hb dX6_mirrored_16 ?_
    obtain rfl := Option.some.inj hres
    exact W.iret hx hb hr (fun t ht hW => ⟨rfl, ht⟩) (fun q h => absurd h List.not_mem_nil) dX6_mirrored_17
  · have hres := ite_t hres h1
    refine lv_iload_n hx hb dX6_mirrored_9 rfl (lv_at hl 2 rfl) ?_
    refine lv_goto (tgt := 16) hx hb dX6_mirrored_10 (by decide) ?_
    refine lv_iadd hx hb dX6_mirrored_16 ?_
    obtain rfl := Option.some.inj hres
    exact W.iret hx hb hr (fun t ht hW => ⟨rfl, ht⟩) (fun q h => absurd h List.not_mem_nil) dX6_mirrored_17
theorem hsX6_mirrored : yX6_mirrored.cls ≠ "java/lang/invoke/MethodHandle" ∧ yX6_mirrored.cls ≠ "java/lang/invoke/VarHandle" ∧ (parseMethodDescriptor yX6_mirrored.desc).map (fun d => d.parameters.length) = some 3 := by decide +kernel
set_option maxHeartbeats 4000000 in
set_option maxRecDepth 100000 in
theorem kX6_meets (l : Launch) (G : va_G) (cI cZ : ClassId) (tl : List (ClassId × FieldType)) (A0 A0_s A0_draft A0_kept A0_isKept A0_undone A0_seenI A0_seenJ A0_seenTime A0_text A0_kind A0_place A0_value A0_swallows A0_time A0_strength A0_which A0_told : Nat) (c0 c0_s : Nat → Int32) (x1 x2 x3 x4 x5 x6 : Int32) (res : Int32) (hres : fX6_meets c0 c0_s x1 x2 x3 x4 x5 x6 = some res) : Met l yX6_meets wsX6_meets rX6_meets (va_Pc [.ref A0, .int x1, .int x2, .int x3, .int x4, .int x5, .int x6] (PRO G cI cZ tl [o6 A0 c0 A0_s A0_draft A0_kept A0_isKept A0_undone A0_seenI A0_seenJ A0_seenTime A0_text A0_kind A0_place A0_value A0_swallows A0_time A0_strength A0_which A0_told, (A0_s, .inl (cI, 27, .inl c0_s))])) (Sp res) 0 0 (fun _ => False) := by
  refine Met.ofW (cc := cX6_meets) (maxL := 14) (ret := (some .boolean)) (by decide) rfl ?_
  intro p e s m args below meth c s₁ B hml hv
  obtain ⟨rfl, hP, hK⟩ := hv
  have hx := B.exec
  have hb := B.bytes
  have hr := B.returns
  have hts := atoms_spec (ws := wsX6_meets) B.pre
  have hown : s.vm.findClass RX6 = some m.cls := findClass_of_methodNamed B.named
  have hlocks := B.notSynchronized
  have hl := lv_entry ([.ref A0, .int x1, .int x2, .int x3, .int x4, .int x5, .int x6] : List Value) (n := 14) (Nat.le_of_ble_eq_true rfl)
  rw [lg_entry_eq]
  generalize (lg_sl ([.ref A0, .int x1, .int x2, .int x3, .int x4, .int x5, .int x6] : List Value) ++ List.replicate (14 - (lg_sl ([.ref A0, .int x1, .int x2, .int x3, .int x4, .int x5, .int x6] : List Value)).length) Slot.unset).toArray = ls at hl ⊢
  have hl : lv_has ls 14 [(0, .ref A0), (1, .int x1), (2, .int x2), (3, .int x3), (4, .int x4), (5, .int x5), (6, .int x6)] := hl
  have J205 : ∀ (v1_j205 : Int32) (v10_j205 : Int32) (z0_j205 : Int32) (ls : Array Slot), fX6_meets_j205 c0 c0_s v1_j205 v10_j205 z0_j205 = some res → lv_has ls 14 [(0, .ref A0), (1, .int v1_j205), (10, .int v10_j205)] → WRO p l e wsX6_meets rX6_meets s m ([.ref A0, .int x1, .int x2, .int x3, .int x4, .int x5, .int x6] : List Value).toArray below meth c res (F0 m 205 ls [.int z0_j205]) := by
    intro v1_j205 v10_j205 z0_j205 ls hres hl
    refine lv_istore (lv' := [(11, .int z0_j205), (0, .ref A0), (1, .int v1_j205), (10, .int v10_j205)]) hx hb dX6_meets_205 hl (by decide) rfl (fun ls hl => ?_)
    refine lv_iload hx hb dX6_meets_207 (lv_at hl 0 rfl) ?_
    refine lv_aload_n hx hb dX6_meets_209 rfl (lv_at hl 1 rfl) ?_
    refine va_get (D := G) (ci := 6) (v := .ref A0_s) (C := RX6) (T := TX6) (N := 22) hx hb hts (fun w h => (List.mem_cons_of_mem _ (List.mem_append_right _ h))) hown hK.1 hP 0 rfl rfl 0 (by decide) (hts (.fieldLink RX6 7 "EchoSeatsModel" "s" "[I") (List.mem_of_getElem? (i := 1) rfl)) (fun _ h9 => h9) rfl dX6_meets_210 ?_
    refine lv_bipush (v := 21) hx hb dX6_meets_213 (by decide) ?_
    refine lv_iload_n hx hb dX6_meets_215 rfl (lv_at hl 2 rfl) ?_
    refine lv_iadd hx hb dX6_meets_216 ?_
    have g1 := gd_1 hres
    have hres := gd_2 hres
    refine x_iald hx hb hK hP 1 rfl (j := (Int32.toNatClampNeg (21 + v1_j205))) rfl g1 dX6_meets_217 ?_
    refine lv_iload hx hb dX6_meets_218 (lv_at hl 3 rfl) ?_
    refine lv_imul hx hb dX6_meets_220 ?_
    refine lv_icmp_lt (tgt := 245) hx hb dX6_meets_221 (by decide) (fun h2 => ?_) (fun h2 => ?_)
    · have hres := ite_t hres h2
      refine lv_iconst (v := 0) hx hb dX6_meets_245 (by decide) ?_
      obtain rfl := Option.some.inj hres
      exact W.zret hx hb hr (by decide) (fun t ht hW => ⟨rfl, ht⟩) (fun q h => absurd h List.not_mem_nil) dX6_meets_246
    · have hres := ite_f hres h2
      refine lv_iload hx hb dX6_meets_224 (lv_at hl 0 rfl) ?_
      refine lv_aload_n hx hb dX6_meets_226 rfl (lv_at hl 1 rfl) ?_
      refine va_get (D := G) (ci := 6) (v := .ref A0_s) (C := RX6) (T := TX6) (N := 22) hx hb hts (fun w h => (List.mem_cons_of_mem _ (List.mem_append_right _ h))) hown hK.1 hP 0 rfl rfl 0 (by decide) (hts (.fieldLink RX6 7 "EchoSeatsModel" "s" "[I") (List.mem_of_getElem? (i := 1) rfl)) (fun _ h9 => h9) rfl dX6_meets_227 ?_
      refine lv_bipush (v := 24) hx hb dX6_meets_230 (by decide) ?_
      refine lv_iload_n hx hb dX6_meets_232 rfl (lv_at hl 2 rfl) ?_
      refine lv_iadd hx hb dX6_meets_233 ?_
      have g3 := gd_1 hres
      have hres := gd_2 hres
      refine x_iald hx hb hK hP 1 rfl (j := (Int32.toNatClampNeg (24 + v1_j205))) rfl g3 dX6_meets_234 ?_
      refine lv_iload hx hb dX6_meets_235 (lv_at hl 3 rfl) ?_
      refine lv_imul hx hb dX6_meets_237 ?_
      refine lv_icmp_gt (tgt := 245) hx hb dX6_meets_238 (by decide) (fun h4 => ?_) (fun h4 => ?_)
      · have hres := ite_t hres h4
        refine lv_iconst (v := 0) hx hb dX6_meets_245 (by decide) ?_
        obtain rfl := Option.some.inj hres
        exact W.zret hx hb hr (by decide) (fun t ht hW => ⟨rfl, ht⟩) (fun q h => absurd h List.not_mem_nil) dX6_meets_246
      · have hres := ite_f hres h4
        refine lv_iconst (v := 1) hx hb dX6_meets_241 (by decide) ?_
        refine lv_goto (tgt := 246) hx hb dX6_meets_242 (by decide) ?_
        obtain rfl := Option.some.inj hres
        exact W.zret hx hb hr (by decide) (fun t ht hW => ⟨rfl, ht⟩) (fun q h => absurd h List.not_mem_nil) dX6_meets_246
  have J127 : ∀ (v1_j127 : Int32) (v10_j127 : Int32) (z0_j127 : Int32) (ls : Array Slot), fX6_meets_j127 c0 c0_s v1_j127 v10_j127 z0_j127 = some res → lv_has ls 14 [(0, .ref A0), (1, .int v1_j127), (10, .int v10_j127)] → WRO p l e wsX6_meets rX6_meets s m ([.ref A0, .int x1, .int x2, .int x3, .int x4, .int x5, .int x6] : List Value).toArray below meth c res (F0 m 127 ls [.int z0_j127]) := by
    intro v1_j127 v10_j127 z0_j127 ls hres hl
    refine lv_istore (lv' := [(11, .int z0_j127), (0, .ref A0), (1, .int v1_j127), (10, .int v10_j127)]) hx hb dX6_meets_127 hl (by decide) rfl (fun ls hl => ?_)
    refine lv_iload hx hb dX6_meets_129 (lv_at hl 3 rfl) ?_
    obtain ⟨r5, hr5, hres⟩ := bi_1 hres
    refine x_cp (va_runS (As := [.int v10_j127]) (rest := []) ⟨hx, hb, hml, hown, hts⟩ (kX6_size l G cI cZ tl v10_j127 r5 hr5) (va_cwS 1 hts gX6_meets_X6_size rfl rfl rfl hsX6_size ⟨Nat.le_of_ble_eq_true rfl, Nat.le_of_ble_eq_true rfl⟩) ⟨PRO_blind, PRO_at va_P0 hK⟩ rfl rfl hl.1 rfl (lv_room (Nat.le_of_ble_eq_true rfl)) dX6_meets_131 ⟨Nat.zero_le _, Nat.zero_le _⟩) ?_
    refine lv_istore (lv' := [(10, .int r5), (11, .int z0_j127), (0, .ref A0), (1, .int v1_j127)]) hx hb dX6_meets_134 hl (by decide) rfl (fun ls hl => ?_)
    refine lv_aload_n hx hb dX6_meets_136 rfl (lv_at hl 2 rfl) ?_
    refine va_get (D := G) (ci := 6) (v := .ref A0_s) (C := RX6) (T := TX6) (N := 22) hx hb hts (fun w h => (List.mem_cons_of_mem _ (List.mem_append_right _ h))) hown hK.1 hP 0 rfl rfl 0 (by decide) (hts (.fieldLink RX6 7 "EchoSeatsModel" "s" "[I") (List.mem_of_getElem? (i := 1) rfl)) (fun _ h9 => h9) rfl dX6_meets_137 ?_
    refine lv_iconst (v := 1) hx hb dX6_meets_140 (by decide) ?_
    refine x_iald hx hb hK hP 1 rfl (j := 1) (by decide) (by decide) dX6_meets_141 ?_
    refine lv_iload hx hb dX6_meets_142 (lv_at hl 0 rfl) ?_
    refine lv_imul hx hb dX6_meets_144 ?_
    refine lv_topi (fun y6 ey6 => ?_)
    have hres := bnd_z ey6 hres
    refine lv_istore (lv' := [(12, .int y6), (10, .int r5), (11, .int z0_j127), (0, .ref A0), (1, .int v1_j127)]) hx hb dX6_meets_145 hl (by decide) rfl (fun ls hl => ?_)
    refine lv_iconst (v := 0) hx hb dX6_meets_147 (by decide) ?_
    refine lv_istore (lv' := [(13, .int 0), (12, .int y6), (10, .int r5), (11, .int z0_j127), (0, .ref A0), (1, .int v1_j127)]) hx hb dX6_meets_148 hl (by decide) rfl (fun ls hl => ?_)
    have Q150 : ∀ (v1_L150 : Int32) (v10_L150 : Int32) (v12_L150 : Int32) (n150 : Nat) (v11_L150 : Int32) (v13_L150 : Int32) (ls : Array Slot), LPX (fX6_meets_L150 c0 c0_s v1_L150 v10_L150 v12_L150) n150 (v11_L150, v13_L150) = some res → lv_has ls 14 [(0, .ref A0), (1, .int v1_L150), (10, .int v10_L150), (11, .int v11_L150), (12, .int v12_L150), (13, .int v13_L150)] → WRO p l e wsX6_meets rX6_meets s m ([.ref A0, .int x1, .int x2, .int x3, .int x4, .int x5, .int x6] : List Value).toArray below meth c res (F0 m 150 ls []) := by
      intro v1_L150 v10_L150 v12_L150 n150
      induction n150 with
      | zero =>
        intro v11_L150 v13_L150 ls hres
        exact absurd (LPX_0.symm.trans hres) (fun h => by cases h)
      | succ n150 ih150 =>
        intro v11_L150 v13_L150 ls hres hl
        have hres := LPX_s.symm.trans hres
        refine lv_iload hx hb dX6_meets_150 (lv_at hl 3 rfl) ?_
        refine lv_if_ge (tgt := 168) hx hb dX6_meets_152 (by decide) (fun h7 => ?_) (fun h7 => ?_)
        · have hres := ite_t hres h7
          have Q168 : ∀ (v1_L168 : Int32) (v10_L168 : Int32) (v12_L168 : Int32) (n168 : Nat) (v11_L168 : Int32) (v13_L168 : Int32) (ls : Array Slot), LPX (fX6_meets_L168 c0 c0_s v1_L168 v10_L168 v12_L168 (LPX (fX6_meets_L150 c0 c0_s v1_L150 v10_L150 v12_L150) n150)) n168 (v11_L168, v13_L168) = some res → lv_has ls 14 [(0, .ref A0), (1, .int v1_L168), (10, .int v10_L168), (11, .int v11_L168), (12, .int v12_L168), (13, .int v13_L168)] → WRO p l e wsX6_meets rX6_meets s m ([.ref A0, .int x1, .int x2, .int x3, .int x4, .int x5, .int x6] : List Value).toArray below meth c res (F0 m 168 ls []) := by
            intro v1_L168 v10_L168 v12_L168 n168
            induction n168 with
            | zero =>
              intro v11_L168 v13_L168 ls hres
              exact absurd (LPX_0.symm.trans hres) (fun h => by cases h)
            | succ n168 ih168 =>
              intro v11_L168 v13_L168 ls hres hl
              have hres := LPX_s.symm.trans hres
              refine lv_iload hx hb dX6_meets_168 (lv_at hl 3 rfl) ?_
              refine lv_iload hx hb dX6_meets_170 (lv_at hl 4 rfl) ?_
              refine lv_icmp_lt (tgt := 188) hx hb dX6_meets_172 (by decide) (fun h8 => ?_) (fun h8 => ?_)
              · have hres := ite_t hres h8
                refine lv_iload hx hb dX6_meets_188 (lv_at hl 5 rfl) ?_
                refine lv_iconst (v := 2) hx hb dX6_meets_190 (by decide) ?_
                refine lv_irem hx hb dX6_meets_191 (by decide) ?_
                refine lv_if_ne (tgt := 200) hx hb dX6_meets_192 (by decide) (fun h9 => ?_) (fun h9 => ?_)
                · have hres := ite_f hres h9
                  refine lv_iload hx hb dX6_meets_200 (lv_at hl 4 rfl) ?_
                  refine lv_iload hx hb dX6_meets_202 (lv_at hl 3 rfl) ?_
                  refine lv_isub hx hb dX6_meets_204 ?_
                  exact J205 v1_L168 v10_L168 (v12_L168 - v11_L168) _ hres (lv_sub hl [0, 1, 2] rfl)
                · have hres := ite_t hres h9
                  refine lv_iload hx hb dX6_meets_195 (lv_at hl 3 rfl) ?_
                  refine lv_goto (tgt := 205) hx hb dX6_meets_197 (by decide) ?_
                  exact J205 v1_L168 v10_L168 v11_L168 _ hres (lv_sub hl [0, 1, 2] rfl)
              · have hres := ite_f hres h8
                refine lv_iload hx hb dX6_meets_175 (lv_at hl 3 rfl) ?_
                refine lv_iload hx hb dX6_meets_177 (lv_at hl 4 rfl) ?_
                refine lv_isub hx hb dX6_meets_179 ?_
                refine lv_topi (fun y10 ey10 => ?_)
                have hres := bnd_z ey10 hres
                refine lv_istore (lv' := [(11, .int y10), (0, .ref A0), (1, .int v1_L168), (10, .int v10_L168), (12, .int v12_L168), (13, .int v13_L168)]) hx hb dX6_meets_180 hl (by decide) rfl (fun ls hl => ?_)
                refine lv_iinc (v := (v13_L168 + 1)) (lv' := [(13, .int (v13_L168 + 1)), (11, .int y10), (0, .ref A0), (1, .int v1_L168), (10, .int v10_L168), (12, .int v12_L168)]) hx hb dX6_meets_182 hl (k := 5) rfl rfl (by decide) rfl (fun ls hl => ?_)
                refine lv_goto (tgt := 168) hx hb dX6_meets_185 (by decide) ?_
                exact ih168 y10 (v13_L168 + 1) _ hres (lv_sub hl [2, 3, 4, 1, 5, 0] rfl)
          exact Q168 v1_L150 v10_L150 v12_L150 FU v11_L150 v13_L150 _ hres (lv_sub hl [0, 1, 2, 3, 4, 5] rfl)
        · have hres := ite_f hres h7
          refine lv_iload hx hb dX6_meets_155 (lv_at hl 3 rfl) ?_
          refine lv_iload hx hb dX6_meets_157 (lv_at hl 4 rfl) ?_
          refine lv_iadd hx hb dX6_meets_159 ?_
          refine lv_topi (fun y11 ey11 => ?_)
          have hres := bnd_z ey11 hres
          refine lv_istore (lv' := [(11, .int y11), (0, .ref A0), (1, .int v1_L150), (10, .int v10_L150), (12, .int v12_L150), (13, .int v13_L150)]) hx hb dX6_meets_160 hl (by decide) rfl (fun ls hl => ?_)
          refine lv_iinc (v := (v13_L150 + 1)) (lv' := [(13, .int (v13_L150 + 1)), (11, .int y11), (0, .ref A0), (1, .int v1_L150), (10, .int v10_L150), (12, .int v12_L150)]) hx hb dX6_meets_162 hl (k := 5) rfl rfl (by decide) rfl (fun ls hl => ?_)
          refine lv_goto (tgt := 150) hx hb dX6_meets_165 (by decide) ?_
          exact ih150 y11 (v13_L150 + 1) _ hres (lv_sub hl [2, 3, 4, 1, 5, 0] rfl)
    exact Q150 v1_j127 r5 y6 FU z0_j127 0 _ hres (lv_sub hl [4, 5, 2, 3, 1, 0] rfl)
  have J88 : ∀ (v1_j88 : Int32) (v5_j88 : Int32) (v6_j88 : Int32) (v7_j88 : Int32) (v8_j88 : Int32) (v9_j88 : Int32) (ls : Array Slot), fX6_meets_j88 c0 c0_s v1_j88 v5_j88 v6_j88 v7_j88 v8_j88 v9_j88 = some res → lv_has ls 14 [(0, .ref A0), (1, .int v1_j88), (5, .int v5_j88), (6, .int v6_j88), (7, .int v7_j88), (8, .int v8_j88), (9, .int v9_j88)] → WRO p l e wsX6_meets rX6_meets s m ([.ref A0, .int x1, .int x2, .int x3, .int x4, .int x5, .int x6] : List Value).toArray below meth c res (F0 m 88 ls []) := by
    intro v1_j88 v5_j88 v6_j88 v7_j88 v8_j88 v9_j88 ls hres hl
    refine lv_iload hx hb dX6_meets_88 (lv_at hl 2 rfl) ?_
    refine lv_iload hx hb dX6_meets_90 (lv_at hl 4 rfl) ?_
    refine lv_isub hx hb dX6_meets_92 ?_
    refine lv_topi (fun y12 ey12 => ?_)
    have hres := bnd_z ey12 hres
    refine lv_istore (lv' := [(10, .int y12), (0, .ref A0), (1, .int v1_j88), (5, .int v5_j88), (6, .int v6_j88), (7, .int v7_j88), (8, .int v8_j88), (9, .int v9_j88)]) hx hb dX6_meets_93 hl (by decide) rfl (fun ls hl => ?_)
    refine lv_iload hx hb dX6_meets_95 (lv_at hl 6 rfl) ?_
    refine lv_iload hx hb dX6_meets_97 (lv_at hl 0 rfl) ?_
    refine lv_imul hx hb dX6_meets_99 ?_
    refine lv_iload hx hb dX6_meets_100 (lv_at hl 4 rfl) ?_
    refine lv_iload hx hb dX6_meets_102 (lv_at hl 6 rfl) ?_
    refine lv_isub hx hb dX6_meets_104 ?_
    refine lv_iload hx hb dX6_meets_105 (lv_at hl 7 rfl) ?_
    refine lv_iload hx hb dX6_meets_107 (lv_at hl 5 rfl) ?_
    refine lv_isub hx hb dX6_meets_109 ?_
    refine lv_imul hx hb dX6_meets_110 ?_
    refine lv_iadd hx hb dX6_meets_111 ?_
    refine lv_topi (fun y13 ey13 => ?_)
    have hres := bnd_z ey13 hres
    refine lv_istore (lv' := [(11, .int y13), (10, .int y12), (0, .ref A0), (1, .int v1_j88), (5, .int v5_j88), (6, .int v6_j88), (7, .int v7_j88), (8, .int v8_j88), (9, .int v9_j88)]) hx hb dX6_meets_112 hl (by decide) rfl (fun ls hl => ?_)
    refine lv_iload hx hb dX6_meets_114 (lv_at hl 1 rfl) ?_
    refine lv_if_ge (tgt := 125) hx hb dX6_meets_116 (by decide) (fun h14 => ?_) (fun h14 => ?_)
    · have hres := ite_t hres h14
      refine lv_iload hx hb dX6_meets_125 (lv_at hl 0 rfl) ?_
      exact J127 v1_j88 y12 y13 _ hres (lv_sub hl [2, 3, 1] rfl)
    · have hres := ite_f hres h14
      refine lv_iload hx hb dX6_meets_119 (lv_at hl 0 rfl) ?_
      refine lv_ineg hx hb dX6_meets_121 ?_
      refine lv_goto (tgt := 127) hx hb dX6_meets_122 (by decide) ?_
      exact J127 v1_j88 y12 (-y13) _ hres (lv_sub hl [2, 3, 1] rfl)
  refine lv_iload_n hx hb dX6_meets_0 rfl (lv_at hl 3 rfl) ?_
  refine lv_aload_n hx hb dX6_meets_1 rfl (lv_at hl 0 rfl) ?_
  refine va_get (D := G) (ci := 6) (v := .ref A0_s) (C := RX6) (T := TX6) (N := 22) hx hb hts (fun w h => (List.mem_cons_of_mem _ (List.mem_append_right _ h))) hown hK.1 hP 0 rfl rfl 0 (by decide) (hts (.fieldLink RX6 7 "EchoSeatsModel" "s" "[I") (List.mem_of_getElem? (i := 1) rfl)) (fun _ h9 => h9) rfl dX6_meets_2 ?_
  refine lv_iconst (v := 0) hx hb dX6_meets_5 (by decide) ?_
  refine x_iald hx hb hK hP 1 rfl (j := 0) (by decide) (by decide) dX6_meets_6 ?_
  refine lv_aload_n hx hb dX6_meets_7 rfl (lv_at hl 0 rfl) ?_
  refine va_get (D := G) (ci := 6) (v := .ref A0_s) (C := RX6) (T := TX6) (N := 22) hx hb hts (fun w h => (List.mem_cons_of_mem _ (List.mem_append_right _ h))) hown hK.1 hP 0 rfl rfl 0 (by decide) (hts (.fieldLink RX6 7 "EchoSeatsModel" "s" "[I") (List.mem_of_getElem? (i := 1) rfl)) (fun _ h9 => h9) rfl dX6_meets_8 ?_
  refine lv_iconst (v := 2) hx hb dX6_meets_11 (by decide) ?_
  refine x_iald hx hb hK hP 1 rfl (j := 2) (by decide) (by decide) dX6_meets_12 ?_
  obtain ⟨r15, hr15, hres⟩ := bi_1 hres
  refine x_cp (va_runS (As := [.int x3, .int (c0_s 0), .int (c0_s 2)]) (rest := []) ⟨hx, hb, hml, hown, hts⟩ (kX6_mirrored l G cI cZ tl x3 (c0_s 0) (c0_s 2) r15 hr15) (va_cwS 3 hts gX6_meets_X6_mirrored rfl rfl rfl hsX6_mirrored ⟨Nat.le_of_ble_eq_true rfl, Nat.le_of_ble_eq_true rfl⟩) ⟨PRO_blind, PRO_at va_P0 hK⟩ rfl rfl hl.1 rfl (lv_room (Nat.le_of_ble_eq_true rfl)) dX6_meets_13 ⟨Nat.zero_le _, Nat.zero_le _⟩) ?_
  refine lv_istore (lv' := [(7, .int r15), (0, .ref A0), (1, .int x1), (2, .int x2), (3, .int x3), (4, .int x4), (5, .int x5), (6, .int x6)]) hx hb dX6_meets_16 hl (by decide) rfl (fun ls hl => ?_)
  refine lv_iload hx hb dX6_meets_18 (lv_at hl 5 rfl) ?_
  refine lv_aload_n hx hb dX6_meets_20 rfl (lv_at hl 1 rfl) ?_
  refine va_get (D := G) (ci := 6) (v := .ref A0_s) (C := RX6) (T := TX6) (N := 22) hx hb hts (fun w h => (List.mem_cons_of_mem _ (List.mem_append_right _ h))) hown hK.1 hP 0 rfl rfl 0 (by decide) (hts (.fieldLink RX6 7 "EchoSeatsModel" "s" "[I") (List.mem_of_getElem? (i := 1) rfl)) (fun _ h9 => h9) rfl dX6_meets_21 ?_
  refine lv_iconst (v := 1) hx hb dX6_meets_24 (by decide) ?_
  refine x_iald hx hb hK hP 1 rfl (j := 1) (by decide) (by decide) dX6_meets_25 ?_
  refine lv_aload_n hx hb dX6_meets_26 rfl (lv_at hl 1 rfl) ?_
  refine va_get (D := G) (ci := 6) (v := .ref A0_s) (C := RX6) (T := TX6) (N := 22) hx hb hts (fun w h => (List.mem_cons_of_mem _ (List.mem_append_right _ h))) hown hK.1 hP 0 rfl rfl 0 (by decide) (hts (.fieldLink RX6 7 "EchoSeatsModel" "s" "[I") (List.mem_of_getElem? (i := 1) rfl)) (fun _ h9 => h9) rfl dX6_meets_27 ?_
  refine lv_iconst (v := 3) hx hb dX6_meets_30 (by decide) ?_
  refine x_iald hx hb hK hP 1 rfl (j := 3) (by decide) (by decide) dX6_meets_31 ?_
  obtain ⟨r16, hr16, hres⟩ := bi_1 hres
  refine x_cp (va_runS (As := [.int x4, .int (c0_s 1), .int (c0_s 3)]) (rest := []) ⟨hx, hb, hml, hown, hts⟩ (kX6_mirrored l G cI cZ tl x4 (c0_s 1) (c0_s 3) r16 hr16) (va_cwS 3 hts gX6_meets_X6_mirrored rfl rfl rfl hsX6_mirrored ⟨Nat.le_of_ble_eq_true rfl, Nat.le_of_ble_eq_true rfl⟩) ⟨PRO_blind, PRO_at va_P0 hK⟩ rfl rfl hl.1 rfl (lv_room (Nat.le_of_ble_eq_true rfl)) dX6_meets_32 ⟨Nat.zero_le _, Nat.zero_le _⟩) ?_
  refine lv_istore (lv' := [(8, .int r16), (7, .int r15), (0, .ref A0), (1, .int x1), (2, .int x2), (3, .int x3), (4, .int x4), (5, .int x5), (6, .int x6)]) hx hb dX6_meets_35 hl (by decide) rfl (fun ls hl => ?_)
  refine lv_iload_n hx hb dX6_meets_37 rfl (lv_at hl 4 rfl) ?_
  refine lv_aload_n hx hb dX6_meets_38 rfl (lv_at hl 2 rfl) ?_
  refine va_get (D := G) (ci := 6) (v := .ref A0_s) (C := RX6) (T := TX6) (N := 22) hx hb hts (fun w h => (List.mem_cons_of_mem _ (List.mem_append_right _ h))) hown hK.1 hP 0 rfl rfl 0 (by decide) (hts (.fieldLink RX6 7 "EchoSeatsModel" "s" "[I") (List.mem_of_getElem? (i := 1) rfl)) (fun _ h9 => h9) rfl dX6_meets_39 ?_
  refine lv_iconst (v := 0) hx hb dX6_meets_42 (by decide) ?_
  refine x_iald hx hb hK hP 1 rfl (j := 0) (by decide) (by decide) dX6_meets_43 ?_
  refine lv_aload_n hx hb dX6_meets_44 rfl (lv_at hl 2 rfl) ?_
  refine va_get (D := G) (ci := 6) (v := .ref A0_s) (C := RX6) (T := TX6) (N := 22) hx hb hts (fun w h => (List.mem_cons_of_mem _ (List.mem_append_right _ h))) hown hK.1 hP 0 rfl rfl 0 (by decide) (hts (.fieldLink RX6 7 "EchoSeatsModel" "s" "[I") (List.mem_of_getElem? (i := 1) rfl)) (fun _ h9 => h9) rfl dX6_meets_45 ?_
  refine lv_bipush (v := 18) hx hb dX6_meets_48 (by decide) ?_
  refine lv_iload_n hx hb dX6_meets_50 rfl (lv_at hl 3 rfl) ?_
  refine lv_iadd hx hb dX6_meets_51 ?_
  have g17 := gd_1 hres
  have hres := gd_2 hres
  refine x_iald hx hb hK hP 1 rfl (j := (Int32.toNatClampNeg (18 + x1))) rfl g17 dX6_meets_52 ?_
  obtain ⟨r18, hr18, hres⟩ := bi_1 hres
  refine x_cp (va_runS (As := [.int x2, .int (c0_s 0), .int (c0_s (Int32.toNatClampNeg (18 + x1)))]) (rest := []) ⟨hx, hb, hml, hown, hts⟩ (kX6_mirrored l G cI cZ tl x2 (c0_s 0) (c0_s (Int32.toNatClampNeg (18 + x1))) r18 hr18) (va_cwS 3 hts gX6_meets_X6_mirrored rfl rfl rfl hsX6_mirrored ⟨Nat.le_of_ble_eq_true rfl, Nat.le_of_ble_eq_true rfl⟩) ⟨PRO_blind, PRO_at va_P0 hK⟩ rfl rfl hl.1 rfl (lv_room (Nat.le_of_ble_eq_true rfl)) dX6_meets_53 ⟨Nat.zero_le _, Nat.zero_le _⟩) ?_
  refine lv_istore (lv' := [(9, .int r18), (8, .int r16), (7, .int r15), (0, .ref A0), (1, .int x1), (2, .int x2), (3, .int x3), (4, .int x4), (5, .int x5), (6, .int x6)]) hx hb dX6_meets_56 hl (by decide) rfl (fun ls hl => ?_)
  refine lv_iload hx hb dX6_meets_58 (lv_at hl 2 rfl) ?_
  refine lv_iload hx hb dX6_meets_60 (lv_at hl 0 rfl) ?_
  refine lv_icmp_ge (tgt := 72) hx hb dX6_meets_62 (by decide) (fun h19 => ?_) (fun h19 => ?_)
  · have hres := ite_t hres h19
    refine lv_iload hx hb dX6_meets_72 (lv_at hl 8 rfl) ?_
    refine lv_iload hx hb dX6_meets_74 (lv_at hl 0 rfl) ?_
    refine lv_icmp_ge (tgt := 86) hx hb dX6_meets_76 (by decide) (fun h20 => ?_) (fun h20 => ?_)
    · have hres := ite_t hres h20
      refine lv_iconst (v := 0) hx hb dX6_meets_86 (by decide) ?_
      obtain rfl := Option.some.inj hres
      exact W.zret hx hb hr (by decide) (fun t ht hW => ⟨rfl, ht⟩) (fun q h => absurd h List.not_mem_nil) dX6_meets_87
    · have hres := ite_f hres h20
      refine lv_iload hx hb dX6_meets_79 (lv_at hl 0 rfl) ?_
      refine lv_iload hx hb dX6_meets_81 (lv_at hl 2 rfl) ?_
      refine lv_icmp_lt (tgt := 88) hx hb dX6_meets_83 (by decide) (fun h21 => ?_) (fun h21 => ?_)
      · have hres := ite_t hres h21
        exact J88 x1 x5 x6 r15 r16 r18 _ hres (lv_sub hl [3, 4, 8, 9, 2, 1, 0] rfl)
      · have hres := ite_f hres h21
        refine lv_iconst (v := 0) hx hb dX6_meets_86 (by decide) ?_
        obtain rfl := Option.some.inj hres
        exact W.zret hx hb hr (by decide) (fun t ht hW => ⟨rfl, ht⟩) (fun q h => absurd h List.not_mem_nil) dX6_meets_87
  · have hres := ite_f hres h19
    refine lv_iload hx hb dX6_meets_65 (lv_at hl 0 rfl) ?_
    refine lv_iload hx hb dX6_meets_67 (lv_at hl 8 rfl) ?_
    refine lv_icmp_lt (tgt := 88) hx hb dX6_meets_69 (by decide) (fun h22 => ?_) (fun h22 => ?_)
    · have hres := ite_t hres h22
      exact J88 x1 x5 x6 r15 r16 r18 _ hres (lv_sub hl [3, 4, 8, 9, 2, 1, 0] rfl)
    · have hres := ite_f hres h22
      refine lv_iload hx hb dX6_meets_72 (lv_at hl 8 rfl) ?_
      refine lv_iload hx hb dX6_meets_74 (lv_at hl 0 rfl) ?_
      refine lv_icmp_ge (tgt := 86) hx hb dX6_meets_76 (by decide) (fun h23 => ?_) (fun h23 => ?_)
      · have hres := ite_t hres h23
        refine lv_iconst (v := 0) hx hb dX6_meets_86 (by decide) ?_
        obtain rfl := Option.some.inj hres
        exact W.zret hx hb hr (by decide) (fun t ht hW => ⟨rfl, ht⟩) (fun q h => absurd h List.not_mem_nil) dX6_meets_87
      · have hres := ite_f hres h23
        refine lv_iload hx hb dX6_meets_79 (lv_at hl 0 rfl) ?_
        refine lv_iload hx hb dX6_meets_81 (lv_at hl 2 rfl) ?_
        refine lv_icmp_lt (tgt := 88) hx hb dX6_meets_83 (by decide) (fun h24 => ?_) (fun h24 => ?_)
        · have hres := ite_t hres h24
          exact J88 x1 x5 x6 r15 r16 r18 _ hres (lv_sub hl [3, 4, 8, 9, 2, 1, 0] rfl)
        · have hres := ite_f hres h24
          refine lv_iconst (v := 0) hx hb dX6_meets_86 (by decide) ?_
          obtain rfl := Option.some.inj hres
          exact W.zret hx hb hr (by decide) (fun t ht hW => ⟨rfl, ht⟩) (fun q h => absurd h List.not_mem_nil) dX6_meets_87
theorem hsX6_meets : yX6_meets.cls = RX6 ∧ yX6_meets.cls ≠ "java/lang/invoke/MethodHandle" ∧ yX6_meets.cls ≠ "java/lang/invoke/VarHandle" ∧ (parseMethodDescriptor yX6_meets.desc).map (fun d => d.parameters.length) = some 6 := by decide +kernel
set_option maxHeartbeats 4000000 in
set_option maxRecDepth 100000 in
theorem kX6_isHidden (l : Launch) (G : va_G) (cI cZ : ClassId) (tl : List (ClassId × FieldType)) (A0 A0_s A0_draft A0_kept A0_isKept A0_undone A0_seenI A0_seenJ A0_seenTime A0_text A0_kind A0_place A0_value A0_swallows A0_time A0_strength A0_which A0_told : Nat) (c0 c0_s : Nat → Int32) (x1 x2 x3 x4 : Int32) (res : Int32) (hres : fX6_isHidden c0 c0_s x1 x2 x3 x4 = some res) : Met l yX6_isHidden wsX6_isHidden rX6_isHidden (va_Pc [.ref A0, .int x1, .int x2, .int x3, .int x4] (PRO G cI cZ tl [o6 A0 c0 A0_s A0_draft A0_kept A0_isKept A0_undone A0_seenI A0_seenJ A0_seenTime A0_text A0_kind A0_place A0_value A0_swallows A0_time A0_strength A0_which A0_told, (A0_s, .inl (cI, 27, .inl c0_s))])) (Sp res) 0 0 (fun _ => False) := by
  refine Met.ofW (cc := cX6_isHidden) (maxL := 8) (ret := (some .boolean)) (by decide) rfl ?_
  intro p e s m args below meth c s₁ B hml hv
  obtain ⟨rfl, hP, hK⟩ := hv
  have hx := B.exec
  have hb := B.bytes
  have hr := B.returns
  have hts := atoms_spec (ws := wsX6_isHidden) B.pre
  have hown : s.vm.findClass RX6 = some m.cls := findClass_of_methodNamed B.named
  have hlocks := B.notSynchronized
  have hl := lv_entry ([.ref A0, .int x1, .int x2, .int x3, .int x4] : List Value) (n := 8) (Nat.le_of_ble_eq_true rfl)
  rw [lg_entry_eq]
  generalize (lg_sl ([.ref A0, .int x1, .int x2, .int x3, .int x4] : List Value) ++ List.replicate (8 - (lg_sl ([.ref A0, .int x1, .int x2, .int x3, .int x4] : List Value)).length) Slot.unset).toArray = ls at hl ⊢
  have hl : lv_has ls 8 [(0, .ref A0), (1, .int x1), (2, .int x2), (3, .int x3), (4, .int x4)] := hl
  refine lv_iconst (v := 0) hx hb dX6_isHidden_0 (by decide) ?_
  refine lv_istore (lv' := [(5, .int 0), (0, .ref A0), (1, .int x1), (2, .int x2), (3, .int x3), (4, .int x4)]) hx hb dX6_isHidden_1 hl (by decide) rfl (fun ls hl => ?_)
  refine lv_iconst (v := 0) hx hb dX6_isHidden_3 (by decide) ?_
  refine lv_istore (lv' := [(6, .int 0), (5, .int 0), (0, .ref A0), (1, .int x1), (2, .int x2), (3, .int x3), (4, .int x4)]) hx hb dX6_isHidden_4 hl (by decide) rfl (fun ls hl => ?_)
  have Q6 : ∀ (v1_L6 : Int32) (v2_L6 : Int32) (v3_L6 : Int32) (v4_L6 : Int32) (n6 : Nat) (v5_L6 : Int32) (v6_L6 : Int32) (ls : Array Slot), LPX (fX6_isHidden_L6 c0 c0_s v1_L6 v2_L6 v3_L6 v4_L6) n6 (v5_L6, v6_L6) = some res → lv_has ls 8 [(0, .ref A0), (1, .int v1_L6), (2, .int v2_L6), (3, .int v3_L6), (4, .int v4_L6), (5, .int v5_L6), (6, .int v6_L6)] → WRO p l e wsX6_isHidden rX6_isHidden s m ([.ref A0, .int x1, .int x2, .int x3, .int x4] : List Value).toArray below meth c res (F0 m 6 ls []) := by
    intro v1_L6 v2_L6 v3_L6 v4_L6 n6
    induction n6 with
    | zero =>
      intro v5_L6 v6_L6 ls hres
      exact absurd (LPX_0.symm.trans hres) (fun h => by cases h)
    | succ n6 ih6 =>
      intro v5_L6 v6_L6 ls hres hl
      have hres := LPX_s.symm.trans hres
      refine lv_iload hx hb dX6_isHidden_6 (lv_at hl 6 rfl) ?_
      refine lv_aload_n hx hb dX6_isHidden_8 rfl (lv_at hl 0 rfl) ?_
      refine va_get (D := G) (ci := 6) (v := .ref A0_s) (C := RX6) (T := TX6) (N := 22) hx hb hts (fun w h => (List.mem_cons_of_mem _ (List.mem_append_right _ h))) hown hK.1 hP 0 rfl rfl 0 (by decide) (hts (.fieldLink RX6 7 "EchoSeatsModel" "s" "[I") (List.mem_of_getElem? (i := 1) rfl)) (fun _ h9 => h9) rfl dX6_isHidden_9 ?_
      refine lv_bipush (v := 17) hx hb dX6_isHidden_12 (by decide) ?_
      refine x_iald hx hb hK hP 1 rfl (j := 17) (by decide) (by decide) dX6_isHidden_14 ?_
      refine lv_icmp_ge (tgt := 68) hx hb dX6_isHidden_15 (by decide) (fun h1 => ?_) (fun h1 => ?_)
      · have hres := ite_t hres h1
        refine lv_iload hx hb dX6_isHidden_68 (lv_at hl 5 rfl) ?_
        have g2 := gd_1 hres
        have hres := gd_2 hres
        obtain rfl := Option.some.inj hres
        exact W.zret hx hb hr (by rcases g2 with h | h <;> rw [h] <;> rfl) (fun t ht hW => ⟨rfl, ht⟩) (fun q h => absurd h List.not_mem_nil) dX6_isHidden_70
      · have hres := ite_f hres h1
        refine lv_bipush (v := (-5)) hx hb dX6_isHidden_18 (by decide) ?_
        refine lv_istore (lv' := [(7, .int (-5)), (0, .ref A0), (1, .int v1_L6), (2, .int v2_L6), (3, .int v3_L6), (4, .int v4_L6), (5, .int v5_L6), (6, .int v6_L6)]) hx hb dX6_isHidden_20 hl (by decide) rfl (fun ls hl => ?_)
        have Q22 : ∀ (v6_L22 : Int32) (n22 : Nat) (v5_L22 : Int32) (v7_L22 : Int32) (ls : Array Slot), LPX (fX6_isHidden_L22 c0 c0_s v1_L6 v2_L6 v3_L6 v4_L6 v6_L22 (LPX (fX6_isHidden_L6 c0 c0_s v1_L6 v2_L6 v3_L6 v4_L6) n6)) n22 (v5_L22, v7_L22) = some res → lv_has ls 8 [(0, .ref A0), (1, .int v1_L6), (2, .int v2_L6), (3, .int v3_L6), (4, .int v4_L6), (5, .int v5_L22), (6, .int v6_L22), (7, .int v7_L22)] → WRO p l e wsX6_isHidden rX6_isHidden s m ([.ref A0, .int x1, .int x2, .int x3, .int x4] : List Value).toArray below meth c res (F0 m 22 ls []) := by
          intro v6_L22 n22
          induction n22 with
          | zero =>
            intro v5_L22 v7_L22 ls hres
            exact absurd (LPX_0.symm.trans hres) (fun h => by cases h)
          | succ n22 ih22 =>
            intro v5_L22 v7_L22 ls hres hl
            have hres := LPX_s.symm.trans hres
            refine lv_iload hx hb dX6_isHidden_22 (lv_at hl 7 rfl) ?_
            refine lv_iconst (v := 5) hx hb dX6_isHidden_24 (by decide) ?_
            refine lv_icmp_gt (tgt := 62) hx hb dX6_isHidden_25 (by decide) (fun h3 => ?_) (fun h3 => ?_)
            · have hres := ite_t hres h3
              refine lv_iinc (v := (v6_L22 + 1)) (lv' := [(6, .int (v6_L22 + 1)), (0, .ref A0), (1, .int v1_L6), (2, .int v2_L6), (3, .int v3_L6), (4, .int v4_L6), (5, .int v5_L22), (7, .int v7_L22)]) hx hb dX6_isHidden_62 hl (k := 6) rfl rfl (by decide) rfl (fun ls hl => ?_)
              refine lv_goto (tgt := 6) hx hb dX6_isHidden_65 (by decide) ?_
              exact ih6 v5_L22 (v6_L22 + 1) _ hres (lv_sub hl [1, 2, 3, 4, 5, 6, 0] rfl)
            · have hres := ite_f hres h3
              refine lv_iload hx hb dX6_isHidden_28 (lv_at hl 5 rfl) ?_
              refine lv_if_ne (tgt := 49) hx hb dX6_isHidden_30 (by decide) (fun h4 => ?_) (fun h4 => ?_)
              · have hres := ite_f hres h4
                refine lv_iconst (v := 1) hx hb dX6_isHidden_49 (by decide) ?_
                refine lv_goto (tgt := 54) hx hb dX6_isHidden_50 (by decide) ?_
                refine lv_istore (lv' := [(5, .int 1), (0, .ref A0), (1, .int v1_L6), (2, .int v2_L6), (3, .int v3_L6), (4, .int v4_L6), (6, .int v6_L22), (7, .int v7_L22)]) hx hb dX6_isHidden_54 hl (by decide) rfl (fun ls hl => ?_)
                refine lv_iinc (v := (v7_L22 + 1)) (lv' := [(7, .int (v7_L22 + 1)), (5, .int 1), (0, .ref A0), (1, .int v1_L6), (2, .int v2_L6), (3, .int v3_L6), (4, .int v4_L6), (6, .int v6_L22)]) hx hb dX6_isHidden_56 hl (k := 7) rfl rfl (by decide) rfl (fun ls hl => ?_)
                refine lv_goto (tgt := 22) hx hb dX6_isHidden_59 (by decide) ?_
                exact ih22 1 (v7_L22 + 1) _ hres (lv_sub hl [2, 3, 4, 5, 6, 1, 7, 0] rfl)
              · have hres := ite_t hres h4
                refine lv_aload_n hx hb dX6_isHidden_33 rfl (lv_at hl 0 rfl) ?_
                refine lv_iload hx hb dX6_isHidden_34 (lv_at hl 6 rfl) ?_
                refine lv_iload hx hb dX6_isHidden_36 (lv_at hl 7 rfl) ?_
                refine lv_iload_n hx hb dX6_isHidden_38 rfl (lv_at hl 1 rfl) ?_
                refine lv_iload_n hx hb dX6_isHidden_39 rfl (lv_at hl 2 rfl) ?_
                refine lv_iload_n hx hb dX6_isHidden_40 rfl (lv_at hl 3 rfl) ?_
                refine lv_iload hx hb dX6_isHidden_41 (lv_at hl 4 rfl) ?_
                obtain ⟨r5, hr5, hres⟩ := bi_1 hres
                refine x_cp (va_runV (As := [.int v6_L22, .int v7_L22, .int v1_L6, .int v2_L6, .int v3_L6, .int v4_L6]) (rest := []) ⟨hx, hb, hml, hown, hts⟩ (kX6_meets l G cI cZ tl A0 A0_s A0_draft A0_kept A0_isKept A0_undone A0_seenI A0_seenJ A0_seenTime A0_text A0_kind A0_place A0_value A0_swallows A0_time A0_strength A0_which A0_told c0 c0_s v6_L22 v7_L22 v1_L6 v2_L6 v3_L6 v4_L6 r5 hr5) (cwV 6 hts gX6_isHidden_X6_meets rfl rfl rfl hsX6_meets ⟨Nat.le_of_ble_eq_true rfl, Nat.le_of_ble_eq_true rfl⟩) ⟨PRO_blind, va_recv hK.1 hP (ci := 6) (q0 := 0) rfl rfl, PRO_at (hP.sub (ws' := [o6 A0 c0 A0_s A0_draft A0_kept A0_isKept A0_undone A0_seenI A0_seenJ A0_seenTime A0_text A0_kind A0_place A0_value A0_swallows A0_time A0_strength A0_which A0_told, (A0_s, .inl (cI, 27, .inl c0_s))]) [0, 1] rfl) hK⟩ rfl rfl hl.1 rfl (lv_room (Nat.le_of_ble_eq_true rfl)) dX6_isHidden_43 ⟨Nat.zero_le _, Nat.zero_le _⟩) ?_
                refine lv_if_eq (tgt := 53) hx hb dX6_isHidden_46 (by decide) (fun h6 => ?_) (fun h6 => ?_)
                · have hres := ite_t hres h6
                  refine lv_iconst (v := 0) hx hb dX6_isHidden_53 (by decide) ?_
                  refine lv_istore (lv' := [(5, .int 0), (0, .ref A0), (1, .int v1_L6), (2, .int v2_L6), (3, .int v3_L6), (4, .int v4_L6), (6, .int v6_L22), (7, .int v7_L22)]) hx hb dX6_isHidden_54 hl (by decide) rfl (fun ls hl => ?_)
                  refine lv_iinc (v := (v7_L22 + 1)) (lv' := [(7, .int (v7_L22 + 1)), (5, .int 0), (0, .ref A0), (1, .int v1_L6), (2, .int v2_L6), (3, .int v3_L6), (4, .int v4_L6), (6, .int v6_L22)]) hx hb dX6_isHidden_56 hl (k := 7) rfl rfl (by decide) rfl (fun ls hl => ?_)
                  refine lv_goto (tgt := 22) hx hb dX6_isHidden_59 (by decide) ?_
                  exact ih22 0 (v7_L22 + 1) _ hres (lv_sub hl [2, 3, 4, 5, 6, 1, 7, 0] rfl)
                · have hres := ite_f hres h6
                  refine lv_iconst (v := 1) hx hb dX6_isHidden_49 (by decide) ?_
                  refine lv_goto (tgt := 54) hx hb dX6_isHidden_50 (by decide) ?_
                  refine lv_istore (lv' := [(5, .int 1), (0, .ref A0), (1, .int v1_L6), (2, .int v2_L6), (3, .int v3_L6), (4, .int v4_L6), (6, .int v6_L22), (7, .int v7_L22)]) hx hb dX6_isHidden_54 hl (by decide) rfl (fun ls hl => ?_)
                  refine lv_iinc (v := (v7_L22 + 1)) (lv' := [(7, .int (v7_L22 + 1)), (5, .int 1), (0, .ref A0), (1, .int v1_L6), (2, .int v2_L6), (3, .int v3_L6), (4, .int v4_L6), (6, .int v6_L22)]) hx hb dX6_isHidden_56 hl (k := 7) rfl rfl (by decide) rfl (fun ls hl => ?_)
                  refine lv_goto (tgt := 22) hx hb dX6_isHidden_59 (by decide) ?_
                  exact ih22 1 (v7_L22 + 1) _ hres (lv_sub hl [2, 3, 4, 5, 6, 1, 7, 0] rfl)
        exact Q22 v6_L6 FU v5_L6 (-5) _ hres (lv_sub hl [1, 2, 3, 4, 5, 6, 7, 0] rfl)
  exact Q6 x1 x2 x3 x4 FU 0 0 _ hres (lv_sub hl [2, 3, 4, 5, 6, 1, 0] rfl)
theorem hsX6_isHidden : yX6_isHidden.cls = RX6 ∧ yX6_isHidden.cls ≠ "java/lang/invoke/MethodHandle" ∧ yX6_isHidden.cls ≠ "java/lang/invoke/VarHandle" ∧ (parseMethodDescriptor yX6_isHidden.desc).map (fun d => d.parameters.length) = some 4 := by decide +kernel
set_option maxHeartbeats 4000000 in
set_option maxRecDepth 100000 in
theorem kX6_wayOf (l : Launch) (G : va_G) (cI cZ : ClassId) (tl : List (ClassId × FieldType)) (A0 A0_s A0_draft A0_kept A0_isKept A0_undone A0_seenI A0_seenJ A0_seenTime A0_text A0_kind A0_place A0_value A0_swallows A0_time A0_strength A0_which A0_told : Nat) (c0 c0_s : Nat → Int32) (x1 x2 x3 x4 : Int32) (res : Int32) (hres : fX6_wayOf c0 c0_s x1 x2 x3 x4 = some res) : Met l yX6_wayOf wsX6_wayOf rX6_wayOf (va_Pc [.ref A0, .int x1, .int x2, .int x3, .int x4] (PRO G cI cZ tl [o6 A0 c0 A0_s A0_draft A0_kept A0_isKept A0_undone A0_seenI A0_seenJ A0_seenTime A0_text A0_kind A0_place A0_value A0_swallows A0_time A0_strength A0_which A0_told, (A0_s, .inl (cI, 27, .inl c0_s))])) (Sp res) 0 0 (fun _ => False) := by
  refine Met.ofW (cc := cX6_wayOf) (maxL := 7) (ret := (some .int)) (by decide) rfl ?_
  intro p e s m args below meth c s₁ B hml hv
  obtain ⟨rfl, hP, hK⟩ := hv
  have hx := B.exec
  have hb := B.bytes
  have hr := B.returns
  have hts := atoms_spec (ws := wsX6_wayOf) B.pre
  have hown : s.vm.findClass RX6 = some m.cls := findClass_of_methodNamed B.named
  have hlocks := B.notSynchronized
  have hl := lv_entry ([.ref A0, .int x1, .int x2, .int x3, .int x4] : List Value) (n := 7) (Nat.le_of_ble_eq_true rfl)
  rw [lg_entry_eq]
  generalize (lg_sl ([.ref A0, .int x1, .int x2, .int x3, .int x4] : List Value) ++ List.replicate (7 - (lg_sl ([.ref A0, .int x1, .int x2, .int x3, .int x4] : List Value)).length) Slot.unset).toArray = ls at hl ⊢
  have hl : lv_has ls 7 [(0, .ref A0), (1, .int x1), (2, .int x2), (3, .int x3), (4, .int x4)] := hl
  refine lv_iload_n hx hb dX6_wayOf_0 rfl (lv_at hl 1 rfl) ?_
  refine lv_aload_n hx hb dX6_wayOf_1 rfl (lv_at hl 0 rfl) ?_
  refine va_get (D := G) (ci := 6) (v := .ref A0_s) (C := RX6) (T := TX6) (N := 22) hx hb hts (fun w h => (List.mem_cons_of_mem _ (List.mem_append_right _ h))) hown hK.1 hP 0 rfl rfl 0 (by decide) (hts (.fieldLink RX6 7 "EchoSeatsModel" "s" "[I") (List.mem_of_getElem? (i := 1) rfl)) (fun _ h9 => h9) rfl dX6_wayOf_2 ?_
  refine lv_iconst (v := 0) hx hb dX6_wayOf_5 (by decide) ?_
  refine x_iald hx hb hK hP 1 rfl (j := 0) (by decide) (by decide) dX6_wayOf_6 ?_
  refine lv_aload_n hx hb dX6_wayOf_7 rfl (lv_at hl 0 rfl) ?_
  refine va_get (D := G) (ci := 6) (v := .ref A0_s) (C := RX6) (T := TX6) (N := 22) hx hb hts (fun w h => (List.mem_cons_of_mem _ (List.mem_append_right _ h))) hown hK.1 hP 0 rfl rfl 0 (by decide) (hts (.fieldLink RX6 7 "EchoSeatsModel" "s" "[I") (List.mem_of_getElem? (i := 1) rfl)) (fun _ h9 => h9) rfl dX6_wayOf_8 ?_
  refine lv_iconst (v := 2) hx hb dX6_wayOf_11 (by decide) ?_
  refine x_iald hx hb hK hP 1 rfl (j := 2) (by decide) (by decide) dX6_wayOf_12 ?_
  obtain ⟨r1, hr1, hres⟩ := bi_1 hres
  refine x_cp (va_runS (As := [.int x1, .int (c0_s 0), .int (c0_s 2)]) (rest := []) ⟨hx, hb, hml, hown, hts⟩ (kX6_mirrored l G cI cZ tl x1 (c0_s 0) (c0_s 2) r1 hr1) (va_cwS 3 hts gX6_wayOf_X6_mirrored rfl rfl rfl hsX6_mirrored ⟨Nat.le_of_ble_eq_true rfl, Nat.le_of_ble_eq_true rfl⟩) ⟨PRO_blind, PRO_at va_P0 hK⟩ rfl rfl hl.1 rfl (lv_room (Nat.le_of_ble_eq_true rfl)) dX6_wayOf_13 ⟨Nat.zero_le _, Nat.zero_le _⟩) ?_
  refine lv_iload_n hx hb dX6_wayOf_16 rfl (lv_at hl 3 rfl) ?_
  refine lv_isub hx hb dX6_wayOf_17 ?_
  refine lv_topi (fun y2 ey2 => ?_)
  have hres := bnd_z ey2 hres
  refine lv_istore (lv' := [(5, .int y2), (0, .ref A0), (1, .int x1), (2, .int x2), (3, .int x3), (4, .int x4)]) hx hb dX6_wayOf_18 hl (by decide) rfl (fun ls hl => ?_)
  refine lv_iload_n hx hb dX6_wayOf_20 rfl (lv_at hl 3 rfl) ?_
  refine lv_aload_n hx hb dX6_wayOf_21 rfl (lv_at hl 1 rfl) ?_
  refine va_get (D := G) (ci := 6) (v := .ref A0_s) (C := RX6) (T := TX6) (N := 22) hx hb hts (fun w h => (List.mem_cons_of_mem _ (List.mem_append_right _ h))) hown hK.1 hP 0 rfl rfl 0 (by decide) (hts (.fieldLink RX6 7 "EchoSeatsModel" "s" "[I") (List.mem_of_getElem? (i := 1) rfl)) (fun _ h9 => h9) rfl dX6_wayOf_22 ?_
  refine lv_iconst (v := 1) hx hb dX6_wayOf_25 (by decide) ?_
  refine x_iald hx hb hK hP 1 rfl (j := 1) (by decide) (by decide) dX6_wayOf_26 ?_
  refine lv_aload_n hx hb dX6_wayOf_27 rfl (lv_at hl 1 rfl) ?_
  refine va_get (D := G) (ci := 6) (v := .ref A0_s) (C := RX6) (T := TX6) (N := 22) hx hb hts (fun w h => (List.mem_cons_of_mem _ (List.mem_append_right _ h))) hown hK.1 hP 0 rfl rfl 0 (by decide) (hts (.fieldLink RX6 7 "EchoSeatsModel" "s" "[I") (List.mem_of_getElem? (i := 1) rfl)) (fun _ h9 => h9) rfl dX6_wayOf_28 ?_
  refine lv_iconst (v := 3) hx hb dX6_wayOf_31 (by decide) ?_
  refine x_iald hx hb hK hP 1 rfl (j := 3) (by decide) (by decide) dX6_wayOf_32 ?_
  obtain ⟨r3, hr3, hres⟩ := bi_1 hres
  refine x_cp (va_runS (As := [.int x2, .int (c0_s 1), .int (c0_s 3)]) (rest := []) ⟨hx, hb, hml, hown, hts⟩ (kX6_mirrored l G cI cZ tl x2 (c0_s 1) (c0_s 3) r3 hr3) (va_cwS 3 hts gX6_wayOf_X6_mirrored rfl rfl rfl hsX6_mirrored ⟨Nat.le_of_ble_eq_true rfl, Nat.le_of_ble_eq_true rfl⟩) ⟨PRO_blind, PRO_at va_P0 hK⟩ rfl rfl hl.1 rfl (lv_room (Nat.le_of_ble_eq_true rfl)) dX6_wayOf_33 ⟨Nat.zero_le _, Nat.zero_le _⟩) ?_
  refine lv_iload hx hb dX6_wayOf_36 (lv_at hl 5 rfl) ?_
  refine lv_isub hx hb dX6_wayOf_38 ?_
  refine lv_topi (fun y4 ey4 => ?_)
  have hres := bnd_z ey4 hres
  refine lv_istore (lv' := [(6, .int y4), (5, .int y2), (0, .ref A0), (1, .int x1), (2, .int x2), (3, .int x3), (4, .int x4)]) hx hb dX6_wayOf_39 hl (by decide) rfl (fun ls hl => ?_)
  refine lv_iload hx hb dX6_wayOf_41 (lv_at hl 1 rfl) ?_
  refine lv_iload hx hb dX6_wayOf_43 (lv_at hl 1 rfl) ?_
  refine lv_imul hx hb dX6_wayOf_45 ?_
  refine lv_iload hx hb dX6_wayOf_46 (lv_at hl 0 rfl) ?_
  refine lv_iload hx hb dX6_wayOf_48 (lv_at hl 0 rfl) ?_
  refine lv_imul hx hb dX6_wayOf_50 ?_
  refine lv_iadd hx hb dX6_wayOf_51 ?_
  obtain rfl := Option.some.inj hres
  exact W.iret hx hb hr (fun t ht hW => ⟨rfl, ht⟩) (fun q h => absurd h List.not_mem_nil) dX6_wayOf_52
theorem hsX6_wayOf : yX6_wayOf.cls = RX6 ∧ yX6_wayOf.cls ≠ "java/lang/invoke/MethodHandle" ∧ yX6_wayOf.cls ≠ "java/lang/invoke/VarHandle" ∧ (parseMethodDescriptor yX6_wayOf.desc).map (fun d => d.parameters.length) = some 4 := by decide +kernel
set_option maxHeartbeats 4000000 in
set_option maxRecDepth 100000 in
theorem kX6_timeOf (l : Launch) (G : va_G) (cI cZ : ClassId) (tl : List (ClassId × FieldType)) (x0 : Int32) (res : Int32) (hres : fX6_timeOf x0 = some res) : Met l yX6_timeOf wsX6_timeOf rX6_timeOf (va_Pc [.int x0] (PRO G cI cZ tl [])) (Sp res) 0 0 (fun _ => False) := by
  refine Met.ofW (cc := cX6_timeOf) (maxL := 4) (ret := (some .int)) (by decide) rfl ?_
  intro p e s m args below meth c s₁ B hml hv
  obtain ⟨rfl, hP, hK⟩ := hv
  have hx := B.exec
  have hb := B.bytes
  have hr := B.returns
  have hts := atoms_spec (ws := wsX6_timeOf) B.pre
  have hown : s.vm.findClass RX6 = some m.cls := findClass_of_methodNamed B.named
  have hlocks := B.notSynchronized
  have hl := lv_entry ([.int x0] : List Value) (n := 4) (Nat.le_of_ble_eq_true rfl)
  rw [lg_entry_eq]
  generalize (lg_sl ([.int x0] : List Value) ++ List.replicate (4 - (lg_sl ([.int x0] : List Value)).length) Slot.unset).toArray = ls at hl ⊢
  have hl : lv_has ls 4 [(0, .int x0)] := hl
  refine lv_iconst (v := 0) hx hb dX6_timeOf_0 (by decide) ?_
  refine lv_istore_n (lv' := [(1, .int 0), (0, .int x0)]) hx hb dX6_timeOf_1 rfl hl (by decide) rfl (fun ls hl => ?_)
  refine lv_sipush (v := 2000) hx hb dX6_timeOf_2 (by decide) ?_
  refine lv_istore_n (lv' := [(2, .int 2000), (1, .int 0), (0, .int x0)]) hx hb dX6_timeOf_5 rfl hl (by decide) rfl (fun ls hl => ?_)
  have Q6 : ∀ (v0_L6 : Int32) (n6 : Nat) (v1_L6 : Int32) (v2_L6 : Int32) (ls : Array Slot), LPX (fX6_timeOf_L6 v0_L6) n6 (v1_L6, v2_L6) = some res → lv_has ls 4 [(0, .int v0_L6), (1, .int v1_L6), (2, .int v2_L6)] → WRO p l e wsX6_timeOf rX6_timeOf s m ([.int x0] : List Value).toArray below meth c res (F0 m 6 ls []) := by
    intro v0_L6 n6
    induction n6 with
    | zero =>
      intro v1_L6 v2_L6 ls hres
      exact absurd (LPX_0.symm.trans hres) (fun h => by cases h)
    | succ n6 ih6 =>
      intro v1_L6 v2_L6 ls hres hl
      have hres := LPX_s.symm.trans hres
      refine lv_iload_n hx hb dX6_timeOf_6 rfl (lv_at hl 1 rfl) ?_
      refine lv_iload_n hx hb dX6_timeOf_7 rfl (lv_at hl 2 rfl) ?_
      refine lv_icmp_ge (tgt := 41) hx hb dX6_timeOf_8 (by decide) (fun h1 => ?_) (fun h1 => ?_)
      · have hres := ite_t hres h1
        refine lv_iload_n hx hb dX6_timeOf_41 rfl (lv_at hl 1 rfl) ?_
        obtain rfl := Option.some.inj hres
        exact W.iret hx hb hr (fun t ht hW => ⟨rfl, ht⟩) (fun q h => absurd h List.not_mem_nil) dX6_timeOf_42
      · have hres := ite_f hres h1
        refine lv_iload_n hx hb dX6_timeOf_11 rfl (lv_at hl 1 rfl) ?_
        refine lv_iload_n hx hb dX6_timeOf_12 rfl (lv_at hl 2 rfl) ?_
        refine lv_iadd hx hb dX6_timeOf_13 ?_
        refine lv_iconst (v := 1) hx hb dX6_timeOf_14 (by decide) ?_
        refine lv_iadd hx hb dX6_timeOf_15 ?_
        refine lv_iconst (v := 2) hx hb dX6_timeOf_16 (by decide) ?_
        refine lv_idiv hx hb dX6_timeOf_17 (by decide) ?_
        refine lv_topi (fun y2 ey2 => ?_)
        have hres := bnd_z ey2 hres
        refine lv_istore_n (lv' := [(3, .int y2), (0, .int v0_L6), (1, .int v1_L6), (2, .int v2_L6)]) hx hb dX6_timeOf_18 rfl hl (by decide) rfl (fun ls hl => ?_)
        refine lv_iload_n hx hb dX6_timeOf_19 rfl (lv_at hl 0 rfl) ?_
        refine lv_iload_n hx hb dX6_timeOf_20 rfl (lv_at hl 0 rfl) ?_
        refine lv_imul hx hb dX6_timeOf_21 ?_
        refine lv_bipush (v := 100) hx hb dX6_timeOf_22 (by decide) ?_
        refine lv_iload_n hx hb dX6_timeOf_24 rfl (lv_at hl 1 rfl) ?_
        refine lv_imul hx hb dX6_timeOf_25 ?_
        refine lv_icmp_gt (tgt := 34) hx hb dX6_timeOf_26 (by decide) (fun h3 => ?_) (fun h3 => ?_)
        · have hres := ite_t hres h3
          refine lv_iload_n hx hb dX6_timeOf_34 rfl (lv_at hl 0 rfl) ?_
          refine lv_iconst (v := 1) hx hb dX6_timeOf_35 (by decide) ?_
          refine lv_isub hx hb dX6_timeOf_36 ?_
          refine lv_topi (fun y4 ey4 => ?_)
          have hres := bnd_z ey4 hres
          refine lv_istore_n (lv' := [(2, .int y4), (3, .int y2), (0, .int v0_L6), (1, .int v1_L6)]) hx hb dX6_timeOf_37 rfl hl (by decide) rfl (fun ls hl => ?_)
          refine lv_goto (tgt := 6) hx hb dX6_timeOf_38 (by decide) ?_
          exact ih6 v1_L6 y4 _ hres (lv_sub hl [2, 3, 0] rfl)
        · have hres := ite_f hres h3
          refine lv_iload_n hx hb dX6_timeOf_29 rfl (lv_at hl 0 rfl) ?_
          refine lv_istore_n (lv' := [(1, .int y2), (3, .int y2), (0, .int v0_L6), (2, .int v2_L6)]) hx hb dX6_timeOf_30 rfl hl (by decide) rfl (fun ls hl => ?_)
          refine lv_goto (tgt := 38) hx hb dX6_timeOf_31 (by decide) ?_
          refine lv_goto (tgt := 6) hx hb dX6_timeOf_38 (by decide) ?_
          exact ih6 y2 v2_L6 _ hres (lv_sub hl [2, 0, 3] rfl)
  exact Q6 x0 FU 0 2000 _ hres (lv_sub hl [2, 1, 0] rfl)
theorem hsX6_timeOf : yX6_timeOf.cls ≠ "java/lang/invoke/MethodHandle" ∧ yX6_timeOf.cls ≠ "java/lang/invoke/VarHandle" ∧ (parseMethodDescriptor yX6_timeOf.desc).map (fun d => d.parameters.length) = some 1 := by decide +kernel
set_option maxHeartbeats 4000000 in
set_option maxRecDepth 100000 in
theorem kX6_times (l : Launch) (G : va_G) (cI cZ : ClassId) (tl : List (ClassId × FieldType)) (x0 x1 x2 : Int32) (res : Int32) (hres : fX6_times x0 x1 x2 = some res) : Met l yX6_times wsX6_times rX6_times (va_Pc [.int x0, .int x1, .int x2] (PRO G cI cZ tl [])) (Sp res) 0 0 (fun _ => False) := by
  refine Met.ofW (cc := cX6_times) (maxL := 5) (ret := (some .int)) (by decide) rfl ?_
  intro p e s m args below meth c s₁ B hml hv
  obtain ⟨rfl, hP, hK⟩ := hv
  have hx := B.exec
  have hb := B.bytes
  have hr := B.returns
  have hts := atoms_spec (ws := wsX6_times) B.pre
  have hown : s.vm.findClass RX6 = some m.cls := findClass_of_methodNamed B.named
  have hlocks := B.notSynchronized
  have hl := lv_entry ([.int x0, .int x1, .int x2] : List Value) (n := 5) (Nat.le_of_ble_eq_true rfl)
  rw [lg_entry_eq]
  generalize (lg_sl ([.int x0, .int x1, .int x2] : List Value) ++ List.replicate (5 - (lg_sl ([.int x0, .int x1, .int x2] : List Value)).length) Slot.unset).toArray = ls at hl ⊢
  have hl : lv_has ls 5 [(0, .int x0), (1, .int x1), (2, .int x2)] := hl
  have J33 : ∀ (v3_j33 : Int32) (v4_j33 : Int32) (z0_j33 : Int32) (ls : Array Slot), fX6_times_j33 v3_j33 v4_j33 z0_j33 = some res → lv_has ls 5 [(3, .int v3_j33), (4, .int v4_j33)] → WRO p l e wsX6_times rX6_times s m ([.int x0, .int x1, .int x2] : List Value).toArray below meth c res (F0 m 33 ls [.int z0_j33]) := by
    intro v3_j33 v4_j33 z0_j33 ls hres hl
    refine lv_iload hx hb dX6_times_33 (lv_at hl 1 rfl) ?_
    refine lv_icmp_ne (tgt := 47) hx hb dX6_times_35 (by decide) (fun h1 => ?_) (fun h1 => ?_)
    · have hres := ite_f hres h1
      refine lv_iload_n hx hb dX6_times_47 rfl (lv_at hl 0 rfl) ?_
      obtain ⟨r2, hr2, hres⟩ := bi_1 hres
      refine x_cp (va_runS (As := [.int v3_j33]) (rest := []) ⟨hx, hb, hml, hown, hts⟩ (kX6_size l G cI cZ tl v3_j33 r2 hr2) (va_cwS 1 hts gX6_times_X6_size rfl rfl rfl hsX6_size ⟨Nat.le_of_ble_eq_true rfl, Nat.le_of_ble_eq_true rfl⟩) ⟨PRO_blind, PRO_at va_P0 hK⟩ rfl rfl hl.1 rfl (lv_room (Nat.le_of_ble_eq_true rfl)) dX6_times_48 ⟨Nat.zero_le _, Nat.zero_le _⟩) ?_
      refine lv_iconst (v := 1) hx hb dX6_times_51 (by decide) ?_
      refine lv_iadd hx hb dX6_times_52 ?_
      refine lv_iconst (v := 2) hx hb dX6_times_53 (by decide) ?_
      refine lv_idiv hx hb dX6_times_54 (by decide) ?_
      obtain rfl := Option.some.inj hres
      exact W.iret hx hb hr (fun t ht hW => ⟨rfl, ht⟩) (fun q h => absurd h List.not_mem_nil) dX6_times_55
    · have hres := ite_t hres h1
      refine lv_iload_n hx hb dX6_times_38 rfl (lv_at hl 0 rfl) ?_
      obtain ⟨r3, hr3, hres⟩ := bi_1 hres
      refine x_cp (va_runS (As := [.int v3_j33]) (rest := []) ⟨hx, hb, hml, hown, hts⟩ (kX6_size l G cI cZ tl v3_j33 r3 hr3) (va_cwS 1 hts gX6_times_X6_size rfl rfl rfl hsX6_size ⟨Nat.le_of_ble_eq_true rfl, Nat.le_of_ble_eq_true rfl⟩) ⟨PRO_blind, PRO_at va_P0 hK⟩ rfl rfl hl.1 rfl (lv_room (Nat.le_of_ble_eq_true rfl)) dX6_times_39 ⟨Nat.zero_le _, Nat.zero_le _⟩) ?_
      refine lv_iconst (v := 2) hx hb dX6_times_42 (by decide) ?_
      refine lv_idiv hx hb dX6_times_43 (by decide) ?_
      refine lv_goto (tgt := 55) hx hb dX6_times_44 (by decide) ?_
      obtain rfl := Option.some.inj hres
      exact W.iret hx hb hr (fun t ht hW => ⟨rfl, ht⟩) (fun q h => absurd h List.not_mem_nil) dX6_times_55
  have J10 : ∀ (v0_j10 : Int32) (z0_j10 : Int32) (ls : Array Slot), fX6_times_j10 v0_j10 z0_j10 = some res → lv_has ls 5 [(0, .int v0_j10)] → WRO p l e wsX6_times rX6_times s m ([.int x0, .int x1, .int x2] : List Value).toArray below meth c res (F0 m 10 ls [.int z0_j10]) := by
    intro v0_j10 z0_j10 ls hres hl
    refine lv_istore_n (lv' := [(3, .int z0_j10), (0, .int v0_j10)]) hx hb dX6_times_10 rfl hl (by decide) rfl (fun ls hl => ?_)
    refine lv_iload_n hx hb dX6_times_11 rfl (lv_at hl 1 rfl) ?_
    refine lv_iconst (v := 2) hx hb dX6_times_12 (by decide) ?_
    refine lv_irem hx hb dX6_times_13 (by decide) ?_
    refine lv_if_ne (tgt := 21) hx hb dX6_times_14 (by decide) (fun h4 => ?_) (fun h4 => ?_)
    · have hres := ite_f hres h4
      refine lv_iconst (v := 0) hx hb dX6_times_21 (by decide) ?_
      refine lv_istore (lv' := [(4, .int 0), (3, .int z0_j10), (0, .int v0_j10)]) hx hb dX6_times_22 hl (by decide) rfl (fun ls hl => ?_)
      refine lv_iload_n hx hb dX6_times_24 rfl (lv_at hl 1 rfl) ?_
      refine lv_if_le (tgt := 32) hx hb dX6_times_25 (by decide) (fun h5 => ?_) (fun h5 => ?_)
      · have hres := ite_t hres h5
        refine lv_iconst (v := 0) hx hb dX6_times_32 (by decide) ?_
        exact J33 z0_j10 0 0 _ hres (lv_sub hl [1, 0] rfl)
      · have hres := ite_f hres h5
        refine lv_iconst (v := 1) hx hb dX6_times_28 (by decide) ?_
        refine lv_goto (tgt := 33) hx hb dX6_times_29 (by decide) ?_
        exact J33 z0_j10 0 1 _ hres (lv_sub hl [1, 0] rfl)
    · have hres := ite_t hres h4
      refine lv_iconst (v := 1) hx hb dX6_times_17 (by decide) ?_
      refine lv_goto (tgt := 22) hx hb dX6_times_18 (by decide) ?_
      refine lv_istore (lv' := [(4, .int 1), (3, .int z0_j10), (0, .int v0_j10)]) hx hb dX6_times_22 hl (by decide) rfl (fun ls hl => ?_)
      refine lv_iload_n hx hb dX6_times_24 rfl (lv_at hl 1 rfl) ?_
      refine lv_if_le (tgt := 32) hx hb dX6_times_25 (by decide) (fun h6 => ?_) (fun h6 => ?_)
      · have hres := ite_t hres h6
        refine lv_iconst (v := 0) hx hb dX6_times_32 (by decide) ?_
        exact J33 z0_j10 1 0 _ hres (lv_sub hl [1, 0] rfl)
      · have hres := ite_f hres h6
        refine lv_iconst (v := 1) hx hb dX6_times_28 (by decide) ?_
        refine lv_goto (tgt := 33) hx hb dX6_times_29 (by decide) ?_
        exact J33 z0_j10 1 1 _ hres (lv_sub hl [1, 0] rfl)
  refine lv_iload_n hx hb dX6_times_0 rfl (lv_at hl 0 rfl) ?_
  refine lv_iconst (v := 2) hx hb dX6_times_1 (by decide) ?_
  refine lv_icmp_ge (tgt := 9) hx hb dX6_times_2 (by decide) (fun h7 => ?_) (fun h7 => ?_)
  · have hres := ite_t hres h7
    refine lv_iload_n hx hb dX6_times_9 rfl (lv_at hl 2 rfl) ?_
    exact J10 x0 x2 _ hres (lv_sub hl [0] rfl)
  · have hres := ite_f hres h7
    refine lv_iload_n hx hb dX6_times_5 rfl (lv_at hl 1 rfl) ?_
    refine lv_goto (tgt := 10) hx hb dX6_times_6 (by decide) ?_
    exact J10 x0 x1 _ hres (lv_sub hl [0] rfl)
theorem hsX6_times : yX6_times.cls ≠ "java/lang/invoke/MethodHandle" ∧ yX6_times.cls ≠ "java/lang/invoke/VarHandle" ∧ (parseMethodDescriptor yX6_times.desc).map (fun d => d.parameters.length) = some 3 := by decide +kernel
