set_option maxHeartbeats 4000000 in
set_option maxRecDepth 100000 in
theorem kJ7_fill_53178 (l : Launch) (G : va_G) (cI cZ : ClassId) (tl : List (ClassId × FieldType)) (sz : Nat) (A : Nat → Prop) (A0 : Nat) (n : Nat) (c0 : Nat → Int32) (x1 : Int32) (res : (Nat → Int32)) (hAe : A = va_A [(A0, .inl (cI, n, .inl c0))] sz) (hres : fJ7_fill_53178 n c0 x1 = some res) : Met l yJ7_fill_53178 wsJ7_fill_53178 rJ7_fill_53178 (va_Pc [.ref A0, .int x1] (PRW G cI cZ tl [(A0, .inl (cI, n, .inl c0))] sz)) (Qvw G A [(A0, .inl (cI, n, .inl res))]) 0 0 A := by
  refine Met.ofW (cc := cJ7_fill_53178) (maxL := 4) (ret := none) (by decide) rfl ?_
  intro p e s m args below meth c s₁ B hml hv
  obtain ⟨rfl, hsz, hP, hK, hD0⟩ := hv
  have hx := B.exec
  have hb := B.bytes
  have hr := B.returns
  have hts := atoms_spec (ws := wsJ7_fill_53178) B.pre
  have hown : s.vm.findClass RJ7 = some m.cls := findClass_of_methodNamed B.named
  have hlocks := B.notSynchronized
  subst hsz
  have hD : va_D A [(A0, .inl (cI, n, .inl c0))] := by rw [hAe]; exact hD0.self
  have hA : ∀ q : Nat, s.heap.size ≤ q → A q := fun q h => by rw [hAe]; exact Or.inr h
  clear hAe hD0
  have hS : va_S A s.heap s.heap [] := va_S.rf
  have hl := lv_entry ([.ref A0, .int x1] : List Value) (n := 4) (Nat.le_of_ble_eq_true rfl)
  rw [lg_entry_eq]
  generalize (lg_sl ([.ref A0, .int x1] : List Value) ++ List.replicate (4 - (lg_sl ([.ref A0, .int x1] : List Value)).length) Slot.unset).toArray = ls at hl ⊢
  have hl : lv_has ls 4 [(0, .ref A0), (1, .int x1)] := hl
  refine lv_iconst (v := 0) hx hb dJ7_fill_53178_0 (by decide) ?_
  refine lv_istore_n (lv' := [(2, .int 0), (0, .ref A0), (1, .int x1)]) hx hb dJ7_fill_53178_1 rfl hl (by decide) rfl (fun ls hl => ?_)
  refine lv_aload_n hx hb dJ7_fill_53178_2 rfl (lv_at hl 1 rfl) ?_
  refine va_alen (v := (Int32.ofNat n)) hx hb hK.1 hP 0 0 rfl rfl rfl dJ7_fill_53178_3 ?_
  refine lv_topi (fun y1 ey1 => ?_)
  have hres := bnd_z ey1 hres
  refine lv_istore_n (lv' := [(3, .int y1), (2, .int 0), (0, .ref A0), (1, .int x1)]) hx hb dJ7_fill_53178_4 rfl hl (by decide) rfl (fun ls hl => ?_)
  have Q5 : ∀ (v1_L5 : Int32) (v3_L5 : Int32) (n5 : Nat) (v2_L5 : Int32) (e0_L5 : (Nat → Int32)) (H : Heap) (locs : List Loc) (ls : Array Slot), LPX (fJ7_fill_53178_L5 n v1_L5 v3_L5) n5 (v2_L5, e0_L5) = some res → va_P G vwCl [(A0, .inl (cI, n, .inl e0_L5))] H → va_D A [(A0, .inl (cI, n, .inl e0_L5))] → va_S A s.heap H locs → lv_has ls 4 [(0, .ref A0), (1, .int v1_L5), (2, .int v2_L5), (3, .int v3_L5)] → WRW p l e wsJ7_fill_53178 rJ7_fill_53178 s m ([.ref A0, .int x1] : List Value).toArray below meth c H locs (Qvw G A [(A0, .inl (cI, n, .inl res))]) A (F0 m 5 ls []) := by
    intro v1_L5 v3_L5 n5
    induction n5 with
    | zero =>
      intro v2_L5 e0_L5 H locs ls hres
      exact absurd (LPX_0.symm.trans hres) (fun h => by cases h)
    | succ n5 ih5 =>
      intro v2_L5 e0_L5 H locs ls hres hP hD hS hl
      have hres := LPX_s.symm.trans hres
      refine lv_iload_n hx hb dJ7_fill_53178_5 rfl (lv_at hl 2 rfl) ?_
      refine lv_iload_n hx hb dJ7_fill_53178_6 rfl (lv_at hl 3 rfl) ?_
      refine lv_icmp_ge (tgt := 20) hx hb dJ7_fill_53178_7 (by decide) (fun h2 => ?_) (fun h2 => ?_)
      · have hres := ite_t hres h2
        obtain rfl := Option.some.inj hres
        exact W.vret hx hb hr (fun t ht hW => ⟨⟨(), rfl, trivial, by rw [ht]; exact hP, hD⟩, hS.F ht⟩) hS.2.2 dJ7_fill_53178_20
      · have hres := ite_f hres h2
        refine lv_aload_n hx hb dJ7_fill_53178_10 rfl (lv_at hl 0 rfl) ?_
        refine lv_iload_n hx hb dJ7_fill_53178_11 rfl (lv_at hl 2 rfl) ?_
        refine lv_iload_n hx hb dJ7_fill_53178_12 rfl (lv_at hl 1 rfl) ?_
        have g3 := gd_1 hres
        have hres := gd_2 hres
        refine x_iast hx hb hK hP hD hS 0 rfl (j := (Int32.toNatClampNeg v2_L5)) rfl g3 dJ7_fill_53178_13 (fun H locs hP hD hS => ?_)
        have hP : va_P G vwCl [(A0, .inl (cI, n, .inl (upd e0_L5 (Int32.toNatClampNeg v2_L5) v1_L5)))] H := hP
        have hD : va_D A [(A0, .inl (cI, n, .inl (upd e0_L5 (Int32.toNatClampNeg v2_L5) v1_L5)))] := hD
        refine lv_iinc (v := (v2_L5 + 1)) (lv' := [(2, .int (v2_L5 + 1)), (0, .ref A0), (1, .int v1_L5), (3, .int v3_L5)]) hx hb dJ7_fill_53178_14 hl (k := 2) rfl rfl (by decide) rfl (fun ls hl => ?_)
        refine lv_goto (tgt := 5) hx hb dJ7_fill_53178_17 (by decide) ?_
        exact ih5 (v2_L5 + 1) (upd e0_L5 (Int32.toNatClampNeg v2_L5) v1_L5) _ _ _ hres hP hD hS (lv_sub hl [1, 2, 0, 3] rfl)
  exact Q5 x1 y1 FU 0 c0 _ _ _ hres hP hD hS (lv_sub hl [2, 3, 1, 0] rfl)
theorem hsJ7_fill_53178 : yJ7_fill_53178.cls ≠ "java/lang/invoke/MethodHandle" ∧ yJ7_fill_53178.cls ≠ "java/lang/invoke/VarHandle" ∧ (parseMethodDescriptor yJ7_fill_53178.desc).map (fun d => d.parameters.length) = some 2 := by decide +kernel
set_option maxHeartbeats 4000000 in
set_option maxRecDepth 100000 in
theorem kJ9_floorDiv_7cf53 (l : Launch) (G : va_G) (cI cZ : ClassId) (tl : List (ClassId × FieldType)) (x0 x1 : Int32) (res : Int32) (hres : fJ9_floorDiv_7cf53 x0 x1 = some res) : Met l yJ9_floorDiv_7cf53 wsJ9_floorDiv_7cf53 rJ9_floorDiv_7cf53 (va_Pc [.int x0, .int x1] (PRO G cI cZ tl [])) (Sp res) 0 0 (fun _ => False) := by
  refine va_MetF (cc := cJ9_floorDiv_7cf53) (maxL := 3) (ret := (some .int)) (by decide +kernel) rfl ?_
  intro p e s m args below meth c s₁ B hml hv
  obtain ⟨rfl, hP, hK⟩ := hv
  have hx := B.exec
  have hb := B.bytes
  have hr := B.returns
  have hts := atoms_spec (ws := wsJ9_floorDiv_7cf53) B.pre
  have hown : s.vm.findClass RJ9 = some m.cls := findClass_of_methodNamed B.named
  have hlocks := B.notSynchronized
  have hl := lv_entry ([.int x0, .int x1] : List Value) (n := 3) (Nat.le_of_ble_eq_true rfl)
  rw [lg_entry_eq]
  generalize (lg_sl ([.int x0, .int x1] : List Value) ++ List.replicate (3 - (lg_sl ([.int x0, .int x1] : List Value)).length) Slot.unset).toArray = ls at hl ⊢
  have hl : lv_has ls 3 [(0, .int x0), (1, .int x1)] := hl
  refine lv_iload_n hx hb dJ9_floorDiv_7cf53_0 rfl (lv_at hl 0 rfl) ?_
  refine lv_iload_n hx hb dJ9_floorDiv_7cf53_1 rfl (lv_at hl 1 rfl) ?_
  have g1 := gd_1 hres
  have hres := gd_2 hres
  refine lv_idiv hx hb dJ9_floorDiv_7cf53_2 g1 ?_
  refine lv_topi (fun y2 ey2 => ?_)
  have hres := bnd_z ey2 hres
  refine lv_istore_n (lv' := [(2, .int y2), (0, .int x0), (1, .int x1)]) hx hb dJ9_floorDiv_7cf53_3 rfl hl (by decide) rfl (fun ls hl => ?_)
  refine lv_iload_n hx hb dJ9_floorDiv_7cf53_4 rfl (lv_at hl 1 rfl) ?_
  refine lv_iload_n hx hb dJ9_floorDiv_7cf53_5 rfl (lv_at hl 2 rfl) ?_
  refine lv_ixor hx hb dJ9_floorDiv_7cf53_6 ?_
  refine lv_if_ge (tgt := 21) hx hb dJ9_floorDiv_7cf53_7 (by decide) (fun h3 => ?_) (fun h3 => ?_)
  · have hres := ite_t hres h3
    refine lv_iload_n hx hb dJ9_floorDiv_7cf53_21 rfl (lv_at hl 0 rfl) ?_
    obtain rfl := Option.some.inj hres
    exact W.iret hx hb hr (fun t ht hW => ⟨rfl, ht⟩) (fun q h => absurd h List.not_mem_nil) dJ9_floorDiv_7cf53_22
  · have hres := ite_f hres h3
    refine lv_iload_n hx hb dJ9_floorDiv_7cf53_10 rfl (lv_at hl 0 rfl) ?_
    refine lv_iload_n hx hb dJ9_floorDiv_7cf53_11 rfl (lv_at hl 2 rfl) ?_
    refine lv_imul hx hb dJ9_floorDiv_7cf53_12 ?_
    refine lv_iload_n hx hb dJ9_floorDiv_7cf53_13 rfl (lv_at hl 1 rfl) ?_
    refine lv_icmp_eq (tgt := 21) hx hb dJ9_floorDiv_7cf53_14 (by decide) (fun h4 => ?_) (fun h4 => ?_)
    · have hres := ite_t hres h4
      refine lv_iload_n hx hb dJ9_floorDiv_7cf53_21 rfl (lv_at hl 0 rfl) ?_
      obtain rfl := Option.some.inj hres
      exact W.iret hx hb hr (fun t ht hW => ⟨rfl, ht⟩) (fun q h => absurd h List.not_mem_nil) dJ9_floorDiv_7cf53_22
    · have hres := ite_f hres h4
      refine lv_iload_n hx hb dJ9_floorDiv_7cf53_17 rfl (lv_at hl 0 rfl) ?_
      refine lv_iconst (v := 1) hx hb dJ9_floorDiv_7cf53_18 (by decide) ?_
      refine lv_isub hx hb dJ9_floorDiv_7cf53_19 ?_
      obtain rfl := Option.some.inj hres
      exact W.iret hx hb hr (fun t ht hW => ⟨rfl, ht⟩) (fun q h => absurd h List.not_mem_nil) dJ9_floorDiv_7cf53_20
theorem hsJ9_floorDiv_7cf53 : yJ9_floorDiv_7cf53.cls ≠ "java/lang/invoke/MethodHandle" ∧ yJ9_floorDiv_7cf53.cls ≠ "java/lang/invoke/VarHandle" ∧ (parseMethodDescriptor yJ9_floorDiv_7cf53.desc).map (fun d => d.parameters.length) = some 2 := by decide +kernel
set_option maxHeartbeats 4000000 in
set_option maxRecDepth 100000 in
theorem kX0_fadeTime (l : Launch) (G : va_G) (cI cZ : ClassId) (tl : List (ClassId × FieldType)) (A0 A0_is A0_js A0_ways A0_times A0_strengths A0_deafened : Nat) (c0 c0_strengths c0_times : Nat → Int32) (x1 : Int32) (res : Int32) (hres : fX0_fadeTime c0 c0_strengths c0_times x1 = some res) : Met l yX0_fadeTime wsX0_fadeTime rX0_fadeTime (va_Pc [.ref A0, .int x1] (PRO G cI cZ tl [o0 A0 c0 A0_is A0_js A0_ways A0_times A0_strengths A0_deafened, (A0_strengths, .inl (cI, 25, .inl c0_strengths)), (A0_times, .inl (cI, 25, .inl c0_times))])) (Sp res) 0 0 (fun _ => False) := by
  refine Met.ofW (cc := cX0_fadeTime) (maxL := 4) (ret := (some .int)) (by decide) rfl ?_
  intro p e s m args below meth c s₁ B hml hv
  obtain ⟨rfl, hP, hK⟩ := hv
  have hx := B.exec
  have hb := B.bytes
  have hr := B.returns
  have hts := atoms_spec (ws := wsX0_fadeTime) B.pre
  have hown : s.vm.findClass RX0 = some m.cls := findClass_of_methodNamed B.named
  have hlocks := B.notSynchronized
  have hl := lv_entry ([.ref A0, .int x1] : List Value) (n := 4) (Nat.le_of_ble_eq_true rfl)
  rw [lg_entry_eq]
  generalize (lg_sl ([.ref A0, .int x1] : List Value) ++ List.replicate (4 - (lg_sl ([.ref A0, .int x1] : List Value)).length) Slot.unset).toArray = ls at hl ⊢
  have hl : lv_has ls 4 [(0, .ref A0), (1, .int x1)] := hl
  refine lv_aload_n hx hb dX0_fadeTime_0 rfl (lv_at hl 0 rfl) ?_
  refine va_get (D := G) (ci := 0) (v := .int (c0 7)) (C := RX0) (T := TX0) (N := 8) hx hb hts (fun w h => (List.mem_cons_of_mem _ (List.mem_append_right _ h))) hown hK.1 hP 0 rfl rfl 7 (by decide) (hts (.fieldLink RX0 34 "EchoSeats$Ear" "total" "I") (List.mem_of_getElem? (i := 1) rfl)) (fun _ h9 => h9) rfl dX0_fadeTime_1 ?_
  refine lv_topi (fun y1 ey1 => ?_)
  have hres := bnd_z ey1 hres
  refine lv_istore_n (lv' := [(2, .int y1), (0, .ref A0), (1, .int x1)]) hx hb dX0_fadeTime_4 rfl hl (by decide) rfl (fun ls hl => ?_)
  refine lv_iconst (v := 0) hx hb dX0_fadeTime_5 (by decide) ?_
  refine lv_istore_n (lv' := [(3, .int 0), (2, .int y1), (0, .ref A0), (1, .int x1)]) hx hb dX0_fadeTime_6 rfl hl (by decide) rfl (fun ls hl => ?_)
  have Q7 : ∀ (v1_L7 : Int32) (n7 : Nat) (v2_L7 : Int32) (v3_L7 : Int32) (ls : Array Slot), LPX (fX0_fadeTime_L7 c0 c0_strengths c0_times v1_L7) n7 (v2_L7, v3_L7) = some res → lv_has ls 4 [(0, .ref A0), (1, .int v1_L7), (2, .int v2_L7), (3, .int v3_L7)] → WRO p l e wsX0_fadeTime rX0_fadeTime s m ([.ref A0, .int x1] : List Value).toArray below meth c res (F0 m 7 ls []) := by
    intro v1_L7 n7
    induction n7 with
    | zero =>
      intro v2_L7 v3_L7 ls hres
      exact absurd (LPX_0.symm.trans hres) (fun h => by cases h)
    | succ n7 ih7 =>
      intro v2_L7 v3_L7 ls hres hl
      have hres := LPX_s.symm.trans hres
      refine lv_iload_n hx hb dX0_fadeTime_7 rfl (lv_at hl 3 rfl) ?_
      refine lv_aload_n hx hb dX0_fadeTime_8 rfl (lv_at hl 0 rfl) ?_
      refine va_get (D := G) (ci := 0) (v := .int (c0 6)) (C := RX0) (T := TX0) (N := 8) hx hb hts (fun w h => (List.mem_cons_of_mem _ (List.mem_append_right _ h))) hown hK.1 hP 0 rfl rfl 6 (by decide) (hts (.fieldLink RX0 30 "EchoSeats$Ear" "size" "I") (List.mem_of_getElem? (i := 2) rfl)) (fun _ h9 => h9) rfl dX0_fadeTime_9 ?_
      refine lv_icmp_ge (tgt := 50) hx hb dX0_fadeTime_12 (by decide) (fun h2 => ?_) (fun h2 => ?_)
      · have hres := ite_t hres h2
        refine lv_bipush (v := (-9)) hx hb dX0_fadeTime_50 (by decide) ?_
        obtain rfl := Option.some.inj hres
        exact W.iret hx hb hr (fun t ht hW => ⟨rfl, ht⟩) (fun q h => absurd h List.not_mem_nil) dX0_fadeTime_52
      · have hres := ite_f hres h2
        refine lv_iload_n hx hb dX0_fadeTime_15 rfl (lv_at hl 2 rfl) ?_
        refine lv_aload_n hx hb dX0_fadeTime_16 rfl (lv_at hl 0 rfl) ?_
        refine va_get (D := G) (ci := 0) (v := .ref A0_strengths) (C := RX0) (T := TX0) (N := 8) hx hb hts (fun w h => (List.mem_cons_of_mem _ (List.mem_append_right _ h))) hown hK.1 hP 0 rfl rfl 4 (by decide) (hts (.fieldLink RX0 24 "EchoSeats$Ear" "strengths" "[I") (List.mem_of_getElem? (i := 3) rfl)) (fun _ h9 => h9) rfl dX0_fadeTime_17 ?_
        refine lv_iload_n hx hb dX0_fadeTime_20 rfl (lv_at hl 3 rfl) ?_
        have g3 := gd_1 hres
        have hres := gd_2 hres
        refine x_iald hx hb hK hP 1 rfl (j := (Int32.toNatClampNeg v3_L7)) rfl g3 dX0_fadeTime_21 ?_
        refine lv_isub hx hb dX0_fadeTime_22 ?_
        refine lv_topi (fun y4 ey4 => ?_)
        have hres := bnd_z ey4 hres
        refine lv_istore_n (lv' := [(2, .int y4), (0, .ref A0), (1, .int v1_L7), (3, .int v3_L7)]) hx hb dX0_fadeTime_23 rfl hl (by decide) rfl (fun ls hl => ?_)
        refine lv_bipush (v := 10) hx hb dX0_fadeTime_24 (by decide) ?_
        refine lv_iload_n hx hb dX0_fadeTime_26 rfl (lv_at hl 0 rfl) ?_
        refine lv_imul hx hb dX0_fadeTime_27 ?_
        refine lv_iload_n hx hb dX0_fadeTime_28 rfl (lv_at hl 2 rfl) ?_
        refine lv_aload_n hx hb dX0_fadeTime_29 rfl (lv_at hl 1 rfl) ?_
        refine va_get (D := G) (ci := 0) (v := .int (c0 7)) (C := RX0) (T := TX0) (N := 8) hx hb hts (fun w h => (List.mem_cons_of_mem _ (List.mem_append_right _ h))) hown hK.1 hP 0 rfl rfl 7 (by decide) (hts (.fieldLink RX0 34 "EchoSeats$Ear" "total" "I") (List.mem_of_getElem? (i := 1) rfl)) (fun _ h9 => h9) rfl dX0_fadeTime_30 ?_
        refine lv_imul hx hb dX0_fadeTime_33 ?_
        refine lv_icmp_gt (tgt := 44) hx hb dX0_fadeTime_34 (by decide) (fun h5 => ?_) (fun h5 => ?_)
        · have hres := ite_t hres h5
          refine lv_iinc (v := (v3_L7 + 1)) (lv' := [(3, .int (v3_L7 + 1)), (2, .int y4), (0, .ref A0), (1, .int v1_L7)]) hx hb dX0_fadeTime_44 hl (k := 3) rfl rfl (by decide) rfl (fun ls hl => ?_)
          refine lv_goto (tgt := 7) hx hb dX0_fadeTime_47 (by decide) ?_
          exact ih7 y4 (v3_L7 + 1) _ hres (lv_sub hl [2, 3, 1, 0] rfl)
        · have hres := ite_f hres h5
          refine lv_aload_n hx hb dX0_fadeTime_37 rfl (lv_at hl 1 rfl) ?_
          refine va_get (D := G) (ci := 0) (v := .ref A0_times) (C := RX0) (T := TX0) (N := 8) hx hb hts (fun w h => (List.mem_cons_of_mem _ (List.mem_append_right _ h))) hown hK.1 hP 0 rfl rfl 3 (by decide) (hts (.fieldLink RX0 21 "EchoSeats$Ear" "times" "[I") (List.mem_of_getElem? (i := 4) rfl)) (fun _ h9 => h9) rfl dX0_fadeTime_38 ?_
          refine lv_iload_n hx hb dX0_fadeTime_41 rfl (lv_at hl 3 rfl) ?_
          have g6 := gd_1 hres
          have hres := gd_2 hres
          refine x_iald hx hb hK hP 2 rfl (j := (Int32.toNatClampNeg v3_L7)) rfl g6 dX0_fadeTime_42 ?_
          obtain rfl := Option.some.inj hres
          exact W.iret hx hb hr (fun t ht hW => ⟨rfl, ht⟩) (fun q h => absurd h List.not_mem_nil) dX0_fadeTime_43
  exact Q7 x1 FU y1 0 _ hres (lv_sub hl [2, 3, 1, 0] rfl)
theorem hsX0_fadeTime : yX0_fadeTime.cls = RX0 ∧ yX0_fadeTime.cls ≠ "java/lang/invoke/MethodHandle" ∧ yX0_fadeTime.cls ≠ "java/lang/invoke/VarHandle" ∧ (parseMethodDescriptor yX0_fadeTime.desc).map (fun d => d.parameters.length) = some 1 := by decide +kernel
set_option maxHeartbeats 4000000 in
set_option maxRecDepth 100000 in
theorem kX0_firstGap (l : Launch) (G : va_G) (cI cZ : ClassId) (tl : List (ClassId × FieldType)) (A0 A0_is A0_js A0_ways A0_times A0_strengths A0_deafened : Nat) (c0 c0_times : Nat → Int32) (res : Int32) (hres : fX0_firstGap c0 c0_times = some res) : Met l yX0_firstGap wsX0_firstGap rX0_firstGap (va_Pc [.ref A0] (PRO G cI cZ tl [o0 A0 c0 A0_is A0_js A0_ways A0_times A0_strengths A0_deafened, (A0_times, .inl (cI, 25, .inl c0_times))])) (Sp res) 0 0 (fun _ => False) := by
  refine Met.ofW (cc := cX0_firstGap) (maxL := 1) (ret := (some .int)) (by decide) rfl ?_
  intro p e s m args below meth c s₁ B hml hv
  obtain ⟨rfl, hP, hK⟩ := hv
  have hx := B.exec
  have hb := B.bytes
  have hr := B.returns
  have hts := atoms_spec (ws := wsX0_firstGap) B.pre
  have hown : s.vm.findClass RX0 = some m.cls := findClass_of_methodNamed B.named
  have hlocks := B.notSynchronized
  have hl := lv_entry ([.ref A0] : List Value) (n := 1) (Nat.le_of_ble_eq_true rfl)
  rw [lg_entry_eq]
  generalize (lg_sl ([.ref A0] : List Value) ++ List.replicate (1 - (lg_sl ([.ref A0] : List Value)).length) Slot.unset).toArray = ls at hl ⊢
  have hl : lv_has ls 1 [(0, .ref A0)] := hl
  refine lv_aload_n hx hb dX0_firstGap_0 rfl (lv_at hl 0 rfl) ?_
  refine va_get (D := G) (ci := 0) (v := .int (c0 6)) (C := RX0) (T := TX0) (N := 8) hx hb hts (fun w h => (List.mem_cons_of_mem _ (List.mem_append_right _ h))) hown hK.1 hP 0 rfl rfl 6 (by decide) (hts (.fieldLink RX0 30 "EchoSeats$Ear" "size" "I") (List.mem_of_getElem? (i := 1) rfl)) (fun _ h9 => h9) rfl dX0_firstGap_1 ?_
  refine lv_iconst (v := 1) hx hb dX0_firstGap_4 (by decide) ?_
  refine lv_icmp_le (tgt := 24) hx hb dX0_firstGap_5 (by decide) (fun h1 => ?_) (fun h1 => ?_)
  · have hres := ite_t hres h1
    refine lv_bipush (v := (-9)) hx hb dX0_firstGap_24 (by decide) ?_
    obtain rfl := Option.some.inj hres
    exact W.iret hx hb hr (fun t ht hW => ⟨rfl, ht⟩) (fun q h => absurd h List.not_mem_nil) dX0_firstGap_26
  · have hres := ite_f hres h1
    refine lv_aload_n hx hb dX0_firstGap_8 rfl (lv_at hl 0 rfl) ?_
    refine va_get (D := G) (ci := 0) (v := .ref A0_times) (C := RX0) (T := TX0) (N := 8) hx hb hts (fun w h => (List.mem_cons_of_mem _ (List.mem_append_right _ h))) hown hK.1 hP 0 rfl rfl 3 (by decide) (hts (.fieldLink RX0 21 "EchoSeats$Ear" "times" "[I") (List.mem_of_getElem? (i := 2) rfl)) (fun _ h9 => h9) rfl dX0_firstGap_9 ?_
    refine lv_iconst (v := 1) hx hb dX0_firstGap_12 (by decide) ?_
    refine x_iald hx hb hK hP 1 rfl (j := 1) (by decide) (by decide) dX0_firstGap_13 ?_
    refine lv_aload_n hx hb dX0_firstGap_14 rfl (lv_at hl 0 rfl) ?_
    refine va_get (D := G) (ci := 0) (v := .ref A0_times) (C := RX0) (T := TX0) (N := 8) hx hb hts (fun w h => (List.mem_cons_of_mem _ (List.mem_append_right _ h))) hown hK.1 hP 0 rfl rfl 3 (by decide) (hts (.fieldLink RX0 21 "EchoSeats$Ear" "times" "[I") (List.mem_of_getElem? (i := 2) rfl)) (fun _ h9 => h9) rfl dX0_firstGap_15 ?_
    refine lv_iconst (v := 0) hx hb dX0_firstGap_18 (by decide) ?_
    refine x_iald hx hb hK hP 1 rfl (j := 0) (by decide) (by decide) dX0_firstGap_19 ?_
    refine lv_isub hx hb dX0_firstGap_20 ?_
    refine lv_goto (tgt := 26) hx hb dX0_firstGap_21 (by decide) ?_
    obtain rfl := Option.some.inj hres
    exact W.iret hx hb hr (fun t ht hW => ⟨rfl, ht⟩) (fun q h => absurd h List.not_mem_nil) dX0_firstGap_26
theorem hsX0_firstGap : yX0_firstGap.cls = RX0 ∧ yX0_firstGap.cls ≠ "java/lang/invoke/MethodHandle" ∧ yX0_firstGap.cls ≠ "java/lang/invoke/VarHandle" ∧ (parseMethodDescriptor yX0_firstGap.desc).map (fun d => d.parameters.length) = some 0 := by decide +kernel
set_option maxHeartbeats 4000000 in
set_option maxRecDepth 100000 in
theorem kX3_hasSeat (l : Launch) (G : va_G) (cI cZ : ClassId) (tl : List (ClassId × FieldType)) (A0 A0_swallows A0_seatX A0_seatY A0_curtainX A0_curtainFrom A0_curtainTo : Nat) (c0 : Nat → Int32) (x1 : Int32) (res : Int32) (hres : fX3_hasSeat c0 x1 = some res) : Met l yX3_hasSeat wsX3_hasSeat rX3_hasSeat (va_Pc [.ref A0, .int x1] (PRO G cI cZ tl [o3 A0 c0 A0_swallows A0_seatX A0_seatY A0_curtainX A0_curtainFrom A0_curtainTo])) (Sp res) 0 0 (fun _ => False) := by
  refine Met.ofW (cc := cX3_hasSeat) (maxL := 2) (ret := (some .boolean)) (by decide) rfl ?_
  intro p e s m args below meth c s₁ B hml hv
  obtain ⟨rfl, hP, hK⟩ := hv
  have hx := B.exec
  have hb := B.bytes
  have hr := B.returns
  have hts := atoms_spec (ws := wsX3_hasSeat) B.pre
  have hown : s.vm.findClass RX3 = some m.cls := findClass_of_methodNamed B.named
  have hlocks := B.notSynchronized
  have hl := lv_entry ([.ref A0, .int x1] : List Value) (n := 2) (Nat.le_of_ble_eq_true rfl)
  rw [lg_entry_eq]
  generalize (lg_sl ([.ref A0, .int x1] : List Value) ++ List.replicate (2 - (lg_sl ([.ref A0, .int x1] : List Value)).length) Slot.unset).toArray = ls at hl ⊢
  have hl : lv_has ls 2 [(0, .ref A0), (1, .int x1)] := hl
  refine lv_iload_n hx hb dX3_hasSeat_0 rfl (lv_at hl 1 rfl) ?_
  refine lv_if_lt (tgt := 16) hx hb dX3_hasSeat_1 (by decide) (fun h1 => ?_) (fun h1 => ?_)
  · have hres := ite_t hres h1
    refine lv_iconst (v := 0) hx hb dX3_hasSeat_16 (by decide) ?_
    obtain rfl := Option.some.inj hres
    exact W.zret hx hb hr (by decide) (fun t ht hW => ⟨rfl, ht⟩) (fun q h => absurd h List.not_mem_nil) dX3_hasSeat_17
  · have hres := ite_f hres h1
    refine lv_iload_n hx hb dX3_hasSeat_4 rfl (lv_at hl 1 rfl) ?_
    refine lv_aload_n hx hb dX3_hasSeat_5 rfl (lv_at hl 0 rfl) ?_
    refine va_get (D := G) (ci := 3) (v := .int (c0 4)) (C := RX3) (T := TX3) (N := 12) hx hb hts (fun w h => (List.mem_cons_of_mem _ (List.mem_append_right _ h))) hown hK.1 hP 0 rfl rfl 4 (by decide) (hts (.fieldLink RX3 46 "EchoSeats$Scene" "seats" "I") (List.mem_of_getElem? (i := 1) rfl)) (fun _ h9 => h9) rfl dX3_hasSeat_6 ?_
    refine lv_icmp_ge (tgt := 16) hx hb dX3_hasSeat_9 (by decide) (fun h2 => ?_) (fun h2 => ?_)
    · have hres := ite_t hres h2
      refine lv_iconst (v := 0) hx hb dX3_hasSeat_16 (by decide) ?_
      obtain rfl := Option.some.inj hres
      exact W.zret hx hb hr (by decide) (fun t ht hW => ⟨rfl, ht⟩) (fun q h => absurd h List.not_mem_nil) dX3_hasSeat_17
    · have hres := ite_f hres h2
      refine lv_iconst (v := 1) hx hb dX3_hasSeat_12 (by decide) ?_
      refine lv_goto (tgt := 17) hx hb dX3_hasSeat_13 (by decide) ?_
      obtain rfl := Option.some.inj hres
      exact W.zret hx hb hr (by decide) (fun t ht hW => ⟨rfl, ht⟩) (fun q h => absurd h List.not_mem_nil) dX3_hasSeat_17
theorem hsX3_hasSeat : yX3_hasSeat.cls = RX3 ∧ yX3_hasSeat.cls ≠ "java/lang/invoke/MethodHandle" ∧ yX3_hasSeat.cls ≠ "java/lang/invoke/VarHandle" ∧ (parseMethodDescriptor yX3_hasSeat.desc).map (fun d => d.parameters.length) = some 1 := by decide +kernel
set_option maxHeartbeats 4000000 in
set_option maxRecDepth 100000 in
theorem kX5_mirrored (l : Launch) (G : va_G) (cI cZ : ClassId) (tl : List (ClassId × FieldType)) (x0 x1 x2 : Int32) (res : Int32) (hres : fX5_mirrored x0 x1 x2 = some res) : Met l yX5_mirrored wsX5_mirrored rX5_mirrored (va_Pc [.int x0, .int x1, .int x2] (PRO G cI cZ tl [])) (Sp res) 0 0 (fun _ => False) := by
  refine Met.ofW (cc := cX5_mirrored) (maxL := 3) (ret := (some .int)) (by decide) rfl ?_
  intro p e s m args below meth c s₁ B hml hv
  obtain ⟨rfl, hP, hK⟩ := hv
  have hx := B.exec
  have hb := B.bytes
  have hr := B.returns
  have hts := atoms_spec (ws := wsX5_mirrored) B.pre
  have hown : s.vm.findClass RX5 = some m.cls := findClass_of_methodNamed B.named
  have hlocks := B.notSynchronized
  have hl := lv_entry ([.int x0, .int x1, .int x2] : List Value) (n := 3) (Nat.le_of_ble_eq_true rfl)
  rw [lg_entry_eq]
  generalize (lg_sl ([.int x0, .int x1, .int x2] : List Value) ++ List.replicate (3 - (lg_sl ([.int x0, .int x1, .int x2] : List Value)).length) Slot.unset).toArray = ls at hl ⊢
  have hl : lv_has ls 3 [(0, .int x0), (1, .int x1), (2, .int x2)] := hl
  refine lv_iload_n hx hb dX5_mirrored_0 rfl (lv_at hl 0 rfl) ?_
  refine lv_iload_n hx hb dX5_mirrored_1 rfl (lv_at hl 1 rfl) ?_
  refine lv_imul hx hb dX5_mirrored_2 ?_
  refine lv_iload_n hx hb dX5_mirrored_3 rfl (lv_at hl 0 rfl) ?_
  refine lv_iconst (v := 1) hx hb dX5_mirrored_4 (by decide) ?_
  refine lv_iand hx hb dX5_mirrored_5 ?_
  refine lv_if_ne (tgt := 13) hx hb dX5_mirrored_6 (by decide) (fun h1 => ?_) (fun h1 => ?_)
  · have hres := ite_f hres h1
    refine lv_iload_n hx hb dX5_mirrored_13 rfl (lv_at hl 1 rfl) ?_
    refine lv_iload_n hx hb dX5_mirrored_14 rfl (lv_at hl 2 rfl) ?_
    refine lv_isub hx hb dX5_mirrored_15 ?_
    refine lv_iadd hx hb dX5_mirrored_16 ?_
    obtain rfl := Option.some.inj hres
    exact W.iret hx hb hr (fun t ht hW => ⟨rfl, ht⟩) (fun q h => absurd h List.not_mem_nil) dX5_mirrored_17
  · have hres := ite_t hres h1
    refine lv_iload_n hx hb dX5_mirrored_9 rfl (lv_at hl 2 rfl) ?_
    refine lv_goto (tgt := 16) hx hb dX5_mirrored_10 (by decide) ?_
    refine lv_iadd hx hb dX5_mirrored_16 ?_
    obtain rfl := Option.some.inj hres
    exact W.iret hx hb hr (fun t ht hW => ⟨rfl, ht⟩) (fun q h => absurd h List.not_mem_nil) dX5_mirrored_17
theorem hsX5_mirrored : yX5_mirrored.cls ≠ "java/lang/invoke/MethodHandle" ∧ yX5_mirrored.cls ≠ "java/lang/invoke/VarHandle" ∧ (parseMethodDescriptor yX5_mirrored.desc).map (fun d => d.parameters.length) = some 3 := by decide +kernel
set_option maxHeartbeats 4000000 in
set_option maxRecDepth 100000 in
theorem kX3_imageX (l : Launch) (G : va_G) (cI cZ : ClassId) (tl : List (ClassId × FieldType)) (A0 A0_swallows A0_seatX A0_seatY A0_curtainX A0_curtainFrom A0_curtainTo : Nat) (c0 : Nat → Int32) (x1 : Int32) (res : Int32) (hres : fX3_imageX c0 x1 = some res) : Met l yX3_imageX wsX3_imageX rX3_imageX (va_Pc [.ref A0, .int x1] (PRO G cI cZ tl [o3 A0 c0 A0_swallows A0_seatX A0_seatY A0_curtainX A0_curtainFrom A0_curtainTo])) (Sp res) 0 0 (fun _ => False) := by
  refine Met.ofW (cc := cX3_imageX) (maxL := 2) (ret := (some .int)) (by decide) rfl ?_
  intro p e s m args below meth c s₁ B hml hv
  obtain ⟨rfl, hP, hK⟩ := hv
  have hx := B.exec
  have hb := B.bytes
  have hr := B.returns
  have hts := atoms_spec (ws := wsX3_imageX) B.pre
  have hown : s.vm.findClass RX3 = some m.cls := findClass_of_methodNamed B.named
  have hlocks := B.notSynchronized
  have hl := lv_entry ([.ref A0, .int x1] : List Value) (n := 2) (Nat.le_of_ble_eq_true rfl)
  rw [lg_entry_eq]
  generalize (lg_sl ([.ref A0, .int x1] : List Value) ++ List.replicate (2 - (lg_sl ([.ref A0, .int x1] : List Value)).length) Slot.unset).toArray = ls at hl ⊢
  have hl : lv_has ls 2 [(0, .ref A0), (1, .int x1)] := hl
  refine lv_iload_n hx hb dX3_imageX_0 rfl (lv_at hl 1 rfl) ?_
  refine lv_aload_n hx hb dX3_imageX_1 rfl (lv_at hl 0 rfl) ?_
  refine va_get (D := G) (ci := 3) (v := .int (c0 0)) (C := RX3) (T := TX3) (N := 12) hx hb hts (fun w h => (List.mem_cons_of_mem _ (List.mem_append_right _ h))) hown hK.1 hP 0 rfl rfl 0 (by decide) (hts (.fieldLink RX3 33 "EchoSeats$Scene" "length" "I") (List.mem_of_getElem? (i := 1) rfl)) (fun _ h9 => h9) rfl dX3_imageX_2 ?_
  refine lv_aload_n hx hb dX3_imageX_5 rfl (lv_at hl 0 rfl) ?_
  refine va_get (D := G) (ci := 3) (v := .int (c0 2)) (C := RX3) (T := TX3) (N := 12) hx hb hts (fun w h => (List.mem_cons_of_mem _ (List.mem_append_right _ h))) hown hK.1 hP 0 rfl rfl 2 (by decide) (hts (.fieldLink RX3 40 "EchoSeats$Scene" "sourceX" "I") (List.mem_of_getElem? (i := 2) rfl)) (fun _ h9 => h9) rfl dX3_imageX_6 ?_
  obtain ⟨r1, hr1, hres⟩ := bi_1 hres
  refine x_cp (va_runSN (As := [.int x1, .int (c0 0), .int (c0 2)]) (rest := []) ⟨hx, hb, hml, hown, hts⟩ (kX5_mirrored l G cI cZ tl x1 (c0 0) (c0 2) r1 hr1) ⟨va_cnB 3 hts gX3_imageX_X5_mirrored_n64 rfl rfl rfl hK.2.2.1 (hts (.initialized RX5) (List.mem_of_getElem? (i := 4) rfl)) hsX5_mirrored ⟨Nat.le_of_ble_eq_true rfl, Nat.le_of_ble_eq_true rfl⟩, (hts (.static yX5_mirrored) (List.mem_of_getElem? (i := 3) rfl)), trivial⟩ ⟨PRO_blind, PRO_at va_P0 hK⟩ rfl rfl hl.1 rfl (lv_room (Nat.le_of_ble_eq_true rfl)) dX3_imageX_9 ⟨Nat.zero_le _, Nat.zero_le _⟩) ?_
  obtain rfl := Option.some.inj hres
  exact W.iret hx hb hr (fun t ht hW => ⟨rfl, ht⟩) (fun q h => absurd h List.not_mem_nil) dX3_imageX_12
theorem hsX3_imageX : yX3_imageX.cls = RX3 ∧ yX3_imageX.cls ≠ "java/lang/invoke/MethodHandle" ∧ yX3_imageX.cls ≠ "java/lang/invoke/VarHandle" ∧ (parseMethodDescriptor yX3_imageX.desc).map (fun d => d.parameters.length) = some 1 := by decide +kernel
set_option maxHeartbeats 4000000 in
set_option maxRecDepth 100000 in
theorem kX3_imageY (l : Launch) (G : va_G) (cI cZ : ClassId) (tl : List (ClassId × FieldType)) (A0 A0_swallows A0_seatX A0_seatY A0_curtainX A0_curtainFrom A0_curtainTo : Nat) (c0 : Nat → Int32) (x1 : Int32) (res : Int32) (hres : fX3_imageY c0 x1 = some res) : Met l yX3_imageY wsX3_imageY rX3_imageY (va_Pc [.ref A0, .int x1] (PRO G cI cZ tl [o3 A0 c0 A0_swallows A0_seatX A0_seatY A0_curtainX A0_curtainFrom A0_curtainTo])) (Sp res) 0 0 (fun _ => False) := by
  refine Met.ofW (cc := cX3_imageY) (maxL := 2) (ret := (some .int)) (by decide) rfl ?_
  intro p e s m args below meth c s₁ B hml hv
  obtain ⟨rfl, hP, hK⟩ := hv
  have hx := B.exec
  have hb := B.bytes
  have hr := B.returns
  have hts := atoms_spec (ws := wsX3_imageY) B.pre
  have hown : s.vm.findClass RX3 = some m.cls := findClass_of_methodNamed B.named
  have hlocks := B.notSynchronized
  have hl := lv_entry ([.ref A0, .int x1] : List Value) (n := 2) (Nat.le_of_ble_eq_true rfl)
  rw [lg_entry_eq]
  generalize (lg_sl ([.ref A0, .int x1] : List Value) ++ List.replicate (2 - (lg_sl ([.ref A0, .int x1] : List Value)).length) Slot.unset).toArray = ls at hl ⊢
  have hl : lv_has ls 2 [(0, .ref A0), (1, .int x1)] := hl
  refine lv_iload_n hx hb dX3_imageY_0 rfl (lv_at hl 1 rfl) ?_
  refine lv_aload_n hx hb dX3_imageY_1 rfl (lv_at hl 0 rfl) ?_
  refine va_get (D := G) (ci := 3) (v := .int (c0 1)) (C := RX3) (T := TX3) (N := 12) hx hb hts (fun w h => (List.mem_cons_of_mem _ (List.mem_append_right _ h))) hown hK.1 hP 0 rfl rfl 1 (by decide) (hts (.fieldLink RX3 37 "EchoSeats$Scene" "breadth" "I") (List.mem_of_getElem? (i := 1) rfl)) (fun _ h9 => h9) rfl dX3_imageY_2 ?_
  refine lv_aload_n hx hb dX3_imageY_5 rfl (lv_at hl 0 rfl) ?_
  refine va_get (D := G) (ci := 3) (v := .int (c0 3)) (C := RX3) (T := TX3) (N := 12) hx hb hts (fun w h => (List.mem_cons_of_mem _ (List.mem_append_right _ h))) hown hK.1 hP 0 rfl rfl 3 (by decide) (hts (.fieldLink RX3 43 "EchoSeats$Scene" "sourceY" "I") (List.mem_of_getElem? (i := 2) rfl)) (fun _ h9 => h9) rfl dX3_imageY_6 ?_
  obtain ⟨r1, hr1, hres⟩ := bi_1 hres
  refine x_cp (va_runSN (As := [.int x1, .int (c0 1), .int (c0 3)]) (rest := []) ⟨hx, hb, hml, hown, hts⟩ (kX5_mirrored l G cI cZ tl x1 (c0 1) (c0 3) r1 hr1) ⟨va_cnB 3 hts gX3_imageY_X5_mirrored_n64 rfl rfl rfl hK.2.2.1 (hts (.initialized RX5) (List.mem_of_getElem? (i := 4) rfl)) hsX5_mirrored ⟨Nat.le_of_ble_eq_true rfl, Nat.le_of_ble_eq_true rfl⟩, (hts (.static yX5_mirrored) (List.mem_of_getElem? (i := 3) rfl)), trivial⟩ ⟨PRO_blind, PRO_at va_P0 hK⟩ rfl rfl hl.1 rfl (lv_room (Nat.le_of_ble_eq_true rfl)) dX3_imageY_9 ⟨Nat.zero_le _, Nat.zero_le _⟩) ?_
  obtain rfl := Option.some.inj hres
  exact W.iret hx hb hr (fun t ht hW => ⟨rfl, ht⟩) (fun q h => absurd h List.not_mem_nil) dX3_imageY_12
theorem hsX3_imageY : yX3_imageY.cls = RX3 ∧ yX3_imageY.cls ≠ "java/lang/invoke/MethodHandle" ∧ yX3_imageY.cls ≠ "java/lang/invoke/VarHandle" ∧ (parseMethodDescriptor yX3_imageY.desc).map (fun d => d.parameters.length) = some 1 := by decide +kernel
set_option maxHeartbeats 4000000 in
set_option maxRecDepth 100000 in
theorem kX3_curtainMeets (l : Launch) (G : va_G) (cI cZ : ClassId) (tl : List (ClassId × FieldType)) (A0 A0_swallows A0_seatX A0_seatY A0_curtainX A0_curtainFrom A0_curtainTo : Nat) (c0 c0_curtainFrom c0_curtainTo : Nat → Int32) (x1 x2 x3 : Int32) (res : Int32) (hres : fX3_curtainMeets c0 c0_curtainFrom c0_curtainTo x1 x2 x3 = some res) : Met l yX3_curtainMeets wsX3_curtainMeets rX3_curtainMeets (va_Pc [.ref A0, .int x1, .int x2, .int x3] (PRO G cI cZ tl [o3 A0 c0 A0_swallows A0_seatX A0_seatY A0_curtainX A0_curtainFrom A0_curtainTo, (A0_curtainFrom, .inl (cI, 3, .inl c0_curtainFrom)), (A0_curtainTo, .inl (cI, 3, .inl c0_curtainTo))])) (Sp res) 0 0 (fun _ => False) := by
  refine Met.ofW (cc := cX3_curtainMeets) (maxL := 8) (ret := (some .boolean)) (by decide) rfl ?_
  intro p e s m args below meth c s₁ B hml hv
  obtain ⟨rfl, hP, hK⟩ := hv
  have hx := B.exec
  have hb := B.bytes
  have hr := B.returns
  have hts := atoms_spec (ws := wsX3_curtainMeets) B.pre
  have hown : s.vm.findClass RX3 = some m.cls := findClass_of_methodNamed B.named
  have hlocks := B.notSynchronized
  have hl := lv_entry ([.ref A0, .int x1, .int x2, .int x3] : List Value) (n := 8) (Nat.le_of_ble_eq_true rfl)
  rw [lg_entry_eq]
  generalize (lg_sl ([.ref A0, .int x1, .int x2, .int x3] : List Value) ++ List.replicate (8 - (lg_sl ([.ref A0, .int x1, .int x2, .int x3] : List Value)).length) Slot.unset).toArray = ls at hl ⊢
  have hl : lv_has ls 8 [(0, .ref A0), (1, .int x1), (2, .int x2), (3, .int x3)] := hl
  have J49 : ∀ (v1_j49 : Int32) (v3_j49 : Int32) (z0_j49 : Int32) (ls : Array Slot), fX3_curtainMeets_j49 c0 c0_curtainFrom c0_curtainTo v1_j49 v3_j49 z0_j49 = some res → lv_has ls 8 [(0, .ref A0), (1, .int v1_j49), (3, .int v3_j49)] → WRO p l e wsX3_curtainMeets rX3_curtainMeets s m ([.ref A0, .int x1, .int x2, .int x3] : List Value).toArray below meth c res (F0 m 49 ls [.int z0_j49]) := by
    intro v1_j49 v3_j49 z0_j49 ls hres hl
    refine lv_istore (lv' := [(7, .int z0_j49), (0, .ref A0), (1, .int v1_j49), (3, .int v3_j49)]) hx hb dX3_curtainMeets_49 hl (by decide) rfl (fun ls hl => ?_)
    refine lv_iload hx hb dX3_curtainMeets_51 (lv_at hl 0 rfl) ?_
    refine lv_aload_n hx hb dX3_curtainMeets_53 rfl (lv_at hl 1 rfl) ?_
    refine va_get (D := G) (ci := 3) (v := .ref A0_curtainFrom) (C := RX3) (T := TX3) (N := 12) hx hb hts (fun w h => (List.mem_cons_of_mem _ (List.mem_append_right _ h))) hown hK.1 hP 0 rfl rfl 10 (by decide) (hts (.fieldLink RX3 24 "EchoSeats$Scene" "curtainFrom" "[I") (List.mem_of_getElem? (i := 2) rfl)) (fun _ h9 => h9) rfl dX3_curtainMeets_54 ?_
    refine lv_iload_n hx hb dX3_curtainMeets_57 rfl (lv_at hl 2 rfl) ?_
    have g1 := gd_1 hres
    have hres := gd_2 hres
    refine x_iald hx hb hK hP 1 rfl (j := (Int32.toNatClampNeg v1_j49)) rfl g1 dX3_curtainMeets_58 ?_
    refine lv_iload_n hx hb dX3_curtainMeets_59 rfl (lv_at hl 3 rfl) ?_
    refine lv_imul hx hb dX3_curtainMeets_60 ?_
    refine lv_icmp_lt (tgt := 81) hx hb dX3_curtainMeets_61 (by decide) (fun h2 => ?_) (fun h2 => ?_)
    · have hres := ite_t hres h2
      refine lv_iconst (v := 0) hx hb dX3_curtainMeets_81 (by decide) ?_
      obtain rfl := Option.some.inj hres
      exact W.zret hx hb hr (by decide) (fun t ht hW => ⟨rfl, ht⟩) (fun q h => absurd h List.not_mem_nil) dX3_curtainMeets_82
    · have hres := ite_f hres h2
      refine lv_iload hx hb dX3_curtainMeets_64 (lv_at hl 0 rfl) ?_
      refine lv_aload_n hx hb dX3_curtainMeets_66 rfl (lv_at hl 1 rfl) ?_
      refine va_get (D := G) (ci := 3) (v := .ref A0_curtainTo) (C := RX3) (T := TX3) (N := 12) hx hb hts (fun w h => (List.mem_cons_of_mem _ (List.mem_append_right _ h))) hown hK.1 hP 0 rfl rfl 11 (by decide) (hts (.fieldLink RX3 27 "EchoSeats$Scene" "curtainTo" "[I") (List.mem_of_getElem? (i := 3) rfl)) (fun _ h9 => h9) rfl dX3_curtainMeets_67 ?_
      refine lv_iload_n hx hb dX3_curtainMeets_70 rfl (lv_at hl 2 rfl) ?_
      have g3 := gd_1 hres
      have hres := gd_2 hres
      refine x_iald hx hb hK hP 2 rfl (j := (Int32.toNatClampNeg v1_j49)) rfl g3 dX3_curtainMeets_71 ?_
      refine lv_iload_n hx hb dX3_curtainMeets_72 rfl (lv_at hl 3 rfl) ?_
      refine lv_imul hx hb dX3_curtainMeets_73 ?_
      refine lv_icmp_gt (tgt := 81) hx hb dX3_curtainMeets_74 (by decide) (fun h4 => ?_) (fun h4 => ?_)
      · have hres := ite_t hres h4
        refine lv_iconst (v := 0) hx hb dX3_curtainMeets_81 (by decide) ?_
        obtain rfl := Option.some.inj hres
        exact W.zret hx hb hr (by decide) (fun t ht hW => ⟨rfl, ht⟩) (fun q h => absurd h List.not_mem_nil) dX3_curtainMeets_82
      · have hres := ite_f hres h4
        refine lv_iconst (v := 1) hx hb dX3_curtainMeets_77 (by decide) ?_
        refine lv_goto (tgt := 82) hx hb dX3_curtainMeets_78 (by decide) ?_
        obtain rfl := Option.some.inj hres
        exact W.zret hx hb hr (by decide) (fun t ht hW => ⟨rfl, ht⟩) (fun q h => absurd h List.not_mem_nil) dX3_curtainMeets_82
  refine lv_aload_n hx hb dX3_curtainMeets_0 rfl (lv_at hl 0 rfl) ?_
  refine va_get (D := G) (ci := 3) (v := .int (c0 1)) (C := RX3) (T := TX3) (N := 12) hx hb hts (fun w h => (List.mem_cons_of_mem _ (List.mem_append_right _ h))) hown hK.1 hP 0 rfl rfl 1 (by decide) (hts (.fieldLink RX3 37 "EchoSeats$Scene" "breadth" "I") (List.mem_of_getElem? (i := 1) rfl)) (fun _ h9 => h9) rfl dX3_curtainMeets_1 ?_
  refine lv_iload_n hx hb dX3_curtainMeets_4 rfl (lv_at hl 3 rfl) ?_
  refine lv_imul hx hb dX3_curtainMeets_5 ?_
  refine lv_topi (fun y5 ey5 => ?_)
  have hres := bnd_z ey5 hres
  refine lv_istore (lv' := [(4, .int y5), (0, .ref A0), (1, .int x1), (2, .int x2), (3, .int x3)]) hx hb dX3_curtainMeets_6 hl (by decide) rfl (fun ls hl => ?_)
  refine lv_iload hx hb dX3_curtainMeets_8 (lv_at hl 0 rfl) ?_
  refine lv_if_gt (tgt := 15) hx hb dX3_curtainMeets_10 (by decide) (fun h6 => ?_) (fun h6 => ?_)
  · have hres := ite_t hres h6
    refine lv_iload_n hx hb dX3_curtainMeets_15 rfl (lv_at hl 3 rfl) ?_
    refine lv_iload hx hb dX3_curtainMeets_16 (lv_at hl 0 rfl) ?_
    obtain ⟨r7, hr7, hres⟩ := bi_1 hres
    refine x_cp (va_runS (As := [.int x2, .int y5]) (rest := []) ⟨hx, hb, hml, hown, hts⟩ (kJ9_floorDiv_7cf53 l G cI cZ tl x2 y5 r7 hr7) (va_cwS 2 hts gX3_curtainMeets_J9_floorDiv_7cf53 rfl rfl rfl hsJ9_floorDiv_7cf53 ⟨Nat.le_of_ble_eq_true rfl, Nat.le_of_ble_eq_true rfl⟩) ⟨PRO_blind, PRO_at va_P0 hK⟩ rfl rfl hl.1 rfl (lv_room (Nat.le_of_ble_eq_true rfl)) dX3_curtainMeets_18 ⟨Nat.zero_le _, Nat.zero_le _⟩) ?_
    refine lv_istore (lv' := [(5, .int r7), (4, .int y5), (0, .ref A0), (1, .int x1), (2, .int x2), (3, .int x3)]) hx hb dX3_curtainMeets_21 hl (by decide) rfl (fun ls hl => ?_)
    refine lv_iload_n hx hb dX3_curtainMeets_23 rfl (lv_at hl 4 rfl) ?_
    refine lv_iload hx hb dX3_curtainMeets_24 (lv_at hl 0 rfl) ?_
    refine lv_iload hx hb dX3_curtainMeets_26 (lv_at hl 1 rfl) ?_
    refine lv_imul hx hb dX3_curtainMeets_28 ?_
    refine lv_isub hx hb dX3_curtainMeets_29 ?_
    refine lv_topi (fun y8 ey8 => ?_)
    have hres := bnd_z ey8 hres
    refine lv_istore (lv' := [(6, .int y8), (5, .int r7), (4, .int y5), (0, .ref A0), (1, .int x1), (2, .int x2), (3, .int x3)]) hx hb dX3_curtainMeets_30 hl (by decide) rfl (fun ls hl => ?_)
    refine lv_iload hx hb dX3_curtainMeets_32 (lv_at hl 1 rfl) ?_
    refine lv_iconst (v := 1) hx hb dX3_curtainMeets_34 (by decide) ?_
    refine lv_iand hx hb dX3_curtainMeets_35 ?_
    refine lv_if_ne (tgt := 44) hx hb dX3_curtainMeets_36 (by decide) (fun h9 => ?_) (fun h9 => ?_)
    · have hres := ite_f hres h9
      refine lv_iload hx hb dX3_curtainMeets_44 (lv_at hl 2 rfl) ?_
      refine lv_iload hx hb dX3_curtainMeets_46 (lv_at hl 0 rfl) ?_
      refine lv_isub hx hb dX3_curtainMeets_48 ?_
      exact J49 x1 x3 (y5 - y8) _ hres (lv_sub hl [3, 4, 6] rfl)
    · have hres := ite_t hres h9
      refine lv_iload hx hb dX3_curtainMeets_39 (lv_at hl 0 rfl) ?_
      refine lv_goto (tgt := 49) hx hb dX3_curtainMeets_41 (by decide) ?_
      exact J49 x1 x3 y8 _ hres (lv_sub hl [3, 4, 6] rfl)
  · have hres := ite_f hres h6
    refine lv_iconst (v := 0) hx hb dX3_curtainMeets_13 (by decide) ?_
    obtain rfl := Option.some.inj hres
    exact W.zret hx hb hr (by decide) (fun t ht hW => ⟨rfl, ht⟩) (fun q h => absurd h List.not_mem_nil) dX3_curtainMeets_14
theorem hsX3_curtainMeets : yX3_curtainMeets.cls = RX3 ∧ yX3_curtainMeets.cls ≠ "java/lang/invoke/MethodHandle" ∧ yX3_curtainMeets.cls ≠ "java/lang/invoke/VarHandle" ∧ (parseMethodDescriptor yX3_curtainMeets.desc).map (fun d => d.parameters.length) = some 3 := by decide +kernel
set_option maxHeartbeats 4000000 in
set_option maxRecDepth 100000 in
theorem kX3_isHidden (l : Launch) (G : va_G) (cI cZ : ClassId) (tl : List (ClassId × FieldType)) (A0 A0_swallows A0_seatX A0_seatY A0_curtainX A0_curtainFrom A0_curtainTo : Nat) (c0 c0_curtainX c0_curtainFrom c0_curtainTo : Nat → Int32) (x1 x2 x3 x4 : Int32) (res : Int32) (hres : fX3_isHidden c0 c0_curtainX c0_curtainFrom c0_curtainTo x1 x2 x3 x4 = some res) : Met l yX3_isHidden wsX3_isHidden rX3_isHidden (va_Pc [.ref A0, .int x1, .int x2, .int x3, .int x4] (PRO G cI cZ tl [o3 A0 c0 A0_swallows A0_seatX A0_seatY A0_curtainX A0_curtainFrom A0_curtainTo, (A0_curtainX, .inl (cI, 3, .inl c0_curtainX)), (A0_curtainFrom, .inl (cI, 3, .inl c0_curtainFrom)), (A0_curtainTo, .inl (cI, 3, .inl c0_curtainTo))])) (Sp res) 0 0 (fun _ => False) := by
  refine Met.ofW (cc := cX3_isHidden) (maxL := 13) (ret := (some .boolean)) (by decide) rfl ?_
  intro p e s m args below meth c s₁ B hml hv
  obtain ⟨rfl, hP, hK⟩ := hv
  have hx := B.exec
  have hb := B.bytes
  have hr := B.returns
  have hts := atoms_spec (ws := wsX3_isHidden) B.pre
  have hown : s.vm.findClass RX3 = some m.cls := findClass_of_methodNamed B.named
  have hlocks := B.notSynchronized
  have hl := lv_entry ([.ref A0, .int x1, .int x2, .int x3, .int x4] : List Value) (n := 13) (Nat.le_of_ble_eq_true rfl)
  rw [lg_entry_eq]
  generalize (lg_sl ([.ref A0, .int x1, .int x2, .int x3, .int x4] : List Value) ++ List.replicate (13 - (lg_sl ([.ref A0, .int x1, .int x2, .int x3, .int x4] : List Value)).length) Slot.unset).toArray = ls at hl ⊢
  have hl : lv_has ls 13 [(0, .ref A0), (1, .int x1), (2, .int x2), (3, .int x3), (4, .int x4)] := hl
  refine lv_aload_n hx hb dX3_isHidden_0 rfl (lv_at hl 0 rfl) ?_
  refine lv_iload_n hx hb dX3_isHidden_1 rfl (lv_at hl 1 rfl) ?_
  obtain ⟨r1, hr1, hres⟩ := bi_1 hres
  refine x_cp (va_runV (As := [.int x1]) (rest := []) ⟨hx, hb, hml, hown, hts⟩ (kX3_imageX l G cI cZ tl A0 A0_swallows A0_seatX A0_seatY A0_curtainX A0_curtainFrom A0_curtainTo c0 x1 r1 hr1) (cwV 1 hts gX3_isHidden_X3_imageX rfl rfl rfl hsX3_imageX ⟨Nat.le_of_ble_eq_true rfl, Nat.le_of_ble_eq_true rfl⟩) ⟨PRO_blind, va_recv hK.1 hP (ci := 3) (q0 := 0) rfl rfl, PRO_at (hP.sub (ws' := [o3 A0 c0 A0_swallows A0_seatX A0_seatY A0_curtainX A0_curtainFrom A0_curtainTo]) [0] rfl) hK⟩ rfl rfl hl.1 rfl (lv_room (Nat.le_of_ble_eq_true rfl)) dX3_isHidden_2 ⟨Nat.zero_le _, Nat.zero_le _⟩) ?_
  refine lv_istore (lv' := [(5, .int r1), (0, .ref A0), (1, .int x1), (2, .int x2), (3, .int x3), (4, .int x4)]) hx hb dX3_isHidden_5 hl (by decide) rfl (fun ls hl => ?_)
  refine lv_aload_n hx hb dX3_isHidden_7 rfl (lv_at hl 1 rfl) ?_
  refine lv_iload_n hx hb dX3_isHidden_8 rfl (lv_at hl 3 rfl) ?_
  obtain ⟨r2, hr2, hres⟩ := bi_1 hres
  refine x_cp (va_runV (As := [.int x2]) (rest := []) ⟨hx, hb, hml, hown, hts⟩ (kX3_imageY l G cI cZ tl A0 A0_swallows A0_seatX A0_seatY A0_curtainX A0_curtainFrom A0_curtainTo c0 x2 r2 hr2) (cwV 1 hts gX3_isHidden_X3_imageY rfl rfl rfl hsX3_imageY ⟨Nat.le_of_ble_eq_true rfl, Nat.le_of_ble_eq_true rfl⟩) ⟨PRO_blind, va_recv hK.1 hP (ci := 3) (q0 := 0) rfl rfl, PRO_at (hP.sub (ws' := [o3 A0 c0 A0_swallows A0_seatX A0_seatY A0_curtainX A0_curtainFrom A0_curtainTo]) [0] rfl) hK⟩ rfl rfl hl.1 rfl (lv_room (Nat.le_of_ble_eq_true rfl)) dX3_isHidden_9 ⟨Nat.zero_le _, Nat.zero_le _⟩) ?_
  refine lv_istore (lv' := [(6, .int r2), (5, .int r1), (0, .ref A0), (1, .int x1), (2, .int x2), (3, .int x3), (4, .int x4)]) hx hb dX3_isHidden_12 hl (by decide) rfl (fun ls hl => ?_)
  refine lv_iconst (v := 0) hx hb dX3_isHidden_14 (by decide) ?_
  refine lv_istore (lv' := [(7, .int 0), (6, .int r2), (5, .int r1), (0, .ref A0), (1, .int x1), (2, .int x2), (3, .int x3), (4, .int x4)]) hx hb dX3_isHidden_15 hl (by decide) rfl (fun ls hl => ?_)
  have Q17 : ∀ (v3_L17 : Int32) (v4_L17 : Int32) (v5_L17 : Int32) (v6_L17 : Int32) (n17 : Nat) (v7_L17 : Int32) (ls : Array Slot), LPX (fX3_isHidden_L17 c0 c0_curtainX c0_curtainFrom c0_curtainTo v3_L17 v4_L17 v5_L17 v6_L17) n17 v7_L17 = some res → lv_has ls 13 [(0, .ref A0), (3, .int v3_L17), (4, .int v4_L17), (5, .int v5_L17), (6, .int v6_L17), (7, .int v7_L17)] → WRO p l e wsX3_isHidden rX3_isHidden s m ([.ref A0, .int x1, .int x2, .int x3, .int x4] : List Value).toArray below meth c res (F0 m 17 ls []) := by
    intro v3_L17 v4_L17 v5_L17 v6_L17 n17
    induction n17 with
    | zero =>
      intro v7_L17 ls hres
      exact absurd (LPX_0.symm.trans hres) (fun h => by cases h)
    | succ n17 ih17 =>
      intro v7_L17 ls hres hl
      have hres := LPX_s.symm.trans hres
      refine lv_iload hx hb dX3_isHidden_17 (lv_at hl 5 rfl) ?_
      refine lv_aload_n hx hb dX3_isHidden_19 rfl (lv_at hl 0 rfl) ?_
      refine va_get (D := G) (ci := 3) (v := .int (c0 5)) (C := RX3) (T := TX3) (N := 12) hx hb hts (fun w h => (List.mem_cons_of_mem _ (List.mem_append_right _ h))) hown hK.1 hP 0 rfl rfl 5 (by decide) (hts (.fieldLink RX3 49 "EchoSeats$Scene" "curtains" "I") (List.mem_of_getElem? (i := 1) rfl)) (fun _ h9 => h9) rfl dX3_isHidden_20 ?_
      refine lv_icmp_ge (tgt := 146) hx hb dX3_isHidden_23 (by decide) (fun h3 => ?_) (fun h3 => ?_)
      · have hres := ite_t hres h3
        refine lv_iconst (v := 0) hx hb dX3_isHidden_146 (by decide) ?_
        obtain rfl := Option.some.inj hres
        exact W.zret hx hb hr (by decide) (fun t ht hW => ⟨rfl, ht⟩) (fun q h => absurd h List.not_mem_nil) dX3_isHidden_147
      · have hres := ite_f hres h3
        refine lv_bipush (v := (-3)) hx hb dX3_isHidden_26 (by decide) ?_
        refine lv_istore (lv' := [(8, .int (-3)), (0, .ref A0), (3, .int v3_L17), (4, .int v4_L17), (5, .int v5_L17), (6, .int v6_L17), (7, .int v7_L17)]) hx hb dX3_isHidden_28 hl (by decide) rfl (fun ls hl => ?_)
        have Q30 : ∀ (v7_L30 : Int32) (n30 : Nat) (v8_L30 : Int32) (ls : Array Slot), LPX (fX3_isHidden_L30 c0 c0_curtainX c0_curtainFrom c0_curtainTo v3_L17 v4_L17 v5_L17 v6_L17 v7_L30 (LPX (fX3_isHidden_L17 c0 c0_curtainX c0_curtainFrom c0_curtainTo v3_L17 v4_L17 v5_L17 v6_L17) n17)) n30 v8_L30 = some res → lv_has ls 13 [(0, .ref A0), (3, .int v3_L17), (4, .int v4_L17), (5, .int v5_L17), (6, .int v6_L17), (7, .int v7_L30), (8, .int v8_L30)] → WRO p l e wsX3_isHidden rX3_isHidden s m ([.ref A0, .int x1, .int x2, .int x3, .int x4] : List Value).toArray below meth c res (F0 m 30 ls []) := by
          intro v7_L30 n30
          induction n30 with
          | zero =>
            intro v8_L30 ls hres
            exact absurd (LPX_0.symm.trans hres) (fun h => by cases h)
          | succ n30 ih30 =>
            intro v8_L30 ls hres hl
            have hres := LPX_s.symm.trans hres
            have J100 : ∀ (v8_j100 : Int32) (v10_j100 : Int32) (v11_j100 : Int32) (z0_j100 : Int32) (ls : Array Slot), fX3_isHidden_j100 c0 c0_curtainX c0_curtainFrom c0_curtainTo v3_L17 v4_L17 v5_L17 v6_L17 v7_L30 v8_j100 v10_j100 v11_j100 z0_j100 (LPX (fX3_isHidden_L17 c0 c0_curtainX c0_curtainFrom c0_curtainTo v3_L17 v4_L17 v5_L17 v6_L17) n17) (LPX (fX3_isHidden_L30 c0 c0_curtainX c0_curtainFrom c0_curtainTo v3_L17 v4_L17 v5_L17 v6_L17 v7_L30 (LPX (fX3_isHidden_L17 c0 c0_curtainX c0_curtainFrom c0_curtainTo v3_L17 v4_L17 v5_L17 v6_L17) n17)) n30) = some res → lv_has ls 13 [(0, .ref A0), (3, .int v3_L17), (4, .int v4_L17), (5, .int v5_L17), (6, .int v6_L17), (7, .int v7_L30), (8, .int v8_j100), (10, .int v10_j100), (11, .int v11_j100)] → WRO p l e wsX3_isHidden rX3_isHidden s m ([.ref A0, .int x1, .int x2, .int x3, .int x4] : List Value).toArray below meth c res (F0 m 100 ls [.int z0_j100]) := by
              intro v8_j100 v10_j100 v11_j100 z0_j100 ls hres hl
              refine lv_istore (lv' := [(12, .int z0_j100), (0, .ref A0), (3, .int v3_L17), (4, .int v4_L17), (5, .int v5_L17), (6, .int v6_L17), (7, .int v7_L30), (8, .int v8_j100), (10, .int v10_j100), (11, .int v11_j100)]) hx hb dX3_isHidden_100 hl (by decide) rfl (fun ls hl => ?_)
              refine lv_iload hx hb dX3_isHidden_102 (lv_at hl 0 rfl) ?_
              refine lv_if_eq (tgt := 134) hx hb dX3_isHidden_104 (by decide) (fun h4 => ?_) (fun h4 => ?_)
              · have hres := ite_t hres h4
                refine lv_iinc (v := (v8_j100 + 1)) (lv' := [(8, .int (v8_j100 + 1)), (12, .int z0_j100), (0, .ref A0), (3, .int v3_L17), (4, .int v4_L17), (5, .int v5_L17), (6, .int v6_L17), (7, .int v7_L30), (10, .int v10_j100), (11, .int v11_j100)]) hx hb dX3_isHidden_134 hl (k := 7) rfl rfl (by decide) rfl (fun ls hl => ?_)
                refine lv_goto (tgt := 30) hx hb dX3_isHidden_137 (by decide) ?_
                exact ih30 (v8_j100 + 1) _ hres (lv_sub hl [2, 3, 4, 5, 6, 7, 0] rfl)
              · have hres := ite_f hres h4
                refine lv_aload_n hx hb dX3_isHidden_107 rfl (lv_at hl 1 rfl) ?_
                refine lv_iload hx hb dX3_isHidden_108 (lv_at hl 6 rfl) ?_
                refine lv_iload hx hb dX3_isHidden_110 (lv_at hl 5 rfl) ?_
                refine lv_iload hx hb dX3_isHidden_112 (lv_at hl 9 rfl) ?_
                refine lv_imul hx hb dX3_isHidden_114 ?_
                refine lv_iload hx hb dX3_isHidden_115 (lv_at hl 3 rfl) ?_
                refine lv_iload hx hb dX3_isHidden_117 (lv_at hl 5 rfl) ?_
                refine lv_isub hx hb dX3_isHidden_119 ?_
                refine lv_iload hx hb dX3_isHidden_120 (lv_at hl 8 rfl) ?_
                refine lv_imul hx hb dX3_isHidden_122 ?_
                refine lv_iadd hx hb dX3_isHidden_123 ?_
                refine lv_iload hx hb dX3_isHidden_124 (lv_at hl 9 rfl) ?_
                obtain ⟨r5, hr5, hres⟩ := bi_1 hres
                refine x_cp (va_runV (As := [.int v7_L30, .int ((v6_L17 * v11_j100) + ((v4_L17 - v6_L17) * v10_j100)), .int v11_j100]) (rest := []) ⟨hx, hb, hml, hown, hts⟩ (kX3_curtainMeets l G cI cZ tl A0 A0_swallows A0_seatX A0_seatY A0_curtainX A0_curtainFrom A0_curtainTo c0 c0_curtainFrom c0_curtainTo v7_L30 ((v6_L17 * v11_j100) + ((v4_L17 - v6_L17) * v10_j100)) v11_j100 r5 hr5) (cwV 3 hts gX3_isHidden_X3_curtainMeets rfl rfl rfl hsX3_curtainMeets ⟨Nat.le_of_ble_eq_true rfl, Nat.le_of_ble_eq_true rfl⟩) ⟨PRO_blind, va_recv hK.1 hP (ci := 3) (q0 := 0) rfl rfl, PRO_at (hP.sub (ws' := [o3 A0 c0 A0_swallows A0_seatX A0_seatY A0_curtainX A0_curtainFrom A0_curtainTo, (A0_curtainFrom, .inl (cI, 3, .inl c0_curtainFrom)), (A0_curtainTo, .inl (cI, 3, .inl c0_curtainTo))]) [0, 2, 3] rfl) hK⟩ rfl rfl hl.1 rfl (lv_room (Nat.le_of_ble_eq_true rfl)) dX3_isHidden_126 ⟨Nat.zero_le _, Nat.zero_le _⟩) ?_
                refine lv_if_eq (tgt := 134) hx hb dX3_isHidden_129 (by decide) (fun h6 => ?_) (fun h6 => ?_)
                · have hres := ite_t hres h6
                  refine lv_iinc (v := (v8_j100 + 1)) (lv' := [(8, .int (v8_j100 + 1)), (12, .int z0_j100), (0, .ref A0), (3, .int v3_L17), (4, .int v4_L17), (5, .int v5_L17), (6, .int v6_L17), (7, .int v7_L30), (10, .int v10_j100), (11, .int v11_j100)]) hx hb dX3_isHidden_134 hl (k := 7) rfl rfl (by decide) rfl (fun ls hl => ?_)
                  refine lv_goto (tgt := 30) hx hb dX3_isHidden_137 (by decide) ?_
                  exact ih30 (v8_j100 + 1) _ hres (lv_sub hl [2, 3, 4, 5, 6, 7, 0] rfl)
                · have hres := ite_f hres h6
                  refine lv_iconst (v := 1) hx hb dX3_isHidden_132 (by decide) ?_
                  obtain rfl := Option.some.inj hres
                  exact W.zret hx hb hr (by decide) (fun t ht hW => ⟨rfl, ht⟩) (fun q h => absurd h List.not_mem_nil) dX3_isHidden_133
            refine lv_iload hx hb dX3_isHidden_30 (lv_at hl 6 rfl) ?_
            refine lv_iconst (v := 3) hx hb dX3_isHidden_32 (by decide) ?_
            refine lv_icmp_gt (tgt := 140) hx hb dX3_isHidden_33 (by decide) (fun h7 => ?_) (fun h7 => ?_)
            · have hres := ite_t hres h7
              refine lv_iinc (v := (v7_L30 + 1)) (lv' := [(7, .int (v7_L30 + 1)), (0, .ref A0), (3, .int v3_L17), (4, .int v4_L17), (5, .int v5_L17), (6, .int v6_L17), (8, .int v8_L30)]) hx hb dX3_isHidden_140 hl (k := 5) rfl rfl (by decide) rfl (fun ls hl => ?_)
              refine lv_goto (tgt := 17) hx hb dX3_isHidden_143 (by decide) ?_
              exact ih17 (v7_L30 + 1) _ hres (lv_sub hl [1, 2, 3, 4, 5, 0] rfl)
            · have hres := ite_f hres h7
              refine lv_iload hx hb dX3_isHidden_36 (lv_at hl 6 rfl) ?_
              refine lv_aload_n hx hb dX3_isHidden_38 rfl (lv_at hl 0 rfl) ?_
              refine va_get (D := G) (ci := 3) (v := .int (c0 0)) (C := RX3) (T := TX3) (N := 12) hx hb hts (fun w h => (List.mem_cons_of_mem _ (List.mem_append_right _ h))) hown hK.1 hP 0 rfl rfl 0 (by decide) (hts (.fieldLink RX3 33 "EchoSeats$Scene" "length" "I") (List.mem_of_getElem? (i := 2) rfl)) (fun _ h9 => h9) rfl dX3_isHidden_39 ?_
              refine lv_aload_n hx hb dX3_isHidden_42 rfl (lv_at hl 0 rfl) ?_
              refine va_get (D := G) (ci := 3) (v := .ref A0_curtainX) (C := RX3) (T := TX3) (N := 12) hx hb hts (fun w h => (List.mem_cons_of_mem _ (List.mem_append_right _ h))) hown hK.1 hP 0 rfl rfl 9 (by decide) (hts (.fieldLink RX3 21 "EchoSeats$Scene" "curtainX" "[I") (List.mem_of_getElem? (i := 3) rfl)) (fun _ h9 => h9) rfl dX3_isHidden_43 ?_
              refine lv_iload hx hb dX3_isHidden_46 (lv_at hl 5 rfl) ?_
              have g8 := gd_1 hres
              have hres := gd_2 hres
              refine x_iald hx hb hK hP 1 rfl (j := (Int32.toNatClampNeg v7_L30)) rfl g8 dX3_isHidden_48 ?_
              obtain ⟨r9, hr9, hres⟩ := bi_1 hres
              refine x_cp (va_runSN (As := [.int v8_L30, .int (c0 0), .int (c0_curtainX (Int32.toNatClampNeg v7_L30))]) (rest := []) ⟨hx, hb, hml, hown, hts⟩ (kX5_mirrored l G cI cZ tl v8_L30 (c0 0) (c0_curtainX (Int32.toNatClampNeg v7_L30)) r9 hr9) ⟨va_cnB 3 hts gX3_isHidden_X5_mirrored_n64 rfl rfl rfl hK.2.2.1 (hts (.initialized RX5) (List.mem_of_getElem? (i := 21) rfl)) hsX5_mirrored ⟨Nat.le_of_ble_eq_true rfl, Nat.le_of_ble_eq_true rfl⟩, (hts (.static yX5_mirrored) (List.mem_of_getElem? (i := 20) rfl)), trivial⟩ ⟨PRO_blind, PRO_at va_P0 hK⟩ rfl rfl hl.1 rfl (lv_room (Nat.le_of_ble_eq_true rfl)) dX3_isHidden_49 ⟨Nat.zero_le _, Nat.zero_le _⟩) ?_
              refine lv_istore (lv' := [(9, .int r9), (0, .ref A0), (3, .int v3_L17), (4, .int v4_L17), (5, .int v5_L17), (6, .int v6_L17), (7, .int v7_L30), (8, .int v8_L30)]) hx hb dX3_isHidden_52 hl (by decide) rfl (fun ls hl => ?_)
              refine lv_iload hx hb dX3_isHidden_54 (lv_at hl 0 rfl) ?_
              refine lv_iload hx hb dX3_isHidden_56 (lv_at hl 4 rfl) ?_
              refine lv_isub hx hb dX3_isHidden_58 ?_
              refine va_mabs hx hb (hml.trans hl.1.symm) hown (hts (.methodLink RX3 82 Lib.Math.abs.name) (List.mem_of_getElem? (i := 4) rfl)) (hts (.static Lib.Math.abs.name) (List.mem_of_getElem? (i := 5) rfl)) (hts (.initialized "java/lang/Math") (List.mem_of_getElem? (i := 6) rfl)) (hts (.code Lib.Math.abs.name Lib.Math.abs.code 1 (some .int)) (List.mem_of_getElem? (i := 7) rfl)) (Nat.le_of_ble_eq_true rfl) (Nat.le_of_ble_eq_true rfl) (Nat.zero_le _) (Nat.zero_le _) dX3_isHidden_59 ?_
              refine lv_topi (fun y10 ey10 => ?_)
              have hres := bnd_z ey10 hres
              refine lv_istore (lv' := [(10, .int y10), (9, .int r9), (0, .ref A0), (3, .int v3_L17), (4, .int v4_L17), (5, .int v5_L17), (6, .int v6_L17), (7, .int v7_L30), (8, .int v8_L30)]) hx hb dX3_isHidden_62 hl (by decide) rfl (fun ls hl => ?_)
              refine lv_iload_n hx hb dX3_isHidden_64 rfl (lv_at hl 3 rfl) ?_
              refine lv_iload hx hb dX3_isHidden_65 (lv_at hl 5 rfl) ?_
              refine lv_isub hx hb dX3_isHidden_67 ?_
              refine va_mabs hx hb (hml.trans hl.1.symm) hown (hts (.methodLink RX3 82 Lib.Math.abs.name) (List.mem_of_getElem? (i := 4) rfl)) (hts (.static Lib.Math.abs.name) (List.mem_of_getElem? (i := 5) rfl)) (hts (.initialized "java/lang/Math") (List.mem_of_getElem? (i := 6) rfl)) (hts (.code Lib.Math.abs.name Lib.Math.abs.code 1 (some .int)) (List.mem_of_getElem? (i := 7) rfl)) (Nat.le_of_ble_eq_true rfl) (Nat.le_of_ble_eq_true rfl) (Nat.zero_le _) (Nat.zero_le _) dX3_isHidden_68 ?_
              refine lv_topi (fun y11 ey11 => ?_)
              have hres := bnd_z ey11 hres
              refine lv_istore (lv' := [(11, .int y11), (10, .int y10), (9, .int r9), (0, .ref A0), (3, .int v3_L17), (4, .int v4_L17), (5, .int v5_L17), (6, .int v6_L17), (7, .int v7_L30), (8, .int v8_L30)]) hx hb dX3_isHidden_71 hl (by decide) rfl (fun ls hl => ?_)
              refine lv_iload hx hb dX3_isHidden_73 (lv_at hl 2 rfl) ?_
              refine lv_iload hx hb dX3_isHidden_75 (lv_at hl 6 rfl) ?_
              refine lv_iload_n hx hb dX3_isHidden_77 rfl (lv_at hl 4 rfl) ?_
              refine va_mmin hx hb (hml.trans hl.1.symm) hown (hts (.methodLink RX3 87 Lib.Math.min.name) (List.mem_of_getElem? (i := 8) rfl)) (hts (.static Lib.Math.min.name) (List.mem_of_getElem? (i := 9) rfl)) (hts (.initialized "java/lang/Math") (List.mem_of_getElem? (i := 6) rfl)) (hts (.code Lib.Math.min.name Lib.Math.min.code 2 (some .int)) (List.mem_of_getElem? (i := 10) rfl)) (Nat.le_of_ble_eq_true rfl) (Nat.le_of_ble_eq_true rfl) (Nat.zero_le _) (Nat.zero_le _) dX3_isHidden_78 ?_
              refine lv_icmp_le (tgt := 99) hx hb dX3_isHidden_81 (by decide) (fun h12 => ?_) (fun h12 => ?_)
              · have hres := ite_t hres h12
                refine lv_iconst (v := 0) hx hb dX3_isHidden_99 (by decide) ?_
                exact J100 v8_L30 y10 y11 0 _ hres (lv_sub hl [3, 4, 5, 6, 7, 8, 9, 1, 0] rfl)
              · have hres := ite_f hres h12
                refine lv_iload hx hb dX3_isHidden_84 (lv_at hl 2 rfl) ?_
                refine lv_iload hx hb dX3_isHidden_86 (lv_at hl 6 rfl) ?_
                refine lv_iload_n hx hb dX3_isHidden_88 rfl (lv_at hl 4 rfl) ?_
                refine va_mmax hx hb (hml.trans hl.1.symm) hown (hts (.methodLink RX3 90 Lib.Math.max.name) (List.mem_of_getElem? (i := 11) rfl)) (hts (.static Lib.Math.max.name) (List.mem_of_getElem? (i := 12) rfl)) (hts (.initialized "java/lang/Math") (List.mem_of_getElem? (i := 6) rfl)) (hts (.code Lib.Math.max.name Lib.Math.max.code 2 (some .int)) (List.mem_of_getElem? (i := 13) rfl)) (Nat.le_of_ble_eq_true rfl) (Nat.le_of_ble_eq_true rfl) (Nat.zero_le _) (Nat.zero_le _) dX3_isHidden_89 ?_
                refine lv_icmp_ge (tgt := 99) hx hb dX3_isHidden_92 (by decide) (fun h13 => ?_) (fun h13 => ?_)
                · have hres := ite_t hres h13
                  refine lv_iconst (v := 0) hx hb dX3_isHidden_99 (by decide) ?_
                  exact J100 v8_L30 y10 y11 0 _ hres (lv_sub hl [3, 4, 5, 6, 7, 8, 9, 1, 0] rfl)
                · have hres := ite_f hres h13
                  refine lv_iconst (v := 1) hx hb dX3_isHidden_95 (by decide) ?_
                  refine lv_goto (tgt := 100) hx hb dX3_isHidden_96 (by decide) ?_
                  exact J100 v8_L30 y10 y11 1 _ hres (lv_sub hl [3, 4, 5, 6, 7, 8, 9, 1, 0] rfl)
        exact Q30 v7_L17 FU (-3) _ hres (lv_sub hl [1, 2, 3, 4, 5, 6, 0] rfl)
  exact Q17 x3 x4 r1 r2 FU 0 _ hres (lv_sub hl [3, 6, 7, 2, 1, 0] rfl)
theorem hsX3_isHidden : yX3_isHidden.cls = RX3 ∧ yX3_isHidden.cls ≠ "java/lang/invoke/MethodHandle" ∧ yX3_isHidden.cls ≠ "java/lang/invoke/VarHandle" ∧ (parseMethodDescriptor yX3_isHidden.desc).map (fun d => d.parameters.length) = some 4 := by decide +kernel
set_option maxHeartbeats 4000000 in
set_option maxRecDepth 100000 in
theorem kX5_squares (l : Launch) (G : va_G) (cI cZ : ClassId) (tl : List (ClassId × FieldType)) (x0 x1 : Int32) (res : Int32) (hres : fX5_squares x0 x1 = some res) : Met l yX5_squares wsX5_squares rX5_squares (va_Pc [.int x0, .int x1] (PRO G cI cZ tl [])) (Sp res) 0 0 (fun _ => False) := by
  refine Met.ofW (cc := cX5_squares) (maxL := 2) (ret := (some .int)) (by decide) rfl ?_
  intro p e s m args below meth c s₁ B hml hv
  obtain ⟨rfl, hP, hK⟩ := hv
  have hx := B.exec
  have hb := B.bytes
  have hr := B.returns
  have hts := atoms_spec (ws := wsX5_squares) B.pre
  have hown : s.vm.findClass RX5 = some m.cls := findClass_of_methodNamed B.named
  have hlocks := B.notSynchronized
  have hl := lv_entry ([.int x0, .int x1] : List Value) (n := 2) (Nat.le_of_ble_eq_true rfl)
  rw [lg_entry_eq]
  generalize (lg_sl ([.int x0, .int x1] : List Value) ++ List.replicate (2 - (lg_sl ([.int x0, .int x1] : List Value)).length) Slot.unset).toArray = ls at hl ⊢
  have hl : lv_has ls 2 [(0, .int x0), (1, .int x1)] := hl
  refine lv_iload_n hx hb dX5_squares_0 rfl (lv_at hl 0 rfl) ?_
  refine lv_iload_n hx hb dX5_squares_1 rfl (lv_at hl 0 rfl) ?_
  refine lv_imul hx hb dX5_squares_2 ?_
  refine lv_iload_n hx hb dX5_squares_3 rfl (lv_at hl 1 rfl) ?_
  refine lv_iload_n hx hb dX5_squares_4 rfl (lv_at hl 1 rfl) ?_
  refine lv_imul hx hb dX5_squares_5 ?_
  refine lv_iadd hx hb dX5_squares_6 ?_
  obtain rfl := Option.some.inj hres
  exact W.iret hx hb hr (fun t ht hW => ⟨rfl, ht⟩) (fun q h => absurd h List.not_mem_nil) dX5_squares_7
theorem hsX5_squares : yX5_squares.cls ≠ "java/lang/invoke/MethodHandle" ∧ yX5_squares.cls ≠ "java/lang/invoke/VarHandle" ∧ (parseMethodDescriptor yX5_squares.desc).map (fun d => d.parameters.length) = some 2 := by decide +kernel
set_option maxHeartbeats 4000000 in
set_option maxRecDepth 100000 in
theorem kX3_waySquared (l : Launch) (G : va_G) (cI cZ : ClassId) (tl : List (ClassId × FieldType)) (A0 A0_swallows A0_seatX A0_seatY A0_curtainX A0_curtainFrom A0_curtainTo : Nat) (c0 : Nat → Int32) (x1 x2 x3 x4 : Int32) (res : Int32) (hres : fX3_waySquared c0 x1 x2 x3 x4 = some res) : Met l yX3_waySquared wsX3_waySquared rX3_waySquared (va_Pc [.ref A0, .int x1, .int x2, .int x3, .int x4] (PRO G cI cZ tl [o3 A0 c0 A0_swallows A0_seatX A0_seatY A0_curtainX A0_curtainFrom A0_curtainTo])) (Sp res) 0 0 (fun _ => False) := by
  refine Met.ofW (cc := cX3_waySquared) (maxL := 5) (ret := (some .int)) (by decide) rfl ?_
  intro p e s m args below meth c s₁ B hml hv
  obtain ⟨rfl, hP, hK⟩ := hv
  have hx := B.exec
  have hb := B.bytes
  have hr := B.returns
  have hts := atoms_spec (ws := wsX3_waySquared) B.pre
  have hown : s.vm.findClass RX3 = some m.cls := findClass_of_methodNamed B.named
  have hlocks := B.notSynchronized
  have hl := lv_entry ([.ref A0, .int x1, .int x2, .int x3, .int x4] : List Value) (n := 5) (Nat.le_of_ble_eq_true rfl)
  rw [lg_entry_eq]
  generalize (lg_sl ([.ref A0, .int x1, .int x2, .int x3, .int x4] : List Value) ++ List.replicate (5 - (lg_sl ([.ref A0, .int x1, .int x2, .int x3, .int x4] : List Value)).length) Slot.unset).toArray = ls at hl ⊢
  have hl : lv_has ls 5 [(0, .ref A0), (1, .int x1), (2, .int x2), (3, .int x3), (4, .int x4)] := hl
  refine lv_aload_n hx hb dX3_waySquared_0 rfl (lv_at hl 0 rfl) ?_
  refine lv_iload_n hx hb dX3_waySquared_1 rfl (lv_at hl 1 rfl) ?_
  obtain ⟨r1, hr1, hres⟩ := bi_1 hres
  refine x_cp (va_runV (As := [.int x1]) (rest := []) ⟨hx, hb, hml, hown, hts⟩ (kX3_imageX l G cI cZ tl A0 A0_swallows A0_seatX A0_seatY A0_curtainX A0_curtainFrom A0_curtainTo c0 x1 r1 hr1) (cwV 1 hts gX3_waySquared_X3_imageX rfl rfl rfl hsX3_imageX ⟨Nat.le_of_ble_eq_true rfl, Nat.le_of_ble_eq_true rfl⟩) ⟨PRO_blind, va_recv hK.1 hP (ci := 3) (q0 := 0) rfl rfl, PRO_at (hP.sub (ws' := [o3 A0 c0 A0_swallows A0_seatX A0_seatY A0_curtainX A0_curtainFrom A0_curtainTo]) [0] rfl) hK⟩ rfl rfl hl.1 rfl (lv_room (Nat.le_of_ble_eq_true rfl)) dX3_waySquared_2 ⟨Nat.zero_le _, Nat.zero_le _⟩) ?_
  refine lv_iload_n hx hb dX3_waySquared_5 rfl (lv_at hl 3 rfl) ?_
  refine lv_isub hx hb dX3_waySquared_6 ?_
  refine lv_aload_n hx hb dX3_waySquared_7 rfl (lv_at hl 0 rfl) ?_
  refine lv_iload_n hx hb dX3_waySquared_8 rfl (lv_at hl 2 rfl) ?_
  obtain ⟨r2, hr2, hres⟩ := bi_1 hres
  refine x_cp (va_runV (As := [.int x2]) (rest := [.int (r1 - x3)]) ⟨hx, hb, hml, hown, hts⟩ (kX3_imageY l G cI cZ tl A0 A0_swallows A0_seatX A0_seatY A0_curtainX A0_curtainFrom A0_curtainTo c0 x2 r2 hr2) (cwV 1 hts gX3_waySquared_X3_imageY rfl rfl rfl hsX3_imageY ⟨Nat.le_of_ble_eq_true rfl, Nat.le_of_ble_eq_true rfl⟩) ⟨PRO_blind, va_recv hK.1 hP (ci := 3) (q0 := 0) rfl rfl, PRO_at (hP.sub (ws' := [o3 A0 c0 A0_swallows A0_seatX A0_seatY A0_curtainX A0_curtainFrom A0_curtainTo]) [0] rfl) hK⟩ rfl rfl hl.1 rfl (lv_room (Nat.le_of_ble_eq_true rfl)) dX3_waySquared_9 ⟨Nat.zero_le _, Nat.zero_le _⟩) ?_
  refine lv_iload hx hb dX3_waySquared_12 (lv_at hl 4 rfl) ?_
  refine lv_isub hx hb dX3_waySquared_14 ?_
  obtain ⟨r3, hr3, hres⟩ := bi_1 hres
  refine x_cp (va_runSN (As := [.int (r1 - x3), .int (r2 - x4)]) (rest := []) ⟨hx, hb, hml, hown, hts⟩ (kX5_squares l G cI cZ tl (r1 - x3) (r2 - x4) r3 hr3) ⟨va_cnB 2 hts gX3_waySquared_X5_squares_n78 rfl rfl rfl hK.2.2.2.2.1 (hts (.initialized RX5) (List.mem_of_getElem? (i := 9) rfl)) hsX5_squares ⟨Nat.le_of_ble_eq_true rfl, Nat.le_of_ble_eq_true rfl⟩, (hts (.static yX5_squares) (List.mem_of_getElem? (i := 17) rfl)), trivial⟩ ⟨PRO_blind, PRO_at va_P0 hK⟩ rfl rfl hl.1 rfl (lv_room (Nat.le_of_ble_eq_true rfl)) dX3_waySquared_15 ⟨Nat.zero_le _, Nat.zero_le _⟩) ?_
  obtain rfl := Option.some.inj hres
  exact W.iret hx hb hr (fun t ht hW => ⟨rfl, ht⟩) (fun q h => absurd h List.not_mem_nil) dX3_waySquared_18
theorem hsX3_waySquared : yX3_waySquared.cls = RX3 ∧ yX3_waySquared.cls ≠ "java/lang/invoke/MethodHandle" ∧ yX3_waySquared.cls ≠ "java/lang/invoke/VarHandle" ∧ (parseMethodDescriptor yX3_waySquared.desc).map (fun d => d.parameters.length) = some 4 := by decide +kernel
set_option maxHeartbeats 4000000 in
set_option maxRecDepth 100000 in
theorem kX5_timeOf (l : Launch) (G : va_G) (cI cZ : ClassId) (tl : List (ClassId × FieldType)) (x0 : Int32) (res : Int32) (hres : fX5_timeOf x0 = some res) : Met l yX5_timeOf wsX5_timeOf rX5_timeOf (va_Pc [.int x0] (PRO G cI cZ tl [])) (Sp res) 0 0 (fun _ => False) := by
  refine Met.ofW (cc := cX5_timeOf) (maxL := 5) (ret := (some .int)) (by decide) rfl ?_
  intro p e s m args below meth c s₁ B hml hv
  obtain ⟨rfl, hP, hK⟩ := hv
  have hx := B.exec
  have hb := B.bytes
  have hr := B.returns
  have hts := atoms_spec (ws := wsX5_timeOf) B.pre
  have hown : s.vm.findClass RX5 = some m.cls := findClass_of_methodNamed B.named
  have hlocks := B.notSynchronized
  have hl := lv_entry ([.int x0] : List Value) (n := 5) (Nat.le_of_ble_eq_true rfl)
  rw [lg_entry_eq]
  generalize (lg_sl ([.int x0] : List Value) ++ List.replicate (5 - (lg_sl ([.int x0] : List Value)).length) Slot.unset).toArray = ls at hl ⊢
  have hl : lv_has ls 5 [(0, .int x0)] := hl
  refine lv_bipush (v := 100) hx hb dX5_timeOf_0 (by decide) ?_
  refine lv_iload_n hx hb dX5_timeOf_2 rfl (lv_at hl 0 rfl) ?_
  refine lv_imul hx hb dX5_timeOf_3 ?_
  refine lv_topi (fun y1 ey1 => ?_)
  have hres := bnd_z ey1 hres
  refine lv_istore_n (lv' := [(1, .int y1), (0, .int x0)]) hx hb dX5_timeOf_4 rfl hl (by decide) rfl (fun ls hl => ?_)
  refine lv_iconst (v := 0) hx hb dX5_timeOf_5 (by decide) ?_
  refine lv_istore_n (lv' := [(2, .int 0), (1, .int y1), (0, .int x0)]) hx hb dX5_timeOf_6 rfl hl (by decide) rfl (fun ls hl => ?_)
  refine lv_sipush (v := 512) hx hb dX5_timeOf_7 (by decide) ?_
  refine lv_istore_n (lv' := [(3, .int 512), (2, .int 0), (1, .int y1), (0, .int x0)]) hx hb dX5_timeOf_10 rfl hl (by decide) rfl (fun ls hl => ?_)
  have Q11 : ∀ (v1_L11 : Int32) (n11 : Nat) (v2_L11 : Int32) (v3_L11 : Int32) (ls : Array Slot), LPX (fX5_timeOf_L11 v1_L11) n11 (v2_L11, v3_L11) = some res → lv_has ls 5 [(1, .int v1_L11), (2, .int v2_L11), (3, .int v3_L11)] → WRO p l e wsX5_timeOf rX5_timeOf s m ([.int x0] : List Value).toArray below meth c res (F0 m 11 ls []) := by
    intro v1_L11 n11
    induction n11 with
    | zero =>
      intro v2_L11 v3_L11 ls hres
      exact absurd (LPX_0.symm.trans hres) (fun h => by cases h)
    | succ n11 ih11 =>
      intro v2_L11 v3_L11 ls hres hl
      have hres := LPX_s.symm.trans hres
      refine lv_iload_n hx hb dX5_timeOf_11 rfl (lv_at hl 2 rfl) ?_
      refine lv_if_le (tgt := 39) hx hb dX5_timeOf_12 (by decide) (fun h2 => ?_) (fun h2 => ?_)
      · have hres := ite_t hres h2
        refine lv_iload_n hx hb dX5_timeOf_39 rfl (lv_at hl 1 rfl) ?_
        obtain rfl := Option.some.inj hres
        exact W.iret hx hb hr (fun t ht hW => ⟨rfl, ht⟩) (fun q h => absurd h List.not_mem_nil) dX5_timeOf_40
      · have hres := ite_f hres h2
        refine lv_iload_n hx hb dX5_timeOf_15 rfl (lv_at hl 1 rfl) ?_
        refine lv_iload_n hx hb dX5_timeOf_16 rfl (lv_at hl 2 rfl) ?_
        refine lv_iadd hx hb dX5_timeOf_17 ?_
        refine lv_topi (fun y3 ey3 => ?_)
        have hres := bnd_z ey3 hres
        refine lv_istore (lv' := [(4, .int y3), (1, .int v1_L11), (2, .int v2_L11), (3, .int v3_L11)]) hx hb dX5_timeOf_18 hl (by decide) rfl (fun ls hl => ?_)
        refine lv_iload hx hb dX5_timeOf_20 (lv_at hl 0 rfl) ?_
        refine lv_iload hx hb dX5_timeOf_22 (lv_at hl 0 rfl) ?_
        refine lv_imul hx hb dX5_timeOf_24 ?_
        refine lv_iload_n hx hb dX5_timeOf_25 rfl (lv_at hl 1 rfl) ?_
        refine lv_icmp_gt (tgt := 32) hx hb dX5_timeOf_26 (by decide) (fun h4 => ?_) (fun h4 => ?_)
        · have hres := ite_t hres h4
          refine lv_iload_n hx hb dX5_timeOf_32 rfl (lv_at hl 3 rfl) ?_
          refine lv_iconst (v := 2) hx hb dX5_timeOf_33 (by decide) ?_
          refine lv_idiv hx hb dX5_timeOf_34 (by decide) ?_
          refine lv_topi (fun y5 ey5 => ?_)
          have hres := bnd_z ey5 hres
          refine lv_istore_n (lv' := [(3, .int y5), (4, .int y3), (1, .int v1_L11), (2, .int v2_L11)]) hx hb dX5_timeOf_35 rfl hl (by decide) rfl (fun ls hl => ?_)
          refine lv_goto (tgt := 11) hx hb dX5_timeOf_36 (by decide) ?_
          exact ih11 v2_L11 y5 _ hres (lv_sub hl [2, 3, 0] rfl)
        · have hres := ite_f hres h4
          refine lv_iload hx hb dX5_timeOf_29 (lv_at hl 0 rfl) ?_
          refine lv_istore_n (lv' := [(2, .int y3), (4, .int y3), (1, .int v1_L11), (3, .int v3_L11)]) hx hb dX5_timeOf_31 rfl hl (by decide) rfl (fun ls hl => ?_)
          refine lv_iload_n hx hb dX5_timeOf_32 rfl (lv_at hl 3 rfl) ?_
          refine lv_iconst (v := 2) hx hb dX5_timeOf_33 (by decide) ?_
          refine lv_idiv hx hb dX5_timeOf_34 (by decide) ?_
          refine lv_topi (fun y6 ey6 => ?_)
          have hres := bnd_z ey6 hres
          refine lv_istore_n (lv' := [(3, .int y6), (2, .int y3), (4, .int y3), (1, .int v1_L11)]) hx hb dX5_timeOf_35 rfl hl (by decide) rfl (fun ls hl => ?_)
          refine lv_goto (tgt := 11) hx hb dX5_timeOf_36 (by decide) ?_
          exact ih11 y3 y6 _ hres (lv_sub hl [3, 1, 0] rfl)
  exact Q11 y1 FU 0 512 _ hres (lv_sub hl [2, 1, 0] rfl)
theorem hsX5_timeOf : yX5_timeOf.cls ≠ "java/lang/invoke/MethodHandle" ∧ yX5_timeOf.cls ≠ "java/lang/invoke/VarHandle" ∧ (parseMethodDescriptor yX5_timeOf.desc).map (fun d => d.parameters.length) = some 1 := by decide +kernel
set_option maxHeartbeats 4000000 in
set_option maxRecDepth 100000 in
theorem kX0_shiftUp (l : Launch) (G : va_G) (cI cZ : ClassId) (tl : List (ClassId × FieldType)) (sz : Nat) (A : Nat → Prop) (A0 A0_is A0_js A0_ways A0_times A0_strengths A0_deafened : Nat) (c0 c0_is c0_js c0_ways c0_times c0_strengths : Nat → Int32) (x1 : Int32) (res : (Nat → Int32) × (Nat → Int32) × (Nat → Int32) × (Nat → Int32) × (Nat → Int32)) (hAe : A = va_A [o0 A0 c0 A0_is A0_js A0_ways A0_times A0_strengths A0_deafened, (A0_is, .inl (cI, 25, .inl c0_is)), (A0_js, .inl (cI, 25, .inl c0_js)), (A0_ways, .inl (cI, 25, .inl c0_ways)), (A0_times, .inl (cI, 25, .inl c0_times)), (A0_strengths, .inl (cI, 25, .inl c0_strengths))] sz) (hres : fX0_shiftUp c0 c0_is c0_js c0_ways c0_times c0_strengths x1 = some res) : Met l yX0_shiftUp wsX0_shiftUp rX0_shiftUp (va_Pc [.ref A0, .int x1] (PRW G cI cZ tl [o0 A0 c0 A0_is A0_js A0_ways A0_times A0_strengths A0_deafened, (A0_is, .inl (cI, 25, .inl c0_is)), (A0_js, .inl (cI, 25, .inl c0_js)), (A0_ways, .inl (cI, 25, .inl c0_ways)), (A0_times, .inl (cI, 25, .inl c0_times)), (A0_strengths, .inl (cI, 25, .inl c0_strengths))] sz)) (Qvw G A [o0 A0 c0 A0_is A0_js A0_ways A0_times A0_strengths A0_deafened, (A0_is, .inl (cI, 25, .inl res.1)), (A0_js, .inl (cI, 25, .inl res.2.1)), (A0_ways, .inl (cI, 25, .inl res.2.2.1)), (A0_times, .inl (cI, 25, .inl res.2.2.2.1)), (A0_strengths, .inl (cI, 25, .inl res.2.2.2.2))]) 0 0 A := by
  refine Met.ofW (cc := cX0_shiftUp) (maxL := 2) (ret := none) (by decide) rfl ?_
  intro p e s m args below meth c s₁ B hml hv
  obtain ⟨rfl, hsz, hP, hK, hD0⟩ := hv
  have hx := B.exec
  have hb := B.bytes
  have hr := B.returns
  have hts := atoms_spec (ws := wsX0_shiftUp) B.pre
  have hown : s.vm.findClass RX0 = some m.cls := findClass_of_methodNamed B.named
  have hlocks := B.notSynchronized
  subst hsz
  have hD : va_D A [o0 A0 c0 A0_is A0_js A0_ways A0_times A0_strengths A0_deafened, (A0_is, .inl (cI, 25, .inl c0_is)), (A0_js, .inl (cI, 25, .inl c0_js)), (A0_ways, .inl (cI, 25, .inl c0_ways)), (A0_times, .inl (cI, 25, .inl c0_times)), (A0_strengths, .inl (cI, 25, .inl c0_strengths))] := by rw [hAe]; exact hD0.self
  have hA : ∀ q : Nat, s.heap.size ≤ q → A q := fun q h => by rw [hAe]; exact Or.inr h
  clear hAe hD0
  have hS : va_S A s.heap s.heap [] := va_S.rf
  have hl := lv_entry ([.ref A0, .int x1] : List Value) (n := 2) (Nat.le_of_ble_eq_true rfl)
  rw [lg_entry_eq]
  generalize (lg_sl ([.ref A0, .int x1] : List Value) ++ List.replicate (2 - (lg_sl ([.ref A0, .int x1] : List Value)).length) Slot.unset).toArray = ls at hl ⊢
  have hl : lv_has ls 2 [(0, .ref A0), (1, .int x1)] := hl
  refine lv_aload_n hx hb dX0_shiftUp_0 rfl (lv_at hl 0 rfl) ?_
  refine va_get (D := G) (ci := 0) (v := .ref A0_is) (C := RX0) (T := TX0) (N := 8) hx hb hts (fun w h => (List.mem_cons_of_mem _ (List.mem_append_right _ h))) hown hK.1 hP 0 rfl rfl 0 (by decide) (hts (.fieldLink RX0 9 "EchoSeats$Ear" "is" "[I") (List.mem_of_getElem? (i := 1) rfl)) (fun _ h9 => h9) rfl dX0_shiftUp_1 ?_
  refine lv_iload_n hx hb dX0_shiftUp_4 rfl (lv_at hl 1 rfl) ?_
  refine lv_aload_n hx hb dX0_shiftUp_5 rfl (lv_at hl 0 rfl) ?_
  refine va_get (D := G) (ci := 0) (v := .ref A0_is) (C := RX0) (T := TX0) (N := 8) hx hb hts (fun w h => (List.mem_cons_of_mem _ (List.mem_append_right _ h))) hown hK.1 hP 0 rfl rfl 0 (by decide) (hts (.fieldLink RX0 9 "EchoSeats$Ear" "is" "[I") (List.mem_of_getElem? (i := 1) rfl)) (fun _ h9 => h9) rfl dX0_shiftUp_6 ?_
  refine lv_iload_n hx hb dX0_shiftUp_9 rfl (lv_at hl 1 rfl) ?_
  refine lv_iconst (v := 1) hx hb dX0_shiftUp_10 (by decide) ?_
  refine lv_isub hx hb dX0_shiftUp_11 ?_
  have g1 := gd_1 hres
  have hres := gd_2 hres
  refine x_iald hx hb hK hP 1 rfl (j := (Int32.toNatClampNeg (x1 - 1))) rfl g1 dX0_shiftUp_12 ?_
  have g2 := gd_1 hres
  have hres := gd_2 hres
  refine x_iast hx hb hK hP hD hS 1 rfl (j := (Int32.toNatClampNeg x1)) rfl g2 dX0_shiftUp_13 (fun H locs hP hD hS => ?_)
  have hP : va_P G vwCl [o0 A0 c0 A0_is A0_js A0_ways A0_times A0_strengths A0_deafened, (A0_is, .inl (cI, 25, .inl (upd c0_is (Int32.toNatClampNeg x1) (c0_is (Int32.toNatClampNeg (x1 - 1)))))), (A0_js, .inl (cI, 25, .inl c0_js)), (A0_ways, .inl (cI, 25, .inl c0_ways)), (A0_times, .inl (cI, 25, .inl c0_times)), (A0_strengths, .inl (cI, 25, .inl c0_strengths))] H := hP
  have hD : va_D A [o0 A0 c0 A0_is A0_js A0_ways A0_times A0_strengths A0_deafened, (A0_is, .inl (cI, 25, .inl (upd c0_is (Int32.toNatClampNeg x1) (c0_is (Int32.toNatClampNeg (x1 - 1)))))), (A0_js, .inl (cI, 25, .inl c0_js)), (A0_ways, .inl (cI, 25, .inl c0_ways)), (A0_times, .inl (cI, 25, .inl c0_times)), (A0_strengths, .inl (cI, 25, .inl c0_strengths))] := hD
  refine lv_aload_n hx hb dX0_shiftUp_14 rfl (lv_at hl 0 rfl) ?_
  refine va_get (D := G) (ci := 0) (v := .ref A0_js) (C := RX0) (T := TX0) (N := 8) hx hb hts (fun w h => (List.mem_cons_of_mem _ (List.mem_append_right _ h))) hown hK.1 hP 0 rfl rfl 1 (by decide) (hts (.fieldLink RX0 15 "EchoSeats$Ear" "js" "[I") (List.mem_of_getElem? (i := 2) rfl)) (fun _ h9 => h9) rfl dX0_shiftUp_15 ?_
  refine lv_iload_n hx hb dX0_shiftUp_18 rfl (lv_at hl 1 rfl) ?_
  refine lv_aload_n hx hb dX0_shiftUp_19 rfl (lv_at hl 0 rfl) ?_
  refine va_get (D := G) (ci := 0) (v := .ref A0_js) (C := RX0) (T := TX0) (N := 8) hx hb hts (fun w h => (List.mem_cons_of_mem _ (List.mem_append_right _ h))) hown hK.1 hP 0 rfl rfl 1 (by decide) (hts (.fieldLink RX0 15 "EchoSeats$Ear" "js" "[I") (List.mem_of_getElem? (i := 2) rfl)) (fun _ h9 => h9) rfl dX0_shiftUp_20 ?_
  refine lv_iload_n hx hb dX0_shiftUp_23 rfl (lv_at hl 1 rfl) ?_
  refine lv_iconst (v := 1) hx hb dX0_shiftUp_24 (by decide) ?_
  refine lv_isub hx hb dX0_shiftUp_25 ?_
  have g3 := gd_1 hres
  have hres := gd_2 hres
  refine x_iald hx hb hK hP 2 rfl (j := (Int32.toNatClampNeg (x1 - 1))) rfl g3 dX0_shiftUp_26 ?_
  have g4 := gd_1 hres
  have hres := gd_2 hres
  refine x_iast hx hb hK hP hD hS 2 rfl (j := (Int32.toNatClampNeg x1)) rfl g4 dX0_shiftUp_27 (fun H locs hP hD hS => ?_)
  have hP : va_P G vwCl [o0 A0 c0 A0_is A0_js A0_ways A0_times A0_strengths A0_deafened, (A0_is, .inl (cI, 25, .inl (upd c0_is (Int32.toNatClampNeg x1) (c0_is (Int32.toNatClampNeg (x1 - 1)))))), (A0_js, .inl (cI, 25, .inl (upd c0_js (Int32.toNatClampNeg x1) (c0_js (Int32.toNatClampNeg (x1 - 1)))))), (A0_ways, .inl (cI, 25, .inl c0_ways)), (A0_times, .inl (cI, 25, .inl c0_times)), (A0_strengths, .inl (cI, 25, .inl c0_strengths))] H := hP
  have hD : va_D A [o0 A0 c0 A0_is A0_js A0_ways A0_times A0_strengths A0_deafened, (A0_is, .inl (cI, 25, .inl (upd c0_is (Int32.toNatClampNeg x1) (c0_is (Int32.toNatClampNeg (x1 - 1)))))), (A0_js, .inl (cI, 25, .inl (upd c0_js (Int32.toNatClampNeg x1) (c0_js (Int32.toNatClampNeg (x1 - 1)))))), (A0_ways, .inl (cI, 25, .inl c0_ways)), (A0_times, .inl (cI, 25, .inl c0_times)), (A0_strengths, .inl (cI, 25, .inl c0_strengths))] := hD
  refine lv_aload_n hx hb dX0_shiftUp_28 rfl (lv_at hl 0 rfl) ?_
  refine va_get (D := G) (ci := 0) (v := .ref A0_ways) (C := RX0) (T := TX0) (N := 8) hx hb hts (fun w h => (List.mem_cons_of_mem _ (List.mem_append_right _ h))) hown hK.1 hP 0 rfl rfl 2 (by decide) (hts (.fieldLink RX0 18 "EchoSeats$Ear" "ways" "[I") (List.mem_of_getElem? (i := 3) rfl)) (fun _ h9 => h9) rfl dX0_shiftUp_29 ?_
  refine lv_iload_n hx hb dX0_shiftUp_32 rfl (lv_at hl 1 rfl) ?_
  refine lv_aload_n hx hb dX0_shiftUp_33 rfl (lv_at hl 0 rfl) ?_
  refine va_get (D := G) (ci := 0) (v := .ref A0_ways) (C := RX0) (T := TX0) (N := 8) hx hb hts (fun w h => (List.mem_cons_of_mem _ (List.mem_append_right _ h))) hown hK.1 hP 0 rfl rfl 2 (by decide) (hts (.fieldLink RX0 18 "EchoSeats$Ear" "ways" "[I") (List.mem_of_getElem? (i := 3) rfl)) (fun _ h9 => h9) rfl dX0_shiftUp_34 ?_
  refine lv_iload_n hx hb dX0_shiftUp_37 rfl (lv_at hl 1 rfl) ?_
  refine lv_iconst (v := 1) hx hb dX0_shiftUp_38 (by decide) ?_
  refine lv_isub hx hb dX0_shiftUp_39 ?_
  have g5 := gd_1 hres
  have hres := gd_2 hres
  refine x_iald hx hb hK hP 3 rfl (j := (Int32.toNatClampNeg (x1 - 1))) rfl g5 dX0_shiftUp_40 ?_
  have g6 := gd_1 hres
  have hres := gd_2 hres
  refine x_iast hx hb hK hP hD hS 3 rfl (j := (Int32.toNatClampNeg x1)) rfl g6 dX0_shiftUp_41 (fun H locs hP hD hS => ?_)
  have hP : va_P G vwCl [o0 A0 c0 A0_is A0_js A0_ways A0_times A0_strengths A0_deafened, (A0_is, .inl (cI, 25, .inl (upd c0_is (Int32.toNatClampNeg x1) (c0_is (Int32.toNatClampNeg (x1 - 1)))))), (A0_js, .inl (cI, 25, .inl (upd c0_js (Int32.toNatClampNeg x1) (c0_js (Int32.toNatClampNeg (x1 - 1)))))), (A0_ways, .inl (cI, 25, .inl (upd c0_ways (Int32.toNatClampNeg x1) (c0_ways (Int32.toNatClampNeg (x1 - 1)))))), (A0_times, .inl (cI, 25, .inl c0_times)), (A0_strengths, .inl (cI, 25, .inl c0_strengths))] H := hP
  have hD : va_D A [o0 A0 c0 A0_is A0_js A0_ways A0_times A0_strengths A0_deafened, (A0_is, .inl (cI, 25, .inl (upd c0_is (Int32.toNatClampNeg x1) (c0_is (Int32.toNatClampNeg (x1 - 1)))))), (A0_js, .inl (cI, 25, .inl (upd c0_js (Int32.toNatClampNeg x1) (c0_js (Int32.toNatClampNeg (x1 - 1)))))), (A0_ways, .inl (cI, 25, .inl (upd c0_ways (Int32.toNatClampNeg x1) (c0_ways (Int32.toNatClampNeg (x1 - 1)))))), (A0_times, .inl (cI, 25, .inl c0_times)), (A0_strengths, .inl (cI, 25, .inl c0_strengths))] := hD
  refine lv_aload_n hx hb dX0_shiftUp_42 rfl (lv_at hl 0 rfl) ?_
  refine va_get (D := G) (ci := 0) (v := .ref A0_times) (C := RX0) (T := TX0) (N := 8) hx hb hts (fun w h => (List.mem_cons_of_mem _ (List.mem_append_right _ h))) hown hK.1 hP 0 rfl rfl 3 (by decide) (hts (.fieldLink RX0 21 "EchoSeats$Ear" "times" "[I") (List.mem_of_getElem? (i := 4) rfl)) (fun _ h9 => h9) rfl dX0_shiftUp_43 ?_
  refine lv_iload_n hx hb dX0_shiftUp_46 rfl (lv_at hl 1 rfl) ?_
  refine lv_aload_n hx hb dX0_shiftUp_47 rfl (lv_at hl 0 rfl) ?_
  refine va_get (D := G) (ci := 0) (v := .ref A0_times) (C := RX0) (T := TX0) (N := 8) hx hb hts (fun w h => (List.mem_cons_of_mem _ (List.mem_append_right _ h))) hown hK.1 hP 0 rfl rfl 3 (by decide) (hts (.fieldLink RX0 21 "EchoSeats$Ear" "times" "[I") (List.mem_of_getElem? (i := 4) rfl)) (fun _ h9 => h9) rfl dX0_shiftUp_48 ?_
  refine lv_iload_n hx hb dX0_shiftUp_51 rfl (lv_at hl 1 rfl) ?_
  refine lv_iconst (v := 1) hx hb dX0_shiftUp_52 (by decide) ?_
  refine lv_isub hx hb dX0_shiftUp_53 ?_
  have g7 := gd_1 hres
  have hres := gd_2 hres
  refine x_iald hx hb hK hP 4 rfl (j := (Int32.toNatClampNeg (x1 - 1))) rfl g7 dX0_shiftUp_54 ?_
  have g8 := gd_1 hres
  have hres := gd_2 hres
  refine x_iast hx hb hK hP hD hS 4 rfl (j := (Int32.toNatClampNeg x1)) rfl g8 dX0_shiftUp_55 (fun H locs hP hD hS => ?_)
  have hP : va_P G vwCl [o0 A0 c0 A0_is A0_js A0_ways A0_times A0_strengths A0_deafened, (A0_is, .inl (cI, 25, .inl (upd c0_is (Int32.toNatClampNeg x1) (c0_is (Int32.toNatClampNeg (x1 - 1)))))), (A0_js, .inl (cI, 25, .inl (upd c0_js (Int32.toNatClampNeg x1) (c0_js (Int32.toNatClampNeg (x1 - 1)))))), (A0_ways, .inl (cI, 25, .inl (upd c0_ways (Int32.toNatClampNeg x1) (c0_ways (Int32.toNatClampNeg (x1 - 1)))))), (A0_times, .inl (cI, 25, .inl (upd c0_times (Int32.toNatClampNeg x1) (c0_times (Int32.toNatClampNeg (x1 - 1)))))), (A0_strengths, .inl (cI, 25, .inl c0_strengths))] H := hP
  have hD : va_D A [o0 A0 c0 A0_is A0_js A0_ways A0_times A0_strengths A0_deafened, (A0_is, .inl (cI, 25, .inl (upd c0_is (Int32.toNatClampNeg x1) (c0_is (Int32.toNatClampNeg (x1 - 1)))))), (A0_js, .inl (cI, 25, .inl (upd c0_js (Int32.toNatClampNeg x1) (c0_js (Int32.toNatClampNeg (x1 - 1)))))), (A0_ways, .inl (cI, 25, .inl (upd c0_ways (Int32.toNatClampNeg x1) (c0_ways (Int32.toNatClampNeg (x1 - 1)))))), (A0_times, .inl (cI, 25, .inl (upd c0_times (Int32.toNatClampNeg x1) (c0_times (Int32.toNatClampNeg (x1 - 1)))))), (A0_strengths, .inl (cI, 25, .inl c0_strengths))] := hD
  refine lv_aload_n hx hb dX0_shiftUp_56 rfl (lv_at hl 0 rfl) ?_
  refine va_get (D := G) (ci := 0) (v := .ref A0_strengths) (C := RX0) (T := TX0) (N := 8) hx hb hts (fun w h => (List.mem_cons_of_mem _ (List.mem_append_right _ h))) hown hK.1 hP 0 rfl rfl 4 (by decide) (hts (.fieldLink RX0 24 "EchoSeats$Ear" "strengths" "[I") (List.mem_of_getElem? (i := 5) rfl)) (fun _ h9 => h9) rfl dX0_shiftUp_57 ?_
  refine lv_iload_n hx hb dX0_shiftUp_60 rfl (lv_at hl 1 rfl) ?_
  refine lv_aload_n hx hb dX0_shiftUp_61 rfl (lv_at hl 0 rfl) ?_
  refine va_get (D := G) (ci := 0) (v := .ref A0_strengths) (C := RX0) (T := TX0) (N := 8) hx hb hts (fun w h => (List.mem_cons_of_mem _ (List.mem_append_right _ h))) hown hK.1 hP 0 rfl rfl 4 (by decide) (hts (.fieldLink RX0 24 "EchoSeats$Ear" "strengths" "[I") (List.mem_of_getElem? (i := 5) rfl)) (fun _ h9 => h9) rfl dX0_shiftUp_62 ?_
  refine lv_iload_n hx hb dX0_shiftUp_65 rfl (lv_at hl 1 rfl) ?_
  refine lv_iconst (v := 1) hx hb dX0_shiftUp_66 (by decide) ?_
  refine lv_isub hx hb dX0_shiftUp_67 ?_
  have g9 := gd_1 hres
  have hres := gd_2 hres
  refine x_iald hx hb hK hP 5 rfl (j := (Int32.toNatClampNeg (x1 - 1))) rfl g9 dX0_shiftUp_68 ?_
  have g10 := gd_1 hres
  have hres := gd_2 hres
  refine x_iast hx hb hK hP hD hS 5 rfl (j := (Int32.toNatClampNeg x1)) rfl g10 dX0_shiftUp_69 (fun H locs hP hD hS => ?_)
  have hP : va_P G vwCl [o0 A0 c0 A0_is A0_js A0_ways A0_times A0_strengths A0_deafened, (A0_is, .inl (cI, 25, .inl (upd c0_is (Int32.toNatClampNeg x1) (c0_is (Int32.toNatClampNeg (x1 - 1)))))), (A0_js, .inl (cI, 25, .inl (upd c0_js (Int32.toNatClampNeg x1) (c0_js (Int32.toNatClampNeg (x1 - 1)))))), (A0_ways, .inl (cI, 25, .inl (upd c0_ways (Int32.toNatClampNeg x1) (c0_ways (Int32.toNatClampNeg (x1 - 1)))))), (A0_times, .inl (cI, 25, .inl (upd c0_times (Int32.toNatClampNeg x1) (c0_times (Int32.toNatClampNeg (x1 - 1)))))), (A0_strengths, .inl (cI, 25, .inl (upd c0_strengths (Int32.toNatClampNeg x1) (c0_strengths (Int32.toNatClampNeg (x1 - 1))))))] H := hP
  have hD : va_D A [o0 A0 c0 A0_is A0_js A0_ways A0_times A0_strengths A0_deafened, (A0_is, .inl (cI, 25, .inl (upd c0_is (Int32.toNatClampNeg x1) (c0_is (Int32.toNatClampNeg (x1 - 1)))))), (A0_js, .inl (cI, 25, .inl (upd c0_js (Int32.toNatClampNeg x1) (c0_js (Int32.toNatClampNeg (x1 - 1)))))), (A0_ways, .inl (cI, 25, .inl (upd c0_ways (Int32.toNatClampNeg x1) (c0_ways (Int32.toNatClampNeg (x1 - 1)))))), (A0_times, .inl (cI, 25, .inl (upd c0_times (Int32.toNatClampNeg x1) (c0_times (Int32.toNatClampNeg (x1 - 1)))))), (A0_strengths, .inl (cI, 25, .inl (upd c0_strengths (Int32.toNatClampNeg x1) (c0_strengths (Int32.toNatClampNeg (x1 - 1))))))] := hD
  obtain rfl := Option.some.inj hres
  exact W.vret hx hb hr (fun t ht hW => ⟨⟨(), rfl, trivial, by rw [ht]; exact hP, hD⟩, hS.F ht⟩) hS.2.2 dX0_shiftUp_70
theorem hsX0_shiftUp : yX0_shiftUp.cls = RX0 ∧ yX0_shiftUp.cls ≠ "java/lang/invoke/MethodHandle" ∧ yX0_shiftUp.cls ≠ "java/lang/invoke/VarHandle" ∧ (parseMethodDescriptor yX0_shiftUp.desc).map (fun d => d.parameters.length) = some 1 := by decide +kernel
set_option maxHeartbeats 4000000 in
set_option maxRecDepth 100000 in
theorem kX5_farPasses (l : Launch) (G : va_G) (cI cZ : ClassId) (tl : List (ClassId × FieldType)) (x0 : Int32) (res : Int32) (hres : fX5_farPasses x0 = some res) : Met l yX5_farPasses wsX5_farPasses rX5_farPasses (va_Pc [.int x0] (PRO G cI cZ tl [])) (Sp res) 0 0 (fun _ => False) := by
  refine Met.ofW (cc := cX5_farPasses) (maxL := 1) (ret := (some .int)) (by decide) rfl ?_
  intro p e s m args below meth c s₁ B hml hv
  obtain ⟨rfl, hP, hK⟩ := hv
  have hx := B.exec
  have hb := B.bytes
  have hr := B.returns
  have hts := atoms_spec (ws := wsX5_farPasses) B.pre
  have hown : s.vm.findClass RX5 = some m.cls := findClass_of_methodNamed B.named
  have hlocks := B.notSynchronized
  have hl := lv_entry ([.int x0] : List Value) (n := 1) (Nat.le_of_ble_eq_true rfl)
  rw [lg_entry_eq]
  generalize (lg_sl ([.int x0] : List Value) ++ List.replicate (1 - (lg_sl ([.int x0] : List Value)).length) Slot.unset).toArray = ls at hl ⊢
  have hl : lv_has ls 1 [(0, .int x0)] := hl
  refine lv_iload_n hx hb dX5_farPasses_0 rfl (lv_at hl 0 rfl) ?_
  refine lv_if_le (tgt := 12) hx hb dX5_farPasses_1 (by decide) (fun h1 => ?_) (fun h1 => ?_)
  · have hres := ite_t hres h1
    refine lv_iload_n hx hb dX5_farPasses_12 rfl (lv_at hl 0 rfl) ?_
    refine lv_ineg hx hb dX5_farPasses_13 ?_
    refine lv_iconst (v := 2) hx hb dX5_farPasses_14 (by decide) ?_
    refine lv_idiv hx hb dX5_farPasses_15 (by decide) ?_
    obtain rfl := Option.some.inj hres
    exact W.iret hx hb hr (fun t ht hW => ⟨rfl, ht⟩) (fun q h => absurd h List.not_mem_nil) dX5_farPasses_16
  · have hres := ite_f hres h1
    refine lv_iload_n hx hb dX5_farPasses_4 rfl (lv_at hl 0 rfl) ?_
    refine lv_iconst (v := 1) hx hb dX5_farPasses_5 (by decide) ?_
    refine lv_iadd hx hb dX5_farPasses_6 ?_
    refine lv_iconst (v := 2) hx hb dX5_farPasses_7 (by decide) ?_
    refine lv_idiv hx hb dX5_farPasses_8 (by decide) ?_
    refine lv_goto (tgt := 16) hx hb dX5_farPasses_9 (by decide) ?_
    obtain rfl := Option.some.inj hres
    exact W.iret hx hb hr (fun t ht hW => ⟨rfl, ht⟩) (fun q h => absurd h List.not_mem_nil) dX5_farPasses_16
theorem hsX5_farPasses : yX5_farPasses.cls ≠ "java/lang/invoke/MethodHandle" ∧ yX5_farPasses.cls ≠ "java/lang/invoke/VarHandle" ∧ (parseMethodDescriptor yX5_farPasses.desc).map (fun d => d.parameters.length) = some 1 := by decide +kernel
set_option maxHeartbeats 4000000 in
set_option maxRecDepth 100000 in
theorem kX5_passes (l : Launch) (G : va_G) (cI cZ : ClassId) (tl : List (ClassId × FieldType)) (x0 x1 x2 : Int32) (res : Int32) (hres : fX5_passes x0 x1 x2 = some res) : Met l yX5_passes wsX5_passes rX5_passes (va_Pc [.int x0, .int x1, .int x2] (PRO G cI cZ tl [])) (Sp res) 0 0 (fun _ => False) := by
  refine Met.ofW (cc := cX5_passes) (maxL := 3) (ret := (some .int)) (by decide) rfl ?_
  intro p e s m args below meth c s₁ B hml hv
  obtain ⟨rfl, hP, hK⟩ := hv
  have hx := B.exec
  have hb := B.bytes
  have hr := B.returns
  have hts := atoms_spec (ws := wsX5_passes) B.pre
  have hown : s.vm.findClass RX5 = some m.cls := findClass_of_methodNamed B.named
  have hlocks := B.notSynchronized
  have hl := lv_entry ([.int x0, .int x1, .int x2] : List Value) (n := 3) (Nat.le_of_ble_eq_true rfl)
  rw [lg_entry_eq]
  generalize (lg_sl ([.int x0, .int x1, .int x2] : List Value) ++ List.replicate (3 - (lg_sl ([.int x0, .int x1, .int x2] : List Value)).length) Slot.unset).toArray = ls at hl ⊢
  have hl : lv_has ls 3 [(0, .int x0), (1, .int x1), (2, .int x2)] := hl
  refine lv_iload_n hx hb dX5_passes_0 rfl (lv_at hl 0 rfl) ?_
  by_cases h1 : x0 = 0
  · have hres := ite_t hres h1
    refine lv_tableIn (off := 27) (tgt := 28) hx hb dX5_passes_1 (by rw [h1]; decide) (by rw [h1]; decide) (by rw [h1]; rfl) (by decide) ?_
    refine lv_iload_n hx hb dX5_passes_28 rfl (lv_at hl 1 rfl) ?_
    refine lv_ineg hx hb dX5_passes_29 ?_
    obtain ⟨r2, hr2, hres⟩ := bi_1 hres
    refine x_cp (va_runS (As := [.int (-x1)]) (rest := []) ⟨hx, hb, hml, hown, hts⟩ (kX5_farPasses l G cI cZ tl (-x1) r2 hr2) (va_cwS 1 hts gX5_passes_X5_farPasses rfl rfl rfl hsX5_farPasses ⟨Nat.le_of_ble_eq_true rfl, Nat.le_of_ble_eq_true rfl⟩) ⟨PRO_blind, PRO_at va_P0 hK⟩ rfl rfl hl.1 rfl (lv_room (Nat.le_of_ble_eq_true rfl)) dX5_passes_30 ⟨Nat.zero_le _, Nat.zero_le _⟩) ?_
    obtain rfl := Option.some.inj hres
    exact W.iret hx hb hr (fun t ht hW => ⟨rfl, ht⟩) (fun q h => absurd h List.not_mem_nil) dX5_passes_33
  have hres := ite_f hres h1
  by_cases h3 : x0 = 1
  · have hres := ite_t hres h3
    refine lv_tableIn (off := 33) (tgt := 34) hx hb dX5_passes_1 (by rw [h3]; decide) (by rw [h3]; decide) (by rw [h3]; rfl) (by decide) ?_
    refine lv_iload_n hx hb dX5_passes_34 rfl (lv_at hl 1 rfl) ?_
    obtain ⟨r4, hr4, hres⟩ := bi_1 hres
    refine x_cp (va_runS (As := [.int x1]) (rest := []) ⟨hx, hb, hml, hown, hts⟩ (kX5_farPasses l G cI cZ tl x1 r4 hr4) (va_cwS 1 hts gX5_passes_X5_farPasses rfl rfl rfl hsX5_farPasses ⟨Nat.le_of_ble_eq_true rfl, Nat.le_of_ble_eq_true rfl⟩) ⟨PRO_blind, PRO_at va_P0 hK⟩ rfl rfl hl.1 rfl (lv_room (Nat.le_of_ble_eq_true rfl)) dX5_passes_35 ⟨Nat.zero_le _, Nat.zero_le _⟩) ?_
    obtain rfl := Option.some.inj hres
    exact W.iret hx hb hr (fun t ht hW => ⟨rfl, ht⟩) (fun q h => absurd h List.not_mem_nil) dX5_passes_38
  have hres := ite_f hres h3
  by_cases h5 : x0 = 2
  · have hres := ite_t hres h5
    refine lv_tableIn (off := 38) (tgt := 39) hx hb dX5_passes_1 (by rw [h5]; decide) (by rw [h5]; decide) (by rw [h5]; rfl) (by decide) ?_
    refine lv_iload_n hx hb dX5_passes_39 rfl (lv_at hl 2 rfl) ?_
    refine lv_ineg hx hb dX5_passes_40 ?_
    obtain ⟨r6, hr6, hres⟩ := bi_1 hres
    refine x_cp (va_runS (As := [.int (-x2)]) (rest := []) ⟨hx, hb, hml, hown, hts⟩ (kX5_farPasses l G cI cZ tl (-x2) r6 hr6) (va_cwS 1 hts gX5_passes_X5_farPasses rfl rfl rfl hsX5_farPasses ⟨Nat.le_of_ble_eq_true rfl, Nat.le_of_ble_eq_true rfl⟩) ⟨PRO_blind, PRO_at va_P0 hK⟩ rfl rfl hl.1 rfl (lv_room (Nat.le_of_ble_eq_true rfl)) dX5_passes_41 ⟨Nat.zero_le _, Nat.zero_le _⟩) ?_
    obtain rfl := Option.some.inj hres
    exact W.iret hx hb hr (fun t ht hW => ⟨rfl, ht⟩) (fun q h => absurd h List.not_mem_nil) dX5_passes_44
  have hres := ite_f hres h5
  refine lv_tableOut (tgt := 45) hx hb dX5_passes_1 (by have th1 := lv_neT h1 (a := 0) (by decide); have th3 := lv_neT h3 (a := 1) (by decide); have th5 := lv_neT h5 (a := 2) (by decide); omega) (by decide) ?_
  refine lv_iload_n hx hb dX5_passes_45 rfl (lv_at hl 2 rfl) ?_
  obtain ⟨r7, hr7, hres⟩ := bi_1 hres
  refine x_cp (va_runS (As := [.int x2]) (rest := []) ⟨hx, hb, hml, hown, hts⟩ (kX5_farPasses l G cI cZ tl x2 r7 hr7) (va_cwS 1 hts gX5_passes_X5_farPasses rfl rfl rfl hsX5_farPasses ⟨Nat.le_of_ble_eq_true rfl, Nat.le_of_ble_eq_true rfl⟩) ⟨PRO_blind, PRO_at va_P0 hK⟩ rfl rfl hl.1 rfl (lv_room (Nat.le_of_ble_eq_true rfl)) dX5_passes_46 ⟨Nat.zero_le _, Nat.zero_le _⟩) ?_
  obtain rfl := Option.some.inj hres
  exact W.iret hx hb hr (fun t ht hW => ⟨rfl, ht⟩) (fun q h => absurd h List.not_mem_nil) dX5_passes_49
theorem hsX5_passes : yX5_passes.cls ≠ "java/lang/invoke/MethodHandle" ∧ yX5_passes.cls ≠ "java/lang/invoke/VarHandle" ∧ (parseMethodDescriptor yX5_passes.desc).map (fun d => d.parameters.length) = some 3 := by decide +kernel
set_option maxHeartbeats 4000000 in
set_option maxRecDepth 100000 in
theorem kX5_strengthOf (l : Launch) (G : va_G) (cI cZ : ClassId) (tl : List (ClassId × FieldType)) (A0 : Nat) (c0 : Nat → Int32) (x1 x2 x3 : Int32) (res : Int32) (hres : fX5_strengthOf c0 x1 x2 x3 = some res) : Met l yX5_strengthOf wsX5_strengthOf rX5_strengthOf (va_Pc [.ref A0, .int x1, .int x2, .int x3] (PRO G cI cZ tl [(A0, .inl (cI, 4, .inl c0))])) (Sp res) 0 0 (fun _ => False) := by
  refine Met.ofW (cc := cX5_strengthOf) (maxL := 8) (ret := (some .int)) (by decide) rfl ?_
  intro p e s m args below meth c s₁ B hml hv
  obtain ⟨rfl, hP, hK⟩ := hv
  have hx := B.exec
  have hb := B.bytes
  have hr := B.returns
  have hts := atoms_spec (ws := wsX5_strengthOf) B.pre
  have hown : s.vm.findClass RX5 = some m.cls := findClass_of_methodNamed B.named
  have hlocks := B.notSynchronized
  have hl := lv_entry ([.ref A0, .int x1, .int x2, .int x3] : List Value) (n := 8) (Nat.le_of_ble_eq_true rfl)
  rw [lg_entry_eq]
  generalize (lg_sl ([.ref A0, .int x1, .int x2, .int x3] : List Value) ++ List.replicate (8 - (lg_sl ([.ref A0, .int x1, .int x2, .int x3] : List Value)).length) Slot.unset).toArray = ls at hl ⊢
  have hl : lv_has ls 8 [(0, .ref A0), (1, .int x1), (2, .int x2), (3, .int x3)] := hl
  refine lv_ldc (v := 1000000) hx hb hown (hts (.constant RX5 240 1000000) (List.mem_of_getElem? (i := 1) rfl)) dX5_strengthOf_0 ?_
  refine lv_istore (lv' := [(4, .int 1000000), (0, .ref A0), (1, .int x1), (2, .int x2), (3, .int x3)]) hx hb dX5_strengthOf_2 hl (by decide) rfl (fun ls hl => ?_)
  refine lv_iconst (v := 0) hx hb dX5_strengthOf_4 (by decide) ?_
  refine lv_istore (lv' := [(5, .int 0), (4, .int 1000000), (0, .ref A0), (1, .int x1), (2, .int x2), (3, .int x3)]) hx hb dX5_strengthOf_5 hl (by decide) rfl (fun ls hl => ?_)
  have Q7 : ∀ (v1_L7 : Int32) (v2_L7 : Int32) (v3_L7 : Int32) (n7 : Nat) (v4_L7 : Int32) (v5_L7 : Int32) (ls : Array Slot), LPX (fX5_strengthOf_L7 c0 v1_L7 v2_L7 v3_L7) n7 (v4_L7, v5_L7) = some res → lv_has ls 8 [(0, .ref A0), (1, .int v1_L7), (2, .int v2_L7), (3, .int v3_L7), (4, .int v4_L7), (5, .int v5_L7)] → WRO p l e wsX5_strengthOf rX5_strengthOf s m ([.ref A0, .int x1, .int x2, .int x3] : List Value).toArray below meth c res (F0 m 7 ls []) := by
    intro v1_L7 v2_L7 v3_L7 n7
    induction n7 with
    | zero =>
      intro v4_L7 v5_L7 ls hres
      exact absurd (LPX_0.symm.trans hres) (fun h => by cases h)
    | succ n7 ih7 =>
      intro v4_L7 v5_L7 ls hres hl
      have hres := LPX_s.symm.trans hres
      refine lv_iload hx hb dX5_strengthOf_7 (lv_at hl 5 rfl) ?_
      refine lv_iconst (v := 3) hx hb dX5_strengthOf_9 (by decide) ?_
      refine lv_icmp_gt (tgt := 59) hx hb dX5_strengthOf_10 (by decide) (fun h1 => ?_) (fun h1 => ?_)
      · have hres := ite_t hres h1
        refine lv_iload hx hb dX5_strengthOf_59 (lv_at hl 4 rfl) ?_
        refine lv_iconst (v := 1) hx hb dX5_strengthOf_61 (by decide) ?_
        refine lv_iload_n hx hb dX5_strengthOf_62 rfl (lv_at hl 3 rfl) ?_
        refine lv_iconst (v := 1) hx hb dX5_strengthOf_63 (by decide) ?_
        refine lv_iadd hx hb dX5_strengthOf_64 ?_
        refine va_mmax hx hb (hml.trans hl.1.symm) hown (hts (.methodLink RX5 205 Lib.Math.max.name) (List.mem_of_getElem? (i := 2) rfl)) (hts (.static Lib.Math.max.name) (List.mem_of_getElem? (i := 3) rfl)) (hts (.initialized "java/lang/Math") (List.mem_of_getElem? (i := 4) rfl)) (hts (.code Lib.Math.max.name Lib.Math.max.code 2 (some .int)) (List.mem_of_getElem? (i := 5) rfl)) (Nat.le_of_ble_eq_true rfl) (Nat.le_of_ble_eq_true rfl) (Nat.zero_le _) (Nat.zero_le _) dX5_strengthOf_65 ?_
        have g2 := gd_1 hres
        have hres := gd_2 hres
        refine lv_idiv hx hb dX5_strengthOf_68 g2 ?_
        obtain rfl := Option.some.inj hres
        exact W.iret hx hb hr (fun t ht hW => ⟨rfl, ht⟩) (fun q h => absurd h List.not_mem_nil) dX5_strengthOf_69
      · have hres := ite_f hres h1
        refine lv_iload hx hb dX5_strengthOf_13 (lv_at hl 5 rfl) ?_
        refine lv_iload_n hx hb dX5_strengthOf_15 rfl (lv_at hl 1 rfl) ?_
        refine lv_iload_n hx hb dX5_strengthOf_16 rfl (lv_at hl 2 rfl) ?_
        obtain ⟨r3, hr3, hres⟩ := bi_1 hres
        refine x_cp (va_runS (As := [.int v5_L7, .int v1_L7, .int v2_L7]) (rest := []) ⟨hx, hb, hml, hown, hts⟩ (kX5_passes l G cI cZ tl v5_L7 v1_L7 v2_L7 r3 hr3) (va_cwS 3 hts gX5_strengthOf_X5_passes rfl rfl rfl hsX5_passes ⟨Nat.le_of_ble_eq_true rfl, Nat.le_of_ble_eq_true rfl⟩) ⟨PRO_blind, PRO_at va_P0 hK⟩ rfl rfl hl.1 rfl (lv_room (Nat.le_of_ble_eq_true rfl)) dX5_strengthOf_17 ⟨Nat.zero_le _, Nat.zero_le _⟩) ?_
        refine lv_istore (lv' := [(6, .int r3), (0, .ref A0), (1, .int v1_L7), (2, .int v2_L7), (3, .int v3_L7), (4, .int v4_L7), (5, .int v5_L7)]) hx hb dX5_strengthOf_20 hl (by decide) rfl (fun ls hl => ?_)
        refine lv_iconst (v := 0) hx hb dX5_strengthOf_22 (by decide) ?_
        refine lv_istore (lv' := [(7, .int 0), (6, .int r3), (0, .ref A0), (1, .int v1_L7), (2, .int v2_L7), (3, .int v3_L7), (4, .int v4_L7), (5, .int v5_L7)]) hx hb dX5_strengthOf_23 hl (by decide) rfl (fun ls hl => ?_)
        have Q25 : ∀ (v5_L25 : Int32) (v6_L25 : Int32) (n25 : Nat) (v4_L25 : Int32) (v7_L25 : Int32) (ls : Array Slot), LPX (fX5_strengthOf_L25 c0 v1_L7 v2_L7 v3_L7 v5_L25 v6_L25 (LPX (fX5_strengthOf_L7 c0 v1_L7 v2_L7 v3_L7) n7)) n25 (v4_L25, v7_L25) = some res → lv_has ls 8 [(0, .ref A0), (1, .int v1_L7), (2, .int v2_L7), (3, .int v3_L7), (4, .int v4_L25), (5, .int v5_L25), (6, .int v6_L25), (7, .int v7_L25)] → WRO p l e wsX5_strengthOf rX5_strengthOf s m ([.ref A0, .int x1, .int x2, .int x3] : List Value).toArray below meth c res (F0 m 25 ls []) := by
          intro v5_L25 v6_L25 n25
          induction n25 with
          | zero =>
            intro v4_L25 v7_L25 ls hres
            exact absurd (LPX_0.symm.trans hres) (fun h => by cases h)
          | succ n25 ih25 =>
            intro v4_L25 v7_L25 ls hres hl
            have hres := LPX_s.symm.trans hres
            refine lv_iload hx hb dX5_strengthOf_25 (lv_at hl 7 rfl) ?_
            refine lv_iload hx hb dX5_strengthOf_27 (lv_at hl 6 rfl) ?_
            refine lv_icmp_ge (tgt := 53) hx hb dX5_strengthOf_29 (by decide) (fun h4 => ?_) (fun h4 => ?_)
            · have hres := ite_t hres h4
              refine lv_iinc (v := (v5_L25 + 1)) (lv' := [(5, .int (v5_L25 + 1)), (0, .ref A0), (1, .int v1_L7), (2, .int v2_L7), (3, .int v3_L7), (4, .int v4_L25), (6, .int v6_L25), (7, .int v7_L25)]) hx hb dX5_strengthOf_53 hl (k := 5) rfl rfl (by decide) rfl (fun ls hl => ?_)
              refine lv_goto (tgt := 7) hx hb dX5_strengthOf_56 (by decide) ?_
              exact ih7 v4_L25 (v5_L25 + 1) _ hres (lv_sub hl [1, 2, 3, 4, 5, 0] rfl)
            · have hres := ite_f hres h4
              refine lv_iload hx hb dX5_strengthOf_32 (lv_at hl 4 rfl) ?_
              refine lv_bipush (v := 10) hx hb dX5_strengthOf_34 (by decide) ?_
              refine lv_aload_n hx hb dX5_strengthOf_36 rfl (lv_at hl 0 rfl) ?_
              refine lv_iload hx hb dX5_strengthOf_37 (lv_at hl 5 rfl) ?_
              have g5 := gd_1 hres
              have hres := gd_2 hres
              refine x_iald hx hb hK hP 0 rfl (j := (Int32.toNatClampNeg v5_L25)) rfl g5 dX5_strengthOf_39 ?_
              refine lv_isub hx hb dX5_strengthOf_40 ?_
              refine lv_imul hx hb dX5_strengthOf_41 ?_
              refine lv_bipush (v := 10) hx hb dX5_strengthOf_42 (by decide) ?_
              refine lv_idiv hx hb dX5_strengthOf_44 (by decide) ?_
              refine lv_topi (fun y6 ey6 => ?_)
              have hres := bnd_z ey6 hres
              refine lv_istore (lv' := [(4, .int y6), (0, .ref A0), (1, .int v1_L7), (2, .int v2_L7), (3, .int v3_L7), (5, .int v5_L25), (6, .int v6_L25), (7, .int v7_L25)]) hx hb dX5_strengthOf_45 hl (by decide) rfl (fun ls hl => ?_)
              refine lv_iinc (v := (v7_L25 + 1)) (lv' := [(7, .int (v7_L25 + 1)), (4, .int y6), (0, .ref A0), (1, .int v1_L7), (2, .int v2_L7), (3, .int v3_L7), (5, .int v5_L25), (6, .int v6_L25)]) hx hb dX5_strengthOf_47 hl (k := 7) rfl rfl (by decide) rfl (fun ls hl => ?_)
              refine lv_goto (tgt := 25) hx hb dX5_strengthOf_50 (by decide) ?_
              exact ih25 y6 (v7_L25 + 1) _ hres (lv_sub hl [2, 3, 4, 5, 1, 6, 7, 0] rfl)
        exact Q25 v5_L7 r3 FU v4_L7 0 _ hres (lv_sub hl [2, 3, 4, 5, 6, 7, 1, 0] rfl)
  exact Q7 x1 x2 x3 FU 1000000 0 _ hres (lv_sub hl [2, 3, 4, 5, 1, 0] rfl)
theorem hsX5_strengthOf : yX5_strengthOf.cls ≠ "java/lang/invoke/MethodHandle" ∧ yX5_strengthOf.cls ≠ "java/lang/invoke/VarHandle" ∧ (parseMethodDescriptor yX5_strengthOf.desc).map (fun d => d.parameters.length) = some 4 := by decide +kernel
