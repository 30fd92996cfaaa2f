set_option maxHeartbeats 4000000 in
set_option maxRecDepth 100000 in
theorem kX6_firstWrong (l : Launch) (G : va_G) (cI cZ : ClassId) (tl : List (ClassId × FieldType)) (A0 A0_s A0_draft A0_kept A0_isKept A0_undone A0_seenI A0_seenJ A0_seenTime A0_text A0_kind A0_place A0_value A0_swallows A0_time A0_strength A0_which A0_told : Nat) (c0 c0_kind c0_draft c0_value : Nat → Int32) (x1 : Int32) (res : Int32) (hres : fX6_firstWrong c0 c0_kind c0_draft c0_value x1 = some res) : Met l yX6_firstWrong wsX6_firstWrong rX6_firstWrong (va_Pc [.ref A0, .int x1] (PRO G cI cZ tl [o6 A0 c0 A0_s A0_draft A0_kept A0_isKept A0_undone A0_seenI A0_seenJ A0_seenTime A0_text A0_kind A0_place A0_value A0_swallows A0_time A0_strength A0_which A0_told, (A0_kind, .inl (cI, 100, .inl c0_kind)), (A0_draft, .inl (cI, 27, .inl c0_draft)), (A0_value, .inl (cI, 100, .inl c0_value))])) (Sp res) 0 0 (fun _ => False) := by
  refine Met.ofW (cc := cX6_firstWrong) (maxL := 9) (ret := (some .int)) (by decide) rfl ?_
  intro p e s m args below meth c s₁ B hml hv
  obtain ⟨rfl, hP, hK⟩ := hv
  have hx := B.exec
  have hb := B.bytes
  have hr := B.returns
  have hts := atoms_spec (ws := wsX6_firstWrong) B.pre
  have hown : s.vm.findClass RX6 = some m.cls := findClass_of_methodNamed B.named
  have hlocks := B.notSynchronized
  have hl := lv_entry ([.ref A0, .int x1] : List Value) (n := 9) (Nat.le_of_ble_eq_true rfl)
  rw [lg_entry_eq]
  generalize (lg_sl ([.ref A0, .int x1] : List Value) ++ List.replicate (9 - (lg_sl ([.ref A0, .int x1] : List Value)).length) Slot.unset).toArray = ls at hl ⊢
  have hl : lv_has ls 9 [(0, .ref A0), (1, .int x1)] := hl
  have J279 : ∀ (z0_j279 : Int32) (ls : Array Slot), fX6_firstWrong_j279 c0 c0_kind c0_draft c0_value z0_j279 = some res → lv_has ls 9 [(0, .ref A0)] → WRO p l e wsX6_firstWrong rX6_firstWrong s m ([.ref A0, .int x1] : List Value).toArray below meth c res (F0 m 279 ls [.int z0_j279]) := by
    intro z0_j279 ls hres hl
    refine lv_istore (lv' := [(8, .int z0_j279), (0, .ref A0)]) hx hb dX6_firstWrong_279 hl (by decide) rfl (fun ls hl => ?_)
    refine lv_aload_n hx hb dX6_firstWrong_281 rfl (lv_at hl 1 rfl) ?_
    refine lv_iload hx hb dX6_firstWrong_282 (lv_at hl 0 rfl) ?_
    refine lv_bipush (v := 59) hx hb dX6_firstWrong_284 (by decide) ?_
    obtain ⟨r1, hr1, hres⟩ := bi_1 hres
    refine x_cp (va_runV (As := [.int z0_j279, .int 59]) (rest := []) ⟨hx, hb, hml, hown, hts⟩ (kX6_isKind l G cI cZ tl A0 A0_s A0_draft A0_kept A0_isKept A0_undone A0_seenI A0_seenJ A0_seenTime A0_text A0_kind A0_place A0_value A0_swallows A0_time A0_strength A0_which A0_told c0 c0_kind z0_j279 59 r1 hr1) (cwV 2 hts gX6_firstWrong_X6_isKind rfl rfl rfl hsX6_isKind ⟨Nat.le_of_ble_eq_true rfl, Nat.le_of_ble_eq_true rfl⟩) ⟨PRO_blind, va_recv hK.1 hP (ci := 6) (q0 := 0) rfl rfl, PRO_at (hP.sub (ws' := [o6 A0 c0 A0_s A0_draft A0_kept A0_isKept A0_undone A0_seenI A0_seenJ A0_seenTime A0_text A0_kind A0_place A0_value A0_swallows A0_time A0_strength A0_which A0_told, (A0_kind, .inl (cI, 100, .inl c0_kind))]) [0, 1] rfl) hK⟩ rfl rfl hl.1 rfl (lv_room (Nat.le_of_ble_eq_true rfl)) dX6_firstWrong_286 ⟨Nat.zero_le _, Nat.zero_le _⟩) ?_
    refine lv_if_eq (tgt := 297) hx hb dX6_firstWrong_289 (by decide) (fun h2 => ?_) (fun h2 => ?_)
    · have hres := ite_t hres h2
      refine lv_iload hx hb dX6_firstWrong_297 (lv_at hl 0 rfl) ?_
      obtain rfl := Option.some.inj hres
      exact W.iret hx hb hr (fun t ht hW => ⟨rfl, ht⟩) (fun q h => absurd h List.not_mem_nil) dX6_firstWrong_299
    · have hres := ite_f hres h2
      refine lv_bipush (v := (-9)) hx hb dX6_firstWrong_292 (by decide) ?_
      refine lv_goto (tgt := 299) hx hb dX6_firstWrong_294 (by decide) ?_
      obtain rfl := Option.some.inj hres
      exact W.iret hx hb hr (fun t ht hW => ⟨rfl, ht⟩) (fun q h => absurd h List.not_mem_nil) dX6_firstWrong_299
  have J218 : ∀ (v1_j218 : Int32) (v2_j218 : Int32) (v7_j218 : Int32) (z0_j218 : Int32) (z1_j218 : Int32) (ls : Array Slot), fX6_firstWrong_j218 c0 c0_kind c0_draft c0_value v1_j218 v2_j218 v7_j218 z0_j218 z1_j218 = some res → lv_has ls 9 [(0, .ref A0), (1, .int v1_j218), (2, .int v2_j218), (7, .int v7_j218)] → WRO p l e wsX6_firstWrong rX6_firstWrong s m ([.ref A0, .int x1] : List Value).toArray below meth c res (F0 m 218 ls [.int z0_j218, .int z1_j218, .ref A0]) := by
    intro v1_j218 v2_j218 v7_j218 z0_j218 z1_j218 ls hres hl
    refine lv_iload hx hb dX6_firstWrong_218 (lv_at hl 3 rfl) ?_
    obtain ⟨r3, hr3, hres⟩ := bi_1 hres
    refine x_cp (va_runV (As := [.int z1_j218, .int z0_j218, .int v7_j218]) (rest := []) ⟨hx, hb, hml, hown, hts⟩ (kX6_isNumber l G cI cZ tl A0 A0_s A0_draft A0_kept A0_isKept A0_undone A0_seenI A0_seenJ A0_seenTime A0_text A0_kind A0_place A0_value A0_swallows A0_time A0_strength A0_which A0_told c0 c0_kind c0_value z1_j218 z0_j218 v7_j218 r3 hr3) (cwV 3 hts gX6_firstWrong_X6_isNumber rfl rfl rfl hsX6_isNumber ⟨Nat.le_of_ble_eq_true rfl, Nat.le_of_ble_eq_true rfl⟩) ⟨PRO_blind, va_recv hK.1 hP (ci := 6) (q0 := 0) rfl rfl, PRO_at (hP.sub (ws' := [o6 A0 c0 A0_s A0_draft A0_kept A0_isKept A0_undone A0_seenI A0_seenJ A0_seenTime A0_text A0_kind A0_place A0_value A0_swallows A0_time A0_strength A0_which A0_told, (A0_kind, .inl (cI, 100, .inl c0_kind)), (A0_value, .inl (cI, 100, .inl c0_value))]) [0, 1, 3] rfl) hK⟩ rfl rfl hl.1 rfl (lv_room (Nat.le_of_ble_eq_true rfl)) dX6_firstWrong_220 ⟨Nat.zero_le _, Nat.zero_le _⟩) ?_
    refine lv_if_ne (tgt := 230) hx hb dX6_firstWrong_223 (by decide) (fun h4 => ?_) (fun h4 => ?_)
    · have hres := ite_f hres h4
      refine lv_iload_n hx hb dX6_firstWrong_230 rfl (lv_at hl 2 rfl) ?_
      refine lv_bipush (v := 99) hx hb dX6_firstWrong_231 (by decide) ?_
      refine lv_icmp_ne (tgt := 264) hx hb dX6_firstWrong_233 (by decide) (fun h5 => ?_) (fun h5 => ?_)
      · have hres := ite_f hres h5
        refine lv_iload_n hx hb dX6_firstWrong_264 rfl (lv_at hl 2 rfl) ?_
        refine lv_bipush (v := 99) hx hb dX6_firstWrong_265 (by decide) ?_
        refine lv_icmp_ne (tgt := 276) hx hb dX6_firstWrong_267 (by decide) (fun h6 => ?_) (fun h6 => ?_)
        · have hres := ite_f hres h6
          refine lv_iload_n hx hb dX6_firstWrong_276 rfl (lv_at hl 1 rfl) ?_
          refine lv_iconst (v := 3) hx hb dX6_firstWrong_277 (by decide) ?_
          refine lv_iadd hx hb dX6_firstWrong_278 ?_
          exact J279 (v1_j218 + 3) _ hres (lv_sub hl [0] rfl)
        · have hres := ite_t hres h6
          refine lv_iload_n hx hb dX6_firstWrong_270 rfl (lv_at hl 1 rfl) ?_
          refine lv_iconst (v := 4) hx hb dX6_firstWrong_271 (by decide) ?_
          refine lv_iadd hx hb dX6_firstWrong_272 ?_
          refine lv_goto (tgt := 279) hx hb dX6_firstWrong_273 (by decide) ?_
          exact J279 (v1_j218 + 4) _ hres (lv_sub hl [0] rfl)
      · have hres := ite_t hres h5
        refine lv_aload_n hx hb dX6_firstWrong_236 rfl (lv_at hl 0 rfl) ?_
        refine lv_iload_n hx hb dX6_firstWrong_237 rfl (lv_at hl 1 rfl) ?_
        refine lv_iconst (v := 3) hx hb dX6_firstWrong_238 (by decide) ?_
        refine lv_iadd hx hb dX6_firstWrong_239 ?_
        refine lv_aload_n hx hb dX6_firstWrong_240 rfl (lv_at hl 0 rfl) ?_
        refine va_get (D := G) (ci := 6) (v := .ref A0_value) (C := RX6) (T := TX6) (N := 22) hx hb hts (fun w h => (List.mem_cons_of_mem _ (List.mem_append_right _ h))) hown hK.1 hP 0 rfl rfl 14 (by decide) (hts (.fieldLink RX6 44 "EchoSeatsModel" "value" "[I") (List.mem_of_getElem? (i := 2) rfl)) (fun _ h9 => h9) rfl dX6_firstWrong_241 ?_
        refine lv_iload_n hx hb dX6_firstWrong_244 rfl (lv_at hl 1 rfl) ?_
        refine lv_iconst (v := 2) hx hb dX6_firstWrong_245 (by decide) ?_
        refine lv_iadd hx hb dX6_firstWrong_246 ?_
        have g7 := gd_1 hres
        have hres := gd_2 hres
        refine x_iald hx hb hK hP 3 rfl (j := (Int32.toNatClampNeg (v1_j218 + 2))) rfl g7 dX6_firstWrong_247 ?_
        refine lv_aload_n hx hb dX6_firstWrong_248 rfl (lv_at hl 0 rfl) ?_
        refine va_get (D := G) (ci := 6) (v := .ref A0_draft) (C := RX6) (T := TX6) (N := 22) hx hb hts (fun w h => (List.mem_cons_of_mem _ (List.mem_append_right _ h))) hown hK.1 hP 0 rfl rfl 1 (by decide) (hts (.fieldLink RX6 13 "EchoSeatsModel" "draft" "[I") (List.mem_of_getElem? (i := 1) rfl)) (fun _ h9 => h9) rfl dX6_firstWrong_249 ?_
        refine lv_iconst (v := 1) hx hb dX6_firstWrong_252 (by decide) ?_
        refine x_iald hx hb hK hP 2 rfl (j := 1) (by decide) (by decide) dX6_firstWrong_253 ?_
        obtain ⟨r8, hr8, hres⟩ := bi_1 hres
        refine x_cp (va_runV (As := [.int (v1_j218 + 3), .int (c0_value (Int32.toNatClampNeg (v1_j218 + 2))), .int (c0_draft 1)]) (rest := []) ⟨hx, hb, hml, hown, hts⟩ (kX6_isNumber l G cI cZ tl A0 A0_s A0_draft A0_kept A0_isKept A0_undone A0_seenI A0_seenJ A0_seenTime A0_text A0_kind A0_place A0_value A0_swallows A0_time A0_strength A0_which A0_told c0 c0_kind c0_value (v1_j218 + 3) (c0_value (Int32.toNatClampNeg (v1_j218 + 2))) (c0_draft 1) r8 hr8) (cwV 3 hts gX6_firstWrong_X6_isNumber rfl rfl rfl hsX6_isNumber ⟨Nat.le_of_ble_eq_true rfl, Nat.le_of_ble_eq_true rfl⟩) ⟨PRO_blind, va_recv hK.1 hP (ci := 6) (q0 := 0) rfl rfl, PRO_at (hP.sub (ws' := [o6 A0 c0 A0_s A0_draft A0_kept A0_isKept A0_undone A0_seenI A0_seenJ A0_seenTime A0_text A0_kind A0_place A0_value A0_swallows A0_time A0_strength A0_which A0_told, (A0_kind, .inl (cI, 100, .inl c0_kind)), (A0_value, .inl (cI, 100, .inl c0_value))]) [0, 1, 3] rfl) hK⟩ rfl rfl hl.1 rfl (lv_room (Nat.le_of_ble_eq_true rfl)) dX6_firstWrong_254 ⟨Nat.zero_le _, Nat.zero_le _⟩) ?_
        refine lv_if_ne (tgt := 264) hx hb dX6_firstWrong_257 (by decide) (fun h9 => ?_) (fun h9 => ?_)
        · have hres := ite_f hres h9
          refine lv_iload_n hx hb dX6_firstWrong_264 rfl (lv_at hl 2 rfl) ?_
          refine lv_bipush (v := 99) hx hb dX6_firstWrong_265 (by decide) ?_
          refine lv_icmp_ne (tgt := 276) hx hb dX6_firstWrong_267 (by decide) (fun h10 => ?_) (fun h10 => ?_)
          · have hres := ite_f hres h10
            refine lv_iload_n hx hb dX6_firstWrong_276 rfl (lv_at hl 1 rfl) ?_
            refine lv_iconst (v := 3) hx hb dX6_firstWrong_277 (by decide) ?_
            refine lv_iadd hx hb dX6_firstWrong_278 ?_
            exact J279 (v1_j218 + 3) _ hres (lv_sub hl [0] rfl)
          · have hres := ite_t hres h10
            refine lv_iload_n hx hb dX6_firstWrong_270 rfl (lv_at hl 1 rfl) ?_
            refine lv_iconst (v := 4) hx hb dX6_firstWrong_271 (by decide) ?_
            refine lv_iadd hx hb dX6_firstWrong_272 ?_
            refine lv_goto (tgt := 279) hx hb dX6_firstWrong_273 (by decide) ?_
            exact J279 (v1_j218 + 4) _ hres (lv_sub hl [0] rfl)
        · have hres := ite_t hres h9
          refine lv_iload_n hx hb dX6_firstWrong_260 rfl (lv_at hl 1 rfl) ?_
          refine lv_iconst (v := 3) hx hb dX6_firstWrong_261 (by decide) ?_
          refine lv_iadd hx hb dX6_firstWrong_262 ?_
          obtain rfl := Option.some.inj hres
          exact W.iret hx hb hr (fun t ht hW => ⟨rfl, ht⟩) (fun q h => absurd h List.not_mem_nil) dX6_firstWrong_263
    · have hres := ite_t hres h4
      refine lv_iload_n hx hb dX6_firstWrong_226 rfl (lv_at hl 1 rfl) ?_
      refine lv_iconst (v := 2) hx hb dX6_firstWrong_227 (by decide) ?_
      refine lv_iadd hx hb dX6_firstWrong_228 ?_
      obtain rfl := Option.some.inj hres
      exact W.iret hx hb hr (fun t ht hW => ⟨rfl, ht⟩) (fun q h => absurd h List.not_mem_nil) dX6_firstWrong_229
  have J153 : ∀ (v1_j153 : Int32) (v2_j153 : Int32) (v5_j153 : Int32) (z0_j153 : Int32) (ls : Array Slot), fX6_firstWrong_j153 c0 c0_kind c0_draft c0_value v1_j153 v2_j153 v5_j153 z0_j153 = some res → lv_has ls 9 [(0, .ref A0), (1, .int v1_j153), (2, .int v2_j153), (5, .int v5_j153)] → WRO p l e wsX6_firstWrong rX6_firstWrong s m ([.ref A0, .int x1] : List Value).toArray below meth c res (F0 m 153 ls [.int z0_j153]) := by
    intro v1_j153 v2_j153 v5_j153 z0_j153 ls hres hl
    refine lv_istore (lv' := [(6, .int z0_j153), (0, .ref A0), (1, .int v1_j153), (2, .int v2_j153), (5, .int v5_j153)]) hx hb dX6_firstWrong_153 hl (by decide) rfl (fun ls hl => ?_)
    refine lv_aload_n hx hb dX6_firstWrong_155 rfl (lv_at hl 1 rfl) ?_
    refine lv_iload_n hx hb dX6_firstWrong_156 rfl (lv_at hl 2 rfl) ?_
    refine lv_iconst (v := 1) hx hb dX6_firstWrong_157 (by decide) ?_
    refine lv_iadd hx hb dX6_firstWrong_158 ?_
    refine lv_iload hx hb dX6_firstWrong_159 (lv_at hl 4 rfl) ?_
    refine lv_iload hx hb dX6_firstWrong_161 (lv_at hl 0 rfl) ?_
    obtain ⟨r11, hr11, hres⟩ := bi_1 hres
    refine x_cp (va_runV (As := [.int (v1_j153 + 1), .int v5_j153, .int z0_j153]) (rest := []) ⟨hx, hb, hml, hown, hts⟩ (kX6_isNumber l G cI cZ tl A0 A0_s A0_draft A0_kept A0_isKept A0_undone A0_seenI A0_seenJ A0_seenTime A0_text A0_kind A0_place A0_value A0_swallows A0_time A0_strength A0_which A0_told c0 c0_kind c0_value (v1_j153 + 1) v5_j153 z0_j153 r11 hr11) (cwV 3 hts gX6_firstWrong_X6_isNumber rfl rfl rfl hsX6_isNumber ⟨Nat.le_of_ble_eq_true rfl, Nat.le_of_ble_eq_true rfl⟩) ⟨PRO_blind, va_recv hK.1 hP (ci := 6) (q0 := 0) rfl rfl, PRO_at (hP.sub (ws' := [o6 A0 c0 A0_s A0_draft A0_kept A0_isKept A0_undone A0_seenI A0_seenJ A0_seenTime A0_text A0_kind A0_place A0_value A0_swallows A0_time A0_strength A0_which A0_told, (A0_kind, .inl (cI, 100, .inl c0_kind)), (A0_value, .inl (cI, 100, .inl c0_value))]) [0, 1, 3] rfl) hK⟩ rfl rfl hl.1 rfl (lv_room (Nat.le_of_ble_eq_true rfl)) dX6_firstWrong_163 ⟨Nat.zero_le _, Nat.zero_le _⟩) ?_
    refine lv_if_ne (tgt := 173) hx hb dX6_firstWrong_166 (by decide) (fun h12 => ?_) (fun h12 => ?_)
    · have hres := ite_f hres h12
      refine lv_iload_n hx hb dX6_firstWrong_173 rfl (lv_at hl 3 rfl) ?_
      refine lv_bipush (v := 114) hx hb dX6_firstWrong_174 (by decide) ?_
      refine lv_icmp_ne (tgt := 184) hx hb dX6_firstWrong_176 (by decide) (fun h13 => ?_) (fun h13 => ?_)
      · have hres := ite_f hres h13
        refine lv_iload_n hx hb dX6_firstWrong_184 rfl (lv_at hl 3 rfl) ?_
        refine lv_bipush (v := 119) hx hb dX6_firstWrong_185 (by decide) ?_
        refine lv_icmp_ne (tgt := 195) hx hb dX6_firstWrong_187 (by decide) (fun h14 => ?_) (fun h14 => ?_)
        · have hres := ite_f hres h14
          refine lv_aload_n hx hb dX6_firstWrong_195 rfl (lv_at hl 1 rfl) ?_
          refine va_get (D := G) (ci := 6) (v := .ref A0_draft) (C := RX6) (T := TX6) (N := 22) hx hb hts (fun w h => (List.mem_cons_of_mem _ (List.mem_append_right _ h))) hown hK.1 hP 0 rfl rfl 1 (by decide) (hts (.fieldLink RX6 13 "EchoSeatsModel" "draft" "[I") (List.mem_of_getElem? (i := 1) rfl)) (fun _ h9 => h9) rfl dX6_firstWrong_196 ?_
          refine lv_iconst (v := 1) hx hb dX6_firstWrong_199 (by decide) ?_
          refine x_iald hx hb hK hP 2 rfl (j := 1) (by decide) (by decide) dX6_firstWrong_200 ?_
          refine lv_topi (fun y15 ey15 => ?_)
          have hres := bnd_z ey15 hres
          refine lv_istore (lv' := [(7, .int y15), (6, .int z0_j153), (0, .ref A0), (1, .int v1_j153), (2, .int v2_j153), (5, .int v5_j153)]) hx hb dX6_firstWrong_201 hl (by decide) rfl (fun ls hl => ?_)
          refine lv_aload_n hx hb dX6_firstWrong_203 rfl (lv_at hl 2 rfl) ?_
          refine lv_iload_n hx hb dX6_firstWrong_204 rfl (lv_at hl 3 rfl) ?_
          refine lv_iconst (v := 2) hx hb dX6_firstWrong_205 (by decide) ?_
          refine lv_iadd hx hb dX6_firstWrong_206 ?_
          refine lv_iload_n hx hb dX6_firstWrong_207 rfl (lv_at hl 4 rfl) ?_
          refine lv_bipush (v := 114) hx hb dX6_firstWrong_208 (by decide) ?_
          refine lv_icmp_ne (tgt := 217) hx hb dX6_firstWrong_210 (by decide) (fun h16 => ?_) (fun h16 => ?_)
          · have hres := ite_f hres h16
            refine lv_iconst (v := 0) hx hb dX6_firstWrong_217 (by decide) ?_
            exact J218 v1_j153 v2_j153 y15 0 (v1_j153 + 2) _ hres (lv_sub hl [2, 3, 4, 0] rfl)
          · have hres := ite_t hres h16
            refine lv_iconst (v := 2) hx hb dX6_firstWrong_213 (by decide) ?_
            refine lv_goto (tgt := 218) hx hb dX6_firstWrong_214 (by decide) ?_
            exact J218 v1_j153 v2_j153 y15 2 (v1_j153 + 2) _ hres (lv_sub hl [2, 3, 4, 0] rfl)
        · have hres := ite_t hres h14
          refine lv_bipush (v := 10) hx hb dX6_firstWrong_190 (by decide) ?_
          refine lv_goto (tgt := 201) hx hb dX6_firstWrong_192 (by decide) ?_
          refine lv_istore (lv' := [(7, .int 10), (6, .int z0_j153), (0, .ref A0), (1, .int v1_j153), (2, .int v2_j153), (5, .int v5_j153)]) hx hb dX6_firstWrong_201 hl (by decide) rfl (fun ls hl => ?_)
          refine lv_aload_n hx hb dX6_firstWrong_203 rfl (lv_at hl 2 rfl) ?_
          refine lv_iload_n hx hb dX6_firstWrong_204 rfl (lv_at hl 3 rfl) ?_
          refine lv_iconst (v := 2) hx hb dX6_firstWrong_205 (by decide) ?_
          refine lv_iadd hx hb dX6_firstWrong_206 ?_
          refine lv_iload_n hx hb dX6_firstWrong_207 rfl (lv_at hl 4 rfl) ?_
          refine lv_bipush (v := 114) hx hb dX6_firstWrong_208 (by decide) ?_
          refine lv_icmp_ne (tgt := 217) hx hb dX6_firstWrong_210 (by decide) (fun h17 => ?_) (fun h17 => ?_)
          · have hres := ite_f hres h17
            refine lv_iconst (v := 0) hx hb dX6_firstWrong_217 (by decide) ?_
            exact J218 v1_j153 v2_j153 10 0 (v1_j153 + 2) _ hres (lv_sub hl [2, 3, 4, 0] rfl)
          · have hres := ite_t hres h17
            refine lv_iconst (v := 2) hx hb dX6_firstWrong_213 (by decide) ?_
            refine lv_goto (tgt := 218) hx hb dX6_firstWrong_214 (by decide) ?_
            exact J218 v1_j153 v2_j153 10 2 (v1_j153 + 2) _ hres (lv_sub hl [2, 3, 4, 0] rfl)
      · have hres := ite_t hres h13
        refine lv_bipush (v := 20) hx hb dX6_firstWrong_179 (by decide) ?_
        refine lv_goto (tgt := 201) hx hb dX6_firstWrong_181 (by decide) ?_
        refine lv_istore (lv' := [(7, .int 20), (6, .int z0_j153), (0, .ref A0), (1, .int v1_j153), (2, .int v2_j153), (5, .int v5_j153)]) hx hb dX6_firstWrong_201 hl (by decide) rfl (fun ls hl => ?_)
        refine lv_aload_n hx hb dX6_firstWrong_203 rfl (lv_at hl 2 rfl) ?_
        refine lv_iload_n hx hb dX6_firstWrong_204 rfl (lv_at hl 3 rfl) ?_
        refine lv_iconst (v := 2) hx hb dX6_firstWrong_205 (by decide) ?_
        refine lv_iadd hx hb dX6_firstWrong_206 ?_
        refine lv_iload_n hx hb dX6_firstWrong_207 rfl (lv_at hl 4 rfl) ?_
        refine lv_bipush (v := 114) hx hb dX6_firstWrong_208 (by decide) ?_
        refine lv_icmp_ne (tgt := 217) hx hb dX6_firstWrong_210 (by decide) (fun h18 => ?_) (fun h18 => ?_)
        · have hres := ite_f hres h18
          refine lv_iconst (v := 0) hx hb dX6_firstWrong_217 (by decide) ?_
          exact J218 v1_j153 v2_j153 20 0 (v1_j153 + 2) _ hres (lv_sub hl [2, 3, 4, 0] rfl)
        · have hres := ite_t hres h18
          refine lv_iconst (v := 2) hx hb dX6_firstWrong_213 (by decide) ?_
          refine lv_goto (tgt := 218) hx hb dX6_firstWrong_214 (by decide) ?_
          exact J218 v1_j153 v2_j153 20 2 (v1_j153 + 2) _ hres (lv_sub hl [2, 3, 4, 0] rfl)
    · have hres := ite_t hres h12
      refine lv_iload_n hx hb dX6_firstWrong_169 rfl (lv_at hl 2 rfl) ?_
      refine lv_iconst (v := 1) hx hb dX6_firstWrong_170 (by decide) ?_
      refine lv_iadd hx hb dX6_firstWrong_171 ?_
      obtain rfl := Option.some.inj hres
      exact W.iret hx hb hr (fun t ht hW => ⟨rfl, ht⟩) (fun q h => absurd h List.not_mem_nil) dX6_firstWrong_172
  have J107 : ∀ (v1_j107 : Int32) (v2_j107 : Int32) (z0_j107 : Int32) (ls : Array Slot), fX6_firstWrong_j107 c0 c0_kind c0_draft c0_value v1_j107 v2_j107 z0_j107 = some res → lv_has ls 9 [(0, .ref A0), (1, .int v1_j107), (2, .int v2_j107)] → WRO p l e wsX6_firstWrong rX6_firstWrong s m ([.ref A0, .int x1] : List Value).toArray below meth c res (F0 m 107 ls [.int z0_j107]) := by
    intro v1_j107 v2_j107 z0_j107 ls hres hl
    refine lv_istore (lv' := [(5, .int z0_j107), (0, .ref A0), (1, .int v1_j107), (2, .int v2_j107)]) hx hb dX6_firstWrong_107 hl (by decide) rfl (fun ls hl => ?_)
    refine lv_iload_n hx hb dX6_firstWrong_109 rfl (lv_at hl 3 rfl) ?_
    refine lv_bipush (v := 114) hx hb dX6_firstWrong_110 (by decide) ?_
    refine lv_icmp_ne (tgt := 120) hx hb dX6_firstWrong_112 (by decide) (fun h19 => ?_) (fun h19 => ?_)
    · have hres := ite_f hres h19
      refine lv_iload_n hx hb dX6_firstWrong_120 rfl (lv_at hl 3 rfl) ?_
      refine lv_bipush (v := 119) hx hb dX6_firstWrong_121 (by decide) ?_
      refine lv_icmp_ne (tgt := 130) hx hb dX6_firstWrong_123 (by decide) (fun h20 => ?_) (fun h20 => ?_)
      · have hres := ite_f hres h20
        refine lv_iload_n hx hb dX6_firstWrong_130 rfl (lv_at hl 3 rfl) ?_
        refine lv_bipush (v := 99) hx hb dX6_firstWrong_131 (by decide) ?_
        refine lv_icmp_ne (tgt := 147) hx hb dX6_firstWrong_133 (by decide) (fun h21 => ?_) (fun h21 => ?_)
        · have hres := ite_f hres h21
          refine lv_aload_n hx hb dX6_firstWrong_147 rfl (lv_at hl 1 rfl) ?_
          refine va_get (D := G) (ci := 6) (v := .ref A0_draft) (C := RX6) (T := TX6) (N := 22) hx hb hts (fun w h => (List.mem_cons_of_mem _ (List.mem_append_right _ h))) hown hK.1 hP 0 rfl rfl 1 (by decide) (hts (.fieldLink RX6 13 "EchoSeatsModel" "draft" "[I") (List.mem_of_getElem? (i := 1) rfl)) (fun _ h9 => h9) rfl dX6_firstWrong_148 ?_
          refine lv_iconst (v := 0) hx hb dX6_firstWrong_151 (by decide) ?_
          refine x_iald hx hb hK hP 2 rfl (j := 0) (by decide) (by decide) dX6_firstWrong_152 ?_
          exact J153 v1_j107 v2_j107 z0_j107 (c0_draft 0) _ hres (lv_sub hl [1, 2, 3, 0] rfl)
        · have hres := ite_t hres h21
          refine lv_aload_n hx hb dX6_firstWrong_136 rfl (lv_at hl 1 rfl) ?_
          refine va_get (D := G) (ci := 6) (v := .ref A0_draft) (C := RX6) (T := TX6) (N := 22) hx hb hts (fun w h => (List.mem_cons_of_mem _ (List.mem_append_right _ h))) hown hK.1 hP 0 rfl rfl 1 (by decide) (hts (.fieldLink RX6 13 "EchoSeatsModel" "draft" "[I") (List.mem_of_getElem? (i := 1) rfl)) (fun _ h9 => h9) rfl dX6_firstWrong_137 ?_
          refine lv_iconst (v := 0) hx hb dX6_firstWrong_140 (by decide) ?_
          refine x_iald hx hb hK hP 2 rfl (j := 0) (by decide) (by decide) dX6_firstWrong_141 ?_
          refine lv_iconst (v := 1) hx hb dX6_firstWrong_142 (by decide) ?_
          refine lv_isub hx hb dX6_firstWrong_143 ?_
          refine lv_goto (tgt := 153) hx hb dX6_firstWrong_144 (by decide) ?_
          exact J153 v1_j107 v2_j107 z0_j107 ((c0_draft 0) - 1) _ hres (lv_sub hl [1, 2, 3, 0] rfl)
      · have hres := ite_t hres h20
        refine lv_iconst (v := 3) hx hb dX6_firstWrong_126 (by decide) ?_
        refine lv_goto (tgt := 153) hx hb dX6_firstWrong_127 (by decide) ?_
        exact J153 v1_j107 v2_j107 z0_j107 3 _ hres (lv_sub hl [1, 2, 3, 0] rfl)
    · have hres := ite_t hres h19
      refine lv_bipush (v := 20) hx hb dX6_firstWrong_115 (by decide) ?_
      refine lv_goto (tgt := 153) hx hb dX6_firstWrong_117 (by decide) ?_
      exact J153 v1_j107 v2_j107 z0_j107 20 _ hres (lv_sub hl [1, 2, 3, 0] rfl)
  have J77 : ∀ (v1_j77 : Int32) (v2_j77 : Int32) (z0_j77 : Int32) (ls : Array Slot), fX6_firstWrong_j77 c0 c0_kind c0_draft c0_value v1_j77 v2_j77 z0_j77 = some res → lv_has ls 9 [(0, .ref A0), (1, .int v1_j77), (2, .int v2_j77)] → WRO p l e wsX6_firstWrong rX6_firstWrong s m ([.ref A0, .int x1] : List Value).toArray below meth c res (F0 m 77 ls [.int z0_j77]) := by
    intro v1_j77 v2_j77 z0_j77 ls hres hl
    refine lv_istore (lv' := [(4, .int z0_j77), (0, .ref A0), (1, .int v1_j77), (2, .int v2_j77)]) hx hb dX6_firstWrong_77 hl (by decide) rfl (fun ls hl => ?_)
    refine lv_iload hx hb dX6_firstWrong_79 (lv_at hl 0 rfl) ?_
    refine lv_if_ne (tgt := 86) hx hb dX6_firstWrong_81 (by decide) (fun h22 => ?_) (fun h22 => ?_)
    · have hres := ite_f hres h22
      refine lv_iload_n hx hb dX6_firstWrong_86 rfl (lv_at hl 3 rfl) ?_
      refine lv_bipush (v := 114) hx hb dX6_firstWrong_87 (by decide) ?_
      refine lv_icmp_ne (tgt := 96) hx hb dX6_firstWrong_89 (by decide) (fun h23 => ?_) (fun h23 => ?_)
      · have hres := ite_f hres h23
        refine lv_iload_n hx hb dX6_firstWrong_96 rfl (lv_at hl 3 rfl) ?_
        refine lv_bipush (v := 99) hx hb dX6_firstWrong_97 (by decide) ?_
        refine lv_icmp_ne (tgt := 106) hx hb dX6_firstWrong_99 (by decide) (fun h24 => ?_) (fun h24 => ?_)
        · have hres := ite_f hres h24
          refine lv_iconst (v := 0) hx hb dX6_firstWrong_106 (by decide) ?_
          exact J107 v1_j77 v2_j77 0 _ hres (lv_sub hl [1, 2, 3] rfl)
        · have hres := ite_t hres h24
          refine lv_iconst (v := 1) hx hb dX6_firstWrong_102 (by decide) ?_
          refine lv_goto (tgt := 107) hx hb dX6_firstWrong_103 (by decide) ?_
          exact J107 v1_j77 v2_j77 1 _ hres (lv_sub hl [1, 2, 3] rfl)
      · have hres := ite_t hres h23
        refine lv_iconst (v := 2) hx hb dX6_firstWrong_92 (by decide) ?_
        refine lv_goto (tgt := 107) hx hb dX6_firstWrong_93 (by decide) ?_
        exact J107 v1_j77 v2_j77 2 _ hres (lv_sub hl [1, 2, 3] rfl)
    · have hres := ite_t hres h22
      refine lv_iload_n hx hb dX6_firstWrong_84 rfl (lv_at hl 2 rfl) ?_
      obtain rfl := Option.some.inj hres
      exact W.iret hx hb hr (fun t ht hW => ⟨rfl, ht⟩) (fun q h => absurd h List.not_mem_nil) dX6_firstWrong_85
  have J55 : ∀ (v1_j55 : Int32) (v2_j55 : Int32) (ls : Array Slot), fX6_firstWrong_j55 c0 c0_kind c0_draft c0_value v1_j55 v2_j55 = some res → lv_has ls 9 [(0, .ref A0), (1, .int v1_j55), (2, .int v2_j55)] → WRO p l e wsX6_firstWrong rX6_firstWrong s m ([.ref A0, .int x1] : List Value).toArray below meth c res (F0 m 55 ls []) := by
    intro v1_j55 v2_j55 ls hres hl
    refine lv_iload_n hx hb dX6_firstWrong_55 rfl (lv_at hl 2 rfl) ?_
    refine lv_bipush (v := 99) hx hb dX6_firstWrong_56 (by decide) ?_
    refine lv_icmp_ne (tgt := 76) hx hb dX6_firstWrong_58 (by decide) (fun h25 => ?_) (fun h25 => ?_)
    · have hres := ite_f hres h25
      refine lv_iconst (v := 0) hx hb dX6_firstWrong_76 (by decide) ?_
      exact J77 v1_j55 v2_j55 0 _ hres (lv_sub hl [0, 1, 2] rfl)
    · have hres := ite_t hres h25
      refine lv_aload_n hx hb dX6_firstWrong_61 rfl (lv_at hl 0 rfl) ?_
      refine va_get (D := G) (ci := 6) (v := .ref A0_draft) (C := RX6) (T := TX6) (N := 22) hx hb hts (fun w h => (List.mem_cons_of_mem _ (List.mem_append_right _ h))) hown hK.1 hP 0 rfl rfl 1 (by decide) (hts (.fieldLink RX6 13 "EchoSeatsModel" "draft" "[I") (List.mem_of_getElem? (i := 1) rfl)) (fun _ h9 => h9) rfl dX6_firstWrong_62 ?_
      refine lv_bipush (v := 17) hx hb dX6_firstWrong_65 (by decide) ?_
      refine x_iald hx hb hK hP 2 rfl (j := 17) (by decide) (by decide) dX6_firstWrong_67 ?_
      refine lv_iconst (v := 3) hx hb dX6_firstWrong_68 (by decide) ?_
      refine lv_icmp_ge (tgt := 76) hx hb dX6_firstWrong_69 (by decide) (fun h26 => ?_) (fun h26 => ?_)
      · have hres := ite_t hres h26
        refine lv_iconst (v := 0) hx hb dX6_firstWrong_76 (by decide) ?_
        exact J77 v1_j55 v2_j55 0 _ hres (lv_sub hl [0, 1, 2] rfl)
      · have hres := ite_f hres h26
        refine lv_iconst (v := 1) hx hb dX6_firstWrong_72 (by decide) ?_
        refine lv_goto (tgt := 77) hx hb dX6_firstWrong_73 (by decide) ?_
        exact J77 v1_j55 v2_j55 1 _ hres (lv_sub hl [0, 1, 2] rfl)
  have J15 : ∀ (v1_j15 : Int32) (v2_j15 : Int32) (z0_j15 : Int32) (ls : Array Slot), fX6_firstWrong_j15 c0 c0_kind c0_draft c0_value v1_j15 v2_j15 z0_j15 = some res → lv_has ls 9 [(0, .ref A0), (1, .int v1_j15), (2, .int v2_j15)] → WRO p l e wsX6_firstWrong rX6_firstWrong s m ([.ref A0, .int x1] : List Value).toArray below meth c res (F0 m 15 ls [.int z0_j15]) := by
    intro v1_j15 v2_j15 z0_j15 ls hres hl
    refine lv_istore_n (lv' := [(3, .int z0_j15), (0, .ref A0), (1, .int v1_j15), (2, .int v2_j15)]) hx hb dX6_firstWrong_15 rfl hl (by decide) rfl (fun ls hl => ?_)
    refine lv_iload_n hx hb dX6_firstWrong_16 rfl (lv_at hl 3 rfl) ?_
    refine lv_bipush (v := 119) hx hb dX6_firstWrong_17 (by decide) ?_
    refine lv_icmp_eq (tgt := 72) hx hb dX6_firstWrong_19 (by decide) (fun h27 => ?_) (fun h27 => ?_)
    · have hres := ite_t hres h27
      refine lv_iconst (v := 1) hx hb dX6_firstWrong_72 (by decide) ?_
      refine lv_goto (tgt := 77) hx hb dX6_firstWrong_73 (by decide) ?_
      exact J77 v1_j15 v2_j15 1 _ hres (lv_sub hl [1, 2, 3] rfl)
    · have hres := ite_f hres h27
      refine lv_iload_n hx hb dX6_firstWrong_22 rfl (lv_at hl 3 rfl) ?_
      refine lv_bipush (v := 113) hx hb dX6_firstWrong_23 (by decide) ?_
      refine lv_icmp_eq (tgt := 72) hx hb dX6_firstWrong_25 (by decide) (fun h28 => ?_) (fun h28 => ?_)
      · have hres := ite_t hres h28
        refine lv_iconst (v := 1) hx hb dX6_firstWrong_72 (by decide) ?_
        refine lv_goto (tgt := 77) hx hb dX6_firstWrong_73 (by decide) ?_
        exact J77 v1_j15 v2_j15 1 _ hres (lv_sub hl [1, 2, 3] rfl)
      · have hres := ite_f hres h28
        refine lv_iload_n hx hb dX6_firstWrong_28 rfl (lv_at hl 3 rfl) ?_
        refine lv_bipush (v := 114) hx hb dX6_firstWrong_29 (by decide) ?_
        refine lv_icmp_ne (tgt := 38) hx hb dX6_firstWrong_31 (by decide) (fun h29 => ?_) (fun h29 => ?_)
        · have hres := ite_f hres h29
          refine lv_iload_n hx hb dX6_firstWrong_38 rfl (lv_at hl 3 rfl) ?_
          refine lv_bipush (v := 115) hx hb dX6_firstWrong_39 (by decide) ?_
          refine lv_icmp_ne (tgt := 55) hx hb dX6_firstWrong_41 (by decide) (fun h30 => ?_) (fun h30 => ?_)
          · have hres := ite_f hres h30
            exact J55 v1_j15 v2_j15 _ hres (lv_sub hl [1, 2, 3] rfl)
          · have hres := ite_t hres h30
            refine lv_aload_n hx hb dX6_firstWrong_44 rfl (lv_at hl 1 rfl) ?_
            refine va_get (D := G) (ci := 6) (v := .ref A0_draft) (C := RX6) (T := TX6) (N := 22) hx hb hts (fun w h => (List.mem_cons_of_mem _ (List.mem_append_right _ h))) hown hK.1 hP 0 rfl rfl 1 (by decide) (hts (.fieldLink RX6 13 "EchoSeatsModel" "draft" "[I") (List.mem_of_getElem? (i := 1) rfl)) (fun _ h9 => h9) rfl dX6_firstWrong_45 ?_
            refine lv_bipush (v := 8) hx hb dX6_firstWrong_48 (by decide) ?_
            refine x_iald hx hb hK hP 2 rfl (j := 8) (by decide) (by decide) dX6_firstWrong_50 ?_
            refine lv_iconst (v := 4) hx hb dX6_firstWrong_51 (by decide) ?_
            refine lv_icmp_lt (tgt := 72) hx hb dX6_firstWrong_52 (by decide) (fun h31 => ?_) (fun h31 => ?_)
            · have hres := ite_t hres h31
              refine lv_iconst (v := 1) hx hb dX6_firstWrong_72 (by decide) ?_
              refine lv_goto (tgt := 77) hx hb dX6_firstWrong_73 (by decide) ?_
              exact J77 v1_j15 v2_j15 1 _ hres (lv_sub hl [1, 2, 3] rfl)
            · have hres := ite_f hres h31
              exact J55 v1_j15 v2_j15 _ hres (lv_sub hl [1, 2, 3] rfl)
        · have hres := ite_t hres h29
          refine lv_iload_n hx hb dX6_firstWrong_34 rfl (lv_at hl 0 rfl) ?_
          refine lv_if_ne (tgt := 72) hx hb dX6_firstWrong_35 (by decide) (fun h32 => ?_) (fun h32 => ?_)
          · have hres := ite_f hres h32
            refine lv_iconst (v := 1) hx hb dX6_firstWrong_72 (by decide) ?_
            refine lv_goto (tgt := 77) hx hb dX6_firstWrong_73 (by decide) ?_
            exact J77 v1_j15 v2_j15 1 _ hres (lv_sub hl [1, 2, 3] rfl)
          · have hres := ite_t hres h32
            refine lv_iload_n hx hb dX6_firstWrong_38 rfl (lv_at hl 3 rfl) ?_
            refine lv_bipush (v := 115) hx hb dX6_firstWrong_39 (by decide) ?_
            refine lv_icmp_ne (tgt := 55) hx hb dX6_firstWrong_41 (by decide) (fun h33 => ?_) (fun h33 => ?_)
            · have hres := ite_f hres h33
              exact J55 v1_j15 v2_j15 _ hres (lv_sub hl [1, 2, 3] rfl)
            · have hres := ite_t hres h33
              refine lv_aload_n hx hb dX6_firstWrong_44 rfl (lv_at hl 1 rfl) ?_
              refine va_get (D := G) (ci := 6) (v := .ref A0_draft) (C := RX6) (T := TX6) (N := 22) hx hb hts (fun w h => (List.mem_cons_of_mem _ (List.mem_append_right _ h))) hown hK.1 hP 0 rfl rfl 1 (by decide) (hts (.fieldLink RX6 13 "EchoSeatsModel" "draft" "[I") (List.mem_of_getElem? (i := 1) rfl)) (fun _ h9 => h9) rfl dX6_firstWrong_45 ?_
              refine lv_bipush (v := 8) hx hb dX6_firstWrong_48 (by decide) ?_
              refine x_iald hx hb hK hP 2 rfl (j := 8) (by decide) (by decide) dX6_firstWrong_50 ?_
              refine lv_iconst (v := 4) hx hb dX6_firstWrong_51 (by decide) ?_
              refine lv_icmp_lt (tgt := 72) hx hb dX6_firstWrong_52 (by decide) (fun h34 => ?_) (fun h34 => ?_)
              · have hres := ite_t hres h34
                refine lv_iconst (v := 1) hx hb dX6_firstWrong_72 (by decide) ?_
                refine lv_goto (tgt := 77) hx hb dX6_firstWrong_73 (by decide) ?_
                exact J77 v1_j15 v2_j15 1 _ hres (lv_sub hl [1, 2, 3] rfl)
              · have hres := ite_f hres h34
                exact J55 v1_j15 v2_j15 _ hres (lv_sub hl [1, 2, 3] rfl)
  refine lv_aload_n hx hb dX6_firstWrong_0 rfl (lv_at hl 0 rfl) ?_
  refine lv_iload_n hx hb dX6_firstWrong_1 rfl (lv_at hl 1 rfl) ?_
  obtain ⟨r35, hr35, hres⟩ := bi_1 hres
  refine x_cp (va_runV (As := [.int x1]) (rest := []) ⟨hx, hb, hml, hown, hts⟩ (kX6_token l G cI cZ tl A0 A0_s A0_draft A0_kept A0_isKept A0_undone A0_seenI A0_seenJ A0_seenTime A0_text A0_kind A0_place A0_value A0_swallows A0_time A0_strength A0_which A0_told c0 c0_kind x1 r35 hr35) (cwV 1 hts gX6_firstWrong_X6_token rfl rfl rfl hsX6_token ⟨Nat.le_of_ble_eq_true rfl, Nat.le_of_ble_eq_true rfl⟩) ⟨PRO_blind, va_recv hK.1 hP (ci := 6) (q0 := 0) rfl rfl, PRO_at (hP.sub (ws' := [o6 A0 c0 A0_s A0_draft A0_kept A0_isKept A0_undone A0_seenI A0_seenJ A0_seenTime A0_text A0_kind A0_place A0_value A0_swallows A0_time A0_strength A0_which A0_told, (A0_kind, .inl (cI, 100, .inl c0_kind))]) [0, 1] rfl) hK⟩ rfl rfl hl.1 rfl (lv_room (Nat.le_of_ble_eq_true rfl)) dX6_firstWrong_2 ⟨Nat.zero_le _, Nat.zero_le _⟩) ?_
  refine lv_istore_n (lv' := [(2, .int r35), (0, .ref A0), (1, .int x1)]) hx hb dX6_firstWrong_5 rfl hl (by decide) rfl (fun ls hl => ?_)
  refine lv_iload_n hx hb dX6_firstWrong_6 rfl (lv_at hl 2 rfl) ?_
  refine lv_if_ne (tgt := 14) hx hb dX6_firstWrong_7 (by decide) (fun h36 => ?_) (fun h36 => ?_)
  · have hres := ite_f hres h36
    refine lv_iconst (v := 0) hx hb dX6_firstWrong_14 (by decide) ?_
    exact J15 x1 r35 0 _ hres (lv_sub hl [1, 2, 0] rfl)
  · have hres := ite_t hres h36
    refine lv_iconst (v := 1) hx hb dX6_firstWrong_10 (by decide) ?_
    refine lv_goto (tgt := 15) hx hb dX6_firstWrong_11 (by decide) ?_
    exact J15 x1 r35 1 _ hres (lv_sub hl [1, 2, 0] rfl)
theorem hsX6_firstWrong : yX6_firstWrong.cls = RX6 ∧ yX6_firstWrong.cls ≠ "java/lang/invoke/MethodHandle" ∧ yX6_firstWrong.cls ≠ "java/lang/invoke/VarHandle" ∧ (parseMethodDescriptor yX6_firstWrong.desc).map (fun d => d.parameters.length) = some 1 := by decide +kernel
set_option maxHeartbeats 4000000 in
set_option maxRecDepth 100000 in
theorem kX6_forget (l : Launch) (G : va_G) (cI cZ : ClassId) (tl : List (ClassId × FieldType)) (sz : Nat) (A : Nat → Prop) (A0 A0_s A0_draft A0_kept A0_isKept A0_undone A0_seenI A0_seenJ A0_seenTime A0_text A0_kind A0_place A0_value A0_swallows A0_time A0_strength A0_which A0_told : Nat) (c0 : Nat → Int32) (res : Int32 × (Nat → Int32)) (hAe : A = va_A [o6 A0 c0 A0_s A0_draft A0_kept A0_isKept A0_undone A0_seenI A0_seenJ A0_seenTime A0_text A0_kind A0_place A0_value A0_swallows A0_time A0_strength A0_which A0_told] sz) (hres : fX6_forget c0 = some res) : Met l yX6_forget wsX6_forget rX6_forget (va_Pc [.ref A0] (PRW G cI cZ tl [o6 A0 c0 A0_s A0_draft A0_kept A0_isKept A0_undone A0_seenI A0_seenJ A0_seenTime A0_text A0_kind A0_place A0_value A0_swallows A0_time A0_strength A0_which A0_told] sz)) (Qiw res.1 G A [o6 A0 res.2 A0_s A0_draft A0_kept A0_isKept A0_undone A0_seenI A0_seenJ A0_seenTime A0_text A0_kind A0_place A0_value A0_swallows A0_time A0_strength A0_which A0_told]) 0 0 A := by
  refine Met.ofW (cc := cX6_forget) (maxL := 2) (ret := (some .int)) (by decide) rfl ?_
  intro p e s m args below meth c s₁ B hml hv
  obtain ⟨rfl, hsz, hP, hK, hD0⟩ := hv
  have hx := B.exec
  have hb := B.bytes
  have hr := B.returns
  have hts := atoms_spec (ws := wsX6_forget) B.pre
  have hown : s.vm.findClass RX6 = some m.cls := findClass_of_methodNamed B.named
  have hlocks := B.notSynchronized
  subst hsz
  have hD : va_D A [o6 A0 c0 A0_s A0_draft A0_kept A0_isKept A0_undone A0_seenI A0_seenJ A0_seenTime A0_text A0_kind A0_place A0_value A0_swallows A0_time A0_strength A0_which A0_told] := by rw [hAe]; exact hD0.self
  have hA : ∀ q : Nat, s.heap.size ≤ q → A q := fun q h => by rw [hAe]; exact Or.inr h
  clear hAe hD0
  have hS : va_S A s.heap s.heap [] := va_S.rf
  have hl := lv_entry ([.ref A0] : List Value) (n := 2) (Nat.le_of_ble_eq_true rfl)
  rw [lg_entry_eq]
  generalize (lg_sl ([.ref A0] : List Value) ++ List.replicate (2 - (lg_sl ([.ref A0] : List Value)).length) Slot.unset).toArray = ls at hl ⊢
  have hl : lv_has ls 2 [(0, .ref A0)] := hl
  refine lv_aload_n hx hb dX6_forget_0 rfl (lv_at hl 0 rfl) ?_
  refine va_get (D := G) (ci := 6) (v := .int (c0 9)) (C := RX6) (T := TX6) (N := 22) hx hb hts (fun w h => (List.mem_cons_of_mem _ (List.mem_append_right _ h))) hown hK.1 hP 0 rfl rfl 9 (by decide) (hts (.fieldLink RX6 72 "EchoSeatsModel" "seen" "I") (List.mem_of_getElem? (i := 1) rfl)) (fun _ h9 => h9) rfl dX6_forget_1 ?_
  refine lv_topi (fun y1 ey1 => ?_)
  have hres := bnd_z ey1 hres
  refine lv_istore_n (lv' := [(1, .int y1), (0, .ref A0)]) hx hb dX6_forget_4 rfl hl (by decide) rfl (fun ls hl => ?_)
  refine lv_aload_n hx hb dX6_forget_5 rfl (lv_at hl 1 rfl) ?_
  refine lv_iconst (v := 0) hx hb dX6_forget_6 (by decide) ?_
  refine va_put (D := G) (ci := 6) (v := .int 0) (ty := .int) (C := RX6) (T := TX6) (N := 22) hx hb hts (fun w h => (List.mem_cons_of_mem _ (List.mem_append_right _ h))) tyX6 tyX6_ok nmX6 hown hK.1 hP hD hS 0 rfl rfl 9 (by decide) (hts (.fieldLink RX6 72 "EchoSeatsModel" "seen" "I") (List.mem_of_getElem? (i := 1) rfl)) (fun _ h9 => h9) rfl (tyX6_ok 9 (by decide)) rfl rfl (Nat.le_of_ble_eq_true rfl) dX6_forget_7 (fun H locs hP hD hS => ?_)
  have hP : va_P G vwCl [o6 A0 (upd c0 9 0) A0_s A0_draft A0_kept A0_isKept A0_undone A0_seenI A0_seenJ A0_seenTime A0_text A0_kind A0_place A0_value A0_swallows A0_time A0_strength A0_which A0_told] H := hP
  have hD : va_D A [o6 A0 (upd c0 9 0) A0_s A0_draft A0_kept A0_isKept A0_undone A0_seenI A0_seenJ A0_seenTime A0_text A0_kind A0_place A0_value A0_swallows A0_time A0_strength A0_which A0_told] := hD
  refine lv_iload_n hx hb dX6_forget_10 rfl (lv_at hl 0 rfl) ?_
  obtain rfl := Option.some.inj hres
  exact W.iret hx hb hr (fun t ht hW => ⟨⟨_, (), rfl, rfl, by rw [ht]; exact hP, hD⟩, hS.F ht⟩) hS.2.2 dX6_forget_11
theorem hsX6_forget : yX6_forget.cls = RX6 ∧ yX6_forget.cls ≠ "java/lang/invoke/MethodHandle" ∧ yX6_forget.cls ≠ "java/lang/invoke/VarHandle" ∧ (parseMethodDescriptor yX6_forget.desc).map (fun d => d.parameters.length) = some 0 := by decide +kernel
set_option maxHeartbeats 4000000 in
set_option maxRecDepth 100000 in
theorem kX6_rankedAt (l : Launch) (G : va_G) (cI cZ : ClassId) (tl : List (ClassId × FieldType)) (A0 A0_s A0_draft A0_kept A0_isKept A0_undone A0_seenI A0_seenJ A0_seenTime A0_text A0_kind A0_place A0_value A0_swallows A0_time A0_strength A0_which A0_told : Nat) (c0 c0_time : Nat → Int32) (x1 : Int32) (res : Int32) (hres : fX6_rankedAt c0 c0_time x1 = some res) : Met l yX6_rankedAt wsX6_rankedAt rX6_rankedAt (va_Pc [.ref A0, .int x1] (PRO G cI cZ tl [o6 A0 c0 A0_s A0_draft A0_kept A0_isKept A0_undone A0_seenI A0_seenJ A0_seenTime A0_text A0_kind A0_place A0_value A0_swallows A0_time A0_strength A0_which A0_told, (A0_time, .inl (cI, 25, .inl c0_time))])) (Sp res) 0 0 (fun _ => False) := by
  refine Met.ofW (cc := cX6_rankedAt) (maxL := 6) (ret := (some .int)) (by decide) rfl ?_
  intro p e s m args below meth c s₁ B hml hv
  obtain ⟨rfl, hP, hK⟩ := hv
  have hx := B.exec
  have hb := B.bytes
  have hr := B.returns
  have hts := atoms_spec (ws := wsX6_rankedAt) B.pre
  have hown : s.vm.findClass RX6 = some m.cls := findClass_of_methodNamed B.named
  have hlocks := B.notSynchronized
  have hl := lv_entry ([.ref A0, .int x1] : List Value) (n := 6) (Nat.le_of_ble_eq_true rfl)
  rw [lg_entry_eq]
  generalize (lg_sl ([.ref A0, .int x1] : List Value) ++ List.replicate (6 - (lg_sl ([.ref A0, .int x1] : List Value)).length) Slot.unset).toArray = ls at hl ⊢
  have hl : lv_has ls 6 [(0, .ref A0), (1, .int x1)] := hl
  refine lv_iconst (v := 0) hx hb dX6_rankedAt_0 (by decide) ?_
  refine lv_istore_n (lv' := [(2, .int 0), (0, .ref A0), (1, .int x1)]) hx hb dX6_rankedAt_1 rfl hl (by decide) rfl (fun ls hl => ?_)
  refine lv_iconst (v := 0) hx hb dX6_rankedAt_2 (by decide) ?_
  refine lv_istore_n (lv' := [(3, .int 0), (2, .int 0), (0, .ref A0), (1, .int x1)]) hx hb dX6_rankedAt_3 rfl hl (by decide) rfl (fun ls hl => ?_)
  have Q4 : ∀ (v1_L4 : Int32) (n4 : Nat) (v2_L4 : Int32) (v3_L4 : Int32) (ls : Array Slot), LPX (fX6_rankedAt_L4 c0 c0_time v1_L4) n4 (v2_L4, v3_L4) = some res → lv_has ls 6 [(0, .ref A0), (1, .int v1_L4), (2, .int v2_L4), (3, .int v3_L4)] → WRO p l e wsX6_rankedAt rX6_rankedAt s m ([.ref A0, .int x1] : List Value).toArray below meth c res (F0 m 4 ls []) := by
    intro v1_L4 n4
    induction n4 with
    | zero =>
      intro v2_L4 v3_L4 ls hres
      exact absurd (LPX_0.symm.trans hres) (fun h => by cases h)
    | succ n4 ih4 =>
      intro v2_L4 v3_L4 ls hres hl
      have hres := LPX_s.symm.trans hres
      refine lv_iload_n hx hb dX6_rankedAt_4 rfl (lv_at hl 3 rfl) ?_
      refine lv_aload_n hx hb dX6_rankedAt_5 rfl (lv_at hl 0 rfl) ?_
      refine va_get (D := G) (ci := 6) (v := .int (c0 20)) (C := RX6) (T := TX6) (N := 22) hx hb hts (fun w h => (List.mem_cons_of_mem _ (List.mem_append_right _ h))) hown hK.1 hP 0 rfl rfl 20 (by decide) (hts (.fieldLink RX6 175 "EchoSeatsModel" "heard" "I") (List.mem_of_getElem? (i := 1) rfl)) (fun _ h9 => h9) rfl dX6_rankedAt_6 ?_
      refine lv_icmp_ge (tgt := 99) hx hb dX6_rankedAt_9 (by decide) (fun h1 => ?_) (fun h1 => ?_)
      · have hres := ite_t hres h1
        refine lv_iload_n hx hb dX6_rankedAt_99 rfl (lv_at hl 2 rfl) ?_
        obtain rfl := Option.some.inj hres
        exact W.iret hx hb hr (fun t ht hW => ⟨rfl, ht⟩) (fun q h => absurd h List.not_mem_nil) dX6_rankedAt_100
      · have hres := ite_f hres h1
        refine lv_iconst (v := 0) hx hb dX6_rankedAt_12 (by decide) ?_
        refine lv_istore (lv' := [(4, .int 0), (0, .ref A0), (1, .int v1_L4), (2, .int v2_L4), (3, .int v3_L4)]) hx hb dX6_rankedAt_13 hl (by decide) rfl (fun ls hl => ?_)
        refine lv_iconst (v := 0) hx hb dX6_rankedAt_15 (by decide) ?_
        refine lv_istore (lv' := [(5, .int 0), (4, .int 0), (0, .ref A0), (1, .int v1_L4), (2, .int v2_L4), (3, .int v3_L4)]) hx hb dX6_rankedAt_16 hl (by decide) rfl (fun ls hl => ?_)
        have Q18 : ∀ (v2_L18 : Int32) (v3_L18 : Int32) (n18 : Nat) (v4_L18 : Int32) (v5_L18 : Int32) (ls : Array Slot), LPX (fX6_rankedAt_L18 c0 c0_time v1_L4 v2_L18 v3_L18 (LPX (fX6_rankedAt_L4 c0 c0_time v1_L4) n4)) n18 (v4_L18, v5_L18) = some res → lv_has ls 6 [(0, .ref A0), (1, .int v1_L4), (2, .int v2_L18), (3, .int v3_L18), (4, .int v4_L18), (5, .int v5_L18)] → WRO p l e wsX6_rankedAt rX6_rankedAt s m ([.ref A0, .int x1] : List Value).toArray below meth c res (F0 m 18 ls []) := by
          intro v2_L18 v3_L18 n18
          induction n18 with
          | zero =>
            intro v4_L18 v5_L18 ls hres
            exact absurd (LPX_0.symm.trans hres) (fun h => by cases h)
          | succ n18 ih18 =>
            intro v4_L18 v5_L18 ls hres hl
            have hres := LPX_s.symm.trans hres
            refine lv_iload hx hb dX6_rankedAt_18 (lv_at hl 5 rfl) ?_
            refine lv_aload_n hx hb dX6_rankedAt_20 rfl (lv_at hl 0 rfl) ?_
            refine va_get (D := G) (ci := 6) (v := .int (c0 20)) (C := RX6) (T := TX6) (N := 22) hx hb hts (fun w h => (List.mem_cons_of_mem _ (List.mem_append_right _ h))) hown hK.1 hP 0 rfl rfl 20 (by decide) (hts (.fieldLink RX6 175 "EchoSeatsModel" "heard" "I") (List.mem_of_getElem? (i := 1) rfl)) (fun _ h9 => h9) rfl dX6_rankedAt_21 ?_
            refine lv_icmp_ge (tgt := 81) hx hb dX6_rankedAt_24 (by decide) (fun h2 => ?_) (fun h2 => ?_)
            · have hres := ite_t hres h2
              refine lv_iload hx hb dX6_rankedAt_81 (lv_at hl 4 rfl) ?_
              refine lv_iload_n hx hb dX6_rankedAt_83 rfl (lv_at hl 1 rfl) ?_
              refine lv_icmp_ne (tgt := 91) hx hb dX6_rankedAt_84 (by decide) (fun h3 => ?_) (fun h3 => ?_)
              · have hres := ite_f hres h3
                refine lv_iload_n hx hb dX6_rankedAt_91 rfl (lv_at hl 2 rfl) ?_
                refine lv_istore_n (lv' := [(2, .int v2_L18), (0, .ref A0), (1, .int v1_L4), (3, .int v3_L18), (4, .int v4_L18), (5, .int v5_L18)]) hx hb dX6_rankedAt_92 rfl hl (by decide) rfl (fun ls hl => ?_)
                refine lv_iinc (v := (v3_L18 + 1)) (lv' := [(3, .int (v3_L18 + 1)), (2, .int v2_L18), (0, .ref A0), (1, .int v1_L4), (4, .int v4_L18), (5, .int v5_L18)]) hx hb dX6_rankedAt_93 hl (k := 3) rfl rfl (by decide) rfl (fun ls hl => ?_)
                refine lv_goto (tgt := 4) hx hb dX6_rankedAt_96 (by decide) ?_
                exact ih4 v2_L18 (v3_L18 + 1) _ hres (lv_sub hl [2, 3, 1, 0] rfl)
              · have hres := ite_t hres h3
                refine lv_iload_n hx hb dX6_rankedAt_87 rfl (lv_at hl 3 rfl) ?_
                refine lv_goto (tgt := 92) hx hb dX6_rankedAt_88 (by decide) ?_
                refine lv_istore_n (lv' := [(2, .int v3_L18), (0, .ref A0), (1, .int v1_L4), (3, .int v3_L18), (4, .int v4_L18), (5, .int v5_L18)]) hx hb dX6_rankedAt_92 rfl hl (by decide) rfl (fun ls hl => ?_)
                refine lv_iinc (v := (v3_L18 + 1)) (lv' := [(3, .int (v3_L18 + 1)), (2, .int v3_L18), (0, .ref A0), (1, .int v1_L4), (4, .int v4_L18), (5, .int v5_L18)]) hx hb dX6_rankedAt_93 hl (k := 3) rfl rfl (by decide) rfl (fun ls hl => ?_)
                refine lv_goto (tgt := 4) hx hb dX6_rankedAt_96 (by decide) ?_
                exact ih4 v3_L18 (v3_L18 + 1) _ hres (lv_sub hl [2, 3, 1, 0] rfl)
            · have hres := ite_f hres h2
              refine lv_iload hx hb dX6_rankedAt_27 (lv_at hl 4 rfl) ?_
              refine lv_aload_n hx hb dX6_rankedAt_29 rfl (lv_at hl 0 rfl) ?_
              refine va_get (D := G) (ci := 6) (v := .ref A0_time) (C := RX6) (T := TX6) (N := 22) hx hb hts (fun w h => (List.mem_cons_of_mem _ (List.mem_append_right _ h))) hown hK.1 hP 0 rfl rfl 17 (by decide) (hts (.fieldLink RX6 50 "EchoSeatsModel" "time" "[I") (List.mem_of_getElem? (i := 2) rfl)) (fun _ h9 => h9) rfl dX6_rankedAt_30 ?_
              refine lv_iload hx hb dX6_rankedAt_33 (lv_at hl 5 rfl) ?_
              have g4 := gd_1 hres
              have hres := gd_2 hres
              refine x_iald hx hb hK hP 1 rfl (j := (Int32.toNatClampNeg v5_L18)) rfl g4 dX6_rankedAt_35 ?_
              refine lv_aload_n hx hb dX6_rankedAt_36 rfl (lv_at hl 0 rfl) ?_
              refine va_get (D := G) (ci := 6) (v := .ref A0_time) (C := RX6) (T := TX6) (N := 22) hx hb hts (fun w h => (List.mem_cons_of_mem _ (List.mem_append_right _ h))) hown hK.1 hP 0 rfl rfl 17 (by decide) (hts (.fieldLink RX6 50 "EchoSeatsModel" "time" "[I") (List.mem_of_getElem? (i := 2) rfl)) (fun _ h9 => h9) rfl dX6_rankedAt_37 ?_
              refine lv_iload_n hx hb dX6_rankedAt_40 rfl (lv_at hl 3 rfl) ?_
              have g5 := gd_1 hres
              have hres := gd_2 hres
              refine x_iald hx hb hK hP 1 rfl (j := (Int32.toNatClampNeg v3_L18)) rfl g5 dX6_rankedAt_41 ?_
              refine lv_icmp_lt (tgt := 67) hx hb dX6_rankedAt_42 (by decide) (fun h6 => ?_) (fun h6 => ?_)
              · have hres := ite_t hres h6
                refine lv_iconst (v := 1) hx hb dX6_rankedAt_67 (by decide) ?_
                refine lv_goto (tgt := 72) hx hb dX6_rankedAt_68 (by decide) ?_
                refine lv_iadd hx hb dX6_rankedAt_72 ?_
                refine lv_topi (fun y7 ey7 => ?_)
                have hres := bnd_z ey7 hres
                refine lv_istore (lv' := [(4, .int y7), (0, .ref A0), (1, .int v1_L4), (2, .int v2_L18), (3, .int v3_L18), (5, .int v5_L18)]) hx hb dX6_rankedAt_73 hl (by decide) rfl (fun ls hl => ?_)
                refine lv_iinc (v := (v5_L18 + 1)) (lv' := [(5, .int (v5_L18 + 1)), (4, .int y7), (0, .ref A0), (1, .int v1_L4), (2, .int v2_L18), (3, .int v3_L18)]) hx hb dX6_rankedAt_75 hl (k := 5) rfl rfl (by decide) rfl (fun ls hl => ?_)
                refine lv_goto (tgt := 18) hx hb dX6_rankedAt_78 (by decide) ?_
                exact ih18 y7 (v5_L18 + 1) _ hres (lv_sub hl [2, 3, 4, 5, 1, 0] rfl)
              · have hres := ite_f hres h6
                refine lv_aload_n hx hb dX6_rankedAt_45 rfl (lv_at hl 0 rfl) ?_
                refine va_get (D := G) (ci := 6) (v := .ref A0_time) (C := RX6) (T := TX6) (N := 22) hx hb hts (fun w h => (List.mem_cons_of_mem _ (List.mem_append_right _ h))) hown hK.1 hP 0 rfl rfl 17 (by decide) (hts (.fieldLink RX6 50 "EchoSeatsModel" "time" "[I") (List.mem_of_getElem? (i := 2) rfl)) (fun _ h9 => h9) rfl dX6_rankedAt_46 ?_
                refine lv_iload hx hb dX6_rankedAt_49 (lv_at hl 5 rfl) ?_
                have g8 := gd_1 hres
                have hres := gd_2 hres
                refine x_iald hx hb hK hP 1 rfl (j := (Int32.toNatClampNeg v5_L18)) rfl g8 dX6_rankedAt_51 ?_
                refine lv_aload_n hx hb dX6_rankedAt_52 rfl (lv_at hl 0 rfl) ?_
                refine va_get (D := G) (ci := 6) (v := .ref A0_time) (C := RX6) (T := TX6) (N := 22) hx hb hts (fun w h => (List.mem_cons_of_mem _ (List.mem_append_right _ h))) hown hK.1 hP 0 rfl rfl 17 (by decide) (hts (.fieldLink RX6 50 "EchoSeatsModel" "time" "[I") (List.mem_of_getElem? (i := 2) rfl)) (fun _ h9 => h9) rfl dX6_rankedAt_53 ?_
                refine lv_iload_n hx hb dX6_rankedAt_56 rfl (lv_at hl 3 rfl) ?_
                have g9 := gd_1 hres
                have hres := gd_2 hres
                refine x_iald hx hb hK hP 1 rfl (j := (Int32.toNatClampNeg v3_L18)) rfl g9 dX6_rankedAt_57 ?_
                refine lv_icmp_ne (tgt := 71) hx hb dX6_rankedAt_58 (by decide) (fun h10 => ?_) (fun h10 => ?_)
                · have hres := ite_f hres h10
                  refine lv_iconst (v := 0) hx hb dX6_rankedAt_71 (by decide) ?_
                  refine lv_iadd hx hb dX6_rankedAt_72 ?_
                  refine lv_topi (fun y11 ey11 => ?_)
                  have hres := bnd_z ey11 hres
                  refine lv_istore (lv' := [(4, .int y11), (0, .ref A0), (1, .int v1_L4), (2, .int v2_L18), (3, .int v3_L18), (5, .int v5_L18)]) hx hb dX6_rankedAt_73 hl (by decide) rfl (fun ls hl => ?_)
                  refine lv_iinc (v := (v5_L18 + 1)) (lv' := [(5, .int (v5_L18 + 1)), (4, .int y11), (0, .ref A0), (1, .int v1_L4), (2, .int v2_L18), (3, .int v3_L18)]) hx hb dX6_rankedAt_75 hl (k := 5) rfl rfl (by decide) rfl (fun ls hl => ?_)
                  refine lv_goto (tgt := 18) hx hb dX6_rankedAt_78 (by decide) ?_
                  exact ih18 y11 (v5_L18 + 1) _ hres (lv_sub hl [2, 3, 4, 5, 1, 0] rfl)
                · have hres := ite_t hres h10
                  refine lv_iload hx hb dX6_rankedAt_61 (lv_at hl 5 rfl) ?_
                  refine lv_iload_n hx hb dX6_rankedAt_63 rfl (lv_at hl 3 rfl) ?_
                  refine lv_icmp_ge (tgt := 71) hx hb dX6_rankedAt_64 (by decide) (fun h12 => ?_) (fun h12 => ?_)
                  · have hres := ite_t hres h12
                    refine lv_iconst (v := 0) hx hb dX6_rankedAt_71 (by decide) ?_
                    refine lv_iadd hx hb dX6_rankedAt_72 ?_
                    refine lv_topi (fun y13 ey13 => ?_)
                    have hres := bnd_z ey13 hres
                    refine lv_istore (lv' := [(4, .int y13), (0, .ref A0), (1, .int v1_L4), (2, .int v2_L18), (3, .int v3_L18), (5, .int v5_L18)]) hx hb dX6_rankedAt_73 hl (by decide) rfl (fun ls hl => ?_)
                    refine lv_iinc (v := (v5_L18 + 1)) (lv' := [(5, .int (v5_L18 + 1)), (4, .int y13), (0, .ref A0), (1, .int v1_L4), (2, .int v2_L18), (3, .int v3_L18)]) hx hb dX6_rankedAt_75 hl (k := 5) rfl rfl (by decide) rfl (fun ls hl => ?_)
                    refine lv_goto (tgt := 18) hx hb dX6_rankedAt_78 (by decide) ?_
                    exact ih18 y13 (v5_L18 + 1) _ hres (lv_sub hl [2, 3, 4, 5, 1, 0] rfl)
                  · have hres := ite_f hres h12
                    refine lv_iconst (v := 1) hx hb dX6_rankedAt_67 (by decide) ?_
                    refine lv_goto (tgt := 72) hx hb dX6_rankedAt_68 (by decide) ?_
                    refine lv_iadd hx hb dX6_rankedAt_72 ?_
                    refine lv_topi (fun y14 ey14 => ?_)
                    have hres := bnd_z ey14 hres
                    refine lv_istore (lv' := [(4, .int y14), (0, .ref A0), (1, .int v1_L4), (2, .int v2_L18), (3, .int v3_L18), (5, .int v5_L18)]) hx hb dX6_rankedAt_73 hl (by decide) rfl (fun ls hl => ?_)
                    refine lv_iinc (v := (v5_L18 + 1)) (lv' := [(5, .int (v5_L18 + 1)), (4, .int y14), (0, .ref A0), (1, .int v1_L4), (2, .int v2_L18), (3, .int v3_L18)]) hx hb dX6_rankedAt_75 hl (k := 5) rfl rfl (by decide) rfl (fun ls hl => ?_)
                    refine lv_goto (tgt := 18) hx hb dX6_rankedAt_78 (by decide) ?_
                    exact ih18 y14 (v5_L18 + 1) _ hres (lv_sub hl [2, 3, 4, 5, 1, 0] rfl)
        exact Q18 v2_L4 v3_L4 FU 0 0 _ hres (lv_sub hl [2, 3, 4, 5, 1, 0] rfl)
  exact Q4 x1 FU 0 0 _ hres (lv_sub hl [2, 3, 1, 0] rfl)
theorem hsX6_rankedAt : yX6_rankedAt.cls = RX6 ∧ yX6_rankedAt.cls ≠ "java/lang/invoke/MethodHandle" ∧ yX6_rankedAt.cls ≠ "java/lang/invoke/VarHandle" ∧ (parseMethodDescriptor yX6_rankedAt.desc).map (fun d => d.parameters.length) = some 1 := by decide +kernel
set_option maxHeartbeats 4000000 in
set_option maxRecDepth 100000 in
theorem kX6_heard (l : Launch) (G : va_G) (cI cZ : ClassId) (tl : List (ClassId × FieldType)) (sz : Nat) (A : Nat → Prop) (A0 A0_s A0_draft A0_kept A0_isKept A0_undone A0_seenI A0_seenJ A0_seenTime A0_text A0_kind A0_place A0_value A0_swallows A0_time A0_strength A0_which A0_told : Nat) (c0 c0_s c0_swallows c0_time c0_strength c0_which : Nat → Int32) (x1 x2 x3 : Int32) (res : Int32 × (Nat → Int32) × (Nat → Int32) × (Nat → Int32) × (Nat → Int32) × (Nat → Int32)) (hAe : A = va_A [o6 A0 c0 A0_s A0_draft A0_kept A0_isKept A0_undone A0_seenI A0_seenJ A0_seenTime A0_text A0_kind A0_place A0_value A0_swallows A0_time A0_strength A0_which A0_told, (A0_s, .inl (cI, 27, .inl c0_s)), (A0_swallows, .inl (cI, 4, .inl c0_swallows)), (A0_time, .inl (cI, 25, .inl c0_time)), (A0_strength, .inl (cI, 25, .inl c0_strength)), (A0_which, .inl (cI, 25, .inl c0_which))] sz) (hres : fX6_heard c0 c0_s c0_swallows c0_time c0_strength c0_which x1 x2 x3 = some res) : Met l yX6_heard wsX6_heard rX6_heard (va_Pc [.ref A0, .int x1, .int x2, .int x3] (PRW G cI cZ tl [o6 A0 c0 A0_s A0_draft A0_kept A0_isKept A0_undone A0_seenI A0_seenJ A0_seenTime A0_text A0_kind A0_place A0_value A0_swallows A0_time A0_strength A0_which A0_told, (A0_s, .inl (cI, 27, .inl c0_s)), (A0_swallows, .inl (cI, 4, .inl c0_swallows)), (A0_time, .inl (cI, 25, .inl c0_time)), (A0_strength, .inl (cI, 25, .inl c0_strength)), (A0_which, .inl (cI, 25, .inl c0_which))] sz)) (Qiw res.1 G A [o6 A0 res.2.1 A0_s A0_draft A0_kept A0_isKept A0_undone A0_seenI A0_seenJ A0_seenTime A0_text A0_kind A0_place A0_value A0_swallows A0_time A0_strength A0_which A0_told, (A0_s, .inl (cI, 27, .inl c0_s)), (A0_swallows, .inl (cI, 4, .inl res.2.2.1)), (A0_time, .inl (cI, 25, .inl res.2.2.2.1)), (A0_strength, .inl (cI, 25, .inl res.2.2.2.2.1)), (A0_which, .inl (cI, 25, .inl res.2.2.2.2.2))]) 0 0 A := by
  refine Met.ofW (cc := cX6_heard) (maxL := 5) (ret := (some .int)) (by decide) rfl ?_
  intro p e s m args below meth c s₁ B hml hv
  obtain ⟨rfl, hsz, hP, hK, hD0⟩ := hv
  have hx := B.exec
  have hb := B.bytes
  have hr := B.returns
  have hts := atoms_spec (ws := wsX6_heard) B.pre
  have hown : s.vm.findClass RX6 = some m.cls := findClass_of_methodNamed B.named
  have hlocks := B.notSynchronized
  subst hsz
  have hD : va_D A [o6 A0 c0 A0_s A0_draft A0_kept A0_isKept A0_undone A0_seenI A0_seenJ A0_seenTime A0_text A0_kind A0_place A0_value A0_swallows A0_time A0_strength A0_which A0_told, (A0_s, .inl (cI, 27, .inl c0_s)), (A0_swallows, .inl (cI, 4, .inl c0_swallows)), (A0_time, .inl (cI, 25, .inl c0_time)), (A0_strength, .inl (cI, 25, .inl c0_strength)), (A0_which, .inl (cI, 25, .inl c0_which))] := by rw [hAe]; exact hD0.self
  have hA : ∀ q : Nat, s.heap.size ≤ q → A q := fun q h => by rw [hAe]; exact Or.inr h
  clear hAe hD0
  have hS : va_S A s.heap s.heap [] := va_S.rf
  have hl := lv_entry ([.ref A0, .int x1, .int x2, .int x3] : List Value) (n := 5) (Nat.le_of_ble_eq_true rfl)
  rw [lg_entry_eq]
  generalize (lg_sl ([.ref A0, .int x1, .int x2, .int x3] : List Value) ++ List.replicate (5 - (lg_sl ([.ref A0, .int x1, .int x2, .int x3] : List Value)).length) Slot.unset).toArray = ls at hl ⊢
  have hl : lv_has ls 5 [(0, .ref A0), (1, .int x1), (2, .int x2), (3, .int x3)] := hl
  refine lv_aload_n hx hb dX6_heard_0 rfl (lv_at hl 0 rfl) ?_
  refine lv_iload_n hx hb dX6_heard_1 rfl (lv_at hl 1 rfl) ?_
  obtain ⟨r1, hr1, hres⟩ := bi_1 hres
  refine x_cp (va_runV (As := [.int x1]) (rest := []) ⟨hx, hb, hml, hown, hts⟩ (kX6_isSeat l G cI cZ tl A0 A0_s A0_draft A0_kept A0_isKept A0_undone A0_seenI A0_seenJ A0_seenTime A0_text A0_kind A0_place A0_value A0_swallows A0_time A0_strength A0_which A0_told c0 c0_s x1 r1 hr1) (cwV 1 hts gX6_heard_X6_isSeat rfl rfl rfl hsX6_isSeat ⟨Nat.le_of_ble_eq_true rfl, Nat.le_of_ble_eq_true rfl⟩) ⟨PRO_blind, va_recv hK.1 hP (ci := 6) (q0 := 0) rfl rfl, PRO_at (hP.sub (ws' := [o6 A0 c0 A0_s A0_draft A0_kept A0_isKept A0_undone A0_seenI A0_seenJ A0_seenTime A0_text A0_kind A0_place A0_value A0_swallows A0_time A0_strength A0_which A0_told, (A0_s, .inl (cI, 27, .inl c0_s))]) [0, 1] rfl) hK⟩ rfl rfl hl.1 rfl (lv_room (Nat.le_of_ble_eq_true rfl)) dX6_heard_2 ⟨Nat.zero_le _, Nat.zero_le _⟩) ?_
  refine lv_if_eq (tgt := 21) hx hb dX6_heard_5 (by decide) (fun h2 => ?_) (fun h2 => ?_)
  · have hres := ite_t hres h2
    refine lv_iconst (v := (-1)) hx hb dX6_heard_21 (by decide) ?_
    obtain rfl := Option.some.inj hres
    exact W.iret hx hb hr (fun t ht hW => ⟨⟨_, (), rfl, rfl, by rw [ht]; exact hP, hD⟩, hS.F ht⟩) hS.2.2 dX6_heard_22
  · have hres := ite_f hres h2
    refine lv_iload_n hx hb dX6_heard_8 rfl (lv_at hl 2 rfl) ?_
    refine lv_if_lt (tgt := 21) hx hb dX6_heard_9 (by decide) (fun h3 => ?_) (fun h3 => ?_)
    · have hres := ite_t hres h3
      refine lv_iconst (v := (-1)) hx hb dX6_heard_21 (by decide) ?_
      obtain rfl := Option.some.inj hres
      exact W.iret hx hb hr (fun t ht hW => ⟨⟨_, (), rfl, rfl, by rw [ht]; exact hP, hD⟩, hS.F ht⟩) hS.2.2 dX6_heard_22
    · have hres := ite_f hres h3
      refine lv_iload_n hx hb dX6_heard_12 rfl (lv_at hl 3 rfl) ?_
      refine lv_iconst (v := 0) hx hb dX6_heard_13 (by decide) ?_
      refine lv_iconst (v := 2) hx hb dX6_heard_14 (by decide) ?_
      obtain ⟨r4, hr4, hres⟩ := bi_1 hres
      refine x_cp (va_runS (As := [.int x3, .int 0, .int 2]) (rest := []) ⟨hx, hb, hml, hown, hts⟩ (kX6_in l G cI cZ tl x3 0 2 r4 hr4) (va_cwS 3 hts gX6_heard_X6_in rfl rfl rfl hsX6_in ⟨Nat.le_of_ble_eq_true rfl, Nat.le_of_ble_eq_true rfl⟩) ⟨PRO_blind, PRO_at va_P0 hK⟩ rfl rfl hl.1 rfl (lv_room (Nat.le_of_ble_eq_true rfl)) dX6_heard_15 ⟨Nat.zero_le _, Nat.zero_le _⟩) ?_
      refine lv_if_ne (tgt := 23) hx hb dX6_heard_18 (by decide) (fun h5 => ?_) (fun h5 => ?_)
      · have hres := ite_f hres h5
        refine lv_aload_n hx hb dX6_heard_23 rfl (lv_at hl 0 rfl) ?_
        refine lv_iload_n hx hb dX6_heard_24 rfl (lv_at hl 1 rfl) ?_
        obtain ⟨r6, hr6, hres⟩ := bi_1 hres
        refine x_cv (wr := []) (w2 := [o6 A0 r6.1 A0_s A0_draft A0_kept A0_isKept A0_undone A0_seenI A0_seenJ A0_seenTime A0_text A0_kind A0_place A0_value A0_swallows A0_time A0_strength A0_which A0_told, (A0_s, .inl (cI, 27, .inl c0_s)), (A0_swallows, .inl (cI, 4, .inl r6.2.1)), (A0_time, .inl (cI, 25, .inl r6.2.2.1)), (A0_strength, .inl (cI, 25, .inl r6.2.2.2.1)), (A0_which, .inl (cI, 25, .inl r6.2.2.2.2))]) hP hD hS hA (va_runV (As := [.int x1]) (rest := []) ⟨hx, hb, hml, hown, hts⟩ (kX6_hearsNow l G cI cZ tl s.heap.size _ A0 A0_s A0_draft A0_kept A0_isKept A0_undone A0_seenI A0_seenJ A0_seenTime A0_text A0_kind A0_place A0_value A0_swallows A0_time A0_strength A0_which A0_told c0 c0_s c0_swallows c0_time c0_strength c0_which x1 r6 rfl hr6) (cwV 1 hts gX6_heard_X6_hearsNow rfl rfl rfl hsX6_hearsNow ⟨Nat.le_of_ble_eq_true rfl, Nat.le_of_ble_eq_true rfl⟩) ⟨PRW_blind, va_recv hK.1 hP (ci := 6) (q0 := 0) rfl rfl, PRW_at (hP.sub (ws' := [o6 A0 c0 A0_s A0_draft A0_kept A0_isKept A0_undone A0_seenI A0_seenJ A0_seenTime A0_text A0_kind A0_place A0_value A0_swallows A0_time A0_strength A0_which A0_told, (A0_s, .inl (cI, 27, .inl c0_s)), (A0_swallows, .inl (cI, 4, .inl c0_swallows)), (A0_time, .inl (cI, 25, .inl c0_time)), (A0_strength, .inl (cI, 25, .inl c0_strength)), (A0_which, .inl (cI, 25, .inl c0_which))]) [0, 1, 2, 3, 4, 5] rfl) (hD.sub (ws' := [o6 A0 c0 A0_s A0_draft A0_kept A0_isKept A0_undone A0_seenI A0_seenJ A0_seenTime A0_text A0_kind A0_place A0_value A0_swallows A0_time A0_strength A0_which A0_told, (A0_s, .inl (cI, 27, .inl c0_s)), (A0_swallows, .inl (cI, 4, .inl c0_swallows)), (A0_time, .inl (cI, 25, .inl c0_time)), (A0_strength, .inl (cI, 25, .inl c0_strength)), (A0_which, .inl (cI, 25, .inl c0_which))]) [0, 1, 2, 3, 4, 5] (by decide) rfl) hK⟩ rfl rfl hl.1 rfl (lv_room (Nat.le_of_ble_eq_true rfl)) dX6_heard_25 ⟨Nat.zero_le _, Nat.zero_le _⟩) [0, 1, 2, 3, 4, 5] [] [0, 1, 2, 3, 4, 5] rfl rfl (by decide) (by decide) rfl rfl (by decide) (fun H locs hP hD hS => ?_)
        refine lv_iload_n hx hb dX6_heard_28 rfl (lv_at hl 2 rfl) ?_
        refine lv_aload_n hx hb dX6_heard_29 rfl (lv_at hl 0 rfl) ?_
        refine va_get (D := G) (ci := 6) (v := .int (r6.1 20)) (C := RX6) (T := TX6) (N := 22) hx hb hts (fun w h => (List.mem_cons_of_mem _ (List.mem_append_right _ h))) hown hK.1 hP 0 rfl rfl 20 (by decide) (hts (.fieldLink RX6 175 "EchoSeatsModel" "heard" "I") (List.mem_of_getElem? (i := 1) rfl)) (fun _ h9 => h9) rfl dX6_heard_30 ?_
        refine lv_icmp_lt (tgt := 39) hx hb dX6_heard_33 (by decide) (fun h7 => ?_) (fun h7 => ?_)
        · have hres := ite_t hres h7
          refine lv_aload_n hx hb dX6_heard_39 rfl (lv_at hl 0 rfl) ?_
          refine lv_iload_n hx hb dX6_heard_40 rfl (lv_at hl 2 rfl) ?_
          obtain ⟨r8, hr8, hres⟩ := bi_1 hres
          refine x_cp (va_runV (As := [.int x2]) (rest := []) ⟨hx, hb, hml, hown, hts⟩ (kX6_rankedAt l G cI cZ tl A0 A0_s A0_draft A0_kept A0_isKept A0_undone A0_seenI A0_seenJ A0_seenTime A0_text A0_kind A0_place A0_value A0_swallows A0_time A0_strength A0_which A0_told r6.1 r6.2.2.1 x2 r8 hr8) (cwV 1 hts gX6_heard_X6_rankedAt rfl rfl rfl hsX6_rankedAt ⟨Nat.le_of_ble_eq_true rfl, Nat.le_of_ble_eq_true rfl⟩) ⟨PRO_blind, va_recv hK.1 hP (ci := 6) (q0 := 0) rfl rfl, PRO_at (hP.sub (ws' := [o6 A0 r6.1 A0_s A0_draft A0_kept A0_isKept A0_undone A0_seenI A0_seenJ A0_seenTime A0_text A0_kind A0_place A0_value A0_swallows A0_time A0_strength A0_which A0_told, (A0_time, .inl (cI, 25, .inl r6.2.2.1))]) [0, 3] rfl) hK⟩ rfl rfl hl.1 rfl (lv_room (Nat.le_of_ble_eq_true rfl)) dX6_heard_41 ⟨Nat.zero_le _, Nat.zero_le _⟩) ?_
          refine lv_istore (lv' := [(4, .int r8), (0, .ref A0), (1, .int x1), (2, .int x2), (3, .int x3)]) hx hb dX6_heard_44 hl (by decide) rfl (fun ls hl => ?_)
          refine lv_iload_n hx hb dX6_heard_46 rfl (lv_at hl 4 rfl) ?_
          refine lv_if_ne (tgt := 60) hx hb dX6_heard_47 (by decide) (fun h9 => ?_) (fun h9 => ?_)
          · have hres := ite_f hres h9
            refine lv_iload_n hx hb dX6_heard_60 rfl (lv_at hl 4 rfl) ?_
            refine lv_iconst (v := 1) hx hb dX6_heard_61 (by decide) ?_
            refine lv_icmp_ne (tgt := 75) hx hb dX6_heard_62 (by decide) (fun h10 => ?_) (fun h10 => ?_)
            · have hres := ite_f hres h10
              refine lv_aload_n hx hb dX6_heard_75 rfl (lv_at hl 1 rfl) ?_
              refine va_get (D := G) (ci := 6) (v := .ref A0_which) (C := RX6) (T := TX6) (N := 22) hx hb hts (fun w h => (List.mem_cons_of_mem _ (List.mem_append_right _ h))) hown hK.1 hP 0 rfl rfl 19 (by decide) (hts (.fieldLink RX6 56 "EchoSeatsModel" "which" "[I") (List.mem_of_getElem? (i := 4) rfl)) (fun _ h9 => h9) rfl dX6_heard_76 ?_
              refine lv_iload hx hb dX6_heard_79 (lv_at hl 0 rfl) ?_
              have g11 := gd_1 hres
              have hres := gd_2 hres
              refine x_iald hx hb hK hP 5 rfl (j := (Int32.toNatClampNeg r8)) rfl g11 dX6_heard_81 ?_
              obtain rfl := Option.some.inj hres
              exact W.iret hx hb hr (fun t ht hW => ⟨⟨_, (), rfl, rfl, by rw [ht]; exact hP, hD⟩, hS.F ht⟩) hS.2.2 dX6_heard_82
            · have hres := ite_t hres h10
              refine lv_aload_n hx hb dX6_heard_65 rfl (lv_at hl 1 rfl) ?_
              refine va_get (D := G) (ci := 6) (v := .ref A0_strength) (C := RX6) (T := TX6) (N := 22) hx hb hts (fun w h => (List.mem_cons_of_mem _ (List.mem_append_right _ h))) hown hK.1 hP 0 rfl rfl 18 (by decide) (hts (.fieldLink RX6 53 "EchoSeatsModel" "strength" "[I") (List.mem_of_getElem? (i := 3) rfl)) (fun _ h9 => h9) rfl dX6_heard_66 ?_
              refine lv_iload hx hb dX6_heard_69 (lv_at hl 0 rfl) ?_
              have g12 := gd_1 hres
              have hres := gd_2 hres
              refine x_iald hx hb hK hP 4 rfl (j := (Int32.toNatClampNeg r8)) rfl g12 dX6_heard_71 ?_
              refine lv_goto (tgt := 82) hx hb dX6_heard_72 (by decide) ?_
              obtain rfl := Option.some.inj hres
              exact W.iret hx hb hr (fun t ht hW => ⟨⟨_, (), rfl, rfl, by rw [ht]; exact hP, hD⟩, hS.F ht⟩) hS.2.2 dX6_heard_82
          · have hres := ite_t hres h9
            refine lv_aload_n hx hb dX6_heard_50 rfl (lv_at hl 1 rfl) ?_
            refine va_get (D := G) (ci := 6) (v := .ref A0_time) (C := RX6) (T := TX6) (N := 22) hx hb hts (fun w h => (List.mem_cons_of_mem _ (List.mem_append_right _ h))) hown hK.1 hP 0 rfl rfl 17 (by decide) (hts (.fieldLink RX6 50 "EchoSeatsModel" "time" "[I") (List.mem_of_getElem? (i := 2) rfl)) (fun _ h9 => h9) rfl dX6_heard_51 ?_
            refine lv_iload hx hb dX6_heard_54 (lv_at hl 0 rfl) ?_
            have g13 := gd_1 hres
            have hres := gd_2 hres
            refine x_iald hx hb hK hP 3 rfl (j := (Int32.toNatClampNeg r8)) rfl g13 dX6_heard_56 ?_
            refine lv_goto (tgt := 82) hx hb dX6_heard_57 (by decide) ?_
            obtain rfl := Option.some.inj hres
            exact W.iret hx hb hr (fun t ht hW => ⟨⟨_, (), rfl, rfl, by rw [ht]; exact hP, hD⟩, hS.F ht⟩) hS.2.2 dX6_heard_82
        · have hres := ite_f hres h7
          refine lv_bipush (v := (-9)) hx hb dX6_heard_36 (by decide) ?_
          obtain rfl := Option.some.inj hres
          exact W.iret hx hb hr (fun t ht hW => ⟨⟨_, (), rfl, rfl, by rw [ht]; exact hP, hD⟩, hS.F ht⟩) hS.2.2 dX6_heard_38
      · have hres := ite_t hres h5
        refine lv_iconst (v := (-1)) hx hb dX6_heard_21 (by decide) ?_
        obtain rfl := Option.some.inj hres
        exact W.iret hx hb hr (fun t ht hW => ⟨⟨_, (), rfl, rfl, by rw [ht]; exact hP, hD⟩, hS.F ht⟩) hS.2.2 dX6_heard_22
theorem hsX6_heard : yX6_heard.cls = RX6 ∧ yX6_heard.cls ≠ "java/lang/invoke/MethodHandle" ∧ yX6_heard.cls ≠ "java/lang/invoke/VarHandle" ∧ (parseMethodDescriptor yX6_heard.desc).map (fun d => d.parameters.length) = some 3 := by decide +kernel
set_option maxHeartbeats 4000000 in
set_option maxRecDepth 100000 in
theorem kX6_isFigure (l : Launch) (G : va_G) (cI cZ : ClassId) (tl : List (ClassId × FieldType)) (x0 : Int32) (res : Int32) (hres : fX6_isFigure x0 = some res) : Met l yX6_isFigure wsX6_isFigure rX6_isFigure (va_Pc [.int x0] (PRO G cI cZ tl [])) (Sp res) 0 0 (fun _ => False) := by
  refine Met.ofW (cc := cX6_isFigure) (maxL := 1) (ret := (some .boolean)) (by decide) rfl ?_
  intro p e s m args below meth c s₁ B hml hv
  obtain ⟨rfl, hP, hK⟩ := hv
  have hx := B.exec
  have hb := B.bytes
  have hr := B.returns
  have hts := atoms_spec (ws := wsX6_isFigure) B.pre
  have hown : s.vm.findClass RX6 = some m.cls := findClass_of_methodNamed B.named
  have hlocks := B.notSynchronized
  have hl := lv_entry ([.int x0] : List Value) (n := 1) (Nat.le_of_ble_eq_true rfl)
  rw [lg_entry_eq]
  generalize (lg_sl ([.int x0] : List Value) ++ List.replicate (1 - (lg_sl ([.int x0] : List Value)).length) Slot.unset).toArray = ls at hl ⊢
  have hl : lv_has ls 1 [(0, .int x0)] := hl
  refine lv_iload_n hx hb dX6_isFigure_0 rfl (lv_at hl 0 rfl) ?_
  refine lv_bipush (v := 48) hx hb dX6_isFigure_1 (by decide) ?_
  refine lv_bipush (v := 57) hx hb dX6_isFigure_3 (by decide) ?_
  obtain ⟨r1, hr1, hres⟩ := bi_1 hres
  refine x_cp (va_runS (As := [.int x0, .int 48, .int 57]) (rest := []) ⟨hx, hb, hml, hown, hts⟩ (kX6_in l G cI cZ tl x0 48 57 r1 hr1) (va_cwS 3 hts gX6_isFigure_X6_in rfl rfl rfl hsX6_in ⟨Nat.le_of_ble_eq_true rfl, Nat.le_of_ble_eq_true rfl⟩) ⟨PRO_blind, PRO_at va_P0 hK⟩ rfl rfl hl.1 rfl (lv_room (Nat.le_of_ble_eq_true rfl)) dX6_isFigure_5 ⟨Nat.zero_le _, Nat.zero_le _⟩) ?_
  have g2 := gd_1 hres
  have hres := gd_2 hres
  obtain rfl := Option.some.inj hres
  exact W.zret hx hb hr (by rcases g2 with h | h <;> rw [h] <;> rfl) (fun t ht hW => ⟨rfl, ht⟩) (fun q h => absurd h List.not_mem_nil) dX6_isFigure_8
theorem hsX6_isFigure : yX6_isFigure.cls ≠ "java/lang/invoke/MethodHandle" ∧ yX6_isFigure.cls ≠ "java/lang/invoke/VarHandle" ∧ (parseMethodDescriptor yX6_isFigure.desc).map (fun d => d.parameters.length) = some 1 := by decide +kernel
set_option maxHeartbeats 4000000 in
set_option maxRecDepth 100000 in
theorem kX6_isLetter (l : Launch) (G : va_G) (cI cZ : ClassId) (tl : List (ClassId × FieldType)) (x0 : Int32) (res : Int32) (hres : fX6_isLetter x0 = some res) : Met l yX6_isLetter wsX6_isLetter rX6_isLetter (va_Pc [.int x0] (PRO G cI cZ tl [])) (Sp res) 0 0 (fun _ => False) := by
  refine Met.ofW (cc := cX6_isLetter) (maxL := 1) (ret := (some .boolean)) (by decide) rfl ?_
  intro p e s m args below meth c s₁ B hml hv
  obtain ⟨rfl, hP, hK⟩ := hv
  have hx := B.exec
  have hb := B.bytes
  have hr := B.returns
  have hts := atoms_spec (ws := wsX6_isLetter) B.pre
  have hown : s.vm.findClass RX6 = some m.cls := findClass_of_methodNamed B.named
  have hlocks := B.notSynchronized
  have hl := lv_entry ([.int x0] : List Value) (n := 1) (Nat.le_of_ble_eq_true rfl)
  rw [lg_entry_eq]
  generalize (lg_sl ([.int x0] : List Value) ++ List.replicate (1 - (lg_sl ([.int x0] : List Value)).length) Slot.unset).toArray = ls at hl ⊢
  have hl : lv_has ls 1 [(0, .int x0)] := hl
  refine lv_iload_n hx hb dX6_isLetter_0 rfl (lv_at hl 0 rfl) ?_
  refine lv_bipush (v := 114) hx hb dX6_isLetter_1 (by decide) ?_
  refine lv_icmp_eq (tgt := 36) hx hb dX6_isLetter_3 (by decide) (fun h1 => ?_) (fun h1 => ?_)
  · have hres := ite_t hres h1
    refine lv_iconst (v := 1) hx hb dX6_isLetter_36 (by decide) ?_
    refine lv_goto (tgt := 41) hx hb dX6_isLetter_37 (by decide) ?_
    obtain rfl := Option.some.inj hres
    exact W.zret hx hb hr (by decide) (fun t ht hW => ⟨rfl, ht⟩) (fun q h => absurd h List.not_mem_nil) dX6_isLetter_41
  · have hres := ite_f hres h1
    refine lv_iload_n hx hb dX6_isLetter_6 rfl (lv_at hl 0 rfl) ?_
    refine lv_bipush (v := 119) hx hb dX6_isLetter_7 (by decide) ?_
    refine lv_icmp_eq (tgt := 36) hx hb dX6_isLetter_9 (by decide) (fun h2 => ?_) (fun h2 => ?_)
    · have hres := ite_t hres h2
      refine lv_iconst (v := 1) hx hb dX6_isLetter_36 (by decide) ?_
      refine lv_goto (tgt := 41) hx hb dX6_isLetter_37 (by decide) ?_
      obtain rfl := Option.some.inj hres
      exact W.zret hx hb hr (by decide) (fun t ht hW => ⟨rfl, ht⟩) (fun q h => absurd h List.not_mem_nil) dX6_isLetter_41
    · have hres := ite_f hres h2
      refine lv_iload_n hx hb dX6_isLetter_12 rfl (lv_at hl 0 rfl) ?_
      refine lv_bipush (v := 113) hx hb dX6_isLetter_13 (by decide) ?_
      refine lv_icmp_eq (tgt := 36) hx hb dX6_isLetter_15 (by decide) (fun h3 => ?_) (fun h3 => ?_)
      · have hres := ite_t hres h3
        refine lv_iconst (v := 1) hx hb dX6_isLetter_36 (by decide) ?_
        refine lv_goto (tgt := 41) hx hb dX6_isLetter_37 (by decide) ?_
        obtain rfl := Option.some.inj hres
        exact W.zret hx hb hr (by decide) (fun t ht hW => ⟨rfl, ht⟩) (fun q h => absurd h List.not_mem_nil) dX6_isLetter_41
      · have hres := ite_f hres h3
        refine lv_iload_n hx hb dX6_isLetter_18 rfl (lv_at hl 0 rfl) ?_
        refine lv_bipush (v := 115) hx hb dX6_isLetter_19 (by decide) ?_
        refine lv_icmp_eq (tgt := 36) hx hb dX6_isLetter_21 (by decide) (fun h4 => ?_) (fun h4 => ?_)
        · have hres := ite_t hres h4
          refine lv_iconst (v := 1) hx hb dX6_isLetter_36 (by decide) ?_
          refine lv_goto (tgt := 41) hx hb dX6_isLetter_37 (by decide) ?_
          obtain rfl := Option.some.inj hres
          exact W.zret hx hb hr (by decide) (fun t ht hW => ⟨rfl, ht⟩) (fun q h => absurd h List.not_mem_nil) dX6_isLetter_41
        · have hres := ite_f hres h4
          refine lv_iload_n hx hb dX6_isLetter_24 rfl (lv_at hl 0 rfl) ?_
          refine lv_bipush (v := 99) hx hb dX6_isLetter_25 (by decide) ?_
          refine lv_icmp_eq (tgt := 36) hx hb dX6_isLetter_27 (by decide) (fun h5 => ?_) (fun h5 => ?_)
          · have hres := ite_t hres h5
            refine lv_iconst (v := 1) hx hb dX6_isLetter_36 (by decide) ?_
            refine lv_goto (tgt := 41) hx hb dX6_isLetter_37 (by decide) ?_
            obtain rfl := Option.some.inj hres
            exact W.zret hx hb hr (by decide) (fun t ht hW => ⟨rfl, ht⟩) (fun q h => absurd h List.not_mem_nil) dX6_isLetter_41
          · have hres := ite_f hres h5
            refine lv_iload_n hx hb dX6_isLetter_30 rfl (lv_at hl 0 rfl) ?_
            refine lv_bipush (v := 59) hx hb dX6_isLetter_31 (by decide) ?_
            refine lv_icmp_ne (tgt := 40) hx hb dX6_isLetter_33 (by decide) (fun h6 => ?_) (fun h6 => ?_)
            · have hres := ite_f hres h6
              refine lv_iconst (v := 0) hx hb dX6_isLetter_40 (by decide) ?_
              obtain rfl := Option.some.inj hres
              exact W.zret hx hb hr (by decide) (fun t ht hW => ⟨rfl, ht⟩) (fun q h => absurd h List.not_mem_nil) dX6_isLetter_41
            · have hres := ite_t hres h6
              refine lv_iconst (v := 1) hx hb dX6_isLetter_36 (by decide) ?_
              refine lv_goto (tgt := 41) hx hb dX6_isLetter_37 (by decide) ?_
              obtain rfl := Option.some.inj hres
              exact W.zret hx hb hr (by decide) (fun t ht hW => ⟨rfl, ht⟩) (fun q h => absurd h List.not_mem_nil) dX6_isLetter_41
theorem hsX6_isLetter : yX6_isLetter.cls ≠ "java/lang/invoke/MethodHandle" ∧ yX6_isLetter.cls ≠ "java/lang/invoke/VarHandle" ∧ (parseMethodDescriptor yX6_isLetter.desc).map (fun d => d.parameters.length) = some 1 := by decide +kernel
set_option maxHeartbeats 4000000 in
set_option maxRecDepth 100000 in
theorem kX6_isWithin (l : Launch) (G : va_G) (cI cZ : ClassId) (tl : List (ClassId × FieldType)) (A0 A0_s A0_draft A0_kept A0_isKept A0_undone A0_seenI A0_seenJ A0_seenTime A0_text A0_kind A0_place A0_value A0_swallows A0_time A0_strength A0_which A0_told : Nat) (c0 c0_s : Nat → Int32) (x1 x2 : Int32) (res : Int32) (hres : fX6_isWithin c0 c0_s x1 x2 = some res) : Met l yX6_isWithin wsX6_isWithin rX6_isWithin (va_Pc [.ref A0, .int x1, .int x2] (PRO G cI cZ tl [o6 A0 c0 A0_s A0_draft A0_kept A0_isKept A0_undone A0_seenI A0_seenJ A0_seenTime A0_text A0_kind A0_place A0_value A0_swallows A0_time A0_strength A0_which A0_told, (A0_s, .inl (cI, 27, .inl c0_s))])) (Sp res) 0 0 (fun _ => False) := by
  refine Met.ofW (cc := cX6_isWithin) (maxL := 3) (ret := (some .boolean)) (by decide) rfl ?_
  intro p e s m args below meth c s₁ B hml hv
  obtain ⟨rfl, hP, hK⟩ := hv
  have hx := B.exec
  have hb := B.bytes
  have hr := B.returns
  have hts := atoms_spec (ws := wsX6_isWithin) B.pre
  have hown : s.vm.findClass RX6 = some m.cls := findClass_of_methodNamed B.named
  have hlocks := B.notSynchronized
  have hl := lv_entry ([.ref A0, .int x1, .int x2] : List Value) (n := 3) (Nat.le_of_ble_eq_true rfl)
  rw [lg_entry_eq]
  generalize (lg_sl ([.ref A0, .int x1, .int x2] : List Value) ++ List.replicate (3 - (lg_sl ([.ref A0, .int x1, .int x2] : List Value)).length) Slot.unset).toArray = ls at hl ⊢
  have hl : lv_has ls 3 [(0, .ref A0), (1, .int x1), (2, .int x2)] := hl
  refine lv_iload_n hx hb dX6_isWithin_0 rfl (lv_at hl 1 rfl) ?_
  refine lv_iconst (v := 0) hx hb dX6_isWithin_1 (by decide) ?_
  refine lv_aload_n hx hb dX6_isWithin_2 rfl (lv_at hl 0 rfl) ?_
  refine va_get (D := G) (ci := 6) (v := .ref A0_s) (C := RX6) (T := TX6) (N := 22) hx hb hts (fun w h => (List.mem_cons_of_mem _ (List.mem_append_right _ h))) hown hK.1 hP 0 rfl rfl 0 (by decide) (hts (.fieldLink RX6 7 "EchoSeatsModel" "s" "[I") (List.mem_of_getElem? (i := 1) rfl)) (fun _ h9 => h9) rfl dX6_isWithin_3 ?_
  refine lv_iconst (v := 0) hx hb dX6_isWithin_6 (by decide) ?_
  refine x_iald hx hb hK hP 1 rfl (j := 0) (by decide) (by decide) dX6_isWithin_7 ?_
  obtain ⟨r1, hr1, hres⟩ := bi_1 hres
  refine x_cp (va_runS (As := [.int x1, .int 0, .int (c0_s 0)]) (rest := []) ⟨hx, hb, hml, hown, hts⟩ (kX6_in l G cI cZ tl x1 0 (c0_s 0) r1 hr1) (va_cwS 3 hts gX6_isWithin_X6_in rfl rfl rfl hsX6_in ⟨Nat.le_of_ble_eq_true rfl, Nat.le_of_ble_eq_true rfl⟩) ⟨PRO_blind, PRO_at va_P0 hK⟩ rfl rfl hl.1 rfl (lv_room (Nat.le_of_ble_eq_true rfl)) dX6_isWithin_8 ⟨Nat.zero_le _, Nat.zero_le _⟩) ?_
  refine lv_if_eq (tgt := 32) hx hb dX6_isWithin_11 (by decide) (fun h2 => ?_) (fun h2 => ?_)
  · have hres := ite_t hres h2
    refine lv_iconst (v := 0) hx hb dX6_isWithin_32 (by decide) ?_
    obtain rfl := Option.some.inj hres
    exact W.zret hx hb hr (by decide) (fun t ht hW => ⟨rfl, ht⟩) (fun q h => absurd h List.not_mem_nil) dX6_isWithin_33
  · have hres := ite_f hres h2
    refine lv_iload_n hx hb dX6_isWithin_14 rfl (lv_at hl 2 rfl) ?_
    refine lv_iconst (v := 0) hx hb dX6_isWithin_15 (by decide) ?_
    refine lv_aload_n hx hb dX6_isWithin_16 rfl (lv_at hl 0 rfl) ?_
    refine va_get (D := G) (ci := 6) (v := .ref A0_s) (C := RX6) (T := TX6) (N := 22) hx hb hts (fun w h => (List.mem_cons_of_mem _ (List.mem_append_right _ h))) hown hK.1 hP 0 rfl rfl 0 (by decide) (hts (.fieldLink RX6 7 "EchoSeatsModel" "s" "[I") (List.mem_of_getElem? (i := 1) rfl)) (fun _ h9 => h9) rfl dX6_isWithin_17 ?_
    refine lv_iconst (v := 1) hx hb dX6_isWithin_20 (by decide) ?_
    refine x_iald hx hb hK hP 1 rfl (j := 1) (by decide) (by decide) dX6_isWithin_21 ?_
    obtain ⟨r3, hr3, hres⟩ := bi_1 hres
    refine x_cp (va_runS (As := [.int x2, .int 0, .int (c0_s 1)]) (rest := []) ⟨hx, hb, hml, hown, hts⟩ (kX6_in l G cI cZ tl x2 0 (c0_s 1) r3 hr3) (va_cwS 3 hts gX6_isWithin_X6_in rfl rfl rfl hsX6_in ⟨Nat.le_of_ble_eq_true rfl, Nat.le_of_ble_eq_true rfl⟩) ⟨PRO_blind, PRO_at va_P0 hK⟩ rfl rfl hl.1 rfl (lv_room (Nat.le_of_ble_eq_true rfl)) dX6_isWithin_22 ⟨Nat.zero_le _, Nat.zero_le _⟩) ?_
    refine lv_if_eq (tgt := 32) hx hb dX6_isWithin_25 (by decide) (fun h4 => ?_) (fun h4 => ?_)
    · have hres := ite_t hres h4
      refine lv_iconst (v := 0) hx hb dX6_isWithin_32 (by decide) ?_
      obtain rfl := Option.some.inj hres
      exact W.zret hx hb hr (by decide) (fun t ht hW => ⟨rfl, ht⟩) (fun q h => absurd h List.not_mem_nil) dX6_isWithin_33
    · have hres := ite_f hres h4
      refine lv_iconst (v := 1) hx hb dX6_isWithin_28 (by decide) ?_
      refine lv_goto (tgt := 33) hx hb dX6_isWithin_29 (by decide) ?_
      obtain rfl := Option.some.inj hres
      exact W.zret hx hb hr (by decide) (fun t ht hW => ⟨rfl, ht⟩) (fun q h => absurd h List.not_mem_nil) dX6_isWithin_33
theorem hsX6_isWithin : yX6_isWithin.cls = RX6 ∧ yX6_isWithin.cls ≠ "java/lang/invoke/MethodHandle" ∧ yX6_isWithin.cls ≠ "java/lang/invoke/VarHandle" ∧ (parseMethodDescriptor yX6_isWithin.desc).map (fun d => d.parameters.length) = some 2 := by decide +kernel
set_option maxHeartbeats 4000000 in
set_option maxRecDepth 100000 in
theorem kX6_keep (l : Launch) (G : va_G) (cI cZ : ClassId) (tl : List (ClassId × FieldType)) (sz : Nat) (A : Nat → Prop) (A0 A0_s A0_draft A0_kept A0_isKept A0_undone A0_seenI A0_seenJ A0_seenTime A0_text A0_kind A0_place A0_value A0_swallows A0_time A0_strength A0_which A0_told : Nat) (c0 c0_s c0_kept c0_isKept : Nat → Int32) (x1 : Int32) (res : Int32 × (Nat → Int32) × (Nat → Int32)) (hAe : A = va_A [o6 A0 c0 A0_s A0_draft A0_kept A0_isKept A0_undone A0_seenI A0_seenJ A0_seenTime A0_text A0_kind A0_place A0_value A0_swallows A0_time A0_strength A0_which A0_told, (A0_s, .inl (cI, 27, .inl c0_s)), (A0_kept, .inl (cI, 54, .inl c0_kept)), (A0_isKept, .inl (cZ, 2, .inl c0_isKept))] sz) (hres : fX6_keep c0 c0_s c0_kept c0_isKept x1 = some res) : Met l yX6_keep wsX6_keep rX6_keep (va_Pc [.ref A0, .int x1] (PRW G cI cZ tl [o6 A0 c0 A0_s A0_draft A0_kept A0_isKept A0_undone A0_seenI A0_seenJ A0_seenTime A0_text A0_kind A0_place A0_value A0_swallows A0_time A0_strength A0_which A0_told, (A0_s, .inl (cI, 27, .inl c0_s)), (A0_kept, .inl (cI, 54, .inl c0_kept)), (A0_isKept, .inl (cZ, 2, .inl c0_isKept))] sz)) (Qiw res.1 G A [o6 A0 c0 A0_s A0_draft A0_kept A0_isKept A0_undone A0_seenI A0_seenJ A0_seenTime A0_text A0_kind A0_place A0_value A0_swallows A0_time A0_strength A0_which A0_told, (A0_s, .inl (cI, 27, .inl c0_s)), (A0_kept, .inl (cI, 54, .inl res.2.1)), (A0_isKept, .inl (cZ, 2, .inl res.2.2))]) 0 0 A := by
  refine Met.ofW (cc := cX6_keep) (maxL := 3) (ret := (some .int)) (by decide) rfl ?_
  intro p e s m args below meth c s₁ B hml hv
  obtain ⟨rfl, hsz, hP, hK, hD0⟩ := hv
  have hx := B.exec
  have hb := B.bytes
  have hr := B.returns
  have hts := atoms_spec (ws := wsX6_keep) B.pre
  have hown : s.vm.findClass RX6 = some m.cls := findClass_of_methodNamed B.named
  have hlocks := B.notSynchronized
  subst hsz
  have hD : va_D A [o6 A0 c0 A0_s A0_draft A0_kept A0_isKept A0_undone A0_seenI A0_seenJ A0_seenTime A0_text A0_kind A0_place A0_value A0_swallows A0_time A0_strength A0_which A0_told, (A0_s, .inl (cI, 27, .inl c0_s)), (A0_kept, .inl (cI, 54, .inl c0_kept)), (A0_isKept, .inl (cZ, 2, .inl c0_isKept))] := by rw [hAe]; exact hD0.self
  have hA : ∀ q : Nat, s.heap.size ≤ q → A q := fun q h => by rw [hAe]; exact Or.inr h
  clear hAe hD0
  have hS : va_S A s.heap s.heap [] := va_S.rf
  have hl := lv_entry ([.ref A0, .int x1] : List Value) (n := 3) (Nat.le_of_ble_eq_true rfl)
  rw [lg_entry_eq]
  generalize (lg_sl ([.ref A0, .int x1] : List Value) ++ List.replicate (3 - (lg_sl ([.ref A0, .int x1] : List Value)).length) Slot.unset).toArray = ls at hl ⊢
  have hl : lv_has ls 3 [(0, .ref A0), (1, .int x1)] := hl
  refine lv_iload_n hx hb dX6_keep_0 rfl (lv_at hl 1 rfl) ?_
  refine lv_iconst (v := 0) hx hb dX6_keep_1 (by decide) ?_
  refine lv_iconst (v := 1) hx hb dX6_keep_2 (by decide) ?_
  obtain ⟨r1, hr1, hres⟩ := bi_1 hres
  refine x_cp (va_runS (As := [.int x1, .int 0, .int 1]) (rest := []) ⟨hx, hb, hml, hown, hts⟩ (kX6_in l G cI cZ tl x1 0 1 r1 hr1) (va_cwS 3 hts gX6_keep_X6_in rfl rfl rfl hsX6_in ⟨Nat.le_of_ble_eq_true rfl, Nat.le_of_ble_eq_true rfl⟩) ⟨PRO_blind, PRO_at va_P0 hK⟩ rfl rfl hl.1 rfl (lv_room (Nat.le_of_ble_eq_true rfl)) dX6_keep_3 ⟨Nat.zero_le _, Nat.zero_le _⟩) ?_
  refine lv_if_ne (tgt := 11) hx hb dX6_keep_6 (by decide) (fun h2 => ?_) (fun h2 => ?_)
  · have hres := ite_f hres h2
    refine lv_iconst (v := 0) hx hb dX6_keep_11 (by decide) ?_
    refine lv_istore_n (lv' := [(2, .int 0), (0, .ref A0), (1, .int x1)]) hx hb dX6_keep_12 rfl hl (by decide) rfl (fun ls hl => ?_)
    have Q13 : ∀ (v1_L13 : Int32) (e0_isKept_L13 : (Nat → Int32)) (n13 : Nat) (v2_L13 : Int32) (e0_kept_L13 : (Nat → Int32)) (H : Heap) (locs : List Loc) (ls : Array Slot), LPX (fX6_keep_L13 c0 c0_s v1_L13 e0_isKept_L13) n13 (v2_L13, e0_kept_L13) = some res → va_P G vwCl [o6 A0 c0 A0_s A0_draft A0_kept A0_isKept A0_undone A0_seenI A0_seenJ A0_seenTime A0_text A0_kind A0_place A0_value A0_swallows A0_time A0_strength A0_which A0_told, (A0_s, .inl (cI, 27, .inl c0_s)), (A0_kept, .inl (cI, 54, .inl e0_kept_L13)), (A0_isKept, .inl (cZ, 2, .inl e0_isKept_L13))] H → va_D A [o6 A0 c0 A0_s A0_draft A0_kept A0_isKept A0_undone A0_seenI A0_seenJ A0_seenTime A0_text A0_kind A0_place A0_value A0_swallows A0_time A0_strength A0_which A0_told, (A0_s, .inl (cI, 27, .inl c0_s)), (A0_kept, .inl (cI, 54, .inl e0_kept_L13)), (A0_isKept, .inl (cZ, 2, .inl e0_isKept_L13))] → va_S A s.heap H locs → lv_has ls 3 [(0, .ref A0), (1, .int v1_L13), (2, .int v2_L13)] → WRW p l e wsX6_keep rX6_keep s m ([.ref A0, .int x1] : List Value).toArray below meth c H locs (Qiw res.1 G A [o6 A0 c0 A0_s A0_draft A0_kept A0_isKept A0_undone A0_seenI A0_seenJ A0_seenTime A0_text A0_kind A0_place A0_value A0_swallows A0_time A0_strength A0_which A0_told, (A0_s, .inl (cI, 27, .inl c0_s)), (A0_kept, .inl (cI, 54, .inl res.2.1)), (A0_isKept, .inl (cZ, 2, .inl res.2.2))]) A (F0 m 13 ls []) := by
      intro v1_L13 e0_isKept_L13 n13
      induction n13 with
      | zero =>
        intro v2_L13 e0_kept_L13 H locs ls hres
        exact absurd (LPX_0.symm.trans hres) (fun h => by cases h)
      | succ n13 ih13 =>
        intro v2_L13 e0_kept_L13 H locs ls hres hP hD hS hl
        have hres := LPX_s.symm.trans hres
        refine lv_iload_n hx hb dX6_keep_13 rfl (lv_at hl 2 rfl) ?_
        refine lv_bipush (v := 27) hx hb dX6_keep_14 (by decide) ?_
        refine lv_icmp_ge (tgt := 42) hx hb dX6_keep_16 (by decide) (fun h3 => ?_) (fun h3 => ?_)
        · have hres := ite_t hres h3
          refine lv_aload_n hx hb dX6_keep_42 rfl (lv_at hl 0 rfl) ?_
          refine va_get (D := G) (ci := 6) (v := .ref A0_isKept) (C := RX6) (T := TX6) (N := 22) hx hb hts (fun w h => (List.mem_cons_of_mem _ (List.mem_append_right _ h))) hown hK.1 hP 0 rfl rfl 3 (by decide) (hts (.fieldLink RX6 19 "EchoSeatsModel" "isKept" "[Z") (List.mem_of_getElem? (i := 3) rfl)) (fun _ h9 => h9) rfl dX6_keep_43 ?_
          refine lv_iload_n hx hb dX6_keep_46 rfl (lv_at hl 1 rfl) ?_
          refine lv_iconst (v := 1) hx hb dX6_keep_47 (by decide) ?_
          have g4 := gd_1 hres
          have hres := gd_2 hres
          refine x_zast hx hb hK hP hD hS 3 rfl (j := (Int32.toNatClampNeg v1_L13)) rfl g4 (by decide) dX6_keep_48 (fun H locs hP hD hS => ?_)
          have hP : va_P G vwCl [o6 A0 c0 A0_s A0_draft A0_kept A0_isKept A0_undone A0_seenI A0_seenJ A0_seenTime A0_text A0_kind A0_place A0_value A0_swallows A0_time A0_strength A0_which A0_told, (A0_s, .inl (cI, 27, .inl c0_s)), (A0_kept, .inl (cI, 54, .inl e0_kept_L13)), (A0_isKept, .inl (cZ, 2, .inl (upd e0_isKept_L13 (Int32.toNatClampNeg v1_L13) 1)))] H := hP
          have hD : va_D A [o6 A0 c0 A0_s A0_draft A0_kept A0_isKept A0_undone A0_seenI A0_seenJ A0_seenTime A0_text A0_kind A0_place A0_value A0_swallows A0_time A0_strength A0_which A0_told, (A0_s, .inl (cI, 27, .inl c0_s)), (A0_kept, .inl (cI, 54, .inl e0_kept_L13)), (A0_isKept, .inl (cZ, 2, .inl (upd e0_isKept_L13 (Int32.toNatClampNeg v1_L13) 1)))] := hD
          refine lv_aload_n hx hb dX6_keep_49 rfl (lv_at hl 0 rfl) ?_
          obtain ⟨r5, hr5, hres⟩ := bi_1 hres
          refine x_cp (va_runV (As := []) (rest := []) ⟨hx, hb, hml, hown, hts⟩ (kX6_sourceAt l G cI cZ tl A0 A0_s A0_draft A0_kept A0_isKept A0_undone A0_seenI A0_seenJ A0_seenTime A0_text A0_kind A0_place A0_value A0_swallows A0_time A0_strength A0_which A0_told c0 c0_s r5 hr5) (cwV 0 hts gX6_keep_X6_sourceAt rfl rfl rfl hsX6_sourceAt ⟨Nat.le_of_ble_eq_true rfl, Nat.le_of_ble_eq_true rfl⟩) ⟨PRO_blind, va_recv hK.1 hP (ci := 6) (q0 := 0) rfl rfl, PRO_at (hP.sub (ws' := [o6 A0 c0 A0_s A0_draft A0_kept A0_isKept A0_undone A0_seenI A0_seenJ A0_seenTime A0_text A0_kind A0_place A0_value A0_swallows A0_time A0_strength A0_which A0_told, (A0_s, .inl (cI, 27, .inl c0_s))]) [0, 1] rfl) hK⟩ rfl rfl hl.1 rfl (lv_room (Nat.le_of_ble_eq_true rfl)) dX6_keep_50 ⟨Nat.zero_le _, Nat.zero_le _⟩) ?_
          obtain rfl := Option.some.inj hres
          exact W.iret hx hb hr (fun t ht hW => ⟨⟨_, (), rfl, rfl, by rw [ht]; exact hP, hD⟩, hS.F ht⟩) hS.2.2 dX6_keep_53
        · have hres := ite_f hres h3
          refine lv_aload_n hx hb dX6_keep_19 rfl (lv_at hl 0 rfl) ?_
          refine va_get (D := G) (ci := 6) (v := .ref A0_kept) (C := RX6) (T := TX6) (N := 22) hx hb hts (fun w h => (List.mem_cons_of_mem _ (List.mem_append_right _ h))) hown hK.1 hP 0 rfl rfl 2 (by decide) (hts (.fieldLink RX6 16 "EchoSeatsModel" "kept" "[I") (List.mem_of_getElem? (i := 1) rfl)) (fun _ h9 => h9) rfl dX6_keep_20 ?_
          refine lv_bipush (v := 27) hx hb dX6_keep_23 (by decide) ?_
          refine lv_iload_n hx hb dX6_keep_25 rfl (lv_at hl 1 rfl) ?_
          refine lv_imul hx hb dX6_keep_26 ?_
          refine lv_iload_n hx hb dX6_keep_27 rfl (lv_at hl 2 rfl) ?_
          refine lv_iadd hx hb dX6_keep_28 ?_
          refine lv_aload_n hx hb dX6_keep_29 rfl (lv_at hl 0 rfl) ?_
          refine va_get (D := G) (ci := 6) (v := .ref A0_s) (C := RX6) (T := TX6) (N := 22) hx hb hts (fun w h => (List.mem_cons_of_mem _ (List.mem_append_right _ h))) hown hK.1 hP 0 rfl rfl 0 (by decide) (hts (.fieldLink RX6 7 "EchoSeatsModel" "s" "[I") (List.mem_of_getElem? (i := 2) rfl)) (fun _ h9 => h9) rfl dX6_keep_30 ?_
          refine lv_iload_n hx hb dX6_keep_33 rfl (lv_at hl 2 rfl) ?_
          have g6 := gd_1 hres
          have hres := gd_2 hres
          refine x_iald hx hb hK hP 1 rfl (j := (Int32.toNatClampNeg v2_L13)) rfl g6 dX6_keep_34 ?_
          have g7 := gd_1 hres
          have hres := gd_2 hres
          refine x_iast hx hb hK hP hD hS 2 rfl (j := (Int32.toNatClampNeg ((27 * v1_L13) + v2_L13))) rfl g7 dX6_keep_35 (fun H locs hP hD hS => ?_)
          have hP : va_P G vwCl [o6 A0 c0 A0_s A0_draft A0_kept A0_isKept A0_undone A0_seenI A0_seenJ A0_seenTime A0_text A0_kind A0_place A0_value A0_swallows A0_time A0_strength A0_which A0_told, (A0_s, .inl (cI, 27, .inl c0_s)), (A0_kept, .inl (cI, 54, .inl (upd e0_kept_L13 (Int32.toNatClampNeg ((27 * v1_L13) + v2_L13)) (c0_s (Int32.toNatClampNeg v2_L13))))), (A0_isKept, .inl (cZ, 2, .inl e0_isKept_L13))] H := hP
          have hD : va_D A [o6 A0 c0 A0_s A0_draft A0_kept A0_isKept A0_undone A0_seenI A0_seenJ A0_seenTime A0_text A0_kind A0_place A0_value A0_swallows A0_time A0_strength A0_which A0_told, (A0_s, .inl (cI, 27, .inl c0_s)), (A0_kept, .inl (cI, 54, .inl (upd e0_kept_L13 (Int32.toNatClampNeg ((27 * v1_L13) + v2_L13)) (c0_s (Int32.toNatClampNeg v2_L13))))), (A0_isKept, .inl (cZ, 2, .inl e0_isKept_L13))] := hD
          refine lv_iinc (v := (v2_L13 + 1)) (lv' := [(2, .int (v2_L13 + 1)), (0, .ref A0), (1, .int v1_L13)]) hx hb dX6_keep_36 hl (k := 2) rfl rfl (by decide) rfl (fun ls hl => ?_)
          refine lv_goto (tgt := 13) hx hb dX6_keep_39 (by decide) ?_
          exact ih13 (v2_L13 + 1) (upd e0_kept_L13 (Int32.toNatClampNeg ((27 * v1_L13) + v2_L13)) (c0_s (Int32.toNatClampNeg v2_L13))) _ _ _ hres hP hD hS (lv_sub hl [1, 2, 0] rfl)
    exact Q13 x1 c0_isKept FU 0 c0_kept _ _ _ hres hP hD hS (lv_sub hl [1, 2, 0] rfl)
  · have hres := ite_t hres h2
    refine lv_iconst (v := (-1)) hx hb dX6_keep_9 (by decide) ?_
    obtain rfl := Option.some.inj hres
    exact W.iret hx hb hr (fun t ht hW => ⟨⟨_, (), rfl, rfl, by rw [ht]; exact hP, hD⟩, hS.F ht⟩) hS.2.2 dX6_keep_10
theorem hsX6_keep : yX6_keep.cls = RX6 ∧ yX6_keep.cls ≠ "java/lang/invoke/MethodHandle" ∧ yX6_keep.cls ≠ "java/lang/invoke/VarHandle" ∧ (parseMethodDescriptor yX6_keep.desc).map (fun d => d.parameters.length) = some 1 := by decide +kernel
