set_option maxHeartbeats 4000000 in
set_option maxRecDepth 100000 in
theorem kX6_lay (l : Launch) (G : va_G) (cI cZ : ClassId) (tl : List (ClassId × FieldType)) (sz : Nat) (A : Nat → Prop) (A0 A0_s A0_draft A0_kept A0_isKept A0_undone A0_seenI A0_seenJ A0_seenTime A0_text A0_kind A0_place A0_value A0_swallows A0_time A0_strength A0_which A0_told : Nat) (c0 c0_value c0_kind c0_draft : Nat → Int32) (x1 : Int32) (res : (Nat → Int32)) (hAe : A = va_A [o6 A0 c0 A0_s A0_draft A0_kept A0_isKept A0_undone A0_seenI A0_seenJ A0_seenTime A0_text A0_kind A0_place A0_value A0_swallows A0_time A0_strength A0_which A0_told, (A0_value, .inl (cI, 100, .inl c0_value)), (A0_kind, .inl (cI, 100, .inl c0_kind)), (A0_draft, .inl (cI, 27, .inl c0_draft))] sz) (hres : fX6_lay c0 c0_value c0_kind c0_draft x1 = some res) : Met l yX6_lay wsX6_lay rX6_lay (va_Pc [.ref A0, .int x1] (PRW G cI cZ tl [o6 A0 c0 A0_s A0_draft A0_kept A0_isKept A0_undone A0_seenI A0_seenJ A0_seenTime A0_text A0_kind A0_place A0_value A0_swallows A0_time A0_strength A0_which A0_told, (A0_value, .inl (cI, 100, .inl c0_value)), (A0_kind, .inl (cI, 100, .inl c0_kind)), (A0_draft, .inl (cI, 27, .inl c0_draft))] sz)) (Qvw G A [o6 A0 c0 A0_s A0_draft A0_kept A0_isKept A0_undone A0_seenI A0_seenJ A0_seenTime A0_text A0_kind A0_place A0_value A0_swallows A0_time A0_strength A0_which A0_told, (A0_value, .inl (cI, 100, .inl c0_value)), (A0_kind, .inl (cI, 100, .inl c0_kind)), (A0_draft, .inl (cI, 27, .inl res))]) 0 0 A := by
  refine Met.ofW (cc := cX6_lay) (maxL := 4) (ret := none) (by decide) rfl ?_
  intro p e s m args below meth c s₁ B hml hv
  obtain ⟨rfl, hsz, hP, hK, hD0⟩ := hv
  have hx := B.exec
  have hb := B.bytes
  have hr := B.returns
  have hts := atoms_spec (ws := wsX6_lay) B.pre
  have hown : s.vm.findClass RX6 = some m.cls := findClass_of_methodNamed B.named
  have hlocks := B.notSynchronized
  subst hsz
  have hD : va_D A [o6 A0 c0 A0_s A0_draft A0_kept A0_isKept A0_undone A0_seenI A0_seenJ A0_seenTime A0_text A0_kind A0_place A0_value A0_swallows A0_time A0_strength A0_which A0_told, (A0_value, .inl (cI, 100, .inl c0_value)), (A0_kind, .inl (cI, 100, .inl c0_kind)), (A0_draft, .inl (cI, 27, .inl c0_draft))] := by rw [hAe]; exact hD0.self
  have hA : ∀ q : Nat, s.heap.size ≤ q → A q := fun q h => by rw [hAe]; exact Or.inr h
  clear hAe hD0
  have hS : va_S A s.heap s.heap [] := va_S.rf
  have hl := lv_entry ([.ref A0, .int x1] : List Value) (n := 4) (Nat.le_of_ble_eq_true rfl)
  rw [lg_entry_eq]
  generalize (lg_sl ([.ref A0, .int x1] : List Value) ++ List.replicate (4 - (lg_sl ([.ref A0, .int x1] : List Value)).length) Slot.unset).toArray = ls at hl ⊢
  have hl : lv_has ls 4 [(0, .ref A0), (1, .int x1)] := hl
  have J160 : ∀ (v1_j160 : Int32) (v2_j160 : Int32) (v3_j160 : Int32) (e0_draft_j160 : (Nat → Int32)) (H : Heap) (locs : List Loc) (ls : Array Slot), fX6_lay_j160 c0 c0_value c0_kind v1_j160 v2_j160 v3_j160 e0_draft_j160 = some res → va_P G vwCl [o6 A0 c0 A0_s A0_draft A0_kept A0_isKept A0_undone A0_seenI A0_seenJ A0_seenTime A0_text A0_kind A0_place A0_value A0_swallows A0_time A0_strength A0_which A0_told, (A0_value, .inl (cI, 100, .inl c0_value)), (A0_kind, .inl (cI, 100, .inl c0_kind)), (A0_draft, .inl (cI, 27, .inl e0_draft_j160))] H → va_D A [o6 A0 c0 A0_s A0_draft A0_kept A0_isKept A0_undone A0_seenI A0_seenJ A0_seenTime A0_text A0_kind A0_place A0_value A0_swallows A0_time A0_strength A0_which A0_told, (A0_value, .inl (cI, 100, .inl c0_value)), (A0_kind, .inl (cI, 100, .inl c0_kind)), (A0_draft, .inl (cI, 27, .inl e0_draft_j160))] → va_S A s.heap H locs → lv_has ls 4 [(0, .ref A0), (1, .int v1_j160), (2, .int v2_j160), (3, .int v3_j160)] → WRW p l e wsX6_lay rX6_lay s m ([.ref A0, .int x1] : List Value).toArray below meth c H locs (Qvw G A [o6 A0 c0 A0_s A0_draft A0_kept A0_isKept A0_undone A0_seenI A0_seenJ A0_seenTime A0_text A0_kind A0_place A0_value A0_swallows A0_time A0_strength A0_which A0_told, (A0_value, .inl (cI, 100, .inl c0_value)), (A0_kind, .inl (cI, 100, .inl c0_kind)), (A0_draft, .inl (cI, 27, .inl res))]) A (F0 m 160 ls []) := by
    intro v1_j160 v2_j160 v3_j160 e0_draft_j160 H locs ls hres hP hD hS hl
    refine lv_aload_n hx hb dX6_lay_160 rfl (lv_at hl 0 rfl) ?_
    refine va_get (D := G) (ci := 6) (v := .ref A0_draft) (C := RX6) (T := TX6) (N := 22) hx hb hts (fun w h => (List.mem_cons_of_mem _ (List.mem_append_right _ h))) hown hK.1 hP 0 rfl rfl 1 (by decide) (hts (.fieldLink RX6 13 "EchoSeatsModel" "draft" "[I") (List.mem_of_getElem? (i := 3) rfl)) (fun _ h9 => h9) rfl dX6_lay_161 ?_
    refine lv_bipush (v := 18) hx hb dX6_lay_164 (by decide) ?_
    refine lv_aload_n hx hb dX6_lay_166 rfl (lv_at hl 0 rfl) ?_
    refine va_get (D := G) (ci := 6) (v := .ref A0_draft) (C := RX6) (T := TX6) (N := 22) hx hb hts (fun w h => (List.mem_cons_of_mem _ (List.mem_append_right _ h))) hown hK.1 hP 0 rfl rfl 1 (by decide) (hts (.fieldLink RX6 13 "EchoSeatsModel" "draft" "[I") (List.mem_of_getElem? (i := 3) rfl)) (fun _ h9 => h9) rfl dX6_lay_167 ?_
    refine lv_bipush (v := 17) hx hb dX6_lay_170 (by decide) ?_
    refine x_iald hx hb hK hP 3 rfl (j := 17) (by decide) (by decide) dX6_lay_172 ?_
    refine lv_iadd hx hb dX6_lay_173 ?_
    refine lv_iload_n hx hb dX6_lay_174 rfl (lv_at hl 2 rfl) ?_
    have g1 := gd_1 hres
    have hres := gd_2 hres
    refine x_iast hx hb hK hP hD hS 3 rfl (j := (Int32.toNatClampNeg (18 + (e0_draft_j160 17)))) rfl g1 dX6_lay_175 (fun H locs hP hD hS => ?_)
    have hP : va_P G vwCl [o6 A0 c0 A0_s A0_draft A0_kept A0_isKept A0_undone A0_seenI A0_seenJ A0_seenTime A0_text A0_kind A0_place A0_value A0_swallows A0_time A0_strength A0_which A0_told, (A0_value, .inl (cI, 100, .inl c0_value)), (A0_kind, .inl (cI, 100, .inl c0_kind)), (A0_draft, .inl (cI, 27, .inl (upd e0_draft_j160 (Int32.toNatClampNeg (18 + (e0_draft_j160 17))) v2_j160)))] H := hP
    have hD : va_D A [o6 A0 c0 A0_s A0_draft A0_kept A0_isKept A0_undone A0_seenI A0_seenJ A0_seenTime A0_text A0_kind A0_place A0_value A0_swallows A0_time A0_strength A0_which A0_told, (A0_value, .inl (cI, 100, .inl c0_value)), (A0_kind, .inl (cI, 100, .inl c0_kind)), (A0_draft, .inl (cI, 27, .inl (upd e0_draft_j160 (Int32.toNatClampNeg (18 + (e0_draft_j160 17))) v2_j160)))] := hD
    refine lv_aload_n hx hb dX6_lay_176 rfl (lv_at hl 0 rfl) ?_
    refine va_get (D := G) (ci := 6) (v := .ref A0_draft) (C := RX6) (T := TX6) (N := 22) hx hb hts (fun w h => (List.mem_cons_of_mem _ (List.mem_append_right _ h))) hown hK.1 hP 0 rfl rfl 1 (by decide) (hts (.fieldLink RX6 13 "EchoSeatsModel" "draft" "[I") (List.mem_of_getElem? (i := 3) rfl)) (fun _ h9 => h9) rfl dX6_lay_177 ?_
    refine lv_bipush (v := 21) hx hb dX6_lay_180 (by decide) ?_
    refine lv_aload_n hx hb dX6_lay_182 rfl (lv_at hl 0 rfl) ?_
    refine va_get (D := G) (ci := 6) (v := .ref A0_draft) (C := RX6) (T := TX6) (N := 22) hx hb hts (fun w h => (List.mem_cons_of_mem _ (List.mem_append_right _ h))) hown hK.1 hP 0 rfl rfl 1 (by decide) (hts (.fieldLink RX6 13 "EchoSeatsModel" "draft" "[I") (List.mem_of_getElem? (i := 3) rfl)) (fun _ h9 => h9) rfl dX6_lay_183 ?_
    refine lv_bipush (v := 17) hx hb dX6_lay_186 (by decide) ?_
    refine x_iald hx hb hK hP 3 rfl (j := 17) (by decide) (by decide) dX6_lay_188 ?_
    refine lv_iadd hx hb dX6_lay_189 ?_
    refine lv_iload_n hx hb dX6_lay_190 rfl (lv_at hl 3 rfl) ?_
    have g2 := gd_1 hres
    have hres := gd_2 hres
    refine x_iast hx hb hK hP hD hS 3 rfl (j := (Int32.toNatClampNeg (21 + ((upd e0_draft_j160 (Int32.toNatClampNeg (18 + (e0_draft_j160 17))) v2_j160) 17)))) rfl g2 dX6_lay_191 (fun H locs hP hD hS => ?_)
    have hP : va_P G vwCl [o6 A0 c0 A0_s A0_draft A0_kept A0_isKept A0_undone A0_seenI A0_seenJ A0_seenTime A0_text A0_kind A0_place A0_value A0_swallows A0_time A0_strength A0_which A0_told, (A0_value, .inl (cI, 100, .inl c0_value)), (A0_kind, .inl (cI, 100, .inl c0_kind)), (A0_draft, .inl (cI, 27, .inl (upd (upd e0_draft_j160 (Int32.toNatClampNeg (18 + (e0_draft_j160 17))) v2_j160) (Int32.toNatClampNeg (21 + ((upd e0_draft_j160 (Int32.toNatClampNeg (18 + (e0_draft_j160 17))) v2_j160) 17))) v3_j160)))] H := hP
    have hD : va_D A [o6 A0 c0 A0_s A0_draft A0_kept A0_isKept A0_undone A0_seenI A0_seenJ A0_seenTime A0_text A0_kind A0_place A0_value A0_swallows A0_time A0_strength A0_which A0_told, (A0_value, .inl (cI, 100, .inl c0_value)), (A0_kind, .inl (cI, 100, .inl c0_kind)), (A0_draft, .inl (cI, 27, .inl (upd (upd e0_draft_j160 (Int32.toNatClampNeg (18 + (e0_draft_j160 17))) v2_j160) (Int32.toNatClampNeg (21 + ((upd e0_draft_j160 (Int32.toNatClampNeg (18 + (e0_draft_j160 17))) v2_j160) 17))) v3_j160)))] := hD
    refine lv_aload_n hx hb dX6_lay_192 rfl (lv_at hl 0 rfl) ?_
    refine va_get (D := G) (ci := 6) (v := .ref A0_draft) (C := RX6) (T := TX6) (N := 22) hx hb hts (fun w h => (List.mem_cons_of_mem _ (List.mem_append_right _ h))) hown hK.1 hP 0 rfl rfl 1 (by decide) (hts (.fieldLink RX6 13 "EchoSeatsModel" "draft" "[I") (List.mem_of_getElem? (i := 3) rfl)) (fun _ h9 => h9) rfl dX6_lay_193 ?_
    refine lv_bipush (v := 24) hx hb dX6_lay_196 (by decide) ?_
    refine lv_aload_n hx hb dX6_lay_198 rfl (lv_at hl 0 rfl) ?_
    refine va_get (D := G) (ci := 6) (v := .ref A0_draft) (C := RX6) (T := TX6) (N := 22) hx hb hts (fun w h => (List.mem_cons_of_mem _ (List.mem_append_right _ h))) hown hK.1 hP 0 rfl rfl 1 (by decide) (hts (.fieldLink RX6 13 "EchoSeatsModel" "draft" "[I") (List.mem_of_getElem? (i := 3) rfl)) (fun _ h9 => h9) rfl dX6_lay_199 ?_
    refine lv_bipush (v := 17) hx hb dX6_lay_202 (by decide) ?_
    refine x_iald hx hb hK hP 3 rfl (j := 17) (by decide) (by decide) dX6_lay_204 ?_
    refine lv_iadd hx hb dX6_lay_205 ?_
    refine lv_aload_n hx hb dX6_lay_206 rfl (lv_at hl 0 rfl) ?_
    refine va_get (D := G) (ci := 6) (v := .ref A0_value) (C := RX6) (T := TX6) (N := 22) hx hb hts (fun w h => (List.mem_cons_of_mem _ (List.mem_append_right _ h))) hown hK.1 hP 0 rfl rfl 14 (by decide) (hts (.fieldLink RX6 44 "EchoSeatsModel" "value" "[I") (List.mem_of_getElem? (i := 1) rfl)) (fun _ h9 => h9) rfl dX6_lay_207 ?_
    refine lv_iload_n hx hb dX6_lay_210 rfl (lv_at hl 1 rfl) ?_
    refine lv_iconst (v := 3) hx hb dX6_lay_211 (by decide) ?_
    refine lv_iadd hx hb dX6_lay_212 ?_
    have g3 := gd_1 hres
    have hres := gd_2 hres
    refine x_iald hx hb hK hP 1 rfl (j := (Int32.toNatClampNeg (v1_j160 + 3))) rfl g3 dX6_lay_213 ?_
    have g4 := gd_1 hres
    have hres := gd_2 hres
    refine x_iast hx hb hK hP hD hS 3 rfl (j := (Int32.toNatClampNeg (24 + ((upd (upd e0_draft_j160 (Int32.toNatClampNeg (18 + (e0_draft_j160 17))) v2_j160) (Int32.toNatClampNeg (21 + ((upd e0_draft_j160 (Int32.toNatClampNeg (18 + (e0_draft_j160 17))) v2_j160) 17))) v3_j160) 17)))) rfl g4 dX6_lay_214 (fun H locs hP hD hS => ?_)
    have hP : va_P G vwCl [o6 A0 c0 A0_s A0_draft A0_kept A0_isKept A0_undone A0_seenI A0_seenJ A0_seenTime A0_text A0_kind A0_place A0_value A0_swallows A0_time A0_strength A0_which A0_told, (A0_value, .inl (cI, 100, .inl c0_value)), (A0_kind, .inl (cI, 100, .inl c0_kind)), (A0_draft, .inl (cI, 27, .inl (upd (upd (upd e0_draft_j160 (Int32.toNatClampNeg (18 + (e0_draft_j160 17))) v2_j160) (Int32.toNatClampNeg (21 + ((upd e0_draft_j160 (Int32.toNatClampNeg (18 + (e0_draft_j160 17))) v2_j160) 17))) v3_j160) (Int32.toNatClampNeg (24 + ((upd (upd e0_draft_j160 (Int32.toNatClampNeg (18 + (e0_draft_j160 17))) v2_j160) (Int32.toNatClampNeg (21 + ((upd e0_draft_j160 (Int32.toNatClampNeg (18 + (e0_draft_j160 17))) v2_j160) 17))) v3_j160) 17))) (c0_value (Int32.toNatClampNeg (v1_j160 + 3))))))] H := hP
    have hD : va_D A [o6 A0 c0 A0_s A0_draft A0_kept A0_isKept A0_undone A0_seenI A0_seenJ A0_seenTime A0_text A0_kind A0_place A0_value A0_swallows A0_time A0_strength A0_which A0_told, (A0_value, .inl (cI, 100, .inl c0_value)), (A0_kind, .inl (cI, 100, .inl c0_kind)), (A0_draft, .inl (cI, 27, .inl (upd (upd (upd e0_draft_j160 (Int32.toNatClampNeg (18 + (e0_draft_j160 17))) v2_j160) (Int32.toNatClampNeg (21 + ((upd e0_draft_j160 (Int32.toNatClampNeg (18 + (e0_draft_j160 17))) v2_j160) 17))) v3_j160) (Int32.toNatClampNeg (24 + ((upd (upd e0_draft_j160 (Int32.toNatClampNeg (18 + (e0_draft_j160 17))) v2_j160) (Int32.toNatClampNeg (21 + ((upd e0_draft_j160 (Int32.toNatClampNeg (18 + (e0_draft_j160 17))) v2_j160) 17))) v3_j160) 17))) (c0_value (Int32.toNatClampNeg (v1_j160 + 3))))))] := hD
    refine lv_aload_n hx hb dX6_lay_215 rfl (lv_at hl 0 rfl) ?_
    refine va_get (D := G) (ci := 6) (v := .ref A0_draft) (C := RX6) (T := TX6) (N := 22) hx hb hts (fun w h => (List.mem_cons_of_mem _ (List.mem_append_right _ h))) hown hK.1 hP 0 rfl rfl 1 (by decide) (hts (.fieldLink RX6 13 "EchoSeatsModel" "draft" "[I") (List.mem_of_getElem? (i := 3) rfl)) (fun _ h9 => h9) rfl dX6_lay_216 ?_
    refine lv_bipush (v := 17) hx hb dX6_lay_219 (by decide) ?_
    refine lv_dup2_11 hx hb dX6_lay_221 rfl rfl ?_
    refine x_iald hx hb hK hP 3 rfl (j := 17) (by decide) (by decide) dX6_lay_222 ?_
    refine lv_iconst (v := 1) hx hb dX6_lay_223 (by decide) ?_
    refine lv_iadd hx hb dX6_lay_224 ?_
    refine x_iast hx hb hK hP hD hS 3 rfl (j := 17) (by decide) (by decide) dX6_lay_225 (fun H locs hP hD hS => ?_)
    have hP : va_P G vwCl [o6 A0 c0 A0_s A0_draft A0_kept A0_isKept A0_undone A0_seenI A0_seenJ A0_seenTime A0_text A0_kind A0_place A0_value A0_swallows A0_time A0_strength A0_which A0_told, (A0_value, .inl (cI, 100, .inl c0_value)), (A0_kind, .inl (cI, 100, .inl c0_kind)), (A0_draft, .inl (cI, 27, .inl (upd (upd (upd (upd e0_draft_j160 (Int32.toNatClampNeg (18 + (e0_draft_j160 17))) v2_j160) (Int32.toNatClampNeg (21 + ((upd e0_draft_j160 (Int32.toNatClampNeg (18 + (e0_draft_j160 17))) v2_j160) 17))) v3_j160) (Int32.toNatClampNeg (24 + ((upd (upd e0_draft_j160 (Int32.toNatClampNeg (18 + (e0_draft_j160 17))) v2_j160) (Int32.toNatClampNeg (21 + ((upd e0_draft_j160 (Int32.toNatClampNeg (18 + (e0_draft_j160 17))) v2_j160) 17))) v3_j160) 17))) (c0_value (Int32.toNatClampNeg (v1_j160 + 3)))) 17 (((upd (upd (upd e0_draft_j160 (Int32.toNatClampNeg (18 + (e0_draft_j160 17))) v2_j160) (Int32.toNatClampNeg (21 + ((upd e0_draft_j160 (Int32.toNatClampNeg (18 + (e0_draft_j160 17))) v2_j160) 17))) v3_j160) (Int32.toNatClampNeg (24 + ((upd (upd e0_draft_j160 (Int32.toNatClampNeg (18 + (e0_draft_j160 17))) v2_j160) (Int32.toNatClampNeg (21 + ((upd e0_draft_j160 (Int32.toNatClampNeg (18 + (e0_draft_j160 17))) v2_j160) 17))) v3_j160) 17))) (c0_value (Int32.toNatClampNeg (v1_j160 + 3)))) 17) + 1))))] H := hP
    have hD : va_D A [o6 A0 c0 A0_s A0_draft A0_kept A0_isKept A0_undone A0_seenI A0_seenJ A0_seenTime A0_text A0_kind A0_place A0_value A0_swallows A0_time A0_strength A0_which A0_told, (A0_value, .inl (cI, 100, .inl c0_value)), (A0_kind, .inl (cI, 100, .inl c0_kind)), (A0_draft, .inl (cI, 27, .inl (upd (upd (upd (upd e0_draft_j160 (Int32.toNatClampNeg (18 + (e0_draft_j160 17))) v2_j160) (Int32.toNatClampNeg (21 + ((upd e0_draft_j160 (Int32.toNatClampNeg (18 + (e0_draft_j160 17))) v2_j160) 17))) v3_j160) (Int32.toNatClampNeg (24 + ((upd (upd e0_draft_j160 (Int32.toNatClampNeg (18 + (e0_draft_j160 17))) v2_j160) (Int32.toNatClampNeg (21 + ((upd e0_draft_j160 (Int32.toNatClampNeg (18 + (e0_draft_j160 17))) v2_j160) 17))) v3_j160) 17))) (c0_value (Int32.toNatClampNeg (v1_j160 + 3)))) 17 (((upd (upd (upd e0_draft_j160 (Int32.toNatClampNeg (18 + (e0_draft_j160 17))) v2_j160) (Int32.toNatClampNeg (21 + ((upd e0_draft_j160 (Int32.toNatClampNeg (18 + (e0_draft_j160 17))) v2_j160) 17))) v3_j160) (Int32.toNatClampNeg (24 + ((upd (upd e0_draft_j160 (Int32.toNatClampNeg (18 + (e0_draft_j160 17))) v2_j160) (Int32.toNatClampNeg (21 + ((upd e0_draft_j160 (Int32.toNatClampNeg (18 + (e0_draft_j160 17))) v2_j160) 17))) v3_j160) 17))) (c0_value (Int32.toNatClampNeg (v1_j160 + 3)))) 17) + 1))))] := hD
    obtain rfl := Option.some.inj hres
    exact W.vret hx hb hr (fun t ht hW => ⟨⟨(), rfl, trivial, by rw [ht]; exact hP, hD⟩, hS.F ht⟩) hS.2.2 dX6_lay_226
  refine lv_aload_n hx hb dX6_lay_0 rfl (lv_at hl 0 rfl) ?_
  refine va_get (D := G) (ci := 6) (v := .ref A0_value) (C := RX6) (T := TX6) (N := 22) hx hb hts (fun w h => (List.mem_cons_of_mem _ (List.mem_append_right _ h))) hown hK.1 hP 0 rfl rfl 14 (by decide) (hts (.fieldLink RX6 44 "EchoSeatsModel" "value" "[I") (List.mem_of_getElem? (i := 1) rfl)) (fun _ h9 => h9) rfl dX6_lay_1 ?_
  refine lv_iload_n hx hb dX6_lay_4 rfl (lv_at hl 1 rfl) ?_
  refine lv_iconst (v := 1) hx hb dX6_lay_5 (by decide) ?_
  refine lv_iadd hx hb dX6_lay_6 ?_
  have g5 := gd_1 hres
  have hres := gd_2 hres
  refine x_iald hx hb hK hP 1 rfl (j := (Int32.toNatClampNeg (x1 + 1))) rfl g5 dX6_lay_7 ?_
  refine lv_topi (fun y6 ey6 => ?_)
  have hres := bnd_z ey6 hres
  refine lv_istore_n (lv' := [(2, .int y6), (0, .ref A0), (1, .int x1)]) hx hb dX6_lay_8 rfl hl (by decide) rfl (fun ls hl => ?_)
  refine lv_aload_n hx hb dX6_lay_9 rfl (lv_at hl 1 rfl) ?_
  refine va_get (D := G) (ci := 6) (v := .ref A0_value) (C := RX6) (T := TX6) (N := 22) hx hb hts (fun w h => (List.mem_cons_of_mem _ (List.mem_append_right _ h))) hown hK.1 hP 0 rfl rfl 14 (by decide) (hts (.fieldLink RX6 44 "EchoSeatsModel" "value" "[I") (List.mem_of_getElem? (i := 1) rfl)) (fun _ h9 => h9) rfl dX6_lay_10 ?_
  refine lv_iload_n hx hb dX6_lay_13 rfl (lv_at hl 2 rfl) ?_
  refine lv_iconst (v := 2) hx hb dX6_lay_14 (by decide) ?_
  refine lv_iadd hx hb dX6_lay_15 ?_
  have g7 := gd_1 hres
  have hres := gd_2 hres
  refine x_iald hx hb hK hP 1 rfl (j := (Int32.toNatClampNeg (x1 + 2))) rfl g7 dX6_lay_16 ?_
  refine lv_topi (fun y8 ey8 => ?_)
  have hres := bnd_z ey8 hres
  refine lv_istore_n (lv' := [(3, .int y8), (2, .int y6), (0, .ref A0), (1, .int x1)]) hx hb dX6_lay_17 rfl hl (by decide) rfl (fun ls hl => ?_)
  refine lv_aload_n hx hb dX6_lay_18 rfl (lv_at hl 2 rfl) ?_
  refine va_get (D := G) (ci := 6) (v := .ref A0_kind) (C := RX6) (T := TX6) (N := 22) hx hb hts (fun w h => (List.mem_cons_of_mem _ (List.mem_append_right _ h))) hown hK.1 hP 0 rfl rfl 12 (by decide) (hts (.fieldLink RX6 38 "EchoSeatsModel" "kind" "[I") (List.mem_of_getElem? (i := 2) rfl)) (fun _ h9 => h9) rfl dX6_lay_19 ?_
  refine lv_iload_n hx hb dX6_lay_22 rfl (lv_at hl 3 rfl) ?_
  have g9 := gd_1 hres
  have hres := gd_2 hres
  refine x_iald hx hb hK hP 2 rfl (j := (Int32.toNatClampNeg x1)) rfl g9 dX6_lay_23 ?_
  by_cases h10 : (c0_kind (Int32.toNatClampNeg x1)) = 113
  · have hres := ite_t hres h10
    refine lv_tableIn (off := 73) (tgt := 97) hx hb dX6_lay_24 (by rw [h10]; decide) (by rw [h10]; decide) (by rw [h10]; rfl) (by decide) ?_
    refine lv_aload_n hx hb dX6_lay_97 rfl (lv_at hl 2 rfl) ?_
    refine va_get (D := G) (ci := 6) (v := .ref A0_draft) (C := RX6) (T := TX6) (N := 22) hx hb hts (fun w h => (List.mem_cons_of_mem _ (List.mem_append_right _ h))) hown hK.1 hP 0 rfl rfl 1 (by decide) (hts (.fieldLink RX6 13 "EchoSeatsModel" "draft" "[I") (List.mem_of_getElem? (i := 3) rfl)) (fun _ h9 => h9) rfl dX6_lay_98 ?_
    refine lv_iconst (v := 2) hx hb dX6_lay_101 (by decide) ?_
    refine lv_iload_n hx hb dX6_lay_102 rfl (lv_at hl 1 rfl) ?_
    refine x_iast hx hb hK hP hD hS 3 rfl (j := 2) (by decide) (by decide) dX6_lay_103 (fun H locs hP hD hS => ?_)
    have hP : va_P G vwCl [o6 A0 c0 A0_s A0_draft A0_kept A0_isKept A0_undone A0_seenI A0_seenJ A0_seenTime A0_text A0_kind A0_place A0_value A0_swallows A0_time A0_strength A0_which A0_told, (A0_value, .inl (cI, 100, .inl c0_value)), (A0_kind, .inl (cI, 100, .inl c0_kind)), (A0_draft, .inl (cI, 27, .inl (upd c0_draft 2 y6)))] H := hP
    have hD : va_D A [o6 A0 c0 A0_s A0_draft A0_kept A0_isKept A0_undone A0_seenI A0_seenJ A0_seenTime A0_text A0_kind A0_place A0_value A0_swallows A0_time A0_strength A0_which A0_told, (A0_value, .inl (cI, 100, .inl c0_value)), (A0_kind, .inl (cI, 100, .inl c0_kind)), (A0_draft, .inl (cI, 27, .inl (upd c0_draft 2 y6)))] := hD
    refine lv_aload_n hx hb dX6_lay_104 rfl (lv_at hl 2 rfl) ?_
    refine va_get (D := G) (ci := 6) (v := .ref A0_draft) (C := RX6) (T := TX6) (N := 22) hx hb hts (fun w h => (List.mem_cons_of_mem _ (List.mem_append_right _ h))) hown hK.1 hP 0 rfl rfl 1 (by decide) (hts (.fieldLink RX6 13 "EchoSeatsModel" "draft" "[I") (List.mem_of_getElem? (i := 3) rfl)) (fun _ h9 => h9) rfl dX6_lay_105 ?_
    refine lv_iconst (v := 3) hx hb dX6_lay_108 (by decide) ?_
    refine lv_iload_n hx hb dX6_lay_109 rfl (lv_at hl 0 rfl) ?_
    refine x_iast hx hb hK hP hD hS 3 rfl (j := 3) (by decide) (by decide) dX6_lay_110 (fun H locs hP hD hS => ?_)
    have hP : va_P G vwCl [o6 A0 c0 A0_s A0_draft A0_kept A0_isKept A0_undone A0_seenI A0_seenJ A0_seenTime A0_text A0_kind A0_place A0_value A0_swallows A0_time A0_strength A0_which A0_told, (A0_value, .inl (cI, 100, .inl c0_value)), (A0_kind, .inl (cI, 100, .inl c0_kind)), (A0_draft, .inl (cI, 27, .inl (upd (upd c0_draft 2 y6) 3 y8)))] H := hP
    have hD : va_D A [o6 A0 c0 A0_s A0_draft A0_kept A0_isKept A0_undone A0_seenI A0_seenJ A0_seenTime A0_text A0_kind A0_place A0_value A0_swallows A0_time A0_strength A0_which A0_told, (A0_value, .inl (cI, 100, .inl c0_value)), (A0_kind, .inl (cI, 100, .inl c0_kind)), (A0_draft, .inl (cI, 27, .inl (upd (upd c0_draft 2 y6) 3 y8)))] := hD
    refine lv_goto (tgt := 226) hx hb dX6_lay_111 (by decide) ?_
    obtain rfl := Option.some.inj hres
    exact W.vret hx hb hr (fun t ht hW => ⟨⟨(), rfl, trivial, by rw [ht]; exact hP, hD⟩, hS.F ht⟩) hS.2.2 dX6_lay_226
  have hres := ite_f hres h10
  by_cases h11 : (c0_kind (Int32.toNatClampNeg x1)) = 114
  · have hres := ite_t hres h11
    refine lv_tableIn (off := 44) (tgt := 68) hx hb dX6_lay_24 (by rw [h11]; decide) (by rw [h11]; decide) (by rw [h11]; rfl) (by decide) ?_
    refine lv_aload_n hx hb dX6_lay_68 rfl (lv_at hl 2 rfl) ?_
    refine va_get (D := G) (ci := 6) (v := .ref A0_draft) (C := RX6) (T := TX6) (N := 22) hx hb hts (fun w h => (List.mem_cons_of_mem _ (List.mem_append_right _ h))) hown hK.1 hP 0 rfl rfl 1 (by decide) (hts (.fieldLink RX6 13 "EchoSeatsModel" "draft" "[I") (List.mem_of_getElem? (i := 3) rfl)) (fun _ h9 => h9) rfl dX6_lay_69 ?_
    refine lv_iconst (v := 0) hx hb dX6_lay_72 (by decide) ?_
    refine lv_iload_n hx hb dX6_lay_73 rfl (lv_at hl 1 rfl) ?_
    refine x_iast hx hb hK hP hD hS 3 rfl (j := 0) (by decide) (by decide) dX6_lay_74 (fun H locs hP hD hS => ?_)
    have hP : va_P G vwCl [o6 A0 c0 A0_s A0_draft A0_kept A0_isKept A0_undone A0_seenI A0_seenJ A0_seenTime A0_text A0_kind A0_place A0_value A0_swallows A0_time A0_strength A0_which A0_told, (A0_value, .inl (cI, 100, .inl c0_value)), (A0_kind, .inl (cI, 100, .inl c0_kind)), (A0_draft, .inl (cI, 27, .inl (upd c0_draft 0 y6)))] H := hP
    have hD : va_D A [o6 A0 c0 A0_s A0_draft A0_kept A0_isKept A0_undone A0_seenI A0_seenJ A0_seenTime A0_text A0_kind A0_place A0_value A0_swallows A0_time A0_strength A0_which A0_told, (A0_value, .inl (cI, 100, .inl c0_value)), (A0_kind, .inl (cI, 100, .inl c0_kind)), (A0_draft, .inl (cI, 27, .inl (upd c0_draft 0 y6)))] := hD
    refine lv_aload_n hx hb dX6_lay_75 rfl (lv_at hl 2 rfl) ?_
    refine va_get (D := G) (ci := 6) (v := .ref A0_draft) (C := RX6) (T := TX6) (N := 22) hx hb hts (fun w h => (List.mem_cons_of_mem _ (List.mem_append_right _ h))) hown hK.1 hP 0 rfl rfl 1 (by decide) (hts (.fieldLink RX6 13 "EchoSeatsModel" "draft" "[I") (List.mem_of_getElem? (i := 3) rfl)) (fun _ h9 => h9) rfl dX6_lay_76 ?_
    refine lv_iconst (v := 1) hx hb dX6_lay_79 (by decide) ?_
    refine lv_iload_n hx hb dX6_lay_80 rfl (lv_at hl 0 rfl) ?_
    refine x_iast hx hb hK hP hD hS 3 rfl (j := 1) (by decide) (by decide) dX6_lay_81 (fun H locs hP hD hS => ?_)
    have hP : va_P G vwCl [o6 A0 c0 A0_s A0_draft A0_kept A0_isKept A0_undone A0_seenI A0_seenJ A0_seenTime A0_text A0_kind A0_place A0_value A0_swallows A0_time A0_strength A0_which A0_told, (A0_value, .inl (cI, 100, .inl c0_value)), (A0_kind, .inl (cI, 100, .inl c0_kind)), (A0_draft, .inl (cI, 27, .inl (upd (upd c0_draft 0 y6) 1 y8)))] H := hP
    have hD : va_D A [o6 A0 c0 A0_s A0_draft A0_kept A0_isKept A0_undone A0_seenI A0_seenJ A0_seenTime A0_text A0_kind A0_place A0_value A0_swallows A0_time A0_strength A0_which A0_told, (A0_value, .inl (cI, 100, .inl c0_value)), (A0_kind, .inl (cI, 100, .inl c0_kind)), (A0_draft, .inl (cI, 27, .inl (upd (upd c0_draft 0 y6) 1 y8)))] := hD
    refine lv_goto (tgt := 226) hx hb dX6_lay_82 (by decide) ?_
    obtain rfl := Option.some.inj hres
    exact W.vret hx hb hr (fun t ht hW => ⟨⟨(), rfl, trivial, by rw [ht]; exact hP, hD⟩, hS.F ht⟩) hS.2.2 dX6_lay_226
  have hres := ite_f hres h11
  by_cases h12 : (c0_kind (Int32.toNatClampNeg x1)) = 115
  · have hres := ite_t hres h12
    refine lv_tableIn (off := 90) (tgt := 114) hx hb dX6_lay_24 (by rw [h12]; decide) (by rw [h12]; decide) (by rw [h12]; rfl) (by decide) ?_
    refine lv_aload_n hx hb dX6_lay_114 rfl (lv_at hl 2 rfl) ?_
    refine va_get (D := G) (ci := 6) (v := .ref A0_draft) (C := RX6) (T := TX6) (N := 22) hx hb hts (fun w h => (List.mem_cons_of_mem _ (List.mem_append_right _ h))) hown hK.1 hP 0 rfl rfl 1 (by decide) (hts (.fieldLink RX6 13 "EchoSeatsModel" "draft" "[I") (List.mem_of_getElem? (i := 3) rfl)) (fun _ h9 => h9) rfl dX6_lay_115 ?_
    refine lv_bipush (v := 9) hx hb dX6_lay_118 (by decide) ?_
    refine lv_aload_n hx hb dX6_lay_120 rfl (lv_at hl 2 rfl) ?_
    refine va_get (D := G) (ci := 6) (v := .ref A0_draft) (C := RX6) (T := TX6) (N := 22) hx hb hts (fun w h => (List.mem_cons_of_mem _ (List.mem_append_right _ h))) hown hK.1 hP 0 rfl rfl 1 (by decide) (hts (.fieldLink RX6 13 "EchoSeatsModel" "draft" "[I") (List.mem_of_getElem? (i := 3) rfl)) (fun _ h9 => h9) rfl dX6_lay_121 ?_
    refine lv_bipush (v := 8) hx hb dX6_lay_124 (by decide) ?_
    refine x_iald hx hb hK hP 3 rfl (j := 8) (by decide) (by decide) dX6_lay_126 ?_
    refine lv_iadd hx hb dX6_lay_127 ?_
    refine lv_iload_n hx hb dX6_lay_128 rfl (lv_at hl 1 rfl) ?_
    have g13 := gd_1 hres
    have hres := gd_2 hres
    refine x_iast hx hb hK hP hD hS 3 rfl (j := (Int32.toNatClampNeg (9 + (c0_draft 8)))) rfl g13 dX6_lay_129 (fun H locs hP hD hS => ?_)
    have hP : va_P G vwCl [o6 A0 c0 A0_s A0_draft A0_kept A0_isKept A0_undone A0_seenI A0_seenJ A0_seenTime A0_text A0_kind A0_place A0_value A0_swallows A0_time A0_strength A0_which A0_told, (A0_value, .inl (cI, 100, .inl c0_value)), (A0_kind, .inl (cI, 100, .inl c0_kind)), (A0_draft, .inl (cI, 27, .inl (upd c0_draft (Int32.toNatClampNeg (9 + (c0_draft 8))) y6)))] H := hP
    have hD : va_D A [o6 A0 c0 A0_s A0_draft A0_kept A0_isKept A0_undone A0_seenI A0_seenJ A0_seenTime A0_text A0_kind A0_place A0_value A0_swallows A0_time A0_strength A0_which A0_told, (A0_value, .inl (cI, 100, .inl c0_value)), (A0_kind, .inl (cI, 100, .inl c0_kind)), (A0_draft, .inl (cI, 27, .inl (upd c0_draft (Int32.toNatClampNeg (9 + (c0_draft 8))) y6)))] := hD
    refine lv_aload_n hx hb dX6_lay_130 rfl (lv_at hl 2 rfl) ?_
    refine va_get (D := G) (ci := 6) (v := .ref A0_draft) (C := RX6) (T := TX6) (N := 22) hx hb hts (fun w h => (List.mem_cons_of_mem _ (List.mem_append_right _ h))) hown hK.1 hP 0 rfl rfl 1 (by decide) (hts (.fieldLink RX6 13 "EchoSeatsModel" "draft" "[I") (List.mem_of_getElem? (i := 3) rfl)) (fun _ h9 => h9) rfl dX6_lay_131 ?_
    refine lv_bipush (v := 13) hx hb dX6_lay_134 (by decide) ?_
    refine lv_aload_n hx hb dX6_lay_136 rfl (lv_at hl 2 rfl) ?_
    refine va_get (D := G) (ci := 6) (v := .ref A0_draft) (C := RX6) (T := TX6) (N := 22) hx hb hts (fun w h => (List.mem_cons_of_mem _ (List.mem_append_right _ h))) hown hK.1 hP 0 rfl rfl 1 (by decide) (hts (.fieldLink RX6 13 "EchoSeatsModel" "draft" "[I") (List.mem_of_getElem? (i := 3) rfl)) (fun _ h9 => h9) rfl dX6_lay_137 ?_
    refine lv_bipush (v := 8) hx hb dX6_lay_140 (by decide) ?_
    refine x_iald hx hb hK hP 3 rfl (j := 8) (by decide) (by decide) dX6_lay_142 ?_
    refine lv_iadd hx hb dX6_lay_143 ?_
    refine lv_iload_n hx hb dX6_lay_144 rfl (lv_at hl 0 rfl) ?_
    have g14 := gd_1 hres
    have hres := gd_2 hres
    refine x_iast hx hb hK hP hD hS 3 rfl (j := (Int32.toNatClampNeg (13 + ((upd c0_draft (Int32.toNatClampNeg (9 + (c0_draft 8))) y6) 8)))) rfl g14 dX6_lay_145 (fun H locs hP hD hS => ?_)
    have hP : va_P G vwCl [o6 A0 c0 A0_s A0_draft A0_kept A0_isKept A0_undone A0_seenI A0_seenJ A0_seenTime A0_text A0_kind A0_place A0_value A0_swallows A0_time A0_strength A0_which A0_told, (A0_value, .inl (cI, 100, .inl c0_value)), (A0_kind, .inl (cI, 100, .inl c0_kind)), (A0_draft, .inl (cI, 27, .inl (upd (upd c0_draft (Int32.toNatClampNeg (9 + (c0_draft 8))) y6) (Int32.toNatClampNeg (13 + ((upd c0_draft (Int32.toNatClampNeg (9 + (c0_draft 8))) y6) 8))) y8)))] H := hP
    have hD : va_D A [o6 A0 c0 A0_s A0_draft A0_kept A0_isKept A0_undone A0_seenI A0_seenJ A0_seenTime A0_text A0_kind A0_place A0_value A0_swallows A0_time A0_strength A0_which A0_told, (A0_value, .inl (cI, 100, .inl c0_value)), (A0_kind, .inl (cI, 100, .inl c0_kind)), (A0_draft, .inl (cI, 27, .inl (upd (upd c0_draft (Int32.toNatClampNeg (9 + (c0_draft 8))) y6) (Int32.toNatClampNeg (13 + ((upd c0_draft (Int32.toNatClampNeg (9 + (c0_draft 8))) y6) 8))) y8)))] := hD
    refine lv_aload_n hx hb dX6_lay_146 rfl (lv_at hl 2 rfl) ?_
    refine va_get (D := G) (ci := 6) (v := .ref A0_draft) (C := RX6) (T := TX6) (N := 22) hx hb hts (fun w h => (List.mem_cons_of_mem _ (List.mem_append_right _ h))) hown hK.1 hP 0 rfl rfl 1 (by decide) (hts (.fieldLink RX6 13 "EchoSeatsModel" "draft" "[I") (List.mem_of_getElem? (i := 3) rfl)) (fun _ h9 => h9) rfl dX6_lay_147 ?_
    refine lv_bipush (v := 8) hx hb dX6_lay_150 (by decide) ?_
    refine lv_dup2_11 hx hb dX6_lay_152 rfl rfl ?_
    refine x_iald hx hb hK hP 3 rfl (j := 8) (by decide) (by decide) dX6_lay_153 ?_
    refine lv_iconst (v := 1) hx hb dX6_lay_154 (by decide) ?_
    refine lv_iadd hx hb dX6_lay_155 ?_
    refine x_iast hx hb hK hP hD hS 3 rfl (j := 8) (by decide) (by decide) dX6_lay_156 (fun H locs hP hD hS => ?_)
    have hP : va_P G vwCl [o6 A0 c0 A0_s A0_draft A0_kept A0_isKept A0_undone A0_seenI A0_seenJ A0_seenTime A0_text A0_kind A0_place A0_value A0_swallows A0_time A0_strength A0_which A0_told, (A0_value, .inl (cI, 100, .inl c0_value)), (A0_kind, .inl (cI, 100, .inl c0_kind)), (A0_draft, .inl (cI, 27, .inl (upd (upd (upd c0_draft (Int32.toNatClampNeg (9 + (c0_draft 8))) y6) (Int32.toNatClampNeg (13 + ((upd c0_draft (Int32.toNatClampNeg (9 + (c0_draft 8))) y6) 8))) y8) 8 (((upd (upd c0_draft (Int32.toNatClampNeg (9 + (c0_draft 8))) y6) (Int32.toNatClampNeg (13 + ((upd c0_draft (Int32.toNatClampNeg (9 + (c0_draft 8))) y6) 8))) y8) 8) + 1))))] H := hP
    have hD : va_D A [o6 A0 c0 A0_s A0_draft A0_kept A0_isKept A0_undone A0_seenI A0_seenJ A0_seenTime A0_text A0_kind A0_place A0_value A0_swallows A0_time A0_strength A0_which A0_told, (A0_value, .inl (cI, 100, .inl c0_value)), (A0_kind, .inl (cI, 100, .inl c0_kind)), (A0_draft, .inl (cI, 27, .inl (upd (upd (upd c0_draft (Int32.toNatClampNeg (9 + (c0_draft 8))) y6) (Int32.toNatClampNeg (13 + ((upd c0_draft (Int32.toNatClampNeg (9 + (c0_draft 8))) y6) 8))) y8) 8 (((upd (upd c0_draft (Int32.toNatClampNeg (9 + (c0_draft 8))) y6) (Int32.toNatClampNeg (13 + ((upd c0_draft (Int32.toNatClampNeg (9 + (c0_draft 8))) y6) 8))) y8) 8) + 1))))] := hD
    refine lv_goto (tgt := 226) hx hb dX6_lay_157 (by decide) ?_
    obtain rfl := Option.some.inj hres
    exact W.vret hx hb hr (fun t ht hW => ⟨⟨(), rfl, trivial, by rw [ht]; exact hP, hD⟩, hS.F ht⟩) hS.2.2 dX6_lay_226
  have hres := ite_f hres h12
  by_cases h15 : (c0_kind (Int32.toNatClampNeg x1)) = 116
  · have hres := ite_t hres h15
    refine lv_tableIn (off := 136) (tgt := 160) hx hb dX6_lay_24 (by rw [h15]; decide) (by rw [h15]; decide) (by rw [h15]; rfl) (by decide) ?_
    exact J160 x1 y6 y8 c0_draft _ _ _ hres hP hD hS (lv_sub hl [2, 3, 1, 0] rfl)
  have hres := ite_f hres h15
  by_cases h16 : (c0_kind (Int32.toNatClampNeg x1)) = 117
  · have hres := ite_t hres h16
    refine lv_tableIn (off := 136) (tgt := 160) hx hb dX6_lay_24 (by rw [h16]; decide) (by rw [h16]; decide) (by rw [h16]; rfl) (by decide) ?_
    exact J160 x1 y6 y8 c0_draft _ _ _ hres hP hD hS (lv_sub hl [2, 3, 1, 0] rfl)
  have hres := ite_f hres h16
  by_cases h17 : (c0_kind (Int32.toNatClampNeg x1)) = 118
  · have hres := ite_t hres h17
    refine lv_tableIn (off := 136) (tgt := 160) hx hb dX6_lay_24 (by rw [h17]; decide) (by rw [h17]; decide) (by rw [h17]; rfl) (by decide) ?_
    exact J160 x1 y6 y8 c0_draft _ _ _ hres hP hD hS (lv_sub hl [2, 3, 1, 0] rfl)
  have hres := ite_f hres h17
  by_cases h18 : (c0_kind (Int32.toNatClampNeg x1)) = 119
  · have hres := ite_t hres h18
    refine lv_tableIn (off := 61) (tgt := 85) hx hb dX6_lay_24 (by rw [h18]; decide) (by rw [h18]; decide) (by rw [h18]; rfl) (by decide) ?_
    refine lv_aload_n hx hb dX6_lay_85 rfl (lv_at hl 2 rfl) ?_
    refine va_get (D := G) (ci := 6) (v := .ref A0_draft) (C := RX6) (T := TX6) (N := 22) hx hb hts (fun w h => (List.mem_cons_of_mem _ (List.mem_append_right _ h))) hown hK.1 hP 0 rfl rfl 1 (by decide) (hts (.fieldLink RX6 13 "EchoSeatsModel" "draft" "[I") (List.mem_of_getElem? (i := 3) rfl)) (fun _ h9 => h9) rfl dX6_lay_86 ?_
    refine lv_iconst (v := 4) hx hb dX6_lay_89 (by decide) ?_
    refine lv_iload_n hx hb dX6_lay_90 rfl (lv_at hl 1 rfl) ?_
    refine lv_iadd hx hb dX6_lay_91 ?_
    refine lv_iload_n hx hb dX6_lay_92 rfl (lv_at hl 0 rfl) ?_
    have g19 := gd_1 hres
    have hres := gd_2 hres
    refine x_iast hx hb hK hP hD hS 3 rfl (j := (Int32.toNatClampNeg (4 + y6))) rfl g19 dX6_lay_93 (fun H locs hP hD hS => ?_)
    have hP : va_P G vwCl [o6 A0 c0 A0_s A0_draft A0_kept A0_isKept A0_undone A0_seenI A0_seenJ A0_seenTime A0_text A0_kind A0_place A0_value A0_swallows A0_time A0_strength A0_which A0_told, (A0_value, .inl (cI, 100, .inl c0_value)), (A0_kind, .inl (cI, 100, .inl c0_kind)), (A0_draft, .inl (cI, 27, .inl (upd c0_draft (Int32.toNatClampNeg (4 + y6)) y8)))] H := hP
    have hD : va_D A [o6 A0 c0 A0_s A0_draft A0_kept A0_isKept A0_undone A0_seenI A0_seenJ A0_seenTime A0_text A0_kind A0_place A0_value A0_swallows A0_time A0_strength A0_which A0_told, (A0_value, .inl (cI, 100, .inl c0_value)), (A0_kind, .inl (cI, 100, .inl c0_kind)), (A0_draft, .inl (cI, 27, .inl (upd c0_draft (Int32.toNatClampNeg (4 + y6)) y8)))] := hD
    refine lv_goto (tgt := 226) hx hb dX6_lay_94 (by decide) ?_
    obtain rfl := Option.some.inj hres
    exact W.vret hx hb hr (fun t ht hW => ⟨⟨(), rfl, trivial, by rw [ht]; exact hP, hD⟩, hS.F ht⟩) hS.2.2 dX6_lay_226
  have hres := ite_f hres h18
  refine lv_tableOut (tgt := 160) hx hb dX6_lay_24 (by have th10 := lv_neT h10 (a := 113) (by decide); have th11 := lv_neT h11 (a := 114) (by decide); have th12 := lv_neT h12 (a := 115) (by decide); have th15 := lv_neT h15 (a := 116) (by decide); have th16 := lv_neT h16 (a := 117) (by decide); have th17 := lv_neT h17 (a := 118) (by decide); have th18 := lv_neT h18 (a := 119) (by decide); omega) (by decide) ?_
  exact J160 x1 y6 y8 c0_draft _ _ _ hres hP hD hS (lv_sub hl [2, 3, 1, 0] rfl)
theorem hsX6_lay : yX6_lay.cls = RX6 ∧ yX6_lay.cls ≠ "java/lang/invoke/MethodHandle" ∧ yX6_lay.cls ≠ "java/lang/invoke/VarHandle" ∧ (parseMethodDescriptor yX6_lay.desc).map (fun d => d.parameters.length) = some 1 := by decide +kernel
set_option maxHeartbeats 4000000 in
set_option maxRecDepth 100000 in
theorem kX6_mayBe (l : Launch) (G : va_G) (cI cZ : ClassId) (tl : List (ClassId × FieldType)) (A0 A0_s A0_draft A0_kept A0_isKept A0_undone A0_seenI A0_seenJ A0_seenTime A0_text A0_kind A0_place A0_value A0_swallows A0_time A0_strength A0_which A0_told : Nat) (c0 c0_seenI c0_seenJ c0_s c0_seenTime : Nat → Int32) (x1 x2 : Int32) (res : Int32) (hres : fX6_mayBe c0 c0_seenI c0_seenJ c0_s c0_seenTime x1 x2 = some res) : Met l yX6_mayBe wsX6_mayBe rX6_mayBe (va_Pc [.ref A0, .int x1, .int x2] (PRO G cI cZ tl [o6 A0 c0 A0_s A0_draft A0_kept A0_isKept A0_undone A0_seenI A0_seenJ A0_seenTime A0_text A0_kind A0_place A0_value A0_swallows A0_time A0_strength A0_which A0_told, (A0_seenI, .inl (cI, 4, .inl c0_seenI)), (A0_seenJ, .inl (cI, 4, .inl c0_seenJ)), (A0_s, .inl (cI, 27, .inl c0_s)), (A0_seenTime, .inl (cI, 4, .inl c0_seenTime))])) (Sp res) 0 0 (fun _ => False) := by
  refine Met.ofW (cc := cX6_mayBe) (maxL := 5) (ret := (some .boolean)) (by decide) rfl ?_
  intro p e s m args below meth c s₁ B hml hv
  obtain ⟨rfl, hP, hK⟩ := hv
  have hx := B.exec
  have hb := B.bytes
  have hr := B.returns
  have hts := atoms_spec (ws := wsX6_mayBe) B.pre
  have hown : s.vm.findClass RX6 = some m.cls := findClass_of_methodNamed B.named
  have hlocks := B.notSynchronized
  have hl := lv_entry ([.ref A0, .int x1, .int x2] : List Value) (n := 5) (Nat.le_of_ble_eq_true rfl)
  rw [lg_entry_eq]
  generalize (lg_sl ([.ref A0, .int x1, .int x2] : List Value) ++ List.replicate (5 - (lg_sl ([.ref A0, .int x1, .int x2] : List Value)).length) Slot.unset).toArray = ls at hl ⊢
  have hl : lv_has ls 5 [(0, .ref A0), (1, .int x1), (2, .int x2)] := hl
  refine lv_iconst (v := 1) hx hb dX6_mayBe_0 (by decide) ?_
  refine lv_istore_n (lv' := [(3, .int 1), (0, .ref A0), (1, .int x1), (2, .int x2)]) hx hb dX6_mayBe_1 rfl hl (by decide) rfl (fun ls hl => ?_)
  refine lv_iconst (v := 0) hx hb dX6_mayBe_2 (by decide) ?_
  refine lv_istore (lv' := [(4, .int 0), (3, .int 1), (0, .ref A0), (1, .int x1), (2, .int x2)]) hx hb dX6_mayBe_3 hl (by decide) rfl (fun ls hl => ?_)
  have Q5 : ∀ (v1_L5 : Int32) (v2_L5 : Int32) (n5 : Nat) (v3_L5 : Int32) (v4_L5 : Int32) (ls : Array Slot), LPX (fX6_mayBe_L5 c0 c0_seenI c0_seenJ c0_s c0_seenTime v1_L5 v2_L5) n5 (v3_L5, v4_L5) = some res → lv_has ls 5 [(0, .ref A0), (1, .int v1_L5), (2, .int v2_L5), (3, .int v3_L5), (4, .int v4_L5)] → WRO p l e wsX6_mayBe rX6_mayBe s m ([.ref A0, .int x1, .int x2] : List Value).toArray below meth c res (F0 m 5 ls []) := by
    intro v1_L5 v2_L5 n5
    induction n5 with
    | zero =>
      intro v3_L5 v4_L5 ls hres
      exact absurd (LPX_0.symm.trans hres) (fun h => by cases h)
    | succ n5 ih5 =>
      intro v3_L5 v4_L5 ls hres hl
      have hres := LPX_s.symm.trans hres
      refine lv_iload hx hb dX6_mayBe_5 (lv_at hl 4 rfl) ?_
      refine lv_aload_n hx hb dX6_mayBe_7 rfl (lv_at hl 0 rfl) ?_
      refine va_get (D := G) (ci := 6) (v := .int (c0 9)) (C := RX6) (T := TX6) (N := 22) hx hb hts (fun w h => (List.mem_cons_of_mem _ (List.mem_append_right _ h))) hown hK.1 hP 0 rfl rfl 9 (by decide) (hts (.fieldLink RX6 72 "EchoSeatsModel" "seen" "I") (List.mem_of_getElem? (i := 1) rfl)) (fun _ h9 => h9) rfl dX6_mayBe_8 ?_
      refine lv_icmp_ge (tgt := 63) hx hb dX6_mayBe_11 (by decide) (fun h1 => ?_) (fun h1 => ?_)
      · have hres := ite_t hres h1
        refine lv_iload_n hx hb dX6_mayBe_63 rfl (lv_at hl 3 rfl) ?_
        have g2 := gd_1 hres
        have hres := gd_2 hres
        obtain rfl := Option.some.inj hres
        exact W.zret hx hb hr (by rcases g2 with h | h <;> rw [h] <;> rfl) (fun t ht hW => ⟨rfl, ht⟩) (fun q h => absurd h List.not_mem_nil) dX6_mayBe_64
      · have hres := ite_f hres h1
        refine lv_iload_n hx hb dX6_mayBe_14 rfl (lv_at hl 3 rfl) ?_
        refine lv_if_eq (tgt := 55) hx hb dX6_mayBe_15 (by decide) (fun h3 => ?_) (fun h3 => ?_)
        · have hres := ite_t hres h3
          refine lv_iconst (v := 0) hx hb dX6_mayBe_55 (by decide) ?_
          refine lv_istore_n (lv' := [(3, .int 0), (0, .ref A0), (1, .int v1_L5), (2, .int v2_L5), (4, .int v4_L5)]) hx hb dX6_mayBe_56 rfl hl (by decide) rfl (fun ls hl => ?_)
          refine lv_iinc (v := (v4_L5 + 1)) (lv' := [(4, .int (v4_L5 + 1)), (3, .int 0), (0, .ref A0), (1, .int v1_L5), (2, .int v2_L5)]) hx hb dX6_mayBe_57 hl (k := 4) rfl rfl (by decide) rfl (fun ls hl => ?_)
          refine lv_goto (tgt := 5) hx hb dX6_mayBe_60 (by decide) ?_
          exact ih5 0 (v4_L5 + 1) _ hres (lv_sub hl [2, 3, 4, 1, 0] rfl)
        · have hres := ite_f hres h3
          refine lv_aload_n hx hb dX6_mayBe_18 rfl (lv_at hl 0 rfl) ?_
          refine lv_aload_n hx hb dX6_mayBe_19 rfl (lv_at hl 0 rfl) ?_
          refine va_get (D := G) (ci := 6) (v := .ref A0_seenI) (C := RX6) (T := TX6) (N := 22) hx hb hts (fun w h => (List.mem_cons_of_mem _ (List.mem_append_right _ h))) hown hK.1 hP 0 rfl rfl 6 (by decide) (hts (.fieldLink RX6 26 "EchoSeatsModel" "seenI" "[I") (List.mem_of_getElem? (i := 2) rfl)) (fun _ h9 => h9) rfl dX6_mayBe_20 ?_
          refine lv_iload hx hb dX6_mayBe_23 (lv_at hl 4 rfl) ?_
          have g4 := gd_1 hres
          have hres := gd_2 hres
          refine x_iald hx hb hK hP 1 rfl (j := (Int32.toNatClampNeg v4_L5)) rfl g4 dX6_mayBe_25 ?_
          refine lv_aload_n hx hb dX6_mayBe_26 rfl (lv_at hl 0 rfl) ?_
          refine va_get (D := G) (ci := 6) (v := .ref A0_seenJ) (C := RX6) (T := TX6) (N := 22) hx hb hts (fun w h => (List.mem_cons_of_mem _ (List.mem_append_right _ h))) hown hK.1 hP 0 rfl rfl 7 (by decide) (hts (.fieldLink RX6 29 "EchoSeatsModel" "seenJ" "[I") (List.mem_of_getElem? (i := 3) rfl)) (fun _ h9 => h9) rfl dX6_mayBe_27 ?_
          refine lv_iload hx hb dX6_mayBe_30 (lv_at hl 4 rfl) ?_
          have g5 := gd_1 hres
          have hres := gd_2 hres
          refine x_iald hx hb hK hP 2 rfl (j := (Int32.toNatClampNeg v4_L5)) rfl g5 dX6_mayBe_32 ?_
          refine lv_iload_n hx hb dX6_mayBe_33 rfl (lv_at hl 1 rfl) ?_
          refine lv_iload_n hx hb dX6_mayBe_34 rfl (lv_at hl 2 rfl) ?_
          obtain ⟨r6, hr6, hres⟩ := bi_1 hres
          refine x_cp (va_runV (As := [.int (c0_seenI (Int32.toNatClampNeg v4_L5)), .int (c0_seenJ (Int32.toNatClampNeg v4_L5)), .int v1_L5, .int v2_L5]) (rest := []) ⟨hx, hb, hml, hown, hts⟩ (kX6_wayOf l G cI cZ tl A0 A0_s A0_draft A0_kept A0_isKept A0_undone A0_seenI A0_seenJ A0_seenTime A0_text A0_kind A0_place A0_value A0_swallows A0_time A0_strength A0_which A0_told c0 c0_s (c0_seenI (Int32.toNatClampNeg v4_L5)) (c0_seenJ (Int32.toNatClampNeg v4_L5)) v1_L5 v2_L5 r6 hr6) (cwV 4 hts gX6_mayBe_X6_wayOf rfl rfl rfl hsX6_wayOf ⟨Nat.le_of_ble_eq_true rfl, Nat.le_of_ble_eq_true rfl⟩) ⟨PRO_blind, va_recv hK.1 hP (ci := 6) (q0 := 0) rfl rfl, PRO_at (hP.sub (ws' := [o6 A0 c0 A0_s A0_draft A0_kept A0_isKept A0_undone A0_seenI A0_seenJ A0_seenTime A0_text A0_kind A0_place A0_value A0_swallows A0_time A0_strength A0_which A0_told, (A0_s, .inl (cI, 27, .inl c0_s))]) [0, 3] rfl) hK⟩ rfl rfl hl.1 rfl (lv_room (Nat.le_of_ble_eq_true rfl)) dX6_mayBe_35 ⟨Nat.zero_le _, Nat.zero_le _⟩) ?_
          obtain ⟨r7, hr7, hres⟩ := bi_1 hres
          refine x_cp (va_runS (As := [.int r6]) (rest := []) ⟨hx, hb, hml, hown, hts⟩ (kX6_timeOf l G cI cZ tl r6 r7 hr7) (va_cwS 1 hts gX6_mayBe_X6_timeOf rfl rfl rfl hsX6_timeOf ⟨Nat.le_of_ble_eq_true rfl, Nat.le_of_ble_eq_true rfl⟩) ⟨PRO_blind, PRO_at va_P0 hK⟩ rfl rfl hl.1 rfl (lv_room (Nat.le_of_ble_eq_true rfl)) dX6_mayBe_38 ⟨Nat.zero_le _, Nat.zero_le _⟩) ?_
          refine lv_aload_n hx hb dX6_mayBe_41 rfl (lv_at hl 0 rfl) ?_
          refine va_get (D := G) (ci := 6) (v := .ref A0_seenTime) (C := RX6) (T := TX6) (N := 22) hx hb hts (fun w h => (List.mem_cons_of_mem _ (List.mem_append_right _ h))) hown hK.1 hP 0 rfl rfl 8 (by decide) (hts (.fieldLink RX6 32 "EchoSeatsModel" "seenTime" "[I") (List.mem_of_getElem? (i := 4) rfl)) (fun _ h9 => h9) rfl dX6_mayBe_42 ?_
          refine lv_iload hx hb dX6_mayBe_45 (lv_at hl 4 rfl) ?_
          have g8 := gd_1 hres
          have hres := gd_2 hres
          refine x_iald hx hb hK hP 4 rfl (j := (Int32.toNatClampNeg v4_L5)) rfl g8 dX6_mayBe_47 ?_
          refine lv_icmp_ne (tgt := 55) hx hb dX6_mayBe_48 (by decide) (fun h9 => ?_) (fun h9 => ?_)
          · have hres := ite_f hres h9
            refine lv_iconst (v := 0) hx hb dX6_mayBe_55 (by decide) ?_
            refine lv_istore_n (lv' := [(3, .int 0), (0, .ref A0), (1, .int v1_L5), (2, .int v2_L5), (4, .int v4_L5)]) hx hb dX6_mayBe_56 rfl hl (by decide) rfl (fun ls hl => ?_)
            refine lv_iinc (v := (v4_L5 + 1)) (lv' := [(4, .int (v4_L5 + 1)), (3, .int 0), (0, .ref A0), (1, .int v1_L5), (2, .int v2_L5)]) hx hb dX6_mayBe_57 hl (k := 4) rfl rfl (by decide) rfl (fun ls hl => ?_)
            refine lv_goto (tgt := 5) hx hb dX6_mayBe_60 (by decide) ?_
            exact ih5 0 (v4_L5 + 1) _ hres (lv_sub hl [2, 3, 4, 1, 0] rfl)
          · have hres := ite_t hres h9
            refine lv_iconst (v := 1) hx hb dX6_mayBe_51 (by decide) ?_
            refine lv_goto (tgt := 56) hx hb dX6_mayBe_52 (by decide) ?_
            refine lv_istore_n (lv' := [(3, .int 1), (0, .ref A0), (1, .int v1_L5), (2, .int v2_L5), (4, .int v4_L5)]) hx hb dX6_mayBe_56 rfl hl (by decide) rfl (fun ls hl => ?_)
            refine lv_iinc (v := (v4_L5 + 1)) (lv' := [(4, .int (v4_L5 + 1)), (3, .int 1), (0, .ref A0), (1, .int v1_L5), (2, .int v2_L5)]) hx hb dX6_mayBe_57 hl (k := 4) rfl rfl (by decide) rfl (fun ls hl => ?_)
            refine lv_goto (tgt := 5) hx hb dX6_mayBe_60 (by decide) ?_
            exact ih5 1 (v4_L5 + 1) _ hres (lv_sub hl [2, 3, 4, 1, 0] rfl)
  exact Q5 x1 x2 FU 1 0 _ hres (lv_sub hl [2, 3, 4, 1, 0] rfl)
theorem hsX6_mayBe : yX6_mayBe.cls = RX6 ∧ yX6_mayBe.cls ≠ "java/lang/invoke/MethodHandle" ∧ yX6_mayBe.cls ≠ "java/lang/invoke/VarHandle" ∧ (parseMethodDescriptor yX6_mayBe.desc).map (fun d => d.parameters.length) = some 2 := by decide +kernel
set_option maxHeartbeats 4000000 in
set_option maxRecDepth 100000 in
theorem kX6_places (l : Launch) (G : va_G) (cI cZ : ClassId) (tl : List (ClassId × FieldType)) (A0 A0_s A0_draft A0_kept A0_isKept A0_undone A0_seenI A0_seenJ A0_seenTime A0_text A0_kind A0_place A0_value A0_swallows A0_time A0_strength A0_which A0_told : Nat) (c0 c0_s c0_seenI c0_seenJ c0_seenTime : Nat → Int32) (x1 : Int32) (res : Int32) (hres : fX6_places c0 c0_s c0_seenI c0_seenJ c0_seenTime x1 = some res) : Met l yX6_places wsX6_places rX6_places (va_Pc [.ref A0, .int x1] (PRO G cI cZ tl [o6 A0 c0 A0_s A0_draft A0_kept A0_isKept A0_undone A0_seenI A0_seenJ A0_seenTime A0_text A0_kind A0_place A0_value A0_swallows A0_time A0_strength A0_which A0_told, (A0_s, .inl (cI, 27, .inl c0_s)), (A0_seenI, .inl (cI, 4, .inl c0_seenI)), (A0_seenJ, .inl (cI, 4, .inl c0_seenJ)), (A0_seenTime, .inl (cI, 4, .inl c0_seenTime))])) (Sp res) 0 0 (fun _ => False) := by
  refine Met.ofW (cc := cX6_places) (maxL := 5) (ret := (some .int)) (by decide) rfl ?_
  intro p e s m args below meth c s₁ B hml hv
  obtain ⟨rfl, hP, hK⟩ := hv
  have hx := B.exec
  have hb := B.bytes
  have hr := B.returns
  have hts := atoms_spec (ws := wsX6_places) B.pre
  have hown : s.vm.findClass RX6 = some m.cls := findClass_of_methodNamed B.named
  have hlocks := B.notSynchronized
  have hl := lv_entry ([.ref A0, .int x1] : List Value) (n := 5) (Nat.le_of_ble_eq_true rfl)
  rw [lg_entry_eq]
  generalize (lg_sl ([.ref A0, .int x1] : List Value) ++ List.replicate (5 - (lg_sl ([.ref A0, .int x1] : List Value)).length) Slot.unset).toArray = ls at hl ⊢
  have hl : lv_has ls 5 [(0, .ref A0), (1, .int x1)] := hl
  refine lv_iconst (v := 0) hx hb dX6_places_0 (by decide) ?_
  refine lv_istore_n (lv' := [(2, .int 0), (0, .ref A0), (1, .int x1)]) hx hb dX6_places_1 rfl hl (by decide) rfl (fun ls hl => ?_)
  refine lv_iconst (v := 0) hx hb dX6_places_2 (by decide) ?_
  refine lv_istore_n (lv' := [(3, .int 0), (2, .int 0), (0, .ref A0), (1, .int x1)]) hx hb dX6_places_3 rfl hl (by decide) rfl (fun ls hl => ?_)
  have Q4 : ∀ (v1_L4 : Int32) (n4 : Nat) (v2_L4 : Int32) (v3_L4 : Int32) (ls : Array Slot), LPX (fX6_places_L4 c0 c0_s c0_seenI c0_seenJ c0_seenTime v1_L4) n4 (v2_L4, v3_L4) = some res → lv_has ls 5 [(0, .ref A0), (1, .int v1_L4), (2, .int v2_L4), (3, .int v3_L4)] → WRO p l e wsX6_places rX6_places s m ([.ref A0, .int x1] : List Value).toArray below meth c res (F0 m 4 ls []) := by
    intro v1_L4 n4
    induction n4 with
    | zero =>
      intro v2_L4 v3_L4 ls hres
      exact absurd (LPX_0.symm.trans hres) (fun h => by cases h)
    | succ n4 ih4 =>
      intro v2_L4 v3_L4 ls hres hl
      have hres := LPX_s.symm.trans hres
      refine lv_iload_n hx hb dX6_places_4 rfl (lv_at hl 3 rfl) ?_
      refine lv_aload_n hx hb dX6_places_5 rfl (lv_at hl 0 rfl) ?_
      refine va_get (D := G) (ci := 6) (v := .ref A0_s) (C := RX6) (T := TX6) (N := 22) hx hb hts (fun w h => (List.mem_cons_of_mem _ (List.mem_append_right _ h))) hown hK.1 hP 0 rfl rfl 0 (by decide) (hts (.fieldLink RX6 7 "EchoSeatsModel" "s" "[I") (List.mem_of_getElem? (i := 1) rfl)) (fun _ h9 => h9) rfl dX6_places_6 ?_
      refine lv_iconst (v := 0) hx hb dX6_places_9 (by decide) ?_
      refine x_iald hx hb hK hP 1 rfl (j := 0) (by decide) (by decide) dX6_places_10 ?_
      refine lv_icmp_gt (tgt := 65) hx hb dX6_places_11 (by decide) (fun h1 => ?_) (fun h1 => ?_)
      · have hres := ite_t hres h1
        refine lv_iload_n hx hb dX6_places_65 rfl (lv_at hl 1 rfl) ?_
        refine lv_if_eq (tgt := 74) hx hb dX6_places_66 (by decide) (fun h2 => ?_) (fun h2 => ?_)
        · have hres := ite_t hres h2
          refine lv_iload_n hx hb dX6_places_74 rfl (lv_at hl 2 rfl) ?_
          obtain rfl := Option.some.inj hres
          exact W.iret hx hb hr (fun t ht hW => ⟨rfl, ht⟩) (fun q h => absurd h List.not_mem_nil) dX6_places_75
        · have hres := ite_f hres h2
          refine lv_bipush (v := (-9)) hx hb dX6_places_69 (by decide) ?_
          refine lv_goto (tgt := 75) hx hb dX6_places_71 (by decide) ?_
          obtain rfl := Option.some.inj hres
          exact W.iret hx hb hr (fun t ht hW => ⟨rfl, ht⟩) (fun q h => absurd h List.not_mem_nil) dX6_places_75
      · have hres := ite_f hres h1
        refine lv_iconst (v := 0) hx hb dX6_places_14 (by decide) ?_
        refine lv_istore (lv' := [(4, .int 0), (0, .ref A0), (1, .int v1_L4), (2, .int v2_L4), (3, .int v3_L4)]) hx hb dX6_places_15 hl (by decide) rfl (fun ls hl => ?_)
        have Q17 : ∀ (v3_L17 : Int32) (n17 : Nat) (v2_L17 : Int32) (v4_L17 : Int32) (ls : Array Slot), LPX (fX6_places_L17 c0 c0_s c0_seenI c0_seenJ c0_seenTime v1_L4 v3_L17 (LPX (fX6_places_L4 c0 c0_s c0_seenI c0_seenJ c0_seenTime v1_L4) n4)) n17 (v2_L17, v4_L17) = some res → lv_has ls 5 [(0, .ref A0), (1, .int v1_L4), (2, .int v2_L17), (3, .int v3_L17), (4, .int v4_L17)] → WRO p l e wsX6_places rX6_places s m ([.ref A0, .int x1] : List Value).toArray below meth c res (F0 m 17 ls []) := by
          intro v3_L17 n17
          induction n17 with
          | zero =>
            intro v2_L17 v4_L17 ls hres
            exact absurd (LPX_0.symm.trans hres) (fun h => by cases h)
          | succ n17 ih17 =>
            intro v2_L17 v4_L17 ls hres hl
            have hres := LPX_s.symm.trans hres
            refine lv_iload hx hb dX6_places_17 (lv_at hl 4 rfl) ?_
            refine lv_aload_n hx hb dX6_places_19 rfl (lv_at hl 0 rfl) ?_
            refine va_get (D := G) (ci := 6) (v := .ref A0_s) (C := RX6) (T := TX6) (N := 22) hx hb hts (fun w h => (List.mem_cons_of_mem _ (List.mem_append_right _ h))) hown hK.1 hP 0 rfl rfl 0 (by decide) (hts (.fieldLink RX6 7 "EchoSeatsModel" "s" "[I") (List.mem_of_getElem? (i := 1) rfl)) (fun _ h9 => h9) rfl dX6_places_20 ?_
            refine lv_iconst (v := 1) hx hb dX6_places_23 (by decide) ?_
            refine x_iald hx hb hK hP 1 rfl (j := 1) (by decide) (by decide) dX6_places_24 ?_
            refine lv_icmp_gt (tgt := 59) hx hb dX6_places_25 (by decide) (fun h3 => ?_) (fun h3 => ?_)
            · have hres := ite_t hres h3
              refine lv_iinc (v := (v3_L17 + 1)) (lv' := [(3, .int (v3_L17 + 1)), (0, .ref A0), (1, .int v1_L4), (2, .int v2_L17), (4, .int v4_L17)]) hx hb dX6_places_59 hl (k := 3) rfl rfl (by decide) rfl (fun ls hl => ?_)
              refine lv_goto (tgt := 4) hx hb dX6_places_62 (by decide) ?_
              exact ih4 v2_L17 (v3_L17 + 1) _ hres (lv_sub hl [1, 2, 3, 0] rfl)
            · have hres := ite_f hres h3
              refine lv_aload_n hx hb dX6_places_28 rfl (lv_at hl 0 rfl) ?_
              refine lv_iload_n hx hb dX6_places_29 rfl (lv_at hl 3 rfl) ?_
              refine lv_iload hx hb dX6_places_30 (lv_at hl 4 rfl) ?_
              obtain ⟨r4, hr4, hres⟩ := bi_1 hres
              refine x_cp (va_runV (As := [.int v3_L17, .int v4_L17]) (rest := []) ⟨hx, hb, hml, hown, hts⟩ (kX6_mayBe l G cI cZ tl A0 A0_s A0_draft A0_kept A0_isKept A0_undone A0_seenI A0_seenJ A0_seenTime A0_text A0_kind A0_place A0_value A0_swallows A0_time A0_strength A0_which A0_told c0 c0_seenI c0_seenJ c0_s c0_seenTime v3_L17 v4_L17 r4 hr4) (cwV 2 hts gX6_places_X6_mayBe rfl rfl rfl hsX6_mayBe ⟨Nat.le_of_ble_eq_true rfl, Nat.le_of_ble_eq_true rfl⟩) ⟨PRO_blind, va_recv hK.1 hP (ci := 6) (q0 := 0) rfl rfl, PRO_at (hP.sub (ws' := [o6 A0 c0 A0_s A0_draft A0_kept A0_isKept A0_undone A0_seenI A0_seenJ A0_seenTime A0_text A0_kind A0_place A0_value A0_swallows A0_time A0_strength A0_which A0_told, (A0_seenI, .inl (cI, 4, .inl c0_seenI)), (A0_seenJ, .inl (cI, 4, .inl c0_seenJ)), (A0_s, .inl (cI, 27, .inl c0_s)), (A0_seenTime, .inl (cI, 4, .inl c0_seenTime))]) [0, 2, 3, 1, 4] rfl) hK⟩ rfl rfl hl.1 rfl (lv_room (Nat.le_of_ble_eq_true rfl)) dX6_places_32 ⟨Nat.zero_le _, Nat.zero_le _⟩) ?_
              refine lv_if_eq (tgt := 53) hx hb dX6_places_35 (by decide) (fun h5 => ?_) (fun h5 => ?_)
              · have hres := ite_t hres h5
                refine lv_iinc (v := (v4_L17 + 1)) (lv' := [(4, .int (v4_L17 + 1)), (0, .ref A0), (1, .int v1_L4), (2, .int v2_L17), (3, .int v3_L17)]) hx hb dX6_places_53 hl (k := 4) rfl rfl (by decide) rfl (fun ls hl => ?_)
                refine lv_goto (tgt := 17) hx hb dX6_places_56 (by decide) ?_
                exact ih17 v2_L17 (v4_L17 + 1) _ hres (lv_sub hl [1, 2, 3, 4, 0] rfl)
              · have hres := ite_f hres h5
                refine lv_iload_n hx hb dX6_places_38 rfl (lv_at hl 1 rfl) ?_
                refine lv_if_eq (tgt := 50) hx hb dX6_places_39 (by decide) (fun h6 => ?_) (fun h6 => ?_)
                · have hres := ite_t hres h6
                  refine lv_iinc (v := (v2_L17 + 1)) (lv' := [(2, .int (v2_L17 + 1)), (0, .ref A0), (1, .int v1_L4), (3, .int v3_L17), (4, .int v4_L17)]) hx hb dX6_places_50 hl (k := 2) rfl rfl (by decide) rfl (fun ls hl => ?_)
                  refine lv_iinc (v := (v4_L17 + 1)) (lv' := [(4, .int (v4_L17 + 1)), (2, .int (v2_L17 + 1)), (0, .ref A0), (1, .int v1_L4), (3, .int v3_L17)]) hx hb dX6_places_53 hl (k := 4) rfl rfl (by decide) rfl (fun ls hl => ?_)
                  refine lv_goto (tgt := 17) hx hb dX6_places_56 (by decide) ?_
                  exact ih17 (v2_L17 + 1) (v4_L17 + 1) _ hres (lv_sub hl [2, 3, 1, 4, 0] rfl)
                · have hres := ite_f hres h6
                  refine lv_bipush (v := 100) hx hb dX6_places_42 (by decide) ?_
                  refine lv_iload_n hx hb dX6_places_44 rfl (lv_at hl 3 rfl) ?_
                  refine lv_imul hx hb dX6_places_45 ?_
                  refine lv_iload hx hb dX6_places_46 (lv_at hl 4 rfl) ?_
                  refine lv_iadd hx hb dX6_places_48 ?_
                  obtain rfl := Option.some.inj hres
                  exact W.iret hx hb hr (fun t ht hW => ⟨rfl, ht⟩) (fun q h => absurd h List.not_mem_nil) dX6_places_49
        exact Q17 v3_L4 FU v2_L4 0 _ hres (lv_sub hl [1, 2, 3, 4, 0] rfl)
  exact Q4 x1 FU 0 0 _ hres (lv_sub hl [2, 3, 1, 0] rfl)
theorem hsX6_places : yX6_places.cls = RX6 ∧ yX6_places.cls ≠ "java/lang/invoke/MethodHandle" ∧ yX6_places.cls ≠ "java/lang/invoke/VarHandle" ∧ (parseMethodDescriptor yX6_places.desc).map (fun d => d.parameters.length) = some 1 := by decide +kernel
set_option maxHeartbeats 4000000 in
set_option maxRecDepth 100000 in
theorem kX6_unlike (l : Launch) (G : va_G) (cI cZ : ClassId) (tl : List (ClassId × FieldType)) (sz : Nat) (A : Nat → Prop) (A0 A0_s A0_draft A0_kept A0_isKept A0_undone A0_seenI A0_seenJ A0_seenTime A0_text A0_kind A0_place A0_value A0_swallows A0_time A0_strength A0_which A0_told : Nat) (c0 c0_told c0_s c0_seenI c0_seenJ c0_seenTime : Nat → Int32) (x1 x2 : Int32) (res : Int32 × (Nat → Int32)) (hAe : A = va_A [o6 A0 c0 A0_s A0_draft A0_kept A0_isKept A0_undone A0_seenI A0_seenJ A0_seenTime A0_text A0_kind A0_place A0_value A0_swallows A0_time A0_strength A0_which A0_told, (A0_told, .inl (cZ, 2000, .inl c0_told)), (A0_s, .inl (cI, 27, .inl c0_s)), (A0_seenI, .inl (cI, 4, .inl c0_seenI)), (A0_seenJ, .inl (cI, 4, .inl c0_seenJ)), (A0_seenTime, .inl (cI, 4, .inl c0_seenTime))] sz) (hres : fX6_unlike c0 c0_told c0_s c0_seenI c0_seenJ c0_seenTime x1 x2 = some res) : Met l yX6_unlike wsX6_unlike rX6_unlike (va_Pc [.ref A0, .int x1, .int x2] (PRW G cI cZ tl [o6 A0 c0 A0_s A0_draft A0_kept A0_isKept A0_undone A0_seenI A0_seenJ A0_seenTime A0_text A0_kind A0_place A0_value A0_swallows A0_time A0_strength A0_which A0_told, (A0_told, .inl (cZ, 2000, .inl c0_told)), (A0_s, .inl (cI, 27, .inl c0_s)), (A0_seenI, .inl (cI, 4, .inl c0_seenI)), (A0_seenJ, .inl (cI, 4, .inl c0_seenJ)), (A0_seenTime, .inl (cI, 4, .inl c0_seenTime))] sz)) (Qiw res.1 G A [o6 A0 c0 A0_s A0_draft A0_kept A0_isKept A0_undone A0_seenI A0_seenJ A0_seenTime A0_text A0_kind A0_place A0_value A0_swallows A0_time A0_strength A0_which A0_told, (A0_told, .inl (cZ, 2000, .inl res.2)), (A0_s, .inl (cI, 27, .inl c0_s)), (A0_seenI, .inl (cI, 4, .inl c0_seenI)), (A0_seenJ, .inl (cI, 4, .inl c0_seenJ)), (A0_seenTime, .inl (cI, 4, .inl c0_seenTime))]) 0 0 A := by
  refine Met.ofW (cc := cX6_unlike) (maxL := 7) (ret := (some .int)) (by decide) rfl ?_
  intro p e s m args below meth c s₁ B hml hv
  obtain ⟨rfl, hsz, hP, hK, hD0⟩ := hv
  have hx := B.exec
  have hb := B.bytes
  have hr := B.returns
  have hts := atoms_spec (ws := wsX6_unlike) B.pre
  have hown : s.vm.findClass RX6 = some m.cls := findClass_of_methodNamed B.named
  have hlocks := B.notSynchronized
  subst hsz
  have hD : va_D A [o6 A0 c0 A0_s A0_draft A0_kept A0_isKept A0_undone A0_seenI A0_seenJ A0_seenTime A0_text A0_kind A0_place A0_value A0_swallows A0_time A0_strength A0_which A0_told, (A0_told, .inl (cZ, 2000, .inl c0_told)), (A0_s, .inl (cI, 27, .inl c0_s)), (A0_seenI, .inl (cI, 4, .inl c0_seenI)), (A0_seenJ, .inl (cI, 4, .inl c0_seenJ)), (A0_seenTime, .inl (cI, 4, .inl c0_seenTime))] := by rw [hAe]; exact hD0.self
  have hA : ∀ q : Nat, s.heap.size ≤ q → A q := fun q h => by rw [hAe]; exact Or.inr h
  clear hAe hD0
  have hS : va_S A s.heap s.heap [] := va_S.rf
  have hl := lv_entry ([.ref A0, .int x1, .int x2] : List Value) (n := 7) (Nat.le_of_ble_eq_true rfl)
  rw [lg_entry_eq]
  generalize (lg_sl ([.ref A0, .int x1, .int x2] : List Value) ++ List.replicate (7 - (lg_sl ([.ref A0, .int x1, .int x2] : List Value)).length) Slot.unset).toArray = ls at hl ⊢
  have hl : lv_has ls 7 [(0, .ref A0), (1, .int x1), (2, .int x2)] := hl
  refine lv_iconst (v := 0) hx hb dX6_unlike_0 (by decide) ?_
  refine lv_istore_n (lv' := [(3, .int 0), (0, .ref A0), (1, .int x1), (2, .int x2)]) hx hb dX6_unlike_1 rfl hl (by decide) rfl (fun ls hl => ?_)
  have Q2 : ∀ (v1_L2 : Int32) (v2_L2 : Int32) (n2 : Nat) (v3_L2 : Int32) (e0_told_L2 : (Nat → Int32)) (H : Heap) (locs : List Loc) (ls : Array Slot), LPX (fX6_unlike_L2 c0 c0_s c0_seenI c0_seenJ c0_seenTime v1_L2 v2_L2) n2 (v3_L2, e0_told_L2) = some res → va_P G vwCl [o6 A0 c0 A0_s A0_draft A0_kept A0_isKept A0_undone A0_seenI A0_seenJ A0_seenTime A0_text A0_kind A0_place A0_value A0_swallows A0_time A0_strength A0_which A0_told, (A0_told, .inl (cZ, 2000, .inl e0_told_L2)), (A0_s, .inl (cI, 27, .inl c0_s)), (A0_seenI, .inl (cI, 4, .inl c0_seenI)), (A0_seenJ, .inl (cI, 4, .inl c0_seenJ)), (A0_seenTime, .inl (cI, 4, .inl c0_seenTime))] H → va_D A [o6 A0 c0 A0_s A0_draft A0_kept A0_isKept A0_undone A0_seenI A0_seenJ A0_seenTime A0_text A0_kind A0_place A0_value A0_swallows A0_time A0_strength A0_which A0_told, (A0_told, .inl (cZ, 2000, .inl e0_told_L2)), (A0_s, .inl (cI, 27, .inl c0_s)), (A0_seenI, .inl (cI, 4, .inl c0_seenI)), (A0_seenJ, .inl (cI, 4, .inl c0_seenJ)), (A0_seenTime, .inl (cI, 4, .inl c0_seenTime))] → va_S A s.heap H locs → lv_has ls 7 [(0, .ref A0), (1, .int v1_L2), (2, .int v2_L2), (3, .int v3_L2)] → WRW p l e wsX6_unlike rX6_unlike s m ([.ref A0, .int x1, .int x2] : List Value).toArray below meth c H locs (Qiw res.1 G A [o6 A0 c0 A0_s A0_draft A0_kept A0_isKept A0_undone A0_seenI A0_seenJ A0_seenTime A0_text A0_kind A0_place A0_value A0_swallows A0_time A0_strength A0_which A0_told, (A0_told, .inl (cZ, 2000, .inl res.2)), (A0_s, .inl (cI, 27, .inl c0_s)), (A0_seenI, .inl (cI, 4, .inl c0_seenI)), (A0_seenJ, .inl (cI, 4, .inl c0_seenJ)), (A0_seenTime, .inl (cI, 4, .inl c0_seenTime))]) A (F0 m 2 ls []) := by
    intro v1_L2 v2_L2 n2
    induction n2 with
    | zero =>
      intro v3_L2 e0_told_L2 H locs ls hres
      exact absurd (LPX_0.symm.trans hres) (fun h => by cases h)
    | succ n2 ih2 =>
      intro v3_L2 e0_told_L2 H locs ls hres hP hD hS hl
      have hres := LPX_s.symm.trans hres
      refine lv_iload_n hx hb dX6_unlike_2 rfl (lv_at hl 3 rfl) ?_
      refine lv_sipush (v := 2000) hx hb dX6_unlike_3 (by decide) ?_
      refine lv_icmp_ge (tgt := 22) hx hb dX6_unlike_6 (by decide) (fun h1 => ?_) (fun h1 => ?_)
      · have hres := ite_t hres h1
        refine lv_iconst (v := 0) hx hb dX6_unlike_22 (by decide) ?_
        refine lv_istore_n (lv' := [(3, .int 0), (0, .ref A0), (1, .int v1_L2), (2, .int v2_L2)]) hx hb dX6_unlike_23 rfl hl (by decide) rfl (fun ls hl => ?_)
        refine lv_iconst (v := 0) hx hb dX6_unlike_24 (by decide) ?_
        refine lv_istore (lv' := [(4, .int 0), (3, .int 0), (0, .ref A0), (1, .int v1_L2), (2, .int v2_L2)]) hx hb dX6_unlike_25 hl (by decide) rfl (fun ls hl => ?_)
        have Q27 : ∀ (v1_L27 : Int32) (v2_L27 : Int32) (n27 : Nat) (v3_L27 : Int32) (v4_L27 : Int32) (e0_told_L27 : (Nat → Int32)) (H : Heap) (locs : List Loc) (ls : Array Slot), LPX (fX6_unlike_L27 c0 c0_s c0_seenI c0_seenJ c0_seenTime v1_L27 v2_L27 (LPX (fX6_unlike_L2 c0 c0_s c0_seenI c0_seenJ c0_seenTime v1_L2 v2_L2) n2)) n27 (v3_L27, v4_L27, e0_told_L27) = some res → va_P G vwCl [o6 A0 c0 A0_s A0_draft A0_kept A0_isKept A0_undone A0_seenI A0_seenJ A0_seenTime A0_text A0_kind A0_place A0_value A0_swallows A0_time A0_strength A0_which A0_told, (A0_told, .inl (cZ, 2000, .inl e0_told_L27)), (A0_s, .inl (cI, 27, .inl c0_s)), (A0_seenI, .inl (cI, 4, .inl c0_seenI)), (A0_seenJ, .inl (cI, 4, .inl c0_seenJ)), (A0_seenTime, .inl (cI, 4, .inl c0_seenTime))] H → va_D A [o6 A0 c0 A0_s A0_draft A0_kept A0_isKept A0_undone A0_seenI A0_seenJ A0_seenTime A0_text A0_kind A0_place A0_value A0_swallows A0_time A0_strength A0_which A0_told, (A0_told, .inl (cZ, 2000, .inl e0_told_L27)), (A0_s, .inl (cI, 27, .inl c0_s)), (A0_seenI, .inl (cI, 4, .inl c0_seenI)), (A0_seenJ, .inl (cI, 4, .inl c0_seenJ)), (A0_seenTime, .inl (cI, 4, .inl c0_seenTime))] → va_S A s.heap H locs → lv_has ls 7 [(0, .ref A0), (1, .int v1_L27), (2, .int v2_L27), (3, .int v3_L27), (4, .int v4_L27)] → WRW p l e wsX6_unlike rX6_unlike s m ([.ref A0, .int x1, .int x2] : List Value).toArray below meth c H locs (Qiw res.1 G A [o6 A0 c0 A0_s A0_draft A0_kept A0_isKept A0_undone A0_seenI A0_seenJ A0_seenTime A0_text A0_kind A0_place A0_value A0_swallows A0_time A0_strength A0_which A0_told, (A0_told, .inl (cZ, 2000, .inl res.2)), (A0_s, .inl (cI, 27, .inl c0_s)), (A0_seenI, .inl (cI, 4, .inl c0_seenI)), (A0_seenJ, .inl (cI, 4, .inl c0_seenJ)), (A0_seenTime, .inl (cI, 4, .inl c0_seenTime))]) A (F0 m 27 ls []) := by
          intro v1_L27 v2_L27 n27
          induction n27 with
          | zero =>
            intro v3_L27 v4_L27 e0_told_L27 H locs ls hres
            exact absurd (LPX_0.symm.trans hres) (fun h => by cases h)
          | succ n27 ih27 =>
            intro v3_L27 v4_L27 e0_told_L27 H locs ls hres hP hD hS hl
            have hres := LPX_s.symm.trans hres
            refine lv_iload hx hb dX6_unlike_27 (lv_at hl 4 rfl) ?_
            refine lv_aload_n hx hb dX6_unlike_29 rfl (lv_at hl 0 rfl) ?_
            refine va_get (D := G) (ci := 6) (v := .ref A0_s) (C := RX6) (T := TX6) (N := 22) hx hb hts (fun w h => (List.mem_cons_of_mem _ (List.mem_append_right _ h))) hown hK.1 hP 0 rfl rfl 0 (by decide) (hts (.fieldLink RX6 7 "EchoSeatsModel" "s" "[I") (List.mem_of_getElem? (i := 2) rfl)) (fun _ h9 => h9) rfl dX6_unlike_30 ?_
            refine lv_iconst (v := 0) hx hb dX6_unlike_33 (by decide) ?_
            refine x_iald hx hb hK hP 2 rfl (j := 0) (by decide) (by decide) dX6_unlike_34 ?_
            refine lv_icmp_gt (tgt := 116) hx hb dX6_unlike_35 (by decide) (fun h2 => ?_) (fun h2 => ?_)
            · have hres := ite_t hres h2
              refine lv_iload_n hx hb dX6_unlike_116 rfl (lv_at hl 3 rfl) ?_
              obtain rfl := Option.some.inj hres
              exact W.iret hx hb hr (fun t ht hW => ⟨⟨_, (), rfl, rfl, by rw [ht]; exact hP, hD⟩, hS.F ht⟩) hS.2.2 dX6_unlike_117
            · have hres := ite_f hres h2
              refine lv_iconst (v := 0) hx hb dX6_unlike_38 (by decide) ?_
              refine lv_istore (lv' := [(5, .int 0), (0, .ref A0), (1, .int v1_L27), (2, .int v2_L27), (3, .int v3_L27), (4, .int v4_L27)]) hx hb dX6_unlike_39 hl (by decide) rfl (fun ls hl => ?_)
              have Q41 : ∀ (v4_L41 : Int32) (n41 : Nat) (v3_L41 : Int32) (v5_L41 : Int32) (e0_told_L41 : (Nat → Int32)) (H : Heap) (locs : List Loc) (ls : Array Slot), LPX (fX6_unlike_L41 c0 c0_s c0_seenI c0_seenJ c0_seenTime v1_L27 v2_L27 v4_L41 (LPX (fX6_unlike_L2 c0 c0_s c0_seenI c0_seenJ c0_seenTime v1_L2 v2_L2) n2) (LPX (fX6_unlike_L27 c0 c0_s c0_seenI c0_seenJ c0_seenTime v1_L27 v2_L27 (LPX (fX6_unlike_L2 c0 c0_s c0_seenI c0_seenJ c0_seenTime v1_L2 v2_L2) n2)) n27)) n41 (v3_L41, v5_L41, e0_told_L41) = some res → va_P G vwCl [o6 A0 c0 A0_s A0_draft A0_kept A0_isKept A0_undone A0_seenI A0_seenJ A0_seenTime A0_text A0_kind A0_place A0_value A0_swallows A0_time A0_strength A0_which A0_told, (A0_told, .inl (cZ, 2000, .inl e0_told_L41)), (A0_s, .inl (cI, 27, .inl c0_s)), (A0_seenI, .inl (cI, 4, .inl c0_seenI)), (A0_seenJ, .inl (cI, 4, .inl c0_seenJ)), (A0_seenTime, .inl (cI, 4, .inl c0_seenTime))] H → va_D A [o6 A0 c0 A0_s A0_draft A0_kept A0_isKept A0_undone A0_seenI A0_seenJ A0_seenTime A0_text A0_kind A0_place A0_value A0_swallows A0_time A0_strength A0_which A0_told, (A0_told, .inl (cZ, 2000, .inl e0_told_L41)), (A0_s, .inl (cI, 27, .inl c0_s)), (A0_seenI, .inl (cI, 4, .inl c0_seenI)), (A0_seenJ, .inl (cI, 4, .inl c0_seenJ)), (A0_seenTime, .inl (cI, 4, .inl c0_seenTime))] → va_S A s.heap H locs → lv_has ls 7 [(0, .ref A0), (1, .int v1_L27), (2, .int v2_L27), (3, .int v3_L41), (4, .int v4_L41), (5, .int v5_L41)] → WRW p l e wsX6_unlike rX6_unlike s m ([.ref A0, .int x1, .int x2] : List Value).toArray below meth c H locs (Qiw res.1 G A [o6 A0 c0 A0_s A0_draft A0_kept A0_isKept A0_undone A0_seenI A0_seenJ A0_seenTime A0_text A0_kind A0_place A0_value A0_swallows A0_time A0_strength A0_which A0_told, (A0_told, .inl (cZ, 2000, .inl res.2)), (A0_s, .inl (cI, 27, .inl c0_s)), (A0_seenI, .inl (cI, 4, .inl c0_seenI)), (A0_seenJ, .inl (cI, 4, .inl c0_seenJ)), (A0_seenTime, .inl (cI, 4, .inl c0_seenTime))]) A (F0 m 41 ls []) := by
                intro v4_L41 n41
                induction n41 with
                | zero =>
                  intro v3_L41 v5_L41 e0_told_L41 H locs ls hres
                  exact absurd (LPX_0.symm.trans hres) (fun h => by cases h)
                | succ n41 ih41 =>
                  intro v3_L41 v5_L41 e0_told_L41 H locs ls hres hP hD hS hl
                  have hres := LPX_s.symm.trans hres
                  refine lv_iload hx hb dX6_unlike_41 (lv_at hl 5 rfl) ?_
                  refine lv_aload_n hx hb dX6_unlike_43 rfl (lv_at hl 0 rfl) ?_
                  refine va_get (D := G) (ci := 6) (v := .ref A0_s) (C := RX6) (T := TX6) (N := 22) hx hb hts (fun w h => (List.mem_cons_of_mem _ (List.mem_append_right _ h))) hown hK.1 hP 0 rfl rfl 0 (by decide) (hts (.fieldLink RX6 7 "EchoSeatsModel" "s" "[I") (List.mem_of_getElem? (i := 2) rfl)) (fun _ h9 => h9) rfl dX6_unlike_44 ?_
                  refine lv_iconst (v := 1) hx hb dX6_unlike_47 (by decide) ?_
                  refine x_iald hx hb hK hP 2 rfl (j := 1) (by decide) (by decide) dX6_unlike_48 ?_
                  refine lv_icmp_gt (tgt := 110) hx hb dX6_unlike_49 (by decide) (fun h3 => ?_) (fun h3 => ?_)
                  · have hres := ite_t hres h3
                    refine lv_iinc (v := (v4_L41 + 1)) (lv' := [(4, .int (v4_L41 + 1)), (0, .ref A0), (1, .int v1_L27), (2, .int v2_L27), (3, .int v3_L41), (5, .int v5_L41)]) hx hb dX6_unlike_110 hl (k := 4) rfl rfl (by decide) rfl (fun ls hl => ?_)
                    refine lv_goto (tgt := 27) hx hb dX6_unlike_113 (by decide) ?_
                    exact ih27 v3_L41 (v4_L41 + 1) e0_told_L41 _ _ _ hres hP hD hS (lv_sub hl [1, 2, 3, 4, 0] rfl)
                  · have hres := ite_f hres h3
                    refine lv_aload_n hx hb dX6_unlike_52 rfl (lv_at hl 0 rfl) ?_
                    refine lv_iload hx hb dX6_unlike_53 (lv_at hl 4 rfl) ?_
                    refine lv_iload hx hb dX6_unlike_55 (lv_at hl 5 rfl) ?_
                    obtain ⟨r4, hr4, hres⟩ := bi_1 hres
                    refine x_cp (va_runV (As := [.int v4_L41, .int v5_L41]) (rest := []) ⟨hx, hb, hml, hown, hts⟩ (kX6_mayBe l G cI cZ tl A0 A0_s A0_draft A0_kept A0_isKept A0_undone A0_seenI A0_seenJ A0_seenTime A0_text A0_kind A0_place A0_value A0_swallows A0_time A0_strength A0_which A0_told c0 c0_seenI c0_seenJ c0_s c0_seenTime v4_L41 v5_L41 r4 hr4) (cwV 2 hts gX6_unlike_X6_mayBe rfl rfl rfl hsX6_mayBe ⟨Nat.le_of_ble_eq_true rfl, Nat.le_of_ble_eq_true rfl⟩) ⟨PRO_blind, va_recv hK.1 hP (ci := 6) (q0 := 0) rfl rfl, PRO_at (hP.sub (ws' := [o6 A0 c0 A0_s A0_draft A0_kept A0_isKept A0_undone A0_seenI A0_seenJ A0_seenTime A0_text A0_kind A0_place A0_value A0_swallows A0_time A0_strength A0_which A0_told, (A0_seenI, .inl (cI, 4, .inl c0_seenI)), (A0_seenJ, .inl (cI, 4, .inl c0_seenJ)), (A0_s, .inl (cI, 27, .inl c0_s)), (A0_seenTime, .inl (cI, 4, .inl c0_seenTime))]) [0, 3, 4, 2, 5] rfl) hK⟩ rfl rfl hl.1 rfl (lv_room (Nat.le_of_ble_eq_true rfl)) dX6_unlike_57 ⟨Nat.zero_le _, Nat.zero_le _⟩) ?_
                    refine lv_if_eq (tgt := 104) hx hb dX6_unlike_60 (by decide) (fun h5 => ?_) (fun h5 => ?_)
                    · have hres := ite_t hres h5
                      refine lv_iinc (v := (v5_L41 + 1)) (lv' := [(5, .int (v5_L41 + 1)), (0, .ref A0), (1, .int v1_L27), (2, .int v2_L27), (3, .int v3_L41), (4, .int v4_L41)]) hx hb dX6_unlike_104 hl (k := 5) rfl rfl (by decide) rfl (fun ls hl => ?_)
                      refine lv_goto (tgt := 41) hx hb dX6_unlike_107 (by decide) ?_
                      exact ih41 v3_L41 (v5_L41 + 1) e0_told_L41 _ _ _ hres hP hD hS (lv_sub hl [1, 2, 3, 4, 5, 0] rfl)
                    · have hres := ite_f hres h5
                      refine lv_aload_n hx hb dX6_unlike_63 rfl (lv_at hl 0 rfl) ?_
                      refine lv_iload_n hx hb dX6_unlike_64 rfl (lv_at hl 1 rfl) ?_
                      refine lv_iload_n hx hb dX6_unlike_65 rfl (lv_at hl 2 rfl) ?_
                      refine lv_iload hx hb dX6_unlike_66 (lv_at hl 4 rfl) ?_
                      refine lv_iload hx hb dX6_unlike_68 (lv_at hl 5 rfl) ?_
                      obtain ⟨r6, hr6, hres⟩ := bi_1 hres
                      refine x_cp (va_runV (As := [.int v1_L27, .int v2_L27, .int v4_L41, .int v5_L41]) (rest := []) ⟨hx, hb, hml, hown, hts⟩ (kX6_wayOf l G cI cZ tl A0 A0_s A0_draft A0_kept A0_isKept A0_undone A0_seenI A0_seenJ A0_seenTime A0_text A0_kind A0_place A0_value A0_swallows A0_time A0_strength A0_which A0_told c0 c0_s v1_L27 v2_L27 v4_L41 v5_L41 r6 hr6) (cwV 4 hts gX6_unlike_X6_wayOf rfl rfl rfl hsX6_wayOf ⟨Nat.le_of_ble_eq_true rfl, Nat.le_of_ble_eq_true rfl⟩) ⟨PRO_blind, va_recv hK.1 hP (ci := 6) (q0 := 0) rfl rfl, PRO_at (hP.sub (ws' := [o6 A0 c0 A0_s A0_draft A0_kept A0_isKept A0_undone A0_seenI A0_seenJ A0_seenTime A0_text A0_kind A0_place A0_value A0_swallows A0_time A0_strength A0_which A0_told, (A0_s, .inl (cI, 27, .inl c0_s))]) [0, 2] rfl) hK⟩ rfl rfl hl.1 rfl (lv_room (Nat.le_of_ble_eq_true rfl)) dX6_unlike_70 ⟨Nat.zero_le _, Nat.zero_le _⟩) ?_
                      obtain ⟨r7, hr7, hres⟩ := bi_1 hres
                      refine x_cp (va_runS (As := [.int r6]) (rest := []) ⟨hx, hb, hml, hown, hts⟩ (kX6_timeOf l G cI cZ tl r6 r7 hr7) (va_cwS 1 hts gX6_unlike_X6_timeOf rfl rfl rfl hsX6_timeOf ⟨Nat.le_of_ble_eq_true rfl, Nat.le_of_ble_eq_true rfl⟩) ⟨PRO_blind, PRO_at va_P0 hK⟩ rfl rfl hl.1 rfl (lv_room (Nat.le_of_ble_eq_true rfl)) dX6_unlike_73 ⟨Nat.zero_le _, Nat.zero_le _⟩) ?_
                      refine lv_istore (lv' := [(6, .int r7), (0, .ref A0), (1, .int v1_L27), (2, .int v2_L27), (3, .int v3_L41), (4, .int v4_L41), (5, .int v5_L41)]) hx hb dX6_unlike_76 hl (by decide) rfl (fun ls hl => ?_)
                      refine lv_iload_n hx hb dX6_unlike_78 rfl (lv_at hl 4 rfl) ?_
                      refine lv_aload_n hx hb dX6_unlike_79 rfl (lv_at hl 1 rfl) ?_
                      refine va_get (D := G) (ci := 6) (v := .ref A0_told) (C := RX6) (T := TX6) (N := 22) hx hb hts (fun w h => (List.mem_cons_of_mem _ (List.mem_append_right _ h))) hown hK.1 hP 0 rfl rfl 21 (by decide) (hts (.fieldLink RX6 59 "EchoSeatsModel" "told" "[Z") (List.mem_of_getElem? (i := 1) rfl)) (fun _ h9 => h9) rfl dX6_unlike_80 ?_
                      refine lv_iload hx hb dX6_unlike_83 (lv_at hl 0 rfl) ?_
                      have g8 := gd_1 hres
                      have hres := gd_2 hres
                      refine x_zald hx hb hK hP 1 rfl (j := (Int32.toNatClampNeg r7)) rfl g8 dX6_unlike_85 ?_
                      refine lv_if_eq (tgt := 93) hx hb dX6_unlike_86 (by decide) (fun h9 => ?_) (fun h9 => ?_)
                      · have hres := ite_t hres h9
                        refine lv_iconst (v := 1) hx hb dX6_unlike_93 (by decide) ?_
                        refine lv_iadd hx hb dX6_unlike_94 ?_
                        refine lv_topi (fun y10 ey10 => ?_)
                        have hres := bnd_z ey10 hres
                        refine lv_istore_n (lv' := [(3, .int y10), (6, .int r7), (0, .ref A0), (1, .int v1_L27), (2, .int v2_L27), (4, .int v4_L41), (5, .int v5_L41)]) hx hb dX6_unlike_95 rfl hl (by decide) rfl (fun ls hl => ?_)
                        refine lv_aload_n hx hb dX6_unlike_96 rfl (lv_at hl 2 rfl) ?_
                        refine va_get (D := G) (ci := 6) (v := .ref A0_told) (C := RX6) (T := TX6) (N := 22) hx hb hts (fun w h => (List.mem_cons_of_mem _ (List.mem_append_right _ h))) hown hK.1 hP 0 rfl rfl 21 (by decide) (hts (.fieldLink RX6 59 "EchoSeatsModel" "told" "[Z") (List.mem_of_getElem? (i := 1) rfl)) (fun _ h9 => h9) rfl dX6_unlike_97 ?_
                        refine lv_iload hx hb dX6_unlike_100 (lv_at hl 1 rfl) ?_
                        refine lv_iconst (v := 1) hx hb dX6_unlike_102 (by decide) ?_
                        have g11 := gd_1 hres
                        have hres := gd_2 hres
                        refine x_zast hx hb hK hP hD hS 1 rfl (j := (Int32.toNatClampNeg r7)) rfl g11 (by decide) dX6_unlike_103 (fun H locs hP hD hS => ?_)
                        have hP : va_P G vwCl [o6 A0 c0 A0_s A0_draft A0_kept A0_isKept A0_undone A0_seenI A0_seenJ A0_seenTime A0_text A0_kind A0_place A0_value A0_swallows A0_time A0_strength A0_which A0_told, (A0_told, .inl (cZ, 2000, .inl (upd e0_told_L41 (Int32.toNatClampNeg r7) 1))), (A0_s, .inl (cI, 27, .inl c0_s)), (A0_seenI, .inl (cI, 4, .inl c0_seenI)), (A0_seenJ, .inl (cI, 4, .inl c0_seenJ)), (A0_seenTime, .inl (cI, 4, .inl c0_seenTime))] H := hP
                        have hD : va_D A [o6 A0 c0 A0_s A0_draft A0_kept A0_isKept A0_undone A0_seenI A0_seenJ A0_seenTime A0_text A0_kind A0_place A0_value A0_swallows A0_time A0_strength A0_which A0_told, (A0_told, .inl (cZ, 2000, .inl (upd e0_told_L41 (Int32.toNatClampNeg r7) 1))), (A0_s, .inl (cI, 27, .inl c0_s)), (A0_seenI, .inl (cI, 4, .inl c0_seenI)), (A0_seenJ, .inl (cI, 4, .inl c0_seenJ)), (A0_seenTime, .inl (cI, 4, .inl c0_seenTime))] := hD
                        refine lv_iinc (v := (v5_L41 + 1)) (lv' := [(5, .int (v5_L41 + 1)), (3, .int y10), (6, .int r7), (0, .ref A0), (1, .int v1_L27), (2, .int v2_L27), (4, .int v4_L41)]) hx hb dX6_unlike_104 hl (k := 6) rfl rfl (by decide) rfl (fun ls hl => ?_)
                        refine lv_goto (tgt := 41) hx hb dX6_unlike_107 (by decide) ?_
                        exact ih41 y10 (v5_L41 + 1) (upd e0_told_L41 (Int32.toNatClampNeg r7) 1) _ _ _ hres hP hD hS (lv_sub hl [3, 4, 5, 1, 6, 0] rfl)
                      · have hres := ite_f hres h9
                        refine lv_iconst (v := 0) hx hb dX6_unlike_89 (by decide) ?_
                        refine lv_goto (tgt := 94) hx hb dX6_unlike_90 (by decide) ?_
                        refine lv_iadd hx hb dX6_unlike_94 ?_
                        refine lv_topi (fun y12 ey12 => ?_)
                        have hres := bnd_z ey12 hres
                        refine lv_istore_n (lv' := [(3, .int y12), (6, .int r7), (0, .ref A0), (1, .int v1_L27), (2, .int v2_L27), (4, .int v4_L41), (5, .int v5_L41)]) hx hb dX6_unlike_95 rfl hl (by decide) rfl (fun ls hl => ?_)
                        refine lv_aload_n hx hb dX6_unlike_96 rfl (lv_at hl 2 rfl) ?_
                        refine va_get (D := G) (ci := 6) (v := .ref A0_told) (C := RX6) (T := TX6) (N := 22) hx hb hts (fun w h => (List.mem_cons_of_mem _ (List.mem_append_right _ h))) hown hK.1 hP 0 rfl rfl 21 (by decide) (hts (.fieldLink RX6 59 "EchoSeatsModel" "told" "[Z") (List.mem_of_getElem? (i := 1) rfl)) (fun _ h9 => h9) rfl dX6_unlike_97 ?_
                        refine lv_iload hx hb dX6_unlike_100 (lv_at hl 1 rfl) ?_
                        refine lv_iconst (v := 1) hx hb dX6_unlike_102 (by decide) ?_
                        have g13 := gd_1 hres
                        have hres := gd_2 hres
                        refine x_zast hx hb hK hP hD hS 1 rfl (j := (Int32.toNatClampNeg r7)) rfl g13 (by decide) dX6_unlike_103 (fun H locs hP hD hS => ?_)
                        have hP : va_P G vwCl [o6 A0 c0 A0_s A0_draft A0_kept A0_isKept A0_undone A0_seenI A0_seenJ A0_seenTime A0_text A0_kind A0_place A0_value A0_swallows A0_time A0_strength A0_which A0_told, (A0_told, .inl (cZ, 2000, .inl (upd e0_told_L41 (Int32.toNatClampNeg r7) 1))), (A0_s, .inl (cI, 27, .inl c0_s)), (A0_seenI, .inl (cI, 4, .inl c0_seenI)), (A0_seenJ, .inl (cI, 4, .inl c0_seenJ)), (A0_seenTime, .inl (cI, 4, .inl c0_seenTime))] H := hP
                        have hD : va_D A [o6 A0 c0 A0_s A0_draft A0_kept A0_isKept A0_undone A0_seenI A0_seenJ A0_seenTime A0_text A0_kind A0_place A0_value A0_swallows A0_time A0_strength A0_which A0_told, (A0_told, .inl (cZ, 2000, .inl (upd e0_told_L41 (Int32.toNatClampNeg r7) 1))), (A0_s, .inl (cI, 27, .inl c0_s)), (A0_seenI, .inl (cI, 4, .inl c0_seenI)), (A0_seenJ, .inl (cI, 4, .inl c0_seenJ)), (A0_seenTime, .inl (cI, 4, .inl c0_seenTime))] := hD
                        refine lv_iinc (v := (v5_L41 + 1)) (lv' := [(5, .int (v5_L41 + 1)), (3, .int y12), (6, .int r7), (0, .ref A0), (1, .int v1_L27), (2, .int v2_L27), (4, .int v4_L41)]) hx hb dX6_unlike_104 hl (k := 6) rfl rfl (by decide) rfl (fun ls hl => ?_)
                        refine lv_goto (tgt := 41) hx hb dX6_unlike_107 (by decide) ?_
                        exact ih41 y12 (v5_L41 + 1) (upd e0_told_L41 (Int32.toNatClampNeg r7) 1) _ _ _ hres hP hD hS (lv_sub hl [3, 4, 5, 1, 6, 0] rfl)
              exact Q41 v4_L27 FU v3_L27 0 e0_told_L27 _ _ _ hres hP hD hS (lv_sub hl [1, 2, 3, 4, 5, 0] rfl)
        exact Q27 v1_L2 v2_L2 FU 0 0 e0_told_L2 _ _ _ hres hP hD hS (lv_sub hl [2, 3, 4, 1, 0] rfl)
      · have hres := ite_f hres h1
        refine lv_aload_n hx hb dX6_unlike_9 rfl (lv_at hl 0 rfl) ?_
        refine va_get (D := G) (ci := 6) (v := .ref A0_told) (C := RX6) (T := TX6) (N := 22) hx hb hts (fun w h => (List.mem_cons_of_mem _ (List.mem_append_right _ h))) hown hK.1 hP 0 rfl rfl 21 (by decide) (hts (.fieldLink RX6 59 "EchoSeatsModel" "told" "[Z") (List.mem_of_getElem? (i := 1) rfl)) (fun _ h9 => h9) rfl dX6_unlike_10 ?_
        refine lv_iload_n hx hb dX6_unlike_13 rfl (lv_at hl 3 rfl) ?_
        refine lv_iconst (v := 0) hx hb dX6_unlike_14 (by decide) ?_
        have g14 := gd_1 hres
        have hres := gd_2 hres
        refine x_zast hx hb hK hP hD hS 1 rfl (j := (Int32.toNatClampNeg v3_L2)) rfl g14 (by decide) dX6_unlike_15 (fun H locs hP hD hS => ?_)
        have hP : va_P G vwCl [o6 A0 c0 A0_s A0_draft A0_kept A0_isKept A0_undone A0_seenI A0_seenJ A0_seenTime A0_text A0_kind A0_place A0_value A0_swallows A0_time A0_strength A0_which A0_told, (A0_told, .inl (cZ, 2000, .inl (upd e0_told_L2 (Int32.toNatClampNeg v3_L2) 0))), (A0_s, .inl (cI, 27, .inl c0_s)), (A0_seenI, .inl (cI, 4, .inl c0_seenI)), (A0_seenJ, .inl (cI, 4, .inl c0_seenJ)), (A0_seenTime, .inl (cI, 4, .inl c0_seenTime))] H := hP
        have hD : va_D A [o6 A0 c0 A0_s A0_draft A0_kept A0_isKept A0_undone A0_seenI A0_seenJ A0_seenTime A0_text A0_kind A0_place A0_value A0_swallows A0_time A0_strength A0_which A0_told, (A0_told, .inl (cZ, 2000, .inl (upd e0_told_L2 (Int32.toNatClampNeg v3_L2) 0))), (A0_s, .inl (cI, 27, .inl c0_s)), (A0_seenI, .inl (cI, 4, .inl c0_seenI)), (A0_seenJ, .inl (cI, 4, .inl c0_seenJ)), (A0_seenTime, .inl (cI, 4, .inl c0_seenTime))] := hD
        refine lv_iinc (v := (v3_L2 + 1)) (lv' := [(3, .int (v3_L2 + 1)), (0, .ref A0), (1, .int v1_L2), (2, .int v2_L2)]) hx hb dX6_unlike_16 hl (k := 3) rfl rfl (by decide) rfl (fun ls hl => ?_)
        refine lv_goto (tgt := 2) hx hb dX6_unlike_19 (by decide) ?_
        exact ih2 (v3_L2 + 1) (upd e0_told_L2 (Int32.toNatClampNeg v3_L2) 0) _ _ _ hres hP hD hS (lv_sub hl [1, 2, 3, 0] rfl)
  exact Q2 x1 x2 FU 0 c0_told _ _ _ hres hP hD hS (lv_sub hl [1, 2, 3, 0] rfl)
theorem hsX6_unlike : yX6_unlike.cls = RX6 ∧ yX6_unlike.cls ≠ "java/lang/invoke/MethodHandle" ∧ yX6_unlike.cls ≠ "java/lang/invoke/VarHandle" ∧ (parseMethodDescriptor yX6_unlike.desc).map (fun d => d.parameters.length) = some 2 := by decide +kernel
set_option maxHeartbeats 4000000 in
set_option maxRecDepth 100000 in
theorem kX6_listen (l : Launch) (G : va_G) (cI cZ : ClassId) (tl : List (ClassId × FieldType)) (sz : Nat) (A : Nat → Prop) (A0 A0_s A0_draft A0_kept A0_isKept A0_undone A0_seenI A0_seenJ A0_seenTime A0_text A0_kind A0_place A0_value A0_swallows A0_time A0_strength A0_which A0_told : Nat) (c0 c0_s c0_seenI c0_seenJ c0_seenTime c0_told : Nat → Int32) (res : Int32 × (Nat → Int32)) (hAe : A = va_A [o6 A0 c0 A0_s A0_draft A0_kept A0_isKept A0_undone A0_seenI A0_seenJ A0_seenTime A0_text A0_kind A0_place A0_value A0_swallows A0_time A0_strength A0_which A0_told, (A0_s, .inl (cI, 27, .inl c0_s)), (A0_seenI, .inl (cI, 4, .inl c0_seenI)), (A0_seenJ, .inl (cI, 4, .inl c0_seenJ)), (A0_seenTime, .inl (cI, 4, .inl c0_seenTime)), (A0_told, .inl (cZ, 2000, .inl c0_told))] sz) (hres : fX6_listen c0 c0_s c0_seenI c0_seenJ c0_seenTime c0_told = some res) : Met l yX6_listen wsX6_listen rX6_listen (va_Pc [.ref A0] (PRW G cI cZ tl [o6 A0 c0 A0_s A0_draft A0_kept A0_isKept A0_undone A0_seenI A0_seenJ A0_seenTime A0_text A0_kind A0_place A0_value A0_swallows A0_time A0_strength A0_which A0_told, (A0_s, .inl (cI, 27, .inl c0_s)), (A0_seenI, .inl (cI, 4, .inl c0_seenI)), (A0_seenJ, .inl (cI, 4, .inl c0_seenJ)), (A0_seenTime, .inl (cI, 4, .inl c0_seenTime)), (A0_told, .inl (cZ, 2000, .inl c0_told))] sz)) (Qiw res.1 G A [o6 A0 c0 A0_s A0_draft A0_kept A0_isKept A0_undone A0_seenI A0_seenJ A0_seenTime A0_text A0_kind A0_place A0_value A0_swallows A0_time A0_strength A0_which A0_told, (A0_s, .inl (cI, 27, .inl c0_s)), (A0_seenI, .inl (cI, 4, .inl c0_seenI)), (A0_seenJ, .inl (cI, 4, .inl c0_seenJ)), (A0_seenTime, .inl (cI, 4, .inl c0_seenTime)), (A0_told, .inl (cZ, 2000, .inl res.2))]) 0 0 A := by
  refine Met.ofW (cc := cX6_listen) (maxL := 6) (ret := (some .int)) (by decide) rfl ?_
  intro p e s m args below meth c s₁ B hml hv
  obtain ⟨rfl, hsz, hP, hK, hD0⟩ := hv
  have hx := B.exec
  have hb := B.bytes
  have hr := B.returns
  have hts := atoms_spec (ws := wsX6_listen) B.pre
  have hown : s.vm.findClass RX6 = some m.cls := findClass_of_methodNamed B.named
  have hlocks := B.notSynchronized
  subst hsz
  have hD : va_D A [o6 A0 c0 A0_s A0_draft A0_kept A0_isKept A0_undone A0_seenI A0_seenJ A0_seenTime A0_text A0_kind A0_place A0_value A0_swallows A0_time A0_strength A0_which A0_told, (A0_s, .inl (cI, 27, .inl c0_s)), (A0_seenI, .inl (cI, 4, .inl c0_seenI)), (A0_seenJ, .inl (cI, 4, .inl c0_seenJ)), (A0_seenTime, .inl (cI, 4, .inl c0_seenTime)), (A0_told, .inl (cZ, 2000, .inl c0_told))] := by rw [hAe]; exact hD0.self
  have hA : ∀ q : Nat, s.heap.size ≤ q → A q := fun q h => by rw [hAe]; exact Or.inr h
  clear hAe hD0
  have hS : va_S A s.heap s.heap [] := va_S.rf
  have hl := lv_entry ([.ref A0] : List Value) (n := 6) (Nat.le_of_ble_eq_true rfl)
  rw [lg_entry_eq]
  generalize (lg_sl ([.ref A0] : List Value) ++ List.replicate (6 - (lg_sl ([.ref A0] : List Value)).length) Slot.unset).toArray = ls at hl ⊢
  have hl : lv_has ls 6 [(0, .ref A0)] := hl
  refine lv_aload_n hx hb dX6_listen_0 rfl (lv_at hl 0 rfl) ?_
  refine lv_iconst (v := 0) hx hb dX6_listen_1 (by decide) ?_
  obtain ⟨r1, hr1, hres⟩ := bi_1 hres
  refine x_cp (va_runV (As := [.int 0]) (rest := []) ⟨hx, hb, hml, hown, hts⟩ (kX6_places l G cI cZ tl A0 A0_s A0_draft A0_kept A0_isKept A0_undone A0_seenI A0_seenJ A0_seenTime A0_text A0_kind A0_place A0_value A0_swallows A0_time A0_strength A0_which A0_told c0 c0_s c0_seenI c0_seenJ c0_seenTime 0 r1 hr1) (cwV 1 hts gX6_listen_X6_places rfl rfl rfl hsX6_places ⟨Nat.le_of_ble_eq_true rfl, Nat.le_of_ble_eq_true rfl⟩) ⟨PRO_blind, va_recv hK.1 hP (ci := 6) (q0 := 0) rfl rfl, PRO_at (hP.sub (ws' := [o6 A0 c0 A0_s A0_draft A0_kept A0_isKept A0_undone A0_seenI A0_seenJ A0_seenTime A0_text A0_kind A0_place A0_value A0_swallows A0_time A0_strength A0_which A0_told, (A0_s, .inl (cI, 27, .inl c0_s)), (A0_seenI, .inl (cI, 4, .inl c0_seenI)), (A0_seenJ, .inl (cI, 4, .inl c0_seenJ)), (A0_seenTime, .inl (cI, 4, .inl c0_seenTime))]) [0, 1, 2, 3, 4] rfl) hK⟩ rfl rfl hl.1 rfl (lv_room (Nat.le_of_ble_eq_true rfl)) dX6_listen_2 ⟨Nat.zero_le _, Nat.zero_le _⟩) ?_
  refine lv_iconst (v := 2) hx hb dX6_listen_5 (by decide) ?_
  refine lv_icmp_ge (tgt := 12) hx hb dX6_listen_6 (by decide) (fun h2 => ?_) (fun h2 => ?_)
  · have hres := ite_t hres h2
    refine lv_bipush (v := (-9)) hx hb dX6_listen_12 (by decide) ?_
    refine lv_istore_n (lv' := [(1, .int (-9)), (0, .ref A0)]) hx hb dX6_listen_14 rfl hl (by decide) rfl (fun ls hl => ?_)
    refine lv_iconst (v := 0) hx hb dX6_listen_15 (by decide) ?_
    refine lv_istore_n (lv' := [(2, .int 0), (1, .int (-9)), (0, .ref A0)]) hx hb dX6_listen_16 rfl hl (by decide) rfl (fun ls hl => ?_)
    refine lv_bipush (v := (-3)) hx hb dX6_listen_17 (by decide) ?_
    refine lv_istore_n (lv' := [(3, .int (-3)), (2, .int 0), (1, .int (-9)), (0, .ref A0)]) hx hb dX6_listen_19 rfl hl (by decide) rfl (fun ls hl => ?_)
    have Q20 : ∀ (n20 : Nat) (v1_L20 : Int32) (v2_L20 : Int32) (v3_L20 : Int32) (e0_told_L20 : (Nat → Int32)) (H : Heap) (locs : List Loc) (ls : Array Slot), LPX (fX6_listen_L20 c0 c0_s c0_seenI c0_seenJ c0_seenTime) n20 (v1_L20, v2_L20, v3_L20, e0_told_L20) = some res → va_P G vwCl [o6 A0 c0 A0_s A0_draft A0_kept A0_isKept A0_undone A0_seenI A0_seenJ A0_seenTime A0_text A0_kind A0_place A0_value A0_swallows A0_time A0_strength A0_which A0_told, (A0_s, .inl (cI, 27, .inl c0_s)), (A0_seenI, .inl (cI, 4, .inl c0_seenI)), (A0_seenJ, .inl (cI, 4, .inl c0_seenJ)), (A0_seenTime, .inl (cI, 4, .inl c0_seenTime)), (A0_told, .inl (cZ, 2000, .inl e0_told_L20))] H → va_D A [o6 A0 c0 A0_s A0_draft A0_kept A0_isKept A0_undone A0_seenI A0_seenJ A0_seenTime A0_text A0_kind A0_place A0_value A0_swallows A0_time A0_strength A0_which A0_told, (A0_s, .inl (cI, 27, .inl c0_s)), (A0_seenI, .inl (cI, 4, .inl c0_seenI)), (A0_seenJ, .inl (cI, 4, .inl c0_seenJ)), (A0_seenTime, .inl (cI, 4, .inl c0_seenTime)), (A0_told, .inl (cZ, 2000, .inl e0_told_L20))] → va_S A s.heap H locs → lv_has ls 6 [(0, .ref A0), (1, .int v1_L20), (2, .int v2_L20), (3, .int v3_L20)] → WRW p l e wsX6_listen rX6_listen s m ([.ref A0] : List Value).toArray below meth c H locs (Qiw res.1 G A [o6 A0 c0 A0_s A0_draft A0_kept A0_isKept A0_undone A0_seenI A0_seenJ A0_seenTime A0_text A0_kind A0_place A0_value A0_swallows A0_time A0_strength A0_which A0_told, (A0_s, .inl (cI, 27, .inl c0_s)), (A0_seenI, .inl (cI, 4, .inl c0_seenI)), (A0_seenJ, .inl (cI, 4, .inl c0_seenJ)), (A0_seenTime, .inl (cI, 4, .inl c0_seenTime)), (A0_told, .inl (cZ, 2000, .inl res.2))]) A (F0 m 20 ls []) := by
      intro n20
      induction n20 with
      | zero =>
        intro v1_L20 v2_L20 v3_L20 e0_told_L20 H locs ls hres
        exact absurd (LPX_0.symm.trans hres) (fun h => by cases h)
      | succ n20 ih20 =>
        intro v1_L20 v2_L20 v3_L20 e0_told_L20 H locs ls hres hP hD hS hl
        have hres := LPX_s.symm.trans hres
        refine lv_iload_n hx hb dX6_listen_20 rfl (lv_at hl 3 rfl) ?_
        refine lv_iconst (v := 3) hx hb dX6_listen_21 (by decide) ?_
        refine lv_icmp_gt (tgt := 104) hx hb dX6_listen_22 (by decide) (fun h3 => ?_) (fun h3 => ?_)
        · have hres := ite_t hres h3
          refine lv_iload_n hx hb dX6_listen_104 rfl (lv_at hl 1 rfl) ?_
          obtain rfl := Option.some.inj hres
          exact W.iret hx hb hr (fun t ht hW => ⟨⟨_, (), rfl, rfl, by rw [ht]; exact hP, hD⟩, hS.F ht⟩) hS.2.2 dX6_listen_105
        · have hres := ite_f hres h3
          refine lv_bipush (v := (-3)) hx hb dX6_listen_25 (by decide) ?_
          refine lv_istore (lv' := [(4, .int (-3)), (0, .ref A0), (1, .int v1_L20), (2, .int v2_L20), (3, .int v3_L20)]) hx hb dX6_listen_27 hl (by decide) rfl (fun ls hl => ?_)
          have Q29 : ∀ (v3_L29 : Int32) (n29 : Nat) (v1_L29 : Int32) (v2_L29 : Int32) (v4_L29 : Int32) (e0_told_L29 : (Nat → Int32)) (H : Heap) (locs : List Loc) (ls : Array Slot), LPX (fX6_listen_L29 c0 c0_s c0_seenI c0_seenJ c0_seenTime v3_L29 (LPX (fX6_listen_L20 c0 c0_s c0_seenI c0_seenJ c0_seenTime) n20)) n29 (v1_L29, v2_L29, v4_L29, e0_told_L29) = some res → va_P G vwCl [o6 A0 c0 A0_s A0_draft A0_kept A0_isKept A0_undone A0_seenI A0_seenJ A0_seenTime A0_text A0_kind A0_place A0_value A0_swallows A0_time A0_strength A0_which A0_told, (A0_s, .inl (cI, 27, .inl c0_s)), (A0_seenI, .inl (cI, 4, .inl c0_seenI)), (A0_seenJ, .inl (cI, 4, .inl c0_seenJ)), (A0_seenTime, .inl (cI, 4, .inl c0_seenTime)), (A0_told, .inl (cZ, 2000, .inl e0_told_L29))] H → va_D A [o6 A0 c0 A0_s A0_draft A0_kept A0_isKept A0_undone A0_seenI A0_seenJ A0_seenTime A0_text A0_kind A0_place A0_value A0_swallows A0_time A0_strength A0_which A0_told, (A0_s, .inl (cI, 27, .inl c0_s)), (A0_seenI, .inl (cI, 4, .inl c0_seenI)), (A0_seenJ, .inl (cI, 4, .inl c0_seenJ)), (A0_seenTime, .inl (cI, 4, .inl c0_seenTime)), (A0_told, .inl (cZ, 2000, .inl e0_told_L29))] → va_S A s.heap H locs → lv_has ls 6 [(0, .ref A0), (1, .int v1_L29), (2, .int v2_L29), (3, .int v3_L29), (4, .int v4_L29)] → WRW p l e wsX6_listen rX6_listen s m ([.ref A0] : List Value).toArray below meth c H locs (Qiw res.1 G A [o6 A0 c0 A0_s A0_draft A0_kept A0_isKept A0_undone A0_seenI A0_seenJ A0_seenTime A0_text A0_kind A0_place A0_value A0_swallows A0_time A0_strength A0_which A0_told, (A0_s, .inl (cI, 27, .inl c0_s)), (A0_seenI, .inl (cI, 4, .inl c0_seenI)), (A0_seenJ, .inl (cI, 4, .inl c0_seenJ)), (A0_seenTime, .inl (cI, 4, .inl c0_seenTime)), (A0_told, .inl (cZ, 2000, .inl res.2))]) A (F0 m 29 ls []) := by
            intro v3_L29 n29
            induction n29 with
            | zero =>
              intro v1_L29 v2_L29 v4_L29 e0_told_L29 H locs ls hres
              exact absurd (LPX_0.symm.trans hres) (fun h => by cases h)
            | succ n29 ih29 =>
              intro v1_L29 v2_L29 v4_L29 e0_told_L29 H locs ls hres hP hD hS hl
              have hres := LPX_s.symm.trans hres
              have J78 : ∀ (v2_j78 : Int32) (v4_j78 : Int32) (v5_j78 : Int32) (z0_j78 : Int32) (e0_told_j78 : (Nat → Int32)) (H : Heap) (locs : List Loc) (ls : Array Slot), fX6_listen_j78 c0 c0_s c0_seenI c0_seenJ c0_seenTime v3_L29 v2_j78 v4_j78 v5_j78 z0_j78 e0_told_j78 (LPX (fX6_listen_L20 c0 c0_s c0_seenI c0_seenJ c0_seenTime) n20) (LPX (fX6_listen_L29 c0 c0_s c0_seenI c0_seenJ c0_seenTime v3_L29 (LPX (fX6_listen_L20 c0 c0_s c0_seenI c0_seenJ c0_seenTime) n20)) n29) = some res → va_P G vwCl [o6 A0 c0 A0_s A0_draft A0_kept A0_isKept A0_undone A0_seenI A0_seenJ A0_seenTime A0_text A0_kind A0_place A0_value A0_swallows A0_time A0_strength A0_which A0_told, (A0_s, .inl (cI, 27, .inl c0_s)), (A0_seenI, .inl (cI, 4, .inl c0_seenI)), (A0_seenJ, .inl (cI, 4, .inl c0_seenJ)), (A0_seenTime, .inl (cI, 4, .inl c0_seenTime)), (A0_told, .inl (cZ, 2000, .inl e0_told_j78))] H → va_D A [o6 A0 c0 A0_s A0_draft A0_kept A0_isKept A0_undone A0_seenI A0_seenJ A0_seenTime A0_text A0_kind A0_place A0_value A0_swallows A0_time A0_strength A0_which A0_told, (A0_s, .inl (cI, 27, .inl c0_s)), (A0_seenI, .inl (cI, 4, .inl c0_seenI)), (A0_seenJ, .inl (cI, 4, .inl c0_seenJ)), (A0_seenTime, .inl (cI, 4, .inl c0_seenTime)), (A0_told, .inl (cZ, 2000, .inl e0_told_j78))] → va_S A s.heap H locs → lv_has ls 6 [(0, .ref A0), (2, .int v2_j78), (3, .int v3_L29), (4, .int v4_j78), (5, .int v5_j78)] → WRW p l e wsX6_listen rX6_listen s m ([.ref A0] : List Value).toArray below meth c H locs (Qiw res.1 G A [o6 A0 c0 A0_s A0_draft A0_kept A0_isKept A0_undone A0_seenI A0_seenJ A0_seenTime A0_text A0_kind A0_place A0_value A0_swallows A0_time A0_strength A0_which A0_told, (A0_s, .inl (cI, 27, .inl c0_s)), (A0_seenI, .inl (cI, 4, .inl c0_seenI)), (A0_seenJ, .inl (cI, 4, .inl c0_seenJ)), (A0_seenTime, .inl (cI, 4, .inl c0_seenTime)), (A0_told, .inl (cZ, 2000, .inl res.2))]) A (F0 m 78 ls [.int z0_j78]) := by
                intro v2_j78 v4_j78 v5_j78 z0_j78 e0_told_j78 H locs ls hres hP hD hS hl
                refine lv_istore_n (lv' := [(1, .int z0_j78), (0, .ref A0), (2, .int v2_j78), (3, .int v3_L29), (4, .int v4_j78), (5, .int v5_j78)]) hx hb dX6_listen_78 rfl hl (by decide) rfl (fun ls hl => ?_)
                refine lv_iload hx hb dX6_listen_79 (lv_at hl 5 rfl) ?_
                refine lv_iload_n hx hb dX6_listen_81 rfl (lv_at hl 2 rfl) ?_
                refine lv_icmp_le (tgt := 90) hx hb dX6_listen_82 (by decide) (fun h4 => ?_) (fun h4 => ?_)
                · have hres := ite_t hres h4
                  refine lv_iload_n hx hb dX6_listen_90 rfl (lv_at hl 2 rfl) ?_
                  refine lv_istore_n (lv' := [(2, .int v2_j78), (1, .int z0_j78), (0, .ref A0), (3, .int v3_L29), (4, .int v4_j78), (5, .int v5_j78)]) hx hb dX6_listen_91 rfl hl (by decide) rfl (fun ls hl => ?_)
                  refine lv_iinc (v := (v4_j78 + 1)) (lv' := [(4, .int (v4_j78 + 1)), (2, .int v2_j78), (1, .int z0_j78), (0, .ref A0), (3, .int v3_L29), (5, .int v5_j78)]) hx hb dX6_listen_92 hl (k := 4) rfl rfl (by decide) rfl (fun ls hl => ?_)
                  refine lv_goto (tgt := 29) hx hb dX6_listen_95 (by decide) ?_
                  exact ih29 z0_j78 v2_j78 (v4_j78 + 1) e0_told_j78 _ _ _ hres hP hD hS (lv_sub hl [3, 2, 1, 4, 0] rfl)
                · have hres := ite_f hres h4
                  refine lv_iload hx hb dX6_listen_85 (lv_at hl 5 rfl) ?_
                  refine lv_goto (tgt := 91) hx hb dX6_listen_87 (by decide) ?_
                  refine lv_istore_n (lv' := [(2, .int v5_j78), (1, .int z0_j78), (0, .ref A0), (3, .int v3_L29), (4, .int v4_j78), (5, .int v5_j78)]) hx hb dX6_listen_91 rfl hl (by decide) rfl (fun ls hl => ?_)
                  refine lv_iinc (v := (v4_j78 + 1)) (lv' := [(4, .int (v4_j78 + 1)), (2, .int v5_j78), (1, .int z0_j78), (0, .ref A0), (3, .int v3_L29), (5, .int v5_j78)]) hx hb dX6_listen_92 hl (k := 4) rfl rfl (by decide) rfl (fun ls hl => ?_)
                  refine lv_goto (tgt := 29) hx hb dX6_listen_95 (by decide) ?_
                  exact ih29 z0_j78 v5_j78 (v4_j78 + 1) e0_told_j78 _ _ _ hres hP hD hS (lv_sub hl [3, 2, 1, 4, 0] rfl)
              have J55 : ∀ (v1_j55 : Int32) (v2_j55 : Int32) (v4_j55 : Int32) (z0_j55 : Int32) (e0_told_j55 : (Nat → Int32)) (H : Heap) (locs : List Loc) (ls : Array Slot), fX6_listen_j55 c0 c0_s c0_seenI c0_seenJ c0_seenTime v3_L29 v1_j55 v2_j55 v4_j55 z0_j55 e0_told_j55 (LPX (fX6_listen_L20 c0 c0_s c0_seenI c0_seenJ c0_seenTime) n20) (LPX (fX6_listen_L29 c0 c0_s c0_seenI c0_seenJ c0_seenTime v3_L29 (LPX (fX6_listen_L20 c0 c0_s c0_seenI c0_seenJ c0_seenTime) n20)) n29) = some res → va_P G vwCl [o6 A0 c0 A0_s A0_draft A0_kept A0_isKept A0_undone A0_seenI A0_seenJ A0_seenTime A0_text A0_kind A0_place A0_value A0_swallows A0_time A0_strength A0_which A0_told, (A0_s, .inl (cI, 27, .inl c0_s)), (A0_seenI, .inl (cI, 4, .inl c0_seenI)), (A0_seenJ, .inl (cI, 4, .inl c0_seenJ)), (A0_seenTime, .inl (cI, 4, .inl c0_seenTime)), (A0_told, .inl (cZ, 2000, .inl e0_told_j55))] H → va_D A [o6 A0 c0 A0_s A0_draft A0_kept A0_isKept A0_undone A0_seenI A0_seenJ A0_seenTime A0_text A0_kind A0_place A0_value A0_swallows A0_time A0_strength A0_which A0_told, (A0_s, .inl (cI, 27, .inl c0_s)), (A0_seenI, .inl (cI, 4, .inl c0_seenI)), (A0_seenJ, .inl (cI, 4, .inl c0_seenJ)), (A0_seenTime, .inl (cI, 4, .inl c0_seenTime)), (A0_told, .inl (cZ, 2000, .inl e0_told_j55))] → va_S A s.heap H locs → lv_has ls 6 [(0, .ref A0), (1, .int v1_j55), (2, .int v2_j55), (3, .int v3_L29), (4, .int v4_j55)] → WRW p l e wsX6_listen rX6_listen s m ([.ref A0] : List Value).toArray below meth c H locs (Qiw res.1 G A [o6 A0 c0 A0_s A0_draft A0_kept A0_isKept A0_undone A0_seenI A0_seenJ A0_seenTime A0_text A0_kind A0_place A0_value A0_swallows A0_time A0_strength A0_which A0_told, (A0_s, .inl (cI, 27, .inl c0_s)), (A0_seenI, .inl (cI, 4, .inl c0_seenI)), (A0_seenJ, .inl (cI, 4, .inl c0_seenJ)), (A0_seenTime, .inl (cI, 4, .inl c0_seenTime)), (A0_told, .inl (cZ, 2000, .inl res.2))]) A (F0 m 55 ls [.int z0_j55]) := by
                intro v1_j55 v2_j55 v4_j55 z0_j55 e0_told_j55 H locs ls hres hP hD hS hl
                refine lv_istore (lv' := [(5, .int z0_j55), (0, .ref A0), (1, .int v1_j55), (2, .int v2_j55), (3, .int v3_L29), (4, .int v4_j55)]) hx hb dX6_listen_55 hl (by decide) rfl (fun ls hl => ?_)
                refine lv_iload hx hb dX6_listen_57 (lv_at hl 0 rfl) ?_
                refine lv_iload_n hx hb dX6_listen_59 rfl (lv_at hl 3 rfl) ?_
                refine lv_icmp_le (tgt := 77) hx hb dX6_listen_60 (by decide) (fun h5 => ?_) (fun h5 => ?_)
                · have hres := ite_t hres h5
                  refine lv_iload_n hx hb dX6_listen_77 rfl (lv_at hl 2 rfl) ?_
                  exact J78 v2_j55 v4_j55 z0_j55 v1_j55 e0_told_j55 _ _ _ hres hP hD hS (lv_sub hl [1, 3, 4, 5, 0] rfl)
                · have hres := ite_f hres h5
                  refine lv_bipush (v := 100) hx hb dX6_listen_63 (by decide) ?_
                  refine lv_iload_n hx hb dX6_listen_65 rfl (lv_at hl 4 rfl) ?_
                  refine lv_iconst (v := 3) hx hb dX6_listen_66 (by decide) ?_
                  refine lv_iadd hx hb dX6_listen_67 ?_
                  refine lv_imul hx hb dX6_listen_68 ?_
                  refine lv_iload hx hb dX6_listen_69 (lv_at hl 5 rfl) ?_
                  refine lv_iadd hx hb dX6_listen_71 ?_
                  refine lv_iconst (v := 3) hx hb dX6_listen_72 (by decide) ?_
                  refine lv_iadd hx hb dX6_listen_73 ?_
                  refine lv_goto (tgt := 78) hx hb dX6_listen_74 (by decide) ?_
                  exact J78 v2_j55 v4_j55 z0_j55 (((100 * (v3_L29 + 3)) + v4_j55) + 3) e0_told_j55 _ _ _ hres hP hD hS (lv_sub hl [1, 3, 4, 5, 0] rfl)
              refine lv_iload hx hb dX6_listen_29 (lv_at hl 4 rfl) ?_
              refine lv_iconst (v := 3) hx hb dX6_listen_31 (by decide) ?_
              refine lv_icmp_gt (tgt := 98) hx hb dX6_listen_32 (by decide) (fun h6 => ?_) (fun h6 => ?_)
              · have hres := ite_t hres h6
                refine lv_iinc (v := (v3_L29 + 1)) (lv' := [(3, .int (v3_L29 + 1)), (0, .ref A0), (1, .int v1_L29), (2, .int v2_L29), (4, .int v4_L29)]) hx hb dX6_listen_98 hl (k := 3) rfl rfl (by decide) rfl (fun ls hl => ?_)
                refine lv_goto (tgt := 20) hx hb dX6_listen_101 (by decide) ?_
                exact ih20 v1_L29 v2_L29 (v3_L29 + 1) e0_told_L29 _ _ _ hres hP hD hS (lv_sub hl [1, 2, 3, 0] rfl)
              · have hres := ite_f hres h6
                refine lv_iload_n hx hb dX6_listen_35 rfl (lv_at hl 3 rfl) ?_
                refine lv_iload hx hb dX6_listen_36 (lv_at hl 4 rfl) ?_
                obtain ⟨r7, hr7, hres⟩ := bi_1 hres
                refine x_cp (va_runS (As := [.int v3_L29, .int v4_L29]) (rest := []) ⟨hx, hb, hml, hown, hts⟩ (kX6_isImage l G cI cZ tl v3_L29 v4_L29 r7 hr7) (va_cwS 2 hts gX6_listen_X6_isImage rfl rfl rfl hsX6_isImage ⟨Nat.le_of_ble_eq_true rfl, Nat.le_of_ble_eq_true rfl⟩) ⟨PRO_blind, PRO_at va_P0 hK⟩ rfl rfl hl.1 rfl (lv_room (Nat.le_of_ble_eq_true rfl)) dX6_listen_38 ⟨Nat.zero_le _, Nat.zero_le _⟩) ?_
                refine lv_if_eq (tgt := 54) hx hb dX6_listen_41 (by decide) (fun h8 => ?_) (fun h8 => ?_)
                · have hres := ite_t hres h8
                  refine lv_iconst (v := 0) hx hb dX6_listen_54 (by decide) ?_
                  exact J55 v1_L29 v2_L29 v4_L29 0 e0_told_L29 _ _ _ hres hP hD hS (lv_sub hl [0, 1, 2, 3, 4] rfl)
                · have hres := ite_f hres h8
                  refine lv_aload_n hx hb dX6_listen_44 rfl (lv_at hl 0 rfl) ?_
                  refine lv_iload_n hx hb dX6_listen_45 rfl (lv_at hl 3 rfl) ?_
                  refine lv_iload hx hb dX6_listen_46 (lv_at hl 4 rfl) ?_
                  obtain ⟨r9, hr9, hres⟩ := bi_1 hres
                  refine x_ci (wr := []) (w2 := [o6 A0 c0 A0_s A0_draft A0_kept A0_isKept A0_undone A0_seenI A0_seenJ A0_seenTime A0_text A0_kind A0_place A0_value A0_swallows A0_time A0_strength A0_which A0_told, (A0_s, .inl (cI, 27, .inl c0_s)), (A0_seenI, .inl (cI, 4, .inl c0_seenI)), (A0_seenJ, .inl (cI, 4, .inl c0_seenJ)), (A0_seenTime, .inl (cI, 4, .inl c0_seenTime)), (A0_told, .inl (cZ, 2000, .inl r9.2))]) hP hD hS hA (va_runV (As := [.int v3_L29, .int v4_L29]) (rest := []) ⟨hx, hb, hml, hown, hts⟩ (kX6_unlike l G cI cZ tl H.size _ A0 A0_s A0_draft A0_kept A0_isKept A0_undone A0_seenI A0_seenJ A0_seenTime A0_text A0_kind A0_place A0_value A0_swallows A0_time A0_strength A0_which A0_told c0 e0_told_L29 c0_s c0_seenI c0_seenJ c0_seenTime v3_L29 v4_L29 r9 rfl hr9) (cwV 2 hts gX6_listen_X6_unlike rfl rfl rfl hsX6_unlike ⟨Nat.le_of_ble_eq_true rfl, Nat.le_of_ble_eq_true rfl⟩) ⟨PRW_blind, va_recv hK.1 hP (ci := 6) (q0 := 0) rfl rfl, PRW_at (hP.sub (ws' := [o6 A0 c0 A0_s A0_draft A0_kept A0_isKept A0_undone A0_seenI A0_seenJ A0_seenTime A0_text A0_kind A0_place A0_value A0_swallows A0_time A0_strength A0_which A0_told, (A0_told, .inl (cZ, 2000, .inl e0_told_L29)), (A0_s, .inl (cI, 27, .inl c0_s)), (A0_seenI, .inl (cI, 4, .inl c0_seenI)), (A0_seenJ, .inl (cI, 4, .inl c0_seenJ)), (A0_seenTime, .inl (cI, 4, .inl c0_seenTime))]) [0, 5, 1, 2, 3, 4] rfl) (hD.sub (ws' := [o6 A0 c0 A0_s A0_draft A0_kept A0_isKept A0_undone A0_seenI A0_seenJ A0_seenTime A0_text A0_kind A0_place A0_value A0_swallows A0_time A0_strength A0_which A0_told, (A0_told, .inl (cZ, 2000, .inl e0_told_L29)), (A0_s, .inl (cI, 27, .inl c0_s)), (A0_seenI, .inl (cI, 4, .inl c0_seenI)), (A0_seenJ, .inl (cI, 4, .inl c0_seenJ)), (A0_seenTime, .inl (cI, 4, .inl c0_seenTime))]) [0, 5, 1, 2, 3, 4] (by decide) rfl) hK⟩ rfl rfl hl.1 rfl (lv_room (Nat.le_of_ble_eq_true rfl)) dX6_listen_48 ⟨Nat.zero_le _, Nat.zero_le _⟩) [0, 5, 1, 2, 3, 4] [] [0, 2, 3, 4, 5, 1] rfl rfl (by decide) (by decide) rfl rfl (by decide) (fun H locs hP hD hS => ?_)
                  refine lv_goto (tgt := 55) hx hb dX6_listen_51 (by decide) ?_
                  exact J55 v1_L29 v2_L29 v4_L29 r9.1 r9.2 _ _ _ hres hP hD hS (lv_sub hl [0, 1, 2, 3, 4] rfl)
          exact Q29 v3_L20 FU v1_L20 v2_L20 (-3) e0_told_L20 _ _ _ hres hP hD hS (lv_sub hl [1, 2, 3, 4, 0] rfl)
    exact Q20 FU (-9) 0 (-3) c0_told _ _ _ hres hP hD hS (lv_sub hl [3, 2, 1, 0] rfl)
  · have hres := ite_f hres h2
    refine lv_bipush (v := (-9)) hx hb dX6_listen_9 (by decide) ?_
    obtain rfl := Option.some.inj hres
    exact W.iret hx hb hr (fun t ht hW => ⟨⟨_, (), rfl, rfl, by rw [ht]; exact hP, hD⟩, hS.F ht⟩) hS.2.2 dX6_listen_11
theorem hsX6_listen : yX6_listen.cls = RX6 ∧ yX6_listen.cls ≠ "java/lang/invoke/MethodHandle" ∧ yX6_listen.cls ≠ "java/lang/invoke/VarHandle" ∧ (parseMethodDescriptor yX6_listen.desc).map (fun d => d.parameters.length) = some 0 := by decide +kernel
