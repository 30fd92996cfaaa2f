set_option maxHeartbeats 4000000 in
set_option maxRecDepth 100000 in
theorem kX5_mirror (l : Launch) (G : va_G) (cI cZ : ClassId) (tl : List (ClassId × FieldType)) (A0 A0_now A0_draft A0_kept A0_isKept A0_text A0_past A0_ear A0_finder A0_now_swallows A0_now_seatX A0_now_seatY A0_now_curtainX A0_now_curtainFrom A0_now_curtainTo : Nat) (c0_now c0_now_swallows : Nat → Int32) (x1 x2 x3 : Int32) (res : Int32) (hres : fX5_mirror c0_now c0_now_swallows x1 x2 x3 = some res) : Met l yX5_mirror wsX5_mirror rX5_mirror (va_Pc [.ref A0, .int x1, .int x2, .int x3] (PRO G cI cZ tl [o5 A0 A0_now A0_draft A0_kept A0_isKept A0_text A0_past A0_ear A0_finder, o3 A0_now c0_now A0_now_swallows A0_now_seatX A0_now_seatY A0_now_curtainX A0_now_curtainFrom A0_now_curtainTo, (A0_now_swallows, .inl (cI, 4, .inl c0_now_swallows))])) (Sp res) 0 0 (fun _ => False) := by
  refine Met.ofW (cc := cX5_mirror) (maxL := 4) (ret := (some .int)) (by decide) rfl ?_
  intro p e s m args below meth c s₁ B hml hv
  obtain ⟨rfl, hP, hK⟩ := hv
  have hx := B.exec
  have hb := B.bytes
  have hr := B.returns
  have hts := atoms_spec (ws := wsX5_mirror) B.pre
  have hown : s.vm.findClass RX5 = some m.cls := findClass_of_methodNamed B.named
  have hlocks := B.notSynchronized
  have hl := lv_entry ([.ref A0, .int x1, .int x2, .int x3] : List Value) (n := 4) (Nat.le_of_ble_eq_true rfl)
  rw [lg_entry_eq]
  generalize (lg_sl ([.ref A0, .int x1, .int x2, .int x3] : List Value) ++ List.replicate (4 - (lg_sl ([.ref A0, .int x1, .int x2, .int x3] : List Value)).length) Slot.unset).toArray = ls at hl ⊢
  have hl : lv_has ls 4 [(0, .ref A0), (1, .int x1), (2, .int x2), (3, .int x3)] := hl
  refine lv_iload_n hx hb dX5_mirror_0 rfl (lv_at hl 1 rfl) ?_
  refine lv_iload_n hx hb dX5_mirror_1 rfl (lv_at hl 2 rfl) ?_
  obtain ⟨r1, hr1, hres⟩ := bi_1 hres
  refine x_cp (va_runS (As := [.int x1, .int x2]) (rest := []) ⟨hx, hb, hml, hown, hts⟩ (kX5_isImage l G cI cZ tl x1 x2 r1 hr1) (va_cwS 2 hts gX5_mirror_X5_isImage rfl rfl rfl hsX5_isImage ⟨Nat.le_of_ble_eq_true rfl, Nat.le_of_ble_eq_true rfl⟩) ⟨PRO_blind, PRO_at va_P0 hK⟩ rfl rfl hl.1 rfl (lv_room (Nat.le_of_ble_eq_true rfl)) dX5_mirror_2 ⟨Nat.zero_le _, Nat.zero_le _⟩) ?_
  refine lv_if_ne (tgt := 11) hx hb dX5_mirror_5 (by decide) (fun h2 => ?_) (fun h2 => ?_)
  · have hres := ite_f hres h2
    refine lv_iload_n hx hb dX5_mirror_11 rfl (lv_at hl 3 rfl) ?_
    by_cases h3 : x3 = 0
    · have hres := ite_t hres h3
      refine lv_tableIn (off := 32) (tgt := 44) hx hb dX5_mirror_12 (by rw [h3]; decide) (by rw [h3]; decide) (by rw [h3]; rfl) (by decide) ?_
      refine lv_aload_n hx hb dX5_mirror_44 rfl (lv_at hl 0 rfl) ?_
      refine va_get (D := G) (ci := 5) (v := .ref A0_now) (C := RX5) (T := TX5) (N := 8) hx hb hts (fun w h => (List.mem_cons_of_mem _ (List.mem_append_left _ (List.mem_append_right _ h)))) hown hK.1 hP 0 rfl rfl 0 (by decide) (hts (.fieldLink RX5 10 "EchoSeats" "now" "LEchoSeats$Scene;") (List.mem_of_getElem? (i := 2) rfl)) (fun _ h9 => h9) rfl dX5_mirror_45 ?_
      refine lv_iload_n hx hb dX5_mirror_48 rfl (lv_at hl 1 rfl) ?_
      obtain ⟨r4, hr4, hres⟩ := bi_1 hres
      refine x_cp (va_runV (As := [.int x1]) (rest := []) ⟨hx, hb, hml, hown, hts⟩ (kX3_imageX l G cI cZ tl A0_now A0_now_swallows A0_now_seatX A0_now_seatY A0_now_curtainX A0_now_curtainFrom A0_now_curtainTo c0_now x1 r4 hr4) (cwV 1 hts gX5_mirror_X3_imageX rfl rfl rfl hsX3_imageX ⟨Nat.le_of_ble_eq_true rfl, Nat.le_of_ble_eq_true rfl⟩) ⟨PRO_blind, va_recv hK.1 hP (ci := 3) (q0 := 1) rfl rfl, PRO_at (hP.sub (ws' := [o3 A0_now c0_now A0_now_swallows A0_now_seatX A0_now_seatY A0_now_curtainX A0_now_curtainFrom A0_now_curtainTo]) [1] rfl) hK⟩ rfl rfl hl.1 rfl (lv_room (Nat.le_of_ble_eq_true rfl)) dX5_mirror_49 ⟨Nat.zero_le _, Nat.zero_le _⟩) ?_
      obtain rfl := Option.some.inj hres
      exact W.iret hx hb hr (fun t ht hW => ⟨rfl, ht⟩) (fun q h => absurd h List.not_mem_nil) dX5_mirror_52
    have hres := ite_f hres h3
    by_cases h5 : x3 = 1
    · have hres := ite_t hres h5
      refine lv_tableIn (off := 41) (tgt := 53) hx hb dX5_mirror_12 (by rw [h5]; decide) (by rw [h5]; decide) (by rw [h5]; rfl) (by decide) ?_
      refine lv_aload_n hx hb dX5_mirror_53 rfl (lv_at hl 0 rfl) ?_
      refine va_get (D := G) (ci := 5) (v := .ref A0_now) (C := RX5) (T := TX5) (N := 8) hx hb hts (fun w h => (List.mem_cons_of_mem _ (List.mem_append_left _ (List.mem_append_right _ h)))) hown hK.1 hP 0 rfl rfl 0 (by decide) (hts (.fieldLink RX5 10 "EchoSeats" "now" "LEchoSeats$Scene;") (List.mem_of_getElem? (i := 2) rfl)) (fun _ h9 => h9) rfl dX5_mirror_54 ?_
      refine lv_iload_n hx hb dX5_mirror_57 rfl (lv_at hl 2 rfl) ?_
      obtain ⟨r6, hr6, hres⟩ := bi_1 hres
      refine x_cp (va_runV (As := [.int x2]) (rest := []) ⟨hx, hb, hml, hown, hts⟩ (kX3_imageY l G cI cZ tl A0_now A0_now_swallows A0_now_seatX A0_now_seatY A0_now_curtainX A0_now_curtainFrom A0_now_curtainTo c0_now x2 r6 hr6) (cwV 1 hts gX5_mirror_X3_imageY rfl rfl rfl hsX3_imageY ⟨Nat.le_of_ble_eq_true rfl, Nat.le_of_ble_eq_true rfl⟩) ⟨PRO_blind, va_recv hK.1 hP (ci := 3) (q0 := 1) rfl rfl, PRO_at (hP.sub (ws' := [o3 A0_now c0_now A0_now_swallows A0_now_seatX A0_now_seatY A0_now_curtainX A0_now_curtainFrom A0_now_curtainTo]) [1] rfl) hK⟩ rfl rfl hl.1 rfl (lv_room (Nat.le_of_ble_eq_true rfl)) dX5_mirror_58 ⟨Nat.zero_le _, Nat.zero_le _⟩) ?_
      obtain rfl := Option.some.inj hres
      exact W.iret hx hb hr (fun t ht hW => ⟨rfl, ht⟩) (fun q h => absurd h List.not_mem_nil) dX5_mirror_61
    have hres := ite_f hres h5
    by_cases h7 : x3 = 2
    · have hres := ite_t hres h7
      refine lv_tableIn (off := 50) (tgt := 62) hx hb dX5_mirror_12 (by rw [h7]; decide) (by rw [h7]; decide) (by rw [h7]; rfl) (by decide) ?_
      refine lv_iload_n hx hb dX5_mirror_62 rfl (lv_at hl 1 rfl) ?_
      refine va_mabs hx hb (hml.trans hl.1.symm) hown (hts (.methodLink RX5 142 Lib.Math.abs.name) (List.mem_of_getElem? (i := 3) rfl)) (hts (.static Lib.Math.abs.name) (List.mem_of_getElem? (i := 4) rfl)) (hts (.initialized "java/lang/Math") (List.mem_of_getElem? (i := 5) rfl)) (hts (.code Lib.Math.abs.name Lib.Math.abs.code 1 (some .int)) (List.mem_of_getElem? (i := 6) rfl)) (Nat.le_of_ble_eq_true rfl) (Nat.le_of_ble_eq_true rfl) (Nat.zero_le _) (Nat.zero_le _) dX5_mirror_63 ?_
      refine lv_iload_n hx hb dX5_mirror_66 rfl (lv_at hl 2 rfl) ?_
      refine va_mabs hx hb (hml.trans hl.1.symm) hown (hts (.methodLink RX5 142 Lib.Math.abs.name) (List.mem_of_getElem? (i := 3) rfl)) (hts (.static Lib.Math.abs.name) (List.mem_of_getElem? (i := 4) rfl)) (hts (.initialized "java/lang/Math") (List.mem_of_getElem? (i := 5) rfl)) (hts (.code Lib.Math.abs.name Lib.Math.abs.code 1 (some .int)) (List.mem_of_getElem? (i := 6) rfl)) (Nat.le_of_ble_eq_true rfl) (Nat.le_of_ble_eq_true rfl) (Nat.zero_le _) (Nat.zero_le _) dX5_mirror_67 ?_
      refine lv_iadd hx hb dX5_mirror_70 ?_
      obtain rfl := Option.some.inj hres
      exact W.iret hx hb hr (fun t ht hW => ⟨rfl, ht⟩) (fun q h => absurd h List.not_mem_nil) dX5_mirror_71
    have hres := ite_f hres h7
    by_cases h8 : x3 = 3
    · have hres := ite_t hres h8
      refine lv_tableIn (off := 60) (tgt := 72) hx hb dX5_mirror_12 (by rw [h8]; decide) (by rw [h8]; decide) (by rw [h8]; rfl) (by decide) ?_
      refine lv_aload_n hx hb dX5_mirror_72 rfl (lv_at hl 0 rfl) ?_
      refine va_get (D := G) (ci := 5) (v := .ref A0_now) (C := RX5) (T := TX5) (N := 8) hx hb hts (fun w h => (List.mem_cons_of_mem _ (List.mem_append_left _ (List.mem_append_right _ h)))) hown hK.1 hP 0 rfl rfl 0 (by decide) (hts (.fieldLink RX5 10 "EchoSeats" "now" "LEchoSeats$Scene;") (List.mem_of_getElem? (i := 2) rfl)) (fun _ h9 => h9) rfl dX5_mirror_73 ?_
      refine lv_iload_n hx hb dX5_mirror_76 rfl (lv_at hl 1 rfl) ?_
      refine lv_iload_n hx hb dX5_mirror_77 rfl (lv_at hl 2 rfl) ?_
      obtain ⟨r9, hr9, hres⟩ := bi_1 hres
      refine x_cp (va_runV (As := [.int x1, .int x2]) (rest := []) ⟨hx, hb, hml, hown, hts⟩ (kX3_softPasses l G cI cZ tl A0_now A0_now_swallows A0_now_seatX A0_now_seatY A0_now_curtainX A0_now_curtainFrom A0_now_curtainTo c0_now c0_now_swallows x1 x2 r9 hr9) (cwV 2 hts gX5_mirror_X3_softPasses rfl rfl rfl hsX3_softPasses ⟨Nat.le_of_ble_eq_true rfl, Nat.le_of_ble_eq_true rfl⟩) ⟨PRO_blind, va_recv hK.1 hP (ci := 3) (q0 := 1) rfl rfl, PRO_at (hP.sub (ws' := [o3 A0_now c0_now A0_now_swallows A0_now_seatX A0_now_seatY A0_now_curtainX A0_now_curtainFrom A0_now_curtainTo, (A0_now_swallows, .inl (cI, 4, .inl c0_now_swallows))]) [1, 2] rfl) hK⟩ rfl rfl hl.1 rfl (lv_room (Nat.le_of_ble_eq_true rfl)) dX5_mirror_78 ⟨Nat.zero_le _, Nat.zero_le _⟩) ?_
      obtain rfl := Option.some.inj hres
      exact W.iret hx hb hr (fun t ht hW => ⟨rfl, ht⟩) (fun q h => absurd h List.not_mem_nil) dX5_mirror_81
    have hres := ite_f hres h8
    refine lv_tableOut (tgt := 82) hx hb dX5_mirror_12 (by have th3 := lv_neT h3 (a := 0) (by decide); have th5 := lv_neT h5 (a := 1) (by decide); have th7 := lv_neT h7 (a := 2) (by decide); have th8 := lv_neT h8 (a := 3) (by decide); omega) (by decide) ?_
    refine lv_ldc (v := (-1000000)) hx hb hown (hts (.constant RX5 134 (-1000000)) (List.mem_of_getElem? (i := 1) rfl)) dX5_mirror_82 ?_
    obtain rfl := Option.some.inj hres
    exact W.iret hx hb hr (fun t ht hW => ⟨rfl, ht⟩) (fun q h => absurd h List.not_mem_nil) dX5_mirror_84
  · have hres := ite_t hres h2
    refine lv_ldc (v := (-1000000)) hx hb hown (hts (.constant RX5 134 (-1000000)) (List.mem_of_getElem? (i := 1) rfl)) dX5_mirror_8 ?_
    obtain rfl := Option.some.inj hres
    exact W.iret hx hb hr (fun t ht hW => ⟨rfl, ht⟩) (fun q h => absurd h List.not_mem_nil) dX5_mirror_10
theorem hsX5_mirror : yX5_mirror.cls = RX5 ∧ yX5_mirror.cls ≠ "java/lang/invoke/MethodHandle" ∧ yX5_mirror.cls ≠ "java/lang/invoke/VarHandle" ∧ (parseMethodDescriptor yX5_mirror.desc).map (fun d => d.parameters.length) = some 3 := by decide +kernel
set_option maxHeartbeats 4000000 in
set_option maxRecDepth 100000 in
theorem kX5_moves (l : Launch) (G : va_G) (cI cZ : ClassId) (tl : List (ClassId × FieldType)) (sz : Nat) (A : Nat → Prop) (A0 A0_now A0_draft A0_kept A0_isKept A0_text A0_past A0_ear A0_finder A0_now_swallows A0_now_seatX A0_now_seatY A0_now_curtainX A0_now_curtainFrom A0_now_curtainTo A0_past_kinds A0_past_which A0_past_firsts A0_past_seconds : Nat) (c0_now c0_past c0_past_kinds c0_past_which c0_past_firsts c0_past_seconds : Nat → Int32) (x1 x2 : Int32) (res : Int32 × (Nat → Int32) × (Nat → Int32) × (Nat → Int32) × (Nat → Int32) × (Nat → Int32) × (Nat → Int32)) (hAe : A = va_A [o5 A0 A0_now A0_draft A0_kept A0_isKept A0_text A0_past A0_ear A0_finder, o3 A0_now c0_now A0_now_swallows A0_now_seatX A0_now_seatY A0_now_curtainX A0_now_curtainFrom A0_now_curtainTo, o2 A0_past c0_past A0_past_kinds A0_past_which A0_past_firsts A0_past_seconds, (A0_past_kinds, .inl (cI, 10, .inl c0_past_kinds)), (A0_past_which, .inl (cI, 10, .inl c0_past_which)), (A0_past_firsts, .inl (cI, 10, .inl c0_past_firsts)), (A0_past_seconds, .inl (cI, 10, .inl c0_past_seconds))] sz) (hres : fX5_moves c0_now c0_past c0_past_kinds c0_past_which c0_past_firsts c0_past_seconds x1 x2 = some res) : Met l yX5_moves wsX5_moves rX5_moves (va_Pc [.ref A0, .int x1, .int x2] (PRW G cI cZ tl [o5 A0 A0_now A0_draft A0_kept A0_isKept A0_text A0_past A0_ear A0_finder, o3 A0_now c0_now A0_now_swallows A0_now_seatX A0_now_seatY A0_now_curtainX A0_now_curtainFrom A0_now_curtainTo, o2 A0_past c0_past A0_past_kinds A0_past_which A0_past_firsts A0_past_seconds, (A0_past_kinds, .inl (cI, 10, .inl c0_past_kinds)), (A0_past_which, .inl (cI, 10, .inl c0_past_which)), (A0_past_firsts, .inl (cI, 10, .inl c0_past_firsts)), (A0_past_seconds, .inl (cI, 10, .inl c0_past_seconds))] sz)) (Qiw res.1 G A [o5 A0 A0_now A0_draft A0_kept A0_isKept A0_text A0_past A0_ear A0_finder, o3 A0_now res.2.1 A0_now_swallows A0_now_seatX A0_now_seatY A0_now_curtainX A0_now_curtainFrom A0_now_curtainTo, o2 A0_past res.2.2.1 A0_past_kinds A0_past_which A0_past_firsts A0_past_seconds, (A0_past_kinds, .inl (cI, 10, .inl res.2.2.2.1)), (A0_past_which, .inl (cI, 10, .inl res.2.2.2.2.1)), (A0_past_firsts, .inl (cI, 10, .inl res.2.2.2.2.2.1)), (A0_past_seconds, .inl (cI, 10, .inl res.2.2.2.2.2.2))]) 0 0 A := by
  refine Met.ofW (cc := cX5_moves) (maxL := 4) (ret := (some .int)) (by decide) rfl ?_
  intro p e s m args below meth c s₁ B hml hv
  obtain ⟨rfl, hsz, hP, hK, hD0⟩ := hv
  have hx := B.exec
  have hb := B.bytes
  have hr := B.returns
  have hts := atoms_spec (ws := wsX5_moves) B.pre
  have hown : s.vm.findClass RX5 = some m.cls := findClass_of_methodNamed B.named
  have hlocks := B.notSynchronized
  subst hsz
  have hD : va_D A [o5 A0 A0_now A0_draft A0_kept A0_isKept A0_text A0_past A0_ear A0_finder, o3 A0_now c0_now A0_now_swallows A0_now_seatX A0_now_seatY A0_now_curtainX A0_now_curtainFrom A0_now_curtainTo, o2 A0_past c0_past A0_past_kinds A0_past_which A0_past_firsts A0_past_seconds, (A0_past_kinds, .inl (cI, 10, .inl c0_past_kinds)), (A0_past_which, .inl (cI, 10, .inl c0_past_which)), (A0_past_firsts, .inl (cI, 10, .inl c0_past_firsts)), (A0_past_seconds, .inl (cI, 10, .inl c0_past_seconds))] := by rw [hAe]; exact hD0.self
  have hA : ∀ q : Nat, s.heap.size ≤ q → A q := fun q h => by rw [hAe]; exact Or.inr h
  clear hAe hD0
  have hS : va_S A s.heap s.heap [] := va_S.rf
  have hl := lv_entry ([.ref A0, .int x1, .int x2] : List Value) (n := 4) (Nat.le_of_ble_eq_true rfl)
  rw [lg_entry_eq]
  generalize (lg_sl ([.ref A0, .int x1, .int x2] : List Value) ++ List.replicate (4 - (lg_sl ([.ref A0, .int x1, .int x2] : List Value)).length) Slot.unset).toArray = ls at hl ⊢
  have hl : lv_has ls 4 [(0, .ref A0), (1, .int x1), (2, .int x2)] := hl
  have J57 : ∀ (v1_j57 : Int32) (v2_j57 : Int32) (e0_now_j57 : (Nat → Int32)) (e0_past_j57 : (Nat → Int32)) (e0_past_kinds_j57 : (Nat → Int32)) (e0_past_which_j57 : (Nat → Int32)) (e0_past_firsts_j57 : (Nat → Int32)) (e0_past_seconds_j57 : (Nat → Int32)) (H : Heap) (locs : List Loc) (ls : Array Slot), fX5_moves_j57 v1_j57 v2_j57 e0_now_j57 e0_past_j57 e0_past_kinds_j57 e0_past_which_j57 e0_past_firsts_j57 e0_past_seconds_j57 = some res → va_P G vwCl [o5 A0 A0_now A0_draft A0_kept A0_isKept A0_text A0_past A0_ear A0_finder, o3 A0_now e0_now_j57 A0_now_swallows A0_now_seatX A0_now_seatY A0_now_curtainX A0_now_curtainFrom A0_now_curtainTo, o2 A0_past e0_past_j57 A0_past_kinds A0_past_which A0_past_firsts A0_past_seconds, (A0_past_kinds, .inl (cI, 10, .inl e0_past_kinds_j57)), (A0_past_which, .inl (cI, 10, .inl e0_past_which_j57)), (A0_past_firsts, .inl (cI, 10, .inl e0_past_firsts_j57)), (A0_past_seconds, .inl (cI, 10, .inl e0_past_seconds_j57))] H → va_D A [o5 A0 A0_now A0_draft A0_kept A0_isKept A0_text A0_past A0_ear A0_finder, o3 A0_now e0_now_j57 A0_now_swallows A0_now_seatX A0_now_seatY A0_now_curtainX A0_now_curtainFrom A0_now_curtainTo, o2 A0_past e0_past_j57 A0_past_kinds A0_past_which A0_past_firsts A0_past_seconds, (A0_past_kinds, .inl (cI, 10, .inl e0_past_kinds_j57)), (A0_past_which, .inl (cI, 10, .inl e0_past_which_j57)), (A0_past_firsts, .inl (cI, 10, .inl e0_past_firsts_j57)), (A0_past_seconds, .inl (cI, 10, .inl e0_past_seconds_j57))] → va_S A s.heap H locs → lv_has ls 4 [(0, .ref A0), (1, .int v1_j57), (2, .int v2_j57)] → WRW p l e wsX5_moves rX5_moves s m ([.ref A0, .int x1, .int x2] : List Value).toArray below meth c H locs (Qiw res.1 G A [o5 A0 A0_now A0_draft A0_kept A0_isKept A0_text A0_past A0_ear A0_finder, o3 A0_now res.2.1 A0_now_swallows A0_now_seatX A0_now_seatY A0_now_curtainX A0_now_curtainFrom A0_now_curtainTo, o2 A0_past res.2.2.1 A0_past_kinds A0_past_which A0_past_firsts A0_past_seconds, (A0_past_kinds, .inl (cI, 10, .inl res.2.2.2.1)), (A0_past_which, .inl (cI, 10, .inl res.2.2.2.2.1)), (A0_past_firsts, .inl (cI, 10, .inl res.2.2.2.2.2.1)), (A0_past_seconds, .inl (cI, 10, .inl res.2.2.2.2.2.2))]) A (F0 m 57 ls []) := by
    intro v1_j57 v2_j57 e0_now_j57 e0_past_j57 e0_past_kinds_j57 e0_past_which_j57 e0_past_firsts_j57 e0_past_seconds_j57 H locs ls hres hP hD hS hl
    refine lv_aload_n hx hb dX5_moves_57 rfl (lv_at hl 0 rfl) ?_
    refine va_get (D := G) (ci := 5) (v := .ref A0_now) (C := RX5) (T := TX5) (N := 8) hx hb hts (fun w h => (List.mem_cons_of_mem _ (List.mem_append_left _ (List.mem_append_left _ (List.mem_append_right _ h))))) hown hK.1 hP 0 rfl rfl 0 (by decide) (hts (.fieldLink RX5 10 "EchoSeats" "now" "LEchoSeats$Scene;") (List.mem_of_getElem? (i := 1) rfl)) (fun _ h9 => h9) rfl dX5_moves_58 ?_
    obtain ⟨r1, hr1, hres⟩ := bi_1 hres
    refine x_cp (va_runV (As := []) (rest := []) ⟨hx, hb, hml, hown, hts⟩ (kX3_sourceCode l G cI cZ tl A0_now A0_now_swallows A0_now_seatX A0_now_seatY A0_now_curtainX A0_now_curtainFrom A0_now_curtainTo e0_now_j57 r1 hr1) (cwV 0 hts gX5_moves_X3_sourceCode rfl rfl rfl hsX3_sourceCode ⟨Nat.le_of_ble_eq_true rfl, Nat.le_of_ble_eq_true rfl⟩) ⟨PRO_blind, va_recv hK.1 hP (ci := 3) (q0 := 1) rfl rfl, PRO_at (hP.sub (ws' := [o3 A0_now e0_now_j57 A0_now_swallows A0_now_seatX A0_now_seatY A0_now_curtainX A0_now_curtainFrom A0_now_curtainTo]) [1] rfl) hK⟩ rfl rfl hl.1 rfl (lv_room (Nat.le_of_ble_eq_true rfl)) dX5_moves_61 ⟨Nat.zero_le _, Nat.zero_le _⟩) ?_
    refine lv_istore_n (lv' := [(3, .int r1), (0, .ref A0), (1, .int v1_j57), (2, .int v2_j57)]) hx hb dX5_moves_64 rfl hl (by decide) rfl (fun ls hl => ?_)
    refine lv_aload_n hx hb dX5_moves_65 rfl (lv_at hl 1 rfl) ?_
    refine va_get (D := G) (ci := 5) (v := .ref A0_past) (C := RX5) (T := TX5) (N := 8) hx hb hts (fun w h => (List.mem_cons_of_mem _ (List.mem_append_left _ (List.mem_append_left _ (List.mem_append_right _ h))))) hown hK.1 hP 0 rfl rfl 5 (by decide) (hts (.fieldLink RX5 37 "EchoSeats" "past" "LEchoSeats$Past;") (List.mem_of_getElem? (i := 6) rfl)) (fun _ h9 => h9) rfl dX5_moves_66 ?_
    refine lv_iconst (v := 2) hx hb dX5_moves_69 (by decide) ?_
    refine lv_iconst (v := 0) hx hb dX5_moves_70 (by decide) ?_
    refine lv_aload_n hx hb dX5_moves_71 rfl (lv_at hl 1 rfl) ?_
    refine va_get (D := G) (ci := 5) (v := .ref A0_now) (C := RX5) (T := TX5) (N := 8) hx hb hts (fun w h => (List.mem_cons_of_mem _ (List.mem_append_left _ (List.mem_append_left _ (List.mem_append_right _ h))))) hown hK.1 hP 0 rfl rfl 0 (by decide) (hts (.fieldLink RX5 10 "EchoSeats" "now" "LEchoSeats$Scene;") (List.mem_of_getElem? (i := 1) rfl)) (fun _ h9 => h9) rfl dX5_moves_72 ?_
    refine va_get (D := G) (ci := 3) (v := .int (e0_now_j57 2)) (C := RX3) (T := TX3) (N := 12) hx hb hts (fun w h => (List.mem_cons_of_mem _ (List.mem_append_left _ (List.mem_append_right _ h)))) hown hK.1 hP 1 rfl rfl 2 (by decide) (hts (.fieldLink RX5 117 "EchoSeats$Scene" "sourceX" "I") (List.mem_of_getElem? (i := 4) rfl)) (fun _ h9 => h9) rfl dX5_moves_75 ?_
    refine lv_aload_n hx hb dX5_moves_78 rfl (lv_at hl 1 rfl) ?_
    refine va_get (D := G) (ci := 5) (v := .ref A0_now) (C := RX5) (T := TX5) (N := 8) hx hb hts (fun w h => (List.mem_cons_of_mem _ (List.mem_append_left _ (List.mem_append_left _ (List.mem_append_right _ h))))) hown hK.1 hP 0 rfl rfl 0 (by decide) (hts (.fieldLink RX5 10 "EchoSeats" "now" "LEchoSeats$Scene;") (List.mem_of_getElem? (i := 1) rfl)) (fun _ h9 => h9) rfl dX5_moves_79 ?_
    refine va_get (D := G) (ci := 3) (v := .int (e0_now_j57 3)) (C := RX3) (T := TX3) (N := 12) hx hb hts (fun w h => (List.mem_cons_of_mem _ (List.mem_append_left _ (List.mem_append_right _ h)))) hown hK.1 hP 1 rfl rfl 3 (by decide) (hts (.fieldLink RX5 120 "EchoSeats$Scene" "sourceY" "I") (List.mem_of_getElem? (i := 5) rfl)) (fun _ h9 => h9) rfl dX5_moves_82 ?_
    obtain ⟨r2, hr2, hres⟩ := bi_1 hres
    refine x_cv (wr := [o5 A0 A0_now A0_draft A0_kept A0_isKept A0_text A0_past A0_ear A0_finder, o3 A0_now e0_now_j57 A0_now_swallows A0_now_seatX A0_now_seatY A0_now_curtainX A0_now_curtainFrom A0_now_curtainTo]) (w2 := [o5 A0 A0_now A0_draft A0_kept A0_isKept A0_text A0_past A0_ear A0_finder, o3 A0_now e0_now_j57 A0_now_swallows A0_now_seatX A0_now_seatY A0_now_curtainX A0_now_curtainFrom A0_now_curtainTo, o2 A0_past r2.1 A0_past_kinds A0_past_which A0_past_firsts A0_past_seconds, (A0_past_kinds, .inl (cI, 10, .inl r2.2.1)), (A0_past_which, .inl (cI, 10, .inl r2.2.2.1)), (A0_past_firsts, .inl (cI, 10, .inl r2.2.2.2.1)), (A0_past_seconds, .inl (cI, 10, .inl r2.2.2.2.2))]) hP hD hS hA (va_runV (As := [.int 2, .int 0, .int (e0_now_j57 2), .int (e0_now_j57 3)]) (rest := []) ⟨hx, hb, hml, hown, hts⟩ (kX2_add l G cI cZ tl H.size _ A0_past A0_past_kinds A0_past_which A0_past_firsts A0_past_seconds e0_past_j57 e0_past_kinds_j57 e0_past_which_j57 e0_past_firsts_j57 e0_past_seconds_j57 2 0 (e0_now_j57 2) (e0_now_j57 3) r2 rfl hr2) (cwV 4 hts gX5_moves_X2_add rfl rfl rfl hsX2_add ⟨Nat.le_of_ble_eq_true rfl, Nat.le_of_ble_eq_true rfl⟩) ⟨PRW_blind, va_recv hK.1 hP (ci := 2) (q0 := 2) rfl rfl, PRW_at (hP.sub (ws' := [o2 A0_past e0_past_j57 A0_past_kinds A0_past_which A0_past_firsts A0_past_seconds, (A0_past_kinds, .inl (cI, 10, .inl e0_past_kinds_j57)), (A0_past_which, .inl (cI, 10, .inl e0_past_which_j57)), (A0_past_firsts, .inl (cI, 10, .inl e0_past_firsts_j57)), (A0_past_seconds, .inl (cI, 10, .inl e0_past_seconds_j57))]) [2, 3, 4, 5, 6] rfl) (hD.sub (ws' := [o2 A0_past e0_past_j57 A0_past_kinds A0_past_which A0_past_firsts A0_past_seconds, (A0_past_kinds, .inl (cI, 10, .inl e0_past_kinds_j57)), (A0_past_which, .inl (cI, 10, .inl e0_past_which_j57)), (A0_past_firsts, .inl (cI, 10, .inl e0_past_firsts_j57)), (A0_past_seconds, .inl (cI, 10, .inl e0_past_seconds_j57))]) [2, 3, 4, 5, 6] (by decide) rfl) hK⟩ rfl rfl hl.1 rfl (lv_room (Nat.le_of_ble_eq_true rfl)) dX5_moves_85 ⟨Nat.zero_le _, Nat.zero_le _⟩) [2, 3, 4, 5, 6] [0, 1] [0, 1, 2, 3, 4, 5, 6] rfl rfl (by decide) (by decide) rfl rfl (by decide) (fun H locs hP hD hS => ?_)
    refine lv_aload_n hx hb dX5_moves_88 rfl (lv_at hl 1 rfl) ?_
    refine va_get (D := G) (ci := 5) (v := .ref A0_now) (C := RX5) (T := TX5) (N := 8) hx hb hts (fun w h => (List.mem_cons_of_mem _ (List.mem_append_left _ (List.mem_append_left _ (List.mem_append_right _ h))))) hown hK.1 hP 0 rfl rfl 0 (by decide) (hts (.fieldLink RX5 10 "EchoSeats" "now" "LEchoSeats$Scene;") (List.mem_of_getElem? (i := 1) rfl)) (fun _ h9 => h9) rfl dX5_moves_89 ?_
    refine lv_iload_n hx hb dX5_moves_92 rfl (lv_at hl 2 rfl) ?_
    refine va_put (D := G) (ci := 3) (v := .int v1_j57) (ty := .int) (C := RX3) (T := TX3) (N := 12) hx hb hts (fun w h => (List.mem_cons_of_mem _ (List.mem_append_left _ (List.mem_append_right _ h)))) tyX3 tyX3_ok nmX3 hown hK.1 hP hD hS 1 rfl rfl 2 (by decide) (hts (.fieldLink RX5 117 "EchoSeats$Scene" "sourceX" "I") (List.mem_of_getElem? (i := 4) rfl)) (fun _ h9 => h9) rfl (tyX3_ok 2 (by decide)) rfl rfl (Nat.le_of_ble_eq_true rfl) dX5_moves_93 (fun H locs hP hD hS => ?_)
    have hP : va_P G vwCl [o5 A0 A0_now A0_draft A0_kept A0_isKept A0_text A0_past A0_ear A0_finder, o3 A0_now (upd e0_now_j57 2 v1_j57) A0_now_swallows A0_now_seatX A0_now_seatY A0_now_curtainX A0_now_curtainFrom A0_now_curtainTo, o2 A0_past r2.1 A0_past_kinds A0_past_which A0_past_firsts A0_past_seconds, (A0_past_kinds, .inl (cI, 10, .inl r2.2.1)), (A0_past_which, .inl (cI, 10, .inl r2.2.2.1)), (A0_past_firsts, .inl (cI, 10, .inl r2.2.2.2.1)), (A0_past_seconds, .inl (cI, 10, .inl r2.2.2.2.2))] H := hP
    have hD : va_D A [o5 A0 A0_now A0_draft A0_kept A0_isKept A0_text A0_past A0_ear A0_finder, o3 A0_now (upd e0_now_j57 2 v1_j57) A0_now_swallows A0_now_seatX A0_now_seatY A0_now_curtainX A0_now_curtainFrom A0_now_curtainTo, o2 A0_past r2.1 A0_past_kinds A0_past_which A0_past_firsts A0_past_seconds, (A0_past_kinds, .inl (cI, 10, .inl r2.2.1)), (A0_past_which, .inl (cI, 10, .inl r2.2.2.1)), (A0_past_firsts, .inl (cI, 10, .inl r2.2.2.2.1)), (A0_past_seconds, .inl (cI, 10, .inl r2.2.2.2.2))] := hD
    refine lv_aload_n hx hb dX5_moves_96 rfl (lv_at hl 1 rfl) ?_
    refine va_get (D := G) (ci := 5) (v := .ref A0_now) (C := RX5) (T := TX5) (N := 8) hx hb hts (fun w h => (List.mem_cons_of_mem _ (List.mem_append_left _ (List.mem_append_left _ (List.mem_append_right _ h))))) hown hK.1 hP 0 rfl rfl 0 (by decide) (hts (.fieldLink RX5 10 "EchoSeats" "now" "LEchoSeats$Scene;") (List.mem_of_getElem? (i := 1) rfl)) (fun _ h9 => h9) rfl dX5_moves_97 ?_
    refine lv_iload_n hx hb dX5_moves_100 rfl (lv_at hl 3 rfl) ?_
    refine va_put (D := G) (ci := 3) (v := .int v2_j57) (ty := .int) (C := RX3) (T := TX3) (N := 12) hx hb hts (fun w h => (List.mem_cons_of_mem _ (List.mem_append_left _ (List.mem_append_right _ h)))) tyX3 tyX3_ok nmX3 hown hK.1 hP hD hS 1 rfl rfl 3 (by decide) (hts (.fieldLink RX5 120 "EchoSeats$Scene" "sourceY" "I") (List.mem_of_getElem? (i := 5) rfl)) (fun _ h9 => h9) rfl (tyX3_ok 3 (by decide)) rfl rfl (Nat.le_of_ble_eq_true rfl) dX5_moves_101 (fun H locs hP hD hS => ?_)
    have hP : va_P G vwCl [o5 A0 A0_now A0_draft A0_kept A0_isKept A0_text A0_past A0_ear A0_finder, o3 A0_now (upd (upd e0_now_j57 2 v1_j57) 3 v2_j57) A0_now_swallows A0_now_seatX A0_now_seatY A0_now_curtainX A0_now_curtainFrom A0_now_curtainTo, o2 A0_past r2.1 A0_past_kinds A0_past_which A0_past_firsts A0_past_seconds, (A0_past_kinds, .inl (cI, 10, .inl r2.2.1)), (A0_past_which, .inl (cI, 10, .inl r2.2.2.1)), (A0_past_firsts, .inl (cI, 10, .inl r2.2.2.2.1)), (A0_past_seconds, .inl (cI, 10, .inl r2.2.2.2.2))] H := hP
    have hD : va_D A [o5 A0 A0_now A0_draft A0_kept A0_isKept A0_text A0_past A0_ear A0_finder, o3 A0_now (upd (upd e0_now_j57 2 v1_j57) 3 v2_j57) A0_now_swallows A0_now_seatX A0_now_seatY A0_now_curtainX A0_now_curtainFrom A0_now_curtainTo, o2 A0_past r2.1 A0_past_kinds A0_past_which A0_past_firsts A0_past_seconds, (A0_past_kinds, .inl (cI, 10, .inl r2.2.1)), (A0_past_which, .inl (cI, 10, .inl r2.2.2.1)), (A0_past_firsts, .inl (cI, 10, .inl r2.2.2.2.1)), (A0_past_seconds, .inl (cI, 10, .inl r2.2.2.2.2))] := hD
    refine lv_iload_n hx hb dX5_moves_104 rfl (lv_at hl 0 rfl) ?_
    obtain rfl := Option.some.inj hres
    exact W.iret hx hb hr (fun t ht hW => ⟨⟨_, (), rfl, rfl, by rw [ht]; exact hP, hD⟩, hS.F ht⟩) hS.2.2 dX5_moves_105
  refine lv_iload_n hx hb dX5_moves_0 rfl (lv_at hl 1 rfl) ?_
  refine lv_iconst (v := 0) hx hb dX5_moves_1 (by decide) ?_
  refine lv_aload_n hx hb dX5_moves_2 rfl (lv_at hl 0 rfl) ?_
  refine va_get (D := G) (ci := 5) (v := .ref A0_now) (C := RX5) (T := TX5) (N := 8) hx hb hts (fun w h => (List.mem_cons_of_mem _ (List.mem_append_left _ (List.mem_append_left _ (List.mem_append_right _ h))))) hown hK.1 hP 0 rfl rfl 0 (by decide) (hts (.fieldLink RX5 10 "EchoSeats" "now" "LEchoSeats$Scene;") (List.mem_of_getElem? (i := 1) rfl)) (fun _ h9 => h9) rfl dX5_moves_3 ?_
  refine va_get (D := G) (ci := 3) (v := .int (c0_now 0)) (C := RX3) (T := TX3) (N := 12) hx hb hts (fun w h => (List.mem_cons_of_mem _ (List.mem_append_left _ (List.mem_append_right _ h)))) hown hK.1 hP 1 rfl rfl 0 (by decide) (hts (.fieldLink RX5 114 "EchoSeats$Scene" "length" "I") (List.mem_of_getElem? (i := 2) rfl)) (fun _ h9 => h9) rfl dX5_moves_6 ?_
  obtain ⟨r3, hr3, hres⟩ := bi_1 hres
  refine x_cp (va_runS (As := [.int x1, .int 0, .int (c0_now 0)]) (rest := []) ⟨hx, hb, hml, hown, hts⟩ (kX5_isWithin l G cI cZ tl x1 0 (c0_now 0) r3 hr3) (va_cwS 3 hts gX5_moves_X5_isWithin rfl rfl rfl hsX5_isWithin ⟨Nat.le_of_ble_eq_true rfl, Nat.le_of_ble_eq_true rfl⟩) ⟨PRO_blind, PRO_at va_P0 hK⟩ rfl rfl hl.1 rfl (lv_room (Nat.le_of_ble_eq_true rfl)) dX5_moves_9 ⟨Nat.zero_le _, Nat.zero_le _⟩) ?_
  refine lv_if_eq (tgt := 30) hx hb dX5_moves_12 (by decide) (fun h4 => ?_) (fun h4 => ?_)
  · have hres := ite_t hres h4
    refine lv_iconst (v := (-1)) hx hb dX5_moves_30 (by decide) ?_
    obtain rfl := Option.some.inj hres
    exact W.iret hx hb hr (fun t ht hW => ⟨⟨_, (), rfl, rfl, by rw [ht]; exact hP, hD⟩, hS.F ht⟩) hS.2.2 dX5_moves_31
  · have hres := ite_f hres h4
    refine lv_iload_n hx hb dX5_moves_15 rfl (lv_at hl 2 rfl) ?_
    refine lv_iconst (v := 0) hx hb dX5_moves_16 (by decide) ?_
    refine lv_aload_n hx hb dX5_moves_17 rfl (lv_at hl 0 rfl) ?_
    refine va_get (D := G) (ci := 5) (v := .ref A0_now) (C := RX5) (T := TX5) (N := 8) hx hb hts (fun w h => (List.mem_cons_of_mem _ (List.mem_append_left _ (List.mem_append_left _ (List.mem_append_right _ h))))) hown hK.1 hP 0 rfl rfl 0 (by decide) (hts (.fieldLink RX5 10 "EchoSeats" "now" "LEchoSeats$Scene;") (List.mem_of_getElem? (i := 1) rfl)) (fun _ h9 => h9) rfl dX5_moves_18 ?_
    refine va_get (D := G) (ci := 3) (v := .int (c0_now 1)) (C := RX3) (T := TX3) (N := 12) hx hb hts (fun w h => (List.mem_cons_of_mem _ (List.mem_append_left _ (List.mem_append_right _ h)))) hown hK.1 hP 1 rfl rfl 1 (by decide) (hts (.fieldLink RX5 111 "EchoSeats$Scene" "breadth" "I") (List.mem_of_getElem? (i := 3) rfl)) (fun _ h9 => h9) rfl dX5_moves_21 ?_
    obtain ⟨r5, hr5, hres⟩ := bi_1 hres
    refine x_cp (va_runS (As := [.int x2, .int 0, .int (c0_now 1)]) (rest := []) ⟨hx, hb, hml, hown, hts⟩ (kX5_isWithin l G cI cZ tl x2 0 (c0_now 1) r5 hr5) (va_cwS 3 hts gX5_moves_X5_isWithin rfl rfl rfl hsX5_isWithin ⟨Nat.le_of_ble_eq_true rfl, Nat.le_of_ble_eq_true rfl⟩) ⟨PRO_blind, PRO_at va_P0 hK⟩ rfl rfl hl.1 rfl (lv_room (Nat.le_of_ble_eq_true rfl)) dX5_moves_24 ⟨Nat.zero_le _, Nat.zero_le _⟩) ?_
    refine lv_if_ne (tgt := 32) hx hb dX5_moves_27 (by decide) (fun h6 => ?_) (fun h6 => ?_)
    · have hres := ite_f hres h6
      refine lv_aload_n hx hb dX5_moves_32 rfl (lv_at hl 0 rfl) ?_
      refine va_get (D := G) (ci := 5) (v := .ref A0_now) (C := RX5) (T := TX5) (N := 8) hx hb hts (fun w h => (List.mem_cons_of_mem _ (List.mem_append_left _ (List.mem_append_left _ (List.mem_append_right _ h))))) hown hK.1 hP 0 rfl rfl 0 (by decide) (hts (.fieldLink RX5 10 "EchoSeats" "now" "LEchoSeats$Scene;") (List.mem_of_getElem? (i := 1) rfl)) (fun _ h9 => h9) rfl dX5_moves_33 ?_
      refine va_get (D := G) (ci := 3) (v := .int (c0_now 2)) (C := RX3) (T := TX3) (N := 12) hx hb hts (fun w h => (List.mem_cons_of_mem _ (List.mem_append_left _ (List.mem_append_right _ h)))) hown hK.1 hP 1 rfl rfl 2 (by decide) (hts (.fieldLink RX5 117 "EchoSeats$Scene" "sourceX" "I") (List.mem_of_getElem? (i := 4) rfl)) (fun _ h9 => h9) rfl dX5_moves_36 ?_
      refine lv_iload_n hx hb dX5_moves_39 rfl (lv_at hl 1 rfl) ?_
      refine lv_icmp_ne (tgt := 57) hx hb dX5_moves_40 (by decide) (fun h7 => ?_) (fun h7 => ?_)
      · have hres := ite_f hres h7
        exact J57 x1 x2 c0_now c0_past c0_past_kinds c0_past_which c0_past_firsts c0_past_seconds _ _ _ hres hP hD hS (lv_sub hl [0, 1, 2] rfl)
      · have hres := ite_t hres h7
        refine lv_aload_n hx hb dX5_moves_43 rfl (lv_at hl 0 rfl) ?_
        refine va_get (D := G) (ci := 5) (v := .ref A0_now) (C := RX5) (T := TX5) (N := 8) hx hb hts (fun w h => (List.mem_cons_of_mem _ (List.mem_append_left _ (List.mem_append_left _ (List.mem_append_right _ h))))) hown hK.1 hP 0 rfl rfl 0 (by decide) (hts (.fieldLink RX5 10 "EchoSeats" "now" "LEchoSeats$Scene;") (List.mem_of_getElem? (i := 1) rfl)) (fun _ h9 => h9) rfl dX5_moves_44 ?_
        refine va_get (D := G) (ci := 3) (v := .int (c0_now 3)) (C := RX3) (T := TX3) (N := 12) hx hb hts (fun w h => (List.mem_cons_of_mem _ (List.mem_append_left _ (List.mem_append_right _ h)))) hown hK.1 hP 1 rfl rfl 3 (by decide) (hts (.fieldLink RX5 120 "EchoSeats$Scene" "sourceY" "I") (List.mem_of_getElem? (i := 5) rfl)) (fun _ h9 => h9) rfl dX5_moves_47 ?_
        refine lv_iload_n hx hb dX5_moves_50 rfl (lv_at hl 2 rfl) ?_
        refine lv_icmp_ne (tgt := 57) hx hb dX5_moves_51 (by decide) (fun h8 => ?_) (fun h8 => ?_)
        · have hres := ite_f hres h8
          exact J57 x1 x2 c0_now c0_past c0_past_kinds c0_past_which c0_past_firsts c0_past_seconds _ _ _ hres hP hD hS (lv_sub hl [0, 1, 2] rfl)
        · have hres := ite_t hres h8
          refine lv_bipush (v := (-2)) hx hb dX5_moves_54 (by decide) ?_
          obtain rfl := Option.some.inj hres
          exact W.iret hx hb hr (fun t ht hW => ⟨⟨_, (), rfl, rfl, by rw [ht]; exact hP, hD⟩, hS.F ht⟩) hS.2.2 dX5_moves_56
    · have hres := ite_t hres h6
      refine lv_iconst (v := (-1)) hx hb dX5_moves_30 (by decide) ?_
      obtain rfl := Option.some.inj hres
      exact W.iret hx hb hr (fun t ht hW => ⟨⟨_, (), rfl, rfl, by rw [ht]; exact hP, hD⟩, hS.F ht⟩) hS.2.2 dX5_moves_31
theorem hsX5_moves : yX5_moves.cls = RX5 ∧ yX5_moves.cls ≠ "java/lang/invoke/MethodHandle" ∧ yX5_moves.cls ≠ "java/lang/invoke/VarHandle" ∧ (parseMethodDescriptor yX5_moves.desc).map (fun d => d.parameters.length) = some 2 := by decide +kernel
set_option maxHeartbeats 4000000 in
set_option maxRecDepth 100000 in
theorem kX5_odds (l : Launch) (G : va_G) (cI cZ : ClassId) (tl : List (ClassId × FieldType)) (sz : Nat) (A : Nat → Prop) (A0 A0_now A0_draft A0_kept A0_isKept A0_text A0_past A0_ear A0_finder A0_now_swallows A0_now_seatX A0_now_seatY A0_now_curtainX A0_now_curtainFrom A0_now_curtainTo A0_ear_is A0_ear_js A0_ear_ways A0_ear_times A0_ear_strengths A0_ear_deafened : Nat) (c0_now c0_ear c0_now_seatX c0_now_seatY c0_now_curtainX c0_now_curtainFrom c0_now_curtainTo c0_ear_times c0_ear_is c0_ear_js c0_ear_ways c0_ear_strengths c0_now_swallows c0_ear_deafened : Nat → Int32) (x1 x2 x3 x4 : Int32) (res : Int32 × (Nat → Int32) × (Nat → Int32) × (Nat → Int32) × (Nat → Int32) × (Nat → Int32) × (Nat → Int32) × (Nat → Int32)) (hAe : A = va_A [o5 A0 A0_now A0_draft A0_kept A0_isKept A0_text A0_past A0_ear A0_finder, o3 A0_now c0_now A0_now_swallows A0_now_seatX A0_now_seatY A0_now_curtainX A0_now_curtainFrom A0_now_curtainTo, o0 A0_ear c0_ear A0_ear_is A0_ear_js A0_ear_ways A0_ear_times A0_ear_strengths A0_ear_deafened, (A0_now_seatX, .inl (cI, 4, .inl c0_now_seatX)), (A0_now_seatY, .inl (cI, 4, .inl c0_now_seatY)), (A0_now_curtainX, .inl (cI, 3, .inl c0_now_curtainX)), (A0_now_curtainFrom, .inl (cI, 3, .inl c0_now_curtainFrom)), (A0_now_curtainTo, .inl (cI, 3, .inl c0_now_curtainTo)), (A0_ear_times, .inl (cI, 25, .inl c0_ear_times)), (A0_ear_is, .inl (cI, 25, .inl c0_ear_is)), (A0_ear_js, .inl (cI, 25, .inl c0_ear_js)), (A0_ear_ways, .inl (cI, 25, .inl c0_ear_ways)), (A0_ear_strengths, .inl (cI, 25, .inl c0_ear_strengths)), (A0_now_swallows, .inl (cI, 4, .inl c0_now_swallows)), (A0_ear_deafened, .inl (cI, 4, .inl c0_ear_deafened))] sz) (hres : fX5_odds c0_now c0_ear c0_now_seatX c0_now_seatY c0_now_curtainX c0_now_curtainFrom c0_now_curtainTo c0_ear_times c0_ear_is c0_ear_js c0_ear_ways c0_ear_strengths c0_now_swallows c0_ear_deafened x1 x2 x3 x4 = some res) : Met l yX5_odds wsX5_odds rX5_odds (va_Pc [.ref A0, .int x1, .int x2, .int x3, .int x4] (PRW G cI cZ tl [o5 A0 A0_now A0_draft A0_kept A0_isKept A0_text A0_past A0_ear A0_finder, o3 A0_now c0_now A0_now_swallows A0_now_seatX A0_now_seatY A0_now_curtainX A0_now_curtainFrom A0_now_curtainTo, o0 A0_ear c0_ear A0_ear_is A0_ear_js A0_ear_ways A0_ear_times A0_ear_strengths A0_ear_deafened, (A0_now_seatX, .inl (cI, 4, .inl c0_now_seatX)), (A0_now_seatY, .inl (cI, 4, .inl c0_now_seatY)), (A0_now_curtainX, .inl (cI, 3, .inl c0_now_curtainX)), (A0_now_curtainFrom, .inl (cI, 3, .inl c0_now_curtainFrom)), (A0_now_curtainTo, .inl (cI, 3, .inl c0_now_curtainTo)), (A0_ear_times, .inl (cI, 25, .inl c0_ear_times)), (A0_ear_is, .inl (cI, 25, .inl c0_ear_is)), (A0_ear_js, .inl (cI, 25, .inl c0_ear_js)), (A0_ear_ways, .inl (cI, 25, .inl c0_ear_ways)), (A0_ear_strengths, .inl (cI, 25, .inl c0_ear_strengths)), (A0_now_swallows, .inl (cI, 4, .inl c0_now_swallows)), (A0_ear_deafened, .inl (cI, 4, .inl c0_ear_deafened))] sz)) (Qiw res.1 G A [o5 A0 A0_now A0_draft A0_kept A0_isKept A0_text A0_past A0_ear A0_finder, o3 A0_now c0_now A0_now_swallows A0_now_seatX A0_now_seatY A0_now_curtainX A0_now_curtainFrom A0_now_curtainTo, o0 A0_ear res.2.1 A0_ear_is A0_ear_js A0_ear_ways A0_ear_times A0_ear_strengths A0_ear_deafened, (A0_now_seatX, .inl (cI, 4, .inl c0_now_seatX)), (A0_now_seatY, .inl (cI, 4, .inl c0_now_seatY)), (A0_now_curtainX, .inl (cI, 3, .inl c0_now_curtainX)), (A0_now_curtainFrom, .inl (cI, 3, .inl c0_now_curtainFrom)), (A0_now_curtainTo, .inl (cI, 3, .inl c0_now_curtainTo)), (A0_ear_times, .inl (cI, 25, .inl res.2.2.1)), (A0_ear_is, .inl (cI, 25, .inl res.2.2.2.1)), (A0_ear_js, .inl (cI, 25, .inl res.2.2.2.2.1)), (A0_ear_ways, .inl (cI, 25, .inl res.2.2.2.2.2.1)), (A0_ear_strengths, .inl (cI, 25, .inl res.2.2.2.2.2.2.1)), (A0_now_swallows, .inl (cI, 4, .inl c0_now_swallows)), (A0_ear_deafened, .inl (cI, 4, .inl res.2.2.2.2.2.2.2))]) 0 0 A := by
  refine Met.ofW (cc := cX5_odds) (maxL := 7) (ret := (some .int)) (by decide) rfl ?_
  intro p e s m args below meth c s₁ B hml hv
  obtain ⟨rfl, hsz, hP, hK, hD0⟩ := hv
  have hx := B.exec
  have hb := B.bytes
  have hr := B.returns
  have hts := atoms_spec (ws := wsX5_odds) B.pre
  have hown : s.vm.findClass RX5 = some m.cls := findClass_of_methodNamed B.named
  have hlocks := B.notSynchronized
  subst hsz
  have hD : va_D A [o5 A0 A0_now A0_draft A0_kept A0_isKept A0_text A0_past A0_ear A0_finder, o3 A0_now c0_now A0_now_swallows A0_now_seatX A0_now_seatY A0_now_curtainX A0_now_curtainFrom A0_now_curtainTo, o0 A0_ear c0_ear A0_ear_is A0_ear_js A0_ear_ways A0_ear_times A0_ear_strengths A0_ear_deafened, (A0_now_seatX, .inl (cI, 4, .inl c0_now_seatX)), (A0_now_seatY, .inl (cI, 4, .inl c0_now_seatY)), (A0_now_curtainX, .inl (cI, 3, .inl c0_now_curtainX)), (A0_now_curtainFrom, .inl (cI, 3, .inl c0_now_curtainFrom)), (A0_now_curtainTo, .inl (cI, 3, .inl c0_now_curtainTo)), (A0_ear_times, .inl (cI, 25, .inl c0_ear_times)), (A0_ear_is, .inl (cI, 25, .inl c0_ear_is)), (A0_ear_js, .inl (cI, 25, .inl c0_ear_js)), (A0_ear_ways, .inl (cI, 25, .inl c0_ear_ways)), (A0_ear_strengths, .inl (cI, 25, .inl c0_ear_strengths)), (A0_now_swallows, .inl (cI, 4, .inl c0_now_swallows)), (A0_ear_deafened, .inl (cI, 4, .inl c0_ear_deafened))] := by rw [hAe]; exact hD0.self
  have hA : ∀ q : Nat, s.heap.size ≤ q → A q := fun q h => by rw [hAe]; exact Or.inr h
  clear hAe hD0
  have hS : va_S A s.heap s.heap [] := va_S.rf
  have hl := lv_entry ([.ref A0, .int x1, .int x2, .int x3, .int x4] : List Value) (n := 7) (Nat.le_of_ble_eq_true rfl)
  rw [lg_entry_eq]
  generalize (lg_sl ([.ref A0, .int x1, .int x2, .int x3, .int x4] : List Value) ++ List.replicate (7 - (lg_sl ([.ref A0, .int x1, .int x2, .int x3, .int x4] : List Value)).length) Slot.unset).toArray = ls at hl ⊢
  have hl : lv_has ls 7 [(0, .ref A0), (1, .int x1), (2, .int x2), (3, .int x3), (4, .int x4)] := hl
  refine lv_iload_n hx hb dX5_odds_0 rfl (lv_at hl 1 rfl) ?_
  refine lv_iconst (v := 0) hx hb dX5_odds_1 (by decide) ?_
  refine lv_bipush (v := 10) hx hb dX5_odds_2 (by decide) ?_
  obtain ⟨r1, hr1, hres⟩ := bi_1 hres
  refine x_cp (va_runS (As := [.int x1, .int 0, .int 10]) (rest := []) ⟨hx, hb, hml, hown, hts⟩ (kX5_isWithin l G cI cZ tl x1 0 10 r1 hr1) (va_cwS 3 hts gX5_odds_X5_isWithin rfl rfl rfl hsX5_isWithin ⟨Nat.le_of_ble_eq_true rfl, Nat.le_of_ble_eq_true rfl⟩) ⟨PRO_blind, PRO_at va_P0 hK⟩ rfl rfl hl.1 rfl (lv_room (Nat.le_of_ble_eq_true rfl)) dX5_odds_4 ⟨Nat.zero_le _, Nat.zero_le _⟩) ?_
  refine lv_if_eq (tgt := 41) hx hb dX5_odds_7 (by decide) (fun h2 => ?_) (fun h2 => ?_)
  · have hres := ite_t hres h2
    refine lv_iconst (v := (-1)) hx hb dX5_odds_41 (by decide) ?_
    obtain rfl := Option.some.inj hres
    exact W.iret hx hb hr (fun t ht hW => ⟨⟨_, (), rfl, rfl, by rw [ht]; exact hP, hD⟩, hS.F ht⟩) hS.2.2 dX5_odds_42
  · have hres := ite_f hres h2
    refine lv_aload_n hx hb dX5_odds_10 rfl (lv_at hl 0 rfl) ?_
    refine va_get (D := G) (ci := 5) (v := .ref A0_now) (C := RX5) (T := TX5) (N := 8) hx hb hts (fun w h => (List.mem_cons_of_mem _ (List.mem_append_left _ (List.mem_append_left _ (List.mem_append_right _ h))))) hown hK.1 hP 0 rfl rfl 0 (by decide) (hts (.fieldLink RX5 10 "EchoSeats" "now" "LEchoSeats$Scene;") (List.mem_of_getElem? (i := 1) rfl)) (fun _ h9 => h9) rfl dX5_odds_11 ?_
    refine lv_iload_n hx hb dX5_odds_14 rfl (lv_at hl 2 rfl) ?_
    obtain ⟨r3, hr3, hres⟩ := bi_1 hres
    refine x_cp (va_runV (As := [.int x2]) (rest := []) ⟨hx, hb, hml, hown, hts⟩ (kX3_hasSeat l G cI cZ tl A0_now A0_now_swallows A0_now_seatX A0_now_seatY A0_now_curtainX A0_now_curtainFrom A0_now_curtainTo c0_now x2 r3 hr3) (cwV 1 hts gX5_odds_X3_hasSeat rfl rfl rfl hsX3_hasSeat ⟨Nat.le_of_ble_eq_true rfl, Nat.le_of_ble_eq_true rfl⟩) ⟨PRO_blind, va_recv hK.1 hP (ci := 3) (q0 := 1) rfl rfl, PRO_at (hP.sub (ws' := [o3 A0_now c0_now A0_now_swallows A0_now_seatX A0_now_seatY A0_now_curtainX A0_now_curtainFrom A0_now_curtainTo]) [1] rfl) hK⟩ rfl rfl hl.1 rfl (lv_room (Nat.le_of_ble_eq_true rfl)) dX5_odds_15 ⟨Nat.zero_le _, Nat.zero_le _⟩) ?_
    refine lv_if_eq (tgt := 41) hx hb dX5_odds_18 (by decide) (fun h4 => ?_) (fun h4 => ?_)
    · have hres := ite_t hres h4
      refine lv_iconst (v := (-1)) hx hb dX5_odds_41 (by decide) ?_
      obtain rfl := Option.some.inj hres
      exact W.iret hx hb hr (fun t ht hW => ⟨⟨_, (), rfl, rfl, by rw [ht]; exact hP, hD⟩, hS.F ht⟩) hS.2.2 dX5_odds_42
    · have hres := ite_f hres h4
      refine lv_iload_n hx hb dX5_odds_21 rfl (lv_at hl 3 rfl) ?_
      refine lv_iconst (v := 0) hx hb dX5_odds_22 (by decide) ?_
      refine lv_ldc (v := 999999) hx hb hown (hts (.constant RX5 208 999999) (List.mem_of_getElem? (i := 2) rfl)) dX5_odds_23 ?_
      obtain ⟨r5, hr5, hres⟩ := bi_1 hres
      refine x_cp (va_runS (As := [.int x3, .int 0, .int 999999]) (rest := []) ⟨hx, hb, hml, hown, hts⟩ (kX5_isWithin l G cI cZ tl x3 0 999999 r5 hr5) (va_cwS 3 hts gX5_odds_X5_isWithin rfl rfl rfl hsX5_isWithin ⟨Nat.le_of_ble_eq_true rfl, Nat.le_of_ble_eq_true rfl⟩) ⟨PRO_blind, PRO_at va_P0 hK⟩ rfl rfl hl.1 rfl (lv_room (Nat.le_of_ble_eq_true rfl)) dX5_odds_25 ⟨Nat.zero_le _, Nat.zero_le _⟩) ?_
      refine lv_if_eq (tgt := 41) hx hb dX5_odds_28 (by decide) (fun h6 => ?_) (fun h6 => ?_)
      · have hres := ite_t hres h6
        refine lv_iconst (v := (-1)) hx hb dX5_odds_41 (by decide) ?_
        obtain rfl := Option.some.inj hres
        exact W.iret hx hb hr (fun t ht hW => ⟨⟨_, (), rfl, rfl, by rw [ht]; exact hP, hD⟩, hS.F ht⟩) hS.2.2 dX5_odds_42
      · have hres := ite_f hres h6
        refine lv_iload hx hb dX5_odds_31 (lv_at hl 4 rfl) ?_
        refine lv_iconst (v := 0) hx hb dX5_odds_33 (by decide) ?_
        refine lv_iconst (v := 1) hx hb dX5_odds_34 (by decide) ?_
        obtain ⟨r7, hr7, hres⟩ := bi_1 hres
        refine x_cp (va_runS (As := [.int x4, .int 0, .int 1]) (rest := []) ⟨hx, hb, hml, hown, hts⟩ (kX5_isWithin l G cI cZ tl x4 0 1 r7 hr7) (va_cwS 3 hts gX5_odds_X5_isWithin rfl rfl rfl hsX5_isWithin ⟨Nat.le_of_ble_eq_true rfl, Nat.le_of_ble_eq_true rfl⟩) ⟨PRO_blind, PRO_at va_P0 hK⟩ rfl rfl hl.1 rfl (lv_room (Nat.le_of_ble_eq_true rfl)) dX5_odds_35 ⟨Nat.zero_le _, Nat.zero_le _⟩) ?_
        refine lv_if_ne (tgt := 43) hx hb dX5_odds_38 (by decide) (fun h8 => ?_) (fun h8 => ?_)
        · have hres := ite_f hres h8
          refine lv_aload_n hx hb dX5_odds_43 rfl (lv_at hl 0 rfl) ?_
          refine va_get (D := G) (ci := 5) (v := .ref A0_ear) (C := RX5) (T := TX5) (N := 8) hx hb hts (fun w h => (List.mem_cons_of_mem _ (List.mem_append_left _ (List.mem_append_left _ (List.mem_append_right _ h))))) hown hK.1 hP 0 rfl rfl 6 (by decide) (hts (.fieldLink RX5 44 "EchoSeats" "ear" "LEchoSeats$Ear;") (List.mem_of_getElem? (i := 3) rfl)) (fun _ h9 => h9) rfl dX5_odds_44 ?_
          refine lv_aload_n hx hb dX5_odds_47 rfl (lv_at hl 0 rfl) ?_
          refine va_get (D := G) (ci := 5) (v := .ref A0_now) (C := RX5) (T := TX5) (N := 8) hx hb hts (fun w h => (List.mem_cons_of_mem _ (List.mem_append_left _ (List.mem_append_left _ (List.mem_append_right _ h))))) hown hK.1 hP 0 rfl rfl 0 (by decide) (hts (.fieldLink RX5 10 "EchoSeats" "now" "LEchoSeats$Scene;") (List.mem_of_getElem? (i := 1) rfl)) (fun _ h9 => h9) rfl dX5_odds_48 ?_
          refine lv_iload_n hx hb dX5_odds_51 rfl (lv_at hl 2 rfl) ?_
          obtain ⟨r9, hr9, hres⟩ := bi_1 hres
          refine x_cv (wr := [o5 A0 A0_now A0_draft A0_kept A0_isKept A0_text A0_past A0_ear A0_finder, (A0_ear_deafened, .inl (cI, 4, .inl c0_ear_deafened))]) (w2 := [o5 A0 A0_now A0_draft A0_kept A0_isKept A0_text A0_past A0_ear A0_finder, o3 A0_now c0_now A0_now_swallows A0_now_seatX A0_now_seatY A0_now_curtainX A0_now_curtainFrom A0_now_curtainTo, o0 A0_ear r9.1 A0_ear_is A0_ear_js A0_ear_ways A0_ear_times A0_ear_strengths A0_ear_deafened, (A0_now_seatX, .inl (cI, 4, .inl c0_now_seatX)), (A0_now_seatY, .inl (cI, 4, .inl c0_now_seatY)), (A0_now_curtainX, .inl (cI, 3, .inl c0_now_curtainX)), (A0_now_curtainFrom, .inl (cI, 3, .inl c0_now_curtainFrom)), (A0_now_curtainTo, .inl (cI, 3, .inl c0_now_curtainTo)), (A0_ear_times, .inl (cI, 25, .inl r9.2.1)), (A0_ear_is, .inl (cI, 25, .inl r9.2.2.1)), (A0_ear_js, .inl (cI, 25, .inl r9.2.2.2.1)), (A0_ear_ways, .inl (cI, 25, .inl r9.2.2.2.2.1)), (A0_ear_strengths, .inl (cI, 25, .inl r9.2.2.2.2.2)), (A0_now_swallows, .inl (cI, 4, .inl c0_now_swallows)), (A0_ear_deafened, .inl (cI, 4, .inl c0_ear_deafened))]) hP hD hS hA (va_runV (As := [.ref A0_now, .int x2]) (rest := []) ⟨hx, hb, hml, hown, hts⟩ (kX0_hearAtSeat l G cI cZ tl s.heap.size _ A0_ear A0_ear_is A0_ear_js A0_ear_ways A0_ear_times A0_ear_strengths A0_ear_deafened A0_now A0_now_swallows A0_now_seatX A0_now_seatY A0_now_curtainX A0_now_curtainFrom A0_now_curtainTo c0_ear c0_now c0_now_seatX c0_now_seatY c0_now_curtainX c0_now_curtainFrom c0_now_curtainTo c0_ear_times c0_ear_is c0_ear_js c0_ear_ways c0_ear_strengths c0_now_swallows x2 r9 rfl hr9) (cwV 2 hts gX5_odds_X0_hearAtSeat rfl rfl rfl hsX0_hearAtSeat ⟨Nat.le_of_ble_eq_true rfl, Nat.le_of_ble_eq_true rfl⟩) ⟨PRW_blind, va_recv hK.1 hP (ci := 0) (q0 := 2) rfl rfl, PRW_at (hP.sub (ws' := [o0 A0_ear c0_ear A0_ear_is A0_ear_js A0_ear_ways A0_ear_times A0_ear_strengths A0_ear_deafened, o3 A0_now c0_now A0_now_swallows A0_now_seatX A0_now_seatY A0_now_curtainX A0_now_curtainFrom A0_now_curtainTo, (A0_now_seatX, .inl (cI, 4, .inl c0_now_seatX)), (A0_now_seatY, .inl (cI, 4, .inl c0_now_seatY)), (A0_now_curtainX, .inl (cI, 3, .inl c0_now_curtainX)), (A0_now_curtainFrom, .inl (cI, 3, .inl c0_now_curtainFrom)), (A0_now_curtainTo, .inl (cI, 3, .inl c0_now_curtainTo)), (A0_ear_times, .inl (cI, 25, .inl c0_ear_times)), (A0_ear_is, .inl (cI, 25, .inl c0_ear_is)), (A0_ear_js, .inl (cI, 25, .inl c0_ear_js)), (A0_ear_ways, .inl (cI, 25, .inl c0_ear_ways)), (A0_ear_strengths, .inl (cI, 25, .inl c0_ear_strengths)), (A0_now_swallows, .inl (cI, 4, .inl c0_now_swallows))]) [2, 1, 3, 4, 5, 6, 7, 8, 9, 10, 11, 12, 13] rfl) (hD.sub (ws' := [o0 A0_ear c0_ear A0_ear_is A0_ear_js A0_ear_ways A0_ear_times A0_ear_strengths A0_ear_deafened, o3 A0_now c0_now A0_now_swallows A0_now_seatX A0_now_seatY A0_now_curtainX A0_now_curtainFrom A0_now_curtainTo, (A0_now_seatX, .inl (cI, 4, .inl c0_now_seatX)), (A0_now_seatY, .inl (cI, 4, .inl c0_now_seatY)), (A0_now_curtainX, .inl (cI, 3, .inl c0_now_curtainX)), (A0_now_curtainFrom, .inl (cI, 3, .inl c0_now_curtainFrom)), (A0_now_curtainTo, .inl (cI, 3, .inl c0_now_curtainTo)), (A0_ear_times, .inl (cI, 25, .inl c0_ear_times)), (A0_ear_is, .inl (cI, 25, .inl c0_ear_is)), (A0_ear_js, .inl (cI, 25, .inl c0_ear_js)), (A0_ear_ways, .inl (cI, 25, .inl c0_ear_ways)), (A0_ear_strengths, .inl (cI, 25, .inl c0_ear_strengths)), (A0_now_swallows, .inl (cI, 4, .inl c0_now_swallows))]) [2, 1, 3, 4, 5, 6, 7, 8, 9, 10, 11, 12, 13] (by decide) rfl) hK⟩ rfl rfl hl.1 rfl (lv_room (Nat.le_of_ble_eq_true rfl)) dX5_odds_52 ⟨Nat.zero_le _, Nat.zero_le _⟩) [2, 1, 3, 4, 5, 6, 7, 8, 9, 10, 11, 12, 13] [0, 14] [0, 3, 2, 4, 5, 6, 7, 8, 9, 10, 11, 12, 13, 14, 1] rfl rfl (by decide) (by decide) rfl rfl (by decide) (fun H locs hP hD hS => ?_)
          refine lv_iconst (v := 0) hx hb dX5_odds_55 (by decide) ?_
          refine lv_istore (lv' := [(5, .int 0), (0, .ref A0), (1, .int x1), (2, .int x2), (3, .int x3), (4, .int x4)]) hx hb dX5_odds_56 hl (by decide) rfl (fun ls hl => ?_)
          refine lv_iconst (v := 0) hx hb dX5_odds_58 (by decide) ?_
          refine lv_istore (lv' := [(6, .int 0), (5, .int 0), (0, .ref A0), (1, .int x1), (2, .int x2), (3, .int x3), (4, .int x4)]) hx hb dX5_odds_59 hl (by decide) rfl (fun ls hl => ?_)
          have Q61 : ∀ (v1_L61 : Int32) (v3_L61 : Int32) (v4_L61 : Int32) (e0_ear_L61 : (Nat → Int32)) (e0_ear_times_L61 : (Nat → Int32)) (e0_ear_is_L61 : (Nat → Int32)) (e0_ear_js_L61 : (Nat → Int32)) (e0_ear_ways_L61 : (Nat → Int32)) (e0_ear_strengths_L61 : (Nat → Int32)) (n61 : Nat) (v5_L61 : Int32) (v6_L61 : Int32) (e0_ear_deafened_L61 : (Nat → Int32)) (H : Heap) (locs : List Loc) (ls : Array Slot), LPX (fX5_odds_L61 c0_now c0_now_seatX c0_now_seatY c0_now_curtainX c0_now_curtainFrom c0_now_curtainTo c0_now_swallows v1_L61 v3_L61 v4_L61 e0_ear_L61 e0_ear_times_L61 e0_ear_is_L61 e0_ear_js_L61 e0_ear_ways_L61 e0_ear_strengths_L61) n61 (v5_L61, v6_L61, e0_ear_deafened_L61) = some res → va_P G vwCl [o5 A0 A0_now A0_draft A0_kept A0_isKept A0_text A0_past A0_ear A0_finder, o3 A0_now c0_now A0_now_swallows A0_now_seatX A0_now_seatY A0_now_curtainX A0_now_curtainFrom A0_now_curtainTo, o0 A0_ear e0_ear_L61 A0_ear_is A0_ear_js A0_ear_ways A0_ear_times A0_ear_strengths A0_ear_deafened, (A0_now_seatX, .inl (cI, 4, .inl c0_now_seatX)), (A0_now_seatY, .inl (cI, 4, .inl c0_now_seatY)), (A0_now_curtainX, .inl (cI, 3, .inl c0_now_curtainX)), (A0_now_curtainFrom, .inl (cI, 3, .inl c0_now_curtainFrom)), (A0_now_curtainTo, .inl (cI, 3, .inl c0_now_curtainTo)), (A0_ear_times, .inl (cI, 25, .inl e0_ear_times_L61)), (A0_ear_is, .inl (cI, 25, .inl e0_ear_is_L61)), (A0_ear_js, .inl (cI, 25, .inl e0_ear_js_L61)), (A0_ear_ways, .inl (cI, 25, .inl e0_ear_ways_L61)), (A0_ear_strengths, .inl (cI, 25, .inl e0_ear_strengths_L61)), (A0_now_swallows, .inl (cI, 4, .inl c0_now_swallows)), (A0_ear_deafened, .inl (cI, 4, .inl e0_ear_deafened_L61))] H → va_D A [o5 A0 A0_now A0_draft A0_kept A0_isKept A0_text A0_past A0_ear A0_finder, o3 A0_now c0_now A0_now_swallows A0_now_seatX A0_now_seatY A0_now_curtainX A0_now_curtainFrom A0_now_curtainTo, o0 A0_ear e0_ear_L61 A0_ear_is A0_ear_js A0_ear_ways A0_ear_times A0_ear_strengths A0_ear_deafened, (A0_now_seatX, .inl (cI, 4, .inl c0_now_seatX)), (A0_now_seatY, .inl (cI, 4, .inl c0_now_seatY)), (A0_now_curtainX, .inl (cI, 3, .inl c0_now_curtainX)), (A0_now_curtainFrom, .inl (cI, 3, .inl c0_now_curtainFrom)), (A0_now_curtainTo, .inl (cI, 3, .inl c0_now_curtainTo)), (A0_ear_times, .inl (cI, 25, .inl e0_ear_times_L61)), (A0_ear_is, .inl (cI, 25, .inl e0_ear_is_L61)), (A0_ear_js, .inl (cI, 25, .inl e0_ear_js_L61)), (A0_ear_ways, .inl (cI, 25, .inl e0_ear_ways_L61)), (A0_ear_strengths, .inl (cI, 25, .inl e0_ear_strengths_L61)), (A0_now_swallows, .inl (cI, 4, .inl c0_now_swallows)), (A0_ear_deafened, .inl (cI, 4, .inl e0_ear_deafened_L61))] → va_S A s.heap H locs → lv_has ls 7 [(0, .ref A0), (1, .int v1_L61), (3, .int v3_L61), (4, .int v4_L61), (5, .int v5_L61), (6, .int v6_L61)] → WRW p l e wsX5_odds rX5_odds s m ([.ref A0, .int x1, .int x2, .int x3, .int x4] : List Value).toArray below meth c H locs (Qiw res.1 G A [o5 A0 A0_now A0_draft A0_kept A0_isKept A0_text A0_past A0_ear A0_finder, o3 A0_now c0_now A0_now_swallows A0_now_seatX A0_now_seatY A0_now_curtainX A0_now_curtainFrom A0_now_curtainTo, o0 A0_ear res.2.1 A0_ear_is A0_ear_js A0_ear_ways A0_ear_times A0_ear_strengths A0_ear_deafened, (A0_now_seatX, .inl (cI, 4, .inl c0_now_seatX)), (A0_now_seatY, .inl (cI, 4, .inl c0_now_seatY)), (A0_now_curtainX, .inl (cI, 3, .inl c0_now_curtainX)), (A0_now_curtainFrom, .inl (cI, 3, .inl c0_now_curtainFrom)), (A0_now_curtainTo, .inl (cI, 3, .inl c0_now_curtainTo)), (A0_ear_times, .inl (cI, 25, .inl res.2.2.1)), (A0_ear_is, .inl (cI, 25, .inl res.2.2.2.1)), (A0_ear_js, .inl (cI, 25, .inl res.2.2.2.2.1)), (A0_ear_ways, .inl (cI, 25, .inl res.2.2.2.2.2.1)), (A0_ear_strengths, .inl (cI, 25, .inl res.2.2.2.2.2.2.1)), (A0_now_swallows, .inl (cI, 4, .inl c0_now_swallows)), (A0_ear_deafened, .inl (cI, 4, .inl res.2.2.2.2.2.2.2))]) A (F0 m 61 ls []) := by
            intro v1_L61 v3_L61 v4_L61 e0_ear_L61 e0_ear_times_L61 e0_ear_is_L61 e0_ear_js_L61 e0_ear_ways_L61 e0_ear_strengths_L61 n61
            induction n61 with
            | zero =>
              intro v5_L61 v6_L61 e0_ear_deafened_L61 H locs ls hres
              exact absurd (LPX_0.symm.trans hres) (fun h => by cases h)
            | succ n61 ih61 =>
              intro v5_L61 v6_L61 e0_ear_deafened_L61 H locs ls hres hP hD hS hl
              have hres := LPX_s.symm.trans hres
              refine lv_iload hx hb dX5_odds_61 (lv_at hl 5 rfl) ?_
              refine lv_bipush (v := 16) hx hb dX5_odds_63 (by decide) ?_
              refine lv_icmp_ge (tgt := 105) hx hb dX5_odds_65 (by decide) (fun h10 => ?_) (fun h10 => ?_)
              · have hres := ite_t hres h10
                refine lv_iload hx hb dX5_odds_105 (lv_at hl 4 rfl) ?_
                refine lv_sipush (v := 10000) hx hb dX5_odds_107 (by decide) ?_
                refine lv_iload hx hb dX5_odds_110 (lv_at hl 3 rfl) ?_
                obtain ⟨r11, hr11, hres⟩ := bi_1 hres
                refine x_cp (va_runS (As := [.int v5_L61, .int 10000, .int v4_L61]) (rest := []) ⟨hx, hb, hml, hown, hts⟩ (kX5_leastTerm l G cI cZ tl v5_L61 10000 v4_L61 r11 hr11) (va_cwS 3 hts gX5_odds_X5_leastTerm rfl rfl rfl hsX5_leastTerm ⟨Nat.le_of_ble_eq_true rfl, Nat.le_of_ble_eq_true rfl⟩) ⟨PRO_blind, PRO_at va_P0 hK⟩ rfl rfl hl.1 rfl (lv_room (Nat.le_of_ble_eq_true rfl)) dX5_odds_112 ⟨Nat.zero_le _, Nat.zero_le _⟩) ?_
                obtain rfl := Option.some.inj hres
                exact W.iret hx hb hr (fun t ht hW => ⟨⟨_, (), rfl, rfl, by rw [ht]; exact hP, hD⟩, hS.F ht⟩) hS.2.2 dX5_odds_115
              · have hres := ite_f hres h10
                refine lv_aload_n hx hb dX5_odds_68 rfl (lv_at hl 0 rfl) ?_
                refine va_get (D := G) (ci := 5) (v := .ref A0_ear) (C := RX5) (T := TX5) (N := 8) hx hb hts (fun w h => (List.mem_cons_of_mem _ (List.mem_append_left _ (List.mem_append_left _ (List.mem_append_right _ h))))) hown hK.1 hP 0 rfl rfl 6 (by decide) (hts (.fieldLink RX5 44 "EchoSeats" "ear" "LEchoSeats$Ear;") (List.mem_of_getElem? (i := 3) rfl)) (fun _ h9 => h9) rfl dX5_odds_69 ?_
                refine lv_aload_n hx hb dX5_odds_72 rfl (lv_at hl 0 rfl) ?_
                refine va_get (D := G) (ci := 5) (v := .ref A0_now) (C := RX5) (T := TX5) (N := 8) hx hb hts (fun w h => (List.mem_cons_of_mem _ (List.mem_append_left _ (List.mem_append_left _ (List.mem_append_right _ h))))) hown hK.1 hP 0 rfl rfl 0 (by decide) (hts (.fieldLink RX5 10 "EchoSeats" "now" "LEchoSeats$Scene;") (List.mem_of_getElem? (i := 1) rfl)) (fun _ h9 => h9) rfl dX5_odds_73 ?_
                refine va_get (D := G) (ci := 3) (v := .ref A0_now_swallows) (C := RX3) (T := TX3) (N := 12) hx hb hts (fun w h => (List.mem_cons_of_mem _ (List.mem_append_left _ (List.mem_append_right _ h)))) hown hK.1 hP 1 rfl rfl 6 (by decide) (hts (.fieldLink RX5 82 "EchoSeats$Scene" "swallows" "[I") (List.mem_of_getElem? (i := 4) rfl)) (fun _ h9 => h9) rfl dX5_odds_76 ?_
                refine lv_iload hx hb dX5_odds_79 (lv_at hl 5 rfl) ?_
                obtain ⟨r12, hr12, hres⟩ := bi_1 hres
                refine x_ci (wr := [o5 A0 A0_now A0_draft A0_kept A0_isKept A0_text A0_past A0_ear A0_finder, o3 A0_now c0_now A0_now_swallows A0_now_seatX A0_now_seatY A0_now_curtainX A0_now_curtainFrom A0_now_curtainTo, (A0_now_seatX, .inl (cI, 4, .inl c0_now_seatX)), (A0_now_seatY, .inl (cI, 4, .inl c0_now_seatY)), (A0_now_curtainX, .inl (cI, 3, .inl c0_now_curtainX)), (A0_now_curtainFrom, .inl (cI, 3, .inl c0_now_curtainFrom)), (A0_now_curtainTo, .inl (cI, 3, .inl c0_now_curtainTo)), (A0_ear_times, .inl (cI, 25, .inl e0_ear_times_L61)), (A0_ear_strengths, .inl (cI, 25, .inl e0_ear_strengths_L61))]) (w2 := [o5 A0 A0_now A0_draft A0_kept A0_isKept A0_text A0_past A0_ear A0_finder, o3 A0_now c0_now A0_now_swallows A0_now_seatX A0_now_seatY A0_now_curtainX A0_now_curtainFrom A0_now_curtainTo, o0 A0_ear e0_ear_L61 A0_ear_is A0_ear_js A0_ear_ways A0_ear_times A0_ear_strengths A0_ear_deafened, (A0_now_seatX, .inl (cI, 4, .inl c0_now_seatX)), (A0_now_seatY, .inl (cI, 4, .inl c0_now_seatY)), (A0_now_curtainX, .inl (cI, 3, .inl c0_now_curtainX)), (A0_now_curtainFrom, .inl (cI, 3, .inl c0_now_curtainFrom)), (A0_now_curtainTo, .inl (cI, 3, .inl c0_now_curtainTo)), (A0_ear_times, .inl (cI, 25, .inl e0_ear_times_L61)), (A0_ear_is, .inl (cI, 25, .inl e0_ear_is_L61)), (A0_ear_js, .inl (cI, 25, .inl e0_ear_js_L61)), (A0_ear_ways, .inl (cI, 25, .inl e0_ear_ways_L61)), (A0_ear_strengths, .inl (cI, 25, .inl e0_ear_strengths_L61)), (A0_now_swallows, .inl (cI, 4, .inl c0_now_swallows)), (A0_ear_deafened, .inl (cI, 4, .inl r12.2))]) hP hD hS hA (va_runV (As := [.ref A0_now_swallows, .int v6_L61]) (rest := []) ⟨hx, hb, hml, hown, hts⟩ (kX0_soundIfDeaf l G cI cZ tl H.size _ A0_ear A0_ear_is A0_ear_js A0_ear_ways A0_ear_times A0_ear_strengths A0_ear_deafened A0_now_swallows e0_ear_L61 e0_ear_deafened_L61 c0_now_swallows e0_ear_is_L61 e0_ear_js_L61 e0_ear_ways_L61 v6_L61 r12 rfl hr12) (cwV 2 hts gX5_odds_X0_soundIfDeaf rfl rfl rfl hsX0_soundIfDeaf ⟨Nat.le_of_ble_eq_true rfl, Nat.le_of_ble_eq_true rfl⟩) ⟨PRW_blind, va_recv hK.1 hP (ci := 0) (q0 := 2) rfl rfl, PRW_at (hP.sub (ws' := [o0 A0_ear e0_ear_L61 A0_ear_is A0_ear_js A0_ear_ways A0_ear_times A0_ear_strengths A0_ear_deafened, (A0_ear_deafened, .inl (cI, 4, .inl e0_ear_deafened_L61)), (A0_now_swallows, .inl (cI, 4, .inl c0_now_swallows)), (A0_ear_is, .inl (cI, 25, .inl e0_ear_is_L61)), (A0_ear_js, .inl (cI, 25, .inl e0_ear_js_L61)), (A0_ear_ways, .inl (cI, 25, .inl e0_ear_ways_L61))]) [2, 14, 13, 9, 10, 11] rfl) (hD.sub (ws' := [o0 A0_ear e0_ear_L61 A0_ear_is A0_ear_js A0_ear_ways A0_ear_times A0_ear_strengths A0_ear_deafened, (A0_ear_deafened, .inl (cI, 4, .inl e0_ear_deafened_L61)), (A0_now_swallows, .inl (cI, 4, .inl c0_now_swallows)), (A0_ear_is, .inl (cI, 25, .inl e0_ear_is_L61)), (A0_ear_js, .inl (cI, 25, .inl e0_ear_js_L61)), (A0_ear_ways, .inl (cI, 25, .inl e0_ear_ways_L61))]) [2, 14, 13, 9, 10, 11] (by decide) rfl) hK⟩ rfl rfl hl.1 rfl (lv_room (Nat.le_of_ble_eq_true rfl)) dX5_odds_81 ⟨Nat.zero_le _, Nat.zero_le _⟩) [2, 14, 13, 9, 10, 11] [0, 1, 3, 4, 5, 6, 7, 8, 12] [0, 1, 9, 2, 3, 4, 5, 6, 7, 12, 13, 14, 8, 11, 10] rfl rfl (by decide) (by decide) rfl rfl (by decide) (fun H locs hP hD hS => ?_)
                refine lv_iload_n hx hb dX5_odds_84 rfl (lv_at hl 2 rfl) ?_
                refine lv_icmp_lt (tgt := 99) hx hb dX5_odds_85 (by decide) (fun h13 => ?_) (fun h13 => ?_)
                · have hres := ite_t hres h13
                  refine lv_iinc (v := (v6_L61 + 1)) (lv' := [(6, .int (v6_L61 + 1)), (0, .ref A0), (1, .int v1_L61), (3, .int v3_L61), (4, .int v4_L61), (5, .int v5_L61)]) hx hb dX5_odds_99 hl (k := 5) rfl rfl (by decide) rfl (fun ls hl => ?_)
                  refine lv_goto (tgt := 61) hx hb dX5_odds_102 (by decide) ?_
                  exact ih61 v5_L61 (v6_L61 + 1) r12.2 _ _ _ hres hP hD hS (lv_sub hl [1, 2, 3, 4, 5, 0] rfl)
                · have hres := ite_f hres h13
                  refine lv_iload hx hb dX5_odds_88 (lv_at hl 4 rfl) ?_
                  refine lv_iload hx hb dX5_odds_90 (lv_at hl 5 rfl) ?_
                  refine lv_iload_n hx hb dX5_odds_92 rfl (lv_at hl 1 rfl) ?_
                  obtain ⟨r14, hr14, hres⟩ := bi_1 hres
                  refine x_cp (va_runS (As := [.int v6_L61, .int v1_L61]) (rest := [.int v5_L61]) ⟨hx, hb, hml, hown, hts⟩ (kX5_chanceOf l G cI cZ tl v6_L61 v1_L61 r14 hr14) (va_cwS 2 hts gX5_odds_X5_chanceOf rfl rfl rfl hsX5_chanceOf ⟨Nat.le_of_ble_eq_true rfl, Nat.le_of_ble_eq_true rfl⟩) ⟨PRO_blind, PRO_at va_P0 hK⟩ rfl rfl hl.1 rfl (lv_room (Nat.le_of_ble_eq_true rfl)) dX5_odds_93 ⟨Nat.zero_le _, Nat.zero_le _⟩) ?_
                  refine lv_iadd hx hb dX5_odds_96 ?_
                  refine lv_topi (fun y15 ey15 => ?_)
                  have hres := bnd_z ey15 hres
                  refine lv_istore (lv' := [(5, .int y15), (0, .ref A0), (1, .int v1_L61), (3, .int v3_L61), (4, .int v4_L61), (6, .int v6_L61)]) hx hb dX5_odds_97 hl (by decide) rfl (fun ls hl => ?_)
                  refine lv_iinc (v := (v6_L61 + 1)) (lv' := [(6, .int (v6_L61 + 1)), (5, .int y15), (0, .ref A0), (1, .int v1_L61), (3, .int v3_L61), (4, .int v4_L61)]) hx hb dX5_odds_99 hl (k := 5) rfl rfl (by decide) rfl (fun ls hl => ?_)
                  refine lv_goto (tgt := 61) hx hb dX5_odds_102 (by decide) ?_
                  exact ih61 y15 (v6_L61 + 1) r12.2 _ _ _ hres hP hD hS (lv_sub hl [2, 3, 4, 5, 1, 0] rfl)
          exact Q61 x1 x3 x4 r9.1 r9.2.1 r9.2.2.1 r9.2.2.2.1 r9.2.2.2.2.1 r9.2.2.2.2.2 FU 0 0 c0_ear_deafened _ _ _ hres hP hD hS (lv_sub hl [2, 3, 5, 6, 1, 0] rfl)
        · have hres := ite_t hres h8
          refine lv_iconst (v := (-1)) hx hb dX5_odds_41 (by decide) ?_
          obtain rfl := Option.some.inj hres
          exact W.iret hx hb hr (fun t ht hW => ⟨⟨_, (), rfl, rfl, by rw [ht]; exact hP, hD⟩, hS.F ht⟩) hS.2.2 dX5_odds_42
theorem hsX5_odds : yX5_odds.cls = RX5 ∧ yX5_odds.cls ≠ "java/lang/invoke/MethodHandle" ∧ yX5_odds.cls ≠ "java/lang/invoke/VarHandle" ∧ (parseMethodDescriptor yX5_odds.desc).map (fun d => d.parameters.length) = some 4 := by decide +kernel
set_option maxHeartbeats 4000000 in
set_option maxRecDepth 100000 in
theorem kX5_pads (l : Launch) (G : va_G) (cI cZ : ClassId) (tl : List (ClassId × FieldType)) (sz : Nat) (A : Nat → Prop) (A0 A0_now A0_draft A0_kept A0_isKept A0_text A0_past A0_ear A0_finder A0_now_swallows A0_now_seatX A0_now_seatY A0_now_curtainX A0_now_curtainFrom A0_now_curtainTo A0_past_kinds A0_past_which A0_past_firsts A0_past_seconds : Nat) (c0_now c0_now_swallows c0_past c0_past_kinds c0_past_which c0_past_firsts c0_past_seconds : Nat → Int32) (x1 x2 : Int32) (res : Int32 × (Nat → Int32) × (Nat → Int32) × (Nat → Int32) × (Nat → Int32) × (Nat → Int32) × (Nat → Int32)) (hAe : A = va_A [o5 A0 A0_now A0_draft A0_kept A0_isKept A0_text A0_past A0_ear A0_finder, o3 A0_now c0_now A0_now_swallows A0_now_seatX A0_now_seatY A0_now_curtainX A0_now_curtainFrom A0_now_curtainTo, (A0_now_swallows, .inl (cI, 4, .inl c0_now_swallows)), o2 A0_past c0_past A0_past_kinds A0_past_which A0_past_firsts A0_past_seconds, (A0_past_kinds, .inl (cI, 10, .inl c0_past_kinds)), (A0_past_which, .inl (cI, 10, .inl c0_past_which)), (A0_past_firsts, .inl (cI, 10, .inl c0_past_firsts)), (A0_past_seconds, .inl (cI, 10, .inl c0_past_seconds))] sz) (hres : fX5_pads c0_now c0_now_swallows c0_past c0_past_kinds c0_past_which c0_past_firsts c0_past_seconds x1 x2 = some res) : Met l yX5_pads wsX5_pads rX5_pads (va_Pc [.ref A0, .int x1, .int x2] (PRW G cI cZ tl [o5 A0 A0_now A0_draft A0_kept A0_isKept A0_text A0_past A0_ear A0_finder, o3 A0_now c0_now A0_now_swallows A0_now_seatX A0_now_seatY A0_now_curtainX A0_now_curtainFrom A0_now_curtainTo, (A0_now_swallows, .inl (cI, 4, .inl c0_now_swallows)), o2 A0_past c0_past A0_past_kinds A0_past_which A0_past_firsts A0_past_seconds, (A0_past_kinds, .inl (cI, 10, .inl c0_past_kinds)), (A0_past_which, .inl (cI, 10, .inl c0_past_which)), (A0_past_firsts, .inl (cI, 10, .inl c0_past_firsts)), (A0_past_seconds, .inl (cI, 10, .inl c0_past_seconds))] sz)) (Qiw res.1 G A [o5 A0 A0_now A0_draft A0_kept A0_isKept A0_text A0_past A0_ear A0_finder, o3 A0_now c0_now A0_now_swallows A0_now_seatX A0_now_seatY A0_now_curtainX A0_now_curtainFrom A0_now_curtainTo, (A0_now_swallows, .inl (cI, 4, .inl res.2.1)), o2 A0_past res.2.2.1 A0_past_kinds A0_past_which A0_past_firsts A0_past_seconds, (A0_past_kinds, .inl (cI, 10, .inl res.2.2.2.1)), (A0_past_which, .inl (cI, 10, .inl res.2.2.2.2.1)), (A0_past_firsts, .inl (cI, 10, .inl res.2.2.2.2.2.1)), (A0_past_seconds, .inl (cI, 10, .inl res.2.2.2.2.2.2))]) 0 0 A := by
  refine Met.ofW (cc := cX5_pads) (maxL := 4) (ret := (some .int)) (by decide) rfl ?_
  intro p e s m args below meth c s₁ B hml hv
  obtain ⟨rfl, hsz, hP, hK, hD0⟩ := hv
  have hx := B.exec
  have hb := B.bytes
  have hr := B.returns
  have hts := atoms_spec (ws := wsX5_pads) B.pre
  have hown : s.vm.findClass RX5 = some m.cls := findClass_of_methodNamed B.named
  have hlocks := B.notSynchronized
  subst hsz
  have hD : va_D A [o5 A0 A0_now A0_draft A0_kept A0_isKept A0_text A0_past A0_ear A0_finder, o3 A0_now c0_now A0_now_swallows A0_now_seatX A0_now_seatY A0_now_curtainX A0_now_curtainFrom A0_now_curtainTo, (A0_now_swallows, .inl (cI, 4, .inl c0_now_swallows)), o2 A0_past c0_past A0_past_kinds A0_past_which A0_past_firsts A0_past_seconds, (A0_past_kinds, .inl (cI, 10, .inl c0_past_kinds)), (A0_past_which, .inl (cI, 10, .inl c0_past_which)), (A0_past_firsts, .inl (cI, 10, .inl c0_past_firsts)), (A0_past_seconds, .inl (cI, 10, .inl c0_past_seconds))] := by rw [hAe]; exact hD0.self
  have hA : ∀ q : Nat, s.heap.size ≤ q → A q := fun q h => by rw [hAe]; exact Or.inr h
  clear hAe hD0
  have hS : va_S A s.heap s.heap [] := va_S.rf
  have hl := lv_entry ([.ref A0, .int x1, .int x2] : List Value) (n := 4) (Nat.le_of_ble_eq_true rfl)
  rw [lg_entry_eq]
  generalize (lg_sl ([.ref A0, .int x1, .int x2] : List Value) ++ List.replicate (4 - (lg_sl ([.ref A0, .int x1, .int x2] : List Value)).length) Slot.unset).toArray = ls at hl ⊢
  have hl : lv_has ls 4 [(0, .ref A0), (1, .int x1), (2, .int x2)] := hl
  refine lv_iload_n hx hb dX5_pads_0 rfl (lv_at hl 1 rfl) ?_
  refine lv_iconst (v := 0) hx hb dX5_pads_1 (by decide) ?_
  refine lv_iconst (v := 3) hx hb dX5_pads_2 (by decide) ?_
  obtain ⟨r1, hr1, hres⟩ := bi_1 hres
  refine x_cp (va_runS (As := [.int x1, .int 0, .int 3]) (rest := []) ⟨hx, hb, hml, hown, hts⟩ (kX5_isWithin l G cI cZ tl x1 0 3 r1 hr1) (va_cwS 3 hts gX5_pads_X5_isWithin rfl rfl rfl hsX5_isWithin ⟨Nat.le_of_ble_eq_true rfl, Nat.le_of_ble_eq_true rfl⟩) ⟨PRO_blind, PRO_at va_P0 hK⟩ rfl rfl hl.1 rfl (lv_room (Nat.le_of_ble_eq_true rfl)) dX5_pads_3 ⟨Nat.zero_le _, Nat.zero_le _⟩) ?_
  refine lv_if_eq (tgt := 19) hx hb dX5_pads_6 (by decide) (fun h2 => ?_) (fun h2 => ?_)
  · have hres := ite_t hres h2
    refine lv_iconst (v := (-1)) hx hb dX5_pads_19 (by decide) ?_
    obtain rfl := Option.some.inj hres
    exact W.iret hx hb hr (fun t ht hW => ⟨⟨_, (), rfl, rfl, by rw [ht]; exact hP, hD⟩, hS.F ht⟩) hS.2.2 dX5_pads_20
  · have hres := ite_f hres h2
    refine lv_iload_n hx hb dX5_pads_9 rfl (lv_at hl 2 rfl) ?_
    refine lv_iconst (v := 0) hx hb dX5_pads_10 (by decide) ?_
    refine lv_bipush (v := 10) hx hb dX5_pads_11 (by decide) ?_
    obtain ⟨r3, hr3, hres⟩ := bi_1 hres
    refine x_cp (va_runS (As := [.int x2, .int 0, .int 10]) (rest := []) ⟨hx, hb, hml, hown, hts⟩ (kX5_isWithin l G cI cZ tl x2 0 10 r3 hr3) (va_cwS 3 hts gX5_pads_X5_isWithin rfl rfl rfl hsX5_isWithin ⟨Nat.le_of_ble_eq_true rfl, Nat.le_of_ble_eq_true rfl⟩) ⟨PRO_blind, PRO_at va_P0 hK⟩ rfl rfl hl.1 rfl (lv_room (Nat.le_of_ble_eq_true rfl)) dX5_pads_13 ⟨Nat.zero_le _, Nat.zero_le _⟩) ?_
    refine lv_if_ne (tgt := 21) hx hb dX5_pads_16 (by decide) (fun h4 => ?_) (fun h4 => ?_)
    · have hres := ite_f hres h4
      refine lv_aload_n hx hb dX5_pads_21 rfl (lv_at hl 0 rfl) ?_
      refine va_get (D := G) (ci := 5) (v := .ref A0_now) (C := RX5) (T := TX5) (N := 8) hx hb hts (fun w h => (List.mem_cons_of_mem _ (List.mem_append_left _ (List.mem_append_left _ (List.mem_append_right _ h))))) hown hK.1 hP 0 rfl rfl 0 (by decide) (hts (.fieldLink RX5 10 "EchoSeats" "now" "LEchoSeats$Scene;") (List.mem_of_getElem? (i := 1) rfl)) (fun _ h9 => h9) rfl dX5_pads_22 ?_
      refine va_get (D := G) (ci := 3) (v := .ref A0_now_swallows) (C := RX3) (T := TX3) (N := 12) hx hb hts (fun w h => (List.mem_cons_of_mem _ (List.mem_append_left _ (List.mem_append_right _ h)))) hown hK.1 hP 1 rfl rfl 6 (by decide) (hts (.fieldLink RX5 82 "EchoSeats$Scene" "swallows" "[I") (List.mem_of_getElem? (i := 2) rfl)) (fun _ h9 => h9) rfl dX5_pads_25 ?_
      refine lv_iload_n hx hb dX5_pads_28 rfl (lv_at hl 1 rfl) ?_
      have g5 := gd_1 hres
      have hres := gd_2 hres
      refine x_iald hx hb hK hP 2 rfl (j := (Int32.toNatClampNeg x1)) rfl g5 dX5_pads_29 ?_
      refine lv_topi (fun y6 ey6 => ?_)
      have hres := bnd_z ey6 hres
      refine lv_istore_n (lv' := [(3, .int y6), (0, .ref A0), (1, .int x1), (2, .int x2)]) hx hb dX5_pads_30 rfl hl (by decide) rfl (fun ls hl => ?_)
      refine lv_iload_n hx hb dX5_pads_31 rfl (lv_at hl 0 rfl) ?_
      refine lv_iload_n hx hb dX5_pads_32 rfl (lv_at hl 3 rfl) ?_
      refine lv_icmp_ne (tgt := 39) hx hb dX5_pads_33 (by decide) (fun h7 => ?_) (fun h7 => ?_)
      · have hres := ite_f hres h7
        refine lv_aload_n hx hb dX5_pads_39 rfl (lv_at hl 1 rfl) ?_
        refine va_get (D := G) (ci := 5) (v := .ref A0_past) (C := RX5) (T := TX5) (N := 8) hx hb hts (fun w h => (List.mem_cons_of_mem _ (List.mem_append_left _ (List.mem_append_left _ (List.mem_append_right _ h))))) hown hK.1 hP 0 rfl rfl 5 (by decide) (hts (.fieldLink RX5 37 "EchoSeats" "past" "LEchoSeats$Past;") (List.mem_of_getElem? (i := 3) rfl)) (fun _ h9 => h9) rfl dX5_pads_40 ?_
        refine lv_iconst (v := 0) hx hb dX5_pads_43 (by decide) ?_
        refine lv_iload_n hx hb dX5_pads_44 rfl (lv_at hl 2 rfl) ?_
        refine lv_iload_n hx hb dX5_pads_45 rfl (lv_at hl 0 rfl) ?_
        refine lv_iconst (v := 0) hx hb dX5_pads_46 (by decide) ?_
        obtain ⟨r8, hr8, hres⟩ := bi_1 hres
        refine x_cv (wr := [o5 A0 A0_now A0_draft A0_kept A0_isKept A0_text A0_past A0_ear A0_finder, o3 A0_now c0_now A0_now_swallows A0_now_seatX A0_now_seatY A0_now_curtainX A0_now_curtainFrom A0_now_curtainTo, (A0_now_swallows, .inl (cI, 4, .inl c0_now_swallows))]) (w2 := [o5 A0 A0_now A0_draft A0_kept A0_isKept A0_text A0_past A0_ear A0_finder, o3 A0_now c0_now A0_now_swallows A0_now_seatX A0_now_seatY A0_now_curtainX A0_now_curtainFrom A0_now_curtainTo, (A0_now_swallows, .inl (cI, 4, .inl c0_now_swallows)), o2 A0_past r8.1 A0_past_kinds A0_past_which A0_past_firsts A0_past_seconds, (A0_past_kinds, .inl (cI, 10, .inl r8.2.1)), (A0_past_which, .inl (cI, 10, .inl r8.2.2.1)), (A0_past_firsts, .inl (cI, 10, .inl r8.2.2.2.1)), (A0_past_seconds, .inl (cI, 10, .inl r8.2.2.2.2))]) hP hD hS hA (va_runV (As := [.int 0, .int x1, .int y6, .int 0]) (rest := []) ⟨hx, hb, hml, hown, hts⟩ (kX2_add l G cI cZ tl s.heap.size _ A0_past A0_past_kinds A0_past_which A0_past_firsts A0_past_seconds c0_past c0_past_kinds c0_past_which c0_past_firsts c0_past_seconds 0 x1 y6 0 r8 rfl hr8) (cwV 4 hts gX5_pads_X2_add rfl rfl rfl hsX2_add ⟨Nat.le_of_ble_eq_true rfl, Nat.le_of_ble_eq_true rfl⟩) ⟨PRW_blind, va_recv hK.1 hP (ci := 2) (q0 := 3) rfl rfl, PRW_at (hP.sub (ws' := [o2 A0_past c0_past A0_past_kinds A0_past_which A0_past_firsts A0_past_seconds, (A0_past_kinds, .inl (cI, 10, .inl c0_past_kinds)), (A0_past_which, .inl (cI, 10, .inl c0_past_which)), (A0_past_firsts, .inl (cI, 10, .inl c0_past_firsts)), (A0_past_seconds, .inl (cI, 10, .inl c0_past_seconds))]) [3, 4, 5, 6, 7] rfl) (hD.sub (ws' := [o2 A0_past c0_past A0_past_kinds A0_past_which A0_past_firsts A0_past_seconds, (A0_past_kinds, .inl (cI, 10, .inl c0_past_kinds)), (A0_past_which, .inl (cI, 10, .inl c0_past_which)), (A0_past_firsts, .inl (cI, 10, .inl c0_past_firsts)), (A0_past_seconds, .inl (cI, 10, .inl c0_past_seconds))]) [3, 4, 5, 6, 7] (by decide) rfl) hK⟩ rfl rfl hl.1 rfl (lv_room (Nat.le_of_ble_eq_true rfl)) dX5_pads_47 ⟨Nat.zero_le _, Nat.zero_le _⟩) [3, 4, 5, 6, 7] [0, 1, 2] [0, 1, 2, 3, 4, 5, 6, 7] rfl rfl (by decide) (by decide) rfl rfl (by decide) (fun H locs hP hD hS => ?_)
        refine lv_aload_n hx hb dX5_pads_50 rfl (lv_at hl 1 rfl) ?_
        refine va_get (D := G) (ci := 5) (v := .ref A0_now) (C := RX5) (T := TX5) (N := 8) hx hb hts (fun w h => (List.mem_cons_of_mem _ (List.mem_append_left _ (List.mem_append_left _ (List.mem_append_right _ h))))) hown hK.1 hP 0 rfl rfl 0 (by decide) (hts (.fieldLink RX5 10 "EchoSeats" "now" "LEchoSeats$Scene;") (List.mem_of_getElem? (i := 1) rfl)) (fun _ h9 => h9) rfl dX5_pads_51 ?_
        refine va_get (D := G) (ci := 3) (v := .ref A0_now_swallows) (C := RX3) (T := TX3) (N := 12) hx hb hts (fun w h => (List.mem_cons_of_mem _ (List.mem_append_left _ (List.mem_append_right _ h)))) hown hK.1 hP 1 rfl rfl 6 (by decide) (hts (.fieldLink RX5 82 "EchoSeats$Scene" "swallows" "[I") (List.mem_of_getElem? (i := 2) rfl)) (fun _ h9 => h9) rfl dX5_pads_54 ?_
        refine lv_iload_n hx hb dX5_pads_57 rfl (lv_at hl 2 rfl) ?_
        refine lv_iload_n hx hb dX5_pads_58 rfl (lv_at hl 3 rfl) ?_
        have g9 := gd_1 hres
        have hres := gd_2 hres
        refine x_iast hx hb hK hP hD hS 2 rfl (j := (Int32.toNatClampNeg x1)) rfl g9 dX5_pads_59 (fun H locs hP hD hS => ?_)
        have hP : va_P G vwCl [o5 A0 A0_now A0_draft A0_kept A0_isKept A0_text A0_past A0_ear A0_finder, o3 A0_now c0_now A0_now_swallows A0_now_seatX A0_now_seatY A0_now_curtainX A0_now_curtainFrom A0_now_curtainTo, (A0_now_swallows, .inl (cI, 4, .inl (upd c0_now_swallows (Int32.toNatClampNeg x1) x2))), o2 A0_past r8.1 A0_past_kinds A0_past_which A0_past_firsts A0_past_seconds, (A0_past_kinds, .inl (cI, 10, .inl r8.2.1)), (A0_past_which, .inl (cI, 10, .inl r8.2.2.1)), (A0_past_firsts, .inl (cI, 10, .inl r8.2.2.2.1)), (A0_past_seconds, .inl (cI, 10, .inl r8.2.2.2.2))] H := hP
        have hD : va_D A [o5 A0 A0_now A0_draft A0_kept A0_isKept A0_text A0_past A0_ear A0_finder, o3 A0_now c0_now A0_now_swallows A0_now_seatX A0_now_seatY A0_now_curtainX A0_now_curtainFrom A0_now_curtainTo, (A0_now_swallows, .inl (cI, 4, .inl (upd c0_now_swallows (Int32.toNatClampNeg x1) x2))), o2 A0_past r8.1 A0_past_kinds A0_past_which A0_past_firsts A0_past_seconds, (A0_past_kinds, .inl (cI, 10, .inl r8.2.1)), (A0_past_which, .inl (cI, 10, .inl r8.2.2.1)), (A0_past_firsts, .inl (cI, 10, .inl r8.2.2.2.1)), (A0_past_seconds, .inl (cI, 10, .inl r8.2.2.2.2))] := hD
        refine lv_iload_n hx hb dX5_pads_60 rfl (lv_at hl 0 rfl) ?_
        obtain rfl := Option.some.inj hres
        exact W.iret hx hb hr (fun t ht hW => ⟨⟨_, (), rfl, rfl, by rw [ht]; exact hP, hD⟩, hS.F ht⟩) hS.2.2 dX5_pads_61
      · have hres := ite_t hres h7
        refine lv_bipush (v := (-2)) hx hb dX5_pads_36 (by decide) ?_
        obtain rfl := Option.some.inj hres
        exact W.iret hx hb hr (fun t ht hW => ⟨⟨_, (), rfl, rfl, by rw [ht]; exact hP, hD⟩, hS.F ht⟩) hS.2.2 dX5_pads_38
    · have hres := ite_t hres h4
      refine lv_iconst (v := (-1)) hx hb dX5_pads_19 (by decide) ?_
      obtain rfl := Option.some.inj hres
      exact W.iret hx hb hr (fun t ht hW => ⟨⟨_, (), rfl, rfl, by rw [ht]; exact hP, hD⟩, hS.F ht⟩) hS.2.2 dX5_pads_20
theorem hsX5_pads : yX5_pads.cls = RX5 ∧ yX5_pads.cls ≠ "java/lang/invoke/MethodHandle" ∧ yX5_pads.cls ≠ "java/lang/invoke/VarHandle" ∧ (parseMethodDescriptor yX5_pads.desc).map (fun d => d.parameters.length) = some 2 := by decide +kernel
set_option maxHeartbeats 4000000 in
set_option maxRecDepth 100000 in
theorem kX5_path (l : Launch) (G : va_G) (cI cZ : ClassId) (tl : List (ClassId × FieldType)) (A0 A0_now A0_draft A0_kept A0_isKept A0_text A0_past A0_ear A0_finder A0_now_swallows A0_now_seatX A0_now_seatY A0_now_curtainX A0_now_curtainFrom A0_now_curtainTo : Nat) (c0_now c0_now_seatX c0_now_seatY c0_now_curtainX c0_now_curtainFrom c0_now_curtainTo c0_now_swallows : Nat → Int32) (x1 x2 x3 x4 : Int32) (res : Int32) (hres : fX5_path c0_now c0_now_seatX c0_now_seatY c0_now_curtainX c0_now_curtainFrom c0_now_curtainTo c0_now_swallows x1 x2 x3 x4 = some res) : Met l yX5_path wsX5_path rX5_path (va_Pc [.ref A0, .int x1, .int x2, .int x3, .int x4] (PRO G cI cZ tl [o5 A0 A0_now A0_draft A0_kept A0_isKept A0_text A0_past A0_ear A0_finder, o3 A0_now c0_now A0_now_swallows A0_now_seatX A0_now_seatY A0_now_curtainX A0_now_curtainFrom A0_now_curtainTo, (A0_now_seatX, .inl (cI, 4, .inl c0_now_seatX)), (A0_now_seatY, .inl (cI, 4, .inl c0_now_seatY)), (A0_now_curtainX, .inl (cI, 3, .inl c0_now_curtainX)), (A0_now_curtainFrom, .inl (cI, 3, .inl c0_now_curtainFrom)), (A0_now_curtainTo, .inl (cI, 3, .inl c0_now_curtainTo)), (A0_now_swallows, .inl (cI, 4, .inl c0_now_swallows))])) (Sp res) 0 0 (fun _ => False) := by
  refine Met.ofW (cc := cX5_path) (maxL := 8) (ret := (some .int)) (by decide) rfl ?_
  intro p e s m args below meth c s₁ B hml hv
  obtain ⟨rfl, hP, hK⟩ := hv
  have hx := B.exec
  have hb := B.bytes
  have hr := B.returns
  have hts := atoms_spec (ws := wsX5_path) B.pre
  have hown : s.vm.findClass RX5 = some m.cls := findClass_of_methodNamed B.named
  have hlocks := B.notSynchronized
  have hl := lv_entry ([.ref A0, .int x1, .int x2, .int x3, .int x4] : List Value) (n := 8) (Nat.le_of_ble_eq_true rfl)
  rw [lg_entry_eq]
  generalize (lg_sl ([.ref A0, .int x1, .int x2, .int x3, .int x4] : List Value) ++ List.replicate (8 - (lg_sl ([.ref A0, .int x1, .int x2, .int x3, .int x4] : List Value)).length) Slot.unset).toArray = ls at hl ⊢
  have hl : lv_has ls 8 [(0, .ref A0), (1, .int x1), (2, .int x2), (3, .int x3), (4, .int x4)] := hl
  refine lv_aload_n hx hb dX5_path_0 rfl (lv_at hl 0 rfl) ?_
  refine va_get (D := G) (ci := 5) (v := .ref A0_now) (C := RX5) (T := TX5) (N := 8) hx hb hts (fun w h => (List.mem_cons_of_mem _ (List.mem_append_left _ (List.mem_append_right _ h)))) hown hK.1 hP 0 rfl rfl 0 (by decide) (hts (.fieldLink RX5 10 "EchoSeats" "now" "LEchoSeats$Scene;") (List.mem_of_getElem? (i := 1) rfl)) (fun _ h9 => h9) rfl dX5_path_1 ?_
  refine lv_iload_n hx hb dX5_path_4 rfl (lv_at hl 1 rfl) ?_
  obtain ⟨r1, hr1, hres⟩ := bi_1 hres
  refine x_cp (va_runV (As := [.int x1]) (rest := []) ⟨hx, hb, hml, hown, hts⟩ (kX3_hasSeat l G cI cZ tl A0_now A0_now_swallows A0_now_seatX A0_now_seatY A0_now_curtainX A0_now_curtainFrom A0_now_curtainTo c0_now x1 r1 hr1) (cwV 1 hts gX5_path_X3_hasSeat rfl rfl rfl hsX3_hasSeat ⟨Nat.le_of_ble_eq_true rfl, Nat.le_of_ble_eq_true rfl⟩) ⟨PRO_blind, va_recv hK.1 hP (ci := 3) (q0 := 1) rfl rfl, PRO_at (hP.sub (ws' := [o3 A0_now c0_now A0_now_swallows A0_now_seatX A0_now_seatY A0_now_curtainX A0_now_curtainFrom A0_now_curtainTo]) [1] rfl) hK⟩ rfl rfl hl.1 rfl (lv_room (Nat.le_of_ble_eq_true rfl)) dX5_path_5 ⟨Nat.zero_le _, Nat.zero_le _⟩) ?_
  refine lv_if_eq (tgt := 19) hx hb dX5_path_8 (by decide) (fun h2 => ?_) (fun h2 => ?_)
  · have hres := ite_t hres h2
    refine lv_iconst (v := (-1)) hx hb dX5_path_19 (by decide) ?_
    obtain rfl := Option.some.inj hres
    exact W.iret hx hb hr (fun t ht hW => ⟨rfl, ht⟩) (fun q h => absurd h List.not_mem_nil) dX5_path_20
  · have hres := ite_f hres h2
    refine lv_iload_n hx hb dX5_path_11 rfl (lv_at hl 2 rfl) ?_
    refine lv_iload_n hx hb dX5_path_12 rfl (lv_at hl 3 rfl) ?_
    obtain ⟨r3, hr3, hres⟩ := bi_1 hres
    refine x_cp (va_runS (As := [.int x2, .int x3]) (rest := []) ⟨hx, hb, hml, hown, hts⟩ (kX5_isImage l G cI cZ tl x2 x3 r3 hr3) (va_cwS 2 hts gX5_path_X5_isImage rfl rfl rfl hsX5_isImage ⟨Nat.le_of_ble_eq_true rfl, Nat.le_of_ble_eq_true rfl⟩) ⟨PRO_blind, PRO_at va_P0 hK⟩ rfl rfl hl.1 rfl (lv_room (Nat.le_of_ble_eq_true rfl)) dX5_path_13 ⟨Nat.zero_le _, Nat.zero_le _⟩) ?_
    refine lv_if_ne (tgt := 21) hx hb dX5_path_16 (by decide) (fun h4 => ?_) (fun h4 => ?_)
    · have hres := ite_f hres h4
      refine lv_aload_n hx hb dX5_path_21 rfl (lv_at hl 0 rfl) ?_
      refine va_get (D := G) (ci := 5) (v := .ref A0_now) (C := RX5) (T := TX5) (N := 8) hx hb hts (fun w h => (List.mem_cons_of_mem _ (List.mem_append_left _ (List.mem_append_right _ h)))) hown hK.1 hP 0 rfl rfl 0 (by decide) (hts (.fieldLink RX5 10 "EchoSeats" "now" "LEchoSeats$Scene;") (List.mem_of_getElem? (i := 1) rfl)) (fun _ h9 => h9) rfl dX5_path_22 ?_
      refine va_get (D := G) (ci := 3) (v := .ref A0_now_seatX) (C := RX3) (T := TX3) (N := 12) hx hb hts (fun w h => (List.mem_cons_of_mem _ (List.mem_append_right _ h))) hown hK.1 hP 1 rfl rfl 7 (by decide) (hts (.fieldLink RX5 89 "EchoSeats$Scene" "seatX" "[I") (List.mem_of_getElem? (i := 2) rfl)) (fun _ h9 => h9) rfl dX5_path_25 ?_
      refine lv_iload_n hx hb dX5_path_28 rfl (lv_at hl 1 rfl) ?_
      have g5 := gd_1 hres
      have hres := gd_2 hres
      refine x_iald hx hb hK hP 2 rfl (j := (Int32.toNatClampNeg x1)) rfl g5 dX5_path_29 ?_
      refine lv_topi (fun y6 ey6 => ?_)
      have hres := bnd_z ey6 hres
      refine lv_istore (lv' := [(5, .int y6), (0, .ref A0), (1, .int x1), (2, .int x2), (3, .int x3), (4, .int x4)]) hx hb dX5_path_30 hl (by decide) rfl (fun ls hl => ?_)
      refine lv_aload_n hx hb dX5_path_32 rfl (lv_at hl 1 rfl) ?_
      refine va_get (D := G) (ci := 5) (v := .ref A0_now) (C := RX5) (T := TX5) (N := 8) hx hb hts (fun w h => (List.mem_cons_of_mem _ (List.mem_append_left _ (List.mem_append_right _ h)))) hown hK.1 hP 0 rfl rfl 0 (by decide) (hts (.fieldLink RX5 10 "EchoSeats" "now" "LEchoSeats$Scene;") (List.mem_of_getElem? (i := 1) rfl)) (fun _ h9 => h9) rfl dX5_path_33 ?_
      refine va_get (D := G) (ci := 3) (v := .ref A0_now_seatY) (C := RX3) (T := TX3) (N := 12) hx hb hts (fun w h => (List.mem_cons_of_mem _ (List.mem_append_right _ h))) hown hK.1 hP 1 rfl rfl 8 (by decide) (hts (.fieldLink RX5 92 "EchoSeats$Scene" "seatY" "[I") (List.mem_of_getElem? (i := 3) rfl)) (fun _ h9 => h9) rfl dX5_path_36 ?_
      refine lv_iload_n hx hb dX5_path_39 rfl (lv_at hl 2 rfl) ?_
      have g7 := gd_1 hres
      have hres := gd_2 hres
      refine x_iald hx hb hK hP 3 rfl (j := (Int32.toNatClampNeg x1)) rfl g7 dX5_path_40 ?_
      refine lv_topi (fun y8 ey8 => ?_)
      have hres := bnd_z ey8 hres
      refine lv_istore (lv' := [(6, .int y8), (5, .int y6), (0, .ref A0), (1, .int x1), (2, .int x2), (3, .int x3), (4, .int x4)]) hx hb dX5_path_41 hl (by decide) rfl (fun ls hl => ?_)
      refine lv_aload_n hx hb dX5_path_43 rfl (lv_at hl 2 rfl) ?_
      refine va_get (D := G) (ci := 5) (v := .ref A0_now) (C := RX5) (T := TX5) (N := 8) hx hb hts (fun w h => (List.mem_cons_of_mem _ (List.mem_append_left _ (List.mem_append_right _ h)))) hown hK.1 hP 0 rfl rfl 0 (by decide) (hts (.fieldLink RX5 10 "EchoSeats" "now" "LEchoSeats$Scene;") (List.mem_of_getElem? (i := 1) rfl)) (fun _ h9 => h9) rfl dX5_path_44 ?_
      refine lv_iload_n hx hb dX5_path_47 rfl (lv_at hl 4 rfl) ?_
      refine lv_iload_n hx hb dX5_path_48 rfl (lv_at hl 5 rfl) ?_
      refine lv_iload hx hb dX5_path_49 (lv_at hl 1 rfl) ?_
      refine lv_iload hx hb dX5_path_51 (lv_at hl 0 rfl) ?_
      obtain ⟨r9, hr9, hres⟩ := bi_1 hres
      refine x_cp (va_runV (As := [.int x2, .int x3, .int y6, .int y8]) (rest := []) ⟨hx, hb, hml, hown, hts⟩ (kX3_waySquared l G cI cZ tl A0_now A0_now_swallows A0_now_seatX A0_now_seatY A0_now_curtainX A0_now_curtainFrom A0_now_curtainTo c0_now x2 x3 y6 y8 r9 hr9) (cwV 4 hts gX5_path_X3_waySquared rfl rfl rfl hsX3_waySquared ⟨Nat.le_of_ble_eq_true rfl, Nat.le_of_ble_eq_true rfl⟩) ⟨PRO_blind, va_recv hK.1 hP (ci := 3) (q0 := 1) rfl rfl, PRO_at (hP.sub (ws' := [o3 A0_now c0_now A0_now_swallows A0_now_seatX A0_now_seatY A0_now_curtainX A0_now_curtainFrom A0_now_curtainTo]) [1] rfl) hK⟩ rfl rfl hl.1 rfl (lv_room (Nat.le_of_ble_eq_true rfl)) dX5_path_53 ⟨Nat.zero_le _, Nat.zero_le _⟩) ?_
      refine lv_istore (lv' := [(7, .int r9), (6, .int y8), (5, .int y6), (0, .ref A0), (1, .int x1), (2, .int x2), (3, .int x3), (4, .int x4)]) hx hb dX5_path_56 hl (by decide) rfl (fun ls hl => ?_)
      refine lv_iload hx hb dX5_path_58 (lv_at hl 7 rfl) ?_
      by_cases h10 : x4 = 0
      · have hres := ite_t hres h10
        refine lv_tableIn (off := 32) (tgt := 92) hx hb dX5_path_60 (by rw [h10]; decide) (by rw [h10]; decide) (by rw [h10]; rfl) (by decide) ?_
        refine lv_iload hx hb dX5_path_92 (lv_at hl 0 rfl) ?_
        obtain rfl := Option.some.inj hres
        exact W.iret hx hb hr (fun t ht hW => ⟨rfl, ht⟩) (fun q h => absurd h List.not_mem_nil) dX5_path_94
      have hres := ite_f hres h10
      by_cases h11 : x4 = 1
      · have hres := ite_t hres h11
        refine lv_tableIn (off := 35) (tgt := 95) hx hb dX5_path_60 (by rw [h11]; decide) (by rw [h11]; decide) (by rw [h11]; rfl) (by decide) ?_
        refine lv_iload hx hb dX5_path_95 (lv_at hl 0 rfl) ?_
        obtain ⟨r12, hr12, hres⟩ := bi_1 hres
        refine x_cp (va_runS (As := [.int r9]) (rest := []) ⟨hx, hb, hml, hown, hts⟩ (kX5_timeOf l G cI cZ tl r9 r12 hr12) (va_cwS 1 hts gX5_path_X5_timeOf rfl rfl rfl hsX5_timeOf ⟨Nat.le_of_ble_eq_true rfl, Nat.le_of_ble_eq_true rfl⟩) ⟨PRO_blind, PRO_at va_P0 hK⟩ rfl rfl hl.1 rfl (lv_room (Nat.le_of_ble_eq_true rfl)) dX5_path_97 ⟨Nat.zero_le _, Nat.zero_le _⟩) ?_
        obtain rfl := Option.some.inj hres
        exact W.iret hx hb hr (fun t ht hW => ⟨rfl, ht⟩) (fun q h => absurd h List.not_mem_nil) dX5_path_100
      have hres := ite_f hres h11
      by_cases h13 : x4 = 2
      · have hres := ite_t hres h13
        refine lv_tableIn (off := 41) (tgt := 101) hx hb dX5_path_60 (by rw [h13]; decide) (by rw [h13]; decide) (by rw [h13]; rfl) (by decide) ?_
        refine lv_aload_n hx hb dX5_path_101 rfl (lv_at hl 3 rfl) ?_
        refine va_get (D := G) (ci := 5) (v := .ref A0_now) (C := RX5) (T := TX5) (N := 8) hx hb hts (fun w h => (List.mem_cons_of_mem _ (List.mem_append_left _ (List.mem_append_right _ h)))) hown hK.1 hP 0 rfl rfl 0 (by decide) (hts (.fieldLink RX5 10 "EchoSeats" "now" "LEchoSeats$Scene;") (List.mem_of_getElem? (i := 1) rfl)) (fun _ h9 => h9) rfl dX5_path_102 ?_
        refine va_get (D := G) (ci := 3) (v := .ref A0_now_swallows) (C := RX3) (T := TX3) (N := 12) hx hb hts (fun w h => (List.mem_cons_of_mem _ (List.mem_append_right _ h))) hown hK.1 hP 1 rfl rfl 6 (by decide) (hts (.fieldLink RX5 82 "EchoSeats$Scene" "swallows" "[I") (List.mem_of_getElem? (i := 4) rfl)) (fun _ h9 => h9) rfl dX5_path_105 ?_
        refine lv_iload_n hx hb dX5_path_108 rfl (lv_at hl 5 rfl) ?_
        refine lv_iload_n hx hb dX5_path_109 rfl (lv_at hl 6 rfl) ?_
        refine lv_iload hx hb dX5_path_110 (lv_at hl 0 rfl) ?_
        obtain ⟨r14, hr14, hres⟩ := bi_1 hres
        refine x_cp (va_runS (As := [.ref A0_now_swallows, .int x2, .int x3, .int r9]) (rest := []) ⟨hx, hb, hml, hown, hts⟩ (kX5_strengthOf l G cI cZ tl A0_now_swallows c0_now_swallows x2 x3 r9 r14 hr14) (va_cwS 4 hts gX5_path_X5_strengthOf rfl rfl rfl hsX5_strengthOf ⟨Nat.le_of_ble_eq_true rfl, Nat.le_of_ble_eq_true rfl⟩) ⟨PRO_blind, PRO_at (hP.sub (ws' := [(A0_now_swallows, .inl (cI, 4, .inl c0_now_swallows))]) [7] rfl) hK⟩ rfl rfl hl.1 rfl (lv_room (Nat.le_of_ble_eq_true rfl)) dX5_path_112 ⟨Nat.zero_le _, Nat.zero_le _⟩) ?_
        obtain rfl := Option.some.inj hres
        exact W.iret hx hb hr (fun t ht hW => ⟨rfl, ht⟩) (fun q h => absurd h List.not_mem_nil) dX5_path_115
      have hres := ite_f hres h13
      by_cases h15 : x4 = 3
      · have hres := ite_t hres h15
        refine lv_tableIn (off := 56) (tgt := 116) hx hb dX5_path_60 (by rw [h15]; decide) (by rw [h15]; decide) (by rw [h15]; rfl) (by decide) ?_
        refine lv_aload_n hx hb dX5_path_116 rfl (lv_at hl 3 rfl) ?_
        refine va_get (D := G) (ci := 5) (v := .ref A0_now) (C := RX5) (T := TX5) (N := 8) hx hb hts (fun w h => (List.mem_cons_of_mem _ (List.mem_append_left _ (List.mem_append_right _ h)))) hown hK.1 hP 0 rfl rfl 0 (by decide) (hts (.fieldLink RX5 10 "EchoSeats" "now" "LEchoSeats$Scene;") (List.mem_of_getElem? (i := 1) rfl)) (fun _ h9 => h9) rfl dX5_path_117 ?_
        refine lv_iload_n hx hb dX5_path_120 rfl (lv_at hl 5 rfl) ?_
        refine lv_iload_n hx hb dX5_path_121 rfl (lv_at hl 6 rfl) ?_
        refine lv_iload hx hb dX5_path_122 (lv_at hl 2 rfl) ?_
        refine lv_iload hx hb dX5_path_124 (lv_at hl 1 rfl) ?_
        obtain ⟨r16, hr16, hres⟩ := bi_1 hres
        refine x_cp (va_runV (As := [.int x2, .int x3, .int y6, .int y8]) (rest := []) ⟨hx, hb, hml, hown, hts⟩ (kX3_isHidden l G cI cZ tl A0_now A0_now_swallows A0_now_seatX A0_now_seatY A0_now_curtainX A0_now_curtainFrom A0_now_curtainTo c0_now c0_now_curtainX c0_now_curtainFrom c0_now_curtainTo x2 x3 y6 y8 r16 hr16) (cwV 4 hts gX5_path_X3_isHidden rfl rfl rfl hsX3_isHidden ⟨Nat.le_of_ble_eq_true rfl, Nat.le_of_ble_eq_true rfl⟩) ⟨PRO_blind, va_recv hK.1 hP (ci := 3) (q0 := 1) rfl rfl, PRO_at (hP.sub (ws' := [o3 A0_now c0_now A0_now_swallows A0_now_seatX A0_now_seatY A0_now_curtainX A0_now_curtainFrom A0_now_curtainTo, (A0_now_curtainX, .inl (cI, 3, .inl c0_now_curtainX)), (A0_now_curtainFrom, .inl (cI, 3, .inl c0_now_curtainFrom)), (A0_now_curtainTo, .inl (cI, 3, .inl c0_now_curtainTo))]) [1, 4, 5, 6] rfl) hK⟩ rfl rfl hl.1 rfl (lv_room (Nat.le_of_ble_eq_true rfl)) dX5_path_126 ⟨Nat.zero_le _, Nat.zero_le _⟩) ?_
        refine lv_if_eq (tgt := 136) hx hb dX5_path_129 (by decide) (fun h17 => ?_) (fun h17 => ?_)
        · have hres := ite_t hres h17
          refine lv_iconst (v := 0) hx hb dX5_path_136 (by decide) ?_
          obtain rfl := Option.some.inj hres
          exact W.iret hx hb hr (fun t ht hW => ⟨rfl, ht⟩) (fun q h => absurd h List.not_mem_nil) dX5_path_137
        · have hres := ite_f hres h17
          refine lv_iconst (v := 1) hx hb dX5_path_132 (by decide) ?_
          refine lv_goto (tgt := 137) hx hb dX5_path_133 (by decide) ?_
          obtain rfl := Option.some.inj hres
          exact W.iret hx hb hr (fun t ht hW => ⟨rfl, ht⟩) (fun q h => absurd h List.not_mem_nil) dX5_path_137
      have hres := ite_f hres h15
      refine lv_tableOut (tgt := 138) hx hb dX5_path_60 (by have th10 := lv_neT h10 (a := 0) (by decide); have th11 := lv_neT h11 (a := 1) (by decide); have th13 := lv_neT h13 (a := 2) (by decide); have th15 := lv_neT h15 (a := 3) (by decide); omega) (by decide) ?_
      refine lv_iconst (v := (-1)) hx hb dX5_path_138 (by decide) ?_
      obtain rfl := Option.some.inj hres
      exact W.iret hx hb hr (fun t ht hW => ⟨rfl, ht⟩) (fun q h => absurd h List.not_mem_nil) dX5_path_139
    · have hres := ite_t hres h4
      refine lv_iconst (v := (-1)) hx hb dX5_path_19 (by decide) ?_
      obtain rfl := Option.some.inj hres
      exact W.iret hx hb hr (fun t ht hW => ⟨rfl, ht⟩) (fun q h => absurd h List.not_mem_nil) dX5_path_20
theorem hsX5_path : yX5_path.cls = RX5 ∧ yX5_path.cls ≠ "java/lang/invoke/MethodHandle" ∧ yX5_path.cls ≠ "java/lang/invoke/VarHandle" ∧ (parseMethodDescriptor yX5_path.desc).map (fun d => d.parameters.length) = some 4 := by decide +kernel
