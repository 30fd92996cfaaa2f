set_option maxHeartbeats 4000000 in
set_option maxRecDepth 100000 in
theorem kX1_findPlaces (l : Launch) (G : va_G) (cI cZ : ClassId) (tl : List (ClassId × FieldType)) (sz : Nat) (A : Nat → Prop) (A0 A0_is A0_js A0_times A0_placeX A0_placeY A0_toldBy A1 A1_swallows A1_seatX A1_seatY A1_curtainX A1_curtainFrom A1_curtainTo : Nat) (c0 c1 c0_is c0_js c0_times c0_placeX c0_placeY : Nat → Int32) (res : (Nat → Int32) × (Nat → Int32) × (Nat → Int32)) (hAe : A = va_A [o1 A0 c0 A0_is A0_js A0_times A0_placeX A0_placeY A0_toldBy, o3 A1 c1 A1_swallows A1_seatX A1_seatY A1_curtainX A1_curtainFrom A1_curtainTo, (A0_is, .inl (cI, 4, .inl c0_is)), (A0_js, .inl (cI, 4, .inl c0_js)), (A0_times, .inl (cI, 4, .inl c0_times)), (A0_placeX, .inl (cI, 441, .inl c0_placeX)), (A0_placeY, .inl (cI, 441, .inl c0_placeY))] sz) (hres : fX1_findPlaces c0 c1 c0_is c0_js c0_times c0_placeX c0_placeY = some res) : Met l yX1_findPlaces wsX1_findPlaces rX1_findPlaces (va_Pc [.ref A0, .ref A1] (PRW G cI cZ tl [o1 A0 c0 A0_is A0_js A0_times A0_placeX A0_placeY A0_toldBy, o3 A1 c1 A1_swallows A1_seatX A1_seatY A1_curtainX A1_curtainFrom A1_curtainTo, (A0_is, .inl (cI, 4, .inl c0_is)), (A0_js, .inl (cI, 4, .inl c0_js)), (A0_times, .inl (cI, 4, .inl c0_times)), (A0_placeX, .inl (cI, 441, .inl c0_placeX)), (A0_placeY, .inl (cI, 441, .inl c0_placeY))] sz)) (Qvw G A [o1 A0 res.1 A0_is A0_js A0_times A0_placeX A0_placeY A0_toldBy, o3 A1 c1 A1_swallows A1_seatX A1_seatY A1_curtainX A1_curtainFrom A1_curtainTo, (A0_is, .inl (cI, 4, .inl c0_is)), (A0_js, .inl (cI, 4, .inl c0_js)), (A0_times, .inl (cI, 4, .inl c0_times)), (A0_placeX, .inl (cI, 441, .inl res.2.1)), (A0_placeY, .inl (cI, 441, .inl res.2.2))]) 0 0 A := by
  refine Met.ofW (cc := cX1_findPlaces) (maxL := 4) (ret := none) (by decide) rfl ?_
  intro p e s m args below meth c s₁ B hml hv
  obtain ⟨rfl, hsz, hP, hK, hD0⟩ := hv
  have hx := B.exec
  have hb := B.bytes
  have hr := B.returns
  have hts := atoms_spec (ws := wsX1_findPlaces) B.pre
  have hown : s.vm.findClass RX1 = some m.cls := findClass_of_methodNamed B.named
  have hlocks := B.notSynchronized
  subst hsz
  have hD : va_D A [o1 A0 c0 A0_is A0_js A0_times A0_placeX A0_placeY A0_toldBy, o3 A1 c1 A1_swallows A1_seatX A1_seatY A1_curtainX A1_curtainFrom A1_curtainTo, (A0_is, .inl (cI, 4, .inl c0_is)), (A0_js, .inl (cI, 4, .inl c0_js)), (A0_times, .inl (cI, 4, .inl c0_times)), (A0_placeX, .inl (cI, 441, .inl c0_placeX)), (A0_placeY, .inl (cI, 441, .inl c0_placeY))] := by rw [hAe]; exact hD0.self
  have hA : ∀ q : Nat, s.heap.size ≤ q → A q := fun q h => by rw [hAe]; exact Or.inr h
  clear hAe hD0
  have hS : va_S A s.heap s.heap [] := va_S.rf
  have hl := lv_entry ([.ref A0, .ref A1] : List Value) (n := 4) (Nat.le_of_ble_eq_true rfl)
  rw [lg_entry_eq]
  generalize (lg_sl ([.ref A0, .ref A1] : List Value) ++ List.replicate (4 - (lg_sl ([.ref A0, .ref A1] : List Value)).length) Slot.unset).toArray = ls at hl ⊢
  have hl : lv_has ls 4 [(0, .ref A0), (1, .ref A1)] := hl
  refine lv_aload_n hx hb dX1_findPlaces_0 rfl (lv_at hl 0 rfl) ?_
  refine lv_iconst (v := 0) hx hb dX1_findPlaces_1 (by decide) ?_
  refine va_put (D := G) (ci := 1) (v := .int 0) (ty := .int) (C := RX1) (T := TX1) (N := 8) hx hb hts (fun w h => (List.mem_cons_of_mem _ (List.mem_append_left _ (List.mem_append_right _ h)))) tyX1 tyX1_ok nmX1 hown hK.1 hP hD hS 0 rfl rfl 6 (by decide) (hts (.fieldLink RX1 34 "EchoSeats$Finder" "found" "I") (List.mem_of_getElem? (i := 1) rfl)) (fun _ h9 => h9) rfl (tyX1_ok 6 (by decide)) rfl rfl (Nat.le_of_ble_eq_true rfl) dX1_findPlaces_2 (fun H locs hP hD hS => ?_)
  have hP : va_P G vwCl [o1 A0 (upd c0 6 0) A0_is A0_js A0_times A0_placeX A0_placeY A0_toldBy, o3 A1 c1 A1_swallows A1_seatX A1_seatY A1_curtainX A1_curtainFrom A1_curtainTo, (A0_is, .inl (cI, 4, .inl c0_is)), (A0_js, .inl (cI, 4, .inl c0_js)), (A0_times, .inl (cI, 4, .inl c0_times)), (A0_placeX, .inl (cI, 441, .inl c0_placeX)), (A0_placeY, .inl (cI, 441, .inl c0_placeY))] H := hP
  have hD : va_D A [o1 A0 (upd c0 6 0) A0_is A0_js A0_times A0_placeX A0_placeY A0_toldBy, o3 A1 c1 A1_swallows A1_seatX A1_seatY A1_curtainX A1_curtainFrom A1_curtainTo, (A0_is, .inl (cI, 4, .inl c0_is)), (A0_js, .inl (cI, 4, .inl c0_js)), (A0_times, .inl (cI, 4, .inl c0_times)), (A0_placeX, .inl (cI, 441, .inl c0_placeX)), (A0_placeY, .inl (cI, 441, .inl c0_placeY))] := hD
  refine lv_iconst (v := 0) hx hb dX1_findPlaces_5 (by decide) ?_
  refine lv_istore_n (lv' := [(2, .int 0), (0, .ref A0), (1, .ref A1)]) hx hb dX1_findPlaces_6 rfl hl (by decide) rfl (fun ls hl => ?_)
  have Q7 : ∀ (n7 : Nat) (v2_L7 : Int32) (e0_L7 : (Nat → Int32)) (e0_placeX_L7 : (Nat → Int32)) (e0_placeY_L7 : (Nat → Int32)) (H : Heap) (locs : List Loc) (ls : Array Slot), LPX (fX1_findPlaces_L7 c1 c0_is c0_js c0_times) n7 (v2_L7, e0_L7, e0_placeX_L7, e0_placeY_L7) = some res → va_P G vwCl [o1 A0 e0_L7 A0_is A0_js A0_times A0_placeX A0_placeY A0_toldBy, o3 A1 c1 A1_swallows A1_seatX A1_seatY A1_curtainX A1_curtainFrom A1_curtainTo, (A0_is, .inl (cI, 4, .inl c0_is)), (A0_js, .inl (cI, 4, .inl c0_js)), (A0_times, .inl (cI, 4, .inl c0_times)), (A0_placeX, .inl (cI, 441, .inl e0_placeX_L7)), (A0_placeY, .inl (cI, 441, .inl e0_placeY_L7))] H → va_D A [o1 A0 e0_L7 A0_is A0_js A0_times A0_placeX A0_placeY A0_toldBy, o3 A1 c1 A1_swallows A1_seatX A1_seatY A1_curtainX A1_curtainFrom A1_curtainTo, (A0_is, .inl (cI, 4, .inl c0_is)), (A0_js, .inl (cI, 4, .inl c0_js)), (A0_times, .inl (cI, 4, .inl c0_times)), (A0_placeX, .inl (cI, 441, .inl e0_placeX_L7)), (A0_placeY, .inl (cI, 441, .inl e0_placeY_L7))] → va_S A s.heap H locs → lv_has ls 4 [(0, .ref A0), (1, .ref A1), (2, .int v2_L7)] → WRW p l e wsX1_findPlaces rX1_findPlaces s m ([.ref A0, .ref A1] : List Value).toArray below meth c H locs (Qvw G A [o1 A0 res.1 A0_is A0_js A0_times A0_placeX A0_placeY A0_toldBy, o3 A1 c1 A1_swallows A1_seatX A1_seatY A1_curtainX A1_curtainFrom A1_curtainTo, (A0_is, .inl (cI, 4, .inl c0_is)), (A0_js, .inl (cI, 4, .inl c0_js)), (A0_times, .inl (cI, 4, .inl c0_times)), (A0_placeX, .inl (cI, 441, .inl res.2.1)), (A0_placeY, .inl (cI, 441, .inl res.2.2))]) A (F0 m 7 ls []) := by
    intro n7
    induction n7 with
    | zero =>
      intro v2_L7 e0_L7 e0_placeX_L7 e0_placeY_L7 H locs ls hres
      exact absurd (LPX_0.symm.trans hres) (fun h => by cases h)
    | succ n7 ih7 =>
      intro v2_L7 e0_L7 e0_placeX_L7 e0_placeY_L7 H locs ls hres hP hD hS hl
      have hres := LPX_s.symm.trans hres
      refine lv_iload_n hx hb dX1_findPlaces_7 rfl (lv_at hl 2 rfl) ?_
      refine lv_aload_n hx hb dX1_findPlaces_8 rfl (lv_at hl 1 rfl) ?_
      refine va_get (D := G) (ci := 3) (v := .int (c1 0)) (C := RX3) (T := TX3) (N := 12) hx hb hts (fun w h => (List.mem_cons_of_mem _ (List.mem_append_right _ h))) hown hK.1 hP 1 rfl rfl 0 (by decide) (hts (.fieldLink RX1 37 "EchoSeats$Scene" "length" "I") (List.mem_of_getElem? (i := 2) rfl)) (fun _ h9 => h9) rfl dX1_findPlaces_9 ?_
      refine lv_icmp_gt (tgt := 87) hx hb dX1_findPlaces_12 (by decide) (fun h1 => ?_) (fun h1 => ?_)
      · have hres := ite_t hres h1
        obtain rfl := Option.some.inj hres
        exact W.vret hx hb hr (fun t ht hW => ⟨⟨(), rfl, trivial, by rw [ht]; exact hP, hD⟩, hS.F ht⟩) hS.2.2 dX1_findPlaces_87
      · have hres := ite_f hres h1
        refine lv_iconst (v := 0) hx hb dX1_findPlaces_15 (by decide) ?_
        refine lv_istore_n (lv' := [(3, .int 0), (0, .ref A0), (1, .ref A1), (2, .int v2_L7)]) hx hb dX1_findPlaces_16 rfl hl (by decide) rfl (fun ls hl => ?_)
        have Q17 : ∀ (v2_L17 : Int32) (n17 : Nat) (v3_L17 : Int32) (e0_L17 : (Nat → Int32)) (e0_placeX_L17 : (Nat → Int32)) (e0_placeY_L17 : (Nat → Int32)) (H : Heap) (locs : List Loc) (ls : Array Slot), LPX (fX1_findPlaces_L17 c1 c0_is c0_js c0_times v2_L17 (LPX (fX1_findPlaces_L7 c1 c0_is c0_js c0_times) n7)) n17 (v3_L17, e0_L17, e0_placeX_L17, e0_placeY_L17) = some res → va_P G vwCl [o1 A0 e0_L17 A0_is A0_js A0_times A0_placeX A0_placeY A0_toldBy, o3 A1 c1 A1_swallows A1_seatX A1_seatY A1_curtainX A1_curtainFrom A1_curtainTo, (A0_is, .inl (cI, 4, .inl c0_is)), (A0_js, .inl (cI, 4, .inl c0_js)), (A0_times, .inl (cI, 4, .inl c0_times)), (A0_placeX, .inl (cI, 441, .inl e0_placeX_L17)), (A0_placeY, .inl (cI, 441, .inl e0_placeY_L17))] H → va_D A [o1 A0 e0_L17 A0_is A0_js A0_times A0_placeX A0_placeY A0_toldBy, o3 A1 c1 A1_swallows A1_seatX A1_seatY A1_curtainX A1_curtainFrom A1_curtainTo, (A0_is, .inl (cI, 4, .inl c0_is)), (A0_js, .inl (cI, 4, .inl c0_js)), (A0_times, .inl (cI, 4, .inl c0_times)), (A0_placeX, .inl (cI, 441, .inl e0_placeX_L17)), (A0_placeY, .inl (cI, 441, .inl e0_placeY_L17))] → va_S A s.heap H locs → lv_has ls 4 [(0, .ref A0), (1, .ref A1), (2, .int v2_L17), (3, .int v3_L17)] → WRW p l e wsX1_findPlaces rX1_findPlaces s m ([.ref A0, .ref A1] : List Value).toArray below meth c H locs (Qvw G A [o1 A0 res.1 A0_is A0_js A0_times A0_placeX A0_placeY A0_toldBy, o3 A1 c1 A1_swallows A1_seatX A1_seatY A1_curtainX A1_curtainFrom A1_curtainTo, (A0_is, .inl (cI, 4, .inl c0_is)), (A0_js, .inl (cI, 4, .inl c0_js)), (A0_times, .inl (cI, 4, .inl c0_times)), (A0_placeX, .inl (cI, 441, .inl res.2.1)), (A0_placeY, .inl (cI, 441, .inl res.2.2))]) A (F0 m 17 ls []) := by
          intro v2_L17 n17
          induction n17 with
          | zero =>
            intro v3_L17 e0_L17 e0_placeX_L17 e0_placeY_L17 H locs ls hres
            exact absurd (LPX_0.symm.trans hres) (fun h => by cases h)
          | succ n17 ih17 =>
            intro v3_L17 e0_L17 e0_placeX_L17 e0_placeY_L17 H locs ls hres hP hD hS hl
            have hres := LPX_s.symm.trans hres
            refine lv_iload_n hx hb dX1_findPlaces_17 rfl (lv_at hl 3 rfl) ?_
            refine lv_aload_n hx hb dX1_findPlaces_18 rfl (lv_at hl 1 rfl) ?_
            refine va_get (D := G) (ci := 3) (v := .int (c1 1)) (C := RX3) (T := TX3) (N := 12) hx hb hts (fun w h => (List.mem_cons_of_mem _ (List.mem_append_right _ h))) hown hK.1 hP 1 rfl rfl 1 (by decide) (hts (.fieldLink RX1 42 "EchoSeats$Scene" "breadth" "I") (List.mem_of_getElem? (i := 3) rfl)) (fun _ h9 => h9) rfl dX1_findPlaces_19 ?_
            refine lv_icmp_gt (tgt := 81) hx hb dX1_findPlaces_22 (by decide) (fun h2 => ?_) (fun h2 => ?_)
            · have hres := ite_t hres h2
              refine lv_iinc (v := (v2_L17 + 1)) (lv' := [(2, .int (v2_L17 + 1)), (0, .ref A0), (1, .ref A1), (3, .int v3_L17)]) hx hb dX1_findPlaces_81 hl (k := 2) rfl rfl (by decide) rfl (fun ls hl => ?_)
              refine lv_goto (tgt := 7) hx hb dX1_findPlaces_84 (by decide) ?_
              exact ih7 (v2_L17 + 1) e0_L17 e0_placeX_L17 e0_placeY_L17 _ _ _ hres hP hD hS (lv_sub hl [1, 2, 0] rfl)
            · have hres := ite_f hres h2
              refine lv_aload_n hx hb dX1_findPlaces_25 rfl (lv_at hl 0 rfl) ?_
              refine va_get (D := G) (ci := 1) (v := .int (e0_L17 6)) (C := RX1) (T := TX1) (N := 8) hx hb hts (fun w h => (List.mem_cons_of_mem _ (List.mem_append_left _ (List.mem_append_right _ h)))) hown hK.1 hP 0 rfl rfl 6 (by decide) (hts (.fieldLink RX1 34 "EchoSeats$Finder" "found" "I") (List.mem_of_getElem? (i := 1) rfl)) (fun _ h9 => h9) rfl dX1_findPlaces_26 ?_
              refine lv_sipush (v := 441) hx hb dX1_findPlaces_29 (by decide) ?_
              refine lv_icmp_ge (tgt := 75) hx hb dX1_findPlaces_32 (by decide) (fun h3 => ?_) (fun h3 => ?_)
              · have hres := ite_t hres h3
                refine lv_iinc (v := (v3_L17 + 1)) (lv' := [(3, .int (v3_L17 + 1)), (0, .ref A0), (1, .ref A1), (2, .int v2_L17)]) hx hb dX1_findPlaces_75 hl (k := 3) rfl rfl (by decide) rfl (fun ls hl => ?_)
                refine lv_goto (tgt := 17) hx hb dX1_findPlaces_78 (by decide) ?_
                exact ih17 (v3_L17 + 1) e0_L17 e0_placeX_L17 e0_placeY_L17 _ _ _ hres hP hD hS (lv_sub hl [1, 2, 3, 0] rfl)
              · have hres := ite_f hres h3
                refine lv_aload_n hx hb dX1_findPlaces_35 rfl (lv_at hl 0 rfl) ?_
                refine lv_aload_n hx hb dX1_findPlaces_36 rfl (lv_at hl 1 rfl) ?_
                refine lv_iload_n hx hb dX1_findPlaces_37 rfl (lv_at hl 2 rfl) ?_
                refine lv_iload_n hx hb dX1_findPlaces_38 rfl (lv_at hl 3 rfl) ?_
                obtain ⟨r4, hr4, hres⟩ := bi_1 hres
                refine x_cp (va_runV (As := [.ref A1, .int v2_L17, .int v3_L17]) (rest := []) ⟨hx, hb, hml, hown, hts⟩ (kX1_isPossible l G cI cZ tl A0 A0_is A0_js A0_times A0_placeX A0_placeY A0_toldBy A1 A1_swallows A1_seatX A1_seatY A1_curtainX A1_curtainFrom A1_curtainTo e0_L17 c0_is c0_js c1 c0_times v2_L17 v3_L17 r4 hr4) (cwV 3 hts gX1_findPlaces_X1_isPossible rfl rfl rfl hsX1_isPossible ⟨Nat.le_of_ble_eq_true rfl, Nat.le_of_ble_eq_true rfl⟩) ⟨PRO_blind, va_recv hK.1 hP (ci := 1) (q0 := 0) rfl rfl, PRO_at (hP.sub (ws' := [o1 A0 e0_L17 A0_is A0_js A0_times A0_placeX A0_placeY A0_toldBy, (A0_is, .inl (cI, 4, .inl c0_is)), (A0_js, .inl (cI, 4, .inl c0_js)), o3 A1 c1 A1_swallows A1_seatX A1_seatY A1_curtainX A1_curtainFrom A1_curtainTo, (A0_times, .inl (cI, 4, .inl c0_times))]) [0, 2, 3, 1, 4] rfl) hK⟩ rfl rfl hl.1 rfl (lv_room (Nat.le_of_ble_eq_true rfl)) dX1_findPlaces_39 ⟨Nat.zero_le _, Nat.zero_le _⟩) ?_
                refine lv_if_eq (tgt := 75) hx hb dX1_findPlaces_42 (by decide) (fun h5 => ?_) (fun h5 => ?_)
                · have hres := ite_t hres h5
                  refine lv_iinc (v := (v3_L17 + 1)) (lv' := [(3, .int (v3_L17 + 1)), (0, .ref A0), (1, .ref A1), (2, .int v2_L17)]) hx hb dX1_findPlaces_75 hl (k := 3) rfl rfl (by decide) rfl (fun ls hl => ?_)
                  refine lv_goto (tgt := 17) hx hb dX1_findPlaces_78 (by decide) ?_
                  exact ih17 (v3_L17 + 1) e0_L17 e0_placeX_L17 e0_placeY_L17 _ _ _ hres hP hD hS (lv_sub hl [1, 2, 3, 0] rfl)
                · have hres := ite_f hres h5
                  refine lv_aload_n hx hb dX1_findPlaces_45 rfl (lv_at hl 0 rfl) ?_
                  refine va_get (D := G) (ci := 1) (v := .ref A0_placeX) (C := RX1) (T := TX1) (N := 8) hx hb hts (fun w h => (List.mem_cons_of_mem _ (List.mem_append_left _ (List.mem_append_right _ h)))) hown hK.1 hP 0 rfl rfl 4 (by decide) (hts (.fieldLink RX1 21 "EchoSeats$Finder" "placeX" "[I") (List.mem_of_getElem? (i := 4) rfl)) (fun _ h9 => h9) rfl dX1_findPlaces_46 ?_
                  refine lv_aload_n hx hb dX1_findPlaces_49 rfl (lv_at hl 0 rfl) ?_
                  refine va_get (D := G) (ci := 1) (v := .int (e0_L17 6)) (C := RX1) (T := TX1) (N := 8) hx hb hts (fun w h => (List.mem_cons_of_mem _ (List.mem_append_left _ (List.mem_append_right _ h)))) hown hK.1 hP 0 rfl rfl 6 (by decide) (hts (.fieldLink RX1 34 "EchoSeats$Finder" "found" "I") (List.mem_of_getElem? (i := 1) rfl)) (fun _ h9 => h9) rfl dX1_findPlaces_50 ?_
                  refine lv_iload_n hx hb dX1_findPlaces_53 rfl (lv_at hl 2 rfl) ?_
                  have g6 := gd_1 hres
                  have hres := gd_2 hres
                  refine x_iast hx hb hK hP hD hS 5 rfl (j := (Int32.toNatClampNeg (e0_L17 6))) rfl g6 dX1_findPlaces_54 (fun H locs hP hD hS => ?_)
                  have hP : va_P G vwCl [o1 A0 e0_L17 A0_is A0_js A0_times A0_placeX A0_placeY A0_toldBy, o3 A1 c1 A1_swallows A1_seatX A1_seatY A1_curtainX A1_curtainFrom A1_curtainTo, (A0_is, .inl (cI, 4, .inl c0_is)), (A0_js, .inl (cI, 4, .inl c0_js)), (A0_times, .inl (cI, 4, .inl c0_times)), (A0_placeX, .inl (cI, 441, .inl (upd e0_placeX_L17 (Int32.toNatClampNeg (e0_L17 6)) v2_L17))), (A0_placeY, .inl (cI, 441, .inl e0_placeY_L17))] H := hP
                  have hD : va_D A [o1 A0 e0_L17 A0_is A0_js A0_times A0_placeX A0_placeY A0_toldBy, o3 A1 c1 A1_swallows A1_seatX A1_seatY A1_curtainX A1_curtainFrom A1_curtainTo, (A0_is, .inl (cI, 4, .inl c0_is)), (A0_js, .inl (cI, 4, .inl c0_js)), (A0_times, .inl (cI, 4, .inl c0_times)), (A0_placeX, .inl (cI, 441, .inl (upd e0_placeX_L17 (Int32.toNatClampNeg (e0_L17 6)) v2_L17))), (A0_placeY, .inl (cI, 441, .inl e0_placeY_L17))] := hD
                  refine lv_aload_n hx hb dX1_findPlaces_55 rfl (lv_at hl 0 rfl) ?_
                  refine va_get (D := G) (ci := 1) (v := .ref A0_placeY) (C := RX1) (T := TX1) (N := 8) hx hb hts (fun w h => (List.mem_cons_of_mem _ (List.mem_append_left _ (List.mem_append_right _ h)))) hown hK.1 hP 0 rfl rfl 5 (by decide) (hts (.fieldLink RX1 24 "EchoSeats$Finder" "placeY" "[I") (List.mem_of_getElem? (i := 5) rfl)) (fun _ h9 => h9) rfl dX1_findPlaces_56 ?_
                  refine lv_aload_n hx hb dX1_findPlaces_59 rfl (lv_at hl 0 rfl) ?_
                  refine va_get (D := G) (ci := 1) (v := .int (e0_L17 6)) (C := RX1) (T := TX1) (N := 8) hx hb hts (fun w h => (List.mem_cons_of_mem _ (List.mem_append_left _ (List.mem_append_right _ h)))) hown hK.1 hP 0 rfl rfl 6 (by decide) (hts (.fieldLink RX1 34 "EchoSeats$Finder" "found" "I") (List.mem_of_getElem? (i := 1) rfl)) (fun _ h9 => h9) rfl dX1_findPlaces_60 ?_
                  refine lv_iload_n hx hb dX1_findPlaces_63 rfl (lv_at hl 3 rfl) ?_
                  have g7 := gd_1 hres
                  have hres := gd_2 hres
                  refine x_iast hx hb hK hP hD hS 6 rfl (j := (Int32.toNatClampNeg (e0_L17 6))) rfl g7 dX1_findPlaces_64 (fun H locs hP hD hS => ?_)
                  have hP : va_P G vwCl [o1 A0 e0_L17 A0_is A0_js A0_times A0_placeX A0_placeY A0_toldBy, o3 A1 c1 A1_swallows A1_seatX A1_seatY A1_curtainX A1_curtainFrom A1_curtainTo, (A0_is, .inl (cI, 4, .inl c0_is)), (A0_js, .inl (cI, 4, .inl c0_js)), (A0_times, .inl (cI, 4, .inl c0_times)), (A0_placeX, .inl (cI, 441, .inl (upd e0_placeX_L17 (Int32.toNatClampNeg (e0_L17 6)) v2_L17))), (A0_placeY, .inl (cI, 441, .inl (upd e0_placeY_L17 (Int32.toNatClampNeg (e0_L17 6)) v3_L17)))] H := hP
                  have hD : va_D A [o1 A0 e0_L17 A0_is A0_js A0_times A0_placeX A0_placeY A0_toldBy, o3 A1 c1 A1_swallows A1_seatX A1_seatY A1_curtainX A1_curtainFrom A1_curtainTo, (A0_is, .inl (cI, 4, .inl c0_is)), (A0_js, .inl (cI, 4, .inl c0_js)), (A0_times, .inl (cI, 4, .inl c0_times)), (A0_placeX, .inl (cI, 441, .inl (upd e0_placeX_L17 (Int32.toNatClampNeg (e0_L17 6)) v2_L17))), (A0_placeY, .inl (cI, 441, .inl (upd e0_placeY_L17 (Int32.toNatClampNeg (e0_L17 6)) v3_L17)))] := hD
                  refine lv_aload_n hx hb dX1_findPlaces_65 rfl (lv_at hl 0 rfl) ?_
                  refine lv_dup hx hb dX1_findPlaces_66 rfl ?_
                  refine va_get (D := G) (ci := 1) (v := .int (e0_L17 6)) (C := RX1) (T := TX1) (N := 8) hx hb hts (fun w h => (List.mem_cons_of_mem _ (List.mem_append_left _ (List.mem_append_right _ h)))) hown hK.1 hP 0 rfl rfl 6 (by decide) (hts (.fieldLink RX1 34 "EchoSeats$Finder" "found" "I") (List.mem_of_getElem? (i := 1) rfl)) (fun _ h9 => h9) rfl dX1_findPlaces_67 ?_
                  refine lv_iconst (v := 1) hx hb dX1_findPlaces_70 (by decide) ?_
                  refine lv_iadd hx hb dX1_findPlaces_71 ?_
                  refine va_put (D := G) (ci := 1) (v := .int ((e0_L17 6) + 1)) (ty := .int) (C := RX1) (T := TX1) (N := 8) hx hb hts (fun w h => (List.mem_cons_of_mem _ (List.mem_append_left _ (List.mem_append_right _ h)))) tyX1 tyX1_ok nmX1 hown hK.1 hP hD hS 0 rfl rfl 6 (by decide) (hts (.fieldLink RX1 34 "EchoSeats$Finder" "found" "I") (List.mem_of_getElem? (i := 1) rfl)) (fun _ h9 => h9) rfl (tyX1_ok 6 (by decide)) rfl rfl (Nat.le_of_ble_eq_true rfl) dX1_findPlaces_72 (fun H locs hP hD hS => ?_)
                  have hP : va_P G vwCl [o1 A0 (upd e0_L17 6 ((e0_L17 6) + 1)) A0_is A0_js A0_times A0_placeX A0_placeY A0_toldBy, o3 A1 c1 A1_swallows A1_seatX A1_seatY A1_curtainX A1_curtainFrom A1_curtainTo, (A0_is, .inl (cI, 4, .inl c0_is)), (A0_js, .inl (cI, 4, .inl c0_js)), (A0_times, .inl (cI, 4, .inl c0_times)), (A0_placeX, .inl (cI, 441, .inl (upd e0_placeX_L17 (Int32.toNatClampNeg (e0_L17 6)) v2_L17))), (A0_placeY, .inl (cI, 441, .inl (upd e0_placeY_L17 (Int32.toNatClampNeg (e0_L17 6)) v3_L17)))] H := hP
                  have hD : va_D A [o1 A0 (upd e0_L17 6 ((e0_L17 6) + 1)) A0_is A0_js A0_times A0_placeX A0_placeY A0_toldBy, o3 A1 c1 A1_swallows A1_seatX A1_seatY A1_curtainX A1_curtainFrom A1_curtainTo, (A0_is, .inl (cI, 4, .inl c0_is)), (A0_js, .inl (cI, 4, .inl c0_js)), (A0_times, .inl (cI, 4, .inl c0_times)), (A0_placeX, .inl (cI, 441, .inl (upd e0_placeX_L17 (Int32.toNatClampNeg (e0_L17 6)) v2_L17))), (A0_placeY, .inl (cI, 441, .inl (upd e0_placeY_L17 (Int32.toNatClampNeg (e0_L17 6)) v3_L17)))] := hD
                  refine lv_iinc (v := (v3_L17 + 1)) (lv' := [(3, .int (v3_L17 + 1)), (0, .ref A0), (1, .ref A1), (2, .int v2_L17)]) hx hb dX1_findPlaces_75 hl (k := 3) rfl rfl (by decide) rfl (fun ls hl => ?_)
                  refine lv_goto (tgt := 17) hx hb dX1_findPlaces_78 (by decide) ?_
                  exact ih17 (v3_L17 + 1) (upd e0_L17 6 ((e0_L17 6) + 1)) (upd e0_placeX_L17 (Int32.toNatClampNeg (e0_L17 6)) v2_L17) (upd e0_placeY_L17 (Int32.toNatClampNeg (e0_L17 6)) v3_L17) _ _ _ hres hP hD hS (lv_sub hl [1, 2, 3, 0] rfl)
        exact Q17 v2_L7 FU 0 e0_L7 e0_placeX_L7 e0_placeY_L7 _ _ _ hres hP hD hS (lv_sub hl [1, 2, 3, 0] rfl)
  exact Q7 FU 0 (upd c0 6 0) c0_placeX c0_placeY _ _ _ hres hP hD hS (lv_sub hl [1, 2, 0] rfl)
theorem hsX1_findPlaces : yX1_findPlaces.cls = RX1 ∧ yX1_findPlaces.cls ≠ "java/lang/invoke/MethodHandle" ∧ yX1_findPlaces.cls ≠ "java/lang/invoke/VarHandle" ∧ (parseMethodDescriptor yX1_findPlaces.desc).map (fun d => d.parameters.length) = some 1 := by decide +kernel
set_option maxHeartbeats 4000000 in
set_option maxRecDepth 100000 in
theorem kX1_unlikeTimes (l : Launch) (G : va_G) (cI cZ : ClassId) (tl : List (ClassId × FieldType)) (sz : Nat) (A : Nat → Prop) (A1 A1_swallows A1_seatX A1_seatY A1_curtainX A1_curtainFrom A1_curtainTo A0 A0_is A0_js A0_times A0_placeX A0_placeY A0_toldBy : Nat) (c1 c0 c0_placeX c0_placeY c0_toldBy : Nat → Int32) (x2 x3 x4 : Int32) (res : Int32 × (Nat → Int32)) (hAe : A = va_A [o3 A1 c1 A1_swallows A1_seatX A1_seatY A1_curtainX A1_curtainFrom A1_curtainTo, o1 A0 c0 A0_is A0_js A0_times A0_placeX A0_placeY A0_toldBy, (A0_placeX, .inl (cI, 441, .inl c0_placeX)), (A0_placeY, .inl (cI, 441, .inl c0_placeY)), (A0_toldBy, .inl (cI, 1024, .inl c0_toldBy))] sz) (hres : fX1_unlikeTimes c1 c0 c0_placeX c0_placeY c0_toldBy x2 x3 x4 = some res) : Met l yX1_unlikeTimes wsX1_unlikeTimes rX1_unlikeTimes (va_Pc [.ref A0, .ref A1, .int x2, .int x3, .int x4] (PRW G cI cZ tl [o3 A1 c1 A1_swallows A1_seatX A1_seatY A1_curtainX A1_curtainFrom A1_curtainTo, o1 A0 c0 A0_is A0_js A0_times A0_placeX A0_placeY A0_toldBy, (A0_placeX, .inl (cI, 441, .inl c0_placeX)), (A0_placeY, .inl (cI, 441, .inl c0_placeY)), (A0_toldBy, .inl (cI, 1024, .inl c0_toldBy))] sz)) (Qiw res.1 G A [o3 A1 c1 A1_swallows A1_seatX A1_seatY A1_curtainX A1_curtainFrom A1_curtainTo, o1 A0 c0 A0_is A0_js A0_times A0_placeX A0_placeY A0_toldBy, (A0_placeX, .inl (cI, 441, .inl c0_placeX)), (A0_placeY, .inl (cI, 441, .inl c0_placeY)), (A0_toldBy, .inl (cI, 1024, .inl res.2))]) 0 0 A := by
  refine Met.ofW (cc := cX1_unlikeTimes) (maxL := 10) (ret := (some .int)) (by decide) rfl ?_
  intro p e s m args below meth c s₁ B hml hv
  obtain ⟨rfl, hsz, hP, hK, hD0⟩ := hv
  have hx := B.exec
  have hb := B.bytes
  have hr := B.returns
  have hts := atoms_spec (ws := wsX1_unlikeTimes) B.pre
  have hown : s.vm.findClass RX1 = some m.cls := findClass_of_methodNamed B.named
  have hlocks := B.notSynchronized
  subst hsz
  have hD : va_D A [o3 A1 c1 A1_swallows A1_seatX A1_seatY A1_curtainX A1_curtainFrom A1_curtainTo, o1 A0 c0 A0_is A0_js A0_times A0_placeX A0_placeY A0_toldBy, (A0_placeX, .inl (cI, 441, .inl c0_placeX)), (A0_placeY, .inl (cI, 441, .inl c0_placeY)), (A0_toldBy, .inl (cI, 1024, .inl c0_toldBy))] := by rw [hAe]; exact hD0.self
  have hA : ∀ q : Nat, s.heap.size ≤ q → A q := fun q h => by rw [hAe]; exact Or.inr h
  clear hAe hD0
  have hS : va_S A s.heap s.heap [] := va_S.rf
  have hl := lv_entry ([.ref A0, .ref A1, .int x2, .int x3, .int x4] : List Value) (n := 10) (Nat.le_of_ble_eq_true rfl)
  rw [lg_entry_eq]
  generalize (lg_sl ([.ref A0, .ref A1, .int x2, .int x3, .int x4] : List Value) ++ List.replicate (10 - (lg_sl ([.ref A0, .ref A1, .int x2, .int x3, .int x4] : List Value)).length) Slot.unset).toArray = ls at hl ⊢
  have hl : lv_has ls 10 [(0, .ref A0), (1, .ref A1), (2, .int x2), (3, .int x3), (4, .int x4)] := hl
  refine lv_aload_n hx hb dX1_unlikeTimes_0 rfl (lv_at hl 1 rfl) ?_
  refine lv_iload_n hx hb dX1_unlikeTimes_1 rfl (lv_at hl 2 rfl) ?_
  obtain ⟨r1, hr1, hres⟩ := bi_1 hres
  refine x_cp (va_runV (As := [.int x2]) (rest := []) ⟨hx, hb, hml, hown, hts⟩ (kX3_imageX l G cI cZ tl A1 A1_swallows A1_seatX A1_seatY A1_curtainX A1_curtainFrom A1_curtainTo c1 x2 r1 hr1) (cwV 1 hts gX1_unlikeTimes_X3_imageX rfl rfl rfl hsX3_imageX ⟨Nat.le_of_ble_eq_true rfl, Nat.le_of_ble_eq_true rfl⟩) ⟨PRO_blind, va_recv hK.1 hP (ci := 3) (q0 := 0) rfl rfl, PRO_at (hP.sub (ws' := [o3 A1 c1 A1_swallows A1_seatX A1_seatY A1_curtainX A1_curtainFrom A1_curtainTo]) [0] rfl) hK⟩ rfl rfl hl.1 rfl (lv_room (Nat.le_of_ble_eq_true rfl)) dX1_unlikeTimes_2 ⟨Nat.zero_le _, Nat.zero_le _⟩) ?_
  refine lv_istore (lv' := [(5, .int r1), (0, .ref A0), (1, .ref A1), (2, .int x2), (3, .int x3), (4, .int x4)]) hx hb dX1_unlikeTimes_5 hl (by decide) rfl (fun ls hl => ?_)
  refine lv_aload_n hx hb dX1_unlikeTimes_7 rfl (lv_at hl 2 rfl) ?_
  refine lv_iload_n hx hb dX1_unlikeTimes_8 rfl (lv_at hl 4 rfl) ?_
  obtain ⟨r2, hr2, hres⟩ := bi_1 hres
  refine x_cp (va_runV (As := [.int x3]) (rest := []) ⟨hx, hb, hml, hown, hts⟩ (kX3_imageY l G cI cZ tl A1 A1_swallows A1_seatX A1_seatY A1_curtainX A1_curtainFrom A1_curtainTo c1 x3 r2 hr2) (cwV 1 hts gX1_unlikeTimes_X3_imageY rfl rfl rfl hsX3_imageY ⟨Nat.le_of_ble_eq_true rfl, Nat.le_of_ble_eq_true rfl⟩) ⟨PRO_blind, va_recv hK.1 hP (ci := 3) (q0 := 0) rfl rfl, PRO_at (hP.sub (ws' := [o3 A1 c1 A1_swallows A1_seatX A1_seatY A1_curtainX A1_curtainFrom A1_curtainTo]) [0] rfl) hK⟩ rfl rfl hl.1 rfl (lv_room (Nat.le_of_ble_eq_true rfl)) dX1_unlikeTimes_9 ⟨Nat.zero_le _, Nat.zero_le _⟩) ?_
  refine lv_istore (lv' := [(6, .int r2), (5, .int r1), (0, .ref A0), (1, .ref A1), (2, .int x2), (3, .int x3), (4, .int x4)]) hx hb dX1_unlikeTimes_12 hl (by decide) rfl (fun ls hl => ?_)
  refine lv_iconst (v := 0) hx hb dX1_unlikeTimes_14 (by decide) ?_
  refine lv_istore (lv' := [(7, .int 0), (6, .int r2), (5, .int r1), (0, .ref A0), (1, .ref A1), (2, .int x2), (3, .int x3), (4, .int x4)]) hx hb dX1_unlikeTimes_15 hl (by decide) rfl (fun ls hl => ?_)
  refine lv_iconst (v := 0) hx hb dX1_unlikeTimes_17 (by decide) ?_
  refine lv_istore (lv' := [(8, .int 0), (7, .int 0), (6, .int r2), (5, .int r1), (0, .ref A0), (1, .ref A1), (2, .int x2), (3, .int x3), (4, .int x4)]) hx hb dX1_unlikeTimes_18 hl (by decide) rfl (fun ls hl => ?_)
  have Q20 : ∀ (v4_L20 : Int32) (v5_L20 : Int32) (v6_L20 : Int32) (n20 : Nat) (v7_L20 : Int32) (v8_L20 : Int32) (e0_toldBy_L20 : (Nat → Int32)) (H : Heap) (locs : List Loc) (ls : Array Slot), LPX (fX1_unlikeTimes_L20 c1 c0 c0_placeX c0_placeY v4_L20 v5_L20 v6_L20) n20 (v7_L20, v8_L20, e0_toldBy_L20) = some res → va_P G vwCl [o3 A1 c1 A1_swallows A1_seatX A1_seatY A1_curtainX A1_curtainFrom A1_curtainTo, o1 A0 c0 A0_is A0_js A0_times A0_placeX A0_placeY A0_toldBy, (A0_placeX, .inl (cI, 441, .inl c0_placeX)), (A0_placeY, .inl (cI, 441, .inl c0_placeY)), (A0_toldBy, .inl (cI, 1024, .inl e0_toldBy_L20))] H → va_D A [o3 A1 c1 A1_swallows A1_seatX A1_seatY A1_curtainX A1_curtainFrom A1_curtainTo, o1 A0 c0 A0_is A0_js A0_times A0_placeX A0_placeY A0_toldBy, (A0_placeX, .inl (cI, 441, .inl c0_placeX)), (A0_placeY, .inl (cI, 441, .inl c0_placeY)), (A0_toldBy, .inl (cI, 1024, .inl e0_toldBy_L20))] → va_S A s.heap H locs → lv_has ls 10 [(0, .ref A0), (4, .int v4_L20), (5, .int v5_L20), (6, .int v6_L20), (7, .int v7_L20), (8, .int v8_L20)] → WRW p l e wsX1_unlikeTimes rX1_unlikeTimes s m ([.ref A0, .ref A1, .int x2, .int x3, .int x4] : List Value).toArray below meth c H locs (Qiw res.1 G A [o3 A1 c1 A1_swallows A1_seatX A1_seatY A1_curtainX A1_curtainFrom A1_curtainTo, o1 A0 c0 A0_is A0_js A0_times A0_placeX A0_placeY A0_toldBy, (A0_placeX, .inl (cI, 441, .inl c0_placeX)), (A0_placeY, .inl (cI, 441, .inl c0_placeY)), (A0_toldBy, .inl (cI, 1024, .inl res.2))]) A (F0 m 20 ls []) := by
    intro v4_L20 v5_L20 v6_L20 n20
    induction n20 with
    | zero =>
      intro v7_L20 v8_L20 e0_toldBy_L20 H locs ls hres
      exact absurd (LPX_0.symm.trans hres) (fun h => by cases h)
    | succ n20 ih20 =>
      intro v7_L20 v8_L20 e0_toldBy_L20 H locs ls hres hP hD hS hl
      have hres := LPX_s.symm.trans hres
      refine lv_iload hx hb dX1_unlikeTimes_20 (lv_at hl 5 rfl) ?_
      refine lv_aload_n hx hb dX1_unlikeTimes_22 rfl (lv_at hl 0 rfl) ?_
      refine va_get (D := G) (ci := 1) (v := .int (c0 6)) (C := RX1) (T := TX1) (N := 8) hx hb hts (fun w h => (List.mem_cons_of_mem _ (List.mem_append_left _ (List.mem_append_right _ h)))) hown hK.1 hP 1 rfl rfl 6 (by decide) (hts (.fieldLink RX1 34 "EchoSeats$Finder" "found" "I") (List.mem_of_getElem? (i := 1) rfl)) (fun _ h9 => h9) rfl dX1_unlikeTimes_23 ?_
      refine lv_icmp_ge (tgt := 95) hx hb dX1_unlikeTimes_26 (by decide) (fun h3 => ?_) (fun h3 => ?_)
      · have hres := ite_t hres h3
        refine lv_iload hx hb dX1_unlikeTimes_95 (lv_at hl 4 rfl) ?_
        obtain rfl := Option.some.inj hres
        exact W.iret hx hb hr (fun t ht hW => ⟨⟨_, (), rfl, rfl, by rw [ht]; exact hP, hD⟩, hS.F ht⟩) hS.2.2 dX1_unlikeTimes_97
      · have hres := ite_f hres h3
        refine lv_iload hx hb dX1_unlikeTimes_29 (lv_at hl 2 rfl) ?_
        refine lv_aload_n hx hb dX1_unlikeTimes_31 rfl (lv_at hl 0 rfl) ?_
        refine va_get (D := G) (ci := 1) (v := .ref A0_placeX) (C := RX1) (T := TX1) (N := 8) hx hb hts (fun w h => (List.mem_cons_of_mem _ (List.mem_append_left _ (List.mem_append_right _ h)))) hown hK.1 hP 1 rfl rfl 4 (by decide) (hts (.fieldLink RX1 21 "EchoSeats$Finder" "placeX" "[I") (List.mem_of_getElem? (i := 2) rfl)) (fun _ h9 => h9) rfl dX1_unlikeTimes_32 ?_
        refine lv_iload hx hb dX1_unlikeTimes_35 (lv_at hl 5 rfl) ?_
        have g4 := gd_1 hres
        have hres := gd_2 hres
        refine x_iald hx hb hK hP 2 rfl (j := (Int32.toNatClampNeg v8_L20)) rfl g4 dX1_unlikeTimes_37 ?_
        refine lv_isub hx hb dX1_unlikeTimes_38 ?_
        refine lv_iload hx hb dX1_unlikeTimes_39 (lv_at hl 3 rfl) ?_
        refine lv_aload_n hx hb dX1_unlikeTimes_41 rfl (lv_at hl 0 rfl) ?_
        refine va_get (D := G) (ci := 1) (v := .ref A0_placeY) (C := RX1) (T := TX1) (N := 8) hx hb hts (fun w h => (List.mem_cons_of_mem _ (List.mem_append_left _ (List.mem_append_right _ h)))) hown hK.1 hP 1 rfl rfl 5 (by decide) (hts (.fieldLink RX1 24 "EchoSeats$Finder" "placeY" "[I") (List.mem_of_getElem? (i := 3) rfl)) (fun _ h9 => h9) rfl dX1_unlikeTimes_42 ?_
        refine lv_iload hx hb dX1_unlikeTimes_45 (lv_at hl 5 rfl) ?_
        have g5 := gd_1 hres
        have hres := gd_2 hres
        refine x_iald hx hb hK hP 3 rfl (j := (Int32.toNatClampNeg v8_L20)) rfl g5 dX1_unlikeTimes_47 ?_
        refine lv_isub hx hb dX1_unlikeTimes_48 ?_
        obtain ⟨r6, hr6, hres⟩ := bi_1 hres
        refine x_cp (va_runSN (As := [.int (v5_L20 - (c0_placeX (Int32.toNatClampNeg v8_L20))), .int (v6_L20 - (c0_placeY (Int32.toNatClampNeg v8_L20)))]) (rest := []) ⟨hx, hb, hml, hown, hts⟩ (kX5_squares l G cI cZ tl (v5_L20 - (c0_placeX (Int32.toNatClampNeg v8_L20))) (v6_L20 - (c0_placeY (Int32.toNatClampNeg v8_L20))) r6 hr6) ⟨va_cnB 2 hts gX1_unlikeTimes_X5_squares_n82 rfl rfl rfl hK.2.2.2.2.2.2.2.2.1 (hts (.initialized RX5) (List.mem_of_getElem? (i := 13) rfl)) hsX5_squares ⟨Nat.le_of_ble_eq_true rfl, Nat.le_of_ble_eq_true rfl⟩, (hts (.static yX5_squares) (List.mem_of_getElem? (i := 21) rfl)), trivial⟩ ⟨PRO_blind, PRO_at va_P0 hK⟩ rfl rfl hl.1 rfl (lv_room (Nat.le_of_ble_eq_true rfl)) dX1_unlikeTimes_49 ⟨Nat.zero_le _, Nat.zero_le _⟩) ?_
        obtain ⟨r7, hr7, hres⟩ := bi_1 hres
        refine x_cp (va_runSN (As := [.int r6]) (rest := []) ⟨hx, hb, hml, hown, hts⟩ (kX5_timeOf l G cI cZ tl r6 r7 hr7) ⟨va_cnB 1 hts gX1_unlikeTimes_X5_timeOf_n53 rfl rfl rfl hK.2.2.2.2.2.2.2.1 (hts (.initialized RX5) (List.mem_of_getElem? (i := 13) rfl)) hsX5_timeOf ⟨Nat.le_of_ble_eq_true rfl, Nat.le_of_ble_eq_true rfl⟩, (hts (.static yX5_timeOf) (List.mem_of_getElem? (i := 23) rfl)), trivial⟩ ⟨PRO_blind, PRO_at va_P0 hK⟩ rfl rfl hl.1 rfl (lv_room (Nat.le_of_ble_eq_true rfl)) dX1_unlikeTimes_52 ⟨Nat.zero_le _, Nat.zero_le _⟩) ?_
        refine lv_istore (lv' := [(9, .int r7), (0, .ref A0), (4, .int v4_L20), (5, .int v5_L20), (6, .int v6_L20), (7, .int v7_L20), (8, .int v8_L20)]) hx hb dX1_unlikeTimes_55 hl (by decide) rfl (fun ls hl => ?_)
        refine lv_iload hx hb dX1_unlikeTimes_57 (lv_at hl 0 rfl) ?_
        refine lv_sipush (v := 1024) hx hb dX1_unlikeTimes_59 (by decide) ?_
        refine lv_icmp_ge (tgt := 89) hx hb dX1_unlikeTimes_62 (by decide) (fun h8 => ?_) (fun h8 => ?_)
        · have hres := ite_t hres h8
          refine lv_iinc (v := (v8_L20 + 1)) (lv' := [(8, .int (v8_L20 + 1)), (9, .int r7), (0, .ref A0), (4, .int v4_L20), (5, .int v5_L20), (6, .int v6_L20), (7, .int v7_L20)]) hx hb dX1_unlikeTimes_89 hl (k := 6) rfl rfl (by decide) rfl (fun ls hl => ?_)
          refine lv_goto (tgt := 20) hx hb dX1_unlikeTimes_92 (by decide) ?_
          exact ih20 v7_L20 (v8_L20 + 1) e0_toldBy_L20 _ _ _ hres hP hD hS (lv_sub hl [2, 3, 4, 5, 6, 0] rfl)
        · have hres := ite_f hres h8
          refine lv_aload_n hx hb dX1_unlikeTimes_65 rfl (lv_at hl 1 rfl) ?_
          refine va_get (D := G) (ci := 1) (v := .ref A0_toldBy) (C := RX1) (T := TX1) (N := 8) hx hb hts (fun w h => (List.mem_cons_of_mem _ (List.mem_append_left _ (List.mem_append_right _ h)))) hown hK.1 hP 1 rfl rfl 7 (by decide) (hts (.fieldLink RX1 27 "EchoSeats$Finder" "toldBy" "[I") (List.mem_of_getElem? (i := 4) rfl)) (fun _ h9 => h9) rfl dX1_unlikeTimes_66 ?_
          refine lv_iload hx hb dX1_unlikeTimes_69 (lv_at hl 0 rfl) ?_
          have g9 := gd_1 hres
          have hres := gd_2 hres
          refine x_iald hx hb hK hP 4 rfl (j := (Int32.toNatClampNeg r7)) rfl g9 dX1_unlikeTimes_71 ?_
          refine lv_iload hx hb dX1_unlikeTimes_72 (lv_at hl 2 rfl) ?_
          refine lv_icmp_eq (tgt := 89) hx hb dX1_unlikeTimes_74 (by decide) (fun h10 => ?_) (fun h10 => ?_)
          · have hres := ite_t hres h10
            refine lv_iinc (v := (v8_L20 + 1)) (lv' := [(8, .int (v8_L20 + 1)), (9, .int r7), (0, .ref A0), (4, .int v4_L20), (5, .int v5_L20), (6, .int v6_L20), (7, .int v7_L20)]) hx hb dX1_unlikeTimes_89 hl (k := 6) rfl rfl (by decide) rfl (fun ls hl => ?_)
            refine lv_goto (tgt := 20) hx hb dX1_unlikeTimes_92 (by decide) ?_
            exact ih20 v7_L20 (v8_L20 + 1) e0_toldBy_L20 _ _ _ hres hP hD hS (lv_sub hl [2, 3, 4, 5, 6, 0] rfl)
          · have hres := ite_f hres h10
            refine lv_aload_n hx hb dX1_unlikeTimes_77 rfl (lv_at hl 1 rfl) ?_
            refine va_get (D := G) (ci := 1) (v := .ref A0_toldBy) (C := RX1) (T := TX1) (N := 8) hx hb hts (fun w h => (List.mem_cons_of_mem _ (List.mem_append_left _ (List.mem_append_right _ h)))) hown hK.1 hP 1 rfl rfl 7 (by decide) (hts (.fieldLink RX1 27 "EchoSeats$Finder" "toldBy" "[I") (List.mem_of_getElem? (i := 4) rfl)) (fun _ h9 => h9) rfl dX1_unlikeTimes_78 ?_
            refine lv_iload hx hb dX1_unlikeTimes_81 (lv_at hl 0 rfl) ?_
            refine lv_iload hx hb dX1_unlikeTimes_83 (lv_at hl 2 rfl) ?_
            have g11 := gd_1 hres
            have hres := gd_2 hres
            refine x_iast hx hb hK hP hD hS 4 rfl (j := (Int32.toNatClampNeg r7)) rfl g11 dX1_unlikeTimes_85 (fun H locs hP hD hS => ?_)
            have hP : va_P G vwCl [o3 A1 c1 A1_swallows A1_seatX A1_seatY A1_curtainX A1_curtainFrom A1_curtainTo, o1 A0 c0 A0_is A0_js A0_times A0_placeX A0_placeY A0_toldBy, (A0_placeX, .inl (cI, 441, .inl c0_placeX)), (A0_placeY, .inl (cI, 441, .inl c0_placeY)), (A0_toldBy, .inl (cI, 1024, .inl (upd e0_toldBy_L20 (Int32.toNatClampNeg r7) v4_L20)))] H := hP
            have hD : va_D A [o3 A1 c1 A1_swallows A1_seatX A1_seatY A1_curtainX A1_curtainFrom A1_curtainTo, o1 A0 c0 A0_is A0_js A0_times A0_placeX A0_placeY A0_toldBy, (A0_placeX, .inl (cI, 441, .inl c0_placeX)), (A0_placeY, .inl (cI, 441, .inl c0_placeY)), (A0_toldBy, .inl (cI, 1024, .inl (upd e0_toldBy_L20 (Int32.toNatClampNeg r7) v4_L20)))] := hD
            refine lv_iinc (v := (v7_L20 + 1)) (lv' := [(7, .int (v7_L20 + 1)), (9, .int r7), (0, .ref A0), (4, .int v4_L20), (5, .int v5_L20), (6, .int v6_L20), (8, .int v8_L20)]) hx hb dX1_unlikeTimes_86 hl (k := 5) rfl rfl (by decide) rfl (fun ls hl => ?_)
            refine lv_iinc (v := (v8_L20 + 1)) (lv' := [(8, .int (v8_L20 + 1)), (7, .int (v7_L20 + 1)), (9, .int r7), (0, .ref A0), (4, .int v4_L20), (5, .int v5_L20), (6, .int v6_L20)]) hx hb dX1_unlikeTimes_89 hl (k := 6) rfl rfl (by decide) rfl (fun ls hl => ?_)
            refine lv_goto (tgt := 20) hx hb dX1_unlikeTimes_92 (by decide) ?_
            exact ih20 (v7_L20 + 1) (v8_L20 + 1) (upd e0_toldBy_L20 (Int32.toNatClampNeg r7) v4_L20) _ _ _ hres hP hD hS (lv_sub hl [3, 4, 5, 6, 1, 0] rfl)
  exact Q20 x4 r1 r2 FU 0 0 c0_toldBy _ _ _ hres hP hD hS (lv_sub hl [4, 8, 3, 2, 1, 0] rfl)
theorem hsX1_unlikeTimes : yX1_unlikeTimes.cls = RX1 ∧ yX1_unlikeTimes.cls ≠ "java/lang/invoke/MethodHandle" ∧ yX1_unlikeTimes.cls ≠ "java/lang/invoke/VarHandle" ∧ (parseMethodDescriptor yX1_unlikeTimes.desc).map (fun d => d.parameters.length) = some 4 := by decide +kernel
set_option maxHeartbeats 4000000 in
set_option maxRecDepth 100000 in
theorem kX5_imageCode (l : Launch) (G : va_G) (cI cZ : ClassId) (tl : List (ClassId × FieldType)) (x0 x1 : Int32) (res : Int32) (hres : fX5_imageCode x0 x1 = some res) : Met l yX5_imageCode wsX5_imageCode rX5_imageCode (va_Pc [.int x0, .int x1] (PRO G cI cZ tl [])) (Sp res) 0 0 (fun _ => False) := by
  refine Met.ofW (cc := cX5_imageCode) (maxL := 2) (ret := (some .int)) (by decide) rfl ?_
  intro p e s m args below meth c s₁ B hml hv
  obtain ⟨rfl, hP, hK⟩ := hv
  have hx := B.exec
  have hb := B.bytes
  have hr := B.returns
  have hts := atoms_spec (ws := wsX5_imageCode) B.pre
  have hown : s.vm.findClass RX5 = some m.cls := findClass_of_methodNamed B.named
  have hlocks := B.notSynchronized
  have hl := lv_entry ([.int x0, .int x1] : List Value) (n := 2) (Nat.le_of_ble_eq_true rfl)
  rw [lg_entry_eq]
  generalize (lg_sl ([.int x0, .int x1] : List Value) ++ List.replicate (2 - (lg_sl ([.int x0, .int x1] : List Value)).length) Slot.unset).toArray = ls at hl ⊢
  have hl : lv_has ls 2 [(0, .int x0), (1, .int x1)] := hl
  refine lv_bipush (v := 100) hx hb dX5_imageCode_0 (by decide) ?_
  refine lv_iload_n hx hb dX5_imageCode_2 rfl (lv_at hl 0 rfl) ?_
  refine lv_iconst (v := 3) hx hb dX5_imageCode_3 (by decide) ?_
  refine lv_iadd hx hb dX5_imageCode_4 ?_
  refine lv_imul hx hb dX5_imageCode_5 ?_
  refine lv_iload_n hx hb dX5_imageCode_6 rfl (lv_at hl 1 rfl) ?_
  refine lv_iadd hx hb dX5_imageCode_7 ?_
  refine lv_iconst (v := 3) hx hb dX5_imageCode_8 (by decide) ?_
  refine lv_iadd hx hb dX5_imageCode_9 ?_
  obtain rfl := Option.some.inj hres
  exact W.iret hx hb hr (fun t ht hW => ⟨rfl, ht⟩) (fun q h => absurd h List.not_mem_nil) dX5_imageCode_10
theorem hsX5_imageCode : yX5_imageCode.cls ≠ "java/lang/invoke/MethodHandle" ∧ yX5_imageCode.cls ≠ "java/lang/invoke/VarHandle" ∧ (parseMethodDescriptor yX5_imageCode.desc).map (fun d => d.parameters.length) = some 2 := by decide +kernel
set_option maxHeartbeats 4000000 in
set_option maxRecDepth 100000 in
theorem kX1_tellingImage (l : Launch) (G : va_G) (cI cZ : ClassId) (tl : List (ClassId × FieldType)) (sz : Nat) (A : Nat → Prop) (A0 A0_is A0_js A0_times A0_placeX A0_placeY A0_toldBy A1 A1_swallows A1_seatX A1_seatY A1_curtainX A1_curtainFrom A1_curtainTo : Nat) (c0 c0_toldBy c1 c0_placeX c0_placeY : Nat → Int32) (res : Int32 × (Nat → Int32)) (hAe : A = va_A [o1 A0 c0 A0_is A0_js A0_times A0_placeX A0_placeY A0_toldBy, (A0_toldBy, .inl (cI, 1024, .inl c0_toldBy)), o3 A1 c1 A1_swallows A1_seatX A1_seatY A1_curtainX A1_curtainFrom A1_curtainTo, (A0_placeX, .inl (cI, 441, .inl c0_placeX)), (A0_placeY, .inl (cI, 441, .inl c0_placeY))] sz) (hres : fX1_tellingImage c0 c0_toldBy c1 c0_placeX c0_placeY = some res) : Met l yX1_tellingImage wsX1_tellingImage rX1_tellingImage (va_Pc [.ref A0, .ref A1] (PRW G cI cZ tl [o1 A0 c0 A0_is A0_js A0_times A0_placeX A0_placeY A0_toldBy, (A0_toldBy, .inl (cI, 1024, .inl c0_toldBy)), o3 A1 c1 A1_swallows A1_seatX A1_seatY A1_curtainX A1_curtainFrom A1_curtainTo, (A0_placeX, .inl (cI, 441, .inl c0_placeX)), (A0_placeY, .inl (cI, 441, .inl c0_placeY))] sz)) (Qiw res.1 G A [o1 A0 c0 A0_is A0_js A0_times A0_placeX A0_placeY A0_toldBy, (A0_toldBy, .inl (cI, 1024, .inl res.2)), o3 A1 c1 A1_swallows A1_seatX A1_seatY A1_curtainX A1_curtainFrom A1_curtainTo, (A0_placeX, .inl (cI, 441, .inl c0_placeX)), (A0_placeY, .inl (cI, 441, .inl c0_placeY))]) 0 0 A := by
  refine Met.ofW (cc := cX1_tellingImage) (maxL := 9) (ret := (some .int)) (by decide) rfl ?_
  intro p e s m args below meth c s₁ B hml hv
  obtain ⟨rfl, hsz, hP, hK, hD0⟩ := hv
  have hx := B.exec
  have hb := B.bytes
  have hr := B.returns
  have hts := atoms_spec (ws := wsX1_tellingImage) B.pre
  have hown : s.vm.findClass RX1 = some m.cls := findClass_of_methodNamed B.named
  have hlocks := B.notSynchronized
  subst hsz
  have hD : va_D A [o1 A0 c0 A0_is A0_js A0_times A0_placeX A0_placeY A0_toldBy, (A0_toldBy, .inl (cI, 1024, .inl c0_toldBy)), o3 A1 c1 A1_swallows A1_seatX A1_seatY A1_curtainX A1_curtainFrom A1_curtainTo, (A0_placeX, .inl (cI, 441, .inl c0_placeX)), (A0_placeY, .inl (cI, 441, .inl c0_placeY))] := by rw [hAe]; exact hD0.self
  have hA : ∀ q : Nat, s.heap.size ≤ q → A q := fun q h => by rw [hAe]; exact Or.inr h
  clear hAe hD0
  have hS : va_S A s.heap s.heap [] := va_S.rf
  have hl := lv_entry ([.ref A0, .ref A1] : List Value) (n := 9) (Nat.le_of_ble_eq_true rfl)
  rw [lg_entry_eq]
  generalize (lg_sl ([.ref A0, .ref A1] : List Value) ++ List.replicate (9 - (lg_sl ([.ref A0, .ref A1] : List Value)).length) Slot.unset).toArray = ls at hl ⊢
  have hl : lv_has ls 9 [(0, .ref A0), (1, .ref A1)] := hl
  refine lv_bipush (v := (-9)) hx hb dX1_tellingImage_0 (by decide) ?_
  refine lv_istore_n (lv' := [(2, .int (-9)), (0, .ref A0), (1, .ref A1)]) hx hb dX1_tellingImage_2 rfl hl (by decide) rfl (fun ls hl => ?_)
  refine lv_iconst (v := 0) hx hb dX1_tellingImage_3 (by decide) ?_
  refine lv_istore_n (lv' := [(3, .int 0), (2, .int (-9)), (0, .ref A0), (1, .ref A1)]) hx hb dX1_tellingImage_4 rfl hl (by decide) rfl (fun ls hl => ?_)
  refine lv_iconst (v := 0) hx hb dX1_tellingImage_5 (by decide) ?_
  refine lv_istore (lv' := [(4, .int 0), (3, .int 0), (2, .int (-9)), (0, .ref A0), (1, .ref A1)]) hx hb dX1_tellingImage_6 hl (by decide) rfl (fun ls hl => ?_)
  refine lv_aload_n hx hb dX1_tellingImage_8 rfl (lv_at hl 3 rfl) ?_
  refine va_get (D := G) (ci := 1) (v := .ref A0_toldBy) (C := RX1) (T := TX1) (N := 8) hx hb hts (fun w h => (List.mem_cons_of_mem _ (List.mem_append_left _ (List.mem_append_right _ h)))) hown hK.1 hP 0 rfl rfl 7 (by decide) (hts (.fieldLink RX1 27 "EchoSeats$Finder" "toldBy" "[I") (List.mem_of_getElem? (i := 1) rfl)) (fun _ h9 => h9) rfl dX1_tellingImage_9 ?_
  refine lv_iconst (v := 0) hx hb dX1_tellingImage_12 (by decide) ?_
  obtain ⟨r1, hr1, hres⟩ := bi_1 hres
  refine x_cv (wr := [o1 A0 c0 A0_is A0_js A0_times A0_placeX A0_placeY A0_toldBy, o3 A1 c1 A1_swallows A1_seatX A1_seatY A1_curtainX A1_curtainFrom A1_curtainTo, (A0_placeX, .inl (cI, 441, .inl c0_placeX)), (A0_placeY, .inl (cI, 441, .inl c0_placeY))]) (w2 := [o1 A0 c0 A0_is A0_js A0_times A0_placeX A0_placeY A0_toldBy, (A0_toldBy, .inl (cI, 1024, .inl r1)), o3 A1 c1 A1_swallows A1_seatX A1_seatY A1_curtainX A1_curtainFrom A1_curtainTo, (A0_placeX, .inl (cI, 441, .inl c0_placeX)), (A0_placeY, .inl (cI, 441, .inl c0_placeY))]) hP hD hS hA (va_runS (As := [.ref A0_toldBy, .int 0]) (rest := []) ⟨hx, hb, hml, hown, hts⟩ (kJ7_fill_53178 l G cI cZ tl s.heap.size _ A0_toldBy 1024 c0_toldBy 0 r1 rfl hr1) (va_cwS 2 hts gX1_tellingImage_J7_fill_53178 rfl rfl rfl hsJ7_fill_53178 ⟨Nat.le_of_ble_eq_true rfl, Nat.le_of_ble_eq_true rfl⟩) ⟨PRW_blind, PRW_at (hP.sub (ws' := [(A0_toldBy, .inl (cI, 1024, .inl c0_toldBy))]) [1] rfl) (hD.sub (ws' := [(A0_toldBy, .inl (cI, 1024, .inl c0_toldBy))]) [1] (by decide) rfl) hK⟩ rfl rfl hl.1 rfl (lv_room (Nat.le_of_ble_eq_true rfl)) dX1_tellingImage_13 ⟨Nat.zero_le _, Nat.zero_le _⟩) [1] [0, 2, 3, 4] [0, 4, 1, 2, 3] rfl rfl (by decide) (by decide) rfl rfl (by decide) (fun H locs hP hD hS => ?_)
  refine lv_bipush (v := (-3)) hx hb dX1_tellingImage_16 (by decide) ?_
  refine lv_istore (lv' := [(5, .int (-3)), (4, .int 0), (3, .int 0), (2, .int (-9)), (0, .ref A0), (1, .ref A1)]) hx hb dX1_tellingImage_18 hl (by decide) rfl (fun ls hl => ?_)
  have Q20 : ∀ (n20 : Nat) (v2_L20 : Int32) (v3_L20 : Int32) (v4_L20 : Int32) (v5_L20 : Int32) (e0_toldBy_L20 : (Nat → Int32)) (H : Heap) (locs : List Loc) (ls : Array Slot), LPX (fX1_tellingImage_L20 c0 c1 c0_placeX c0_placeY) n20 (v2_L20, v3_L20, v4_L20, v5_L20, e0_toldBy_L20) = some res → va_P G vwCl [o1 A0 c0 A0_is A0_js A0_times A0_placeX A0_placeY A0_toldBy, (A0_toldBy, .inl (cI, 1024, .inl e0_toldBy_L20)), o3 A1 c1 A1_swallows A1_seatX A1_seatY A1_curtainX A1_curtainFrom A1_curtainTo, (A0_placeX, .inl (cI, 441, .inl c0_placeX)), (A0_placeY, .inl (cI, 441, .inl c0_placeY))] H → va_D A [o1 A0 c0 A0_is A0_js A0_times A0_placeX A0_placeY A0_toldBy, (A0_toldBy, .inl (cI, 1024, .inl e0_toldBy_L20)), o3 A1 c1 A1_swallows A1_seatX A1_seatY A1_curtainX A1_curtainFrom A1_curtainTo, (A0_placeX, .inl (cI, 441, .inl c0_placeX)), (A0_placeY, .inl (cI, 441, .inl c0_placeY))] → va_S A s.heap H locs → lv_has ls 9 [(0, .ref A0), (1, .ref A1), (2, .int v2_L20), (3, .int v3_L20), (4, .int v4_L20), (5, .int v5_L20)] → WRW p l e wsX1_tellingImage rX1_tellingImage s m ([.ref A0, .ref A1] : List Value).toArray below meth c H locs (Qiw res.1 G A [o1 A0 c0 A0_is A0_js A0_times A0_placeX A0_placeY A0_toldBy, (A0_toldBy, .inl (cI, 1024, .inl res.2)), o3 A1 c1 A1_swallows A1_seatX A1_seatY A1_curtainX A1_curtainFrom A1_curtainTo, (A0_placeX, .inl (cI, 441, .inl c0_placeX)), (A0_placeY, .inl (cI, 441, .inl c0_placeY))]) A (F0 m 20 ls []) := by
    intro n20
    induction n20 with
    | zero =>
      intro v2_L20 v3_L20 v4_L20 v5_L20 e0_toldBy_L20 H locs ls hres
      exact absurd (LPX_0.symm.trans hres) (fun h => by cases h)
    | succ n20 ih20 =>
      intro v2_L20 v3_L20 v4_L20 v5_L20 e0_toldBy_L20 H locs ls hres hP hD hS hl
      have hres := LPX_s.symm.trans hres
      refine lv_iload hx hb dX1_tellingImage_20 (lv_at hl 5 rfl) ?_
      refine lv_iconst (v := 3) hx hb dX1_tellingImage_22 (by decide) ?_
      refine lv_icmp_gt (tgt := 92) hx hb dX1_tellingImage_23 (by decide) (fun h2 => ?_) (fun h2 => ?_)
      · have hres := ite_t hres h2
        refine lv_iload_n hx hb dX1_tellingImage_92 rfl (lv_at hl 2 rfl) ?_
        obtain rfl := Option.some.inj hres
        exact W.iret hx hb hr (fun t ht hW => ⟨⟨_, (), rfl, rfl, by rw [ht]; exact hP, hD⟩, hS.F ht⟩) hS.2.2 dX1_tellingImage_93
      · have hres := ite_f hres h2
        refine lv_iconst (v := 3) hx hb dX1_tellingImage_26 (by decide) ?_
        refine lv_iload hx hb dX1_tellingImage_27 (lv_at hl 5 rfl) ?_
        refine va_mabs hx hb (hml.trans hl.1.symm) hown (hts (.methodLink RX1 63 Lib.Math.abs.name) (List.mem_of_getElem? (i := 2) rfl)) (hts (.static Lib.Math.abs.name) (List.mem_of_getElem? (i := 3) rfl)) (hts (.initialized "java/lang/Math") (List.mem_of_getElem? (i := 4) rfl)) (hts (.code Lib.Math.abs.name Lib.Math.abs.code 1 (some .int)) (List.mem_of_getElem? (i := 5) rfl)) (Nat.le_of_ble_eq_true rfl) (Nat.le_of_ble_eq_true rfl) (Nat.zero_le _) (Nat.zero_le _) dX1_tellingImage_29 ?_
        refine lv_isub hx hb dX1_tellingImage_32 ?_
        refine lv_topi (fun y3 ey3 => ?_)
        have hres := bnd_z ey3 hres
        refine lv_istore (lv' := [(6, .int y3), (0, .ref A0), (1, .ref A1), (2, .int v2_L20), (3, .int v3_L20), (4, .int v4_L20), (5, .int v5_L20)]) hx hb dX1_tellingImage_33 hl (by decide) rfl (fun ls hl => ?_)
        refine lv_iload hx hb dX1_tellingImage_35 (lv_at hl 0 rfl) ?_
        refine lv_ineg hx hb dX1_tellingImage_37 ?_
        refine lv_topi (fun y4 ey4 => ?_)
        have hres := bnd_z ey4 hres
        refine lv_istore (lv' := [(7, .int y4), (6, .int y3), (0, .ref A0), (1, .ref A1), (2, .int v2_L20), (3, .int v3_L20), (4, .int v4_L20), (5, .int v5_L20)]) hx hb dX1_tellingImage_38 hl (by decide) rfl (fun ls hl => ?_)
        have Q40 : ∀ (v5_L40 : Int32) (v6_L40 : Int32) (n40 : Nat) (v2_L40 : Int32) (v3_L40 : Int32) (v4_L40 : Int32) (v7_L40 : Int32) (e0_toldBy_L40 : (Nat → Int32)) (H : Heap) (locs : List Loc) (ls : Array Slot), LPX (fX1_tellingImage_L40 c0 c1 c0_placeX c0_placeY v5_L40 v6_L40 (LPX (fX1_tellingImage_L20 c0 c1 c0_placeX c0_placeY) n20)) n40 (v2_L40, v3_L40, v4_L40, v7_L40, e0_toldBy_L40) = some res → va_P G vwCl [o1 A0 c0 A0_is A0_js A0_times A0_placeX A0_placeY A0_toldBy, (A0_toldBy, .inl (cI, 1024, .inl e0_toldBy_L40)), o3 A1 c1 A1_swallows A1_seatX A1_seatY A1_curtainX A1_curtainFrom A1_curtainTo, (A0_placeX, .inl (cI, 441, .inl c0_placeX)), (A0_placeY, .inl (cI, 441, .inl c0_placeY))] H → va_D A [o1 A0 c0 A0_is A0_js A0_times A0_placeX A0_placeY A0_toldBy, (A0_toldBy, .inl (cI, 1024, .inl e0_toldBy_L40)), o3 A1 c1 A1_swallows A1_seatX A1_seatY A1_curtainX A1_curtainFrom A1_curtainTo, (A0_placeX, .inl (cI, 441, .inl c0_placeX)), (A0_placeY, .inl (cI, 441, .inl c0_placeY))] → va_S A s.heap H locs → lv_has ls 9 [(0, .ref A0), (1, .ref A1), (2, .int v2_L40), (3, .int v3_L40), (4, .int v4_L40), (5, .int v5_L40), (6, .int v6_L40), (7, .int v7_L40)] → WRW p l e wsX1_tellingImage rX1_tellingImage s m ([.ref A0, .ref A1] : List Value).toArray below meth c H locs (Qiw res.1 G A [o1 A0 c0 A0_is A0_js A0_times A0_placeX A0_placeY A0_toldBy, (A0_toldBy, .inl (cI, 1024, .inl res.2)), o3 A1 c1 A1_swallows A1_seatX A1_seatY A1_curtainX A1_curtainFrom A1_curtainTo, (A0_placeX, .inl (cI, 441, .inl c0_placeX)), (A0_placeY, .inl (cI, 441, .inl c0_placeY))]) A (F0 m 40 ls []) := by
          intro v5_L40 v6_L40 n40
          induction n40 with
          | zero =>
            intro v2_L40 v3_L40 v4_L40 v7_L40 e0_toldBy_L40 H locs ls hres
            exact absurd (LPX_0.symm.trans hres) (fun h => by cases h)
          | succ n40 ih40 =>
            intro v2_L40 v3_L40 v4_L40 v7_L40 e0_toldBy_L40 H locs ls hres hP hD hS hl
            have hres := LPX_s.symm.trans hres
            refine lv_iload hx hb dX1_tellingImage_40 (lv_at hl 7 rfl) ?_
            refine lv_iload hx hb dX1_tellingImage_42 (lv_at hl 6 rfl) ?_
            refine lv_icmp_gt (tgt := 86) hx hb dX1_tellingImage_44 (by decide) (fun h5 => ?_) (fun h5 => ?_)
            · have hres := ite_t hres h5
              refine lv_iinc (v := (v5_L40 + 1)) (lv' := [(5, .int (v5_L40 + 1)), (0, .ref A0), (1, .ref A1), (2, .int v2_L40), (3, .int v3_L40), (4, .int v4_L40), (6, .int v6_L40), (7, .int v7_L40)]) hx hb dX1_tellingImage_86 hl (k := 5) rfl rfl (by decide) rfl (fun ls hl => ?_)
              refine lv_goto (tgt := 20) hx hb dX1_tellingImage_89 (by decide) ?_
              exact ih20 v2_L40 v3_L40 v4_L40 (v5_L40 + 1) e0_toldBy_L40 _ _ _ hres hP hD hS (lv_sub hl [1, 2, 3, 4, 5, 0] rfl)
            · have hres := ite_f hres h5
              refine lv_iinc (v := (v4_L40 + 1)) (lv' := [(4, .int (v4_L40 + 1)), (0, .ref A0), (1, .ref A1), (2, .int v2_L40), (3, .int v3_L40), (5, .int v5_L40), (6, .int v6_L40), (7, .int v7_L40)]) hx hb dX1_tellingImage_47 hl (k := 4) rfl rfl (by decide) rfl (fun ls hl => ?_)
              refine lv_aload_n hx hb dX1_tellingImage_50 rfl (lv_at hl 1 rfl) ?_
              refine lv_aload_n hx hb dX1_tellingImage_51 rfl (lv_at hl 2 rfl) ?_
              refine lv_iload hx hb dX1_tellingImage_52 (lv_at hl 5 rfl) ?_
              refine lv_iload hx hb dX1_tellingImage_54 (lv_at hl 7 rfl) ?_
              refine lv_iload hx hb dX1_tellingImage_56 (lv_at hl 0 rfl) ?_
              obtain ⟨r6, hr6, hres⟩ := bi_1 hres
              refine x_ci (wr := []) (w2 := [o1 A0 c0 A0_is A0_js A0_times A0_placeX A0_placeY A0_toldBy, (A0_toldBy, .inl (cI, 1024, .inl r6.2)), o3 A1 c1 A1_swallows A1_seatX A1_seatY A1_curtainX A1_curtainFrom A1_curtainTo, (A0_placeX, .inl (cI, 441, .inl c0_placeX)), (A0_placeY, .inl (cI, 441, .inl c0_placeY))]) hP hD hS hA (va_runV (As := [.ref A1, .int v5_L40, .int v7_L40, .int (v4_L40 + 1)]) (rest := []) ⟨hx, hb, hml, hown, hts⟩ (kX1_unlikeTimes l G cI cZ tl H.size _ A1 A1_swallows A1_seatX A1_seatY A1_curtainX A1_curtainFrom A1_curtainTo A0 A0_is A0_js A0_times A0_placeX A0_placeY A0_toldBy c1 c0 c0_placeX c0_placeY e0_toldBy_L40 v5_L40 v7_L40 (v4_L40 + 1) r6 rfl hr6) (cwV 4 hts gX1_tellingImage_X1_unlikeTimes rfl rfl rfl hsX1_unlikeTimes ⟨Nat.le_of_ble_eq_true rfl, Nat.le_of_ble_eq_true rfl⟩) ⟨PRW_blind, va_recv hK.1 hP (ci := 1) (q0 := 0) rfl rfl, PRW_at (hP.sub (ws' := [o3 A1 c1 A1_swallows A1_seatX A1_seatY A1_curtainX A1_curtainFrom A1_curtainTo, o1 A0 c0 A0_is A0_js A0_times A0_placeX A0_placeY A0_toldBy, (A0_placeX, .inl (cI, 441, .inl c0_placeX)), (A0_placeY, .inl (cI, 441, .inl c0_placeY)), (A0_toldBy, .inl (cI, 1024, .inl e0_toldBy_L40))]) [2, 0, 3, 4, 1] rfl) (hD.sub (ws' := [o3 A1 c1 A1_swallows A1_seatX A1_seatY A1_curtainX A1_curtainFrom A1_curtainTo, o1 A0 c0 A0_is A0_js A0_times A0_placeX A0_placeY A0_toldBy, (A0_placeX, .inl (cI, 441, .inl c0_placeX)), (A0_placeY, .inl (cI, 441, .inl c0_placeY)), (A0_toldBy, .inl (cI, 1024, .inl e0_toldBy_L40))]) [2, 0, 3, 4, 1] (by decide) rfl) hK⟩ rfl rfl hl.1 rfl (lv_room (Nat.le_of_ble_eq_true rfl)) dX1_tellingImage_58 ⟨Nat.zero_le _, Nat.zero_le _⟩) [2, 0, 3, 4, 1] [] [1, 4, 0, 2, 3] rfl rfl (by decide) (by decide) rfl rfl (by decide) (fun H locs hP hD hS => ?_)
              refine lv_istore (lv' := [(8, .int r6.1), (4, .int (v4_L40 + 1)), (0, .ref A0), (1, .ref A1), (2, .int v2_L40), (3, .int v3_L40), (5, .int v5_L40), (6, .int v6_L40), (7, .int v7_L40)]) hx hb dX1_tellingImage_61 hl (by decide) rfl (fun ls hl => ?_)
              refine lv_iload hx hb dX1_tellingImage_63 (lv_at hl 0 rfl) ?_
              refine lv_iload_n hx hb dX1_tellingImage_65 rfl (lv_at hl 5 rfl) ?_
              refine lv_icmp_le (tgt := 80) hx hb dX1_tellingImage_66 (by decide) (fun h7 => ?_) (fun h7 => ?_)
              · have hres := ite_t hres h7
                refine lv_iinc (v := (v7_L40 + 1)) (lv' := [(7, .int (v7_L40 + 1)), (8, .int r6.1), (4, .int (v4_L40 + 1)), (0, .ref A0), (1, .ref A1), (2, .int v2_L40), (3, .int v3_L40), (5, .int v5_L40), (6, .int v6_L40)]) hx hb dX1_tellingImage_80 hl (k := 8) rfl rfl (by decide) rfl (fun ls hl => ?_)
                refine lv_goto (tgt := 40) hx hb dX1_tellingImage_83 (by decide) ?_
                exact ih40 v2_L40 v3_L40 (v4_L40 + 1) (v7_L40 + 1) r6.2 _ _ _ hres hP hD hS (lv_sub hl [3, 4, 5, 6, 2, 7, 8, 0] rfl)
              · have hres := ite_f hres h7
                refine lv_iload hx hb dX1_tellingImage_69 (lv_at hl 0 rfl) ?_
                refine lv_istore_n (lv' := [(3, .int r6.1), (8, .int r6.1), (4, .int (v4_L40 + 1)), (0, .ref A0), (1, .ref A1), (2, .int v2_L40), (5, .int v5_L40), (6, .int v6_L40), (7, .int v7_L40)]) hx hb dX1_tellingImage_71 rfl hl (by decide) rfl (fun ls hl => ?_)
                refine lv_iload hx hb dX1_tellingImage_72 (lv_at hl 6 rfl) ?_
                refine lv_iload hx hb dX1_tellingImage_74 (lv_at hl 8 rfl) ?_
                obtain ⟨r8, hr8, hres⟩ := bi_1 hres
                refine x_cp (va_runSN (As := [.int v5_L40, .int v7_L40]) (rest := []) ⟨hx, hb, hml, hown, hts⟩ (kX5_imageCode l G cI cZ tl v5_L40 v7_L40 r8 hr8) ⟨va_cnB 2 hts gX1_tellingImage_X5_imageCode_n72 rfl rfl rfl hK.2.2.2.2.2.2.2.2.2 (hts (.initialized RX5) (List.mem_of_getElem? (i := 26) rfl)) hsX5_imageCode ⟨Nat.le_of_ble_eq_true rfl, Nat.le_of_ble_eq_true rfl⟩, (hts (.static yX5_imageCode) (List.mem_of_getElem? (i := 38) rfl)), trivial⟩ ⟨PRO_blind, PRO_at va_P0 hK⟩ rfl rfl hl.1 rfl (lv_room (Nat.le_of_ble_eq_true rfl)) dX1_tellingImage_76 ⟨Nat.zero_le _, Nat.zero_le _⟩) ?_
                refine lv_istore_n (lv' := [(2, .int r8), (3, .int r6.1), (8, .int r6.1), (4, .int (v4_L40 + 1)), (0, .ref A0), (1, .ref A1), (5, .int v5_L40), (6, .int v6_L40), (7, .int v7_L40)]) hx hb dX1_tellingImage_79 rfl hl (by decide) rfl (fun ls hl => ?_)
                refine lv_iinc (v := (v7_L40 + 1)) (lv' := [(7, .int (v7_L40 + 1)), (2, .int r8), (3, .int r6.1), (8, .int r6.1), (4, .int (v4_L40 + 1)), (0, .ref A0), (1, .ref A1), (5, .int v5_L40), (6, .int v6_L40)]) hx hb dX1_tellingImage_80 hl (k := 8) rfl rfl (by decide) rfl (fun ls hl => ?_)
                refine lv_goto (tgt := 40) hx hb dX1_tellingImage_83 (by decide) ?_
                exact ih40 r8 r6.1 (v4_L40 + 1) (v7_L40 + 1) r6.2 _ _ _ hres hP hD hS (lv_sub hl [5, 6, 1, 2, 4, 7, 8, 0] rfl)
        exact Q40 v5_L20 y3 FU v2_L20 v3_L20 v4_L20 y4 e0_toldBy_L20 _ _ _ hres hP hD hS (lv_sub hl [2, 3, 4, 5, 6, 7, 1, 0] rfl)
  exact Q20 FU (-9) 0 0 (-3) r1 _ _ _ hres hP hD hS (lv_sub hl [4, 5, 3, 2, 1, 0] rfl)
theorem hsX1_tellingImage : yX1_tellingImage.cls = RX1 ∧ yX1_tellingImage.cls ≠ "java/lang/invoke/MethodHandle" ∧ yX1_tellingImage.cls ≠ "java/lang/invoke/VarHandle" ∧ (parseMethodDescriptor yX1_tellingImage.desc).map (fun d => d.parameters.length) = some 1 := by decide +kernel
set_option maxHeartbeats 4000000 in
set_option maxRecDepth 100000 in
theorem kX2_loseOldest (l : Launch) (G : va_G) (cI cZ : ClassId) (tl : List (ClassId × FieldType)) (sz : Nat) (A : Nat → Prop) (A0 A0_kinds A0_which A0_firsts A0_seconds : Nat) (c0 c0_kinds c0_which c0_firsts c0_seconds : Nat → Int32) (res : (Nat → Int32) × (Nat → Int32) × (Nat → Int32) × (Nat → Int32) × (Nat → Int32)) (hAe : A = va_A [o2 A0 c0 A0_kinds A0_which A0_firsts A0_seconds, (A0_kinds, .inl (cI, 10, .inl c0_kinds)), (A0_which, .inl (cI, 10, .inl c0_which)), (A0_firsts, .inl (cI, 10, .inl c0_firsts)), (A0_seconds, .inl (cI, 10, .inl c0_seconds))] sz) (hres : fX2_loseOldest c0 c0_kinds c0_which c0_firsts c0_seconds = some res) : Met l yX2_loseOldest wsX2_loseOldest rX2_loseOldest (va_Pc [.ref A0] (PRW G cI cZ tl [o2 A0 c0 A0_kinds A0_which A0_firsts A0_seconds, (A0_kinds, .inl (cI, 10, .inl c0_kinds)), (A0_which, .inl (cI, 10, .inl c0_which)), (A0_firsts, .inl (cI, 10, .inl c0_firsts)), (A0_seconds, .inl (cI, 10, .inl c0_seconds))] sz)) (Qvw G A [o2 A0 res.1 A0_kinds A0_which A0_firsts A0_seconds, (A0_kinds, .inl (cI, 10, .inl res.2.1)), (A0_which, .inl (cI, 10, .inl res.2.2.1)), (A0_firsts, .inl (cI, 10, .inl res.2.2.2.1)), (A0_seconds, .inl (cI, 10, .inl res.2.2.2.2))]) 0 0 A := by
  refine Met.ofW (cc := cX2_loseOldest) (maxL := 1) (ret := none) (by decide) rfl ?_
  intro p e s m args below meth c s₁ B hml hv
  obtain ⟨rfl, hsz, hP, hK, hD0⟩ := hv
  have hx := B.exec
  have hb := B.bytes
  have hr := B.returns
  have hts := atoms_spec (ws := wsX2_loseOldest) B.pre
  have hown : s.vm.findClass RX2 = some m.cls := findClass_of_methodNamed B.named
  have hlocks := B.notSynchronized
  subst hsz
  have hD : va_D A [o2 A0 c0 A0_kinds A0_which A0_firsts A0_seconds, (A0_kinds, .inl (cI, 10, .inl c0_kinds)), (A0_which, .inl (cI, 10, .inl c0_which)), (A0_firsts, .inl (cI, 10, .inl c0_firsts)), (A0_seconds, .inl (cI, 10, .inl c0_seconds))] := by rw [hAe]; exact hD0.self
  have hA : ∀ q : Nat, s.heap.size ≤ q → A q := fun q h => by rw [hAe]; exact Or.inr h
  clear hAe hD0
  have hS : va_S A s.heap s.heap [] := va_S.rf
  have hl := lv_entry ([.ref A0] : List Value) (n := 1) (Nat.le_of_ble_eq_true rfl)
  rw [lg_entry_eq]
  generalize (lg_sl ([.ref A0] : List Value) ++ List.replicate (1 - (lg_sl ([.ref A0] : List Value)).length) Slot.unset).toArray = ls at hl ⊢
  have hl : lv_has ls 1 [(0, .ref A0)] := hl
  refine lv_aload_n hx hb dX2_loseOldest_0 rfl (lv_at hl 0 rfl) ?_
  refine lv_bipush (v := 9) hx hb dX2_loseOldest_1 (by decide) ?_
  refine va_put (D := G) (ci := 2) (v := .int 9) (ty := .int) (C := RX2) (T := TX2) (N := 5) hx hb hts (fun w h => (List.mem_cons_of_mem _ (List.mem_append_right _ h))) tyX2 tyX2_ok nmX2 hown hK.1 hP hD hS 0 rfl rfl 4 (by decide) (hts (.fieldLink RX2 24 "EchoSeats$Past" "size" "I") (List.mem_of_getElem? (i := 1) rfl)) (fun _ h9 => h9) rfl (tyX2_ok 4 (by decide)) rfl rfl (Nat.le_of_ble_eq_true rfl) dX2_loseOldest_3 (fun H locs hP hD hS => ?_)
  have hP : va_P G vwCl [o2 A0 (upd c0 4 9) A0_kinds A0_which A0_firsts A0_seconds, (A0_kinds, .inl (cI, 10, .inl c0_kinds)), (A0_which, .inl (cI, 10, .inl c0_which)), (A0_firsts, .inl (cI, 10, .inl c0_firsts)), (A0_seconds, .inl (cI, 10, .inl c0_seconds))] H := hP
  have hD : va_D A [o2 A0 (upd c0 4 9) A0_kinds A0_which A0_firsts A0_seconds, (A0_kinds, .inl (cI, 10, .inl c0_kinds)), (A0_which, .inl (cI, 10, .inl c0_which)), (A0_firsts, .inl (cI, 10, .inl c0_firsts)), (A0_seconds, .inl (cI, 10, .inl c0_seconds))] := hD
  refine lv_aload_n hx hb dX2_loseOldest_6 rfl (lv_at hl 0 rfl) ?_
  refine va_get (D := G) (ci := 2) (v := .ref A0_kinds) (C := RX2) (T := TX2) (N := 5) hx hb hts (fun w h => (List.mem_cons_of_mem _ (List.mem_append_right _ h))) hown hK.1 hP 0 rfl rfl 0 (by decide) (hts (.fieldLink RX2 9 "EchoSeats$Past" "kinds" "[I") (List.mem_of_getElem? (i := 2) rfl)) (fun _ h9 => h9) rfl dX2_loseOldest_7 ?_
  refine lv_iconst (v := 1) hx hb dX2_loseOldest_10 (by decide) ?_
  refine lv_aload_n hx hb dX2_loseOldest_11 rfl (lv_at hl 0 rfl) ?_
  refine va_get (D := G) (ci := 2) (v := .ref A0_kinds) (C := RX2) (T := TX2) (N := 5) hx hb hts (fun w h => (List.mem_cons_of_mem _ (List.mem_append_right _ h))) hown hK.1 hP 0 rfl rfl 0 (by decide) (hts (.fieldLink RX2 9 "EchoSeats$Past" "kinds" "[I") (List.mem_of_getElem? (i := 2) rfl)) (fun _ h9 => h9) rfl dX2_loseOldest_12 ?_
  refine lv_iconst (v := 0) hx hb dX2_loseOldest_15 (by decide) ?_
  refine lv_aload_n hx hb dX2_loseOldest_16 rfl (lv_at hl 0 rfl) ?_
  refine va_get (D := G) (ci := 2) (v := .int 9) (C := RX2) (T := TX2) (N := 5) hx hb hts (fun w h => (List.mem_cons_of_mem _ (List.mem_append_right _ h))) hown hK.1 hP 0 rfl rfl 4 (by decide) (hts (.fieldLink RX2 24 "EchoSeats$Past" "size" "I") (List.mem_of_getElem? (i := 1) rfl)) (fun _ h9 => h9) rfl dX2_loseOldest_17 ?_
  refine va_copyi hx hb (hml.trans hl.1.symm) hown (hts (.methodLink RX2 31 arraycopyName) (List.mem_of_getElem? (i := 3) rfl)) (hts (.native arraycopyName) (List.mem_of_getElem? (i := 4) rfl)) (hts (.static arraycopyName) (List.mem_of_getElem? (i := 5) rfl)) (hts (.initialized "java/lang/System") (List.mem_of_getElem? (i := 6) rfl)) hK.1 hP hD hS 1 1 0 0 rfl rfl rfl rfl rfl (by decide) (by decide) (by decide) (by decide) (by decide) (fun _ _ => rfl) (Nat.le_of_ble_eq_true rfl) (Nat.le_of_ble_eq_true (by decide)) dX2_loseOldest_20 (fun H locs hP hD hS => ?_)
  have hP : va_P G vwCl [o2 A0 (upd c0 4 9) A0_kinds A0_which A0_firsts A0_seconds, (A0_kinds, .inl (cI, 10, .inl (va_cpy c0_kinds c0_kinds 1 0 9))), (A0_which, .inl (cI, 10, .inl c0_which)), (A0_firsts, .inl (cI, 10, .inl c0_firsts)), (A0_seconds, .inl (cI, 10, .inl c0_seconds))] H := hP
  have hD : va_D A [o2 A0 (upd c0 4 9) A0_kinds A0_which A0_firsts A0_seconds, (A0_kinds, .inl (cI, 10, .inl (va_cpy c0_kinds c0_kinds 1 0 9))), (A0_which, .inl (cI, 10, .inl c0_which)), (A0_firsts, .inl (cI, 10, .inl c0_firsts)), (A0_seconds, .inl (cI, 10, .inl c0_seconds))] := hD
  refine lv_aload_n hx hb dX2_loseOldest_23 rfl (lv_at hl 0 rfl) ?_
  refine va_get (D := G) (ci := 2) (v := .ref A0_which) (C := RX2) (T := TX2) (N := 5) hx hb hts (fun w h => (List.mem_cons_of_mem _ (List.mem_append_right _ h))) hown hK.1 hP 0 rfl rfl 1 (by decide) (hts (.fieldLink RX2 15 "EchoSeats$Past" "which" "[I") (List.mem_of_getElem? (i := 7) rfl)) (fun _ h9 => h9) rfl dX2_loseOldest_24 ?_
  refine lv_iconst (v := 1) hx hb dX2_loseOldest_27 (by decide) ?_
  refine lv_aload_n hx hb dX2_loseOldest_28 rfl (lv_at hl 0 rfl) ?_
  refine va_get (D := G) (ci := 2) (v := .ref A0_which) (C := RX2) (T := TX2) (N := 5) hx hb hts (fun w h => (List.mem_cons_of_mem _ (List.mem_append_right _ h))) hown hK.1 hP 0 rfl rfl 1 (by decide) (hts (.fieldLink RX2 15 "EchoSeats$Past" "which" "[I") (List.mem_of_getElem? (i := 7) rfl)) (fun _ h9 => h9) rfl dX2_loseOldest_29 ?_
  refine lv_iconst (v := 0) hx hb dX2_loseOldest_32 (by decide) ?_
  refine lv_aload_n hx hb dX2_loseOldest_33 rfl (lv_at hl 0 rfl) ?_
  refine va_get (D := G) (ci := 2) (v := .int 9) (C := RX2) (T := TX2) (N := 5) hx hb hts (fun w h => (List.mem_cons_of_mem _ (List.mem_append_right _ h))) hown hK.1 hP 0 rfl rfl 4 (by decide) (hts (.fieldLink RX2 24 "EchoSeats$Past" "size" "I") (List.mem_of_getElem? (i := 1) rfl)) (fun _ h9 => h9) rfl dX2_loseOldest_34 ?_
  refine va_copyi hx hb (hml.trans hl.1.symm) hown (hts (.methodLink RX2 31 arraycopyName) (List.mem_of_getElem? (i := 3) rfl)) (hts (.native arraycopyName) (List.mem_of_getElem? (i := 4) rfl)) (hts (.static arraycopyName) (List.mem_of_getElem? (i := 5) rfl)) (hts (.initialized "java/lang/System") (List.mem_of_getElem? (i := 6) rfl)) hK.1 hP hD hS 2 2 0 0 rfl rfl rfl rfl rfl (by decide) (by decide) (by decide) (by decide) (by decide) (fun _ _ => rfl) (Nat.le_of_ble_eq_true rfl) (Nat.le_of_ble_eq_true (by decide)) dX2_loseOldest_37 (fun H locs hP hD hS => ?_)
  have hP : va_P G vwCl [o2 A0 (upd c0 4 9) A0_kinds A0_which A0_firsts A0_seconds, (A0_kinds, .inl (cI, 10, .inl (va_cpy c0_kinds c0_kinds 1 0 9))), (A0_which, .inl (cI, 10, .inl (va_cpy c0_which c0_which 1 0 9))), (A0_firsts, .inl (cI, 10, .inl c0_firsts)), (A0_seconds, .inl (cI, 10, .inl c0_seconds))] H := hP
  have hD : va_D A [o2 A0 (upd c0 4 9) A0_kinds A0_which A0_firsts A0_seconds, (A0_kinds, .inl (cI, 10, .inl (va_cpy c0_kinds c0_kinds 1 0 9))), (A0_which, .inl (cI, 10, .inl (va_cpy c0_which c0_which 1 0 9))), (A0_firsts, .inl (cI, 10, .inl c0_firsts)), (A0_seconds, .inl (cI, 10, .inl c0_seconds))] := hD
  refine lv_aload_n hx hb dX2_loseOldest_40 rfl (lv_at hl 0 rfl) ?_
  refine va_get (D := G) (ci := 2) (v := .ref A0_firsts) (C := RX2) (T := TX2) (N := 5) hx hb hts (fun w h => (List.mem_cons_of_mem _ (List.mem_append_right _ h))) hown hK.1 hP 0 rfl rfl 2 (by decide) (hts (.fieldLink RX2 18 "EchoSeats$Past" "firsts" "[I") (List.mem_of_getElem? (i := 8) rfl)) (fun _ h9 => h9) rfl dX2_loseOldest_41 ?_
  refine lv_iconst (v := 1) hx hb dX2_loseOldest_44 (by decide) ?_
  refine lv_aload_n hx hb dX2_loseOldest_45 rfl (lv_at hl 0 rfl) ?_
  refine va_get (D := G) (ci := 2) (v := .ref A0_firsts) (C := RX2) (T := TX2) (N := 5) hx hb hts (fun w h => (List.mem_cons_of_mem _ (List.mem_append_right _ h))) hown hK.1 hP 0 rfl rfl 2 (by decide) (hts (.fieldLink RX2 18 "EchoSeats$Past" "firsts" "[I") (List.mem_of_getElem? (i := 8) rfl)) (fun _ h9 => h9) rfl dX2_loseOldest_46 ?_
  refine lv_iconst (v := 0) hx hb dX2_loseOldest_49 (by decide) ?_
  refine lv_aload_n hx hb dX2_loseOldest_50 rfl (lv_at hl 0 rfl) ?_
  refine va_get (D := G) (ci := 2) (v := .int 9) (C := RX2) (T := TX2) (N := 5) hx hb hts (fun w h => (List.mem_cons_of_mem _ (List.mem_append_right _ h))) hown hK.1 hP 0 rfl rfl 4 (by decide) (hts (.fieldLink RX2 24 "EchoSeats$Past" "size" "I") (List.mem_of_getElem? (i := 1) rfl)) (fun _ h9 => h9) rfl dX2_loseOldest_51 ?_
  refine va_copyi hx hb (hml.trans hl.1.symm) hown (hts (.methodLink RX2 31 arraycopyName) (List.mem_of_getElem? (i := 3) rfl)) (hts (.native arraycopyName) (List.mem_of_getElem? (i := 4) rfl)) (hts (.static arraycopyName) (List.mem_of_getElem? (i := 5) rfl)) (hts (.initialized "java/lang/System") (List.mem_of_getElem? (i := 6) rfl)) hK.1 hP hD hS 3 3 0 0 rfl rfl rfl rfl rfl (by decide) (by decide) (by decide) (by decide) (by decide) (fun _ _ => rfl) (Nat.le_of_ble_eq_true rfl) (Nat.le_of_ble_eq_true (by decide)) dX2_loseOldest_54 (fun H locs hP hD hS => ?_)
  have hP : va_P G vwCl [o2 A0 (upd c0 4 9) A0_kinds A0_which A0_firsts A0_seconds, (A0_kinds, .inl (cI, 10, .inl (va_cpy c0_kinds c0_kinds 1 0 9))), (A0_which, .inl (cI, 10, .inl (va_cpy c0_which c0_which 1 0 9))), (A0_firsts, .inl (cI, 10, .inl (va_cpy c0_firsts c0_firsts 1 0 9))), (A0_seconds, .inl (cI, 10, .inl c0_seconds))] H := hP
  have hD : va_D A [o2 A0 (upd c0 4 9) A0_kinds A0_which A0_firsts A0_seconds, (A0_kinds, .inl (cI, 10, .inl (va_cpy c0_kinds c0_kinds 1 0 9))), (A0_which, .inl (cI, 10, .inl (va_cpy c0_which c0_which 1 0 9))), (A0_firsts, .inl (cI, 10, .inl (va_cpy c0_firsts c0_firsts 1 0 9))), (A0_seconds, .inl (cI, 10, .inl c0_seconds))] := hD
  refine lv_aload_n hx hb dX2_loseOldest_57 rfl (lv_at hl 0 rfl) ?_
  refine va_get (D := G) (ci := 2) (v := .ref A0_seconds) (C := RX2) (T := TX2) (N := 5) hx hb hts (fun w h => (List.mem_cons_of_mem _ (List.mem_append_right _ h))) hown hK.1 hP 0 rfl rfl 3 (by decide) (hts (.fieldLink RX2 21 "EchoSeats$Past" "seconds" "[I") (List.mem_of_getElem? (i := 9) rfl)) (fun _ h9 => h9) rfl dX2_loseOldest_58 ?_
  refine lv_iconst (v := 1) hx hb dX2_loseOldest_61 (by decide) ?_
  refine lv_aload_n hx hb dX2_loseOldest_62 rfl (lv_at hl 0 rfl) ?_
  refine va_get (D := G) (ci := 2) (v := .ref A0_seconds) (C := RX2) (T := TX2) (N := 5) hx hb hts (fun w h => (List.mem_cons_of_mem _ (List.mem_append_right _ h))) hown hK.1 hP 0 rfl rfl 3 (by decide) (hts (.fieldLink RX2 21 "EchoSeats$Past" "seconds" "[I") (List.mem_of_getElem? (i := 9) rfl)) (fun _ h9 => h9) rfl dX2_loseOldest_63 ?_
  refine lv_iconst (v := 0) hx hb dX2_loseOldest_66 (by decide) ?_
  refine lv_aload_n hx hb dX2_loseOldest_67 rfl (lv_at hl 0 rfl) ?_
  refine va_get (D := G) (ci := 2) (v := .int 9) (C := RX2) (T := TX2) (N := 5) hx hb hts (fun w h => (List.mem_cons_of_mem _ (List.mem_append_right _ h))) hown hK.1 hP 0 rfl rfl 4 (by decide) (hts (.fieldLink RX2 24 "EchoSeats$Past" "size" "I") (List.mem_of_getElem? (i := 1) rfl)) (fun _ h9 => h9) rfl dX2_loseOldest_68 ?_
  refine va_copyi hx hb (hml.trans hl.1.symm) hown (hts (.methodLink RX2 31 arraycopyName) (List.mem_of_getElem? (i := 3) rfl)) (hts (.native arraycopyName) (List.mem_of_getElem? (i := 4) rfl)) (hts (.static arraycopyName) (List.mem_of_getElem? (i := 5) rfl)) (hts (.initialized "java/lang/System") (List.mem_of_getElem? (i := 6) rfl)) hK.1 hP hD hS 4 4 0 0 rfl rfl rfl rfl rfl (by decide) (by decide) (by decide) (by decide) (by decide) (fun _ _ => rfl) (Nat.le_of_ble_eq_true rfl) (Nat.le_of_ble_eq_true (by decide)) dX2_loseOldest_71 (fun H locs hP hD hS => ?_)
  have hP : va_P G vwCl [o2 A0 (upd c0 4 9) A0_kinds A0_which A0_firsts A0_seconds, (A0_kinds, .inl (cI, 10, .inl (va_cpy c0_kinds c0_kinds 1 0 9))), (A0_which, .inl (cI, 10, .inl (va_cpy c0_which c0_which 1 0 9))), (A0_firsts, .inl (cI, 10, .inl (va_cpy c0_firsts c0_firsts 1 0 9))), (A0_seconds, .inl (cI, 10, .inl (va_cpy c0_seconds c0_seconds 1 0 9)))] H := hP
  have hD : va_D A [o2 A0 (upd c0 4 9) A0_kinds A0_which A0_firsts A0_seconds, (A0_kinds, .inl (cI, 10, .inl (va_cpy c0_kinds c0_kinds 1 0 9))), (A0_which, .inl (cI, 10, .inl (va_cpy c0_which c0_which 1 0 9))), (A0_firsts, .inl (cI, 10, .inl (va_cpy c0_firsts c0_firsts 1 0 9))), (A0_seconds, .inl (cI, 10, .inl (va_cpy c0_seconds c0_seconds 1 0 9)))] := hD
  obtain rfl := Option.some.inj hres
  exact W.vret hx hb hr (fun t ht hW => ⟨⟨(), rfl, trivial, by rw [ht]; exact hP, hD⟩, hS.F ht⟩) hS.2.2 dX2_loseOldest_74
theorem hsX2_loseOldest : yX2_loseOldest.cls = RX2 ∧ yX2_loseOldest.cls ≠ "java/lang/invoke/MethodHandle" ∧ yX2_loseOldest.cls ≠ "java/lang/invoke/VarHandle" ∧ (parseMethodDescriptor yX2_loseOldest.desc).map (fun d => d.parameters.length) = some 0 := by decide +kernel
set_option maxHeartbeats 4000000 in
set_option maxRecDepth 100000 in
theorem kX2_add (l : Launch) (G : va_G) (cI cZ : ClassId) (tl : List (ClassId × FieldType)) (sz : Nat) (A : Nat → Prop) (A0 A0_kinds A0_which A0_firsts A0_seconds : Nat) (c0 c0_kinds c0_which c0_firsts c0_seconds : Nat → Int32) (x1 x2 x3 x4 : Int32) (res : (Nat → Int32) × (Nat → Int32) × (Nat → Int32) × (Nat → Int32) × (Nat → Int32)) (hAe : A = va_A [o2 A0 c0 A0_kinds A0_which A0_firsts A0_seconds, (A0_kinds, .inl (cI, 10, .inl c0_kinds)), (A0_which, .inl (cI, 10, .inl c0_which)), (A0_firsts, .inl (cI, 10, .inl c0_firsts)), (A0_seconds, .inl (cI, 10, .inl c0_seconds))] sz) (hres : fX2_add c0 c0_kinds c0_which c0_firsts c0_seconds x1 x2 x3 x4 = some res) : Met l yX2_add wsX2_add rX2_add (va_Pc [.ref A0, .int x1, .int x2, .int x3, .int x4] (PRW G cI cZ tl [o2 A0 c0 A0_kinds A0_which A0_firsts A0_seconds, (A0_kinds, .inl (cI, 10, .inl c0_kinds)), (A0_which, .inl (cI, 10, .inl c0_which)), (A0_firsts, .inl (cI, 10, .inl c0_firsts)), (A0_seconds, .inl (cI, 10, .inl c0_seconds))] sz)) (Qvw G A [o2 A0 res.1 A0_kinds A0_which A0_firsts A0_seconds, (A0_kinds, .inl (cI, 10, .inl res.2.1)), (A0_which, .inl (cI, 10, .inl res.2.2.1)), (A0_firsts, .inl (cI, 10, .inl res.2.2.2.1)), (A0_seconds, .inl (cI, 10, .inl res.2.2.2.2))]) 0 0 A := by
  refine Met.ofW (cc := cX2_add) (maxL := 5) (ret := none) (by decide) rfl ?_
  intro p e s m args below meth c s₁ B hml hv
  obtain ⟨rfl, hsz, hP, hK, hD0⟩ := hv
  have hx := B.exec
  have hb := B.bytes
  have hr := B.returns
  have hts := atoms_spec (ws := wsX2_add) B.pre
  have hown : s.vm.findClass RX2 = some m.cls := findClass_of_methodNamed B.named
  have hlocks := B.notSynchronized
  subst hsz
  have hD : va_D A [o2 A0 c0 A0_kinds A0_which A0_firsts A0_seconds, (A0_kinds, .inl (cI, 10, .inl c0_kinds)), (A0_which, .inl (cI, 10, .inl c0_which)), (A0_firsts, .inl (cI, 10, .inl c0_firsts)), (A0_seconds, .inl (cI, 10, .inl c0_seconds))] := by rw [hAe]; exact hD0.self
  have hA : ∀ q : Nat, s.heap.size ≤ q → A q := fun q h => by rw [hAe]; exact Or.inr h
  clear hAe hD0
  have hS : va_S A s.heap s.heap [] := va_S.rf
  have hl := lv_entry ([.ref A0, .int x1, .int x2, .int x3, .int x4] : List Value) (n := 5) (Nat.le_of_ble_eq_true rfl)
  rw [lg_entry_eq]
  generalize (lg_sl ([.ref A0, .int x1, .int x2, .int x3, .int x4] : List Value) ++ List.replicate (5 - (lg_sl ([.ref A0, .int x1, .int x2, .int x3, .int x4] : List Value)).length) Slot.unset).toArray = ls at hl ⊢
  have hl : lv_has ls 5 [(0, .ref A0), (1, .int x1), (2, .int x2), (3, .int x3), (4, .int x4)] := hl
  have J13 : ∀ (v1_j13 : Int32) (v2_j13 : Int32) (v3_j13 : Int32) (v4_j13 : Int32) (e0_j13 : (Nat → Int32)) (e0_kinds_j13 : (Nat → Int32)) (e0_which_j13 : (Nat → Int32)) (e0_firsts_j13 : (Nat → Int32)) (e0_seconds_j13 : (Nat → Int32)) (H : Heap) (locs : List Loc) (ls : Array Slot), fX2_add_j13 v1_j13 v2_j13 v3_j13 v4_j13 e0_j13 e0_kinds_j13 e0_which_j13 e0_firsts_j13 e0_seconds_j13 = some res → va_P G vwCl [o2 A0 e0_j13 A0_kinds A0_which A0_firsts A0_seconds, (A0_kinds, .inl (cI, 10, .inl e0_kinds_j13)), (A0_which, .inl (cI, 10, .inl e0_which_j13)), (A0_firsts, .inl (cI, 10, .inl e0_firsts_j13)), (A0_seconds, .inl (cI, 10, .inl e0_seconds_j13))] H → va_D A [o2 A0 e0_j13 A0_kinds A0_which A0_firsts A0_seconds, (A0_kinds, .inl (cI, 10, .inl e0_kinds_j13)), (A0_which, .inl (cI, 10, .inl e0_which_j13)), (A0_firsts, .inl (cI, 10, .inl e0_firsts_j13)), (A0_seconds, .inl (cI, 10, .inl e0_seconds_j13))] → va_S A s.heap H locs → lv_has ls 5 [(0, .ref A0), (1, .int v1_j13), (2, .int v2_j13), (3, .int v3_j13), (4, .int v4_j13)] → WRW p l e wsX2_add rX2_add s m ([.ref A0, .int x1, .int x2, .int x3, .int x4] : List Value).toArray below meth c H locs (Qvw G A [o2 A0 res.1 A0_kinds A0_which A0_firsts A0_seconds, (A0_kinds, .inl (cI, 10, .inl res.2.1)), (A0_which, .inl (cI, 10, .inl res.2.2.1)), (A0_firsts, .inl (cI, 10, .inl res.2.2.2.1)), (A0_seconds, .inl (cI, 10, .inl res.2.2.2.2))]) A (F0 m 13 ls []) := by
    intro v1_j13 v2_j13 v3_j13 v4_j13 e0_j13 e0_kinds_j13 e0_which_j13 e0_firsts_j13 e0_seconds_j13 H locs ls hres hP hD hS hl
    refine lv_aload_n hx hb dX2_add_13 rfl (lv_at hl 0 rfl) ?_
    refine va_get (D := G) (ci := 2) (v := .ref A0_kinds) (C := RX2) (T := TX2) (N := 5) hx hb hts (fun w h => (List.mem_cons_of_mem _ (List.mem_append_right _ h))) hown hK.1 hP 0 rfl rfl 0 (by decide) (hts (.fieldLink RX2 9 "EchoSeats$Past" "kinds" "[I") (List.mem_of_getElem? (i := 2) rfl)) (fun _ h9 => h9) rfl dX2_add_14 ?_
    refine lv_aload_n hx hb dX2_add_17 rfl (lv_at hl 0 rfl) ?_
    refine va_get (D := G) (ci := 2) (v := .int (e0_j13 4)) (C := RX2) (T := TX2) (N := 5) hx hb hts (fun w h => (List.mem_cons_of_mem _ (List.mem_append_right _ h))) hown hK.1 hP 0 rfl rfl 4 (by decide) (hts (.fieldLink RX2 24 "EchoSeats$Past" "size" "I") (List.mem_of_getElem? (i := 1) rfl)) (fun _ h9 => h9) rfl dX2_add_18 ?_
    refine lv_iload_n hx hb dX2_add_21 rfl (lv_at hl 1 rfl) ?_
    have g1 := gd_1 hres
    have hres := gd_2 hres
    refine x_iast hx hb hK hP hD hS 1 rfl (j := (Int32.toNatClampNeg (e0_j13 4))) rfl g1 dX2_add_22 (fun H locs hP hD hS => ?_)
    have hP : va_P G vwCl [o2 A0 e0_j13 A0_kinds A0_which A0_firsts A0_seconds, (A0_kinds, .inl (cI, 10, .inl (upd e0_kinds_j13 (Int32.toNatClampNeg (e0_j13 4)) v1_j13))), (A0_which, .inl (cI, 10, .inl e0_which_j13)), (A0_firsts, .inl (cI, 10, .inl e0_firsts_j13)), (A0_seconds, .inl (cI, 10, .inl e0_seconds_j13))] H := hP
    have hD : va_D A [o2 A0 e0_j13 A0_kinds A0_which A0_firsts A0_seconds, (A0_kinds, .inl (cI, 10, .inl (upd e0_kinds_j13 (Int32.toNatClampNeg (e0_j13 4)) v1_j13))), (A0_which, .inl (cI, 10, .inl e0_which_j13)), (A0_firsts, .inl (cI, 10, .inl e0_firsts_j13)), (A0_seconds, .inl (cI, 10, .inl e0_seconds_j13))] := hD
    refine lv_aload_n hx hb dX2_add_23 rfl (lv_at hl 0 rfl) ?_
    refine va_get (D := G) (ci := 2) (v := .ref A0_which) (C := RX2) (T := TX2) (N := 5) hx hb hts (fun w h => (List.mem_cons_of_mem _ (List.mem_append_right _ h))) hown hK.1 hP 0 rfl rfl 1 (by decide) (hts (.fieldLink RX2 15 "EchoSeats$Past" "which" "[I") (List.mem_of_getElem? (i := 3) rfl)) (fun _ h9 => h9) rfl dX2_add_24 ?_
    refine lv_aload_n hx hb dX2_add_27 rfl (lv_at hl 0 rfl) ?_
    refine va_get (D := G) (ci := 2) (v := .int (e0_j13 4)) (C := RX2) (T := TX2) (N := 5) hx hb hts (fun w h => (List.mem_cons_of_mem _ (List.mem_append_right _ h))) hown hK.1 hP 0 rfl rfl 4 (by decide) (hts (.fieldLink RX2 24 "EchoSeats$Past" "size" "I") (List.mem_of_getElem? (i := 1) rfl)) (fun _ h9 => h9) rfl dX2_add_28 ?_
    refine lv_iload_n hx hb dX2_add_31 rfl (lv_at hl 2 rfl) ?_
    have g2 := gd_1 hres
    have hres := gd_2 hres
    refine x_iast hx hb hK hP hD hS 2 rfl (j := (Int32.toNatClampNeg (e0_j13 4))) rfl g2 dX2_add_32 (fun H locs hP hD hS => ?_)
    have hP : va_P G vwCl [o2 A0 e0_j13 A0_kinds A0_which A0_firsts A0_seconds, (A0_kinds, .inl (cI, 10, .inl (upd e0_kinds_j13 (Int32.toNatClampNeg (e0_j13 4)) v1_j13))), (A0_which, .inl (cI, 10, .inl (upd e0_which_j13 (Int32.toNatClampNeg (e0_j13 4)) v2_j13))), (A0_firsts, .inl (cI, 10, .inl e0_firsts_j13)), (A0_seconds, .inl (cI, 10, .inl e0_seconds_j13))] H := hP
    have hD : va_D A [o2 A0 e0_j13 A0_kinds A0_which A0_firsts A0_seconds, (A0_kinds, .inl (cI, 10, .inl (upd e0_kinds_j13 (Int32.toNatClampNeg (e0_j13 4)) v1_j13))), (A0_which, .inl (cI, 10, .inl (upd e0_which_j13 (Int32.toNatClampNeg (e0_j13 4)) v2_j13))), (A0_firsts, .inl (cI, 10, .inl e0_firsts_j13)), (A0_seconds, .inl (cI, 10, .inl e0_seconds_j13))] := hD
    refine lv_aload_n hx hb dX2_add_33 rfl (lv_at hl 0 rfl) ?_
    refine va_get (D := G) (ci := 2) (v := .ref A0_firsts) (C := RX2) (T := TX2) (N := 5) hx hb hts (fun w h => (List.mem_cons_of_mem _ (List.mem_append_right _ h))) hown hK.1 hP 0 rfl rfl 2 (by decide) (hts (.fieldLink RX2 18 "EchoSeats$Past" "firsts" "[I") (List.mem_of_getElem? (i := 4) rfl)) (fun _ h9 => h9) rfl dX2_add_34 ?_
    refine lv_aload_n hx hb dX2_add_37 rfl (lv_at hl 0 rfl) ?_
    refine va_get (D := G) (ci := 2) (v := .int (e0_j13 4)) (C := RX2) (T := TX2) (N := 5) hx hb hts (fun w h => (List.mem_cons_of_mem _ (List.mem_append_right _ h))) hown hK.1 hP 0 rfl rfl 4 (by decide) (hts (.fieldLink RX2 24 "EchoSeats$Past" "size" "I") (List.mem_of_getElem? (i := 1) rfl)) (fun _ h9 => h9) rfl dX2_add_38 ?_
    refine lv_iload_n hx hb dX2_add_41 rfl (lv_at hl 3 rfl) ?_
    have g3 := gd_1 hres
    have hres := gd_2 hres
    refine x_iast hx hb hK hP hD hS 3 rfl (j := (Int32.toNatClampNeg (e0_j13 4))) rfl g3 dX2_add_42 (fun H locs hP hD hS => ?_)
    have hP : va_P G vwCl [o2 A0 e0_j13 A0_kinds A0_which A0_firsts A0_seconds, (A0_kinds, .inl (cI, 10, .inl (upd e0_kinds_j13 (Int32.toNatClampNeg (e0_j13 4)) v1_j13))), (A0_which, .inl (cI, 10, .inl (upd e0_which_j13 (Int32.toNatClampNeg (e0_j13 4)) v2_j13))), (A0_firsts, .inl (cI, 10, .inl (upd e0_firsts_j13 (Int32.toNatClampNeg (e0_j13 4)) v3_j13))), (A0_seconds, .inl (cI, 10, .inl e0_seconds_j13))] H := hP
    have hD : va_D A [o2 A0 e0_j13 A0_kinds A0_which A0_firsts A0_seconds, (A0_kinds, .inl (cI, 10, .inl (upd e0_kinds_j13 (Int32.toNatClampNeg (e0_j13 4)) v1_j13))), (A0_which, .inl (cI, 10, .inl (upd e0_which_j13 (Int32.toNatClampNeg (e0_j13 4)) v2_j13))), (A0_firsts, .inl (cI, 10, .inl (upd e0_firsts_j13 (Int32.toNatClampNeg (e0_j13 4)) v3_j13))), (A0_seconds, .inl (cI, 10, .inl e0_seconds_j13))] := hD
    refine lv_aload_n hx hb dX2_add_43 rfl (lv_at hl 0 rfl) ?_
    refine va_get (D := G) (ci := 2) (v := .ref A0_seconds) (C := RX2) (T := TX2) (N := 5) hx hb hts (fun w h => (List.mem_cons_of_mem _ (List.mem_append_right _ h))) hown hK.1 hP 0 rfl rfl 3 (by decide) (hts (.fieldLink RX2 21 "EchoSeats$Past" "seconds" "[I") (List.mem_of_getElem? (i := 5) rfl)) (fun _ h9 => h9) rfl dX2_add_44 ?_
    refine lv_aload_n hx hb dX2_add_47 rfl (lv_at hl 0 rfl) ?_
    refine va_get (D := G) (ci := 2) (v := .int (e0_j13 4)) (C := RX2) (T := TX2) (N := 5) hx hb hts (fun w h => (List.mem_cons_of_mem _ (List.mem_append_right _ h))) hown hK.1 hP 0 rfl rfl 4 (by decide) (hts (.fieldLink RX2 24 "EchoSeats$Past" "size" "I") (List.mem_of_getElem? (i := 1) rfl)) (fun _ h9 => h9) rfl dX2_add_48 ?_
    refine lv_iload hx hb dX2_add_51 (lv_at hl 4 rfl) ?_
    have g4 := gd_1 hres
    have hres := gd_2 hres
    refine x_iast hx hb hK hP hD hS 4 rfl (j := (Int32.toNatClampNeg (e0_j13 4))) rfl g4 dX2_add_53 (fun H locs hP hD hS => ?_)
    have hP : va_P G vwCl [o2 A0 e0_j13 A0_kinds A0_which A0_firsts A0_seconds, (A0_kinds, .inl (cI, 10, .inl (upd e0_kinds_j13 (Int32.toNatClampNeg (e0_j13 4)) v1_j13))), (A0_which, .inl (cI, 10, .inl (upd e0_which_j13 (Int32.toNatClampNeg (e0_j13 4)) v2_j13))), (A0_firsts, .inl (cI, 10, .inl (upd e0_firsts_j13 (Int32.toNatClampNeg (e0_j13 4)) v3_j13))), (A0_seconds, .inl (cI, 10, .inl (upd e0_seconds_j13 (Int32.toNatClampNeg (e0_j13 4)) v4_j13)))] H := hP
    have hD : va_D A [o2 A0 e0_j13 A0_kinds A0_which A0_firsts A0_seconds, (A0_kinds, .inl (cI, 10, .inl (upd e0_kinds_j13 (Int32.toNatClampNeg (e0_j13 4)) v1_j13))), (A0_which, .inl (cI, 10, .inl (upd e0_which_j13 (Int32.toNatClampNeg (e0_j13 4)) v2_j13))), (A0_firsts, .inl (cI, 10, .inl (upd e0_firsts_j13 (Int32.toNatClampNeg (e0_j13 4)) v3_j13))), (A0_seconds, .inl (cI, 10, .inl (upd e0_seconds_j13 (Int32.toNatClampNeg (e0_j13 4)) v4_j13)))] := hD
    refine lv_aload_n hx hb dX2_add_54 rfl (lv_at hl 0 rfl) ?_
    refine lv_dup hx hb dX2_add_55 rfl ?_
    refine va_get (D := G) (ci := 2) (v := .int (e0_j13 4)) (C := RX2) (T := TX2) (N := 5) hx hb hts (fun w h => (List.mem_cons_of_mem _ (List.mem_append_right _ h))) hown hK.1 hP 0 rfl rfl 4 (by decide) (hts (.fieldLink RX2 24 "EchoSeats$Past" "size" "I") (List.mem_of_getElem? (i := 1) rfl)) (fun _ h9 => h9) rfl dX2_add_56 ?_
    refine lv_iconst (v := 1) hx hb dX2_add_59 (by decide) ?_
    refine lv_iadd hx hb dX2_add_60 ?_
    refine va_put (D := G) (ci := 2) (v := .int ((e0_j13 4) + 1)) (ty := .int) (C := RX2) (T := TX2) (N := 5) hx hb hts (fun w h => (List.mem_cons_of_mem _ (List.mem_append_right _ h))) tyX2 tyX2_ok nmX2 hown hK.1 hP hD hS 0 rfl rfl 4 (by decide) (hts (.fieldLink RX2 24 "EchoSeats$Past" "size" "I") (List.mem_of_getElem? (i := 1) rfl)) (fun _ h9 => h9) rfl (tyX2_ok 4 (by decide)) rfl rfl (Nat.le_of_ble_eq_true rfl) dX2_add_61 (fun H locs hP hD hS => ?_)
    have hP : va_P G vwCl [o2 A0 (upd e0_j13 4 ((e0_j13 4) + 1)) A0_kinds A0_which A0_firsts A0_seconds, (A0_kinds, .inl (cI, 10, .inl (upd e0_kinds_j13 (Int32.toNatClampNeg (e0_j13 4)) v1_j13))), (A0_which, .inl (cI, 10, .inl (upd e0_which_j13 (Int32.toNatClampNeg (e0_j13 4)) v2_j13))), (A0_firsts, .inl (cI, 10, .inl (upd e0_firsts_j13 (Int32.toNatClampNeg (e0_j13 4)) v3_j13))), (A0_seconds, .inl (cI, 10, .inl (upd e0_seconds_j13 (Int32.toNatClampNeg (e0_j13 4)) v4_j13)))] H := hP
    have hD : va_D A [o2 A0 (upd e0_j13 4 ((e0_j13 4) + 1)) A0_kinds A0_which A0_firsts A0_seconds, (A0_kinds, .inl (cI, 10, .inl (upd e0_kinds_j13 (Int32.toNatClampNeg (e0_j13 4)) v1_j13))), (A0_which, .inl (cI, 10, .inl (upd e0_which_j13 (Int32.toNatClampNeg (e0_j13 4)) v2_j13))), (A0_firsts, .inl (cI, 10, .inl (upd e0_firsts_j13 (Int32.toNatClampNeg (e0_j13 4)) v3_j13))), (A0_seconds, .inl (cI, 10, .inl (upd e0_seconds_j13 (Int32.toNatClampNeg (e0_j13 4)) v4_j13)))] := hD
    obtain rfl := Option.some.inj hres
    exact W.vret hx hb hr (fun t ht hW => ⟨⟨(), rfl, trivial, by rw [ht]; exact hP, hD⟩, hS.F ht⟩) hS.2.2 dX2_add_64
  refine lv_aload_n hx hb dX2_add_0 rfl (lv_at hl 0 rfl) ?_
  refine va_get (D := G) (ci := 2) (v := .int (c0 4)) (C := RX2) (T := TX2) (N := 5) hx hb hts (fun w h => (List.mem_cons_of_mem _ (List.mem_append_right _ h))) hown hK.1 hP 0 rfl rfl 4 (by decide) (hts (.fieldLink RX2 24 "EchoSeats$Past" "size" "I") (List.mem_of_getElem? (i := 1) rfl)) (fun _ h9 => h9) rfl dX2_add_1 ?_
  refine lv_bipush (v := 10) hx hb dX2_add_4 (by decide) ?_
  refine lv_icmp_lt (tgt := 13) hx hb dX2_add_6 (by decide) (fun h5 => ?_) (fun h5 => ?_)
  · have hres := ite_t hres h5
    exact J13 x1 x2 x3 x4 c0 c0_kinds c0_which c0_firsts c0_seconds _ _ _ hres hP hD hS (lv_sub hl [0, 1, 2, 3, 4] rfl)
  · have hres := ite_f hres h5
    refine lv_aload_n hx hb dX2_add_9 rfl (lv_at hl 0 rfl) ?_
    obtain ⟨r6, hr6, hres⟩ := bi_1 hres
    refine x_cv (wr := []) (w2 := [o2 A0 r6.1 A0_kinds A0_which A0_firsts A0_seconds, (A0_kinds, .inl (cI, 10, .inl r6.2.1)), (A0_which, .inl (cI, 10, .inl r6.2.2.1)), (A0_firsts, .inl (cI, 10, .inl r6.2.2.2.1)), (A0_seconds, .inl (cI, 10, .inl r6.2.2.2.2))]) hP hD hS hA (va_runV (As := []) (rest := []) ⟨hx, hb, hml, hown, hts⟩ (kX2_loseOldest l G cI cZ tl s.heap.size _ A0 A0_kinds A0_which A0_firsts A0_seconds c0 c0_kinds c0_which c0_firsts c0_seconds r6 rfl hr6) (cwV 0 hts gX2_add_X2_loseOldest rfl rfl rfl hsX2_loseOldest ⟨Nat.le_of_ble_eq_true rfl, Nat.le_of_ble_eq_true rfl⟩) ⟨PRW_blind, va_recv hK.1 hP (ci := 2) (q0 := 0) rfl rfl, PRW_at (hP.sub (ws' := [o2 A0 c0 A0_kinds A0_which A0_firsts A0_seconds, (A0_kinds, .inl (cI, 10, .inl c0_kinds)), (A0_which, .inl (cI, 10, .inl c0_which)), (A0_firsts, .inl (cI, 10, .inl c0_firsts)), (A0_seconds, .inl (cI, 10, .inl c0_seconds))]) [0, 1, 2, 3, 4] rfl) (hD.sub (ws' := [o2 A0 c0 A0_kinds A0_which A0_firsts A0_seconds, (A0_kinds, .inl (cI, 10, .inl c0_kinds)), (A0_which, .inl (cI, 10, .inl c0_which)), (A0_firsts, .inl (cI, 10, .inl c0_firsts)), (A0_seconds, .inl (cI, 10, .inl c0_seconds))]) [0, 1, 2, 3, 4] (by decide) rfl) hK⟩ rfl rfl hl.1 rfl (lv_room (Nat.le_of_ble_eq_true rfl)) dX2_add_10 ⟨Nat.zero_le _, Nat.zero_le _⟩) [0, 1, 2, 3, 4] [] [0, 1, 2, 3, 4] rfl rfl (by decide) (by decide) rfl rfl (by decide) (fun H locs hP hD hS => ?_)
    exact J13 x1 x2 x3 x4 r6.1 r6.2.1 r6.2.2.1 r6.2.2.2.1 r6.2.2.2.2 _ _ _ hres hP hD hS (lv_sub hl [0, 1, 2, 3, 4] rfl)
theorem hsX2_add : yX2_add.cls = RX2 ∧ yX2_add.cls ≠ "java/lang/invoke/MethodHandle" ∧ yX2_add.cls ≠ "java/lang/invoke/VarHandle" ∧ (parseMethodDescriptor yX2_add.desc).map (fun d => d.parameters.length) = some 4 := by decide +kernel
