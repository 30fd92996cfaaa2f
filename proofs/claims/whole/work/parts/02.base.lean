/-! the links of nest mates, the class numbers, what a contract asks and gives -/
def NW (U : State) : Prop := va_Nw (.methodLinkNest RX4 103 yX5_isWithin RX5) U ∧ va_Nw (.methodLinkNest RX3 64 yX5_mirrored RX5) U ∧ va_Nw (.methodLinkNest RX3 68 yX5_passes RX5) U ∧ va_Nw (.methodLinkNest RX3 78 yX5_squares RX5) U ∧ va_Nw (.methodLinkNest RX0 67 yX5_timeOf RX5) U ∧ va_Nw (.methodLinkNest RX0 77 yX5_strengthOf RX5) U ∧ va_Nw (.methodLinkNest RX1 53 yX5_timeOf RX5) U ∧ va_Nw (.methodLinkNest RX1 82 yX5_squares RX5) U ∧ va_Nw (.methodLinkNest RX1 72 yX5_imageCode RX5) U
theorem NW.warm {s U : State} (hW : s.WarmedH U.vm) (h : NW s) : NW U := by
  obtain ⟨h0, h1, h2, h3, h4, h5, h6, h7, h8⟩ := h
  exact ⟨va_Nw.warmM hW h0, va_Nw.warmM hW h1, va_Nw.warmM hW h2, va_Nw.warmM hW h3, va_Nw.warmM hW h4, va_Nw.warmM hW h5, va_Nw.warmM hW h6, va_Nw.warmM hW h7, va_Nw.warmM hW h8⟩
theorem NW.same {u U : State} (e : u.vm = U.vm) (h : NW u) : NW U := by
  obtain ⟨h0, h1, h2, h3, h4, h5, h6, h7, h8⟩ := h
  exact ⟨va_Nw.same rfl e h0, va_Nw.same rfl e h1, va_Nw.same rfl e h2, va_Nw.same rfl e h3, va_Nw.same rfl e h4, va_Nw.same rfl e h5, va_Nw.same rfl e h6, va_Nw.same rfl e h7, va_Nw.same rfl e h8⟩
abbrev TY (cI cZ : ClassId) (tl : List (ClassId × FieldType)) : List (ClassId × FieldType) := (cI, .int) :: (cZ, .boolean) :: tl
def KW (G : va_G) (cI cZ : ClassId) (tl : List (ClassId × FieldType)) (U : State) : Prop := va_K G vwCl (TY cI cZ tl) U ∧ NW U
theorem KW.blind {G : va_G} {cI cZ : ClassId} {tl : List (ClassId × FieldType)} {U : State} {g : JFrame} {mk : MethodId} {a : Array Value} (h : KW G cI cZ tl U) : KW G cI cZ tl (U.calling g mk a) := ⟨va_K.moved (u := U) (U := U.calling g mk a) (Vm.Alike.refl U.vm) h.1, NW.same rfl h.2⟩
theorem KW.warm {G : va_G} {cI cZ : ClassId} {tl : List (ClassId × FieldType)} {s U : State} (hW : s.WarmedH U.vm) (h : KW G cI cZ tl s) : KW G cI cZ tl U := ⟨va_K.moved hW.alike h.1, h.2.warm hW⟩
/-- what a method that only reads asks -/
def PRO (G : va_G) (cI cZ : ClassId) (tl : List (ClassId × FieldType)) (ws : va_W) (U : State) : Prop := va_P G vwCl ws U.heap ∧ KW G cI cZ tl U
/-- what a method that writes asks -/
def PRW (G : va_G) (cI cZ : ClassId) (tl : List (ClassId × FieldType)) (ws : va_W) (sz : Nat) (U : State) : Prop := U.heap.size = sz ∧ va_P G vwCl ws U.heap ∧ KW G cI cZ tl U ∧ va_D (fun _ => True) ws
theorem PRO_blind {G : va_G} {cI cZ : ClassId} {tl : List (ClassId × FieldType)} {ws : va_W} {av : List Value} : FrameBlind (va_Pc av (PRO G cI cZ tl ws)) := fun _ _ _ _ q => ⟨q.1, q.2.1, q.2.2.blind⟩
theorem PRW_blind {G : va_G} {cI cZ : ClassId} {tl : List (ClassId × FieldType)} {ws : va_W} {sz : Nat} {av : List Value} : FrameBlind (va_Pc av (PRW G cI cZ tl ws sz)) := fun _ _ _ _ q => ⟨q.1, q.2.1, q.2.2.1, q.2.2.2.1.blind, q.2.2.2.2⟩
theorem PRO_at {G : va_G} {cI cZ : ClassId} {tl : List (ClassId × FieldType)} {ws : va_W} {av : List Value} {s : State} {H : Heap} (hP : va_P G vwCl ws H) (hK : KW G cI cZ tl s) : ∀ U : State, U.heap = H → s.WarmedH U.vm → va_Pc av (PRO G cI cZ tl ws) av.toArray U := fun U hU hW => ⟨rfl, by rw [hU]; exact hP, hK.warm hW⟩
theorem PRW_at {G : va_G} {cI cZ : ClassId} {tl : List (ClassId × FieldType)} {ws : va_W} {av : List Value} {s : State} {H : Heap} {A : Nat → Prop} (hP : va_P G vwCl ws H) (hD : va_D A ws) (hK : KW G cI cZ tl s) : ∀ U : State, U.heap = H → s.WarmedH U.vm → va_Pc av (PRW G cI cZ tl ws H.size) av.toArray U := fun U hU hW => ⟨rfl, by rw [hU], by rw [hU]; exact hP, hK.warm hW, hD.weaken (fun _ _ _ _ => trivial)⟩
/-- what a method that only reads gives -/
def Sp (v : Int32) : Array Value → State → Outcome → State → Prop := fun _ st oc t => oc = .returned (some (.int v)) ∧ t.heap = st.heap
def Qiw (v : Int32) (G : va_G) (A : Nat → Prop) (ws' : va_W) : Array Value → State → Outcome → State → Prop := va_Qi (fun (r : Int32) (_ : Unit) => r = v) (fun _ t => va_P G vwCl ws' t.heap ∧ va_D A ws') A
def Qvw (G : va_G) (A : Nat → Prop) (ws' : va_W) : Array Value → State → Outcome → State → Prop := va_Qv (fun (_ : Unit) => True) (fun _ t => va_P G vwCl ws' t.heap ∧ va_D A ws') A
abbrev WRO (p : Program) (l : Launch) (e : Env) (ws : List Cond) (rm : Room) (s : State) (m : MethodId) (av : Array Value) (below : List Frame) (meth : Method) (c : Code) (v : Int32) (g : JFrame) : Prop := W p l e (headSpec ws rm).room s m av below meth c s.heap [] 0 0 (MQ below (Sp v) av s 0 0 (fun _ => False)) g
abbrev WRW (p : Program) (l : Launch) (e : Env) (ws : List Cond) (rm : Room) (s : State) (m : MethodId) (av : Array Value) (below : List Frame) (meth : Method) (c : Code) (H : Heap) (locs : List Loc) (Qc : Array Value → State → Outcome → State → Prop) (A : Nat → Prop) (g : JFrame) : Prop := W p l e (headSpec ws rm).room s m av below meth c H locs 0 0 (MQ below Qc av s 0 0 A) g
theorem va_P0 {G : va_G} {H : Heap} : va_P G vwCl [] H := fun k q h => by simp at h
/-- the index is in its row -/
abbrev okI (i : Int32) (n : Nat) : Prop := 0 ≤ i ∧ i.toNatClampNeg < n
theorem okI_in {i : Int32} {n : Nat} (h : okI i n) : vp_in i n := fun q => by
  rcases q with q | q
  · exact absurd h.1 (Int32.not_le.mpr q)
  · exact absurd h.2 (Nat.not_lt.mpr q)
section XB
variable {p : Program} {l : Launch} {e : Env} {R : Room} {s : State} {m : MethodId} {args : Array Value} {below : List Frame} {meth : Method} {c : Code} {H : Heap} {locs : List Loc} {cells slots : Nat} {Q : State → Prop}
variable {pc : Nat} {ls : Array Slot} {rest st0 : List Value} {a : Array Value} {A : Nat → Prop} {H0 : Heap} {G : va_G}
theorem x_cp {v : Int32} (hr : va_Run p l e R s m args below meth c H locs cells slots 0 0 (F0 m pc ls st0) rest (Sp v a) (fun _ => False))
    (kk : W p l e R s m args below meth c H locs cells slots Q (F0 m (pc + 3) ls (.int v :: rest))) : W p l e R s m args below meth c H locs cells slots Q (F0 m pc ls st0) := by
  intro T hT X
  obtain ⟨w, st₀, t, T', L, h0, X', hL, e1, e2, ⟨hv, hh⟩, st⟩ := hr T hT X
  cases hv
  obtain ⟨t2, a1, b1⟩ := kk T' (by rw [e1, hh, h0]) (Stand.forget X' (fun q h => (hL q h).elim))
  exact ⟨t2, st t2 a1, b1⟩
theorem x_ci {v : Int32} {ws wc wr w1 w2 : va_W} (hP : va_P G vwCl ws H) (hD : va_D A ws) (hS : va_S A H0 H locs) (hA : ∀ q, H0.size ≤ q → A q)
    (hr : va_Run p l e R s m args below meth c H locs cells slots 0 0 (F0 m pc ls st0) rest (Qiw v G (va_A wc H.size) w1 a) (va_A wc H.size))
    (isC isR isB : List Nat) (hC : isC.map (fun i => ws[i]?) = wc.map some) (hR : isR.map (fun i => ws[i]?) = wr.map some) (hn : va_nd isR = true) (hdis : ∀ i ∈ isR, i ∉ isC) (hB : isB.map (fun i => (wr ++ w1)[i]?) = w2.map some) (hB2 : isB.filterMap (fun i => (wr ++ w1)[i]?) = w2) (hnB : va_nd isB = true)
    (kk : ∀ (H1 : Heap) (locs1 : List Loc), va_P G vwCl w2 H1 → va_D A w2 → va_S A H0 H1 locs1 → W p l e R s m args below meth c H1 locs1 cells slots Q (F0 m (pc + 3) ls (.int v :: rest))) : W p l e R s m args below meth c H locs cells slots Q (F0 m pc ls st0) := by
  have hF := va_free (wc := wc) hD hS hA isC hC
  refine va_calli hr hS (fun q _ h => hF q h) hF (fun r u t H1 locs1 ht hvm hw hBB hz1 hk1 hS1 => ?_)
  subst hw
  obtain ⟨hP1, hD1⟩ := hBB
  rw [ht] at hP1
  obtain ⟨hP2, hD2⟩ := va_join (wr := wr) (w1 := w1) hP hD isC isR hC hR hn hdis hk1 hF hP1 hD1
  exact kk H1 locs1 (hP2.sub isB hB2) (hD2.sub isB hnB hB) hS1
theorem x_cv {ws wc wr w1 w2 : va_W} (hP : va_P G vwCl ws H) (hD : va_D A ws) (hS : va_S A H0 H locs) (hA : ∀ q, H0.size ≤ q → A q)
    (hr : va_Run p l e R s m args below meth c H locs cells slots 0 0 (F0 m pc ls st0) rest (Qvw G (va_A wc H.size) w1 a) (va_A wc H.size))
    (isC isR isB : List Nat) (hC : isC.map (fun i => ws[i]?) = wc.map some) (hR : isR.map (fun i => ws[i]?) = wr.map some) (hn : va_nd isR = true) (hdis : ∀ i ∈ isR, i ∉ isC) (hB : isB.map (fun i => (wr ++ w1)[i]?) = w2.map some) (hB2 : isB.filterMap (fun i => (wr ++ w1)[i]?) = w2) (hnB : va_nd isB = true)
    (kk : ∀ (H1 : Heap) (locs1 : List Loc), va_P G vwCl w2 H1 → va_D A w2 → va_S A H0 H1 locs1 → W p l e R s m args below meth c H1 locs1 cells slots Q (F0 m (pc + 3) ls rest)) : W p l e R s m args below meth c H locs cells slots Q (F0 m pc ls st0) := by
  have hF := va_free (wc := wc) hD hS hA isC hC
  refine va_callv hr hS (fun q _ h => hF q h) hF (fun u t H1 locs1 ht hvm hw hBB hz1 hk1 hS1 => ?_)
  obtain ⟨hP1, hD1⟩ := hBB
  rw [ht] at hP1
  obtain ⟨hP2, hD2⟩ := va_join (wr := wr) (w1 := w1) hP hD isC isR hC hR hn hdis hk1 hF hP1 hD1
  exact kk H1 locs1 (hP2.sub isB hB2) (hD2.sub isB hnB hB) hS1
variable {cc : ByteArray} {cI cZ : ClassId} {tl : List (ClassId × FieldType)} {ad : Nat} {ws : va_W}
theorem x_iald (hexec : p.tables.exec = Jvm.exec) (hb : c.code = cc) (hK : KW G cI cZ tl s) (hP : va_P G vwCl ws H) (q0 : Nat) {n : Nat} {f : Nat → Int32} (ha : ws[q0]? = some (ad, .inl (cI, n, .inl f))) {i : Int32} {j : Nat} (hj : i.toNatClampNeg = j) (hin : okI i n) (hdg : decode cc pc = .ok (.iaload, 1))
    (kk : W p l e R s m args below meth c H locs cells slots Q (F0 m (pc + 1) ls (.int (f j) :: rest))) : W p l e R s m args below meth c H locs cells slots Q (F0 m pc ls (.int i :: .ref ad :: rest)) := by
  subst hj
  exact va_iald hexec hb hK.1 hP q0 0 ha rfl (okI_in hin) hdg kk
theorem x_zald (hexec : p.tables.exec = Jvm.exec) (hb : c.code = cc) (hK : KW G cI cZ tl s) (hP : va_P G vwCl ws H) (q0 : Nat) {n : Nat} {f : Nat → Int32} (ha : ws[q0]? = some (ad, .inl (cZ, n, .inl f))) {i : Int32} {j : Nat} (hj : i.toNatClampNeg = j) (hin : okI i n) (hdg : decode cc pc = .ok (.baload, 1))
    (kk : W p l e R s m args below meth c H locs cells slots Q (F0 m (pc + 1) ls (.int (f j) :: rest))) : W p l e R s m args below meth c H locs cells slots Q (F0 m pc ls (.int i :: .ref ad :: rest)) := by
  subst hj
  exact va_zald hexec hb hK.1 hP q0 1 ha rfl (okI_in hin) hdg kk
theorem x_iast (hexec : p.tables.exec = Jvm.exec) (hb : c.code = cc) (hK : KW G cI cZ tl s) (hP : va_P G vwCl ws H) (hD : va_D A ws) (hS : va_S A H0 H locs) (q0 : Nat) {n : Nat} {f : Nat → Int32} (ha : ws[q0]? = some (ad, .inl (cI, n, .inl f))) {i x : Int32} {j : Nat} (hj : i.toNatClampNeg = j) (hin : okI i n) (hdg : decode cc pc = .ok (.iastore, 1))
    (kk : ∀ (H1 : Heap) (locs1 : List Loc), va_P G vwCl (ws.set q0 (ad, .inl (cI, n, .inl (upd f j x)))) H1 → va_D A (ws.set q0 (ad, .inl (cI, n, .inl (upd f j x)))) → va_S A H0 H1 locs1 → W p l e R s m args below meth c H1 locs1 cells slots Q (F0 m (pc + 1) ls rest)) : W p l e R s m args below meth c H locs cells slots Q (F0 m pc ls (.int x :: .int i :: .ref ad :: rest)) := by
  subst hj
  exact va_iast hexec hb hK.1 hP hD hS q0 0 ha rfl (okI_in hin) hdg kk
theorem x_zast (hexec : p.tables.exec = Jvm.exec) (hb : c.code = cc) (hK : KW G cI cZ tl s) (hP : va_P G vwCl ws H) (hD : va_D A ws) (hS : va_S A H0 H locs) (q0 : Nat) {n : Nat} {f : Nat → Int32} (ha : ws[q0]? = some (ad, .inl (cZ, n, .inl f))) {i x : Int32} {j : Nat} (hj : i.toNatClampNeg = j) (hin : okI i n) (hx : vp_nar .boolean x = x) (hdg : decode cc pc = .ok (.bastore, 1))
    (kk : ∀ (H1 : Heap) (locs1 : List Loc), va_P G vwCl (ws.set q0 (ad, .inl (cZ, n, .inl (upd f j x)))) H1 → va_D A (ws.set q0 (ad, .inl (cZ, n, .inl (upd f j x)))) → va_S A H0 H1 locs1 → W p l e R s m args below meth c H1 locs1 cells slots Q (F0 m (pc + 1) ls rest)) : W p l e R s m args below meth c H locs cells slots Q (F0 m pc ls (.int x :: .int i :: .ref ad :: rest)) := by
  subst hj
  refine va_zast hexec hb hK.1 hP hD hS q0 1 ha rfl (okI_in hin) hdg ?_
  rw [hx]
  exact kk
end XB
def kf (a b : Nat) : Nat → Option Nat := fun k => if k = 0 then some a else some b
/-! the words of the pictures: what a stretch of code gives, or nothing (a wrong index, a divisor 0, no end) -/
def bnd {α β : Type} (x : α) (k : α → Option β) : Option β := k x
theorem bnd_z {α β : Type} {e z : α} {k : α → Option β} {r : Option β} (ez : z = e) (h : bnd e k = r) : k z = r := by subst ez; exact h
def LPX {σ β : Type} (body : (σ → Option β) → σ → Option β) : Nat → σ → Option β
  | 0, _ => none
  | n + 1, x => body (LPX body n) x
theorem LPX_0 {σ β : Type} {body : (σ → Option β) → σ → Option β} {x : σ} : LPX body 0 x = none := rfl
theorem LPX_s {σ β : Type} {body : (σ → Option β) → σ → Option β} {n : Nat} {x : σ} : LPX body (n + 1) x = body (LPX body n) x := rfl
def FU : Nat := 4000
theorem ite_t {α : Type} {c : Prop} {d : Decidable c} {a b r : α} (h : @ite α c d a b = r) (hc : c) : a = r := (if_pos hc).symm.trans h
theorem ite_f {α : Type} {c : Prop} {d : Decidable c} {a b r : α} (h : @ite α c d a b = r) (hc : ¬ c) : b = r := (if_neg hc).symm.trans h
theorem gd_1 {β : Type} {c : Prop} {d : Decidable c} {a : Option β} {r : β} (h : @ite (Option β) c d a none = some r) : c := by
  cases d with
  | isTrue h1 => exact h1
  | isFalse h1 => cases h
theorem gd_2 {β : Type} {c : Prop} {d : Decidable c} {a : Option β} {r : β} (h : @ite (Option β) c d a none = some r) : a = some r := by
  cases d with
  | isTrue h1 => exact h
  | isFalse h1 => cases h
theorem bi_1 {α β : Type} {o : Option α} {k : α → Option β} {r : β} (h : o.bind k = some r) : ∃ x, o = some x ∧ k x = some r := by
  cases o with
  | none => cases h
  | some x => exact ⟨x, rfl, h⟩
