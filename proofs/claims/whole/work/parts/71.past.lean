/-! the past -/
def PE (nC : Nat) (s : Nat → Int32) (kd wh fs sd u0 u1 u2 u3 : Int32) : Prop :=
  (kd = 0 ∧ ∃ w, w < 4 ∧ wh = nI w ∧ u0 = nI (4 + w) ∧ u1 = fs ∧ u2 = nI (4 + w) ∧ u3 = fs ∧ 0 ≤ fs.toInt ∧ fs.toInt ≤ 10) ∨ (kd = 1 ∧ ∃ c, c < nC ∧ wh = nI c ∧ u0 = nI (21 + c) ∧ u1 = fs ∧ u2 = nI (24 + c) ∧ u3 = sd ∧ CV (s 0) (s 1) (s (18 + c)) fs sd) ∨ (kd = 2 ∧ u0 = 2 ∧ u1 = fs ∧ u2 = 3 ∧ u3 = sd ∧ RV (s 0) (s 1) fs sd)
theorem PE_congr {nC : Nat} {s s' : Nat → Int32} {kd wh fs sd u0 u1 u2 u3 : Int32} (h0 : s' 0 = s 0) (h1 : s' 1 = s 1) (hc : ∀ c, c < nC → s' (18 + c) = s (18 + c)) (h : PE nC s kd wh fs sd u0 u1 u2 u3) : PE nC s' kd wh fs sd u0 u1 u2 u3 := by
  rcases h with h | ⟨k, c, c1, c2, c3, c4, c5, c6, c7⟩ | ⟨k, c1, c2, c3, c4, c5⟩
  · exact Or.inl h
  · exact Or.inr (Or.inl ⟨k, c, c1, c2, c3, c4, c5, c6, by rw [h0, h1, hc c c1]; exact c7⟩)
  · exact Or.inr (Or.inr ⟨k, c1, c2, c3, c4, by rw [h0, h1]; exact c5⟩)
def PEs (nC : Nat) (s : Nat → Int32) (K : Nat) (pk pw pf ps un : Nat → Int32) : Prop := ∀ k, k < K → PE nC s (pk k) (pw k) (pf k) (ps k) (un (4 * k)) (un (4 * k + 1)) (un (4 * k + 2)) (un (4 * k + 3))
def PRel (nC : Nat) (s : Nat → Int32) (K : Nat) (pO pk pw pf ps mO un : Nat → Int32) : Prop := K ≤ 10 ∧ pO 4 = nI K ∧ mO 5 = nI K ∧ PEs nC s K pk pw pf ps un
theorem PRel_congr {nC K : Nat} {s s' pO pk pw pf ps mO un : Nat → Int32} (h0 : s' 0 = s 0) (h1 : s' 1 = s 1) (hc : ∀ c, c < nC → s' (18 + c) = s (18 + c)) (h : PRel nC s K pO pk pw pf ps mO un) : PRel nC s' K pO pk pw pf ps mO un :=
  ⟨h.1, h.2.1, h.2.2.1, fun k hk => PE_congr h0 h1 hc (h.2.2.2 k hk)⟩
theorem nI_4x : ∀ K, K ≤ 10 → (4 : Int32) * nI K = nI (4 * K) := by decide
theorem nI_pr : ∀ K, K < 10 → nI (K + 1) - 1 = nI K := by decide
section PAST
variable {nC K a b : Nat} {s pO pk pw pf ps mO un : Nat → Int32} {kd wh f g : Int32}
theorem p_j (hK : K < 10) (h4 : pO 4 = nI K) (h5 : mO 5 = nI K) (h : PEs nC s K pk pw pf ps un) (ha : a < 27) (hb : b < 27) (he : PE nC s kd wh f g (nI a) (s a) (nI b) (s b)) :
    ∃ pO' pk' pw' pf' ps' mO' un', fX2_add_j13 kd wh f g pO pk pw pf ps = some (pO', pk', pw', pf', ps') ∧ fX6_known_j47 s (nI a) (nI b) mO un = some (mO', un') ∧ PRel nC s (K + 1) pO' pk' pw' pf' ps' mO' un' ∧ mO' 9 = mO 9 ∧ mO' 11 = mO 11 := by
  unfold fX2_add_j13 fX6_known_j47
  have ok : okI (nI K) 10 := okI_nI hK (by decide)
  have e1 : nI (4 * K) + 1 = nI (4 * K + 1) := nI_1 _
  have e2 : nI (4 * K) + 2 = nI (4 * K + 2) := nI_add (4 * K) 2
  have e3 : nI (4 * K) + 3 = nI (4 * K + 3) := nI_add (4 * K) 3
  have oka : okI (nI a) 27 := okI_nI ha (by decide)
  have okb : okI (nI b) 27 := okI_nI hb (by decide)
  have o0 : okI (nI (4 * K)) 40 := okI_nI (by omega) (by decide)
  have o1 : okI (nI (4 * K + 1)) 40 := okI_nI (by omega) (by decide)
  have o2 : okI (nI (4 * K + 2)) 40 := okI_nI (by omega) (by decide)
  have o3 : okI (nI (4 * K + 3)) 40 := okI_nI (by omega) (by decide)
  rw [h4, h5, nI_4x K (by omega), e1, e2, e3, if_pos ok, if_pos ok, if_pos ok, if_pos ok, if_pos o0, if_pos oka, if_pos o1, if_pos o2, if_pos okb, if_pos o3, cl_nI (by omega), cl_nI (by omega), cl_nI (by omega), cl_nI (by omega), cl_nI (by omega), cl_nI (by omega), cl_nI (by omega), nI_1]
  refine ⟨_, _, _, _, _, _, _, rfl, rfl, ⟨by omega, rfl, rfl, fun k hk => ?_⟩, rfl, rfl⟩
  rcases Nat.lt_or_ge k K with hkt | hkt
  · have e : k ≠ K := by omega
    rw [upd_ne e, upd_ne e, upd_ne e, upd_ne e]
    have key : ∀ j, j < 4 * K → upd (upd (upd (upd un (4 * K) (nI a)) (4 * K + 1) (s a)) (4 * K + 2) (nI b)) (4 * K + 3) (s b) j = un j := by
      intro j hj
      rw [upd_ne (show j ≠ 4 * K + 3 by omega), upd_ne (show j ≠ 4 * K + 2 by omega), upd_ne (show j ≠ 4 * K + 1 by omega), upd_ne (show j ≠ 4 * K by omega)]
    rw [key _ (by omega), key _ (by omega), key _ (by omega), key _ (by omega)]
    exact h k hkt
  · have e : k = K := by omega
    subst e
    rw [upd_self, upd_self, upd_self, upd_self, upd_ne (show 4 * k ≠ 4 * k + 3 by omega), upd_ne (show 4 * k ≠ 4 * k + 2 by omega), upd_ne (show 4 * k ≠ 4 * k + 1 by omega), upd_self, upd_ne (show 4 * k + 1 ≠ 4 * k + 3 by omega), upd_ne (show 4 * k + 1 ≠ 4 * k + 2 by omega), upd_self, upd_ne (show 4 * k + 2 ≠ 4 * k + 3 by omega), upd_self, upd_self]
    exact he
def sh4 (un : Nat → Int32) (n : Nat) : Nat → Int32 := fun k => if k < n then un (k + 4) else un k
theorem sh4_0 (un : Nat → Int32) : sh4 un 0 = un := by funext k; unfold sh4; rw [if_neg (by omega)]
theorem sh4_s (un : Nat → Int32) (n : Nat) : upd (sh4 un n) n (sh4 un n (n + 4)) = sh4 un (n + 1) := by
  funext k
  unfold upd
  by_cases h : k = n
  · subst h
    rw [if_pos rfl]
    unfold sh4
    rw [if_neg (by omega), if_pos (by omega)]
  · rw [if_neg h]
    unfold sh4
    by_cases h2 : k < n
    · rw [if_pos h2, if_pos (by omega)]
    · rw [if_neg h2, if_neg (by omega)]
theorem p_add (h : PRel nC s K pO pk pw pf ps mO un) (ha : a < 27) (hb : b < 27) (he : PE nC s kd wh f g (nI a) (s a) (nI b) (s b)) :
    ∃ pO' pk' pw' pf' ps' mO' un', fX2_add pO pk pw pf ps kd wh f g = some (pO', pk', pw', pf', ps') ∧ fX6_known mO un s (nI a) (nI b) = some (mO', un') ∧ (∃ K', PRel nC s K' pO' pk' pw' pf' ps' mO' un') ∧ mO' 9 = mO 9 ∧ mO' 11 = mO 11 := by
  obtain ⟨hK, h4, h5, hE⟩ := h
  unfold fX2_add fX6_known
  rcases Nat.lt_or_ge K 10 with hlt | hge
  · rw [if_pos (show pO 4 < 10 by rw [h4, fa_lt, nI_toInt (by omega), show (10 : Int32).toInt = 10 from rfl]; omega), if_neg (show ¬ mO 5 = 10 by rw [h5, fa_eq, nI_toInt (by omega), show (10 : Int32).toInt = 10 from rfl]; omega)]
    obtain ⟨pO', pk', pw', pf', ps', mO', un', x1, x2, x3, x4, x5⟩ := p_j hlt h4 h5 hE ha hb he
    exact ⟨pO', pk', pw', pf', ps', mO', un', x1, x2, ⟨_, x3⟩, x4, x5⟩
  · have e : K = 10 := by omega
    subst e
    have hm : LPX (fX6_known_L11 s (nI a) (nI b) mO) FU (0, un) = fX6_known_j47 s (nI a) (nI b) (upd mO 5 (mO 5 - 1)) (sh4 un 36) := by
      have e0 : ((0, un) : Int32 × (Nat → Int32)) = (fun n => (nI n, sh4 un n)) 0 := by
        show _ = (nI 0, sh4 un 0)
        rw [sh4_0]; rfl
      rw [e0]
      refine LPX_det (F := fun n => (nI n, sh4 un n)) 36 (fun n hn k => ?_) (fun k => ?_) (FU_lt (by decide))
      · simp only [fX6_known_L11]
        have e4 : nI n + 4 = nI (n + 4) := nI_add n 4
        rw [if_neg (show ¬ (36 : Int32) ≤ nI n by rw [fa_le, nI_toInt (by omega), show (36 : Int32).toInt = 36 from rfl]; omega), e4, if_pos (okI_nI (show n + 4 < 40 by omega) (by decide)), if_pos (okI_nI (show n < 40 by omega) (by decide)), cl_nI (by omega), cl_nI (by omega), nI_1, sh4_s]
      · simp only [fX6_known_L11]
        rw [if_pos (show (36 : Int32) ≤ nI 36 by decide)]
    rw [if_neg (show ¬ pO 4 < 10 by rw [h4]; decide), if_pos (show mO 5 = 10 by rw [h5]; decide), hm]
    unfold fX2_loseOldest
    rw [Option.bind_some]
    have h9 : PEs nC s 9 (va_cpy pk pk 1 0 9) (va_cpy pw pw 1 0 9) (va_cpy pf pf 1 0 9) (va_cpy ps ps 1 0 9) (sh4 un 36) := by
      intro k hk
      have key : ∀ q : Nat → Int32, va_cpy q q 1 0 9 k = q (k + 1) := by
        intro q
        unfold va_cpy
        rw [if_pos (by omega)]
        rw [show 1 + (k - 0) = k + 1 by omega]
      have key2 : ∀ i, i < 4 → sh4 un 36 (4 * k + i) = un (4 * (k + 1) + i) := by
        intro i hi
        unfold sh4
        rw [if_pos (by omega), show 4 * k + i + 4 = 4 * (k + 1) + i by omega]
      have k0 : sh4 un 36 (4 * k) = un (4 * (k + 1)) := key2 0 (by omega)
      rw [key, key, key, key, k0, key2 1 (by omega), key2 2 (by omega), key2 3 (by omega)]
      exact hE (k + 1) (by omega)
    obtain ⟨pO', pk', pw', pf', ps', mO', un', x1, x2, x3, x4, x5⟩ := p_j (K := 9) (pO := upd pO 4 9) (mO := upd mO 5 (mO 5 - 1)) (by omega) rfl (by rw [upd_self, h5]; rfl) h9 ha hb he
    exact ⟨pO', pk', pw', pf', ps', mO', un', x1, x2, ⟨_, x3⟩, x4, x5⟩
end PAST
/-! the room, changed -/
section CHG
variable {nS nC : Nat} {cN sw sX sY cX cF cT s : Nat → Int32}
theorem rr_congr {cN' sw' sX' sY' cX' cF' cT' s' : Nat → Int32} (h : RRel nS nC cN sw sX sY cX cF cT s) (h0 : ∀ q, q < 6 → cN' q = cN q) (h1 : ∀ q, q < 4 → sw' q = sw q) (h2 : ∀ q, q < 4 → sX' q = sX q) (h3 : ∀ q, q < 4 → sY' q = sY q) (h4 : ∀ q, q < 3 → cX' q = cX q) (h5 : ∀ q, q < 3 → cF' q = cF q) (h6 : ∀ q, q < 3 → cT' q = cT q) (h7 : ∀ q, q < 27 → s' q = s q) : RRel nS nC cN' sw' sX' sY' cX' cF' cT' s' := by
  obtain ⟨hS4, hC3, ⟨q0, q1, q2, q3, q4, q5, q6, q7⟩, hsw, hse, hcu, hR, hw, hP, hC⟩ := h
  refine ⟨hS4, hC3, ⟨?_, ?_, ?_, ?_, ?_, ?_, ?_, ?_⟩, fun w hw => ?_, fun k hk => ⟨?_, ?_⟩, fun c hc => ⟨?_, ?_, ?_⟩, ?_, fun w hw' => ?_, fun k hk => ?_, fun c hc => ?_⟩
  · rw [h0 0 (by omega), h7 0 (by omega)]; exact q0
  · rw [h0 1 (by omega), h7 1 (by omega)]; exact q1
  · rw [h0 2 (by omega), h7 2 (by omega)]; exact q2
  · rw [h0 3 (by omega), h7 3 (by omega)]; exact q3
  · rw [h0 4 (by omega)]; exact q4
  · rw [h7 8 (by omega)]; exact q5
  · rw [h0 5 (by omega)]; exact q6
  · rw [h7 17 (by omega)]; exact q7
  · rw [h1 w hw, h7 _ (by omega)]; exact hsw w hw
  · rw [h2 k (by omega), h7 _ (by omega)]; exact (hse k hk).1
  · rw [h3 k (by omega), h7 _ (by omega)]; exact (hse k hk).2
  · rw [h4 c (by omega), h7 _ (by omega)]; exact (hcu c hc).1
  · rw [h5 c (by omega), h7 _ (by omega)]; exact (hcu c hc).2.1
  · rw [h6 c (by omega), h7 _ (by omega)]; exact (hcu c hc).2.2
  · rw [h7 0 (by omega), h7 1 (by omega), h7 2 (by omega), h7 3 (by omega)]; exact hR
  · rw [h7 _ (by omega)]; exact hw w hw'
  · rw [h7 0 (by omega), h7 1 (by omega), h7 _ (by omega), h7 _ (by omega)]; exact hP k hk
  · rw [h7 0 (by omega), h7 1 (by omega), h7 _ (by omega), h7 _ (by omega), h7 _ (by omega)]; exact hC c hc
theorem rr_sw (h : RRel nS nC cN sw sX sY cX cF cT s) {w : Nat} (hw4 : w < 4) {v : Int32} (h1 : 0 ≤ v.toInt) (h2 : v.toInt ≤ 10) : RRel nS nC cN (upd sw w v) sX sY cX cF cT (upd s (4 + w) v) := by
  obtain ⟨hS4, hC3, ⟨q0, q1, q2, q3, q4, q5, q6, q7⟩, hsw, hse, hcu, hR, hw, hP, hC⟩ := h
  have hne : ∀ q, q ≠ 4 + w → upd s (4 + w) v q = s q := fun q hq => upd_ne hq
  refine ⟨hS4, hC3, ⟨?_, ?_, ?_, ?_, q4, ?_, q6, ?_⟩, fun w' hw' => ?_, fun k hk => ⟨?_, ?_⟩, fun c hc => ⟨?_, ?_, ?_⟩, ?_, fun w' hw' => ?_, fun k hk => ?_, fun c hc => ?_⟩
  · rw [hne _ (by omega)]; exact q0
  · rw [hne _ (by omega)]; exact q1
  · rw [hne _ (by omega)]; exact q2
  · rw [hne _ (by omega)]; exact q3
  · rw [hne _ (by omega)]; exact q5
  · rw [hne _ (by omega)]; exact q7
  · by_cases e : w' = w
    · subst e; rw [upd_self, upd_self]
    · rw [upd_ne e, hne _ (by omega)]; exact hsw w' hw'
  · rw [hne _ (by omega)]; exact (hse k hk).1
  · rw [hne _ (by omega)]; exact (hse k hk).2
  · rw [hne _ (by omega)]; exact (hcu c hc).1
  · rw [hne _ (by omega)]; exact (hcu c hc).2.1
  · rw [hne _ (by omega)]; exact (hcu c hc).2.2
  · rw [hne 0 (by omega), hne 1 (by omega), hne 2 (by omega), hne 3 (by omega)]; exact hR
  · by_cases e : w' = w
    · subst e; rw [upd_self]; exact ⟨h1, h2⟩
    · rw [hne _ (by omega)]; exact hw w' hw'
  · rw [hne 0 (by omega), hne 1 (by omega), hne _ (by omega), hne _ (by omega)]; exact hP k hk
  · rw [hne 0 (by omega), hne 1 (by omega), hne _ (by omega), hne _ (by omega), hne _ (by omega)]; exact hC c hc
theorem rr_cur (h : RRel nS nC cN sw sX sY cX cF cT s) {c : Nat} (hc3 : c < nC) {f g : Int32} (hv : CV (s 0) (s 1) (s (18 + c)) f g) : RRel nS nC cN sw sX sY cX (upd cF c f) (upd cT c g) (upd (upd s (21 + c) f) (24 + c) g) := by
  obtain ⟨hS4, hC3, ⟨q0, q1, q2, q3, q4, q5, q6, q7⟩, hsw, hse, hcu, hR, hw, hP, hC⟩ := h
  have hne : ∀ q, q ≠ 21 + c → q ≠ 24 + c → upd (upd s (21 + c) f) (24 + c) g q = s q := fun q h1 h2 => by rw [upd_ne h2, upd_ne h1]
  refine ⟨hS4, hC3, ⟨?_, ?_, ?_, ?_, q4, ?_, q6, ?_⟩, fun w' hw' => ?_, fun k hk => ⟨?_, ?_⟩, fun c' hc => ⟨?_, ?_, ?_⟩, ?_, fun w' hw' => ?_, fun k hk => ?_, fun c' hc => ?_⟩
  · rw [hne _ (by omega) (by omega)]; exact q0
  · rw [hne _ (by omega) (by omega)]; exact q1
  · rw [hne _ (by omega) (by omega)]; exact q2
  · rw [hne _ (by omega) (by omega)]; exact q3
  · rw [hne _ (by omega) (by omega)]; exact q5
  · rw [hne _ (by omega) (by omega)]; exact q7
  · rw [hne _ (by omega) (by omega)]; exact hsw w' hw'
  · rw [hne _ (by omega) (by omega)]; exact (hse k hk).1
  · rw [hne _ (by omega) (by omega)]; exact (hse k hk).2
  · rw [hne _ (by omega) (by omega)]; exact (hcu c' hc).1
  · by_cases e : c' = c
    · subst e; rw [upd_self, upd_ne (by omega), upd_self]
    · rw [upd_ne e, hne _ (by omega) (by omega)]; exact (hcu c' hc).2.1
  · by_cases e : c' = c
    · subst e; rw [upd_self, upd_self]
    · rw [upd_ne e, hne _ (by omega) (by omega)]; exact (hcu c' hc).2.2
  · rw [hne 0 (by omega) (by omega), hne 1 (by omega) (by omega), hne 2 (by omega) (by omega), hne 3 (by omega) (by omega)]; exact hR
  · rw [hne _ (by omega) (by omega)]; exact hw w' hw'
  · rw [hne 0 (by omega) (by omega), hne 1 (by omega) (by omega), hne (9 + k) (by omega) (by omega), hne (13 + k) (by omega) (by omega)]; exact hP k hk
  · rw [hne 0 (by omega) (by omega), hne 1 (by omega) (by omega), hne (18 + c') (by omega) (by omega)]
    by_cases e : c' = c
    · subst e; rw [upd_self, upd_ne (by omega), upd_self]; exact hv
    · rw [hne _ (by omega) (by omega), hne _ (by omega) (by omega)]; exact hC c' hc
theorem rr_src (h : RRel nS nC cN sw sX sY cX cF cT s) {f g : Int32} (hv : RV (s 0) (s 1) f g) : RRel nS nC (upd (upd cN 2 f) 3 g) sw sX sY cX cF cT (upd (upd s 2 f) 3 g) := by
  obtain ⟨hS4, hC3, ⟨q0, q1, q2, q3, q4, q5, q6, q7⟩, hsw, hse, hcu, hR, hw, hP, hC⟩ := h
  have hne : ∀ q, q ≠ 2 → q ≠ 3 → upd (upd s 2 f) 3 g q = s q := fun q h1 h2 => by rw [upd_ne h2, upd_ne h1]
  refine ⟨hS4, hC3, ⟨q0, q1, rfl, rfl, q4, q5, q6, q7⟩, fun w' hw' => ?_, fun k hk => ⟨?_, ?_⟩, fun c' hc => ⟨?_, ?_, ?_⟩, hv, fun w' hw' => ?_, fun k hk => ?_, fun c' hc => ?_⟩
  · rw [hne _ (by omega) (by omega)]; exact hsw w' hw'
  · rw [hne _ (by omega) (by omega)]; exact (hse k hk).1
  · rw [hne _ (by omega) (by omega)]; exact (hse k hk).2
  · rw [hne _ (by omega) (by omega)]; exact (hcu c' hc).1
  · rw [hne _ (by omega) (by omega)]; exact (hcu c' hc).2.1
  · rw [hne _ (by omega) (by omega)]; exact (hcu c' hc).2.2
  · rw [hne _ (by omega) (by omega)]; exact hw w' hw'
  · rw [hne 0 (by omega) (by omega), hne 1 (by omega) (by omega), hne (9 + k) (by omega) (by omega), hne (13 + k) (by omega) (by omega)]; exact hP k hk
  · rw [hne 0 (by omega) (by omega), hne 1 (by omega) (by omega), hne (18 + c') (by omega) (by omega), hne (21 + c') (by omega) (by omega), hne (24 + c') (by omega) (by omega)]; exact hC c' hc
end CHG
