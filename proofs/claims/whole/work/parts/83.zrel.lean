/-! THE TWO WORLDS TOGETHER -/
def ZR (cN sw sX sY cX cF cT a0 a1 a2 a3 a4 a5 a6 b0 b1 b2 b3 b4 b5 b6 ik tO tL pO pk pw pf ps fO fi fj ft mO ms mk mik un si sj st mt : Nat → Int32) : Prop := ∃ nS nC K T Q, RRel nS nC cN sw sX sY cX cF cT ms ∧ PRel nC ms K pO pk pw pf ps mO un ∧ TRel T tO tL mO mt ∧ SRel Q fO fi fj ft mO si sj st ∧ KRel nS nC ik mik a0 a1 a2 a3 a4 a5 a6 b0 b1 b2 b3 b4 b5 b6 mk
section ZOPS
variable {cN sw sX sY cX cF cT d0 dsw dsX dsY dcX dcF dcT a0 a1 a2 a3 a4 a5 a6 b0 b1 b2 b3 b4 b5 b6 ik tO tL pO pk pw pf ps eO ei ej ew et es ed fO fi fj ft fX fY fT mO ms dr mk mik un si sj st mt kd pl vl mw mtm mst mwh mto : Nat → Int32}
theorem z_type (h : ZR cN sw sX sY cX cF cT a0 a1 a2 a3 a4 a5 a6 b0 b1 b2 b3 b4 b5 b6 ik tO tL pO pk pw pf ps fO fi fj ft mO ms mk mik un si sj st mt) (x1 : Int32) : ∃ r tO' tL' mO' mt', fX5_type tO tL x1 = some (r, tO', tL') ∧ fX6_type mO mt x1 = some (r, mO', mt') ∧ ZR cN sw sX sY cX cF cT a0 a1 a2 a3 a4 a5 a6 b0 b1 b2 b3 b4 b5 b6 ik tO' tL' pO pk pw pf ps fO fi fj ft mO' ms mk mik un si sj st mt' := by
  obtain ⟨nS, nC, K, T, Q, hR, hP, hT, hS, hK⟩ := h
  obtain ⟨r, tO', tL', mO', mt', hc, hm, ⟨T', hT'⟩, e5, e9⟩ := a_type hT x1
  exact ⟨r, tO', tL', mO', mt', hc, hm, nS, nC, K, T', Q, hR, ⟨hP.1, hP.2.1, e5.trans hP.2.2.1, hP.2.2.2⟩, hT', ⟨hS.1, hS.2.1, e9.trans hS.2.2.1, hS.2.2.2⟩, hK⟩
theorem z_clear (h : ZR cN sw sX sY cX cF cT a0 a1 a2 a3 a4 a5 a6 b0 b1 b2 b3 b4 b5 b6 ik tO tL pO pk pw pf ps fO fi fj ft mO ms mk mik un si sj st mt) : ∃ r tO' mO', fX5_clear tO = some (r, tO') ∧ fX6_clear mO = some (r, mO') ∧ ZR cN sw sX sY cX cF cT a0 a1 a2 a3 a4 a5 a6 b0 b1 b2 b3 b4 b5 b6 ik tO' tL pO pk pw pf ps fO fi fj ft mO' ms mk mik un si sj st mt := by
  obtain ⟨nS, nC, K, T, Q, hR, hP, hT, hS, hK⟩ := h
  obtain ⟨r, tO', mO', hc, hm, ⟨T', hT'⟩, e5, e9⟩ := a_clear hT
  exact ⟨r, tO', mO', hc, hm, nS, nC, K, T', Q, hR, ⟨hP.1, hP.2.1, e5.trans hP.2.2.1, hP.2.2.2⟩, hT', ⟨hS.1, hS.2.1, e9.trans hS.2.2.1, hS.2.2.2⟩, hK⟩
theorem z_room (h : ZR cN sw sX sY cX cF cT a0 a1 a2 a3 a4 a5 a6 b0 b1 b2 b3 b4 b5 b6 ik tO tL pO pk pw pf ps fO fi fj ft mO ms mk mik un si sj st mt) : ∃ r d0' dsw' tO' dsX' dsY' dcX' dcF' dcT' cN' sw' sX' sY' cX' cF' cT' pO' fO' ik' mO' pl' kd' vl' dr' ms' mik', fX5_room d0 dsw tO tL dsX dsY dcX dcF dcT cN sw sX sY cX cF cT pO fO ik = some (r, d0', dsw', tO', dsX', dsY', dcX', dcF', dcT', cN', sw', sX', sY', cX', cF', cT', pO', fO', ik') ∧ fX6_room mO mt pl kd vl dr ms mik = some (r, mO', pl', kd', vl', dr', ms', mik') ∧ ZR cN' sw' sX' sY' cX' cF' cT' a0 a1 a2 a3 a4 a5 a6 b0 b1 b2 b3 b4 b5 b6 ik' tO' tL pO' pk pw pf ps fO' fi fj ft mO' ms' mk mik' un si sj st mt := by
  obtain ⟨nS, nC, K, T, Q, hR, hP, hT, hS, hK⟩ := h
  obtain ⟨r, d0', dsw', tO', dsX', dsY', dcX', dcF', dcT', cN', sw', sX', sY', cX', cF', cT', pO', fO', ik', mO', pl', kd', vl', dr', ms', mik', hc, hm, nS', nC', K', T', Q', hR', hP', hT', hS', hK'⟩ := a_room (d0 := d0) (dsw := dsw) (dsX := dsX) (dsY := dsY) (dcX := dcX) (dcF := dcF) (dcT := dcT) (pl := pl) (kd := kd) (vl := vl) (dr := dr) hR hP hT hS hK
  exact ⟨r, d0', dsw', tO', dsX', dsY', dcX', dcF', dcT', cN', sw', sX', sY', cX', cF', cT', pO', fO', ik', mO', pl', kd', vl', dr', ms', mik', hc, hm, nS', nC', K', T', Q', hR', hP', hT', hS', hK'⟩
theorem z_wall (h : ZR cN sw sX sY cX cF cT a0 a1 a2 a3 a4 a5 a6 b0 b1 b2 b3 b4 b5 b6 ik tO tL pO pk pw pf ps fO fi fj ft mO ms mk mik un si sj st mt) (x1 : Int32) : ∃ r, fX5_wall cN sw x1 = some (r) ∧ fX6_wall mO ms x1 = some (r) ∧ ZR cN sw sX sY cX cF cT a0 a1 a2 a3 a4 a5 a6 b0 b1 b2 b3 b4 b5 b6 ik tO tL pO pk pw pf ps fO fi fj ft mO ms mk mik un si sj st mt := by
  obtain ⟨nS, nC, K, T, Q, hR, hP, hT, hS, hK⟩ := h
  obtain ⟨r, hc, hm⟩ := a_wall (mO := mO) hR x1
  exact ⟨r, hc, hm, nS, nC, K, T, Q, hR, hP, hT, hS, hK⟩
theorem z_seat (h : ZR cN sw sX sY cX cF cT a0 a1 a2 a3 a4 a5 a6 b0 b1 b2 b3 b4 b5 b6 ik tO tL pO pk pw pf ps fO fi fj ft mO ms mk mik un si sj st mt) (x1 x2 : Int32) : ∃ r, fX5_seat cN sX sY x1 x2 = some (r) ∧ fX6_seat mO ms x1 x2 = some (r) ∧ ZR cN sw sX sY cX cF cT a0 a1 a2 a3 a4 a5 a6 b0 b1 b2 b3 b4 b5 b6 ik tO tL pO pk pw pf ps fO fi fj ft mO ms mk mik un si sj st mt := by
  obtain ⟨nS, nC, K, T, Q, hR, hP, hT, hS, hK⟩ := h
  obtain ⟨r, hc, hm⟩ := a_seat (mO := mO) hR x1 x2
  exact ⟨r, hc, hm, nS, nC, K, T, Q, hR, hP, hT, hS, hK⟩
theorem z_curtain (h : ZR cN sw sX sY cX cF cT a0 a1 a2 a3 a4 a5 a6 b0 b1 b2 b3 b4 b5 b6 ik tO tL pO pk pw pf ps fO fi fj ft mO ms mk mik un si sj st mt) (x1 x2 : Int32) : ∃ r, fX5_curtain cN cT cF cX x1 x2 = some (r) ∧ fX6_curtain mO ms x1 x2 = some (r) ∧ ZR cN sw sX sY cX cF cT a0 a1 a2 a3 a4 a5 a6 b0 b1 b2 b3 b4 b5 b6 ik tO tL pO pk pw pf ps fO fi fj ft mO ms mk mik un si sj st mt := by
  obtain ⟨nS, nC, K, T, Q, hR, hP, hT, hS, hK⟩ := h
  obtain ⟨r, hc, hm⟩ := a_curtain (mO := mO) hR x1 x2
  exact ⟨r, hc, hm, nS, nC, K, T, Q, hR, hP, hT, hS, hK⟩
theorem z_pads (h : ZR cN sw sX sY cX cF cT a0 a1 a2 a3 a4 a5 a6 b0 b1 b2 b3 b4 b5 b6 ik tO tL pO pk pw pf ps fO fi fj ft mO ms mk mik un si sj st mt) (x1 x2 : Int32) : ∃ r sw' pO' pk' pw' pf' ps' mO' ms' un', fX5_pads cN sw pO pk pw pf ps x1 x2 = some (r, sw', pO', pk', pw', pf', ps') ∧ fX6_pads mO ms un x1 x2 = some (r, mO', ms', un') ∧ ZR cN sw' sX sY cX cF cT a0 a1 a2 a3 a4 a5 a6 b0 b1 b2 b3 b4 b5 b6 ik tO tL pO' pk' pw' pf' ps' fO fi fj ft mO' ms' mk mik un' si sj st mt := by
  obtain ⟨nS, nC, K, T, Q, hR, hP, hT, hS, hK⟩ := h
  obtain ⟨r, sw', pO', pk', pw', pf', ps', mO', ms', un', hc, hm, hR', ⟨K', hP'⟩, e9, e11⟩ := a_pads hR hP x1 x2
  exact ⟨r, sw', pO', pk', pw', pf', ps', mO', ms', un', hc, hm, nS, nC, K', T, Q, hR', hP', ⟨hT.1, hT.2.1, e11.trans hT.2.2.1, hT.2.2.2⟩, ⟨hS.1, hS.2.1, e9.trans hS.2.2.1, hS.2.2.2⟩, hK⟩
theorem z_draws (h : ZR cN sw sX sY cX cF cT a0 a1 a2 a3 a4 a5 a6 b0 b1 b2 b3 b4 b5 b6 ik tO tL pO pk pw pf ps fO fi fj ft mO ms mk mik un si sj st mt) (x1 x2 x3 : Int32) : ∃ r cF' cT' pO' pk' pw' pf' ps' mO' ms' un', fX5_draws cN cF cT pO pk pw pf ps x1 x2 x3 = some (r, cF', cT', pO', pk', pw', pf', ps') ∧ fX6_draws mO ms un x1 x2 x3 = some (r, mO', ms', un') ∧ ZR cN sw sX sY cX cF' cT' a0 a1 a2 a3 a4 a5 a6 b0 b1 b2 b3 b4 b5 b6 ik tO tL pO' pk' pw' pf' ps' fO fi fj ft mO' ms' mk mik un' si sj st mt := by
  obtain ⟨nS, nC, K, T, Q, hR, hP, hT, hS, hK⟩ := h
  obtain ⟨r, cF', cT', pO', pk', pw', pf', ps', mO', ms', un', hc, hm, hR', ⟨K', hP'⟩, e9, e11⟩ := a_draws hR hP x1 x2 x3
  exact ⟨r, cF', cT', pO', pk', pw', pf', ps', mO', ms', un', hc, hm, nS, nC, K', T, Q, hR', hP', ⟨hT.1, hT.2.1, e11.trans hT.2.2.1, hT.2.2.2⟩, ⟨hS.1, hS.2.1, e9.trans hS.2.2.1, hS.2.2.2⟩, hK⟩
theorem z_moves (h : ZR cN sw sX sY cX cF cT a0 a1 a2 a3 a4 a5 a6 b0 b1 b2 b3 b4 b5 b6 ik tO tL pO pk pw pf ps fO fi fj ft mO ms mk mik un si sj st mt) (x1 x2 : Int32) : ∃ r cN' pO' pk' pw' pf' ps' mO' ms' un', fX5_moves cN pO pk pw pf ps x1 x2 = some (r, cN', pO', pk', pw', pf', ps') ∧ fX6_moves mO ms un x1 x2 = some (r, mO', ms', un') ∧ ZR cN' sw sX sY cX cF cT a0 a1 a2 a3 a4 a5 a6 b0 b1 b2 b3 b4 b5 b6 ik tO tL pO' pk' pw' pf' ps' fO fi fj ft mO' ms' mk mik un' si sj st mt := by
  obtain ⟨nS, nC, K, T, Q, hR, hP, hT, hS, hK⟩ := h
  obtain ⟨r, cN', pO', pk', pw', pf', ps', mO', ms', un', hc, hm, hR', ⟨K', hP'⟩, e9, e11⟩ := a_moves hR hP x1 x2
  exact ⟨r, cN', pO', pk', pw', pf', ps', mO', ms', un', hc, hm, nS, nC, K', T, Q, hR', hP', ⟨hT.1, hT.2.1, e11.trans hT.2.2.1, hT.2.2.2⟩, ⟨hS.1, hS.2.1, e9.trans hS.2.2.1, hS.2.2.2⟩, hK⟩
theorem z_undo (h : ZR cN sw sX sY cX cF cT a0 a1 a2 a3 a4 a5 a6 b0 b1 b2 b3 b4 b5 b6 ik tO tL pO pk pw pf ps fO fi fj ft mO ms mk mik un si sj st mt) : ∃ r pO' cN' sw' cF' cT' mO' ms', fX5_undo pO pw pk cN pf sw cF ps cT = some (r, pO', cN', sw', cF', cT') ∧ fX6_undo mO un ms = some (r, mO', ms') ∧ ZR cN' sw' sX sY cX cF' cT' a0 a1 a2 a3 a4 a5 a6 b0 b1 b2 b3 b4 b5 b6 ik tO tL pO' pk pw pf ps fO fi fj ft mO' ms' mk mik un si sj st mt := by
  obtain ⟨nS, nC, K, T, Q, hR, hP, hT, hS, hK⟩ := h
  obtain ⟨r, pO', cN', sw', cF', cT', mO', ms', hc, hm, hR', ⟨K', hP'⟩, e9, e11⟩ := a_undo hR hP
  exact ⟨r, pO', cN', sw', cF', cT', mO', ms', hc, hm, nS, nC, K', T, Q, hR', hP', ⟨hT.1, hT.2.1, e11.trans hT.2.2.1, hT.2.2.2⟩, ⟨hS.1, hS.2.1, e9.trans hS.2.2.1, hS.2.2.2⟩, hK⟩
theorem z_mirror (h : ZR cN sw sX sY cX cF cT a0 a1 a2 a3 a4 a5 a6 b0 b1 b2 b3 b4 b5 b6 ik tO tL pO pk pw pf ps fO fi fj ft mO ms mk mik un si sj st mt) (x1 x2 x3 : Int32) : ∃ r, fX5_mirror cN sw x1 x2 x3 = some (r) ∧ fX6_mirror mO ms x1 x2 x3 = some (r) ∧ ZR cN sw sX sY cX cF cT a0 a1 a2 a3 a4 a5 a6 b0 b1 b2 b3 b4 b5 b6 ik tO tL pO pk pw pf ps fO fi fj ft mO ms mk mik un si sj st mt := by
  obtain ⟨nS, nC, K, T, Q, hR, hP, hT, hS, hK⟩ := h
  obtain ⟨r, hc, hm⟩ := a_mirror (mO := mO) hR x1 x2 x3
  exact ⟨r, hc, hm, nS, nC, K, T, Q, hR, hP, hT, hS, hK⟩
theorem z_path (h : ZR cN sw sX sY cX cF cT a0 a1 a2 a3 a4 a5 a6 b0 b1 b2 b3 b4 b5 b6 ik tO tL pO pk pw pf ps fO fi fj ft mO ms mk mik un si sj st mt) (x1 x2 x3 x4 : Int32) : ∃ r mw', fX5_path cN sX sY cX cF cT sw x1 x2 x3 x4 = some (r) ∧ fX6_path mO ms mw x1 x2 x3 x4 = some (r, mw') ∧ ZR cN sw sX sY cX cF cT a0 a1 a2 a3 a4 a5 a6 b0 b1 b2 b3 b4 b5 b6 ik tO tL pO pk pw pf ps fO fi fj ft mO ms mk mik un si sj st mt := by
  obtain ⟨nS, nC, K, T, Q, hR, hP, hT, hS, hK⟩ := h
  obtain ⟨r, mw', hc, hm⟩ := a_path (mO := mO) (c1 := mw) hR x1 x2 x3 x4
  exact ⟨r, mw', hc, hm, nS, nC, K, T, Q, hR, hP, hT, hS, hK⟩
theorem z_heard (h : ZR cN sw sX sY cX cF cT a0 a1 a2 a3 a4 a5 a6 b0 b1 b2 b3 b4 b5 b6 ik tO tL pO pk pw pf ps fO fi fj ft mO ms mk mik un si sj st mt) (x1 x2 x3 : Int32) : ∃ r eO' et' ei' ej' ew' es' mO' mw' mtm' mst' mwh', fX5_heard cN eO sX sY cX cF cT et ei ej ew es sw x1 x2 x3 = some (r, eO', et', ei', ej', ew', es') ∧ fX6_heard mO ms mw mtm mst mwh x1 x2 x3 = some (r, mO', mw', mtm', mst', mwh') ∧ ZR cN sw sX sY cX cF cT a0 a1 a2 a3 a4 a5 a6 b0 b1 b2 b3 b4 b5 b6 ik tO tL pO pk pw pf ps fO fi fj ft mO' ms mk mik un si sj st mt := by
  obtain ⟨nS, nC, K, T, Q, hR, hP, hT, hS, hK⟩ := h
  obtain ⟨r, eO', et', ei', ej', ew', es', mO', mw', mtm', mst', mwh', hc, hm, hb⟩ := a_heard (e0 := eO) (e1 := et) (e2 := ei) (e3 := ej) (e4 := ew) (e5 := es) (c0 := mO) (c1 := mw) (c2 := mtm) (c3 := mst) (c4 := mwh) hR x1 x2 x3
  exact ⟨r, eO', et', ei', ej', ew', es', mO', mw', mtm', mst', mwh', hc, hm, nS, nC, K, T, Q, hR, ⟨hP.1, hP.2.1, (hb 5 (by decide)).trans hP.2.2.1, hP.2.2.2⟩, ⟨hT.1, hT.2.1, (hb 11 (by decide)).trans hT.2.2.1, hT.2.2.2⟩, ⟨hS.1, hS.2.1, (hb 9 (by decide)).trans hS.2.2.1, hS.2.2.2⟩, hK⟩
theorem z_sound (h : ZR cN sw sX sY cX cF cT a0 a1 a2 a3 a4 a5 a6 b0 b1 b2 b3 b4 b5 b6 ik tO tL pO pk pw pf ps fO fi fj ft mO ms mk mik un si sj st mt) (x1 x2 : Int32) : ∃ r eO' et' ei' ej' ew' es' mO' mw' mtm' mst' mwh', fX5_sound cN eO sX sY cX cF cT et ei ej ew es sw x1 x2 = some (r, eO', et', ei', ej', ew', es') ∧ fX6_sound mO ms mw mtm mst mwh x1 x2 = some (r, mO', mw', mtm', mst', mwh') ∧ ZR cN sw sX sY cX cF cT a0 a1 a2 a3 a4 a5 a6 b0 b1 b2 b3 b4 b5 b6 ik tO tL pO pk pw pf ps fO fi fj ft mO' ms mk mik un si sj st mt := by
  obtain ⟨nS, nC, K, T, Q, hR, hP, hT, hS, hK⟩ := h
  obtain ⟨r, eO', et', ei', ej', ew', es', mO', mw', mtm', mst', mwh', hc, hm, hb⟩ := a_sound (e0 := eO) (e1 := et) (e2 := ei) (e3 := ej) (e4 := ew) (e5 := es) (c0 := mO) (c1 := mw) (c2 := mtm) (c3 := mst) (c4 := mwh) hR x1 x2
  exact ⟨r, eO', et', ei', ej', ew', es', mO', mw', mtm', mst', mwh', hc, hm, nS, nC, K, T, Q, hR, ⟨hP.1, hP.2.1, (hb 5 (by decide)).trans hP.2.2.1, hP.2.2.2⟩, ⟨hT.1, hT.2.1, (hb 11 (by decide)).trans hT.2.2.1, hT.2.2.2⟩, ⟨hS.1, hS.2.1, (hb 9 (by decide)).trans hS.2.2.1, hS.2.2.2⟩, hK⟩
theorem z_early (h : ZR cN sw sX sY cX cF cT a0 a1 a2 a3 a4 a5 a6 b0 b1 b2 b3 b4 b5 b6 ik tO tL pO pk pw pf ps fO fi fj ft mO ms mk mik un si sj st mt) (x1 x2 x3 : Int32) : ∃ r eO' et' ei' ej' ew' es' mO' mw' mtm' mst' mwh', fX5_early cN eO sX sY cX cF cT et ei ej ew es sw x1 x2 x3 = some (r, eO', et', ei', ej', ew', es') ∧ fX6_early mO ms mw mtm mst mwh x1 x2 x3 = some (r, mO', mw', mtm', mst', mwh') ∧ ZR cN sw sX sY cX cF cT a0 a1 a2 a3 a4 a5 a6 b0 b1 b2 b3 b4 b5 b6 ik tO tL pO pk pw pf ps fO fi fj ft mO' ms mk mik un si sj st mt := by
  obtain ⟨nS, nC, K, T, Q, hR, hP, hT, hS, hK⟩ := h
  obtain ⟨r, eO', et', ei', ej', ew', es', mO', mw', mtm', mst', mwh', hc, hm, hb⟩ := a_early (e0 := eO) (e1 := et) (e2 := ei) (e3 := ej) (e4 := ew) (e5 := es) (c0 := mO) (c1 := mw) (c2 := mtm) (c3 := mst) (c4 := mwh) hR x1 x2 x3
  exact ⟨r, eO', et', ei', ej', ew', es', mO', mw', mtm', mst', mwh', hc, hm, nS, nC, K, T, Q, hR, ⟨hP.1, hP.2.1, (hb 5 (by decide)).trans hP.2.2.1, hP.2.2.2⟩, ⟨hT.1, hT.2.1, (hb 11 (by decide)).trans hT.2.2.1, hT.2.2.2⟩, ⟨hS.1, hS.2.1, (hb 9 (by decide)).trans hS.2.2.1, hS.2.2.2⟩, hK⟩
theorem z_fade (h : ZR cN sw sX sY cX cF cT a0 a1 a2 a3 a4 a5 a6 b0 b1 b2 b3 b4 b5 b6 ik tO tL pO pk pw pf ps fO fi fj ft mO ms mk mik un si sj st mt) (x1 x2 : Int32) : ∃ r eO' et' ei' ej' ew' es' mO' mw' mtm' mst' mwh', fX5_fade cN eO sX sY cX cF cT et ei ej ew es sw x1 x2 = some (r, eO', et', ei', ej', ew', es') ∧ fX6_fade mO ms mw mtm mst mwh x1 x2 = some (r, mO', mw', mtm', mst', mwh') ∧ ZR cN sw sX sY cX cF cT a0 a1 a2 a3 a4 a5 a6 b0 b1 b2 b3 b4 b5 b6 ik tO tL pO pk pw pf ps fO fi fj ft mO' ms mk mik un si sj st mt := by
  obtain ⟨nS, nC, K, T, Q, hR, hP, hT, hS, hK⟩ := h
  obtain ⟨r, eO', et', ei', ej', ew', es', mO', mw', mtm', mst', mwh', hc, hm, hb⟩ := a_fade (e0 := eO) (e1 := et) (e2 := ei) (e3 := ej) (e4 := ew) (e5 := es) (c0 := mO) (c1 := mw) (c2 := mtm) (c3 := mst) (c4 := mwh) hR x1 x2
  exact ⟨r, eO', et', ei', ej', ew', es', mO', mw', mtm', mst', mwh', hc, hm, nS, nC, K, T, Q, hR, ⟨hP.1, hP.2.1, (hb 5 (by decide)).trans hP.2.2.1, hP.2.2.2⟩, ⟨hT.1, hT.2.1, (hb 11 (by decide)).trans hT.2.2.1, hT.2.2.2⟩, ⟨hS.1, hS.2.1, (hb 9 (by decide)).trans hS.2.2.1, hS.2.2.2⟩, hK⟩
theorem z_best (h : ZR cN sw sX sY cX cF cT a0 a1 a2 a3 a4 a5 a6 b0 b1 b2 b3 b4 b5 b6 ik tO tL pO pk pw pf ps fO fi fj ft mO ms mk mik un si sj st mt) (x1 : Int32) : ∃ r eO' et' ei' ej' ew' es' mO' mw' mtm' mst' mwh', fX5_best cN eO sX sY cX cF cT et ei ej ew es sw x1 = some (r, eO', et', ei', ej', ew', es') ∧ fX6_best mO ms mw mtm mst mwh x1 = some (r, mO', mw', mtm', mst', mwh') ∧ ZR cN sw sX sY cX cF cT a0 a1 a2 a3 a4 a5 a6 b0 b1 b2 b3 b4 b5 b6 ik tO tL pO pk pw pf ps fO fi fj ft mO' ms mk mik un si sj st mt := by
  obtain ⟨nS, nC, K, T, Q, hR, hP, hT, hS, hK⟩ := h
  obtain ⟨r, eO', et', ei', ej', ew', es', mO', mw', mtm', mst', mwh', hc, hm, hb⟩ := a_best (e0 := eO) (e1 := et) (e2 := ei) (e3 := ej) (e4 := ew) (e5 := es) (c0 := mO) (c1 := mw) (c2 := mtm) (c3 := mst) (c4 := mwh) hR x1
  exact ⟨r, eO', et', ei', ej', ew', es', mO', mw', mtm', mst', mwh', hc, hm, nS, nC, K, T, Q, hR, ⟨hP.1, hP.2.1, (hb 5 (by decide)).trans hP.2.2.1, hP.2.2.2⟩, ⟨hT.1, hT.2.1, (hb 11 (by decide)).trans hT.2.2.1, hT.2.2.2⟩, ⟨hS.1, hS.2.1, (hb 9 (by decide)).trans hS.2.2.1, hS.2.2.2⟩, hK⟩
theorem z_odds (h : ZR cN sw sX sY cX cF cT a0 a1 a2 a3 a4 a5 a6 b0 b1 b2 b3 b4 b5 b6 ik tO tL pO pk pw pf ps fO fi fj ft mO ms mk mik un si sj st mt) (x1 x2 x3 x4 : Int32) : ∃ r eO' et' ei' ej' ew' es' ed' mO' mw' mtm' mst' mwh', fX5_odds cN eO sX sY cX cF cT et ei ej ew es sw ed x1 x2 x3 x4 = some (r, eO', et', ei', ej', ew', es', ed') ∧ fX6_odds mO ms mw mtm mst mwh x1 x2 x3 x4 = some (r, mO', mw', mtm', mst', mwh') ∧ ZR cN sw sX sY cX cF cT a0 a1 a2 a3 a4 a5 a6 b0 b1 b2 b3 b4 b5 b6 ik tO tL pO pk pw pf ps fO fi fj ft mO' ms mk mik un si sj st mt := by
  obtain ⟨nS, nC, K, T, Q, hR, hP, hT, hS, hK⟩ := h
  obtain ⟨r, eO', et', ei', ej', ew', es', ed', mO', mw', mtm', mst', mwh', hc, hm, hb⟩ := a_odds (e0 := eO) (e1 := et) (e2 := ei) (e3 := ej) (e4 := ew) (e5 := es) (e6 := ed) (c0 := mO) (c1 := mw) (c2 := mtm) (c3 := mst) (c4 := mwh) hR x1 x2 x3 x4
  exact ⟨r, eO', et', ei', ej', ew', es', ed', mO', mw', mtm', mst', mwh', hc, hm, nS, nC, K, T, Q, hR, ⟨hP.1, hP.2.1, (hb 5 (by decide)).trans hP.2.2.1, hP.2.2.2⟩, ⟨hT.1, hT.2.1, (hb 11 (by decide)).trans hT.2.2.1, hT.2.2.2⟩, ⟨hS.1, hS.2.1, (hb 9 (by decide)).trans hS.2.2.1, hS.2.2.2⟩, hK⟩
theorem z_sees (h : ZR cN sw sX sY cX cF cT a0 a1 a2 a3 a4 a5 a6 b0 b1 b2 b3 b4 b5 b6 ik tO tL pO pk pw pf ps fO fi fj ft mO ms mk mik un si sj st mt) (x1 x2 x3 : Int32) : ∃ r fO' fi' fj' ft' mO' si' sj' st', fX5_sees fO fi fj ft x1 x2 x3 = some (r, fO', fi', fj', ft') ∧ fX6_sees mO si sj st x1 x2 x3 = some (r, mO', si', sj', st') ∧ ZR cN sw sX sY cX cF cT a0 a1 a2 a3 a4 a5 a6 b0 b1 b2 b3 b4 b5 b6 ik tO tL pO pk pw pf ps fO' fi' fj' ft' mO' ms mk mik un si' sj' st' mt := by
  obtain ⟨nS, nC, K, T, Q, hR, hP, hT, hS, hK⟩ := h
  obtain ⟨r, fO', fi', fj', ft', mO', si', sj', st', hc, hm, ⟨Q', hS'⟩, e5, e11⟩ := a_sees hS x1 x2 x3
  exact ⟨r, fO', fi', fj', ft', mO', si', sj', st', hc, hm, nS, nC, K, T, Q', hR, ⟨hP.1, hP.2.1, e5.trans hP.2.2.1, hP.2.2.2⟩, ⟨hT.1, hT.2.1, e11.trans hT.2.2.1, hT.2.2.2⟩, hS', hK⟩
theorem z_forget (h : ZR cN sw sX sY cX cF cT a0 a1 a2 a3 a4 a5 a6 b0 b1 b2 b3 b4 b5 b6 ik tO tL pO pk pw pf ps fO fi fj ft mO ms mk mik un si sj st mt) : ∃ r fO' mO', fX5_forget fO = some (r, fO') ∧ fX6_forget mO = some (r, mO') ∧ ZR cN sw sX sY cX cF cT a0 a1 a2 a3 a4 a5 a6 b0 b1 b2 b3 b4 b5 b6 ik tO tL pO pk pw pf ps fO' fi fj ft mO' ms mk mik un si sj st mt := by
  obtain ⟨nS, nC, K, T, Q, hR, hP, hT, hS, hK⟩ := h
  obtain ⟨r, fO', mO', hc, hm, ⟨Q', hS'⟩, e5, e11⟩ := a_forget hS
  exact ⟨r, fO', mO', hc, hm, nS, nC, K, T, Q', hR, ⟨hP.1, hP.2.1, e5.trans hP.2.2.1, hP.2.2.2⟩, ⟨hT.1, hT.2.1, e11.trans hT.2.2.1, hT.2.2.2⟩, hS', hK⟩
theorem z_unseen (h : ZR cN sw sX sY cX cF cT a0 a1 a2 a3 a4 a5 a6 b0 b1 b2 b3 b4 b5 b6 ik tO tL pO pk pw pf ps fO fi fj ft mO ms mk mik un si sj st mt) (x1 : Int32) : ∃ r fO' fX' fY', fX5_unseen fO cN fi fj ft fX fY x1 = some (r, fO', fX', fY') ∧ fX6_unseen mO ms si sj st x1 = some (r) ∧ ZR cN sw sX sY cX cF cT a0 a1 a2 a3 a4 a5 a6 b0 b1 b2 b3 b4 b5 b6 ik tO tL pO pk pw pf ps fO' fi fj ft mO ms mk mik un si sj st mt := by
  obtain ⟨nS, nC, K, T, Q, hR, hP, hT, hS, hK⟩ := h
  have hR' := hR
  obtain ⟨-, -, ⟨q0, q1, q2, q3, -⟩, -, -, -, hV, -⟩ := hR'
  have hV' := hV
  obtain ⟨l1, l2, l3, l4, -⟩ := hV'
  obtain ⟨Ln, hLn, eL⟩ := nI_ex (x := ms 0) (N := 21) (by omega) (by omega)
  obtain ⟨Bn, hBn, eB⟩ := nI_ex (x := ms 1) (N := 21) (by omega) (by omega)
  obtain ⟨r, fO', fX', fY', hc, hm, e3⟩ := a_unseen (pX := fX) (pY := fY) hS q0 q1 q2 q3 hV eL eB (by omega) (by omega) x1
  exact ⟨r, fO', fX', fY', hc, hm, nS, nC, K, T, Q, hR, hP, hT, ⟨hS.1, e3.trans hS.2.1, hS.2.2⟩, hK⟩
theorem z_listen (h : ZR cN sw sX sY cX cF cT a0 a1 a2 a3 a4 a5 a6 b0 b1 b2 b3 b4 b5 b6 ik tO tL pO pk pw pf ps fO fi fj ft mO ms mk mik un si sj st mt) : ∃ r fO' fX' fY' fT' mto', fX5_listen fO cN fi fj ft fX fY fT = some (r, fO', fX', fY', fT') ∧ fX6_listen mO ms si sj st mto = some (r, mto') ∧ ZR cN sw sX sY cX cF cT a0 a1 a2 a3 a4 a5 a6 b0 b1 b2 b3 b4 b5 b6 ik tO tL pO pk pw pf ps fO' fi fj ft mO ms mk mik un si sj st mt := by
  obtain ⟨nS, nC, K, T, Q, hR, hP, hT, hS, hK⟩ := h
  have hR' := hR
  obtain ⟨-, -, ⟨q0, q1, q2, q3, -⟩, -, -, -, hV, -⟩ := hR'
  have hV' := hV
  obtain ⟨l1, l2, l3, l4, -⟩ := hV'
  obtain ⟨Ln, hLn, eL⟩ := nI_ex (x := ms 0) (N := 21) (by omega) (by omega)
  obtain ⟨Bn, hBn, eB⟩ := nI_ex (x := ms 1) (N := 21) (by omega) (by omega)
  obtain ⟨r, fO', fX', fY', fT', mto', hc, hm, e3⟩ := a_listen (pX := fX) (pY := fY) (told := fT) (mtold := mto) hS q0 q1 q2 q3 hV eL eB (by omega) (by omega)
  exact ⟨r, fO', fX', fY', fT', mto', hc, hm, nS, nC, K, T, Q, hR, hP, hT, ⟨hS.1, e3.trans hS.2.1, hS.2.2⟩, hK⟩
theorem z_keep (h : ZR cN sw sX sY cX cF cT a0 a1 a2 a3 a4 a5 a6 b0 b1 b2 b3 b4 b5 b6 ik tO tL pO pk pw pf ps fO fi fj ft mO ms mk mik un si sj st mt) (x1 : Int32) : ∃ r b0' b1' b2' b3' b4' b5' b6' ik' a0' a1' a2' a3' a4' a5' a6' mk' mik', fX5_keep cN b0 sw b1 sX b2 sY b3 cX b4 cF b5 cT b6 ik a0 a1 a2 a3 a4 a5 a6 x1 = some (r, b0', b1', b2', b3', b4', b5', b6', ik', a0', a1', a2', a3', a4', a5', a6') ∧ fX6_keep mO ms mk mik x1 = some (r, mk', mik') ∧ ZR cN sw sX sY cX cF cT a0' a1' a2' a3' a4' a5' a6' b0' b1' b2' b3' b4' b5' b6' ik' tO tL pO pk pw pf ps fO fi fj ft mO ms mk' mik' un si sj st mt := by
  obtain ⟨nS, nC, K, T, Q, hR, hP, hT, hS, hK⟩ := h
  obtain ⟨r, b0', b1', b2', b3', b4', b5', b6', ik', a0', a1', a2', a3', a4', a5', a6', mk', mik', hc, hm, hK'⟩ := a_keep (mO := mO) hR hK x1
  exact ⟨r, b0', b1', b2', b3', b4', b5', b6', ik', a0', a1', a2', a3', a4', a5', a6', mk', mik', hc, hm, nS, nC, K, T, Q, hR, hP, hT, hS, hK'⟩
theorem z_back (h : ZR cN sw sX sY cX cF cT a0 a1 a2 a3 a4 a5 a6 b0 b1 b2 b3 b4 b5 b6 ik tO tL pO pk pw pf ps fO fi fj ft mO ms mk mik un si sj st mt) (x1 : Int32) : ∃ r cN' sw' sX' sY' cX' cF' cT' pO' mO' ms', fX5_back ik b0 cN b1 sw b2 sX b3 sY b4 cX b5 cF b6 cT pO a0 a1 a2 a3 a4 a5 a6 x1 = some (r, cN', sw', sX', sY', cX', cF', cT', pO') ∧ fX6_back mO mik mk ms x1 = some (r, mO', ms') ∧ ZR cN' sw' sX' sY' cX' cF' cT' a0 a1 a2 a3 a4 a5 a6 b0 b1 b2 b3 b4 b5 b6 ik tO tL pO' pk pw pf ps fO fi fj ft mO' ms' mk mik un si sj st mt := by
  obtain ⟨nS, nC, K, T, Q, hR, hP, hT, hS, hK⟩ := h
  obtain ⟨r, cN', sw', sX', sY', cX', cF', cT', pO', mO', ms', hc, hm, hR', ⟨K', hP'⟩, e9, e11⟩ := a_back hR hP hK x1
  exact ⟨r, cN', sw', sX', sY', cX', cF', cT', pO', mO', ms', hc, hm, nS, nC, K', T, Q, hR', hP', ⟨hT.1, hT.2.1, e11.trans hT.2.2.1, hT.2.2.2⟩, ⟨hS.1, hS.2.1, e9.trans hS.2.2.1, hS.2.2.2⟩, hK⟩
theorem z_count (h : ZR cN sw sX sY cX cF cT a0 a1 a2 a3 a4 a5 a6 b0 b1 b2 b3 b4 b5 b6 ik tO tL pO pk pw pf ps fO fi fj ft mO ms mk mik un si sj st mt) (x1 : Int32) : ∃ r, fX5_count pO tO fO cN x1 = some (r) ∧ fX6_count mO ms x1 = some (r) ∧ ZR cN sw sX sY cX cF cT a0 a1 a2 a3 a4 a5 a6 b0 b1 b2 b3 b4 b5 b6 ik tO tL pO pk pw pf ps fO fi fj ft mO ms mk mik un si sj st mt := by
  obtain ⟨nS, nC, K, T, Q, hR, hP, hT, hS, hK⟩ := h
  obtain ⟨r, hc, hm⟩ := a_count hR hP.2.1 hP.2.2.1 hT.2.1 hT.2.2.1 hS.2.1 hS.2.2.1 x1
  exact ⟨r, hc, hm, nS, nC, K, T, Q, hR, hP, hT, hS, hK⟩
end ZOPS
