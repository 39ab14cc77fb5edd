section
variable {n K : Nat} {Y Y2 : Yc} {X X2 : Xc} {r : Nat}
theorem bt_0 (q : Nat) : ¬ bt 0 q := by
  unfold bt
  intro h
  rw [Int32.zero_shiftRight] at h
  exact absurd h (by decide)
theorem ln_0 : ln 0 = 0 := rfl
theorem Sm.z {K : Nat} : Sm K 0 := ⟨0, Nat.zero_le _, rfl⟩
def yTn (Y : Yc) (r : Nat) (v : Int64) (tm : Int32) : Yc := uI (uI (uI (uI (uI (uI (uI (uI (uJ Y 805 r v) 804 r 2) 502 r 0) 503 r 0) 504 r 0) 505 r 0) 506 r 0) 809 r 0) 813 r tm
def xTn (X : Xc) (r : Nat) (l e tm : Int32) : Xc := xA (xA (xA (xA (xA (xA (xA (xA (xA (xA X 21 r l) 22 r e) 23 r 2) 36 r 0) 43 r 0) 44 r 0) 45 r 0) 46 r 0) 29 r 0) 59 r tm
theorem tn_Y (v : Int64) (tm : Int32) : RgY r Y (yTn Y r v tm) := ((((((((RgY.rf.wJ (by omega) v).wI (by omega) 2).wI (by omega) 0).wI (by omega) 0).wI (by omega) 0).wI (by omega) 0).wI (by omega) 0).wI (by omega) 0).wI (by omega) tm
theorem tn_X (l e tm : Int32) : RgX r X (xTn X r l e tm) := (((((((((RgX.rf.wA (by omega) l).wA (by omega) e).wA (by omega) 2).wA (by omega) 0).wA (by omega) 0).wA (by omega) 0).wA (by omega) 0).wA (by omega) 0).wA (by omega) 0).wA (by omega) tm
theorem tn_sim (S : Sim n K Y X) (hr : r < n) {l e : Nat} (hl : l ≤ K) (he : e ≤ K) (tm : Int32) : Sim n K (yTn Y r (vw (nI l) (nI e)) tm) (xTn X r (nI l) (nI e) tm) := by
  have hn := S.sc.n7
  have R := S.rp hr
  have hl' : Sm K (nI l) := ⟨l, hl, rfl⟩
  have he' : Sm K (nI e) := ⟨e, he, rfl⟩
  have h2 : Sm 2 (2 : Int32) := ⟨2, by omega, rfl⟩
  refine sim_rep S hr (tn_Y _ _) (tn_X _ _ _) ⟨?_, ?_, ?_, ?_, ?_⟩
  · unfold RpS yTn xTn
    simp [yII, yIJ, yIA, yIB, yIP, yIS, yIR, yJI, yJJ, yJA, yJB, yJP, yJS, yJR, yAI, yAJ, yAA, yAB, yAP, yAS, yAR, yBI, yBJ, yBA, yBB, yBP, yBS, yBR, yPI, yPJ, yPA, yPB, yPP, yPS, yPR, ySI, ySJ, ySA, ySB, ySP, ySS, ySR, yRI, yRJ, yRA, yRB, yRP, yRS, yRR, xAA, R.num, R.dwn, R.sta, R.vie, R.nor, R.pnt, R.syn, R.hea, R.ask, R.trn, R.spo, R.ssa, R.dwn01, R.sta2, R.ldK, R.epK, R.llK, R.leK, R.pnK, hl', he', h2]
  · have := S.lg hr
    unfold LgS xE yTn xTn at *
    simpa [yII, yIJ, yIA, yIB, yIP, yIS, yIR, yJI, yJJ, yJA, yJB, yJP, yJS, yJR, yAI, yAJ, yAA, yAB, yAP, yAS, yAR, yBI, yBJ, yBA, yBB, yBP, yBS, yBR, yPI, yPJ, yPA, yPB, yPP, yPS, yPR, ySI, ySJ, ySA, ySB, ySP, ySS, ySR, yRI, yRJ, yRA, yRB, yRP, yRS, yRR, xAA] using this
  · unfold HdS yTn xTn
    simp [yII, yIJ, yIA, yIB, yIP, yIS, yIR, yJI, yJJ, yJA, yJB, yJP, yJS, yJR, yAI, yAJ, yAA, yAB, yAP, yAS, yAR, yBI, yBJ, yBA, yBB, yBP, yBS, yBR, yPI, yPJ, yPA, yPB, yPP, yPS, yPR, ySI, ySJ, ySA, ySB, ySP, ySS, ySR, yRI, yRJ, yRA, yRB, yRP, yRS, yRR, xAA, Sm.z, ln_0]
  · unfold CtS yTn xTn
    simp [yII, yIJ, yIA, yIB, yIP, yIS, yIR, yJI, yJJ, yJA, yJB, yJP, yJS, yJR, yAI, yAJ, yAA, yAB, yAP, yAS, yAR, yBI, yBJ, yBA, yBB, yBP, yBS, yBR, yPI, yPJ, yPA, yPB, yPP, yPS, yPR, ySI, ySJ, ySA, ySB, ySP, ySS, ySR, yRI, yRJ, yRA, yRB, yRP, yRS, yRR, xAA, Sm.z]
  · unfold ChS yTn xTn
    simp [yII, yIJ, yIA, yIB, yIP, yIS, yIR, yJI, yJJ, yJA, yJB, yJP, yJS, yJR, yAI, yAJ, yAA, yAB, yAP, yAS, yAR, yBI, yBJ, yBA, yBB, yBP, yBS, yBR, yPI, yPJ, yPA, yPB, yPP, yPS, yPR, ySI, ySJ, ySA, ySB, ySP, ySS, ySR, yRI, yRJ, yRA, yRB, yRP, yRS, yRR, xAA, Sm.z, bt_0]
/-- replica r turns to the view (l, e) -/
theorem turn_sim (S : Sim n K Y X) (hr : r < n) {l e : Nat} (hl : l ≤ K) (he : e ≤ K) :
    ∃ Y2 X2, (∀ Q : Yc → Prop, Q Y2 → wy_X8_turn n r (vw (nI l) (nI e)) Y Q) ∧ (∀ Q : Xc → Prop, Q X2 → wx_X12_turnsTo (nI r) (nI l) (nI e) X Q) ∧ Sim n K Y2 X2 ∧
      (∀ i m, Han n K Y X i m → Han n K Y2 X2 i m) ∧ X2.2 21 r = nI l ∧ X2.2 22 r = nI e ∧ X2.2 23 r = 2 ∧ Up X X2 := by
  have hn := S.sc.n7
  have T := tn_sim S hr hl he (X.1 4)
  have hc : (nI r).toNatClampNeg = r := nI_clamp (by omega)
  have hv : vp_in (nI r) 7 := vp_in_nI (by omega) (by omega)
  obtain ⟨Y2, X2, ry, rx, s2, f2⟩ := tellTurn_sim T hr
  refine ⟨Y2, X2, fun Q hQ => ?_, fun Q hQ => ?_, s2, fun i m h => ?_, ?_, ?_, ?_, f2.up⟩
  · unfold wy_X8_turn wy_X5_clear
    intro x15 e15
    have e15 : x15 = X.1 4 := e15.trans S.sc.tim
    subst e15
    exact ry _ hQ
  · unfold wx_X12_turnsTo wx_X12_forgetCounts
    rw [hc]
    refine ⟨hv, hv, hv, hv, hv, hv, hv, hv, hv, fun x10 e10 => ?_⟩
    have e10 : x10 = X.1 4 := e10
    subst e10
    refine ⟨hv, fun x13 e13 => ?_⟩
    have e13 : x13 = X.1 4 := e13
    subst e13
    exact ⟨hv, rx _ hQ⟩
  · have h1 := (tn_Y (r := r) (vw (nI l) (nI e)) (X.1 4)).han (tn_X (r := r) (nI l) (nI e) (X.1 4)) (by omega) h
    have h2 := (RgY.rf.wI (r := r) (Y := yTn Y r (vw (nI l) (nI e)) (X.1 4)) (c := 812) (by omega) (X.1 4)).han (RgX.rf.wA (r := r) (X := xTn X r (nI l) (nI e) (X.1 4)) (k := 58) (i := r) (by omega) (X.1 4)) (by omega) h1
    exact f2.han h2
  · rw [f2.2.1.2 21 (by omega) (by omega)]; unfold xTn; simp [xAA]
  · rw [f2.2.1.2 22 (by omega) (by omega)]; unfold xTn; simp [xAA]
  · rw [f2.2.1.2 23 (by omega) (by omega)]; unfold xTn; simp [xAA]
/-- bigger bounds -/
theorem RqOK.mono {K K' : Nat} {w : Rq} (h : RqOK K w) (hk : K ≤ K') : RqOK K' w := ⟨h.1, h.2.1.mono hk, h.2.2.1, h.2.2.2⟩
theorem EnOK.mono {K K' : Nat} {q : Option Rq} (h : EnOK K q) (hk : K ≤ K') : EnOK K' q := fun w hw => (h w hw).mono hk
theorem MOK.mono {K' : Nat} {i : Nat} (h : MOK n K Y i) (hk : K ≤ K') : MOK n K' Y i := by
  obtain ⟨h1, h2, h3, ⟨l, e, hl, he, h4⟩, h5, h6, h7, h8, h9, h10⟩ := h
  refine ⟨h1, h2, h3, ⟨l, e, by omega, by omega, h4⟩, fun q => ?_, h6.mono hk, fun q => ?_, h8, fun q => ⟨(h9 q).1.mono hk, (h9 q).2⟩, fun q => ⟨(h10 q).1, (h10 q).2.1, fun s hs => ((h10 q).2.2 s hs).mono hk⟩⟩
  · obtain ⟨⟨l, e, hl, he, h⟩, g⟩ := h5 q
    exact ⟨⟨l, e, by omega, by omega, h⟩, g⟩
  · obtain ⟨w, h, g⟩ := h7 q
    exact ⟨w, h, g.mono hk⟩
theorem Sim.mono {K' : Nat} (S : Sim n K Y X) (hk : K ≤ K') (hk2 : K' < 1073741824) : Sim n K' Y X := by
  obtain ⟨h1, h2, h3, h4, h5, h6⟩ := S
  refine ⟨?_, fun r hr => ?_, fun c hc => ?_, fun a ha hb => ?_, ?_, h6⟩
  · unfold ScS at *
    obtain ⟨a1, a2, a3, a4, a5, a6, a7, a8, a9, a10, a11, a12, a13, a14, a15, a16, a17, a18, a19, a20, a21⟩ := h1
    exact ⟨a1, by omega, hk2, a4, a5, a6, a7, a8, a9, a10, a11, a12, a13, a14, a15, a16, a17, a18.mono hk, a19.mono hk, a20.mono hk, a21⟩
  · obtain ⟨b1, b2, b3, b4, b5⟩ := h2 r hr
    refine ⟨?_, ⟨b2.1, b2.2.1, b2.2.2.1, b2.2.2.2.1, fun s hs => ⟨(b2.2.2.2.2 s hs).1, (b2.2.2.2.2 s hs).2.mono hk⟩⟩, ⟨b3.1, b3.2.1, fun i hi => ⟨(b3.2.2 i hi).1, (b3.2.2 i hi).2.1, (b3.2.2 i hi).2.2.mono hk⟩⟩, b4, fun q => ?_⟩
    · unfold RpS at *
      obtain ⟨a1, a2, a3, a4, a5, a6, a7, a8, a9, a10, a11, a12, a13, a14, a15, a16, a17, a18, a19⟩ := b1
      exact ⟨a1, a2, a3, a4, a5, a6, a7, a8, a9, a10, a11, a12, a13, a14, a15.mono hk, a16.mono hk, a17.mono hk, a18.mono hk, a19.mono hk⟩
    · obtain ⟨g1, g2, g3, g4, g5, g6, g7, g8, g9⟩ := b5 q
      refine ⟨g1, g2, g3, g4, g5, g6, g7, g8, fun q hq hb => ?_⟩
      obtain ⟨t1, t2, t3, t4, t5, t6, t7, t8⟩ := g9 q hq hb
      exact ⟨t1, t2.mono hk, t3.mono hk, t4, t5, t6, t7, fun s hs => ⟨(t8 s hs).1, (t8 s hs).2.mono hk⟩⟩
  · have := h3 c hc
    unfold ClS at *
    obtain ⟨a1, a2, a3, a4, a5, a6, a7, a8, a9, a10, a11, f, hf, hf2, hf3⟩ := this
    refine ⟨a1, a2, a3, a4, a5.mono hk, a6, a7, a8, a9, a10, a11, f, hf, hf2, fun i hi => ⟨?_, (hf3 i hi).2⟩⟩
    obtain ⟨p1, p2, p3, p4, p5, p6, p7, p8⟩ := (hf3 i hi).1
    exact ⟨p1, p2, p3, p4, p5.mono hk, p6.mono hk, p7, p8⟩
  · obtain ⟨⟨w, w1, w2, w3, w4⟩, q⟩ := h4 a ha hb
    exact ⟨⟨w, w1, w2, w3, w4.mono hk⟩, q⟩
  · obtain ⟨cnt, od, hc, ho, e5, x6, e4, hr, hri, f, hf, hfi, hfb⟩ := h5
    exact ⟨cnt, od, hc, ho, e5, x6, e4, hr, hri, f, fun k hk' => ⟨(hf k hk').1, (hf k hk').2.1, (hf k hk').2.2.1, (hf k hk').2.2.2.1, (hf k hk').2.2.2.2.1, (hf k hk').2.2.2.2.2.1, (hf k hk').2.2.2.2.2.2.mono hk⟩, hfi, hfb⟩
theorem Han.mono {K' i : Nat} {l : List Int32} (h : Han n K Y X i l) (hk : K ≤ K') : Han n K' Y X i l := ⟨h.1, h.2.1, h.2.2.1.mono hk, h.2.2.2⟩
/-- the next leader -/
theorem next_sim (S : Sim n K Y X) (hK : K + 1 < 1073741824) (hr : r < n) :
    ∃ Y2 X2, (∀ Q : Yc → Prop, Q Y2 → wy_X8_turnToNextLead n r Y Q) ∧ (∀ Q : Xc → Prop, Q X2 → wx_X12_turnsTo (nI r) (X.2 21 r + 1) (X.2 22 r) X Q) ∧ Sim n (K + 1) Y2 X2 ∧ Up X X2 := by
  have R := S.rp hr
  obtain ⟨l, hl, el⟩ := R.ldK
  obtain ⟨e, he, ee⟩ := R.epK
  obtain ⟨Y2, X2, ry, rx, s2, _, _, _, _, u2⟩ := turn_sim (S.mono (Nat.le_succ K) hK) hr (l := l + 1) (e := e) (by omega) (by omega)
  refine ⟨Y2, X2, fun Q hQ => ?_, fun Q hQ => by rw [el, ee, nI_1]; exact rx _ hQ, s2, u2⟩
  unfold wy_X8_turnToNextLead wy_X11_leadOf wy_X11_sessionOf wy_X11_viewOf
  intro y1 e1 y10 e10
  rw [R.vie] at e1 e10
  subst e1; subst e10
  rw [vw_lead, vw_sess, el, ee, nI_1]
  exact ry _ hQ
end
