/-! wire -/
section
variable {n K : Nat} {Y Y2 Y0 : Yc} {X X2 X0 : Xc} {o r : Nat}
theorem Row.l {f : Nat → Int32} {b : Nat} {l1 l2 : List Int32} (h : Row f b (l1 ++ l2)) : Row f b l1 := fun j hj => by
  rw [h j (by rw [List.length_append]; omega), getD_apl _ hj]
theorem Row.rt {f : Nat → Int32} {b : Nat} {l1 l2 : List Int32} (h : Row f b (l1 ++ l2)) : Row f (b + l1.length) l2 := fun j hj => by
  have := h (l1.length + j) (by rw [List.length_append]; omega)
  rw [getD_app] at this
  rw [Nat.add_assoc]
  exact this
theorem Row.hd {f : Nat → Int32} {b : Nat} {v : Int32} {l : List Int32} (h : Row f b (v :: l)) : f b = v := h 0 (by simp)
theorem Row.tl {f : Nat → Int32} {b : Nat} {v : Int32} {l : List Int32} (h : Row f b (v :: l)) : Row f (b + 1) l := Row.rt (l1 := [v]) h
def rqW (h : List Int32) (w : Rq) : List Int32 := aW (a1 (a1 (aN (a1 h w.1) (ln w.2.1)) w.2.2.1) w.2.2.2.1) w.2.2.2.2
theorem rqW_len (h : List Int32) (w : Rq) : (rqW h w).length ≤ h.length + 12 := by
  have := aN_len (a1 h w.1) (ln w.2.1)
  rw [a1_len] at this
  simp only [rqW, a1_len, aW_len]
  omega
def le (h : List Int32) : Option Rq → List Int32
  | none => a1 h 0
  | some w => rqW (a1 h 1) w
theorem le_len (h : List Int32) (q : Option Rq) : (le h q).length ≤ h.length + 13 := by
  cases q with
  | none => simp only [le, a1_len]; omega
  | some w =>
    have := rqW_len (a1 h 1) w
    rw [a1_len] at this
    show (rqW (a1 h 1) w).length ≤ _
    omega
def les (f : Nat → Option Rq) : Nat → Nat → List Int32 → List Int32
  | _, 0, h => h
  | s, m + 1, h => les f (s + 1) m (le h (f s))
theorem les_len (f : Nat → Option Rq) : ∀ m s h, (les f s m h).length ≤ h.length + 13 * m := by
  intro m
  induction m with
  | zero => intro s h; exact Nat.le_refl _
  | succ m ih =>
    intro s h
    have h1 := ih (s + 1) (le h (f s))
    have h2 := le_len h (f s)
    show (les f (s + 1) m (le h (f s))).length ≤ _
    omega
theorem y_rq {h : List Int32} (hh : h.length + 12 ≤ 2560) {w : Rq} (hk : K < 2 ^ 31) (hw : Sm K w.2.1) : WY 0 Y0 (wy_X9_write n w 0) h (rqW h w) := by
  have hb : bl 0 ≤ 2560 := Nat.le_refl _
  obtain ⟨k, h1, h2⟩ := hw
  have hl : ln w.2.1 = k := by rw [h2]; exact nI_clamp (by omega)
  have a := aN_len (a1 h w.1) k
  rw [a1_len] at a
  unfold wy_X9_write rqW
  rw [hl]
  refine WY.rd w.1 (fun _ _ => rfl) ?_
  refine WY.seq (WY.add hb (by rw [bl0]; omega) _) ?_
  refine WY.rd (nI k) (fun _ _ => h2) ?_
  refine WY.seq (WY.num hb (by rw [bl0, a1_len]; omega) (by omega)) ?_
  refine WY.rd w.2.2.1 (fun _ _ => rfl) ?_
  refine WY.seq (WY.add hb (by rw [bl0]; omega) _) ?_
  refine WY.rd w.2.2.2.1 (fun _ _ => rfl) ?_
  refine WY.seq (WY.add hb (by rw [bl0, a1_len]; omega) _) ?_
  refine WY.rd w.2.2.2.2 (fun _ _ => rfl) ?_
  exact WY.word hb (by rw [bl0, a1_len, a1_len]; omega) _
theorem x_rq {h : List Int32} (hh : h.length + 12 ≤ 2560) {w : Rq} (hk : K < 2 ^ 31) (hw : Sm K w.2.1) {b : Nat} (hb : b + 4 < 128000) (R : Row (X0.2 10) b [w.1, w.2.1, w.2.2.1, w.2.2.2.1, w.2.2.2.2]) : WX X0 (wx_X12_writeRequest (nI b)) h (rqW h w) := by
  obtain ⟨k, h1, h2⟩ := hw
  have hl : ln w.2.1 = k := by rw [h2]; exact nI_clamp (by omega)
  have a := aN_len (a1 h w.1) k
  rw [a1_len] at a
  have hc : ∀ j, j < 5 → (nI (b + j)).toNatClampNeg = b + j := fun j hj => nI_clamp (by omega)
  have hv : ∀ j, j < 5 → vp_in (nI (b + j)) 128000 := fun j hj => vp_in_nI (by omega) (by omega)
  have rd : ∀ j, j < 5 → ∀ X, OX 88 89 X0 X → X.2 10 (nI (b + j)).toNatClampNeg = X0.2 10 (b + j) := fun j hj X g => by rw [hc j hj]; exact g.2 10 _ (by omega)
  unfold wx_X12_writeRequest rqW
  rw [hl]
  refine WX.gd (hv 0 (by omega)) ?_
  refine WX.rd w.1 (fun X g => (rd 0 (by omega) X g).trans (R 0 (by simp))) ?_
  refine WX.seq (WX.add (by omega) _) ?_
  refine WX.rd (nI (b + 1)) (fun _ _ => nI_1 b) ?_
  refine WX.gd (hv 1 (by omega)) ?_
  refine WX.rd (nI k) (fun X g => ((rd 1 (by omega) X g).trans (R 1 (by simp))).trans h2) ?_
  refine WX.seq (WX.num (by rw [a1_len]; omega) (by omega)) ?_
  refine WX.rd (nI (b + 2)) (fun _ _ => nI_add b 2) ?_
  refine WX.gd (hv 2 (by omega)) ?_
  refine WX.rd w.2.2.1 (fun X g => (rd 2 (by omega) X g).trans (R 2 (by simp))) ?_
  refine WX.seq (WX.add (by omega) _) ?_
  refine WX.rd (nI (b + 3)) (fun _ _ => nI_add b 3) ?_
  refine WX.gd (hv 3 (by omega)) ?_
  refine WX.rd w.2.2.2.1 (fun X g => (rd 3 (by omega) X g).trans (R 3 (by simp))) ?_
  refine WX.seq (WX.add (by rw [a1_len]; omega) _) ?_
  refine WX.rd (nI (b + 4)) (fun _ _ => nI_add b 4) ?_
  refine WX.gd (hv 4 (by omega)) ?_
  refine WX.rd w.2.2.2.2 (fun X g => (rd 4 (by omega) X g).trans (R 4 (by simp))) ?_
  exact WX.word (by rw [a1_len, a1_len]; omega) _
theorem y_lgs {L : Nat} (hL : L ≤ 100) (hl : yI Y0 201 o = nI L) (hk : K < 2 ^ 31) (he : ∀ s, s < L → EnOK K (yS Y0 200 o s)) : ∀ d t h, t + d = L → h.length + 13 * d ≤ 2560 → ∀ Y, OY 0 Y0 Y → YW 0 Y h → ∃ Y2, OY 0 Y0 Y2 ∧ YW 0 Y2 (les (yS Y0 200 o) t d h) ∧ ∀ Q : Yc → Prop, Q Y2 → LFy (fy_X2_write_10 n o Q) (0, nI (t + 1)) Y := by
  have hb : bl 0 ≤ 2560 := Nat.le_refl _
  intro d
  induction d with
  | zero =>
    intro t h ht _ Y g w
    have ht : t = L := by omega
    subst ht
    refine ⟨Y, g, w, fun Q hQ R hR => hR _ _ (fun x1 e1 => ?_)⟩
    rw [g.1 201 o (by omega), hl] at e1
    subst e1
    exact ⟨fun _ => hQ, fun q => absurd ((nI_lti (by omega) (by omega)).mpr (by omega)) q⟩
  | succ d ih =>
    intro t h ht hh Y g w
    have hl2 : yI Y 201 o = nI L := (g.1 201 o (by omega)).trans hl
    have hS : yS Y = yS Y0 := g.2.2.2.2.2.1
    have one : ∃ Y1, OY 0 Y0 Y1 ∧ YW 0 Y1 (le h (yS Y0 200 o t)) ∧ ∀ (Q : Yc → Prop) (R : Nat × Int32 → Yc → Prop), R (0, nI (t + 1 + 1)) Y1 → fy_X2_write_10 n o Q R (0, nI (t + 1)) Y := by
      have fin : ∀ {Y1 : Yc} (Q : Yc → Prop) (R : Nat × Int32 → Yc → Prop), R (0, nI (t + 1 + 1)) Y1 → by_X2_write_46 n o R Q 0 (nI (t + 1)) Y1 := by
        intro Y1 Q R hR
        unfold by_X2_write_46
        intro x1 e1
        have e1 : x1 = nI (t + 1 + 1) := e1.trans (nI_1 _)
        subst e1
        exact hR
      have hlt : ¬ nI L < nI (t + 1) := fun q => absurd ((nI_lti (by omega) (by omega)).mp q) (by omega)
      cases hq : yS Y0 200 o t with
      | none =>
        obtain ⟨Y1, g1, w1, r1⟩ := WY.add (n := n) (o := 0) (Y0 := Y0) hb (h := h) (by rw [bl0]; omega) 0 Y g w
        refine ⟨Y1, g1, w1, fun Q R hR x1 e1 => ?_⟩
        rw [hl2] at e1
        subst e1
        refine ⟨fun q => absurd q hlt, fun _ => y_at2 hL (by omega) hl2 _ ?_⟩
        rw [if_pos (by omega), hS, hq]
        exact ⟨fun _ => r1 _ ⟨fun _ => fin Q R hR, fun w q => nomatch q⟩, fun w q => nomatch q⟩
      | some v =>
        obtain ⟨Y1, g1, w1, r1⟩ := WY.add (n := n) (o := 0) (Y0 := Y0) hb (h := h) (by rw [bl0]; omega) 1 Y g w
        obtain ⟨Y2, g2, w2, r2⟩ := y_rq (n := n) (Y0 := Y0) (h := a1 h 1) (by rw [a1_len]; omega) hk ((he t (by omega)) v hq).2.1 Y1 g1 w1
        refine ⟨Y2, g2, w2, fun Q R hR x1 e1 => ?_⟩
        rw [hl2] at e1
        subst e1
        refine ⟨fun q => absurd q hlt, fun _ => y_at2 hL (by omega) hl2 _ ?_⟩
        rw [if_pos (by omega), hS, hq]
        refine ⟨fun q => (nomatch q), fun w11 q => r1 _ ⟨fun q => (nomatch q), fun w12 q2 => ?_⟩⟩
        have q2 : v = w12 := Option.some.inj q2
        subst q2
        exact r2 _ (fin Q R hR)
    obtain ⟨Y1, g1, w1, r1⟩ := one
    obtain ⟨Y2, g2, w2, r2⟩ := ih (t + 1) _ (by omega) (by have := le_len h (yS Y0 200 o t); omega) Y1 g1 w1
    exact ⟨Y2, g2, w2, fun Q hQ R hR => hR _ _ (r1 Q R (r2 Q hQ R hR))⟩
def lgB (f : Nat → Option Rq) (L : Nat) (h : List Int32) : List Int32 := les f 0 L (aN h L)
theorem lgB_len (f : Nat → Option Rq) (L : Nat) (h : List Int32) : (lgB f L h).length ≤ h.length + 5 + 13 * L := by
  have h1 := les_len f L 0 (aN h L)
  have h2 := aN_len h L
  unfold lgB
  omega
theorem y_log {L : Nat} (hL : L ≤ 100) (hl : yI Y0 201 o = nI L) (hk : K < 2 ^ 31) (he : ∀ s, s < L → EnOK K (yS Y0 200 o s)) {h : List Int32} (hh : h.length ≤ 1000) : WY 0 Y0 (wy_X2_write n o 0) h (lgB (yS Y0 200 o) L h) := by
  intro Y g w
  have a := aN_len h L
  obtain ⟨Y1, g1, w1, r1⟩ := WY.num (n := n) (o := 0) (Y0 := Y0) (Nat.le_refl _) (h := h) (by rw [bl0]; omega) (k := L) (by omega) Y g w
  obtain ⟨Y2, g2, w2, r2⟩ := y_lgs (n := n) hL hl hk he L 0 _ (by omega) (by omega) Y1 g1 w1
  refine ⟨Y2, g2, w2, fun Q hQ x1 e1 => ?_⟩
  rw [g.1 201 o (by omega), hl] at e1
  subst e1
  exact r1 _ (r2 Q hQ)
theorem x_lgs {f : Nat → Option Rq} {L : Nat} (hL : L ≤ 100) (hk : K < 2 ^ 31) (he : ∀ s, s < L → EnOK K (f s)) : ∀ d t b h, t + d = L → h.length + 13 * d ≤ 2560 → b + 6 * d < 128000 → Row (X0.2 10) b (encL f t d) → ∀ X, OX 88 89 X0 X → XW 88 89 X h → ∃ X2, OX 88 89 X0 X2 ∧ XW 88 89 X2 (les f t d h) ∧ ∀ Q : Xc → Prop, Q X2 → LFx (fx_X12_writeLog_19 Q) (nI L, nI b, nI t) X := by
  intro d
  induction d with
  | zero =>
    intro t b h ht _ _ _ X g w
    have ht : t = L := by omega
    subst ht
    exact ⟨X, g, w, fun Q hQ R hR => hR _ _ ⟨fun _ => hQ, fun q => absurd (nI_le (Nat.le_refl t) (by omega)) q⟩⟩
  | succ d ih =>
    intro t b h ht hh hb R X g w
    have R : Row (X0.2 10) b (encE (f t) ++ encL f (t + 1) d) := R
    have hc : (nI b).toNatClampNeg = b := nI_clamp (by omega)
    have hx : X.2 10 b = X0.2 10 b := g.2 10 b (by omega)
    cases hq : f t with
    | none =>
      rw [hq] at R
      have R : Row (X0.2 10) b (0 :: encL f (t + 1) d) := R
      obtain ⟨X1, g1, w1, r1⟩ := WX.add (X0 := X0) (h := h) (by omega) 0 X g w
      obtain ⟨X2, g2, w2, r2⟩ := ih (t + 1) (b + 1) (a1 h 0) (by omega) (by rw [a1_len]; omega) (by omega) R.tl X1 g1 w1
      refine ⟨X2, g2, by show XW 88 89 X2 (les f (t + 1) d (le h (f t))); rw [hq]; exact w2, fun Q hQ U hU => hU _ _ ⟨fun q => absurd q (nI_ge (by omega) (by omega)), fun _ => ⟨vp_in_nI (by omega) (by omega), fun x3 e3 x5 e5 => ?_⟩⟩⟩
      have e3 : x3 = 0 := by
        rw [e3]
        show X.2 10 (nI b).toNatClampNeg = 0
        rw [hc, hx]
        exact R.hd
      have e5 : x5 = nI (b + 1) := e5.trans (nI_1 b)
      subst e3; subst e5
      refine r1 _ ⟨fun _ => ?_, fun q => absurd q (by decide)⟩
      unfold bx_X12_writeLog_56
      intro x1 e1
      have e1 : x1 = nI (t + 1) := e1.trans (nI_1 t)
      subst e1
      exact r2 Q hQ U hU
    | some v =>
      rw [hq] at R
      have R : Row (X0.2 10) b ([1] ++ ([v.1, v.2.1, v.2.2.1, v.2.2.2.1, v.2.2.2.2] ++ encL f (t + 1) d)) := R
      have R2 : Row (X0.2 10) (b + 1) ([v.1, v.2.1, v.2.2.1, v.2.2.2.1, v.2.2.2.2] ++ encL f (t + 1) d) := R.rt
      have R3 : Row (X0.2 10) (b + 1 + 5) (encL f (t + 1) d) := R2.rt
      obtain ⟨X1, g1, w1, r1⟩ := WX.add (X0 := X0) (h := h) (by omega) 1 X g w
      obtain ⟨X2, g2, w2, r2⟩ := x_rq (X0 := X0) (h := a1 h 1) (by rw [a1_len]; omega) hk ((he t (by omega)) v hq).2.1 (b := b + 1) (by omega) R2.l X1 g1 w1
      obtain ⟨X3, g3, w3, r3⟩ := ih (t + 1) (b + 1 + 5) (rqW (a1 h 1) v) (by omega) (by have := rqW_len (a1 h 1) v; rw [a1_len] at this; omega) (by omega) R3 X2 g2 w2
      refine ⟨X3, g3, by show XW 88 89 X3 (les f (t + 1) d (le h (f t))); rw [hq]; exact w3, fun Q hQ U hU => hU _ _ ⟨fun q => absurd q (nI_ge (by omega) (by omega)), fun _ => ⟨vp_in_nI (by omega) (by omega), fun x3 e3 x5 e5 => ?_⟩⟩⟩
      have e3 : x3 = 1 := by
        rw [e3]
        show X.2 10 (nI b).toNatClampNeg = 1
        rw [hc, hx]
        exact R.hd
      have e5 : x5 = nI (b + 1) := e5.trans (nI_1 b)
      subst e3; subst e5
      refine r1 _ ⟨fun q => absurd rfl q, fun _ => r2 _ (fun x16 e16 => ?_)⟩
      have e16 : x16 = nI (b + 1 + 5) := e16.trans (nI_add _ 5)
      subst e16
      unfold bx_X12_writeLog_56
      intro x1 e1
      have e1 : x1 = nI (t + 1) := e1.trans (nI_1 t)
      subst e1
      exact r3 Q hQ U hU
theorem x_log {f : Nat → Option Rq} {L : Nat} (hL : L ≤ 100) (hk : K < 2 ^ 31) (he : ∀ s, s < L → EnOK K (f s)) {b : Nat} (hb : b + 602 < 128000) (R : Row (X0.2 10) b (encG f (nI L))) {h : List Int32} (hh : h.length ≤ 1000) : WX X0 (wx_X12_writeLog (nI b)) h (lgB f L h) := by
  intro X g w
  have hc : (nI b).toNatClampNeg = b := nI_clamp (by omega)
  have a := aN_len h L
  have hlL : ln (nI L) = L := nI_clamp (by omega)
  have R2 : Row (X0.2 10) (b + 1) (encL f 0 L) := by
    have := R.tl
    rw [hlL] at this
    exact this
  obtain ⟨X1, g1, w1, r1⟩ := WX.num (X0 := X0) (h := h) (by omega) (k := L) (by omega) X g w
  obtain ⟨X2, g2, w2, r2⟩ := x_lgs hL hk he L 0 (b + 1) _ (by omega) (by omega) (by omega) R2 X1 g1 w1
  refine ⟨X2, g2, w2, fun Q hQ => ⟨vp_in_nI (by omega) (by omega), fun x2 e2 x4 e4 => ?_⟩⟩
  have e2 : x2 = nI L := by
    rw [e2, hc, g.2 10 b (by omega)]
    exact R.hd
  have e4 : x4 = nI (b + 1) := e4.trans (nI_1 b)
  subst e2; subst e4
  exact r1 _ (r2 Q hQ)
end
