section
variable {n K : Nat} {Y Y2 : Yc} {X X2 : Xc} {r : Nat}
/-- a NOTHING behind the log -/
def xNo (X : Xc) (r L : Nat) : Xc := xA (xA X 30 (100 * r + L) 0) 26 r (nI (L + 1))
theorem x_addNothing {L : Nat} (hr : r < 7) (hL : L < 100) (hl : X.2 26 r = nI L) (Q : Xc → Prop) (hQ : Q (xNo X r L)) : wx_X12_addNothing (nI r) X Q := by
  have hcr : (nI r).toNatClampNeg = r := nI_clamp (by omega)
  have hvr : vp_in (nI r) 7 := vp_in_nI (by omega) (by omega)
  unfold wx_X12_addNothing
  rw [hcr]
  refine ⟨hvr, fun x3 e3 => ?_⟩
  rw [hl] at e3
  subst e3
  rw [idx100, nI_clamp (by omega), nar0]
  refine ⟨vp_in_nI (by omega) (by omega), hvr, fun x6 e6 x8 e8 => ⟨hvr, ?_⟩⟩
  have e6 : x6 = nI L := e6.trans hl
  subst e6
  rw [nI_1] at e8
  subst e8
  exact hQ
theorem no_Lg {L : Nat} {Y1 : Yc} {X1 : Xc} (hL : L < 100) (hl : X.2 26 r = nI L) (h : LgS K Y X r) (hY1 : yI Y1 201 r = nI (L + 1)) (hY2 : yI Y1 202 r = yI Y 202 r) (hS : yS Y1 200 r = yS (yAd Y r L none) 200 r)
    (hX1 : X1.2 26 r = nI (L + 1)) (hX2 : X1.2 27 r = X.2 27 r) (hE : ∀ s, s < 100 → xE X1 (100 * r + s) = xE (xNo X r L) (100 * r + s)) : LgS K Y1 X1 r := by
  have hcl : ln (nI (L + 1)) = L + 1 := nI_clamp (by omega)
  have hll : ln (nI L) = L := nI_clamp (by omega)
  unfold LgS
  rw [hX1, hX2, hY1, hY2]
  refine ⟨rfl, h.2.1, ⟨L + 1, by omega, rfl⟩, h.2.2.2.1, fun s hs => ?_⟩
  rw [hcl] at hs
  rw [hE s (by omega), hS]
  by_cases e : s = L
  · subst e
    have : xE (xNo X r s) (100 * r + s) = none := by
      unfold xE xNo
      simp [xAA]
    rw [this]
    refine ⟨?_, fun w ew => by simp at ew⟩
    unfold yAd
    rw [ySI, ySS, if_pos ⟨rfl, rfl, rfl⟩]
  · have : xE (xNo X r L) (100 * r + s) = xE X (100 * r + s) := by
      unfold xE xNo
      simp [xAA, e]
    rw [this]
    have h2 := h.2.2.2.2 s (by rw [hl, hll]; omega)
    refine ⟨?_, h2.2⟩
    unfold yAd
    rw [ySI, ySS, if_neg (by omega)]
    exact h2.1
theorem y_isFull {L : Nat} (hL : L ≤ 100) (hl : yI Y 201 r = nI L) (Q : Int32 → Yc → Prop) (hQ : Q (if L < 100 then 0 else 1) Y) : wy_X2_isFull n r Y Q := by
  unfold wy_X2_isFull
  intro x1 e1
  rw [hl] at e1
  subst e1
  refine ⟨fun h => ?_, fun h => ?_⟩
  · rw [nI_lti (by omega) (by omega)] at h
    rw [if_pos h] at hQ
    exact hQ
  · rw [nI_lti (by omega) (by omega)] at h
    rw [if_neg h] at hQ
    exact hQ
/-- behind what could be taken -/
theorem tail_sim (S : Sim n K Y X) (hr : r < n) (hs : X.2 23 r ≠ 2) :
    ∃ Y2 X2, (∀ Q : Yc → Prop, Q Y2 → by_X8_takeHeld_75 n r Q (lds n X r) Y) ∧ (∀ Q : Xc → Prop, Q X2 → bx_X12_takes_67 Q (nI r) X) ∧ Sim n K Y2 X2 ∧ Up X X2 := by
  have hn := S.sc.n7
  have hk1 := S.sc.k1
  have hcr : (nI r).toNatClampNeg = r := nI_clamp (by omega)
  have hvr : vp_in (nI r) 7 := vp_in_nI (by omega) (by omega)
  obtain ⟨c, hc8, hc⟩ := (S.hd hr).2.1
  have h502 : yI Y 502 r = nI c := (S.hd hr).1.trans hc
  obtain ⟨L, hL, hl⟩ := (S.lg hr).2.2.1
  have h201 : yI Y 201 r = nI L := (S.lg hr).1.trans hl
  have R := S.rp hr
  by_cases hc0 : c = 0
  · subst hc0
    refine ⟨Y, X, fun Q hQ => ?_, fun Q hQ => ?_, S, Up.rf⟩
    · unfold by_X8_takeHeld_75
      intro x3 e3
      rw [h502] at e3; subst e3
      exact ⟨fun _ => hQ, fun h => absurd rfl h⟩
    · unfold bx_X12_takes_67
      rw [hcr]
      refine ⟨hvr, fun x2 e2 => ?_⟩
      rw [hc] at e2; subst e2
      exact ⟨fun _ => hQ, fun h => absurd rfl h⟩
  · have hcn : nI c ≠ 0 := nI_ne0 (by omega) (by omega)
    by_cases hL1 : L = 100
    · subst hL1
      refine ⟨Y, X, fun Q hQ => ?_, fun Q hQ => ?_, S, Up.rf⟩
      · unfold by_X8_takeHeld_75
        intro x3 e3
        rw [h502] at e3; subst e3
        refine ⟨fun h => absurd h hcn, fun _ => y_isFull (by omega) h201 _ ?_⟩
        rw [if_neg (by omega)]
        exact ⟨fun h => absurd h (by decide), fun _ => hQ⟩
      · unfold bx_X12_takes_67
        rw [hcr]
        refine ⟨hvr, fun x2 e2 => ?_⟩
        rw [hc] at e2; subst e2
        refine ⟨fun h => absurd h hcn, fun _ => ⟨hvr, fun x6 e6 => ?_⟩⟩
        rw [hl] at e6; subst e6
        exact ⟨fun h => absurd rfl h, fun _ => hQ⟩
    · have hL2 : L < 100 := by omega
      have S1 := sim_hour S hr (c := 812) (k := 58) (by omega) (X.1 4)
      have hlds : lds n (xA X 58 r (X.1 4)) r = lds n X r := rfl
      have yg : ∀ Q : Yc → Prop, ((lds n X r = 0 → (wy_X4_leaderOf n (yJ Y 805 r) (uI Y 812 r (X.1 4)) (fun (x32 : Int32) (Y29 : Yc) => (∀ y35 : Int64, y35 = yJ Y29 805 r → (∀ x39 : Int32, x39 = yI Y29 201 r → (wy_X4_send n (1 : Int32) (nI r) x32 y35 (x39 + (1 : Int32)) Y29 (fun (o45 : Nat) (Y42 : Yc) => Q Y42))))))) ∧ (¬ lds n X r = 0 → wy_X8_sendOthers n r 3 (nI (L + 1)) (uI (uI (yAd (uI Y 812 r (X.1 4)) r L none) 804 r 1) 503 r 0) Q)) → by_X8_takeHeld_75 n r Q (lds n X r) Y := fun Q h => by
        unfold by_X8_takeHeld_75
        intro x3 e3
        rw [h502] at e3; subst e3
        refine ⟨fun h => absurd h hcn, fun _ => y_isFull (by omega) h201 _ ?_⟩
        rw [if_pos hL2]
        refine ⟨fun _ x18 e18 => ?_, fun h => absurd rfl h⟩
        rw [S.sc.tim] at e18
        subst e18
        refine ⟨fun q x23 e23 y26 e26 => ?_, fun q => y_add hL2 (by rw [yII, if_neg (by omega)]; exact h201) _ (fun x63 e63 => ?_)⟩
        · have e23 : x23 = nI r := e23.trans R.num
          have e26 : y26 = yJ Y 805 r := e26
          subst e23; subst e26
          exact h.1 q
        · have e63 : x63 = nI (L + 1) := by
            rw [e63, yII, if_neg (by omega), yII, if_neg (by omega)]
            unfold yAd
            rw [yII, if_pos ⟨rfl, rfl⟩]
          subst e63
          exact h.2 q
      have xg : ∀ Q : Xc → Prop, ((lds n X r = 0 → (wx_X12_leader (nI r) (xA X 58 r (X.1 4)) (fun (x17 : Int32) (X19 : Xc) => (vp_in (nI r) 7 ∧ (∀ x22 : Int32, x22 = X19.2 26 r → (wx_X12_tell (1 : Int32) (nI r) x17 (x22 + (1 : Int32)) X19 (fun (X26 : Xc) => Q X26))))))) ∧ (¬ lds n X r = 0 → wx_X12_tellOthers 3 (nI r) (nI (L + 1)) (xA (xA (xNo (xA X 58 r (X.1 4)) r L) 23 r 1) 43 r 0) Q)) → bx_X12_takes_67 Q (nI r) X := fun Q h => by
        unfold bx_X12_takes_67
        rw [hcr]
        refine ⟨hvr, fun x2 e2 => ?_⟩
        rw [hc] at e2; subst e2
        refine ⟨fun h => absurd h hcn, fun _ => ⟨hvr, fun x6 e6 => ?_⟩⟩
        rw [hl] at e6; subst e6
        refine ⟨fun _ x10 e10 => ⟨hvr, ?_⟩, fun q => absurd ((nI_eq (a := L) (b := 100) (by omega) (by omega)).mp q) hL1⟩
        subst e10
        refine x_leads S1 hr _ ?_
        rw [hlds]
        refine ⟨h.1, fun q => x_addNothing (by omega) hL2 (by exact hl) _ ⟨hvr, hvr, hvr, fun x35 e35 => ?_⟩⟩
        have e35 : x35 = nI (L + 1) := by
          rw [e35, xAA, if_neg (by omega), xAA, if_neg (by omega)]
          unfold xNo
          rw [xAA, if_pos ⟨rfl, rfl⟩]
        subst e35
        exact h.2 q
      rcases lds_01 (n := n) (X := X) (r := r) with hd | hd
      · have hlt := ldr_lt S1 r
        obtain ⟨Y2, X2, ry, rx, s2, f2⟩ := tell_sim S1 hr hlt (k := 1) (s := nI (L + 1)) (v := nI (L + 1)) (by unfold PlK; simp) ⟨L + 1, by omega, rfl⟩ (by simp)
        refine ⟨Y2, X2, fun Q hQ => yg Q ⟨fun _ => ?_, fun h => absurd hd h⟩, fun Q hQ => xg Q ⟨fun _ => ?_, fun h => absurd hd h⟩, s2, f2.up⟩
        · refine y_leader S1 hr _ (fun y35 e35 x39 e39 => ?_)
          have e39 : x39 = nI L := e39.trans h201
          subst e35; subst e39
          rw [nI_1]
          exact ry _ hQ
        · refine x_leader S1 hr _ ⟨hvr, fun x22 e22 => ?_⟩
          have e22 : x22 = nI L := e22.trans hl
          subst e22
          rw [nI_1]
          exact rx _ hQ
      · have S2 : Sim n K (uI (uI (yAd (uI Y 812 r (X.1 4)) r L none) 804 r 1) 503 r 0) (xA (xA (xNo (xA X 58 r (X.1 4)) r L) 23 r 1) 43 r 0) := by
          have gY : RgY r (uI Y 812 r (X.1 4)) (uI (uI (yAd (uI Y 812 r (X.1 4)) r L none) 804 r 1) 503 r 0) := by
            unfold yAd
            exact (((RgY.rf.wS L (by omega) _).wI (by omega) _).wI (by omega) _).wI (by omega) _
          have gX : RgX r (xA X 58 r (X.1 4)) (xA (xA (xNo (xA X 58 r (X.1 4)) r L) 23 r 1) 43 r 0) := by
            unfold xNo
            exact (((RgX.rf.wA (by omega) _).wA (by omega) _).wA (by omega) _).wA (by omega) _
          refine sim_rep S1 hr gY gX ⟨?_, ?_, ?_, ?_, ?_⟩
          · obtain ⟨a1, a2, a3, a4, a5, a6, a7, a8, a9, a10, a11, a12, a13, a14, a15⟩ := S1.rp hr
            refine ⟨a1, a2, ?_, a4, a5, a6, a7, a8, a9, a10, a11, a12, a13, ?_, a15⟩
            · rw [yII, if_neg (by omega), yII, if_pos ⟨rfl, rfl⟩, xAA, if_neg (by omega), xAA, if_pos ⟨rfl, rfl⟩]
            · rw [xAA, if_neg (by omega), xAA, if_pos ⟨rfl, rfl⟩]
              exact ⟨1, by omega, rfl⟩
          · refine no_Lg hL2 (X := xA X 58 r (X.1 4)) (Y := uI Y 812 r (X.1 4)) hl (S1.lg hr) ?_ rfl rfl ?_ rfl (fun s _ => rfl)
            · rw [yII, if_neg (by omega), yII, if_neg (by omega)]
              unfold yAd
              rw [yII, if_pos ⟨rfl, rfl⟩]
            · rw [xAA, if_neg (by omega), xAA, if_neg (by omega)]
              unfold xNo
              rw [xAA, if_pos ⟨rfl, rfl⟩]
          · exact S1.hd hr
          · obtain ⟨a1, a2, a3, a4, a5⟩ := S1.ct hr
            refine ⟨?_, a2, a3, ?_, a5⟩
            · rw [yII, if_pos ⟨rfl, rfl⟩, xAA, if_pos ⟨rfl, rfl⟩]
            · rw [xAA, if_pos ⟨rfl, rfl⟩]
              exact ⟨0, by omega, rfl⟩
          · intro q
            rw [xAA, if_neg (by omega), xAA, if_pos ⟨rfl, rfl⟩] at q
            exact absurd q (by decide)
        obtain ⟨Y2, X2, ry, rx, s2, f2⟩ := others_sim S2 hr (k := 3) (s := nI (L + 1)) (v := nI (L + 1)) (by unfold PlK; simp) ⟨L + 1, by omega, rfl⟩ (by simp)
        exact ⟨Y2, X2, fun Q hQ => yg Q ⟨fun h => by rw [hd] at h; exact absurd h (by decide), fun _ => ry Q hQ⟩, fun Q hQ => xg Q ⟨fun h => by rw [hd] at h; exact absurd h (by decide), fun _ => rx Q hQ⟩, s2, f2.up⟩
theorem x_takeOne {i c L : Nat} (hr : r < 7) (hi : i < c) (hc : c ≤ 9) (hX : X.2 36 r = nI c) (hL : L < 100) (hl : X.2 26 r = nI L) (Q : Xc → Prop)
    (h : (vp_in (nI (100 * r + L)) 700 ∧ (∀ x37 : Int32, x37 = (xRl (xA (xWr X (100 * r + L) (xH X (16 * r + i))) 26 r (nI (L + 1))) r i c).2 31 (nI (100 * r + L)).toNatClampNeg → (wx_X12_leads (nI r) (xRl (xA (xWr X (100 * r + L) (xH X (16 * r + i))) 26 r (nI (L + 1))) r i c) (fun (x39 : Int32) (X41 : Xc) => ((x39 = 0 → bx_X12_takeOne_120 Q (nI r) (nI (100 * r + L)) x37 x39 X41) ∧ (¬ x39 = 0 → (wx_X12_execute (nI r) X41 (fun (X46 : Xc) => bx_X12_takeOne_120 Q (nI r) (nI (100 * r + L)) x37 x39 X46))))))))) :
    wx_X12_takeOne (nI r) (nI (16 * r + i)) X Q := by
  have hcr : (nI r).toNatClampNeg = r := nI_clamp (by omega)
  have hvr : vp_in (nI r) 7 := vp_in_nI (by omega) (by omega)
  have e1 : (nI (16 * r + i)).toNatClampNeg = 16 * r + i := nI_clamp (by omega)
  have v1 : vp_in (nI (16 * r + i)) 112 := vp_in_nI (by omega) (by omega)
  have e2 : (nI (100 * r + L)).toNatClampNeg = 100 * r + L := nI_clamp (by omega)
  have v2 : vp_in (nI (100 * r + L)) 700 := vp_in_nI (by omega) (by omega)
  unfold wx_X12_takeOne
  rw [hcr, e1]
  refine ⟨hvr, fun x2 h2 x4 h4 => ?_⟩
  rw [hl] at h2
  subst h2
  rw [idx100] at h4
  subst h4
  rw [e2, nar1]
  rw [e2] at h
  refine ⟨v2, v1, fun x9 h9 => ⟨v2, v1, fun x13 h13 => ⟨v2, v1, fun x17 h17 => ⟨v2, v1, fun x21 h21 => ⟨v2, v1, fun x25 h25 => ⟨v2, hvr, fun x28 h28 x30 h30 => ⟨hvr, ?_⟩⟩⟩⟩⟩⟩⟩
  subst h9; subst h13; subst h17; subst h21; subst h25
  have h28 : x28 = nI L := h28.trans hl
  subst h28
  rw [nI_1] at h30
  subst h30
  exact x_drop (X := xA (xWr X (100 * r + L) (xH X (16 * r + i))) 26 r (nI (L + 1))) hr hi hc (by rw [xAA, if_neg (by omega), xWr_k (by omega)]; exact hX) _ h
theorem takesLoop_sim (hr : r < n) (hn : n ≤ 7) (g : Int32) (b : Int32) : ∀ d L t Y X, L + d = 100 → t ≤ L → Sim9 n K r Y X → X.2 23 r ≠ 2 → X.2 26 r = nI L → X.2 27 r = b → lds n X r = g →
    (Sm 8 (X.2 36 r) ∨ (L < 100 ∧ ∃ i c, X.2 36 r = nI c ∧ i < c ∧ c ≤ 9 ∧ X.2 37 (16 * r + i) = nI L + 1 - b)) →
    ∃ Y2 X2 x16, (∀ Q : Yc → Prop, Q Y2 → LFy (fy_X8_takeHeld_7 n r Q) (g, nI t) Y) ∧ (∀ P : Int32 → Xc → Prop, P x16 X → wx_X12_heldAt (nI r) (nI L + 1 - b) X P) ∧ (∀ Q : Xc → Prop, Q X2 → LFx (fx_X12_takes_21 Q) (nI r, x16) X) ∧ Sim n K Y2 X2 ∧ Up X X2 := by
  have hcr : (nI r).toNatClampNeg = r := nI_clamp (by omega)
  have hvr : vp_in (nI r) 7 := vp_in_nI (by omega) (by omega)
  intro d
  induction d with
  | zero =>
    intro L t Y X hL ht S hs hl hb hg hpre
    have hL : L = 100 := by omega
    subst hL
    have h8 : Sm 8 (X.2 36 r) := by
      rcases hpre with h | h
      · exact h
      · omega
    have S0 := S.sim hr h8
    obtain ⟨c, hc8, hc⟩ := h8
    obtain ⟨Y2, X2, ry, rx, s2, u2⟩ := tail_sim S0 hr hs
    have h201 : yI Y 201 r = nI 100 := (S0.lg hr).1.trans hl
    have yr : ∀ Q : Yc → Prop, Q Y2 → LFy (fy_X8_takeHeld_7 n r Q) (g, nI t) Y := fun Q hQ R hR => hR _ _ ⟨fun _ => by rw [← hg]; exact ry Q hQ, fun _ => by
      refine y_isFull (by omega) h201 _ ?_
      rw [if_neg (by omega)]
      exact ⟨fun _ => by rw [← hg]; exact ry Q hQ, fun h => absurd h (by decide)⟩⟩
    have tl : ∀ x16 (Q : Xc → Prop), Q X2 → LFx (fx_X12_takes_21 Q) (nI r, x16) X := fun x16 Q hQ R hR => hR _ _ ⟨fun _ => rx Q hQ, fun _ => ⟨hvr, fun x3 e3 => by
      have e3 : x3 = nI 100 := by rw [e3]; show X.2 26 (nI r).toNatClampNeg = _; rw [hcr]; exact hl
      subst e3
      exact ⟨fun _ => rx Q hQ, fun h => absurd (nI_le (Nat.le_refl 100) (by omega)) h⟩⟩⟩
    have H9 : HdS 9 K Y X r := ⟨(S0.hd hr).1, (S0.hd hr).2.1.mono (by omega), (S0.hd hr).2.2⟩
    rcases held_find (n := n) H9 (by omega) hc (by omega) (nI 100 + 1 - b) with ⟨i, hi, hx, fy, fx⟩ | ⟨hx, fy, fx⟩
    · exact ⟨Y2, X2, _, yr, fx, tl _, s2, u2⟩
    · exact ⟨Y2, X2, _, yr, fx, tl _, s2, u2⟩
  | succ d ih =>
    intro L t Y X hL ht S hs hl hb hg hpre
    have hL2 : L < 100 := by omega
    have H9 : HdS 9 K Y X r := by obtain ⟨_, _, _, _, _, _, _, h, _⟩ := S; exact h
    have h201 : yI Y 201 r = nI L := by obtain ⟨_, _, _, _, _, _, h, _⟩ := S; exact h.1.trans hl
    have h202 : yI Y 202 r = b := by obtain ⟨_, _, _, _, _, _, h, _⟩ := S; exact h.2.1.trans hb
    obtain ⟨c, hc9, hc⟩ := H9.2.1
    have h502 : yI Y 502 r = nI c := H9.1.trans hc
    have yg : ∀ (Q : Yc → Prop) (R : Int32 × Int32 → Yc → Prop), (wy_X5_release n r (nI L + 1 - b) Y (fun (q25 : Option Rq) (Y22 : Yc) => ((q25 = none → by_X8_takeHeld_75 n r Q g Y22) ∧ (∀ w30 : Rq, q25 = some w30 → (wy_X2_add n r q25 Y22 (fun (Y35 : Yc) => (wy_X8_sendReply n r q25 g Y35 (fun (Y42 : Yc) => (∀ x48 : Int32, x48 = nI t + (1 : Int32) → R (g, x48) Y42))))))))) → fy_X8_takeHeld_7 n r Q R (g, nI t) Y := fun Q R h => by
      refine ⟨fun h => absurd h (nI_ge (a := t) (b := 100) (by omega) (by omega)), fun _ => y_isFull (by omega) h201 _ ?_⟩
      rw [if_pos hL2]
      refine ⟨fun h => absurd rfl h, fun _ x15 e15 x18 e18 => ?_⟩
      rw [h201] at e15
      rw [h202] at e18
      subst e15; subst e18
      exact h
    rcases held_find (n := n) H9 (by omega) hc (by omega) (nI L + 1 - b) with ⟨i, hi, hx, fy, fx⟩ | ⟨hx, fy, fx⟩
    · obtain ⟨S1, gY1, gX1, hw, hwk, k26, kE, kk⟩ := take_core S hr hn hi hc9 hc hL2 hl hs
      have hg1 : lds n (xRl (xA (xWr X (100 * r + L) (xH X (16 * r + i))) 26 r (nI (L + 1))) r i c) r = g := by rw [← hg]; unfold lds ldr; rw [kk 21 (by omega)]
      obtain ⟨Y3, X3, ry, rx, s3, u3, k3⟩ := reply_sim S1 hr hL2 k26 kE hwk (by rw [kk 23 (by omega)]; exact hs)
      obtain ⟨Y4, X4, x4, gy, gp, gx, s4, u4⟩ := ih (L + 1) (t + 1) Y3 X3 (by omega) (by omega) (s3.s9 hr) (by rw [k3 23 (by omega) (by omega), kk 23 (by omega)]; exact hs) (by rw [k3 26 (by omega) (by omega)]; exact k26) (by rw [k3 27 (by omega) (by omega), kk 27 (by omega)]; exact hb)
        (by rw [← hg1]; unfold lds ldr; rw [k3 21 (by omega) (by omega)]) (Or.inl (s3.hd hr).2.1)
      refine ⟨Y4, X4, _, fun Q hQ R hR => hR _ _ (yg Q R ?_), fx, fun Q hQ R hR => hR _ _ ⟨fun h => absurd h (nI_ne1 (by omega)), fun _ => ⟨hvr, fun x3 e3 => ?_⟩⟩, s4, gX1.up.trans (u3.trans u4)⟩
      · refine y_release fy hi hc9 h502 _ ⟨fun h => by rw [hw] at h; simp at h, fun w30 ew => ?_⟩
        refine y_add hL2 (by unfold yRl; rw [yIS, yIA, yII, if_neg (by omega)]; exact h201) _ ?_
        rw [hw]
        rw [hg1, hw] at ry
        refine ry _ (fun x48 e48 => ?_)
        rw [nI_1] at e48
        subst e48
        exact gy Q hQ R hR
      · have e3 : x3 = nI L := by rw [e3]; show X.2 26 (nI r).toNatClampNeg = _; rw [hcr]; exact hl
        subst e3
        refine ⟨fun h => absurd h (nI_ge (a := L) (b := 100) (by omega) (by omega)), fun _ => ?_⟩
        refine x_takeOne (by omega) hi hc9 hc hL2 hl _ (rx _ ⟨hvr, fun x11 e11 => ⟨hvr, fun x14 e14 => ?_⟩⟩)
        have e11 : x11 = nI (L + 1) := by rw [e11]; show X3.2 26 (nI r).toNatClampNeg = _; rw [hcr, k3 26 (by omega) (by omega)]; exact k26
        have e14 : x14 = b := by rw [e14]; show X3.2 27 (nI r).toNatClampNeg = _; rw [hcr, k3 27 (by omega) (by omega), kk 27 (by omega)]; exact hb
        subst e11; subst e14
        exact gp _ (gx Q hQ R hR)
    · have h8 : Sm 8 (X.2 36 r) := by
        rcases hpre with h | ⟨_, i, c', h1, h2, h3, h4⟩
        · exact h
        · have : c = c' := (nI_eq (by omega) (by omega)).mp (hc.symm.trans h1)
          subst this
          exact absurd h4 (hx i h2)
      obtain ⟨Y2, X2, ry, rx, s2, u2⟩ := tail_sim (S.sim hr h8) hr hs
      refine ⟨Y2, X2, _, fun Q hQ R hR => hR _ _ (yg Q R ?_), fx, fun Q hQ R hR => hR _ _ ⟨fun _ => rx Q hQ, fun h => absurd rfl h⟩, s2, u2⟩
      unfold wy_X5_release
      refine fy _ ⟨fun _ => ⟨fun _ => by rw [← hg]; exact ry Q hQ, fun w h => by simp at h⟩, fun h => absurd neg1_lt h⟩
/-- what can be taken is taken -/
theorem takes_sim (S : Sim9 n K r Y X) (hr : r < n) (hn : n ≤ 7) (hs : X.2 23 r ≠ 2) (hS : Sim n K Y X ∨ (∃ L, L < 100 ∧ X.2 26 r = nI L ∧ ∃ i c, X.2 36 r = nI c ∧ i < c ∧ c ≤ 9 ∧ X.2 37 (16 * r + i) = nI L + 1 - X.2 27 r)) (hld : ∀ Q : Int32 → Yc → Prop, Q (lds n X r) Y → wy_X8_leads n r Y Q) :
    ∃ Y2 X2, (∀ Q : Yc → Prop, Q Y2 → wy_X8_takeHeld n r Y Q) ∧ (∀ Q : Xc → Prop, Q X2 → wx_X12_takes (nI r) X Q) ∧ Sim n K Y2 X2 ∧ Up X X2 := by
  have hcr : (nI r).toNatClampNeg = r := nI_clamp (by omega)
  have hvr : vp_in (nI r) 7 := vp_in_nI (by omega) (by omega)
  obtain ⟨L, hL, hl⟩ : ∃ L, L ≤ 100 ∧ X.2 26 r = nI L := by obtain ⟨_, _, _, _, _, _, h, _⟩ := S; exact h.2.2.1
  obtain ⟨Y2, X2, x16, ry, rp, rx, s2, u2⟩ := takesLoop_sim hr hn (lds n X r) (X.2 27 r) (100 - L) L 0 Y X (by omega) (by omega) S hs hl rfl rfl (by
    rcases hS with h | ⟨L', h1, h2, i, c, h3⟩
    · exact Or.inl (h.hd hr).2.1
    · have : L = L' := (nI_eq (by omega) (by omega)).mp (hl.symm.trans h2)
      subst this
      exact Or.inr ⟨h1, i, c, h3⟩)
  refine ⟨Y2, X2, fun Q hQ => ?_, fun Q hQ => ?_, s2, u2⟩
  · unfold wy_X8_takeHeld
    exact hld _ (ry Q hQ)
  · unfold wx_X12_takes
    rw [hcr]
    refine ⟨hvr, fun x2 e2 => ⟨hvr, fun x5 e5 => ?_⟩⟩
    rw [hl] at e2
    subst e2; subst e5
    exact rp _ (rx Q hQ)
theorem takes_sim' (S : Sim n K Y X) (hr : r < n) (hs : X.2 23 r ≠ 2) :
    ∃ Y2 X2, (∀ Q : Yc → Prop, Q Y2 → wy_X8_takeHeld n r Y Q) ∧ (∀ Q : Xc → Prop, Q X2 → wx_X12_takes (nI r) X Q) ∧ Sim n K Y2 X2 ∧ Up X X2 :=
  takes_sim (S.s9 hr) hr S.sc.n7 hs (Or.inl S) (fun Q hQ => y_leads S hr Q hQ)
end
