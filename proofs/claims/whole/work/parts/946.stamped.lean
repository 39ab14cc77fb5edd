section
variable {n K : Nat} {Y Y2 : Yc} {X X2 : Xc} {r : Nat}
theorem nI_lei {a b : Nat} (ha : a < 2 ^ 31) (hb : b < 2 ^ 31) : nI a ≤ nI b ↔ a ≤ b := by
  rw [Int32.le_iff_toInt_le, nI_toInt ha, nI_toInt hb]
  omega
theorem Sim9.sc (S : Sim9 n K r Y X) : ScS n K Y X := by
  obtain ⟨Y0, X0, S0, gY, gX, _⟩ := S
  exact sc_Sc (fun c h => gY.1 c 0 (by omega) (by omega) (by omega)) (fun k h => gX.1 k (by omega) (by omega) (by omega) (by omega)) S0.sc
theorem Sim9.rp (S : Sim9 n K r Y X) : RpS n K Y X r := by
  obtain ⟨Y0, X0, S0, gY, gX, h, _⟩ := S
  exact h
theorem y_leads9 (S : Sim9 n K r Y X) (hr : r < n) (Q : Int32 → Yc → Prop) (hQ : Q (lds n X r) Y) : wy_X8_leads n r Y Q := by
  have hn := S.sc.n7
  have hn3 := S.sc.n3
  have hk2 := S.sc.k2
  have hl := S.rp.ldK.ln (by omega)
  obtain ⟨e, he, ee⟩ := S.rp.epK
  have hlt : ldr n X r < n := Nat.mod_lt _ (by omega)
  unfold wy_X8_leads
  intro y2 e2
  rw [S.rp.vie, hl.2, ee] at e2
  subst e2
  refine y_leaderOf S.sc hl.1 _ (fun x12 e12 => ?_)
  rw [S.rp.num] at e12
  subst e12
  refine ⟨fun h => ?_, fun h => ?_⟩
  · have : ldr n X r ≠ r := fun q => h (by show nI (ldr n X r) = nI r; rw [q])
    unfold lds at hQ; rw [if_neg this] at hQ; exact hQ
  · have : ldr n X r = r := (nI_eq (by omega) (by omega)).mp h
    unfold lds at hQ; rw [if_pos this] at hQ; exact hQ
theorem Han.at {o : Nat} {l : List Int32} (H : Han n K Y X o l) {l' : List Int32} (h : encM Y o = l') {j : Nat} (hj : j < l'.length) : X.2 15 j = l'.getD j 0 := by
  obtain ⟨_, h2, _, h4, _⟩ := H
  have := h4 j (by rw [← h2, h]; exact hj)
  rw [Nat.zero_add] at this
  rw [this, ← h2, h]
theorem v640 {j : Nat} (h : j < 640) : vp_in (nI j) 640 := vp_in_nI h (by omega)
theorem stamped_hear (S : Sim n K Y X) (hr : r < n) {o : Nat} {l : List Int32} (H : Han n K Y X o l) (hk : yI Y 301 o = 0) :
    ∃ Y2 X2, (∀ Q : Yc → Prop, Q Y2 → wy_X8_hearStamped n r o Y Q) ∧ (∀ Q : Xc → Prop, Q X2 → wx_X12_getsStamped (nI r) X Q) ∧ Sim n K Y2 X2 ∧ Up X X2 := by
  have hn := S.sc.n7
  have hk2 := S.sc.k2
  have hcr : (nI r).toNatClampNeg = r := nI_clamp (by omega)
  have hvr : vp_in (nI r) 7 := vp_in_nI (by omega) (by omega)
  have R := S.rp hr
  obtain ⟨m1, m2, m3, ⟨ml, me, hml, hme, m4⟩, m5, m6, m7, _⟩ := H.2.2.1
  rw [if_pos hk] at m2
  obtain ⟨w, hw, hwk⟩ := m7 (Or.inl hk)
  obtain ⟨rl, hrl, erl⟩ := R.ldK
  obtain ⟨re, hre, ere⟩ := R.epK
  have en : encM Y o = [0, 255, yI Y 303 o, nI me, yI Y 306 o, w.1, w.2.1, w.2.2.1, w.2.2.2.1, w.2.2.2.2] := by
    unfold encM
    rw [hk, m2, m4, hw, vw_sess]
    simp [rqL]
  have a3 : X.2 15 3 = nI me := H.at en (j := 3) (by simp)
  have a4 : X.2 15 4 = yI Y 306 o := H.at en (j := 4) (by simp)
  obtain ⟨c, hc8, hc⟩ := (S.hd hr).2.1
  have h502 : yI Y 502 r = nI c := (S.hd hr).1.trans hc
  -- the class, the reference
  have yg : ∀ Q : Yc → Prop, ((nI me ≤ nI re → ((¬ nI me = nI re → Q Y) ∧ (nI me = nI re → ((X.2 23 r = 2 → Q Y) ∧ (¬ X.2 23 r = 2 → ((X.2 27 r + yI Y 306 o ≤ X.2 26 r → Q Y) ∧ (¬ X.2 27 r + yI Y 306 o ≤ X.2 26 r → ((8 ≤ nI c → Q Y) ∧ (¬ 8 ≤ nI c → wy_X5_find n r (yI Y 306 o) Y (fun (x56 : Int32) (Y53 : Yc) => ((¬ x56 = (-1 : Int32) → by_X8_hearStamped_107 n r Q o Y53) ∧ (x56 = (-1 : Int32) → by_X8_hearStamped_108 n r Q o (1 : Int32) Y53))))))))))) ) ∧ (¬ nI me ≤ nI re → wy_X8_turn n r (vw (nI rl) (nI me)) Y Q)) → wy_X8_hearStamped n r o Y Q := fun Q h => by
    have q7 : Q Y → by_X8_hearStamped_107 n r Q o Y := fun h => by
      unfold by_X8_hearStamped_107 by_X8_hearStamped_108
      exact ⟨fun _ => h, fun h => absurd rfl h⟩
    unfold wy_X8_hearStamped wy_X11_sessionOf wy_X11_leadOf wy_X11_viewOf
    intro y2 e2
    rw [m4] at e2
    subst e2
    intro y11 e11
    rw [R.vie, erl, ere] at e11
    subst e11
    rw [vw_sess, vw_sess]
    refine ⟨fun a y21 e21 => ?_, fun a y60 e60 => ?_⟩
    · rw [R.vie, erl, ere] at e21
      subst e21
      rw [vw_sess]
      refine ⟨fun b => q7 ((h.1 a).1 b), fun b x31 e31 => ?_⟩
      rw [R.sta] at e31
      subst e31
      refine ⟨fun d => q7 (((h.1 a).2 b).1 d), fun d x36 e36 x38 e38 x41 e41 => ?_⟩
      rw [(S.lg hr).2.1] at e36
      rw [(S.lg hr).1] at e41
      subst e36; subst e38; subst e41
      refine ⟨fun f => q7 ((((h.1 a).2 b).2 d).1 f), fun f x46 e46 => ?_⟩
      rw [h502] at e46
      subst e46
      refine ⟨fun g => q7 (((((h.1 a).2 b).2 d).2 f).1 g), fun g x50 e50 => ?_⟩
      subst e50
      exact ((((h.1 a).2 b).2 d).2 f).2 g
    · rw [R.vie, erl, ere] at e60
      subst e60
      rw [vw_lead]
      exact h.2 a
  have xg : ∀ Q : Xc → Prop, ((nI me ≤ nI re → ((nI me < nI re → Q X) ∧ (¬ nI me < nI re → ((X.2 23 r = 2 → Q X) ∧ (¬ X.2 23 r = 2 → ((X.2 27 r + yI Y 306 o ≤ X.2 26 r → Q X) ∧ (¬ X.2 27 r + yI Y 306 o ≤ X.2 26 r → (wx_X12_heldAt (nI r) (yI Y 306 o) X (fun (x26 : Int32) (X28 : Xc) => ((¬ x26 = (-1 : Int32) → Q X28) ∧ (x26 = (-1 : Int32) → (vp_in (nI r) 7 ∧ (∀ x32 : Int32, x32 = X28.2 36 r → ((x32 < (8 : Int32) → (wx_X12_hold (nI r) (yI Y 306 o) (5 : Int32) X28 (fun (X37 : Xc) => (vp_in (nI r) 7 ∧ (∀ x40 : Int32, x40 = X37.2 23 r → ((¬ x40 = 0 → Q X37) ∧ (x40 = 0 → (wx_X12_takes (nI r) X37 (fun (X45 : Xc) => Q X45))))))))) ∧ (¬ x32 < (8 : Int32) → Q X28)))))))))))))) ) ∧ (¬ nI me ≤ nI re → wx_X12_turnsTo (nI r) (nI rl) (nI me) X Q)) → wx_X12_getsStamped (nI r) X Q := fun Q h => by
    unfold wx_X12_getsStamped
    rw [hcr]
    refine ⟨v640 (j := 3) (by omega), fun x2 e2 => ⟨v640 (j := 4) (by omega), fun x5 e5 => ⟨hvr, fun x8 e8 => ?_⟩⟩⟩
    have e2 : x2 = nI me := e2.trans a3
    have e5 : x5 = yI Y 306 o := e5.trans a4
    rw [ere] at e8
    subst e2; subst e5; subst e8
    refine ⟨fun a => ⟨hvr, fun x12 e12 => ?_⟩, fun a => ⟨hvr, fun x48 e48 => ?_⟩⟩
    · rw [ere] at e12
      subst e12
      refine ⟨(h.1 a).1, fun b => ⟨hvr, fun x16 e16 => ?_⟩⟩
      subst e16
      refine ⟨((h.1 a).2 b).1, fun d => ⟨hvr, fun x20 e20 => ⟨hvr, fun x23 e23 => ?_⟩⟩⟩
      subst e20; subst e23
      exact ((h.1 a).2 b).2 d
    · rw [erl] at e48
      subst e48
      exact h.2 a
  by_cases hA : nI me ≤ nI re
  · by_cases hB : nI me = nI re
    · have hB2 : ¬ nI me < nI re := by rw [hB]; exact fun h => absurd ((nI_lti (by omega) (by omega)).mp h) (by omega)
      by_cases hD : X.2 23 r = 2
      · exact ⟨Y, X, fun Q hQ => yg Q ⟨fun _ => ⟨fun _ => hQ, fun _ => ⟨fun _ => hQ, fun h => absurd hD h⟩⟩, fun h => absurd hA h⟩, fun Q hQ => xg Q ⟨fun _ => ⟨fun _ => hQ, fun _ => ⟨fun _ => hQ, fun h => absurd hD h⟩⟩, fun h => absurd hA h⟩, S, Up.rf⟩
      · by_cases hF : X.2 27 r + yI Y 306 o ≤ X.2 26 r
        · exact ⟨Y, X, fun Q hQ => yg Q ⟨fun _ => ⟨fun _ => hQ, fun _ => ⟨fun _ => hQ, fun _ => ⟨fun _ => hQ, fun h => absurd hF h⟩⟩⟩, fun h => absurd hA h⟩, fun Q hQ => xg Q ⟨fun _ => ⟨fun _ => hQ, fun _ => ⟨fun _ => hQ, fun _ => ⟨fun _ => hQ, fun h => absurd hF h⟩⟩⟩, fun h => absurd hA h⟩, S, Up.rf⟩
        · have H9 : HdS 9 K Y X r := ⟨(S.hd hr).1, (S.hd hr).2.1.mono (by omega), (S.hd hr).2.2⟩
          have y1 : ∀ Q : Yc → Prop, ((8 ≤ nI c → Q Y) ∧ (¬ 8 ≤ nI c → wy_X5_find n r (yI Y 306 o) Y (fun (x56 : Int32) (Y53 : Yc) => ((¬ x56 = (-1 : Int32) → by_X8_hearStamped_107 n r Q o Y53) ∧ (x56 = (-1 : Int32) → by_X8_hearStamped_108 n r Q o (1 : Int32) Y53))))) → wy_X8_hearStamped n r o Y Q := fun Q h => yg Q ⟨fun _ => ⟨fun q => absurd hB q, fun _ => ⟨fun q => absurd q hD, fun _ => ⟨fun q => absurd q hF, fun _ => h⟩⟩⟩, fun q => absurd hA q⟩
          have x1 : ∀ Q : Xc → Prop, (wx_X12_heldAt (nI r) (yI Y 306 o) X (fun (x26 : Int32) (X28 : Xc) => ((¬ x26 = (-1 : Int32) → Q X28) ∧ (x26 = (-1 : Int32) → (vp_in (nI r) 7 ∧ (∀ x32 : Int32, x32 = X28.2 36 r → ((x32 < (8 : Int32) → (wx_X12_hold (nI r) (yI Y 306 o) (5 : Int32) X28 (fun (X37 : Xc) => (vp_in (nI r) 7 ∧ (∀ x40 : Int32, x40 = X37.2 23 r → ((¬ x40 = 0 → Q X37) ∧ (x40 = 0 → (wx_X12_takes (nI r) X37 (fun (X45 : Xc) => Q X45))))))))) ∧ (¬ x32 < (8 : Int32) → Q X28)))))))) → wx_X12_getsStamped (nI r) X Q := fun Q h => xg Q ⟨fun _ => ⟨fun q => absurd q hB2, fun _ => ⟨fun q => absurd q hD, fun _ => ⟨fun q => absurd q hF, fun _ => h⟩⟩⟩, fun q => absurd hA q⟩
          have q7 : ∀ Q : Yc → Prop, Q Y → by_X8_hearStamped_107 n r Q o Y := fun Q h => by
            unfold by_X8_hearStamped_107 by_X8_hearStamped_108
            exact ⟨fun _ => h, fun h => absurd rfl h⟩
          rcases held_find (n := n) H9 (by omega) hc (by omega) (yI Y 306 o) with ⟨i, hi, hx, fy, fx⟩ | ⟨hx, fy, fx⟩
          · exact ⟨Y, X, fun Q hQ => y1 Q ⟨fun _ => hQ, fun _ => fy _ ⟨fun _ => q7 Q hQ, fun h => absurd h (nI_ne1 (by omega))⟩⟩, fun Q hQ => x1 Q (fx _ ⟨fun _ => hQ, fun h => absurd h (nI_ne1 (by omega))⟩), S, Up.rf⟩
          · by_cases hG : c < 8
            · have hG1 : ¬ 8 ≤ nI c := nI_ge (a := c) (b := 8) hG (by omega)
              have hG2 : nI c < 8 := (nI_lti (a := c) (b := 8) (by omega) (by omega)).mpr hG
              obtain ⟨Y3, X3, ry, rx, s3, gY, gX, ⟨i, c', h36, hic, hc9, h37, hcc⟩, k23, k26, k27⟩ := hold_sim S hr hD H (p := 5) (by omega) hw hwk (H.at en (j := 5) (by simp)) (H.at en (j := 6) (by simp)) (H.at en (j := 7) (by simp)) (H.at en (j := 8) (by simp)) (H.at en (j := 9) (by simp)) (yI Y 306 o)
              have hln : ln (nI c) = c := nI_clamp (by omega)
              rw [hc, hln] at hcc
              have S3 : Sim n K Y3 X3 := s3.sim hr (by rw [h36]; exact ⟨c', by omega, rfl⟩)
              by_cases hs : X.2 23 r = 0
              · obtain ⟨Y4, X4, gy, gx, s4, u4⟩ := takes_sim' S3 hr (by rw [k23]; exact hD)
                refine ⟨Y4, X4, fun Q hQ => y1 Q ⟨fun h => absurd h hG1, fun _ => fy _ ⟨fun h => absurd rfl h, fun _ => ?_⟩⟩, fun Q hQ => x1 Q (fx _ ⟨fun h => absurd rfl h, fun _ => ⟨hvr, fun x32 e32 => ?_⟩⟩), s4, gX.up.trans u4⟩
                · unfold by_X8_hearStamped_108
                  refine ⟨fun h => absurd h (by decide), fun _ x4 e4 q7 e7 => ?_⟩
                  subst e4; subst e7
                  refine ry _ (fun x18 e18 => ?_)
                  rw [(S3.rp hr).sta, k23, hs] at e18
                  subst e18
                  exact ⟨fun h => absurd rfl h, fun _ => gy Q hQ⟩
                · rw [hc] at e32
                  subst e32
                  refine ⟨fun _ => rx _ ⟨hvr, fun x40 e40 => ?_⟩, fun h => absurd hG2 h⟩
                  rw [k23, hs] at e40
                  subst e40
                  exact ⟨fun h => absurd rfl h, fun _ => gx Q hQ⟩
              · refine ⟨Y3, X3, fun Q hQ => y1 Q ⟨fun h => absurd h hG1, fun _ => fy _ ⟨fun h => absurd rfl h, fun _ => ?_⟩⟩, fun Q hQ => x1 Q (fx _ ⟨fun h => absurd rfl h, fun _ => ⟨hvr, fun x32 e32 => ?_⟩⟩), S3, gX.up⟩
                · unfold by_X8_hearStamped_108
                  refine ⟨fun h => absurd h (by decide), fun _ x4 e4 q7 e7 => ?_⟩
                  subst e4; subst e7
                  refine ry _ (fun x18 e18 => ?_)
                  rw [(S3.rp hr).sta, k23] at e18
                  subst e18
                  exact ⟨fun _ => hQ, fun h => absurd h hs⟩
                · rw [hc] at e32
                  subst e32
                  refine ⟨fun _ => rx _ ⟨hvr, fun x40 e40 => ?_⟩, fun h => absurd hG2 h⟩
                  rw [k23] at e40
                  subst e40
                  exact ⟨fun _ => hQ, fun h => absurd h hs⟩
            · have hG1 : 8 ≤ nI c := nI_le (a := 8) (b := c) (by omega) (by omega)
              have hG2 : ¬ nI c < 8 := fun h => hG ((nI_lti (a := c) (b := 8) (by omega) (by omega)).mp h)
              refine ⟨Y, X, fun Q hQ => y1 Q ⟨fun _ => hQ, fun h => absurd hG1 h⟩, fun Q hQ => x1 Q (fx _ ⟨fun h => absurd rfl h, fun _ => ⟨hvr, fun x32 e32 => ?_⟩⟩), S, Up.rf⟩
              rw [hc] at e32
              subst e32
              exact ⟨fun h => absurd h hG2, fun _ => hQ⟩
    · have hB2 : nI me < nI re := by
        rw [nI_lei (by omega) (by omega)] at hA
        rw [nI_lti (by omega) (by omega)]
        have : me ≠ re := fun q => hB (by rw [q])
        omega
      exact ⟨Y, X, fun Q hQ => yg Q ⟨fun _ => ⟨fun _ => hQ, fun h => absurd h hB⟩, fun h => absurd hA h⟩, fun Q hQ => xg Q ⟨fun _ => ⟨fun _ => hQ, fun h => absurd hB2 h⟩, fun h => absurd hA h⟩, S, Up.rf⟩
  · obtain ⟨Y2, X2, ry, rx, s2, _, _, _, _, u2⟩ := turn_sim S hr hrl hme
    exact ⟨Y2, X2, fun Q hQ => yg Q ⟨fun h => absurd h hA, fun _ => ry Q hQ⟩, fun Q hQ => xg Q ⟨fun h => absurd h hA, fun _ => rx Q hQ⟩, s2, u2⟩
/-- what is so of a message between replicas -/
theorem Han.hd {o : Nat} {l : List Int32} (H : Han n K Y X o l) (h0 : yI Y 301 o ≠ 0) (h11 : yI Y 301 o ≠ 11) (hn : n ≤ 7) : ∃ ml me f t, ml ≤ K ∧ me ≤ K ∧ f < n ∧ t < n ∧ yJ Y 304 o = vw (nI ml) (nI me) ∧ yI Y 302 o = nI f ∧ yI Y 303 o = nI t ∧
    X.2 15 0 = yI Y 301 o ∧ X.2 15 1 = nI f ∧ X.2 15 2 = nI t ∧ X.2 15 3 = nI ml ∧ X.2 15 4 = nI me := by
  have HM := H.2.2.1
  have hat := fun {l'} (h : encM Y o = l') {j} hj => H.at h (j := j) hj
  obtain ⟨m1, m2, m3, ⟨ml, me, hml, hme, m4⟩, _⟩ := HM
  rw [if_neg h0] at m2
  rw [if_neg h11] at m3
  obtain ⟨f, hf, ef⟩ := m2
  obtain ⟨t, ht, et⟩ := m3
  have hne := nI_ne1 (r := f) (by omega)
  obtain ⟨rest, en⟩ : ∃ rest, encM Y o = [yI Y 301 o, nI f, nI t, nI ml, nI me] ++ rest := by
    unfold encM
    rw [ef, et, m4, vw_lead, vw_sess, if_neg hne, if_neg h11, if_neg h0]
    exact ⟨_, rfl⟩
  exact ⟨ml, me, f, t, hml, hme, hf, ht, m4, ef, et, hat en (j := 0) (by simp), hat en (j := 1) (by simp), hat en (j := 2) (by simp), hat en (j := 3) (by simp), hat en (j := 4) (by simp)⟩
theorem found_hear (S : Sim n K Y X) (hr : r < n) {o : Nat} {l : List Int32} (H : Han n K Y X o l) (hk : yI Y 301 o = 2) :
    ∃ Y2 X2, (∀ Q : Yc → Prop, Q Y2 → wy_X8_hearFound n r o Y Q) ∧ (∀ Q : Xc → Prop, Q X2 → wx_X12_getsInView (nI r) 2 X Q) ∧ Sim n K Y2 X2 ∧ Up X X2 := by
  have hn := S.sc.n7
  have hk2 := S.sc.k2
  have hcr : (nI r).toNatClampNeg = r := nI_clamp (by omega)
  have hvr : vp_in (nI r) 7 := vp_in_nI (by omega) (by omega)
  have R := S.rp hr
  obtain ⟨ml, me, f, t, hml, hme, hf, ht, m4, ef, et, _⟩ := H.hd (by rw [hk]; decide) (by rw [hk]; decide) hn
  obtain ⟨w, hw, hwk⟩ := H.2.2.1.2.2.2.2.2.2.1 (Or.inr hk)
  obtain ⟨s, hs, es⟩ := H.2.2.1.2.2.2.2.2.2.2.1 (Or.inl hk)
  have hne := nI_ne1 (r := f) (by omega)
  have en : encM Y o = [2, nI f, nI t, nI ml, nI me, yI Y 306 o, w.1, w.2.1, w.2.2.1, w.2.2.2.1, w.2.2.2.2] := by
    unfold encM
    rw [hk, m4, ef, et, hw, vw_sess, vw_lead]
    simp [rqL, hne]
  have a5 : X.2 15 5 = yI Y 306 o := H.at en (j := 5) (by simp)
  have yg : ∀ Q : Yc → Prop, ((¬ X.2 23 r = 0 → Q Y) ∧ (X.2 23 r = 0 → ((¬ yI Y 306 o = X.2 26 r + 1 → Q Y) ∧ (yI Y 306 o = X.2 26 r + 1 → wy_X5_hold n r (yI Y 306 o - X.2 27 r) (yP Y 307 o) Y (fun (Y24 : Yc) => (wy_X8_takeHeld n r Y24 (fun (Y31 : Yc) => Q Y31))))))) → wy_X8_hearFound n r o Y Q := fun Q h => by
    unfold wy_X8_hearFound
    intro x1 e1
    rw [R.sta] at e1
    subst e1
    refine ⟨h.1, fun a x5 e5 x9 e9 => ?_⟩
    rw [(S.lg hr).1] at e9
    subst e5; subst e9
    refine ⟨(h.2 a).1, fun b x13 e13 x16 e16 q19 e19 => ?_⟩
    rw [(S.lg hr).2.1] at e16
    subst e13; subst e16; subst e19
    exact (h.2 a).2 b
  have xg : ∀ Q : Xc → Prop, ((¬ X.2 23 r = 0 → Q X) ∧ (X.2 23 r = 0 → ((¬ yI Y 306 o = X.2 26 r + 1 → Q X) ∧ (yI Y 306 o = X.2 26 r + 1 → wx_X12_hold (nI r) (yI Y 306 o - X.2 27 r) 6 X (fun (X49 : Xc) => (wx_X12_takes (nI r) X49 (fun (X53 : Xc) => Q X53))))))) → wx_X12_getsInView (nI r) 2 X Q := fun Q h => by
    unfold wx_X12_getsInView
    rw [hcr]
    refine ⟨v640 (j := 5) (by omega), fun x2 e2 => ?_⟩
    have e2 : x2 = yI Y 306 o := e2.trans a5
    subst e2
    refine ⟨fun h => absurd h (by decide), fun h => absurd h (by decide), fun _ => ⟨hvr, fun x37 e37 => ?_⟩, fun h => absurd h (by decide), fun h => absurd h (by decide), fun h => absurd h (by decide), fun h => absurd h (by decide)⟩
    subst e37
    refine ⟨h.1, fun a => ⟨hvr, fun x41 e41 => ?_⟩⟩
    subst e41
    refine ⟨(h.2 a).1, fun b => ⟨hvr, fun x45 e45 => ?_⟩⟩
    subst e45
    exact (h.2 a).2 b
  by_cases hA : X.2 23 r = 0
  · by_cases hB : yI Y 306 o = X.2 26 r + 1
    · have hs2 : X.2 23 r ≠ 2 := by rw [hA]; decide
      obtain ⟨Y3, X3, ry, rx, s3, gY, gX, ⟨i, c', h36, hic, hc9, h37, hcc⟩, k23, k26, k27⟩ := hold_sim S hr hs2 H (p := 6) (by omega) hw hwk (H.at en (j := 6) (by simp)) (H.at en (j := 7) (by simp)) (H.at en (j := 8) (by simp)) (H.at en (j := 9) (by simp)) (H.at en (j := 10) (by simp)) (yI Y 306 o - X.2 27 r)
      obtain ⟨L, hL, hl⟩ := (S.lg hr).2.2.1
      have hLs : L = s := by
        rw [es, hl, nI_1] at hB
        have := (nI_eq (by omega) (by omega)).mp hB
        omega
      obtain ⟨Y4, X4, gy, gx, s4, u4⟩ := takes_sim s3 hr hn (by rw [k23]; exact hs2) (Or.inr ⟨L, by omega, by rw [k26]; exact hl, i, c', h36, hic, hc9, by rw [h37, hB, k27, hl]⟩) (fun Q hQ => y_leads9 s3 hr Q hQ)
      exact ⟨Y4, X4, fun Q hQ => yg Q ⟨fun h => absurd hA h, fun _ => ⟨fun h => absurd hB h, fun _ => ry _ (gy Q hQ)⟩⟩, fun Q hQ => xg Q ⟨fun h => absurd hA h, fun _ => ⟨fun h => absurd hB h, fun _ => rx _ (gx Q hQ)⟩⟩, s4, gX.up.trans u4⟩
    · exact ⟨Y, X, fun Q hQ => yg Q ⟨fun h => absurd hA h, fun _ => ⟨fun _ => hQ, fun h => absurd h hB⟩⟩, fun Q hQ => xg Q ⟨fun h => absurd hA h, fun _ => ⟨fun _ => hQ, fun h => absurd h hB⟩⟩, S, Up.rf⟩
  · exact ⟨Y, X, fun Q hQ => yg Q ⟨fun _ => hQ, fun h => absurd h hA⟩, fun Q hQ => xg Q ⟨fun _ => hQ, fun h => absurd h hA⟩, S, Up.rf⟩
end
