section
variable {n K : Nat} {Y Y2 : Yc} {X X2 : Xc} {r : Nat}
theorem turned_hear (S : Sim n K Y X) (hr : r < n) {o : Nat} {l : List Int32} (H : Han n K Y X o l) (hk : yI Y 301 o = 9) (ho : o < 256) (hto : yI Y 303 o = nI r) {f : Int32} (hf1 : X.2 15 1 = f) :
    ∃ Y2 X2, (∀ Q : Yc → Prop, Q Y2 → wy_X8_hearTurned n r o Y Q) ∧ (∀ Q : Xc → Prop, Q X2 → (vp_in (3 : Int32) 640 ∧ (∀ x15 : Int32, x15 = X.2 15 (3 : Int32).toNatClampNeg → (vp_in (nI r) 7 ∧ (∀ x18 : Int32, x18 = X.2 21 (nI r).toNatClampNeg → ((¬ x15 = x18 → Q X) ∧ (x15 = x18 → (vp_in (4 : Int32) 640 ∧ (∀ x22 : Int32, x22 = X.2 15 (4 : Int32).toNatClampNeg → (vp_in (nI r) 7 ∧ (∀ x25 : Int32, x25 = X.2 22 (nI r).toNatClampNeg → ((¬ x22 = x25 → Q X) ∧ (x22 = x25 → (wx_X12_leads (nI r) X (fun (x28 : Int32) (X30 : Xc) => ((¬ x28 = 0 → (vp_in (nI r) 7 ∧ (∀ x34 : Int32, x34 = X30.2 23 (nI r).toNatClampNeg → ((¬ x34 = (2 : Int32) → (wx_X12_sendStart (nI r) f X30 (fun (X39 : Xc) => Q X39))) ∧ (x34 = (2 : Int32) → (wx_X12_keepTurned (nI r) f X30 (fun (X43 : Xc) => (wx_X12_merges (nI r) X43 (fun (X47 : Xc) => Q X47))))))))) ∧ (x28 = 0 → Q X30))))))))))))))))) ∧ Sim n K Y2 X2 ∧ Up X X2 := by
  have hn := S.sc.n7
  have hk2 := S.sc.k2
  have hcr : (nI r).toNatClampNeg = r := nI_clamp (by omega)
  have hvr : vp_in (nI r) 7 := vp_in_nI (by omega) (by omega)
  have R := S.rp hr
  obtain ⟨ml, me, f', t, hml, hme, hf, ht, m4, ef, et, _, b1, _, b3, b4⟩ := H.hd (by rw [hk]; decide) (by rw [hk]; decide) hn
  have ef1 : f = nI f' := hf1.symm.trans b1
  subst ef1
  obtain ⟨rl, hrl, erl⟩ := R.ldK
  obtain ⟨re, hre, ere⟩ := R.epK
  have hv : yJ Y 805 r = vw (nI rl) (nI re) := by rw [R.vie, erl, ere]
  have yg : ∀ Q : Yc → Prop, ((¬ (ml = rl ∧ me = re) → Q Y) ∧ ((ml = rl ∧ me = re) → ((lds n X r = 0 → Q Y) ∧ (¬ lds n X r = 0 → ((X.2 23 r = 2 → (wy_X5_countTurned n r o Y (fun (Y21 : Yc) => (∀ x29 : Int32, x29 = yI Y21 506 r → (wy_J6_bitCount_0f7a4 n x29 Y21 (fun (x35 : Int32) (Y32 : Yc) => (∀ x40 : Int32, x40 = yI Y32 401 0 → ((x35 < x40 → Q Y32) ∧ (¬ x35 < x40 → (wy_X8_merge n r Y32 (fun (Y44 : Yc) => Q Y44))))))))))) ∧ (¬ X.2 23 r = 2 → wy_X4_send n 10 (nI r) (nI f') (yJ Y 805 r) 0 Y (fun o' Y' => wy_X2_become n (56 + o') r Y' Q))))))) → wy_X8_hearTurned n r o Y Q := fun Q h => by
    unfold wy_X8_hearTurned
    intro y2 e2 y4 e4
    rw [m4] at e2
    rw [hv] at e4
    subst e2; subst e4
    rw [lg0v (by omega) (by omega) (by omega) (by omega)]
    refine ⟨h.1, fun q => y_leads S hr _ ⟨fun q1 x15 e15 => ?_, fun q1 => (h.2 q).1 q1⟩⟩
    rw [R.sta] at e15
    subst e15
    refine ⟨fun q2 => ((h.2 q).2 q1).1 q2, fun q2 x51 e51 x53 e53 y55 e55 => ?_⟩
    rw [R.num] at e51
    rw [ef] at e53
    subst e51; subst e53; subst e55
    exact ((h.2 q).2 q1).2 q2
  rw [hcr]
  have xg : ∀ Q : Xc → Prop, ((¬ (ml = rl ∧ me = re) → Q X) ∧ ((ml = rl ∧ me = re) → ((lds n X r = 0 → Q X) ∧ (¬ lds n X r = 0 → ((X.2 23 r = 2 → (wx_X12_keepTurned (nI r) (nI f') X (fun (X43 : Xc) => (wx_X12_merges (nI r) X43 (fun (X47 : Xc) => Q X47))))) ∧ (¬ X.2 23 r = 2 → wx_X12_sendStart (nI r) (nI f') X Q)))))) →
      (vp_in (3 : Int32) 640 ∧ (∀ x15 : Int32, x15 = X.2 15 (3 : Int32).toNatClampNeg → (vp_in (nI r) 7 ∧ (∀ x18 : Int32, x18 = X.2 21 r → ((¬ x15 = x18 → Q X) ∧ (x15 = x18 → (vp_in (4 : Int32) 640 ∧ (∀ x22 : Int32, x22 = X.2 15 (4 : Int32).toNatClampNeg → (vp_in (nI r) 7 ∧ (∀ x25 : Int32, x25 = X.2 22 r → ((¬ x22 = x25 → Q X) ∧ (x22 = x25 → (wx_X12_leads (nI r) X (fun (x28 : Int32) (X30 : Xc) => ((¬ x28 = 0 → (vp_in (nI r) 7 ∧ (∀ x34 : Int32, x34 = X30.2 23 r → ((¬ x34 = (2 : Int32) → (wx_X12_sendStart (nI r) (nI f') X30 (fun (X39 : Xc) => Q X39))) ∧ (x34 = (2 : Int32) → (wx_X12_keepTurned (nI r) (nI f') X30 (fun (X43 : Xc) => (wx_X12_merges (nI r) X43 (fun (X47 : Xc) => Q X47))))))))) ∧ (x28 = 0 → Q X30)))))))))))))))) := fun Q h => by
    refine ⟨v640 (j := 3) (by omega), fun x15 e15 => ⟨hvr, fun x18 e18 => ?_⟩⟩
    have e15 : x15 = nI ml := e15.trans b3
    rw [erl] at e18
    subst e15; subst e18
    rw [nI_eq (by omega) (by omega)]
    refine ⟨fun q => h.1 (fun q2 => q q2.1), fun q => ⟨v640 (j := 4) (by omega), fun x22 e22 => ⟨hvr, fun x25 e25 => ?_⟩⟩⟩
    have e22 : x22 = nI me := e22.trans b4
    rw [ere] at e25
    subst e22; subst e25
    rw [nI_eq (by omega) (by omega)]
    refine ⟨fun q2 => h.1 (fun q3 => q2 q3.2), fun q2 => x_leads S hr _ ⟨fun q3 => ⟨hvr, fun x34 e34 => ?_⟩, fun q3 => (h.2 ⟨q, q2⟩).1 q3⟩⟩
    subst e34
    exact ⟨((h.2 ⟨q, q2⟩).2 q3).2, ((h.2 ⟨q, q2⟩).2 q3).1⟩
  by_cases hc : ml = rl ∧ me = re
  · rcases lds_01 (n := n) (X := X) (r := r) with hd | hd
    · exact ⟨Y, X, fun Q hQ => yg Q ⟨fun q => absurd hc q, fun _ => ⟨fun _ => hQ, fun q => absurd hd q⟩⟩, fun Q hQ => xg Q ⟨fun q => absurd hc q, fun _ => ⟨fun _ => hQ, fun q => absurd hd q⟩⟩, S, Up.rf⟩
    · have hd0 : ¬ lds n X r = 0 := by rw [hd]; decide
      by_cases hs : X.2 23 r = 2
      · obtain ⟨Y3, X3, f3, hf3, hfr3, ry, rx, S3, b13, u3, k3, e3⟩ := count_sim S hr H hk ho hs hto
        have ef3 : f3 = f' := (nI_eq (by omega) (by omega)).mp (b13.symm.trans b1)
        subst ef3
        have hs3 : X3.2 23 r = 2 := by rw [k3 23 (by omega)]; exact hs
        obtain ⟨_, _, _, _, _, c506, c127, _⟩ := S3.ch hr hs3
        have hd3 : lds n X3 r = 1 := by rw [← hd]; unfold lds ldr; rw [k3 21 (by omega)]
        have mg : ∀ Q : Xc → Prop, ((nI (n / 2) ≤ bS (X3.2 46 r) 7 → wx_X12_keepOwn (nI r) X3 (fun (X22 : Xc) => (wx_X12_findBest (nI r) X22 (fun (X26 : Xc) => LFx (fx_X12_merges_52 Q) (nI r, (0 : Int32), (-1 : Int32), (0 : Int32)) X26)))) ∧ (¬ nI (n / 2) ≤ bS (X3.2 46 r) 7 → Q X3)) → wx_X12_merges (nI r) X3 Q := fun Q h => by
          unfold wx_X12_merges
          rw [hcr]
          refine x_leads S3 hr _ ⟨fun q => by rw [hd3] at q; exact absurd q (by decide), fun _ => ⟨hvr, fun x7 e7 => ?_⟩⟩
          rw [hs3] at e7
          subst e7
          refine ⟨fun q => absurd rfl q, fun _ => ⟨hvr, fun x11 e11 => ?_⟩⟩
          subst e11
          refine x_bits _ _ (fun x17 e17 => ?_)
          rw [S3.sc.x2] at e17
          subst e17
          exact h
        have mc : ∀ Q : Yc → Prop, ((bS (X3.2 46 r) 7 < nI (n / 2) → Q Y3) ∧ (¬ bS (X3.2 46 r) 7 < nI (n / 2) → wy_X8_merge n r Y3 Q)) → (∀ x29 : Int32, x29 = yI Y3 506 r → (wy_J6_bitCount_0f7a4 n x29 Y3 (fun (x35 : Int32) (Y32 : Yc) => (∀ x40 : Int32, x40 = yI Y32 401 0 → ((x35 < x40 → Q Y32) ∧ (¬ x35 < x40 → (wy_X8_merge n r Y32 (fun (Y44 : Yc) => Q Y44)))))))) := fun Q h => by
          intro x29 e29
          rw [c506] at e29
          subst e29
          refine y_bits _ _ (fun x40 e40 => ?_)
          rw [S3.sc.y401] at e40
          subst e40
          rw [c127.bits]
          exact h
        by_cases hb : bS (X3.2 46 r) 7 < nI (n / 2)
        · have hb2 : ¬ nI (n / 2) ≤ bS (X3.2 46 r) 7 := Int32.not_le.mpr hb
          exact ⟨Y3, X3, fun Q hQ => yg Q ⟨fun q => absurd hc q, fun _ => ⟨fun q => absurd q hd0, fun _ => ⟨fun _ => ry _ (mc Q ⟨fun _ => hQ, fun q => absurd hb q⟩), fun q => absurd hs q⟩⟩⟩, fun Q hQ => xg Q ⟨fun q => absurd hc q, fun _ => ⟨fun q => absurd q hd0, fun _ => ⟨fun _ => rx _ (mg Q ⟨fun q => absurd q hb2, fun _ => hQ⟩), fun q => absurd hs q⟩⟩⟩, S3, u3⟩
        · have hb2 : nI (n / 2) ≤ bS (X3.2 46 r) 7 := Int32.not_lt.mp hb
          obtain ⟨Y4, X4, ry4, rx4, S4, u4⟩ := merge_sim S3 hr hs3
          exact ⟨Y4, X4, fun Q hQ => yg Q ⟨fun q => absurd hc q, fun _ => ⟨fun q => absurd q hd0, fun _ => ⟨fun _ => ry _ (mc Q ⟨fun q => absurd q hb, fun _ => ry4 Q hQ⟩), fun q => absurd hs q⟩⟩⟩, fun Q hQ => xg Q ⟨fun q => absurd hc q, fun _ => ⟨fun q => absurd q hd0, fun _ => ⟨fun _ => rx _ (mg Q ⟨fun _ => rx4 Q hQ, fun q => absurd hb2 q⟩), fun q => absurd hs q⟩⟩⟩, S4, u3.trans u4⟩
      · obtain ⟨Y2, X2, ry, rx, s2, f2⟩ := start_sim S hr hf
        exact ⟨Y2, X2, fun Q hQ => yg Q ⟨fun q => absurd hc q, fun _ => ⟨fun q => absurd q hd0, fun _ => ⟨fun q => absurd q hs, fun _ => ry Q hQ⟩⟩⟩, fun Q hQ => xg Q ⟨fun q => absurd hc q, fun _ => ⟨fun q => absurd q hd0, fun _ => ⟨fun q => absurd q hs, fun _ => rx Q hQ⟩⟩⟩, s2, f2.up⟩
  · exact ⟨Y, X, fun Q hQ => yg Q ⟨fun _ => hQ, fun q => absurd q hc⟩, fun Q hQ => xg Q ⟨fun _ => hQ, fun q => absurd q hc⟩, S, Up.rf⟩
/-- before the kinds part: the view, the leader heard -/
theorem hear_pre (S : Sim n K Y X) (hr : r < n) {o : Nat} {l : List Int32} (H : Han n K Y X o l) (h0 : yI Y 301 o ≠ 0) (h11 : yI Y 301 o ≠ 11) :
    ∃ Y1 X1 p, (∀ Q : Yc → Prop, by_X8_hear_58 n r Q o p Y1 → wy_X8_hear n r o Y Q) ∧ (∀ Q : Xc → Prop, bx_X12_replicaGets_81 Q (nI r) (yI Y 301 o) p X1 → wx_X12_replicaGets (nI r) X Q) ∧ Sim n K Y1 X1 ∧ Han n K Y1 X1 o l ∧ Up X X1 ∧
      yI Y1 301 o = yI Y 301 o ∧ yI Y1 303 o = yI Y 303 o ∧ (p = 0 ∨ p = 1) ∧ (∀ ml me rl re : Nat, ml ≤ K → me ≤ K → rl ≤ K → re ≤ K → yJ Y1 304 o = vw (nI ml) (nI me) → yJ Y1 805 r = vw (nI rl) (nI re) → (p = 0 ↔ ¬ (rl = ml ∧ re = me))) := by
  have hn := S.sc.n7
  have hk2 := S.sc.k2
  have hcr : (nI r).toNatClampNeg = r := nI_clamp (by omega)
  have hvr : vp_in (nI r) 7 := vp_in_nI (by omega) (by omega)
  have R := S.rp hr
  obtain ⟨ml, me, f, t, hml, hme, hf, ht, m4, ef, et, b0, b1, _, b3, b4⟩ := H.hd h0 h11 hn
  obtain ⟨rl, hrl, erl⟩ := R.ldK
  obtain ⟨re, hre, ere⟩ := R.epK
  have hv : yJ Y 805 r = vw (nI rl) (nI re) := by rw [R.vie, erl, ere]
  have y0 : ∀ (Q : Yc → Prop) (p : Int32), (p = if ml = rl ∧ me = re then 1 else 0) → by_X8_hear_24 n r Q o p Y → wy_X8_hear n r o Y Q := fun Q p ep h => by
    unfold wy_X8_hear
    intro x2 e2
    subst e2
    refine ⟨fun q => absurd q h0, fun _ y5 e5 y7 e7 => ?_⟩
    rw [m4] at e5
    rw [hv] at e7
    subst e5; subst e7
    rw [lg0v (by omega) (by omega) (by omega) (by omega)]
    refine ⟨fun q => ?_, fun q => ?_⟩
    · rw [if_neg q] at ep
      subst ep
      unfold by_X8_hear_23
      exact h
    · rw [if_pos q] at ep
      subst ep
      exact h
  have x0 : ∀ (Q : Xc → Prop) (p : Int32), (p = if ml = rl ∧ me = re then 1 else 0) → bx_X12_replicaGets_52 Q (nI r) (yI Y 301 o) p X → wx_X12_replicaGets (nI r) X Q := fun Q p ep h => by
    unfold wx_X12_replicaGets
    rw [hcr]
    refine ⟨v640 (j := 0) (by omega), fun x2 e2 => ?_⟩
    have e2 : x2 = yI Y 301 o := e2.trans b0
    subst e2
    refine ⟨fun _ => ⟨v640 (j := 3) (by omega), fun x6 e6 => ⟨hvr, fun x9 e9 => ?_⟩⟩, fun q => absurd q h0⟩
    have e6 : x6 = nI ml := e6.trans b3
    rw [erl] at e9
    subst e6; subst e9
    rw [nI_eq (by omega) (by omega)]
    refine ⟨fun q => ?_, fun q => ⟨v640 (j := 4) (by omega), fun x13 e13 => ⟨hvr, fun x16 e16 => ?_⟩⟩⟩
    · rw [if_neg (fun q2 => q q2.1)] at ep
      subst ep
      unfold bx_X12_replicaGets_51
      exact h
    · have e13 : x13 = nI me := e13.trans b4
      rw [ere] at e16
      subst e13; subst e16
      rw [nI_eq (by omega) (by omega)]
      refine ⟨fun q2 => ?_, fun q2 => ?_⟩
      · rw [if_neg (fun q3 => q2 q3.2)] at ep
        subst ep
        unfold bx_X12_replicaGets_51
        exact h
      · rw [if_pos ⟨q, q2⟩] at ep
        subst ep
        exact h
  by_cases hc : ml = rl ∧ me = re
  · have hpp : ∀ Y1 : Yc, yJ Y1 304 o = yJ Y 304 o → yJ Y1 805 r = yJ Y 805 r → (∀ ml me rl re : Nat, ml ≤ K → me ≤ K → rl ≤ K → re ≤ K → yJ Y1 304 o = vw (nI ml) (nI me) → yJ Y1 805 r = vw (nI rl) (nI re) → ((1 : Int32) = 0 ↔ ¬ (rl = ml ∧ re = me))) := fun Y1 z1 z2 a b c d ha hb hc' hd e1 e2 => by
      rw [z1, m4, vw_eq (by omega) (by omega) (by omega) (by omega)] at e1
      rw [z2, hv, vw_eq (by omega) (by omega) (by omega) (by omega)] at e2
      exact ⟨fun q => absurd q (by decide), fun q => absurd (by omega) q⟩
    by_cases hl : f = ldr n X r
    · have S1 := sim_hour S hr (c := 811) (k := 57) (by omega) (X.1 4)
      refine ⟨_, _, 1, fun Q h => y0 Q 1 (by rw [if_pos hc]) ?_, fun Q h => x0 Q 1 (by rw [if_pos hc]) ?_, S1, (RgY.rf.wI (r := r) (Y := Y) (c := 811) (by omega) (X.1 4)).han (RgX.rf.wA (r := r) (X := X) (k := 57) (i := r) (by omega) (X.1 4)) (by omega) H, Up.rf, rfl, rfl, Or.inr rfl, hpp _ rfl rfl⟩
      · unfold by_X8_hear_24
        refine ⟨fun q => absurd q (by decide), fun _ x3 e3 y6 e6 => ?_⟩
        rw [ef] at e3
        subst e3; subst e6
        refine y_leader S hr _ ⟨fun q => absurd (by rw [hl]) q, fun _ x19 e19 => ?_⟩
        rw [S.sc.tim] at e19
        subst e19
        exact h
      · unfold bx_X12_replicaGets_52
        refine ⟨fun q => absurd q (by decide), fun _ => ⟨v640 (j := 1) (by omega), fun x3 e3 => ?_⟩⟩
        have e3 : x3 = nI f := e3.trans b1
        subst e3
        refine x_leader S hr _ ⟨fun q => absurd (by rw [hl]) q, fun _ x11 e11 => ⟨hvr, ?_⟩⟩
        subst e11
        rw [hcr]
        exact h
    · have hlt := ldr_lt S r
      refine ⟨Y, X, 1, fun Q h => y0 Q 1 (by rw [if_pos hc]) ?_, fun Q h => x0 Q 1 (by rw [if_pos hc]) ?_, S, H, Up.rf, rfl, rfl, Or.inr rfl, hpp _ rfl rfl⟩
      · unfold by_X8_hear_24
        refine ⟨fun q => absurd q (by decide), fun _ x3 e3 y6 e6 => ?_⟩
        rw [ef] at e3
        subst e3; subst e6
        exact y_leader S hr _ ⟨fun _ => h, fun q => absurd ((nI_eq (by omega) (by omega)).mp q) hl⟩
      · unfold bx_X12_replicaGets_52
        refine ⟨fun q => absurd q (by decide), fun _ => ⟨v640 (j := 1) (by omega), fun x3 e3 => ?_⟩⟩
        have e3 : x3 = nI f := e3.trans b1
        subst e3
        exact x_leader S hr _ ⟨fun _ => h, fun q => absurd ((nI_eq (by omega) (by omega)).mp q) hl⟩
  · refine ⟨Y, X, 0, fun Q h => y0 Q 0 (by rw [if_neg hc]) ?_, fun Q h => x0 Q 0 (by rw [if_neg hc]) ?_, S, H, Up.rf, rfl, rfl, Or.inl rfl, fun a b c d ha hb hc' hd e1 e2 => ?_⟩
    · unfold by_X8_hear_24
      exact ⟨fun _ => h, fun q => absurd rfl q⟩
    · unfold bx_X12_replicaGets_52
      exact ⟨fun _ => h, fun q => absurd rfl q⟩
    · rw [m4, vw_eq (by omega) (by omega) (by omega) (by omega)] at e1
      rw [hv, vw_eq (by omega) (by omega) (by omega) (by omega)] at e2
      exact ⟨fun _ => by omega, fun _ => rfl⟩
set_option maxHeartbeats 1000000 in
theorem hear_sim (S : Sim n K Y X) (hr : r < n) {o : Nat} {l : List Int32} (H : Han n K Y X o l) (h11 : yI Y 301 o ≠ 11) (ho : o < 256) (hto : yI Y 303 o = nI r) :
    ∃ Y2 X2, (∀ Q : Yc → Prop, Q Y2 → wy_X8_hear n r o Y Q) ∧ (∀ Q : Xc → Prop, Q X2 → wx_X12_replicaGets (nI r) X Q) ∧ Sim n K Y2 X2 ∧ Up X X2 := by
  have hn := S.sc.n7
  have hcr : (nI r).toNatClampNeg = r := nI_clamp (by omega)
  have hvr : vp_in (nI r) 7 := vp_in_nI (by omega) (by omega)
  obtain ⟨k, hk12, hk⟩ := H.2.2.1.1
  by_cases h0 : k = 0
  · subst h0
    obtain ⟨Y2, X2, ry, rx, s2, u2⟩ := stamped_hear S hr H hk
    have b0 : X.2 15 0 = 0 := by
      have m2 := H.2.2.1.2.1
      have hk' : yI Y 301 o = 0 := hk
      obtain ⟨rest, en⟩ : ∃ rest, encM Y o = 0 :: rest := by unfold encM; rw [hk']; exact ⟨_, rfl⟩
      exact H.at en (j := 0) (by simp)
    refine ⟨Y2, X2, fun Q hQ => ?_, fun Q hQ => ?_, s2, u2⟩
    · have hk' : yI Y 301 o = 0 := hk
      unfold wy_X8_hear by_X8_hear_23 by_X8_hear_24 by_X8_hear_58 by_X8_hear_80 by_X8_hear_115
      rw [hk']
      intro x2 e2
      subst e2
      refine ⟨fun _ => ⟨fun _ x2 e2 => ?_, fun q => absurd rfl q⟩, fun q => absurd rfl q⟩
      subst e2
      refine ⟨fun _ x2 e2 => ?_, fun q => absurd (by decide) q⟩
      subst e2
      refine ⟨fun q => absurd q (by decide), fun _ x2 e2 => ?_⟩
      subst e2
      refine ⟨fun q => absurd q (by decide), fun _ x2 e2 => ?_⟩
      subst e2
      refine ⟨fun _ x2 e2 => ?_, fun q => absurd q (by decide)⟩
      subst e2
      refine ⟨fun q => absurd q (by decide), fun _ => ry Q hQ, fun q => absurd q (by decide), fun q => absurd q (by decide), fun q => absurd q (by decide), fun q => absurd q (by decide), fun q => absurd q (by decide), fun q => absurd q (by decide), fun q => absurd q (by decide), fun q => absurd q (by decide), fun q => absurd q (by decide), fun q => absurd q (by decide)⟩
    · unfold wx_X12_replicaGets
      refine ⟨v640 (j := 0) (by omega), fun x2 e2 => ?_⟩
      have e2 : x2 = 0 := e2.trans b0
      subst e2
      exact ⟨fun q => absurd rfl q, fun _ => rx Q hQ⟩
  · have hk0 : yI Y 301 o ≠ 0 := by rw [hk]; exact fun q => h0 ((nI_eq (a := k) (b := 0) (by omega) (by omega)).mp q)
    obtain ⟨Y1, X1, p, py, px, S1, H1, u1, k1, t1, hp01, hpv⟩ := hear_pre S hr H hk0 h11
    rw [hk] at px k1
    have hto1 : yI Y1 303 o = nI r := t1.trans hto
    have hk11 : k ≠ 11 := fun q => h11 (by rw [hk, q]; rfl)
    rcases (show k = 1 ∨ k = 2 ∨ k = 3 ∨ k = 4 ∨ k = 5 ∨ k = 6 ∨ k = 7 ∨ k = 8 ∨ k = 9 ∨ k = 10 ∨ k = 12 by omega) with rfl | rfl | rfl | rfl | rfl | rfl | rfl | rfl | rfl | rfl | rfl
    · have k1 : yI Y1 301 o = 1 := k1
      rcases hp01 with hp | hp
      · subst hp
        refine ⟨Y1, X1, fun Q hQ => py Q ?_, fun Q hQ => px Q ?_, S1, u1⟩
        · unfold by_X8_hear_58
          intro x2 e2
          rw [k1] at e2
          subst e2
          refine ⟨fun q => absurd q (by decide), fun _ x5 e5 => ?_⟩
          rw [k1] at e5
          subst e5
          exact ⟨fun q => absurd q (by decide), fun _ => ⟨fun q => absurd rfl q, fun _ => hQ⟩⟩
        · unfold bx_X12_replicaGets_81
          exact ⟨fun q => absurd q (by decide), fun _ => ⟨fun _ => ⟨fun _ => ⟨fun _ => ⟨fun _ => hQ, fun q => absurd rfl q⟩, fun q => absurd q (by decide)⟩, fun q => absurd q (by decide)⟩, fun q => absurd q (by decide)⟩⟩
      · subst hp
        obtain ⟨Y2, X2, ry, rx, s2, u2⟩ := lookup_hear S1 hr H1 k1
        refine ⟨Y2, X2, fun Q hQ => py Q ?_, fun Q hQ => px Q ?_, s2, u1.trans u2⟩
        · unfold by_X8_hear_58
          intro x2 e2
          rw [k1] at e2
          subst e2
          refine ⟨fun q => absurd q (by decide), fun _ x5 e5 => ?_⟩
          rw [k1] at e5
          subst e5
          refine ⟨fun q => absurd q (by decide), fun _ => ⟨fun _ => ?_, fun q => absurd q (by decide)⟩⟩
          unfold by_X8_hear_80
          intro x2 e2
          rw [k1] at e2
          subst e2
          refine ⟨fun q => absurd q (by decide), fun _ x5 e5 => ?_⟩
          rw [k1] at e5
          subst e5
          refine ⟨fun q => absurd q (by decide), fun _ x8 e8 => ?_⟩
          rw [k1] at e8
          subst e8
          refine ⟨fun _ => ?_, fun q => absurd q (by decide)⟩
          unfold by_X8_hear_115
          intro x2 e2
          rw [k1] at e2
          subst e2
          exact ⟨fun q => absurd q (by decide), fun q => absurd q (by decide), fun _ => ry Q hQ, fun q => absurd q (by decide), fun q => absurd q (by decide), fun q => absurd q (by decide), fun q => absurd q (by decide), fun q => absurd q (by decide), fun q => absurd q (by decide), fun q => absurd q (by decide), fun q => absurd q (by decide), fun q => absurd q (by decide)⟩
        · unfold bx_X12_replicaGets_81
          exact ⟨fun q => absurd q (by decide), fun _ => ⟨fun _ => ⟨fun _ => ⟨fun _ => ⟨fun q => absurd q (by decide), fun _ => rx Q hQ⟩, fun q => absurd q (by decide)⟩, fun q => absurd q (by decide)⟩, fun q => absurd q (by decide)⟩⟩
    · have k1 : yI Y1 301 o = 2 := k1
      rcases hp01 with hp | hp
      · subst hp
        refine ⟨Y1, X1, fun Q hQ => py Q ?_, fun Q hQ => px Q ?_, S1, u1⟩
        · unfold by_X8_hear_58
          intro x2 e2
          rw [k1] at e2
          subst e2
          refine ⟨fun q => absurd q (by decide), fun _ x5 e5 => ?_⟩
          rw [k1] at e5
          subst e5
          exact ⟨fun q => absurd q (by decide), fun _ => ⟨fun q => absurd rfl q, fun _ => hQ⟩⟩
        · unfold bx_X12_replicaGets_81
          exact ⟨fun q => absurd q (by decide), fun _ => ⟨fun _ => ⟨fun _ => ⟨fun _ => ⟨fun _ => hQ, fun q => absurd rfl q⟩, fun q => absurd q (by decide)⟩, fun q => absurd q (by decide)⟩, fun q => absurd q (by decide)⟩⟩
      · subst hp
        obtain ⟨Y2, X2, ry, rx, s2, u2⟩ := found_hear S1 hr H1 k1
        refine ⟨Y2, X2, fun Q hQ => py Q ?_, fun Q hQ => px Q ?_, s2, u1.trans u2⟩
        · unfold by_X8_hear_58
          intro x2 e2
          rw [k1] at e2
          subst e2
          refine ⟨fun q => absurd q (by decide), fun _ x5 e5 => ?_⟩
          rw [k1] at e5
          subst e5
          refine ⟨fun q => absurd q (by decide), fun _ => ⟨fun _ => ?_, fun q => absurd q (by decide)⟩⟩
          unfold by_X8_hear_80
          intro x2 e2
          rw [k1] at e2
          subst e2
          refine ⟨fun q => absurd q (by decide), fun _ x5 e5 => ?_⟩
          rw [k1] at e5
          subst e5
          refine ⟨fun q => absurd q (by decide), fun _ x8 e8 => ?_⟩
          rw [k1] at e8
          subst e8
          refine ⟨fun _ => ?_, fun q => absurd q (by decide)⟩
          unfold by_X8_hear_115
          intro x2 e2
          rw [k1] at e2
          subst e2
          exact ⟨fun q => absurd q (by decide), fun q => absurd q (by decide), fun q => absurd q (by decide), fun _ => ry Q hQ, fun q => absurd q (by decide), fun q => absurd q (by decide), fun q => absurd q (by decide), fun q => absurd q (by decide), fun q => absurd q (by decide), fun q => absurd q (by decide), fun q => absurd q (by decide), fun q => absurd q (by decide)⟩
        · unfold bx_X12_replicaGets_81
          exact ⟨fun q => absurd q (by decide), fun _ => ⟨fun _ => ⟨fun _ => ⟨fun _ => ⟨fun q => absurd q (by decide), fun _ => rx Q hQ⟩, fun q => absurd q (by decide)⟩, fun q => absurd q (by decide)⟩, fun q => absurd q (by decide)⟩⟩
    · have k1 : yI Y1 301 o = 3 := k1
      rcases hp01 with hp | hp
      · subst hp
        refine ⟨Y1, X1, fun Q hQ => py Q ?_, fun Q hQ => px Q ?_, S1, u1⟩
        · unfold by_X8_hear_58
          intro x2 e2
          rw [k1] at e2
          subst e2
          refine ⟨fun q => absurd q (by decide), fun _ x5 e5 => ?_⟩
          rw [k1] at e5
          subst e5
          exact ⟨fun q => absurd q (by decide), fun _ => ⟨fun q => absurd rfl q, fun _ => hQ⟩⟩
        · unfold bx_X12_replicaGets_81
          exact ⟨fun q => absurd q (by decide), fun _ => ⟨fun _ => ⟨fun _ => ⟨fun _ => ⟨fun _ => hQ, fun q => absurd rfl q⟩, fun q => absurd q (by decide)⟩, fun q => absurd q (by decide)⟩, fun q => absurd q (by decide)⟩⟩
      · subst hp
        obtain ⟨Y2, X2, ry, rx, s2, u2⟩ := gapCommit_hear S1 hr H1 k1
        refine ⟨Y2, X2, fun Q hQ => py Q ?_, fun Q hQ => px Q ?_, s2, u1.trans u2⟩
        · unfold by_X8_hear_58
          intro x2 e2
          rw [k1] at e2
          subst e2
          refine ⟨fun q => absurd q (by decide), fun _ x5 e5 => ?_⟩
          rw [k1] at e5
          subst e5
          refine ⟨fun q => absurd q (by decide), fun _ => ⟨fun _ => ?_, fun q => absurd q (by decide)⟩⟩
          unfold by_X8_hear_80
          intro x2 e2
          rw [k1] at e2
          subst e2
          refine ⟨fun q => absurd q (by decide), fun _ x5 e5 => ?_⟩
          rw [k1] at e5
          subst e5
          refine ⟨fun q => absurd q (by decide), fun _ x8 e8 => ?_⟩
          rw [k1] at e8
          subst e8
          refine ⟨fun _ => ?_, fun q => absurd q (by decide)⟩
          unfold by_X8_hear_115
          intro x2 e2
          rw [k1] at e2
          subst e2
          exact ⟨fun q => absurd q (by decide), fun q => absurd q (by decide), fun q => absurd q (by decide), fun q => absurd q (by decide), fun _ x26 e26 => by rw [e26]; exact ry Q hQ, fun q => absurd q (by decide), fun q => absurd q (by decide), fun q => absurd q (by decide), fun q => absurd q (by decide), fun q => absurd q (by decide), fun q => absurd q (by decide), fun q => absurd q (by decide)⟩
        · unfold bx_X12_replicaGets_81
          exact ⟨fun q => absurd q (by decide), fun _ => ⟨fun _ => ⟨fun _ => ⟨fun _ => ⟨fun q => absurd q (by decide), fun _ => rx Q hQ⟩, fun q => absurd q (by decide)⟩, fun q => absurd q (by decide)⟩, fun q => absurd q (by decide)⟩⟩
    · have k1 : yI Y1 301 o = 4 := k1
      rcases hp01 with hp | hp
      · subst hp
        refine ⟨Y1, X1, fun Q hQ => py Q ?_, fun Q hQ => px Q ?_, S1, u1⟩
        · unfold by_X8_hear_58
          intro x2 e2
          rw [k1] at e2
          subst e2
          refine ⟨fun q => absurd q (by decide), fun _ x5 e5 => ?_⟩
          rw [k1] at e5
          subst e5
          exact ⟨fun q => absurd q (by decide), fun _ => ⟨fun q => absurd rfl q, fun _ => hQ⟩⟩
        · unfold bx_X12_replicaGets_81
          exact ⟨fun q => absurd q (by decide), fun _ => ⟨fun _ => ⟨fun _ => ⟨fun _ => ⟨fun _ => hQ, fun q => absurd rfl q⟩, fun q => absurd q (by decide)⟩, fun q => absurd q (by decide)⟩, fun q => absurd q (by decide)⟩⟩
      · subst hp
        obtain ⟨Y2, X2, ry, rx, s2, u2⟩ := gapReply_hear S1 hr H1 k1
        refine ⟨Y2, X2, fun Q hQ => py Q ?_, fun Q hQ => px Q ?_, s2, u1.trans u2⟩
        · unfold by_X8_hear_58
          intro x2 e2
          rw [k1] at e2
          subst e2
          refine ⟨fun q => absurd q (by decide), fun _ x5 e5 => ?_⟩
          rw [k1] at e5
          subst e5
          refine ⟨fun q => absurd q (by decide), fun _ => ⟨fun _ => ?_, fun q => absurd q (by decide)⟩⟩
          unfold by_X8_hear_80
          intro x2 e2
          rw [k1] at e2
          subst e2
          refine ⟨fun q => absurd q (by decide), fun _ x5 e5 => ?_⟩
          rw [k1] at e5
          subst e5
          refine ⟨fun q => absurd q (by decide), fun _ x8 e8 => ?_⟩
          rw [k1] at e8
          subst e8
          refine ⟨fun _ => ?_, fun q => absurd q (by decide)⟩
          unfold by_X8_hear_115
          intro x2 e2
          rw [k1] at e2
          subst e2
          exact ⟨fun q => absurd q (by decide), fun q => absurd q (by decide), fun q => absurd q (by decide), fun q => absurd q (by decide), fun q => absurd q (by decide), fun _ => ry Q hQ, fun q => absurd q (by decide), fun q => absurd q (by decide), fun q => absurd q (by decide), fun q => absurd q (by decide), fun q => absurd q (by decide), fun q => absurd q (by decide)⟩
        · unfold bx_X12_replicaGets_81
          exact ⟨fun q => absurd q (by decide), fun _ => ⟨fun _ => ⟨fun _ => ⟨fun _ => ⟨fun q => absurd q (by decide), fun _ => rx Q hQ⟩, fun q => absurd q (by decide)⟩, fun q => absurd q (by decide)⟩, fun q => absurd q (by decide)⟩⟩
    · have k1 : yI Y1 301 o = 5 := k1
      rcases hp01 with hp | hp
      · subst hp
        refine ⟨Y1, X1, fun Q hQ => py Q ?_, fun Q hQ => px Q ?_, S1, u1⟩
        · unfold by_X8_hear_58
          intro x2 e2
          rw [k1] at e2
          subst e2
          refine ⟨fun q => absurd q (by decide), fun _ x5 e5 => ?_⟩
          rw [k1] at e5
          subst e5
          exact ⟨fun q => absurd q (by decide), fun _ => ⟨fun q => absurd rfl q, fun _ => hQ⟩⟩
        · unfold bx_X12_replicaGets_81
          exact ⟨fun q => absurd q (by decide), fun _ => ⟨fun _ => ⟨fun _ => ⟨fun _ => ⟨fun _ => hQ, fun q => absurd rfl q⟩, fun q => absurd q (by decide)⟩, fun q => absurd q (by decide)⟩, fun q => absurd q (by decide)⟩⟩
      · subst hp
        obtain ⟨Y2, X2, ry, rx, s2, u2⟩ := sync_hear S1 hr H1 k1 ho
        refine ⟨Y2, X2, fun Q hQ => py Q ?_, fun Q hQ => px Q ?_, s2, u1.trans u2⟩
        · unfold by_X8_hear_58
          intro x2 e2
          rw [k1] at e2
          subst e2
          refine ⟨fun q => absurd q (by decide), fun _ x5 e5 => ?_⟩
          rw [k1] at e5
          subst e5
          refine ⟨fun q => absurd q (by decide), fun _ => ⟨fun _ => ?_, fun q => absurd q (by decide)⟩⟩
          unfold by_X8_hear_80
          intro x2 e2
          rw [k1] at e2
          subst e2
          refine ⟨fun q => absurd q (by decide), fun _ x5 e5 => ?_⟩
          rw [k1] at e5
          subst e5
          refine ⟨fun q => absurd q (by decide), fun _ x8 e8 => ?_⟩
          rw [k1] at e8
          subst e8
          refine ⟨fun _ => ?_, fun q => absurd q (by decide)⟩
          unfold by_X8_hear_115
          intro x2 e2
          rw [k1] at e2
          subst e2
          exact ⟨fun q => absurd q (by decide), fun q => absurd q (by decide), fun q => absurd q (by decide), fun q => absurd q (by decide), fun q => absurd q (by decide), fun q => absurd q (by decide), fun _ => ry Q hQ, fun q => absurd q (by decide), fun q => absurd q (by decide), fun q => absurd q (by decide), fun q => absurd q (by decide), fun q => absurd q (by decide)⟩
        · unfold bx_X12_replicaGets_81
          exact ⟨fun q => absurd q (by decide), fun _ => ⟨fun _ => ⟨fun _ => ⟨fun _ => ⟨fun q => absurd q (by decide), fun _ => rx Q hQ⟩, fun q => absurd q (by decide)⟩, fun q => absurd q (by decide)⟩, fun q => absurd q (by decide)⟩⟩
    · have k1 : yI Y1 301 o = 6 := k1
      rcases hp01 with hp | hp
      · subst hp
        refine ⟨Y1, X1, fun Q hQ => py Q ?_, fun Q hQ => px Q ?_, S1, u1⟩
        · unfold by_X8_hear_58
          intro x2 e2
          rw [k1] at e2
          subst e2
          refine ⟨fun q => absurd q (by decide), fun _ x5 e5 => ?_⟩
          rw [k1] at e5
          subst e5
          exact ⟨fun q => absurd q (by decide), fun _ => ⟨fun q => absurd rfl q, fun _ => hQ⟩⟩
        · unfold bx_X12_replicaGets_81
          exact ⟨fun q => absurd q (by decide), fun _ => ⟨fun _ => ⟨fun _ => ⟨fun _ => ⟨fun _ => hQ, fun q => absurd rfl q⟩, fun q => absurd q (by decide)⟩, fun q => absurd q (by decide)⟩, fun q => absurd q (by decide)⟩⟩
      · subst hp
        obtain ⟨Y2, X2, ry, rx, s2, u2⟩ := syncReply_hear S1 hr H1 k1
        refine ⟨Y2, X2, fun Q hQ => py Q ?_, fun Q hQ => px Q ?_, s2, u1.trans u2⟩
        · unfold by_X8_hear_58
          intro x2 e2
          rw [k1] at e2
          subst e2
          refine ⟨fun q => absurd q (by decide), fun _ x5 e5 => ?_⟩
          rw [k1] at e5
          subst e5
          refine ⟨fun q => absurd q (by decide), fun _ => ⟨fun _ => ?_, fun q => absurd q (by decide)⟩⟩
          unfold by_X8_hear_80
          intro x2 e2
          rw [k1] at e2
          subst e2
          refine ⟨fun q => absurd q (by decide), fun _ x5 e5 => ?_⟩
          rw [k1] at e5
          subst e5
          refine ⟨fun q => absurd q (by decide), fun _ x8 e8 => ?_⟩
          rw [k1] at e8
          subst e8
          refine ⟨fun _ => ?_, fun q => absurd q (by decide)⟩
          unfold by_X8_hear_115
          intro x2 e2
          rw [k1] at e2
          subst e2
          exact ⟨fun q => absurd q (by decide), fun q => absurd q (by decide), fun q => absurd q (by decide), fun q => absurd q (by decide), fun q => absurd q (by decide), fun q => absurd q (by decide), fun q => absurd q (by decide), fun _ => ry Q hQ, fun q => absurd q (by decide), fun q => absurd q (by decide), fun q => absurd q (by decide), fun q => absurd q (by decide)⟩
        · unfold bx_X12_replicaGets_81
          exact ⟨fun q => absurd q (by decide), fun _ => ⟨fun _ => ⟨fun _ => ⟨fun _ => ⟨fun q => absurd q (by decide), fun _ => rx Q hQ⟩, fun q => absurd q (by decide)⟩, fun q => absurd q (by decide)⟩, fun q => absurd q (by decide)⟩⟩
    · have k1 : yI Y1 301 o = 7 := k1
      rcases hp01 with hp | hp
      · subst hp
        refine ⟨Y1, X1, fun Q hQ => py Q ?_, fun Q hQ => px Q ?_, S1, u1⟩
        · unfold by_X8_hear_58
          intro x2 e2
          rw [k1] at e2
          subst e2
          refine ⟨fun q => absurd q (by decide), fun _ x5 e5 => ?_⟩
          rw [k1] at e5
          subst e5
          exact ⟨fun q => absurd q (by decide), fun _ => ⟨fun q => absurd rfl q, fun _ => hQ⟩⟩
        · unfold bx_X12_replicaGets_81
          exact ⟨fun q => absurd q (by decide), fun _ => ⟨fun _ => ⟨fun _ => ⟨fun _ => ⟨fun _ => hQ, fun q => absurd rfl q⟩, fun q => absurd q (by decide)⟩, fun q => absurd q (by decide)⟩, fun q => absurd q (by decide)⟩⟩
      · subst hp
        obtain ⟨Y2, X2, ry, rx, s2, u2⟩ := point_hear S1 hr H1 k1
        refine ⟨Y2, X2, fun Q hQ => py Q ?_, fun Q hQ => px Q ?_, s2, u1.trans u2⟩
        · unfold by_X8_hear_58
          intro x2 e2
          rw [k1] at e2
          subst e2
          refine ⟨fun q => absurd q (by decide), fun _ x5 e5 => ?_⟩
          rw [k1] at e5
          subst e5
          refine ⟨fun q => absurd q (by decide), fun _ => ⟨fun _ => ?_, fun q => absurd q (by decide)⟩⟩
          unfold by_X8_hear_80
          intro x2 e2
          rw [k1] at e2
          subst e2
          refine ⟨fun q => absurd q (by decide), fun _ x5 e5 => ?_⟩
          rw [k1] at e5
          subst e5
          refine ⟨fun q => absurd q (by decide), fun _ x8 e8 => ?_⟩
          rw [k1] at e8
          subst e8
          refine ⟨fun _ => ?_, fun q => absurd q (by decide)⟩
          unfold by_X8_hear_115
          intro x2 e2
          rw [k1] at e2
          subst e2
          exact ⟨fun q => absurd q (by decide), fun q => absurd q (by decide), fun q => absurd q (by decide), fun q => absurd q (by decide), fun q => absurd q (by decide), fun q => absurd q (by decide), fun q => absurd q (by decide), fun q => absurd q (by decide), fun _ x26 e26 => by rw [e26]; exact ry Q hQ, fun q => absurd q (by decide), fun q => absurd q (by decide), fun q => absurd q (by decide)⟩
        · unfold bx_X12_replicaGets_81
          exact ⟨fun q => absurd q (by decide), fun _ => ⟨fun _ => ⟨fun _ => ⟨fun _ => ⟨fun q => absurd q (by decide), fun _ => rx Q hQ⟩, fun q => absurd q (by decide)⟩, fun q => absurd q (by decide)⟩, fun q => absurd q (by decide)⟩⟩
    · have k1 : yI Y1 301 o = 8 := k1
      obtain ⟨ml, me, f, t, hml, hme, hf, ht, m4, ef, et, b0, b1, _, b3, b4⟩ := H1.hd (by rw [k1]; decide) (by rw [k1]; decide) hn
      obtain ⟨Y3, X3, ry, rx, S3, h3, u3⟩ := follow_sim S1 hr hml hme
      have H3 := h3 o l H1
      have k3 : yI Y3 301 o = 8 := by
        have e1 := H1.2.1
        have e3 := H3.2.1
        have e4 : encM Y3 o = encM Y1 o := e3.trans e1.symm
        have z1 : (encM Y1 o).getD 0 0 = yI Y1 301 o := rfl
        have z3 : (encM Y3 o).getD 0 0 = yI Y3 301 o := rfl
        rw [e4, z1] at z3
        rw [← z3]; exact k1
      have joins : ∀ Q : Xc → Prop, (wx_X12_joins (nI r) (nI ml) (nI me) X1 Q) → bx_X12_replicaGets_93 Q (nI r) X1 := fun Q h => by
        unfold bx_X12_replicaGets_93
        refine ⟨v640 (j := 3) (by omega), fun x2 e2 => ⟨v640 (j := 4) (by omega), fun x5 e5 => ?_⟩⟩
        have e2 : x2 = nI ml := e2.trans b3
        have e5 : x5 = nI me := e5.trans b4
        subst e2; subst e5
        exact h
      refine ⟨Y3, X3, fun Q hQ => py Q ?_, fun Q hQ => px Q ?_, S3, u1.trans u3⟩
      · skip
        unfold by_X8_hear_58
        intro x2 e2
        rw [k1] at e2
        subst e2
        refine ⟨fun q => absurd q (by decide), fun _ x5 e5 => ?_⟩
        rw [k1] at e5
        subst e5
        refine ⟨fun _ => ?_, fun q => absurd (by decide) q⟩
        unfold by_X8_hear_80
        intro x2 e2
        rw [k1] at e2
        subst e2
        refine ⟨fun _ => ?_, fun q => absurd rfl q⟩
        unfold by_X8_hear_107
        intro y2 e2
        rw [m4] at e2
        subst e2
        refine ry _ ?_
        unfold by_X8_hear_115
        intro x2 e2
        rw [k3] at e2
        subst e2
        exact ⟨fun q => absurd q (by decide), fun q => absurd q (by decide), fun q => absurd q (by decide), fun q => absurd q (by decide), fun q => absurd q (by decide), fun q => absurd q (by decide), fun q => absurd q (by decide), fun q => absurd q (by decide), fun q => absurd q (by decide), fun _ => hQ, fun q => absurd q (by decide), fun q => absurd q (by decide)⟩
      · unfold bx_X12_replicaGets_81
        exact ⟨fun _ => joins Q (rx Q hQ), fun q => absurd rfl q⟩
    · have k1 : yI Y1 301 o = 9 := k1
      obtain ⟨ml, me, f, t, hml, hme, hf, ht, m4, ef, et, b0, b1, _, b3, b4⟩ := H1.hd (by rw [k1]; decide) (by rw [k1]; decide) hn
      obtain ⟨Y3, X3, ry, rx, S3, h3, u3⟩ := follow_sim S1 hr hml hme
      have H3 := h3 o l H1
      have k3 : yI Y3 301 o = 9 := by
        have e1 := H1.2.1
        have e3 := H3.2.1
        have e4 : encM Y3 o = encM Y1 o := e3.trans e1.symm
        have z1 : (encM Y1 o).getD 0 0 = yI Y1 301 o := rfl
        have z3 : (encM Y3 o).getD 0 0 = yI Y3 301 o := rfl
        rw [e4, z1] at z3
        rw [← z3]; exact k1
      have joins : ∀ Q : Xc → Prop, (wx_X12_joins (nI r) (nI ml) (nI me) X1 Q) → bx_X12_replicaGets_93 Q (nI r) X1 := fun Q h => by
        unfold bx_X12_replicaGets_93
        refine ⟨v640 (j := 3) (by omega), fun x2 e2 => ⟨v640 (j := 4) (by omega), fun x5 e5 => ?_⟩⟩
        have e2 : x2 = nI ml := e2.trans b3
        have e5 : x5 = nI me := e5.trans b4
        subst e2; subst e5
        exact h
      have t3 : yI Y3 303 o = nI r := by
        have e4 : encM Y3 o = encM Y1 o := H3.2.1.trans H1.2.1.symm
        have z1 : (encM Y1 o).getD 2 0 = yI Y1 303 o := by unfold encM; rw [k1]; rfl
        have z3 : (encM Y3 o).getD 2 0 = yI Y3 303 o := by unfold encM; rw [k3]; rfl
        rw [e4, z1] at z3
        rw [← z3]; exact hto1
      have b13 : X3.2 15 1 = nI f := by
        have r1 := H1.2.2.2.1 1
        have r3 := H3.2.2.2.1 1
        have hl1 : 1 < l.length := by rw [← H1.2.1]; unfold encM; simp
        exact (r3 hl1).trans ((r1 hl1).symm.trans b1)
      obtain ⟨Y4, X4, ry4, rx4, S4, u4⟩ := turned_hear S3 hr H3 k3 ho t3 b13
      refine ⟨Y4, X4, fun Q hQ => py Q ?_, fun Q hQ => px Q ?_, S4, u1.trans (u3.trans u4)⟩
      · skip
        unfold by_X8_hear_58
        intro x2 e2
        rw [k1] at e2
        subst e2
        refine ⟨fun q => absurd q (by decide), fun _ x5 e5 => ?_⟩
        rw [k1] at e5
        subst e5
        refine ⟨fun _ => ?_, fun q => absurd (by decide) q⟩
        unfold by_X8_hear_80
        intro x2 e2
        rw [k1] at e2
        subst e2
        refine ⟨fun q => absurd q (by decide), fun _ x5 e5 => ?_⟩
        rw [k1] at e5
        subst e5
        refine ⟨fun _ => ?_, fun q => absurd rfl q⟩
        unfold by_X8_hear_107
        intro y2 e2
        rw [m4] at e2
        subst e2
        refine ry _ ?_
        unfold by_X8_hear_115
        intro x2 e2
        rw [k3] at e2
        subst e2
        exact ⟨fun q => absurd q (by decide), fun q => absurd q (by decide), fun q => absurd q (by decide), fun q => absurd q (by decide), fun q => absurd q (by decide), fun q => absurd q (by decide), fun q => absurd q (by decide), fun q => absurd q (by decide), fun q => absurd q (by decide), fun q => absurd q (by decide), fun _ => ry4 Q hQ, fun q => absurd q (by decide)⟩
      · unfold bx_X12_replicaGets_81
        refine ⟨fun q => absurd q (by decide), fun _ => ⟨fun _ => ⟨fun q => absurd rfl q, fun _ => ?_⟩, fun q => absurd q (by decide)⟩⟩
        unfold wx_X12_getsTurned
        refine ⟨v640 (j := 1) (by omega), fun x2 e2 => ⟨v640 (j := 3) (by omega), fun x5 e5 => ⟨v640 (j := 4) (by omega), fun x8 e8 => ?_⟩⟩⟩
        have e2 : x2 = nI f := e2.trans b1
        have e5 : x5 = nI ml := e5.trans b3
        have e8 : x8 = nI me := e8.trans b4
        subst e2; subst e5; subst e8
        exact rx _ (rx4 Q hQ)
    · have k1 : yI Y1 301 o = 10 := k1
      obtain ⟨Y4, X4, ry4, rx4, S4, u4⟩ := start_hear S1 hr H1 k1 ho hpv
      refine ⟨Y4, X4, fun Q hQ => py Q ?_, fun Q hQ => px Q ?_, S4, u1.trans u4⟩
      · skip
        unfold by_X8_hear_58
        intro x2 e2
        rw [k1] at e2
        subst e2
        refine ⟨fun q => absurd q (by decide), fun _ x5 e5 => ?_⟩
        rw [k1] at e5
        subst e5
        refine ⟨fun _ => ?_, fun q => absurd (by decide) q⟩
        unfold by_X8_hear_80
        intro x2 e2
        rw [k1] at e2
        subst e2
        refine ⟨fun q => absurd q (by decide), fun _ x5 e5 => ?_⟩
        rw [k1] at e5
        subst e5
        refine ⟨fun q => absurd q (by decide), fun _ x8 e8 => ?_⟩
        rw [k1] at e8
        subst e8
        refine ⟨fun _ => ?_, fun q => absurd q (by decide)⟩
        unfold by_X8_hear_115
        intro x2 e2
        rw [k1] at e2
        subst e2
        exact ⟨fun q => absurd q (by decide), fun q => absurd q (by decide), fun q => absurd q (by decide), fun q => absurd q (by decide), fun q => absurd q (by decide), fun q => absurd q (by decide), fun q => absurd q (by decide), fun q => absurd q (by decide), fun q => absurd q (by decide), fun q => absurd q (by decide), fun q => absurd q (by decide), fun _ => ry4 Q hQ⟩
      · unfold bx_X12_replicaGets_81
        exact ⟨fun q => absurd q (by decide), fun _ => ⟨fun _ => ⟨fun _ => ⟨fun q => absurd rfl q, fun _ => rx4 Q hQ⟩, fun q => absurd q (by decide)⟩, fun q => absurd q (by decide)⟩⟩
    · have k1 : yI Y1 301 o = 12 := k1
      obtain ⟨ml, me, f, t, hml, hme, hf, ht, m4, ef, et, b0, b1, _, b3, b4⟩ := H1.hd (by rw [k1]; decide) (by rw [k1]; decide) hn
      obtain ⟨Y3, X3, ry, rx, S3, h3, u3⟩ := follow_sim S1 hr hml hme
      have H3 := h3 o l H1
      have k3 : yI Y3 301 o = 12 := by
        have e1 := H1.2.1
        have e3 := H3.2.1
        have e4 : encM Y3 o = encM Y1 o := e3.trans e1.symm
        have z1 : (encM Y1 o).getD 0 0 = yI Y1 301 o := rfl
        have z3 : (encM Y3 o).getD 0 0 = yI Y3 301 o := rfl
        rw [e4, z1] at z3
        rw [← z3]; exact k1
      have joins : ∀ Q : Xc → Prop, (wx_X12_joins (nI r) (nI ml) (nI me) X1 Q) → bx_X12_replicaGets_93 Q (nI r) X1 := fun Q h => by
        unfold bx_X12_replicaGets_93
        refine ⟨v640 (j := 3) (by omega), fun x2 e2 => ⟨v640 (j := 4) (by omega), fun x5 e5 => ?_⟩⟩
        have e2 : x2 = nI ml := e2.trans b3
        have e5 : x5 = nI me := e5.trans b4
        subst e2; subst e5
        exact h
      refine ⟨Y3, X3, fun Q hQ => py Q ?_, fun Q hQ => px Q ?_, S3, u1.trans u3⟩
      · skip
        unfold by_X8_hear_58
        intro x2 e2
        rw [k1] at e2
        subst e2
        refine ⟨fun q => absurd q (by decide), fun _ x5 e5 => ?_⟩
        rw [k1] at e5
        subst e5
        refine ⟨fun _ => ?_, fun q => absurd (by decide) q⟩
        unfold by_X8_hear_80
        intro x2 e2
        rw [k1] at e2
        subst e2
        refine ⟨fun q => absurd q (by decide), fun _ x5 e5 => ?_⟩
        rw [k1] at e5
        subst e5
        refine ⟨fun q => absurd q (by decide), fun _ x8 e8 => ?_⟩
        rw [k1] at e8
        subst e8
        refine ⟨fun q => absurd rfl q, fun _ => ?_⟩
        unfold by_X8_hear_107
        intro y2 e2
        rw [m4] at e2
        subst e2
        refine ry _ ?_
        unfold by_X8_hear_115
        intro x2 e2
        rw [k3] at e2
        subst e2
        exact ⟨fun _ => hQ, fun q => absurd q (by decide), fun q => absurd q (by decide), fun q => absurd q (by decide), fun q => absurd q (by decide), fun q => absurd q (by decide), fun q => absurd q (by decide), fun q => absurd q (by decide), fun q => absurd q (by decide), fun q => absurd q (by decide), fun q => absurd q (by decide), fun q => absurd q (by decide)⟩
      · unfold bx_X12_replicaGets_81
        exact ⟨fun q => absurd q (by decide), fun _ => ⟨fun q => absurd rfl q, fun _ => joins Q (rx Q hQ)⟩⟩
end
