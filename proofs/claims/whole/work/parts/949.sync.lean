section
variable {n K : Nat} {Y Y2 : Yc} {X X2 : Xc} {r : Nat}
theorem point_sim (S : Sim n K Y X) (hr : r < n) {p : Int32} (hp : Sm K p) : Sim n K (uI Y 808 r p) (xA X 28 r p) := by
  refine sim_rep S hr (RgY.rf.wI (by omega) _) (RgX.rf.wA (by omega) _) ⟨?_, S.lg hr, S.hd hr, S.ct hr, S.ch hr⟩
  obtain ⟨a1, a2, a3, a4, a5, a6, a7, a8, a9, a10, a11, a12, a13, a14, a15, a16, a17, a18, a19⟩ := S.rp hr
  refine ⟨a1, a2, a3, a4, a5, ?_, a7, a8, a9, a10, a11, a12, a13, a14, a15, a16, a17, a18, ?_⟩
  · rw [yII, if_pos ⟨rfl, rfl⟩, xAA, if_pos ⟨rfl, rfl⟩]
  · rw [xAA, if_pos ⟨rfl, rfl⟩]; exact hp
theorem point_hear (S : Sim n K Y X) (hr : r < n) {o : Nat} {l : List Int32} (H : Han n K Y X o l) (hk : yI Y 301 o = 7) :
    ∃ Y2 X2, (∀ Q : Yc → Prop, Q Y2 → wy_X8_hearPoint n r (yI Y 306 o) Y Q) ∧ (∀ Q : Xc → Prop, Q X2 → wx_X12_getsInView (nI r) 7 X Q) ∧ Sim n K Y2 X2 ∧ Up X X2 := by
  have hn := S.sc.n7
  have hcr : (nI r).toNatClampNeg = r := nI_clamp (by omega)
  have hvr : vp_in (nI r) 7 := vp_in_nI (by omega) (by omega)
  have R := S.rp hr
  have a5 := H.slot (Or.inr (Or.inr (Or.inr (Or.inr hk)))) hn
  have hm := H.2.2.1.2.2.2.2.2.1
  have yg : ∀ Q : Yc → Prop, ((¬ lds n X r = 0 → Q Y) ∧ (lds n X r = 0 → ((X.2 23 r = 2 → Q Y) ∧ (¬ X.2 23 r = 2 → ((yI Y 306 o ≤ X.2 28 r → Q Y) ∧ (¬ yI Y 306 o ≤ X.2 28 r → ((X.2 29 r < yI Y 306 o → Q Y) ∧ (¬ X.2 29 r < yI Y 306 o → Q (uI Y 808 r (yI Y 306 o)))))))))) → wy_X8_hearPoint n r (yI Y 306 o) Y Q := fun Q h => by
    unfold wy_X8_hearPoint
    refine y_leads S hr _ ⟨h.1, fun q1 x9 e9 => ?_⟩
    rw [R.sta] at e9
    subst e9
    refine ⟨(h.2 q1).1, fun q2 x12 e12 => ?_⟩
    rw [R.pnt] at e12
    subst e12
    refine ⟨((h.2 q1).2 q2).1, fun q3 x15 e15 => ?_⟩
    rw [R.syn] at e15
    subst e15
    exact ((h.2 q1).2 q2).2 q3
  have xg : ∀ Q : Xc → Prop, ((¬ lds n X r = 0 → Q X) ∧ (lds n X r = 0 → ((X.2 23 r = 2 → Q X) ∧ (¬ X.2 23 r = 2 → ((yI Y 306 o ≤ X.2 28 r → Q X) ∧ (¬ yI Y 306 o ≤ X.2 28 r → ((X.2 29 r < yI Y 306 o → Q X) ∧ (¬ X.2 29 r < yI Y 306 o → Q (xA X 28 r (yI Y 306 o)))))))))) → wx_X12_getsInView (nI r) 7 X Q := fun Q h => by
    unfold wx_X12_getsInView
    rw [hcr]
    refine ⟨v640 (j := 5) (by omega), fun x2 e2 => ?_⟩
    have e2 : x2 = yI Y 306 o := e2.trans a5
    subst e2
    refine ⟨fun _ => x_leads S hr _ ⟨h.1, fun q1 => ⟨hvr, fun x11 e11 => ?_⟩⟩, fun h => absurd h (by decide), fun h => absurd h (by decide), fun h => absurd h (by decide), fun h => absurd h (by decide), fun h => absurd h (by decide), fun h => absurd h (by decide)⟩
    subst e11
    refine ⟨(h.2 q1).1, fun q2 => ⟨hvr, fun x15 e15 => ?_⟩⟩
    subst e15
    refine ⟨((h.2 q1).2 q2).1, fun q3 => ⟨hvr, fun x19 e19 => ?_⟩⟩
    subst e19
    exact ⟨(((h.2 q1).2 q2).2 q3).1, fun q4 => ⟨hvr, (((h.2 q1).2 q2).2 q3).2 q4⟩⟩
  by_cases hd : lds n X r = 0
  · by_cases hs : X.2 23 r = 2
    · exact ⟨Y, X, fun Q hQ => yg Q ⟨fun h => absurd hd h, fun _ => ⟨fun _ => hQ, fun h => absurd hs h⟩⟩, fun Q hQ => xg Q ⟨fun h => absurd hd h, fun _ => ⟨fun _ => hQ, fun h => absurd hs h⟩⟩, S, Up.rf⟩
    · by_cases hp : yI Y 306 o ≤ X.2 28 r
      · exact ⟨Y, X, fun Q hQ => yg Q ⟨fun h => absurd hd h, fun _ => ⟨fun h => absurd h hs, fun _ => ⟨fun _ => hQ, fun h => absurd hp h⟩⟩⟩, fun Q hQ => xg Q ⟨fun h => absurd hd h, fun _ => ⟨fun h => absurd h hs, fun _ => ⟨fun _ => hQ, fun h => absurd hp h⟩⟩⟩, S, Up.rf⟩
      · by_cases hy : X.2 29 r < yI Y 306 o
        · exact ⟨Y, X, fun Q hQ => yg Q ⟨fun h => absurd hd h, fun _ => ⟨fun h => absurd h hs, fun _ => ⟨fun h => absurd h hp, fun _ => ⟨fun _ => hQ, fun h => absurd hy h⟩⟩⟩⟩, fun Q hQ => xg Q ⟨fun h => absurd hd h, fun _ => ⟨fun h => absurd h hs, fun _ => ⟨fun h => absurd h hp, fun _ => ⟨fun _ => hQ, fun h => absurd hy h⟩⟩⟩⟩, S, Up.rf⟩
        · exact ⟨_, _, fun Q hQ => yg Q ⟨fun h => absurd hd h, fun _ => ⟨fun h => absurd h hs, fun _ => ⟨fun h => absurd h hp, fun _ => ⟨fun h => absurd h hy, fun _ => hQ⟩⟩⟩⟩, fun Q hQ => xg Q ⟨fun h => absurd hd h, fun _ => ⟨fun h => absurd h hs, fun _ => ⟨fun h => absurd h hp, fun _ => ⟨fun h => absurd h hy, fun _ => hQ⟩⟩⟩⟩, point_sim S hr hm, Up.rf⟩
  · exact ⟨Y, X, fun Q hQ => yg Q ⟨fun _ => hQ, fun h => absurd h hd⟩, fun Q hQ => xg Q ⟨fun _ => hQ, fun h => absurd h hd⟩, S, Up.rf⟩
theorem syncReply_hear (S : Sim n K Y X) (hr : r < n) {o : Nat} {l : List Int32} (H : Han n K Y X o l) (hk : yI Y 301 o = 6) :
    ∃ Y2 X2, (∀ Q : Yc → Prop, Q Y2 → wy_X8_hearSyncReply n r o Y Q) ∧ (∀ Q : Xc → Prop, Q X2 → wx_X12_getsInView (nI r) 6 X Q) ∧ Sim n K Y2 X2 ∧ Up X X2 := by
  have hn := S.sc.n7
  have hcr : (nI r).toNatClampNeg = r := nI_clamp (by omega)
  have hvr : vp_in (nI r) 7 := vp_in_nI (by omega) (by omega)
  have R := S.rp hr
  have a5 := H.slot (Or.inr (Or.inr (Or.inr (Or.inl hk)))) hn
  have hm := H.2.2.1.2.2.2.2.2.1
  obtain ⟨ml, me, f, t, hml, hme, hf, ht, m4, ef, et, _, b1, _⟩ := H.hd (by rw [hk]; decide) (by rw [hk]; decide) hn
  generalize hx : yI Y 306 o = x at *
  obtain ⟨b, eb⟩ : ∃ b : Int32, b = if X.2 44 r = x then X.2 45 r else 0 := ⟨_, rfl⟩
  have hb : Sm 127 b := by
    rw [eb]
    split
    · exact (S.ct hr).2.2.2.2
    · exact ⟨0, by omega, rfl⟩
  obtain ⟨a, ea⟩ : ∃ a : Int32, a = b ||| ((1 : Int32) <<< (nI f &&& 31)) := ⟨_, rfl⟩
  have ha : Sm 127 a := by rw [ea]; exact or_Sm hb (by omega)
  have ct := S.ct hr
  -- the class's state when counted
  have y56 : ∀ (Q : Yc → Prop), ((bS a 7 < nI (n / 2) → Q (uI (uI (uI Y 503 r (X.2 43 r)) 505 r x) 504 r a)) ∧ (¬ bS a 7 < nI (n / 2) → wy_X8_sendOthers n r 7 x (uI (uI (uI (uI Y 503 r (X.2 43 r)) 505 r x) 504 r a) 808 r x) Q)) → ((x = X.2 44 r → by_X8_hearSyncReply_56 n r Q o x Y) ∧ (¬ x = X.2 44 r → by_X8_hearSyncReply_56 n r Q o x (uI (uI Y 505 r x) 504 r (0 : Int32)))) := fun Q h => by
    rw [y_same (Y := Y) (c := 503) (o := r) ct.1] at h
    refine ⟨fun q => ?_, fun q => ?_⟩
    · rw [if_pos q.symm] at eb
      rw [y_same (Y := Y) (c := 505) (o := r) (by rw [ct.2.2.1, q])] at h
      unfold by_X8_hearSyncReply_56
      intro x5 e5 x8 e8 x10 e10 x15 e15
      rw [ct.2.1, ← eb] at e5
      rw [ef] at e8
      subst e5; subst e8
      have e10 : x10 = a := e10.trans ea.symm
      subst e10
      rw [yII, if_pos ⟨rfl, rfl⟩] at e15
      subst e15
      refine y_bits _ _ (fun x26 e26 => ?_)
      have e26 : x26 = nI (n / 2) := e26.trans S.sc.y401
      subst e26
      rw [ha.bits]
      exact h
    · have q' : ¬ X.2 44 r = x := fun e => q e.symm
      rw [if_neg q'] at eb
      have hw : uI (uI (uI Y 505 r x) 504 r 0) 504 r a = uI (uI Y 505 r x) 504 r a := by
        unfold uI
        congr 1
        funext c' o'
        show (if c' = 504 ∧ o' = r then a else if c' = 504 ∧ o' = r then 0 else _) = if c' = 504 ∧ o' = r then a else _
        split
        · rfl
        · rfl
      unfold by_X8_hearSyncReply_56
      intro x5 e5 x8 e8 x10 e10 x15 e15
      rw [yII, if_pos ⟨rfl, rfl⟩, ← eb] at e5
      have e8 : x8 = nI f := e8.trans ef
      subst e5; subst e8
      have e10 : x10 = a := e10.trans ea.symm
      subst e10
      rw [yII, if_pos ⟨rfl, rfl⟩] at e15
      subst e15
      rw [hw]
      refine y_bits _ _ (fun x26 e26 => ?_)
      have e26 : x26 = nI (n / 2) := e26.trans S.sc.y401
      subst e26
      rw [ha.bits]
      exact h
  have x17 : ∀ (Q : Xc → Prop), ((nI (n / 2) ≤ bS a 7 → wx_X12_tellOthers 7 (nI r) x (xA (xA (xA (xA X 43 r (X.2 43 r)) 44 r x) 45 r a) 28 r x) Q) ∧ (¬ nI (n / 2) ≤ bS a 7 → Q (xA (xA (xA X 43 r (X.2 43 r)) 44 r x) 45 r a))) → wx_X12_replySync (nI r) x X Q := fun Q h => by
    rw [xA_same] at h
    have run : ∀ X1 : Xc, X1.2 45 r = b → X1.2 15 = X.2 15 → X1.1 = X.1 → xA (xA X1 44 r x) 45 r a = xA (xA X 44 r x) 45 r a → bx_X12_replySync_17 Q (nI r) x X1 := fun X1 h1 h2 h3 h4 => by
      unfold bx_X12_replySync_17
      rw [hcr]
      refine ⟨hvr, hvr, fun x3 e3 => ⟨v640 (j := 1) (by omega), fun x6 e6 x8 e8 => ⟨hvr, hvr, fun x11 e11 => ?_⟩⟩⟩
      have e3 : x3 = b := e3.trans h1
      have e6 : x6 = nI f := by rw [e6]; show X1.2 15 _ = _; rw [h2]; exact b1
      subst e3; subst e6
      have e8 : x8 = a := e8.trans ea.symm
      subst e8
      rw [xAA, if_pos ⟨rfl, rfl⟩] at e11
      subst e11
      rw [h4]
      refine x_bits _ _ (fun x17 e17 => ?_)
      have e17 : x17 = nI (n / 2) := e17.trans S.sc.x2
      subst e17
      exact ⟨fun q => ⟨hvr, h.1 q⟩, h.2⟩
    unfold wx_X12_replySync
    rw [hcr]
    refine ⟨hvr, fun x2 e2 => ?_⟩
    subst e2
    refine ⟨fun q => ?_, fun q => ⟨hvr, ?_⟩⟩
    · rw [if_pos q] at eb
      exact run X eb.symm rfl rfl rfl
    · rw [if_neg q] at eb
      refine run _ (by rw [xAA, if_pos ⟨rfl, rfl⟩]; exact eb.symm) ?_ rfl ?_
      · funext i
        rw [xAA, if_neg (by omega)]
      · refine Prod.ext rfl ?_
        funext k' i'
        simp only [xAA]
        by_cases e1 : k' = 45 ∧ i' = r
        · rw [if_pos e1, if_pos e1]
        · rw [if_neg e1, if_neg e1, if_neg e1]
  have yg : ∀ Q : Yc → Prop, ((lds n X r = 0 → Q Y) ∧ (¬ lds n X r = 0 → ((X.2 23 r = 2 → Q Y) ∧ (¬ X.2 23 r = 2 → ((X.2 28 r < x → ((bS a 7 < nI (n / 2) → Q (uI (uI (uI Y 503 r (X.2 43 r)) 505 r x) 504 r a)) ∧ (¬ bS a 7 < nI (n / 2) → wy_X8_sendOthers n r 7 x (uI (uI (uI (uI Y 503 r (X.2 43 r)) 505 r x) 504 r a) 808 r x) Q))) ∧ (¬ X.2 28 r < x → Q Y)))))) → wy_X8_hearSyncReply n r o Y Q := fun Q h => by
    unfold wy_X8_hearSyncReply
    intro x2 e2
    rw [hx] at e2
    subst e2
    refine y_leads S hr _ ⟨h.1, fun q1 x12 e12 => ?_⟩
    rw [R.sta] at e12
    subst e12
    refine ⟨(h.2 q1).1, fun q2 x15 e15 => ?_⟩
    rw [R.pnt] at e15
    subst e15
    refine ⟨fun q3 x20 e20 => ?_, ((h.2 q1).2 q2).2⟩
    rw [ct.2.2.1] at e20
    subst e20
    exact y56 Q (((h.2 q1).2 q2).1 q3)
  have xg : ∀ Q : Xc → Prop, ((lds n X r = 0 → Q X) ∧ (¬ lds n X r = 0 → ((X.2 23 r = 2 → Q X) ∧ (¬ X.2 23 r = 2 → ((x ≤ X.2 28 r → Q X) ∧ (¬ x ≤ X.2 28 r → wx_X12_replySync (nI r) x X Q)))))) → wx_X12_getsInView (nI r) 6 X Q := fun Q h => by
    unfold wx_X12_getsInView
    rw [hcr]
    refine ⟨v640 (j := 5) (by omega), fun x2 e2 => ?_⟩
    have e2 : x2 = x := e2.trans a5
    subst e2
    refine ⟨fun h => absurd h (by decide), fun h => absurd h (by decide), fun h => absurd h (by decide), fun h => absurd h (by decide), fun h => absurd h (by decide), fun h => absurd h (by decide), fun _ => x_leads S hr _ ⟨h.1, fun q1 => ⟨hvr, fun x116 e116 => ?_⟩⟩⟩
    subst e116
    refine ⟨(h.2 q1).1, fun q2 => ⟨hvr, fun x120 e120 => ?_⟩⟩
    subst e120
    exact (h.2 q1).2 q2
  rcases lds_01 (n := n) (X := X) (r := r) with hd | hd
  · exact ⟨Y, X, fun Q hQ => yg Q ⟨fun _ => hQ, fun h => absurd hd h⟩, fun Q hQ => xg Q ⟨fun _ => hQ, fun h => absurd hd h⟩, S, Up.rf⟩
  · have hd0 : ¬ lds n X r = 0 := by rw [hd]; decide
    by_cases hs : X.2 23 r = 2
    · exact ⟨Y, X, fun Q hQ => yg Q ⟨fun h => absurd h hd0, fun _ => ⟨fun _ => hQ, fun h => absurd hs h⟩⟩, fun Q hQ => xg Q ⟨fun h => absurd h hd0, fun _ => ⟨fun _ => hQ, fun h => absurd hs h⟩⟩, S, Up.rf⟩
    · by_cases hp : X.2 28 r < x
      · have hp2 : ¬ x ≤ X.2 28 r := Int32.not_le.mpr hp
        have S1 := ct_sim S hr hs (a := X.2 43 r) (b := a) (s := x) ct.2.2.2.1 ha
        by_cases hq : bS a 7 < nI (n / 2)
        · have hq2 : ¬ nI (n / 2) ≤ bS a 7 := Int32.not_le.mpr hq
          exact ⟨_, _, fun Q hQ => yg Q ⟨fun h => absurd h hd0, fun _ => ⟨fun h => absurd h hs, fun _ => ⟨fun _ => ⟨fun _ => hQ, fun h => absurd hq h⟩, fun h => absurd hp h⟩⟩⟩, fun Q hQ => xg Q ⟨fun h => absurd h hd0, fun _ => ⟨fun h => absurd h hs, fun _ => ⟨fun h => absurd h hp2, fun _ => x17 Q ⟨fun h => absurd h hq2, fun _ => hQ⟩⟩⟩⟩, S1, Up.rf⟩
        · have hq2 : nI (n / 2) ≤ bS a 7 := Int32.not_lt.mp hq
          obtain ⟨Y2, X2, ry, rx, s2, f2⟩ := others_sim (point_sim S1 hr hm) hr (k := 7) (s := x) (v := x) (by unfold PlK; simp) hm (by simp)
          exact ⟨Y2, X2, fun Q hQ => yg Q ⟨fun h => absurd h hd0, fun _ => ⟨fun h => absurd h hs, fun _ => ⟨fun _ => ⟨fun h => absurd h hq, fun _ => ry Q hQ⟩, fun h => absurd hp h⟩⟩⟩, fun Q hQ => xg Q ⟨fun h => absurd h hd0, fun _ => ⟨fun h => absurd h hs, fun _ => ⟨fun h => absurd h hp2, fun _ => x17 Q ⟨fun _ => rx Q hQ, fun h => absurd hq2 h⟩⟩⟩⟩, s2, f2.up⟩
      · have hp2 : x ≤ X.2 28 r := Int32.not_lt.mp hp
        exact ⟨Y, X, fun Q hQ => yg Q ⟨fun h => absurd h hd0, fun _ => ⟨fun h => absurd h hs, fun _ => ⟨fun h => absurd h hp, fun _ => hQ⟩⟩⟩, fun Q hQ => xg Q ⟨fun h => absurd h hd0, fun _ => ⟨fun h => absurd h hs, fun _ => ⟨fun _ => hQ, fun h => absurd hp2 h⟩⟩⟩, S, Up.rf⟩
end
