section
variable {n K : Nat} {Y Y2 : Yc} {X X2 : Xc} {r : Nat}
theorem y_has {m L : Nat} (hm : m < 2 ^ 31) (hL : L ≤ 100) (hl : yI Y 201 r = nI L) (Q : Int32 → Yc → Prop) (hQ : Q (if 1 ≤ m ∧ m ≤ L then 1 else 0) Y) : wy_X2_has n r (nI m) Y Q := by
  unfold wy_X2_has
  refine ⟨fun h => ?_, fun h x2 e2 => ?_⟩
  · have h := (nI_lti (a := m) (b := 1) hm (by omega)).mp h
    rw [if_neg (by omega)] at hQ
    exact hQ
  · have h : ¬ m < 1 := fun q => h ((nI_lti (a := m) (b := 1) hm (by omega)).mpr q)
    rw [hl] at e2
    subst e2
    refine ⟨fun g => ?_, fun g => ⟨fun k => ?_, fun k => ?_⟩⟩
    · have g := (nI_lti (by omega) (by omega)).mp g
      rw [if_neg (by omega)] at hQ
      exact hQ
    · have k := (nI_lti (by omega) (by omega)).mp k
      have g : ¬ L < m := fun q => g ((nI_lti (by omega) (by omega)).mpr q)
      omega
    · have g : ¬ L < m := fun q => g ((nI_lti (by omega) (by omega)).mpr q)
      rw [if_pos (by omega)] at hQ
      exact hQ
theorem y_ent {m L : Nat} (hm1 : 1 ≤ m) (hm : m ≤ L) (hL : L ≤ 100) (hl : yI Y 201 r = nI L) (Q : Option Rq → Yc → Prop) (hQ : Q (yS Y 200 r (m - 1)) Y) : wy_X2_at n r (nI m) Y Q := by
  unfold wy_X2_at
  refine y_has (by omega) hL hl _ ?_
  rw [if_pos ⟨hm1, hm⟩]
  refine ⟨fun h => absurd h (by decide), fun _ x10 e10 => ?_⟩
  have e10 : x10 = nI (m - 1) := e10.trans (nI_sub (a := m) (b := 1) hm1)
  subst e10
  refine ⟨vp_in_nI (by omega) (by omega), fun q15 e15 => ?_⟩
  rw [nI_clamp (by omega)] at e15
  subst e15
  exact hQ
theorem x_in {m L : Nat} (hm : m < 2 ^ 31) (hL : L ≤ 100) (Q : Int32 → Xc → Prop) (hQ : Q (if 1 ≤ m ∧ m ≤ L then 1 else 0) X) : wx_X12_in (nI m) 1 (nI L) X Q := by
  unfold wx_X12_in
  refine ⟨fun h => ?_, fun h => ⟨fun g => ?_, fun g => ?_⟩⟩
  · have h := (nI_lti (a := m) (b := 1) hm (by omega)).mp h
    rw [if_neg (by omega)] at hQ
    exact hQ
  · have g := (nI_lti (by omega) (by omega)).mp g
    rw [if_neg (by omega)] at hQ
    exact hQ
  · have h : ¬ m < 1 := fun q => h ((nI_lti (a := m) (b := 1) hm (by omega)).mpr q)
    have g : ¬ L < m := fun q => g ((nI_lti (by omega) (by omega)).mpr q)
    rw [if_pos (by omega)] at hQ
    exact hQ
theorem idx101 {r m : Nat} (h : 1 ≤ m) : (100 : Int32) * nI r + nI m - 1 = nI (100 * r + (m - 1)) := by
  rw [idx100]
  show nI (100 * r + m) - nI 1 = _
  rw [nI_sub (by omega)]
  congr 1
  omega
/-- a message with a request, or without -/
theorem snt_look (S : Sim n K Y X) (hr : r < n) {t s : Nat} (ht : t < n) (hs : s < 100) {k : Int32} {q : Option Rq} (hk : (k = 3 ∧ q = none) ∨ (k = 2 ∧ ∃ w, q = some w ∧ RqOK K w)) :
    Snt n K Y (uP (ySd Y k (nI r) (nI t) (yJ Y 805 r) (nI (s + 1))) 307 (ySO Y) q) ([k, nI r, nI t, X.2 21 r, X.2 22 r, nI (s + 1)] ++ rqL q) := by
  have hn := S.sc.n7
  have hk1 := S.sc.k1
  have R := S.rp hr
  obtain ⟨l, hl', el⟩ := R.ldK
  obtain ⟨e, he', ee⟩ := R.epK
  obtain ⟨v1, v2, v3, v4, v5, v6, v7⟩ := ySd_v Y k (nI r) (nI t) (yJ Y 805 r) (nI (s + 1))
  have hB := (ySd_B Y k (nI r) (nI t) (yJ Y 805 r) (nI (s + 1))).mP q
  have gP : yP (uP (ySd Y k (nI r) (nI t) (yJ Y 805 r) (nI (s + 1))) 307 (ySO Y) q) 307 (ySO Y) = q := by rw [yPP, if_pos ⟨rfl, rfl⟩]
  have hne := nI_ne1 (r := r) (by omega)
  have v4' : yJ (ySd Y k (nI r) (nI t) (yJ Y 805 r) (nI (s + 1))) 304 (ySO Y) = vw (nI l) (nI e) := by rw [v4, R.vie, el, ee]
  refine hB.snt ?_ ?_
  · unfold encM
    rw [yIP, yJP, gP, v1, v2, v3, v4', v5, vw_lead, vw_sess, el, ee]
    rcases hk with ⟨rfl, rfl⟩ | ⟨rfl, w, rfl, _⟩
    · simp [hne, rqL]
    · simp [hne, rqL]
  · unfold MOK
    rw [yIP, yJP, gP, v1, v2, v3, v4', v5]
    rcases hk with ⟨rfl, rfl⟩ | ⟨rfl, w, rfl, hw⟩
    · exact ⟨⟨3, by decide, rfl⟩, by simpa using ⟨r, hr, rfl⟩, by simpa using ⟨t, ht, rfl⟩, ⟨l, e, hl', he', rfl⟩, by simp, ⟨s + 1, by omega, rfl⟩, by simp, by simp, by simp, by simp⟩
    · exact ⟨⟨2, by decide, rfl⟩, by simpa using ⟨r, hr, rfl⟩, by simpa using ⟨t, ht, rfl⟩, ⟨l, e, hl', he', rfl⟩, by simp, ⟨s + 1, by omega, rfl⟩, fun _ => ⟨w, rfl, hw⟩, fun _ => ⟨s, hs, rfl⟩, by simp, by simp⟩
theorem xE_none {e : Nat} (h : xE X e = none) : X.2 30 e = 0 := by
  apply Classical.byContradiction
  intro q
  unfold xE at h
  rw [if_neg q] at h
  simp at h
theorem xE_some {e : Nat} {w : Rq} (h : xE X e = some w) : X.2 30 e ≠ 0 ∧ X.2 31 e = w.1 ∧ X.2 32 e = w.2.1 ∧ X.2 33 e = w.2.2.1 ∧ X.2 34 e = w.2.2.2.1 ∧ X.2 35 e = w.2.2.2.2 := by
  unfold xE at h
  by_cases q : X.2 30 e = 0
  · rw [if_pos q] at h
    simp at h
  · rw [if_neg q] at h
    have h : (X.2 31 e, X.2 32 e, X.2 33 e, X.2 34 e, X.2 35 e) = w := by simpa using h
    subst h
    exact ⟨q, rfl, rfl, rfl, rfl, rfl⟩
/-- kinds with a slot, in view -/
theorem Han.slot {o : Nat} {l : List Int32} (H : Han n K Y X o l) (hk : yI Y 301 o = 1 ∨ yI Y 301 o = 3 ∨ yI Y 301 o = 4 ∨ yI Y 301 o = 6 ∨ yI Y 301 o = 7) (hn : n ≤ 7) : X.2 15 5 = yI Y 306 o := by
  obtain ⟨ml, me, f, t, hml, hme, hf, ht, m4, ef, et, _⟩ := H.hd (by rcases hk with h | h | h | h | h <;> (rw [h]; decide)) (by rcases hk with h | h | h | h | h <;> (rw [h]; decide)) hn
  have hne := nI_ne1 (r := f) (by omega)
  have en : encM Y o = [yI Y 301 o, nI f, nI t, nI ml, nI me, yI Y 306 o] := by
    unfold encM
    rw [m4, ef, et, vw_sess, vw_lead]
    rcases hk with h | h | h | h | h <;> simp [h, hne]
  exact H.at en (j := 5) (by simp)
theorem lookup_hear (S : Sim n K Y X) (hr : r < n) {o : Nat} {l : List Int32} (H : Han n K Y X o l) (hk : yI Y 301 o = 1) :
    ∃ Y2 X2, (∀ Q : Yc → Prop, Q Y2 → wy_X8_hearLookup n r o Y Q) ∧ (∀ Q : Xc → Prop, Q X2 → wx_X12_getsInView (nI r) 1 X Q) ∧ Sim n K Y2 X2 ∧ Up X X2 := by
  have hn := S.sc.n7
  have hk2 := S.sc.k2
  have hcr : (nI r).toNatClampNeg = r := nI_clamp (by omega)
  have hvr : vp_in (nI r) 7 := vp_in_nI (by omega) (by omega)
  have R := S.rp hr
  obtain ⟨ml, me, f, t, hml, hme, hf, ht, m4, ef, et, _, b1, _⟩ := H.hd (by rw [hk]; decide) (by rw [hk]; decide) hn
  have a5 := H.slot (Or.inl hk) hn
  obtain ⟨m, hm, em⟩ := H.2.2.1.2.2.2.2.2.1
  obtain ⟨L, hL, hl⟩ := (S.lg hr).2.2.1
  have h201 : yI Y 201 r = nI L := (S.lg hr).1.trans hl
  have yg : ∀ Q : Yc → Prop, ((lds n X r = 0 → Q Y) ∧ (¬ lds n X r = 0 → ((X.2 23 r = 2 → Q Y) ∧ (¬ X.2 23 r = 2 → wy_X2_has n r (nI m) Y (fun (x21 : Int32) (Y18 : Yc) => ((¬ x21 = 0 → (∀ x26 : Int32, x26 = yI Y18 306 o → (wy_X2_at n r x26 Y18 (fun (q33 : Option Rq) (Y30 : Yc) => ((q33 = none → by_X8_hearLookup_51 n r Q o q33 (3 : Int32) Y30) ∧ (∀ w38 : Rq, q33 = some w38 → by_X8_hearLookup_51 n r Q o q33 (2 : Int32) Y30)))))) ∧ (x21 = 0 → Q Y18))))))) → wy_X8_hearLookup n r o Y Q := fun Q h => by
    unfold wy_X8_hearLookup
    refine y_leads S hr _ ⟨h.1, fun a x9 e9 => ?_⟩
    rw [R.sta] at e9
    subst e9
    refine ⟨(h.2 a).1, fun b x14 e14 => ?_⟩
    rw [em] at e14
    subst e14
    exact (h.2 a).2 b
  have xg : ∀ Q : Xc → Prop, ((lds n X r = 0 → Q X) ∧ (¬ lds n X r = 0 → ((X.2 23 r = 2 → Q X) ∧ (¬ X.2 23 r = 2 → wx_X12_lookUp (nI r) (nI m) X Q)))) → wx_X12_getsInView (nI r) 1 X Q := fun Q h => by
    unfold wx_X12_getsInView
    rw [hcr]
    refine ⟨v640 (j := 5) (by omega), fun x2 e2 => ?_⟩
    have e2 : x2 = nI m := e2.trans (a5.trans em)
    subst e2
    refine ⟨fun h => absurd h (by decide), fun _ => x_leads S hr _ ⟨h.1, fun a => ⟨hvr, fun x29 e29 => ?_⟩⟩, fun h => absurd h (by decide), fun h => absurd h (by decide), fun h => absurd h (by decide), fun h => absurd h (by decide), fun h => absurd h (by decide)⟩
    subst e29
    exact h.2 a
  rcases lds_01 (n := n) (X := X) (r := r) with hd | hd
  · exact ⟨Y, X, fun Q hQ => yg Q ⟨fun _ => hQ, fun h => absurd hd h⟩, fun Q hQ => xg Q ⟨fun _ => hQ, fun h => absurd hd h⟩, S, Up.rf⟩
  · have hd0 : ¬ lds n X r = 0 := by rw [hd]; decide
    by_cases hs : X.2 23 r = 2
    · exact ⟨Y, X, fun Q hQ => yg Q ⟨fun h => absurd h hd0, fun _ => ⟨fun _ => hQ, fun h => absurd hs h⟩⟩, fun Q hQ => xg Q ⟨fun h => absurd h hd0, fun _ => ⟨fun _ => hQ, fun h => absurd hs h⟩⟩, S, Up.rf⟩
    · have y1 : ∀ Q : Yc → Prop, wy_X2_has n r (nI m) Y (fun (x21 : Int32) (Y18 : Yc) => ((¬ x21 = 0 → (∀ x26 : Int32, x26 = yI Y18 306 o → (wy_X2_at n r x26 Y18 (fun (q33 : Option Rq) (Y30 : Yc) => ((q33 = none → by_X8_hearLookup_51 n r Q o q33 (3 : Int32) Y30) ∧ (∀ w38 : Rq, q33 = some w38 → by_X8_hearLookup_51 n r Q o q33 (2 : Int32) Y30)))))) ∧ (x21 = 0 → Q Y18))) → wy_X8_hearLookup n r o Y Q := fun Q h => yg Q ⟨fun q => absurd q hd0, fun _ => ⟨fun q => absurd q hs, fun _ => h⟩⟩
      have x1 : ∀ Q : Xc → Prop, wx_X12_lookUp (nI r) (nI m) X Q → wx_X12_getsInView (nI r) 1 X Q := fun Q h => xg Q ⟨fun q => absurd q hd0, fun _ => ⟨fun q => absurd q hs, fun _ => h⟩⟩
      by_cases hh : 1 ≤ m ∧ m ≤ L
      · have hll : ln (nI L) = L := nI_clamp (by omega)
        have hE := (S.lg hr).2.2.2.2 (m - 1) (by rw [hl, hll]; omega)
        have e12 : (nI (100 * r + (m - 1))).toNatClampNeg = 100 * r + (m - 1) := nI_clamp (by omega)
        have v12 : vp_in (nI (100 * r + (m - 1))) 700 := vp_in_nI (by omega) (by omega)
        have y2 : ∀ Q : Yc → Prop, ((xE X (100 * r + (m - 1)) = none → by_X8_hearLookup_51 n r Q o (xE X (100 * r + (m - 1))) (3 : Int32) Y) ∧ (∀ w38 : Rq, xE X (100 * r + (m - 1)) = some w38 → by_X8_hearLookup_51 n r Q o (xE X (100 * r + (m - 1))) (2 : Int32) Y)) → wy_X8_hearLookup n r o Y Q := fun Q h => y1 Q (y_has (by omega) hL h201 _ (by
          rw [if_pos hh]
          refine ⟨fun _ x26 e26 => ?_, fun q => absurd q (by decide)⟩
          rw [em] at e26
          subst e26
          refine y_ent hh.1 hh.2 hL h201 _ ?_
          rw [hE.1]
          exact h))
        have y3 : ∀ (Q : Yc → Prop) (k : Int32) (q : Option Rq), Q (uP (ySd Y k (nI r) (nI f) (yJ Y 805 r) (nI (m - 1 + 1))) 307 (ySO Y) q) → by_X8_hearLookup_51 n r Q o q k Y := fun Q k q hQ => by
          unfold by_X8_hearLookup_51
          intro x2 e2 x5 e5 y7 e7 x9 e9
          rw [R.num] at e2
          rw [ef] at e5
          rw [em, show m = m - 1 + 1 by omega] at e9
          subst e2; subst e5; subst e7; subst e9
          exact y_send S.ar _ _ _ _ _ _ hQ
        have x2 : ∀ Q : Xc → Prop, ((¬ X.2 30 (100 * r + (m - 1)) = 0 → (wx_X12_begin (2 : Int32) (nI r) (nI f) X (fun (X20 : Xc) => (wx_X12_addView (nI r) X20 (fun (X24 : Xc) => (wx_X12_add (nI m) X24 (fun (X28 : Xc) => (vp_in (nI (100 * r + (m - 1))) 700 ∧ (∀ x31 : Int32, x31 = X28.2 31 (100 * r + (m - 1)) → (wx_X12_add x31 X28 (fun (X35 : Xc) => (vp_in (nI (100 * r + (m - 1))) 700 ∧ (∀ x38 : Int32, x38 = X35.2 32 (100 * r + (m - 1)) → (wx_X12_add x38 X35 (fun (X42 : Xc) => (vp_in (nI (100 * r + (m - 1))) 700 ∧ (∀ x45 : Int32, x45 = X42.2 33 (100 * r + (m - 1)) → (wx_X12_add x45 X42 (fun (X49 : Xc) => (vp_in (nI (100 * r + (m - 1))) 700 ∧ (∀ x52 : Int32, x52 = X49.2 34 (100 * r + (m - 1)) → (wx_X12_add x52 X49 (fun (X56 : Xc) => (vp_in (nI (100 * r + (m - 1))) 700 ∧ (∀ x59 : Int32, x59 = X56.2 35 (100 * r + (m - 1)) → (wx_X12_add x59 X56 (fun (X63 : Xc) => (wx_X12_post  X63 (fun (X67 : Xc) => Q X67))))))))))))))))))))))))))))) ∧ (X.2 30 (100 * r + (m - 1)) = 0 → (wx_X12_tell (3 : Int32) (nI r) (nI f) (nI m) X (fun (X71 : Xc) => Q X71)))) → wx_X12_lookUp (nI r) (nI m) X Q := fun Q h => by
          unfold wx_X12_lookUp
          rw [hcr]
          refine ⟨hvr, fun x2 e2 => ?_⟩
          rw [hl] at e2
          subst e2
          refine x_in (by omega) hL _ ?_
          rw [if_pos hh]
          refine ⟨fun _ => ⟨v640 (j := 1) (by omega), fun x10 e10 x12 e12' => ?_⟩, fun q => absurd q (by decide)⟩
          have e10 : x10 = nI f := e10.trans b1
          rw [idx101 hh.1] at e12'
          subst e10; subst e12'
          rw [e12]
          refine ⟨v12, fun x15 e15 => ?_⟩
          subst e15
          exact h
        cases hq : xE X (100 * r + (m - 1)) with
        | none =>
          rw [hq] at y2
          have hz := xE_none hq
          have hS := snt_look S hr hf (s := m - 1) (by omega) (k := 3) (q := none) (Or.inl ⟨rfl, rfl⟩)
          obtain ⟨X1, r1, d1⟩ := x_begin X 3 (nI r) (nI f)
          obtain ⟨X2, r2, d2⟩ := x_addView d1 (by simp) (r := r) (by omega)
          obtain ⟨X3, r3, d3⟩ := x_add d2 (by simp) (nI m)
          obtain ⟨X4, r4, s4, f4⟩ := one_send S d3 (by rw [show m - 1 + 1 = m by omega] at hS; simpa [rqL] using hS)
          refine ⟨_, X4, fun Q hQ => y2 Q ⟨fun _ => y3 Q 3 none (by rw [show m - 1 + 1 = m by omega]; exact hQ), fun w h => by simp at h⟩, fun Q hQ => x1 Q (x2 Q ⟨fun h => absurd hz h, fun _ => ?_⟩), s4, f4.up⟩
          unfold wx_X12_tell
          refine r1 _ (r2 _ ⟨fun h => ?_, fun _ => r3 _ ?_⟩)
          · exact absurd ((nI_lti (a := m) (b := 0) (by omega) (by omega)).mp h) (by omega)
          · unfold bx_X12_tell_23
            exact r4 _ hQ
        | some w =>
          rw [hq] at y2
          obtain ⟨w0, w1, w2, w3, w4, w5⟩ := xE_some hq
          have hS := snt_look S hr hf (s := m - 1) (by omega) (k := 2) (q := some w) (Or.inr ⟨rfl, w, rfl, hE.2 w hq⟩)
          obtain ⟨X1, r1, d1⟩ := x_begin X 2 (nI r) (nI f)
          obtain ⟨X2, r2, d2⟩ := x_addView d1 (by simp) (r := r) (by omega)
          obtain ⟨X3, r3, d3⟩ := x_add d2 (by simp) (nI m)
          obtain ⟨X4, r4, d4⟩ := x_add d3 (by simp) w.1
          obtain ⟨X5, r5, d5⟩ := x_add d4 (by simp) w.2.1
          obtain ⟨X6, r6, d6⟩ := x_add d5 (by simp) w.2.2.1
          obtain ⟨X7, r7, d7⟩ := x_add d6 (by simp) w.2.2.2.1
          obtain ⟨X8, r8, d8⟩ := x_add d7 (by simp) w.2.2.2.2
          obtain ⟨X9, r9, s9, f9⟩ := one_send S d8 (by rw [show m - 1 + 1 = m by omega] at hS; simpa [rqL] using hS)
          refine ⟨_, X9, fun Q hQ => y2 Q ⟨fun h => by simp at h, fun w' h => y3 Q 2 (some w) (by rw [show m - 1 + 1 = m by omega]; exact hQ)⟩, fun Q hQ => x1 Q (x2 Q ⟨fun _ => ?_, fun h => absurd h w0⟩), s9, f9.up⟩
          refine r1 _ (r2 _ (r3 _ ⟨v12, fun x31 e31 => ?_⟩))
          rw [d3.2.1 31 (by omega), w1] at e31
          subst e31
          refine r4 _ ⟨v12, fun x e => ?_⟩
          rw [d4.2.1 32 (by omega), w2] at e
          subst e
          refine r5 _ ⟨v12, fun x e => ?_⟩
          rw [d5.2.1 33 (by omega), w3] at e
          subst e
          refine r6 _ ⟨v12, fun x e => ?_⟩
          rw [d6.2.1 34 (by omega), w4] at e
          subst e
          refine r7 _ ⟨v12, fun x e => ?_⟩
          rw [d7.2.1 35 (by omega), w5] at e
          subst e
          exact r8 _ (r9 _ hQ)
      · refine ⟨Y, X, fun Q hQ => y1 Q (y_has (by omega) hL h201 _ ?_), fun Q hQ => x1 Q ?_, S, Up.rf⟩
        · rw [if_neg hh]
          exact ⟨fun h => absurd rfl h, fun _ => hQ⟩
        · unfold wx_X12_lookUp
          rw [hcr]
          refine ⟨hvr, fun x2 e2 => ?_⟩
          rw [hl] at e2
          subst e2
          refine x_in (by omega) hL _ ?_
          rw [if_neg hh]
          exact ⟨fun h => absurd rfl h, fun _ => hQ⟩
/-- one held dropped -/
theorem drop_core (S : Sim n K Y X) (hr : r < n) {i c : Nat} (hi : i < c) (hc : c ≤ 9) (hX : X.2 36 r = nI c) (hs : X.2 23 r ≠ 2) : Sim n K (yRl Y r i c) (xRl X r i c) := by
  have hn := S.sc.n7
  have hcc : ln (nI c) = c := nI_clamp (by omega)
  have h := S.hd hr
  have gY1 : RgY r Y (yRl Y r i c) := by
    unfold yRl
    exact ((RgY.rf.wI (by omega) _).wA i (by omega) _).wS i (by omega) _
  have gX1 : RgX r X (xRl X r i c) := by
    unfold xRl
    exact (RgX.rf.wA (k := 36) (i := r) (by omega) _).trans (xHs_g (by omega))
  have kX : ∀ k j, ¬ (37 ≤ k ∧ k ≤ 42) → ¬ (k = 36 ∧ j = r) → (xRl X r i c).2 k j = X.2 k j := fun k j h2 h4 => by
    unfold xRl
    rw [xHs_k h2, xAA, if_neg h4]
  have k36 : (xRl X r i c).2 36 r = nI (c - 1) := by
    unfold xRl
    rw [xHs_k (by omega), xAA, if_pos ⟨rfl, rfl⟩]
  have kE : ∀ e, xE (xRl X r i c) e = xE X e := fun e => by
    unfold xE
    rw [kX 30 e (by omega) (by omega), kX 31 e (by omega) (by omega), kX 32 e (by omega) (by omega), kX 33 e (by omega) (by omega), kX 34 e (by omega) (by omega), kX 35 e (by omega) (by omega)]
  refine sim_rep S hr gY1 gX1 ⟨?_, ?_, ?_, ?_, ?_⟩
  · refine rl_Rp (Y := Y) (X := X) (fun c' h' => ?_) (fun c' h' => rfl) (fun k h' => kX k r (by omega) (by omega)) (S.rp hr)
    unfold yRl
    rw [yIS, yIA, yII, if_neg (by omega)]
  · obtain ⟨b1, b2, b3, b4, b5⟩ := S.lg hr
    unfold LgS
    rw [kX 26 r (by omega) (by omega), kX 27 r (by omega) (by omega)]
    refine ⟨b1, b2, b3, b4, fun s hs' => ?_⟩
    rw [kE]
    exact b5 s hs'
  · have hcl : ln (nI (c - 1)) = c - 1 := nI_clamp (by omega)
    unfold HdS
    rw [k36]
    refine ⟨?_, ⟨c - 1, by omega, rfl⟩, fun j hj => ?_⟩
    · unfold yRl; rw [yIS, yIA, yII, if_pos ⟨rfl, rfl⟩]
    · rw [hcl] at hj
      unfold xRl
      by_cases e : j = i
      · subst e
        rw [xHs_v.1, xHs_v.2]
        have := h.2.2 (c - 1) (by rw [hX, hcc]; omega)
        refine ⟨?_, ?_, this.2.2⟩
        · unfold yRl
          rw [yAS, yAA, if_pos ⟨rfl, rfl, rfl⟩]
          exact this.1
        · unfold yRl
          rw [ySS, if_pos ⟨rfl, rfl, rfl⟩]
          exact this.2.1
      · rw [(xHs_o (by omega)).1, (xHs_o (by omega)).2]
        have := h.2.2 j (by rw [hX, hcc]; omega)
        refine ⟨?_, ?_, this.2.2⟩
        · unfold yRl
          rw [yAS, yAA, if_neg (by omega)]
          exact this.1
        · unfold yRl
          rw [ySS, if_neg (by omega)]
          exact this.2.1
  · obtain ⟨b1, b2, b3, b4, b5⟩ := S.ct hr
    unfold CtS
    rw [kX 43 r (by omega) (by omega), kX 44 r (by omega) (by omega), kX 45 r (by omega) (by omega)]
    exact ⟨b1, b2, b3, b4, b5⟩
  · intro q
    rw [kX 23 r (by omega) (by omega)] at q
    exact absurd q hs
theorem no_core (S : Sim n K Y X) (hr : r < n) {L : Nat} (hL : L < 100) (hl : X.2 26 r = nI L) (hs : X.2 23 r ≠ 2) : Sim n K (yAd Y r L none) (xNo X r L) := by
  have gY : RgY r Y (yAd Y r L none) := by
    unfold yAd
    exact (RgY.rf.wS L (by omega) _).wI (by omega) _
  have gX : RgX r X (xNo X r L) := by
    unfold xNo
    exact (RgX.rf.wA (by omega) _).wA (by omega) _
  refine sim_rep S hr gY gX ⟨S.rp hr, ?_, S.hd hr, S.ct hr, fun q => absurd q hs⟩
  refine no_Lg hL hl (S.lg hr) ?_ rfl rfl ?_ rfl (fun s _ => rfl)
  · unfold yAd
    rw [yII, if_pos ⟨rfl, rfl⟩]
  · unfold xNo
    rw [xAA, if_pos ⟨rfl, rfl⟩]
theorem void_core (S : Sim n K Y X) (hr : r < n) {m L : Nat} (hm : m < L) (hL : L ≤ 100) (hl : X.2 26 r = nI L) (hs : X.2 23 r ≠ 2) : Sim n K (uS Y 200 r m none) (xA X 30 (100 * r + m) 0) := by
  have gY : RgY r Y (uS Y 200 r m none) := RgY.rf.wS m (by omega) _
  have gX : RgX r X (xA X 30 (100 * r + m) 0) := RgX.rf.wA (by omega) _
  refine sim_rep S hr gY gX ⟨S.rp hr, ?_, S.hd hr, S.ct hr, fun q => absurd q hs⟩
  obtain ⟨b1, b2, b3, b4, b5⟩ := S.lg hr
  refine ⟨b1, b2, b3, b4, fun s hs' => ?_⟩
  have hs' : s < ln (X.2 26 r) := hs'
  by_cases e : s = m
  · subst e
    have : xE (xA X 30 (100 * r + s) 0) (100 * r + s) = none := by
      unfold xE
      simp [xAA]
    rw [this, ySS, if_pos ⟨rfl, rfl, rfl⟩]
    exact ⟨rfl, fun w ew => by simp at ew⟩
  · have : xE (xA X 30 (100 * r + m) 0) (100 * r + s) = xE X (100 * r + s) := by
      unfold xE
      simp [xAA, e]
    rw [this, ySS, if_neg (by omega)]
    exact b5 s hs'
end
