/-! broken: the class's side, and both -/
section
variable {n K : Nat} {Y Y2 Y0 Y1 : Yc} {X X2 X0 X1 : Xc} {r a L : Nat}
theorem s5_enc (hY : ∀ k j, k ≠ 605 → yI Y2 k j = yI Y k j) (hZ : Y2.2 = Y.2) (i : Nat) : encM Y2 i = encM Y i := by
  have e1 : yJ Y2 = yJ Y := by unfold yJ; rw [hZ]
  have e2 : yP Y2 = yP Y := by unfold yP; rw [hZ]
  have e3 : yS Y2 = yS Y := by unfold yS; rw [hZ]
  unfold encM
  simp [hY, e1, e2, e3]
theorem s5_mok (hY : ∀ k j, k ≠ 605 → yI Y2 k j = yI Y k j) (hZ : Y2.2 = Y.2) (i : Nat) : MOK n K Y2 i = MOK n K Y i := by
  have e1 : yJ Y2 = yJ Y := by unfold yJ; rw [hZ]
  have e2 : yP Y2 = yP Y := by unfold yP; rw [hZ]
  have e3 : yS Y2 = yS Y := by unfold yS; rw [hZ]
  unfold MOK
  simp [hY, e1, e2, e3]
theorem s5_sim (S : Sim n K Y X) (hY : ∀ k j, k ≠ 605 → yI Y2 k j = yI Y k j) (hZ : Y2.2 = Y.2) : Sim n K Y2 X := by
  have e1 : yJ Y2 = yJ Y := by unfold yJ; rw [hZ]
  have e2 : yP Y2 = yP Y := by unfold yP; rw [hZ]
  have e3 : yS Y2 = yS Y := by unfold yS; rw [hZ]
  have e4 : yA Y2 = yA Y := by unfold yA; rw [hZ]
  have e5 : yB Y2 = yB Y := by unfold yB; rw [hZ]
  have e6 : yR Y2 = yR Y := by unfold yR; rw [hZ]
  have hTd : ∀ r q, TdS K Y2 X r q = TdS K Y X r q := fun r q => by
    unfold TdS
    simp [hY, e5, e3]
  have hPl : ∀ o e, PlS K Y2 X o e = PlS K Y X o e := fun o e => by
    unfold PlS
    simp [hY, e1]
  have hMS : ∀ i m, MS n K Y2 X i m = MS n K Y X i m := fun i m => by
    unfold MS
    rw [s5_enc hY hZ, s5_mok hY hZ, hY 300 i (by omega)]
  refine Sim.mk ?_ ⟨fun r hr => ?_, fun c hc => ?_, fun a h1 h2 => ?_, ?_, ?_, ?_⟩ ?_
  · have h := S.sc
    unfold ScS at *
    simpa [hY] using h
  · have h := S.pcs.1 r hr
    refine ⟨?_, ?_, ?_, ?_, ?_⟩
    · have h := h.1
      unfold RpS at *
      simpa [hY, e1] using h
    · have h := h.2.1
      unfold LgS at *
      simpa [hY, e3] using h
    · have h := h.2.2.1
      unfold HdS at *
      simpa [hY, e4, e3] using h
    · have h := h.2.2.2.1
      unfold CtS at *
      simpa [hY] using h
    · have h := h.2.2.2.2
      unfold ChS at *
      simpa [hY, hTd] using h
  · have h := S.pcs.2.1 c hc
    unfold ClS at *
    simpa [hY, e1, e2, hPl] using h
  · have h := S.pcs.2.2.1 a h1 h2
    unfold KpS at *
    simpa [hY, e1, e2] using h
  · have h := S.pcs.2.2.2.1
    unfold ByS at *
    simpa [hY, e4] using h
  · have h := S.pcs.2.2.2.2.1
    unfold ByS at *
    simpa [hY, e4] using h
  · have h := S.pcs.2.2.2.2.2
    unfold RdS at *
    simpa [hY, e4] using h
  · have h := S.ar
    unfold ArS at *
    simpa [hY, e6, hMS] using h
theorem s605 (S : Sim n K Y X) (o : Nat) (v : Int32) : Sim n K (uI Y 605 o v) X := s5_sim S (fun k j hk => by rw [yII, if_neg (fun q => hk q.1)]) rfl
theorem y_keepL (ha : a < 200) (hL : L ≤ 100) (hl : yI Y 201 r = nI L) {w0 : Rq} (hp : yP Y 600 (260 + a) = some w0) {f : Nat → Option Rq} (hf : ∀ s, s < L → yS Y 200 r s = f s) (hd : DnY Y f L) {ans : Int32} (h604 : yI Y 604 (260 + a) = ans) :
    ∀ d s, s + d = L → (∃ j, s ≤ j ∧ j < L ∧ mt w0.1 w0.2.1 (f j) = true) → ∀ Q : Int32 → Yc → Prop, Q (if agL f w0.1 w0.2.1 ans s d = 0 then 1 else 0) Y → LFy (fy_X10_keeps_22 n Q) (r, 260 + a, nI s) Y := by
  intro d
  induction d with
  | zero =>
    intro s hs hj
    obtain ⟨j, h1, h2, _⟩ := hj
    omega
  | succ d ih =>
    intro s hs hj Q hQ R hR
    have hcs : (nI s).toNatClampNeg = s := nI_clamp (by omega)
    refine hR _ _ (fun x2 e2 => ?_)
    have e2 : x2 = nI L := e2.trans hl
    subst e2
    refine ⟨fun q => absurd q (nI_ge (a := s) (b := L) (by omega) (by omega)), fun _ => ⟨fun q => absurd q (nI_ge (a := s) (b := 100) (by omega) (by omega)), fun _ => ⟨vp_in_nI (n := s) (by omega) (by omega), fun q10 e10 q15 e15 => ?_⟩⟩⟩
    have e10 : q10 = f s := by
      rw [e10]
      show yS Y 200 r (nI s).toNatClampNeg = _
      rw [hcs]
      exact hf s (by omega)
    have e15 : q15 = some w0 := e15.trans hp
    subst e10; subst e15
    refine y_sameR _ _ _ ?_
    by_cases hm : mt w0.1 w0.2.1 (f s) = true
    · rw [if_pos hm]
      rw [agL_y hm] at hQ
      refine ⟨fun q => absurd q (by decide), fun _ => ⟨vp_in_nI (n := s) (by omega) (by omega), fun x30 e30 => ?_⟩⟩
      have e30 : x30 = yA Y 1003 0 s := by
        rw [e30]
        show yA Y 1003 0 (nI s).toNatClampNeg = _
        rw [hcs]
      cases hw : f s with
      | none => rw [hw] at hm; exact absurd hm (mt_n _ _)
      | some w =>
        rw [hw] at hQ
        by_cases hdn : dn (Tb f s) w
        · obtain ⟨g1, g2⟩ := (hd s (by omega)).1 w hw hdn
          rw [g1] at e30
          subst e30
          refine ⟨fun q => absurd q (by decide), fun _ => ⟨vp_in_nI (n := s) (by omega) (by omega), fun x35 e35 x37 e37 => ?_⟩⟩
          have e35 : x35 = gv (Tb f s) w := by
            rw [e35]
            show yA Y 1004 0 (nI s).toNatClampNeg = _
            rw [hcs, g2]
          have e37 : x37 = ans := e37.trans h604
          subst e35; subst e37
          have ev : agV (Tb f s) x37 (some w) = (if gv (Tb f s) w = x37 then 0 else 1) := if_pos hdn
          rw [ev] at hQ
          refine ⟨fun q => ?_, fun q => ?_⟩
          · rw [if_neg q, if_neg (by decide)] at hQ
            exact hQ
          · rw [if_pos q, if_pos rfl] at hQ
            exact hQ
        · have g := (hd s (by omega)).2 (fun w' hw' => by rw [hw] at hw'; cases hw'; exact hdn)
          rw [g] at e30
          subst e30
          have ev : agV (Tb f s) ans (some w) = 0 := if_neg hdn
          rw [ev, if_pos rfl] at hQ
          exact ⟨fun _ => hQ, fun q => absurd rfl q⟩
    · rw [if_neg hm]
      rw [agL_n hm] at hQ
      refine ⟨fun _ x26 e26 => ?_, fun q => absurd rfl q⟩
      have e26 : x26 = nI (s + 1) := e26.trans (nI_1 s)
      subst e26
      obtain ⟨j, h1, h2, h3⟩ := hj
      exact ih (s + 1) (by omega) ⟨j, by
        by_cases e : j = s
        · subst e; exact absurd h3 hm
        · omega, h2, h3⟩ Q hQ R hR
theorem y_keeps (ha : a < 200) (hL : L ≤ 100) (hl : yI Y 201 r = nI L) {w0 : Rq} (hp : yP Y 600 (260 + a) = some w0) {f : Nat → Option Rq} (hf : ∀ s, s < L → yS Y 200 r s = f s) (hd : DnY Y f L) {ans : Int32} (h604 : yI Y 604 (260 + a) = ans) {sl : Nat} (hsl : sl < 100) (h602 : yI Y 602 (260 + a) = nI (sl + 1))
    (Q : Int32 → Yc → Prop) (hQ : Q (if L < sl + 1 ∨ ¬ mt w0.1 w0.2.1 (f sl) = true then 0 else if agL f w0.1 w0.2.1 ans 0 L = 0 then 1 else 0) Y) : wy_X10_keeps n r (260 + a) Y Q := by
  intro x2 e2
  rw [h602] at e2
  subst e2
  by_cases h : L < sl + 1
  · rw [if_pos (Or.inl h)] at hQ
    unfold wy_X2_at
    refine y_has (by omega) hL hl _ ?_
    rw [if_neg (by omega)]
    refine ⟨fun _ q13 e13 => ?_, fun q => absurd rfl q⟩
    rw [hp] at e13
    subst e13
    refine y_sameR _ _ _ ?_
    rw [if_neg (mt_n _ _)]
    exact ⟨fun q => absurd rfl q, fun _ => hQ⟩
  · refine y_ent (m := sl + 1) (by omega) (by omega) hL hl _ (fun q13 e13 => ?_)
    rw [hp] at e13
    subst e13
    refine y_sameR _ _ _ ?_
    have e : yS Y 200 r (sl + 1 - 1) = f sl := hf sl (by omega)
    rw [e]
    by_cases hm : mt w0.1 w0.2.1 (f sl) = true
    · rw [if_pos hm]
      rw [if_neg (fun q => q.elim h (fun q => q hm))] at hQ
      exact ⟨fun _ => y_keepL ha hL hl hp hf hd h604 L 0 (by omega) ⟨sl, by omega, by omega, hm⟩ Q hQ, fun q => absurd q (by decide)⟩
    · rw [if_neg hm]
      rw [if_pos (Or.inr hm)] at hQ
      exact ⟨fun q => absurd rfl q, fun _ => hQ⟩
theorem y_beh {x y x' y' : Int32} (Q : Int32 → Yc → Prop) (h1 : ¬ (¬ x' < x ∧ ¬ y' < y) → Q 0 Y) (h2 : ¬ x' < x ∧ ¬ y' < y → Q 1 Y) (hne : ¬ vw x y = vw x' y') : wy_X11_isBehind n (vw x y) (vw x' y') Y Q := by
  unfold wy_X11_isBehind wy_X11_leadOf wy_X11_sessionOf
  rw [lg0, vw_lead, vw_lead, vw_sess, vw_sess]
  exact ⟨fun q => absurd q hne, fun _ => ⟨fun q => h1 (fun z => z.1 q), fun q => ⟨fun q2 => h1 (fun z => z.2 q2), fun q2 => h2 ⟨q, q2⟩⟩⟩⟩
/-- replica r judges what was accepted -/
theorem y_judge (S : Sim n K Y X) (hr : r < n) (hld : ldr n X r = r) (hst : ¬ X.2 23 r = 2) {k : Nat} (hk : k ≤ 200) (hk2 : k ≤ ln (X.1 81)) :
    ∃ Y2, Sim n K Y2 X ∧ (∀ a, a < k → yI Y2 605 (260 + a) = if Ag n X r a = 0 then yI Y 605 (260 + a) else 1) ∧ ∀ Q : Yc → Prop, Q Y2 → wy_X11_judge n r (nI k) Y Q := by
  have hn := S.sc.n7
  have LG := S.lg hr
  have hl := LG.l100.ln (by omega)
  obtain ⟨Y1, ry, _, ty, hdn⟩ := y_replay (n := n) (K := K) (Y := Y) (r := r) (L := ln (X.2 26 r)) (E := ln (X.2 26 r)) hl.1 (by omega) (LG.len.trans hl.2) (fun s hs => by
    have := LG.ent s hs
    rw [this.1]
    exact this.2)
  rw [Nat.min_self] at hdn
  have S1 := tbl_sim S ty TX.rf
  have f605 : ∀ o, yI Y1 605 o = yI Y 605 o := fun o => by rw [ty.2.1]
  have loop : ∀ d i Z, i + d = k → Sim n K Z X → DnY Z (yS Y 200 r) (ln (X.2 26 r)) → ∃ Y2, Sim n K Y2 X ∧ (∀ a, (a < i → yI Y2 605 (260 + a) = yI Z 605 (260 + a)) ∧ (i ≤ a → a < k → yI Y2 605 (260 + a) = if Ag n X r a = 0 then yI Z 605 (260 + a) else 1)) ∧ ∀ Q : Yc → Prop, Q Y2 → LFy (fy_X11_judge_20 n Q) (r, nI k, nI i) Z := by
    intro d
    induction d with
    | zero =>
      intro i Z hi SZ hD
      have hi : i = k := by omega
      subst hi
      exact ⟨Z, SZ, fun a => ⟨fun _ => rfl, fun _ _ => by omega⟩, fun Q hQ R hR => hR _ _ ⟨fun _ => hQ, fun q => absurd (nI_le (Nat.le_refl i) (by omega)) q⟩⟩
    | succ d ih =>
      intro i Z hi SZ hD
      have hci : (nI i).toNatClampNeg = i := nI_clamp (by omega)
      obtain ⟨⟨w0, hp, hw1, hw2, _⟩, h602, hview, h604, sl, hsl, e84⟩ := SZ.pcs.2.2.1 i (by omega) (by omega)
      have vr := (SZ.rp hr).vie
      have hlZ : yI Z 201 r = nI (ln (X.2 26 r)) := (SZ.lg hr).len.trans hl.2
      have hfZ : ∀ s, s < ln (X.2 26 r) → yS Z 200 r s = yS Y 200 r s := fun s hs => by
        rw [((SZ.lg hr).ent s hs).1, (LG.ent s hs).1]
      have hlx : ∀ s, s < ln (X.2 26 r) → yS Y 200 r s = lgX X r s := fun s hs => (LG.ent s hs).1
      -- one step with a next state
      have up : ∀ (Q : Yc → Prop) (R : Nat × Int32 × Int32 → Yc → Prop), (∀ t Y, fy_X11_judge_20 n Q R t Y → R t Y) → (¬ X.2 21 r < X.2 85 i ∧ ¬ X.2 22 r < X.2 86 i → by_X11_judge_75 n R Q r (nI k) (nI i) (260 + i) 1 Z) → (¬ (¬ X.2 21 r < X.2 85 i ∧ ¬ X.2 22 r < X.2 86 i) → by_X11_judge_75 n R Q r (nI k) (nI i) (260 + i) 0 Z) → R (r, nI k, nI i) Z := fun Q R hR h1 h0 => by
        refine hR _ _ ⟨fun q => absurd q (nI_ge (a := i) (b := k) (by omega) (by omega)), fun _ => ⟨fun q => absurd q (nI_ge (a := i) (b := 200) (by omega) (by omega)), fun _ => ⟨vp_in_nI (n := i) (by omega) (by omega), ?_⟩⟩⟩
        show ∀ y11 : Int64, y11 = yJ Z 601 (260 + (nI i).toNatClampNeg) → _
        rw [hci]
        intro y11 e11 y14 e14
        have e11 : y11 = vw (X.2 85 i) (X.2 86 i) := e11.trans hview
        have e14 : y14 = vw (X.2 21 r) (X.2 22 r) := e14.trans vr
        subst e11; subst e14
        refine ⟨fun q => ?_, fun q y17 e17 y19 e19 => ?_⟩
        · have q := lg0.mp q
          have q1 := congrArg Int64.toInt32 q
          rw [vw_lead, vw_lead] at q1
          have q2 := congrArg (fun v : Int64 => (v >>> ((32 : Int32).toInt64 &&& 63)).toInt32) q
          rw [vw_sess, vw_sess] at q2
          exact h1 (by rw [q1, q2]; exact ⟨Int32.lt_irrefl, Int32.lt_irrefl⟩)
        · have e17 : y17 = vw (X.2 85 i) (X.2 86 i) := e17.trans hview
          have e19 : y19 = vw (X.2 21 r) (X.2 22 r) := e19.trans vr
          subst e17; subst e19
          refine y_beh _ (fun g => ⟨fun _ => h0 g, fun z => absurd rfl z⟩) (fun g => ⟨fun z => absurd z (by decide), fun _ => h1 g⟩) (fun z => q (lg0.mpr z))
      have nx : ∀ (Q : Yc → Prop) (R : Nat × Int32 × Int32 → Yc → Prop) (W : Yc), R (r, nI k, nI (i + 1)) W → by_X11_judge_104 n R Q r (nI k) (nI i) W := fun Q R W h x1 e1 => by
        have e1 : x1 = nI (i + 1) := e1.trans (nI_1 i)
        subst e1
        exact h
      by_cases hcn : ¬ X.2 21 r < X.2 85 i ∧ ¬ X.2 22 r < X.2 86 i
      · have h602' : yI Z 602 (260 + i) = nI (sl + 1) := h602.trans e84
        have hc84 : ln (X.2 84 i) = sl + 1 := by rw [e84]; exact nI_clamp (by omega)
        have eA : Ag n X r i = (if X.2 26 r < X.2 84 i ∨ ¬ mt (X.2 82 i) (X.2 83 i) (xE X (100 * r + (ln (X.2 84 i) - 1))) = true then 1 else agL (lgX X r) (X.2 82 i) (X.2 83 i) (X.2 87 i) 0 (ln (X.2 26 r))) := if_pos ⟨hld, hst, hcn⟩
        have hDl : DnY Z (lgX X r) (ln (X.2 26 r)) := fun j hj => by
          have h := hD j hj
          rw [hlx j hj, Tb_congr (g := lgX X r) j (fun s hs => hlx s (by omega))] at h
          exact h
        have kp := fun (Q : Int32 → Yc → Prop) => y_keeps (n := n) (Y := Z) (r := r) (a := i) (by omega) hl.1 hlZ hp (f := lgX X r) (fun s hs => (hfZ s hs).trans (hlx s hs)) hDl (ans := X.2 87 i) h604 hsl h602' Q
        rw [hw1, hw2] at kp
        have eC : (if ln (X.2 26 r) < sl + 1 ∨ ¬ mt (X.2 82 i) (X.2 83 i) (lgX X r sl) = true then (0 : Int32) else if agL (lgX X r) (X.2 82 i) (X.2 83 i) (X.2 87 i) 0 (ln (X.2 26 r)) = 0 then 1 else 0) = if Ag n X r i = 0 then 1 else 0 := by
          have e1 : X.2 26 r < X.2 84 i ↔ ln (X.2 26 r) < sl + 1 := by
            rw [e84]
            conv => lhs; rw [hl.2]
            exact nI_lti (by omega) (by omega)
          have eA2 : Ag n X r i = (if X.2 26 r < X.2 84 i ∨ ¬ mt (X.2 82 i) (X.2 83 i) (lgX X r sl) = true then 1 else agL (lgX X r) (X.2 82 i) (X.2 83 i) (X.2 87 i) 0 (ln (X.2 26 r))) := by
            rw [eA, hc84]
            rfl
          by_cases g : ln (X.2 26 r) < sl + 1 ∨ ¬ mt (X.2 82 i) (X.2 83 i) (lgX X r sl) = true
          · have g2 : X.2 26 r < X.2 84 i ∨ ¬ mt (X.2 82 i) (X.2 83 i) (lgX X r sl) = true := g.imp_left e1.mpr
            have a1 : Ag n X r i = 1 := eA2.trans (if_pos g2)
            rw [if_pos g, a1]
            decide
          · have g2 : ¬ (X.2 26 r < X.2 84 i ∨ ¬ mt (X.2 82 i) (X.2 83 i) (lgX X r sl) = true) := fun z => g (z.imp_left e1.mp)
            have a1 := eA2.trans (if_neg g2)
            rw [if_neg g, a1]
        rw [eC] at kp
        by_cases hA : Ag n X r i = 0
        · rw [if_pos hA] at kp
          obtain ⟨Y2, S2, v2, r2⟩ := ih (i + 1) Z (by omega) SZ hD
          refine ⟨Y2, S2, fun a => ⟨fun h => (v2 a).1 (by omega), fun h1 h2 => ?_⟩, fun Q hQ R hR => up Q R hR (fun _ => ⟨fun q => absurd q (by decide), fun _ => kp _ ⟨fun _ => nx Q R Z (r2 Q hQ R hR), fun q => absurd q (by decide)⟩⟩) (fun q => absurd hcn q)⟩
          by_cases e : a = i
          · subst e
            rw [if_pos hA]
            exact (v2 a).1 (by omega)
          · exact (v2 a).2 (by omega) h2
        · rw [if_neg hA] at kp
          obtain ⟨Y2, S2, v2, r2⟩ := ih (i + 1) (uI Z 605 (260 + i) 1) (by omega) (s605 SZ _ _) hD
          refine ⟨Y2, S2, fun a => ⟨fun h => ?_, fun h1 h2 => ?_⟩, fun Q hQ R hR => up Q R hR (fun _ => ⟨fun q => absurd q (by decide), fun _ => kp _ ⟨fun q => absurd rfl q, fun _ => nx Q R _ (r2 Q hQ R hR)⟩⟩) (fun q => absurd hcn q)⟩
          · rw [(v2 a).1 (by omega), yII, if_neg (by omega)]
          · by_cases e : a = i
            · subst e
              rw [if_neg hA, (v2 a).1 (by omega), yII, if_pos ⟨rfl, rfl⟩]
            · rw [(v2 a).2 (by omega) h2, yII, if_neg (show ¬ (605 = 605 ∧ 260 + a = 260 + i) by omega)]
      · have hA : Ag n X r i = 0 := if_neg (fun q => hcn q.2.2)
        obtain ⟨Y2, S2, v2, r2⟩ := ih (i + 1) Z (by omega) SZ hD
        refine ⟨Y2, S2, fun a => ⟨fun h => (v2 a).1 (by omega), fun h1 h2 => ?_⟩, fun Q hQ R hR => up Q R hR (fun q => absurd q hcn) (fun _ => ⟨fun _ => nx Q R Z (r2 Q hQ R hR), fun q => absurd rfl q⟩)⟩
        by_cases e : a = i
        · subst e
          rw [if_pos hA]
          exact (v2 a).1 (by omega)
        · exact (v2 a).2 (by omega) h2
  obtain ⟨Y2, S2, v2, r2⟩ := loop k 0 Y1 (by omega) S1 hdn
  refine ⟨Y2, S2, fun a h => by rw [(v2 a).2 (by omega) h, f605], fun Q hQ x6 e6 => ?_⟩
  have e6 : x6 = nI (ln (X.2 26 r)) := e6.trans (LG.len.trans hl.2)
  subst e6
  exact ry _ (r2 Q hQ)
/-- does anyone of the first r? -/
def orA (n : Nat) (X : Xc) (a : Nat) : Nat → Int32
  | 0 => 0
  | r + 1 => if Ag n X r a = 0 then orA n X a r else 1
theorem orA_01 (n : Nat) (X : Xc) (a : Nat) : ∀ r, orA n X a r = 0 ∨ orA n X a r = 1 := by
  intro r
  induction r with
  | zero => exact Or.inl rfl
  | succ r ih =>
    show (if Ag n X r a = 0 then orA n X a r else 1) = 0 ∨ (if Ag n X r a = 0 then orA n X a r else 1) = 1
    by_cases h : Ag n X r a = 0
    · rw [if_pos h]; exact ih
    · rw [if_neg h]; exact Or.inr rfl
def sA (n : Nat) (X : Xc) : Nat → Int32
  | 0 => 0
  | k + 1 => sA n X k + (if orA n X k n = 0 then 0 else 1)
theorem y_broken (S : Sim n K Y X) {k : Nat} (hk : k = min (ln (X.1 81)) 200) : ∃ Y2, Sim n K Y2 X ∧ ∀ Q : Int32 → Yc → Prop, Q (sA n X k) Y2 → wy_X11_broken n Y Q := by
  have hn := S.sc.n7
  have hk2 := S.sc.k2
  have hac := S.sc.accK.ln (by omega)
  -- cleared
  have l13 : ∀ d i Z, i + d = k → Sim n K Z X → (∀ a, a < i → yI Z 605 (260 + a) = 0) → ∃ Y2, Sim n K Y2 X ∧ (∀ a, a < k → yI Y2 605 (260 + a) = 0) ∧ ∀ Q : Int32 → Yc → Prop, LFy (fy_X11_broken_45 n Q) (nI k, nI n, 0) Y2 → LFy (fy_X11_broken_13 n Q) (nI k, nI i) Z := by
    intro d
    induction d with
    | zero =>
      intro i Z hi SZ hz
      have hi : i = k := by omega
      subst hi
      refine ⟨Z, SZ, hz, fun Q hQ R hR => hR _ _ ⟨fun _ x6 e6 => ?_, fun q => absurd (nI_le (Nat.le_refl i) (by omega)) q⟩⟩
      subst e6
      exact hQ
    | succ d ih =>
      intro i Z hi SZ hz
      have hci : (nI i).toNatClampNeg = i := nI_clamp (by omega)
      obtain ⟨Y2, S2, v2, r2⟩ := ih (i + 1) (uI Z 605 (260 + i) 0) (by omega) (s605 SZ _ _) (fun a ha => by
        rw [yII]
        by_cases e : a = i
        · rw [if_pos ⟨rfl, by omega⟩]
        · rw [if_neg (by omega)]
          exact hz a (by omega))
      refine ⟨Y2, S2, v2, fun Q hQ R hR => hR _ _ ⟨fun q => absurd q (nI_ge (a := i) (b := k) (by omega) (by omega)), fun _ => ⟨vp_in_nI (n := i) (by omega) (by omega), ?_⟩⟩⟩
      show ∀ x16 : Int32, x16 = nI i + 1 → R (nI k, x16) (uI Z 605 (260 + (nI i).toNatClampNeg) 0)
      rw [hci]
      intro x16 e16
      rw [nI_1] at e16
      subst e16
      exact r2 Q hQ R hR
  -- summed
  have l91 : ∀ (Z : Yc), (∀ a, a < k → yI Z 605 (260 + a) = orA n X a n) → ∀ d i, i + d = k → ∀ Q : Int32 → Yc → Prop, Q (sA n X k) Z → LFy (fy_X11_broken_91 n Q) (nI k, sA n X i, nI i) Z := by
    intro Z hz d
    induction d with
    | zero =>
      intro i hi Q hQ R hR
      have hi : i = k := by omega
      subst hi
      exact hR _ _ ⟨fun _ => hQ, fun q => absurd (nI_le (Nat.le_refl i) (by omega)) q⟩
    | succ d ih =>
      intro i hi Q hQ R hR
      have hci : (nI i).toNatClampNeg = i := nI_clamp (by omega)
      have nx := ih (i + 1) (by omega) Q hQ R hR
      refine hR _ _ ⟨fun q => absurd q (nI_ge (a := i) (b := k) (by omega) (by omega)), fun _ => ⟨vp_in_nI (n := i) (by omega) (by omega), fun x9 e9 => ?_⟩⟩
      have e9 : x9 = orA n X i n := by
        rw [e9]
        show yI Z 605 (260 + (nI i).toNatClampNeg) = _
        rw [hci]
        exact hz i (by omega)
      subst e9
      have nx : R (nI k, sA n X i + (if orA n X i n = 0 then 0 else 1), nI (i + 1)) Z := nx
      refine ⟨fun q x1 e1 x3 e3 => ?_, fun q x1 e1 x3 e3 => ?_⟩
      · rw [if_pos q] at nx
        have e3 : x3 = nI (i + 1) := e3.trans (nI_1 i)
        have e1 : x1 = sA n X i + 0 := e1
        subst e1; subst e3
        exact nx
      · rw [if_neg q] at nx
        have e3 : x3 = nI (i + 1) := e3.trans (nI_1 i)
        have e1 : x1 = sA n X i + 1 := e1
        subst e1; subst e3
        exact nx
  -- judged
  have l45 : ∀ d r Z, r + d = n → Sim n K Z X → (∀ a, a < k → yI Z 605 (260 + a) = orA n X a r) → ∃ Y2, Sim n K Y2 X ∧ ∀ Q : Int32 → Yc → Prop, Q (sA n X k) Y2 → LFy (fy_X11_broken_45 n Q) (nI k, nI n, nI r) Z := by
    intro d
    induction d with
    | zero =>
      intro r Z hr SZ hz
      have hr : r = n := by omega
      subst hr
      exact ⟨Z, SZ, fun Q hQ R hR => hR _ _ ⟨fun _ => l91 Z hz k 0 (by omega) Q hQ, fun q => absurd (nI_le (Nat.le_refl r) (by omega)) q⟩⟩
    | succ d ih =>
      intro r Z hr SZ hz
      have hrn : r < n := by omega
      obtain ⟨hcr, hv7, hvn⟩ := rep_arg SZ hrn
      have nx : ∀ (Q : Int32 → Yc → Prop) (R : Int32 × Int32 × Int32 → Yc → Prop) (W : Yc), R (nI k, nI n, nI (r + 1)) W → by_X11_broken_81 n R Q (nI k) (nI n) (nI r) W := fun Q R W h x1 e1 => by
        have e1 : x1 = nI (r + 1) := e1.trans (nI_1 r)
        subst e1
        exact h
      have up : ∀ (Q : Int32 → Yc → Prop) (R : Int32 × Int32 × Int32 → Yc → Prop), (∀ t Y, fy_X11_broken_45 n Q R t Y → R t Y) → (¬ (ldr n X r = r ∧ ¬ X.2 23 r = 2) → R (nI k, nI n, nI (r + 1)) Z) → (ldr n X r = r ∧ ¬ X.2 23 r = 2 → wy_X11_judge n r (nI k) Z (fun W => by_X11_broken_81 n R Q (nI k) (nI n) (nI r) W)) → R (nI k, nI n, nI r) Z := fun Q R hR h0 h1 => by
        refine hR _ _ ⟨fun q => absurd q (nI_ge (a := r) (b := n) (by omega) (by omega)), fun _ => ⟨hvn, ?_⟩⟩
        show wy_X8_leads n (nI r).toNatClampNeg Z _
        rw [hcr]
        refine y_leads SZ hrn _ ⟨fun q => nx Q R Z (h0 (fun z => absurd z.1 (lds_0.mp q))), fun q => ?_⟩
        intro x16 e16
        rw [(SZ.rp hrn).sta] at e16
        subst e16
        have hld : ldr n X r = r := by
          apply Classical.byContradiction
          intro z
          exact q (lds_0.mpr z)
        refine ⟨fun z => nx Q R Z (h0 (fun g => g.2 z)), fun z => ?_⟩
        exact h1 ⟨hld, z⟩
      by_cases hg : ldr n X r = r ∧ ¬ X.2 23 r = 2
      · obtain ⟨Y1, S1, v1, r1⟩ := y_judge SZ hrn hg.1 hg.2 (k := k) (by omega) (by omega)
        obtain ⟨Y2, S2, r2⟩ := ih (r + 1) Y1 (by omega) S1 (fun a ha => by
          rw [v1 a ha, hz a ha]
          rfl)
        exact ⟨Y2, S2, fun Q hQ R hR => up Q R hR (fun q => absurd hg q) (fun _ => r1 _ (nx Q R Y1 (r2 Q hQ R hR)))⟩
      · obtain ⟨Y2, S2, r2⟩ := ih (r + 1) Z (by omega) SZ (fun a ha => by
          rw [hz a ha]
          have : Ag n X r a = 0 := if_neg (fun q => hg ⟨q.1, q.2.1⟩)
          show _ = if Ag n X r a = 0 then orA n X a r else 1
          rw [if_pos this])
        exact ⟨Y2, S2, fun Q hQ R hR => up Q R hR (fun _ => r2 Q hQ R hR) (fun q => absurd q hg)⟩
  obtain ⟨Y1, S1, v1, r1⟩ := l13 k 0 Y (by omega) S (fun a h => absurd h (Nat.not_lt_zero a))
  obtain ⟨Y2, S2, r2⟩ := l45 n 0 Y1 (by omega) S1 v1
  refine ⟨Y2, S2, fun Q hQ x1 e1 => ?_⟩
  have e1 : x1 = nI (ln (X.1 81)) := e1.trans (S.sc.acc.trans hac.2)
  subst e1
  have g := r1 Q (r2 Q hQ)
  refine ⟨fun q => ?_, fun q => ?_⟩
  · have q := (nI_lti (a := 200) (b := ln (X.1 81)) (by omega) (by omega)).mp q
    rw [show k = 200 by omega] at g
    exact g
  · have q : ¬ 200 < ln (X.1 81) := fun z => q ((nI_lti (a := 200) (b := ln (X.1 81)) (by omega) (by omega)).mpr z)
    rw [show k = ln (X.1 81) by omega] at g
    exact g
theorem x_broken (S : Sim n K Y X) {k : Nat} (hk : k = min (ln (X.1 81)) 200) : ∃ X2, TX X X2 ∧ ∀ Q : Int32 → Xc → Prop, Q (sA n X k) X2 → LFx (fx_X12_broken_9 Q) (0, 0) X := by
  have hn := S.sc.n7
  have hk2 := S.sc.k2
  have hac := S.sc.accK.ln (by omega)
  have inner : ∀ (a : Nat), a < k → ∀ (acc : Int32) d r X1, r + d = n → TX X X1 → ∃ X2, TX X X2 ∧ ∀ (Q : Int32 → Xc → Prop) (L9 : Int32 × Int32 → Xc → Prop), L9 (acc + (if orA n X a n = 0 then 0 else 1), nI (a + 1)) X2 → LFx (fx_X12_broken_29 L9 Q) (acc, nI a, orA n X a r, nI r) X1 := by
    intro a ha acc d
    induction d with
    | zero =>
      intro r X1 hr h1
      have hr : r = n := by omega
      subst hr
      refine ⟨X1, h1, fun Q L9 hQ R hR => hR _ _ (fun x1 e1 => ?_)⟩
      have e1 : x1 = nI r := e1.trans (by rw [h1.1]; exact S.sc.x1)
      subst e1
      have e74 : ∀ (s0 : Int32), L9 (acc + s0, nI (a + 1)) X1 → bx_X12_broken_74 L9 Q (nI a) s0 acc X1 := fun s0 h x1 e1 x3 e3 => by
        have e3 : x3 = nI (a + 1) := e3.trans (nI_1 a)
        subst e1; subst e3
        exact h
      refine ⟨fun _ => ⟨fun q => e74 0 ?_, fun q => e74 1 ?_⟩, fun q => absurd (nI_le (Nat.le_refl r) (by omega)) q⟩
      · have q : orA r X a r = 0 := q
        rw [if_pos q] at hQ
        exact hQ
      · have q : ¬ orA r X a r = 0 := q
        rw [if_neg q] at hQ
        exact hQ
    | succ d ih =>
      intro r X1 hr h1
      have hrn : r < n := by omega
      have S1 : Sim n K Y X1 := tbl_sim S TY.rf h1
      have e57 : ∀ (Q : Int32 → Xc → Prop) (L9 : Int32 × Int32 → Xc → Prop) (R : Int32 × Int32 × Int32 × Int32 → Xc → Prop) (s0 : Int32) (Z : Xc), R (acc, nI a, s0, nI (r + 1)) Z → bx_X12_broken_57 L9 R Q acc (nI a) (nI r) s0 Z := fun Q L9 R s0 Z h x1 e1 => by
        have e1 : x1 = nI (r + 1) := e1.trans (nI_1 r)
        subst e1
        exact h
      by_cases h0 : orA n X a r = 0
      · obtain ⟨X2, t2, g2⟩ := against_x S1 (r := r) (a := a) hrn (by omega) (by rw [h1.1]; omega)
        rw [Ag_tx h1] at g2
        obtain ⟨X3, t3, g3⟩ := ih (r + 1) X2 (by omega) (h1.trans t2)
        refine ⟨X3, t3, fun Q L9 hQ R hR => hR _ _ (fun x1 e1 => ?_)⟩
        have e1 : x1 = nI n := e1.trans (by rw [h1.1]; exact S.sc.x1)
        subst e1
        have nx := g3 Q L9 hQ R hR
        refine ⟨fun q => absurd q (nI_ge (a := r) (b := n) (by omega) (by omega)), fun _ => ⟨fun q => absurd h0 q, fun _ => g2 _ ⟨fun q => e57 Q L9 R 0 X2 ?_, fun q => e57 Q L9 R 1 X2 ?_⟩⟩⟩
        · have e : orA n X a (r + 1) = 0 := by
            show (if Ag n X r a = 0 then orA n X a r else 1) = 0
            rw [if_pos q, h0]
          rw [e] at nx
          exact nx
        · have e : orA n X a (r + 1) = 1 := if_neg q
          rw [e] at nx
          exact nx
      · obtain ⟨X3, t3, g3⟩ := ih (r + 1) X1 (by omega) h1
        refine ⟨X3, t3, fun Q L9 hQ R hR => hR _ _ (fun x1 e1 => ?_)⟩
        have e1 : x1 = nI n := e1.trans (by rw [h1.1]; exact S.sc.x1)
        subst e1
        have nx := g3 Q L9 hQ R hR
        have e : orA n X a (r + 1) = 1 := by
          show (if Ag n X r a = 0 then orA n X a r else 1) = 1
          by_cases q : Ag n X r a = 0
          · rw [if_pos q]
            exact (orA_01 n X a r).resolve_left h0
          · rw [if_neg q]
        rw [e] at nx
        exact ⟨fun q => absurd q (nI_ge (a := r) (b := n) (by omega) (by omega)), fun _ => ⟨fun _ => e57 Q L9 R 1 X1 nx, fun q => absurd q h0⟩⟩
  have outer : ∀ d i X1, i + d = k → TX X X1 → ∃ X2, TX X X2 ∧ ∀ Q : Int32 → Xc → Prop, Q (sA n X k) X2 → LFx (fx_X12_broken_9 Q) (sA n X i, nI i) X1 := by
    intro d
    induction d with
    | zero =>
      intro i X1 hi h1
      have hi : i = k := by omega
      subst hi
      refine ⟨X1, h1, fun Q hQ R hR => hR _ _ ⟨fun _ => hQ, fun q x2 e2 => ?_⟩⟩
      have e2 : x2 = nI (ln (X.1 81)) := e2.trans (by rw [h1.1]; exact hac.2)
      subst e2
      have q : ¬ 200 ≤ i := fun z => q ((nI_lei (a := 200) (b := i) (by omega) (by omega)).mpr z)
      exact ⟨fun _ => hQ, fun q2 => absurd (nI_le (a := ln (X.1 81)) (b := i) (by omega) (by omega)) q2⟩
    | succ d ih =>
      intro i X1 hi h1
      obtain ⟨X2, t2, g2⟩ := inner i (by omega) (sA n X i) n 0 X1 (by omega) h1
      obtain ⟨X3, t3, g3⟩ := ih (i + 1) X2 (by omega) t2
      refine ⟨X3, t3, fun Q hQ R hR => hR _ _ ⟨fun q => absurd q (nI_ge (a := i) (b := 200) (by omega) (by omega)), fun _ x2 e2 => ?_⟩⟩
      have e2 : x2 = nI (ln (X.1 81)) := e2.trans (by rw [h1.1]; exact hac.2)
      subst e2
      exact ⟨fun q => absurd q (nI_ge (a := i) (b := ln (X.1 81)) (by omega) (by omega)), fun _ => g2 Q R (g3 Q hQ R hR)⟩
  exact outer k 0 X (by omega) TX.rf
theorem broken_call (S : Sim n K Y X) : OutP n K (wy_X11_broken n Y) (wx_X12_broken X) := by
  have S0 := sim_code S 0
  obtain ⟨Y2, S2, ry⟩ := y_broken S0 (k := min (ln ((xS X 0 0).1 81)) 200) rfl
  obtain ⟨X2, t2, rx⟩ := x_broken S0 (k := min (ln ((xS X 0 0).1 81)) 200) rfl
  exact ⟨_, Y2, X2, ry, rx, tbl_sim S2 TY.rf t2⟩
end
