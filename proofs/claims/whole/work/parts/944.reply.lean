section
variable {n K : Nat} {Y Y2 : Yc} {X X2 : Xc} {r : Nat}
theorem RgX.up (h : RgX r X X2) : Up X X2 := Up.ks (h.1 6 (by omega) (by omega) (by omega) (by omega)) (h.1 0 (by omega) (by omega) (by omega) (by omega))
theorem TX.up (h : TX X X2) : Up X X2 := Up.eq h.1
/-- what a replica is, unchanged -/
def Kp (X X2 : Xc) : Prop := ∀ k, 20 ≤ k → k ≤ 61 → X2.2 k = X.2 k
theorem SR.kp (h : SR Y X Y2 X2) : Kp X X2 := fun k h1 h2 => h.2.1.2 k (by omega) (by omega)
theorem TX.kp (h : TX X X2) : Kp X X2 := fun k h1 h2 => funext (fun i => h.2 k i (by omega))
theorem Kp.trans {X3 : Xc} (h : Kp X X2) (g : Kp X2 X3) : Kp X X3 := fun k h1 h2 => (g k h1 h2).trans (h k h1 h2)
theorem Kp.rf : Kp X X := fun _ _ _ => rfl
theorem ldr_md (S : Sim n K Y X) (hr : r < n) (h : ldr n X r = r) : nI r = md (X.2 21 r) (nI n) := by
  have hn := S.sc.n7
  have hn3 := S.sc.n3
  have hk2 := S.sc.k2
  have hl := (S.rp hr).ldK.ln (by omega)
  rw [hl.2, md_nI (by omega) (by omega) (by omega)]
  unfold ldr at h
  rw [h]
set_option maxHeartbeats 2000000 in
theorem replySend (S : Sim n K Y X) (hr : r < n) {L : Nat} {w : Rq} {p : Int32} (hL : L < 100) (hl : X.2 26 r = nI (L + 1)) (he : X.2 32 (100 * r + L) = w.2.1) (hw : RqOK K w)
    (hp : p = 0 ∨ (p = 1 ∧ ldr n X r = r ∧ yA Y 1002 0 (ln w.1) = X.2 64 (ln w.1))) :
    ∃ Y2 X2, (∀ Q : Yc → Prop, Q Y2 → by_X8_sendReply_42 n r Q (some w) p Y) ∧ (∀ Q : Xc → Prop, Q X2 → bx_X12_takeOne_142 Q (nI r) (nI (100 * r + L)) w.1 p X) ∧ Sim n K Y2 X2 ∧ SR Y X Y2 X2 := by
  have hn := S.sc.n7
  have hk1 := S.sc.k1
  have hcr : (nI r).toNatClampNeg = r := nI_clamp (by omega)
  have hvr : vp_in (nI r) 7 := vp_in_nI (by omega) (by omega)
  have hce : (nI (100 * r + L)).toNatClampNeg = 100 * r + L := nI_clamp (by omega)
  have hve : vp_in (nI (100 * r + L)) 700 := vp_in_nI (by omega) (by omega)
  have R := S.rp hr
  obtain ⟨l, hl', el⟩ := R.ldK
  obtain ⟨e, he', ee⟩ := R.epK
  obtain ⟨tc, htc, etc⟩ := hw.1
  have hlen : yI Y 201 r = nI (L + 1) := (S.lg hr).1.trans hl
  obtain ⟨ans, hans⟩ : ∃ a : Int32, a = if p = 0 then 0 else X.2 64 (ln w.1) := ⟨_, rfl⟩
  obtain ⟨v1, v2, v3, v4, v5, v6, v7⟩ := ySd_v Y 11 (nI r) w.1 (yJ Y 805 r) (nI (L + 1))
  have hB := (((ySd_B Y 11 (nI r) w.1 (yJ Y 805 r) (nI (L + 1))).mI 308 w.2.1 (by omega)).mI 309 p (by omega)).mI 310 ans (by omega)
  have hSB := ySd_B Y 11 (nI r) w.1 (yJ Y 805 r) (nI (L + 1))
  generalize hYd : ySd Y 11 (nI r) w.1 (yJ Y 805 r) (nI (L + 1)) = Yd at *
  have f301 : yI (uI (uI (uI Yd 308 (ySO Y) w.2.1) 309 (ySO Y) p) 310 (ySO Y) ans) 301 (ySO Y) = 11 := v1
  have f302 : yI (uI (uI (uI Yd 308 (ySO Y) w.2.1) 309 (ySO Y) p) 310 (ySO Y) ans) 302 (ySO Y) = nI r := v2
  have f303 : yI (uI (uI (uI Yd 308 (ySO Y) w.2.1) 309 (ySO Y) p) 310 (ySO Y) ans) 303 (ySO Y) = w.1 := v3
  have f304 : yJ (uI (uI (uI Yd 308 (ySO Y) w.2.1) 309 (ySO Y) p) 310 (ySO Y) ans) 304 (ySO Y) = vw (nI l) (nI e) := by rw [← el, ← ee, ← R.vie]; exact v4
  have f306 : yI (uI (uI (uI Yd 308 (ySO Y) w.2.1) 309 (ySO Y) p) 310 (ySO Y) ans) 306 (ySO Y) = nI (L + 1) := v5
  have f308 : yI (uI (uI (uI Yd 308 (ySO Y) w.2.1) 309 (ySO Y) p) 310 (ySO Y) ans) 308 (ySO Y) = w.2.1 := by rw [yII, if_neg (by omega), yII, if_neg (by omega), yII, if_pos ⟨rfl, rfl⟩]
  have f309 : yI (uI (uI (uI Yd 308 (ySO Y) w.2.1) 309 (ySO Y) p) 310 (ySO Y) ans) 309 (ySO Y) = p := by rw [yII, if_neg (by omega), yII, if_pos ⟨rfl, rfl⟩]
  have f310 : yI (uI (uI (uI Yd 308 (ySO Y) w.2.1) 309 (ySO Y) p) 310 (ySO Y) ans) 310 (ySO Y) = ans := by rw [yII, if_pos ⟨rfl, rfl⟩]
  have hne := nI_ne1 (r := r) (by omega)
  have hS : Snt n K Y (uI (uI (uI Yd 308 (ySO Y) w.2.1) 309 (ySO Y) p) 310 (ySO Y) ans) ([11, nI r, 16 + w.1, nI l, nI e, nI (L + 1), w.2.1, p] ++ (if p = 0 then [] else [ans])) := by
    refine hB.snt ?_ ?_
    · unfold encM
      rw [f301, f302, f303, f304, f306, f308, f309, f310, vw_lead, vw_sess]
      simp [hne]
    · unfold MOK
      rw [f301, f302, f303, f304, f306, f308, f309]
      refine ⟨⟨11, by decide, rfl⟩, by simpa using ⟨r, hr, rfl⟩, by simpa using ⟨tc, htc, etc⟩, ⟨l, e, hl', he', rfl⟩, by simp, ⟨L + 1, by omega, rfl⟩, by simp, fun _ => ⟨L, hL, rfl⟩, fun _ => ⟨hw.2.1, ?_⟩, by simp⟩
      rcases hp with h | ⟨h, h2, _⟩
      · exact Or.inl h
      · refine Or.inr ⟨h, ?_⟩
        rw [vw_lead, ← el]
        exact ldr_md S hr h2
  have hYrun : ∀ Q : Yc → Prop, Q (uI (uI (uI Yd 308 (ySO Y) w.2.1) 309 (ySO Y) p) 310 (ySO Y) ans) → by_X8_sendReply_42 n r Q (some w) p Y := fun Q hQ => by
    unfold by_X8_sendReply_42
    intro x2 e2
    rw [R.num] at e2
    subst e2
    refine ⟨w, rfl, fun x8 e8 y10 e10 x14 e14 => ?_⟩
    rw [hlen] at e14
    subst e8; subst e10; subst e14
    refine y_send S.ar _ _ _ _ _ _ (fun x24 e24 => ?_)
    subst e24
    rw [hYd]
    rcases hp with h | ⟨h, _, h3⟩
    · subst h
      refine ⟨Or.inl rfl, fun _ => ?_, fun h => absurd rfl h⟩
      unfold by_X8_sendReply_105
      rw [if_pos rfl] at hans
      rw [hans] at hQ
      exact hQ
    · subst h
      refine ⟨Or.inr rfl, fun h => absurd h (by decide), fun _ x33 e33 => ?_⟩
      subst e33
      refine ⟨hw.cl.1, fun x36 e36 => ?_⟩
      unfold by_X8_sendReply_105
      rw [if_neg (by decide)] at hans
      have e36 : x36 = ans := by
        rw [e36, hans, ← h3]
        show yA Yd 1002 0 (ln w.1) = _
        rw [hSB.2.2.1]
      subst e36
      exact hQ
  obtain ⟨X1, r1, d1⟩ := x_begin X 11 (nI r) (16 + w.1)
  obtain ⟨X2, r2, d2⟩ := x_addView d1 (by simp) (r := r) (by omega)
  obtain ⟨X3, r3, d3⟩ := x_add d2 (by simp) (X.2 26 r)
  obtain ⟨X4, r4, d4⟩ := x_add d3 (by simp) w.2.1
  obtain ⟨X5, r5, d5⟩ := x_add d4 (by simp) p
  have pre : ∀ Q : Xc → Prop, ((p = 0 → wx_X12_post X5 Q) ∧ (¬ p = 0 → wx_X12_add (X.2 64 (ln w.1)) X5 (fun X' => wx_X12_post X' Q))) → bx_X12_takeOne_142 Q (nI r) (nI (100 * r + L)) w.1 p X := fun Q h => by
    unfold bx_X12_takeOne_142
    refine r1 _ (r2 _ ⟨hvr, fun x10 e10 => ?_⟩)
    rw [hcr, d2.2.1 26 (by omega)] at e10
    subst e10
    refine r3 _ ⟨hve, fun x17 e17 => ?_⟩
    rw [hce, d3.2.1 32 (by omega), he] at e17
    subst e17
    refine r4 _ ?_
    unfold bx_X12_takeOne_190
    rcases hp with q | ⟨q, _, _⟩
    · subst q
      refine ⟨fun _ => r5 _ ⟨fun _ => h.1 rfl, fun q => absurd rfl q⟩, fun q => absurd rfl q⟩
    · subst q
      refine ⟨fun q => absurd q (by decide), fun _ => r5 _ ⟨fun q => absurd q (by decide), fun _ => ⟨hw.cl.1, fun x7 e7 => ?_⟩⟩⟩
      rw [d5.2.1 64 (by omega)] at e7
      subst e7
      exact h.2 (by decide)
  rw [el, ee, hl] at d5
  rcases hp with q | ⟨q, h2, h3⟩
  · subst q
    rw [if_pos rfl] at hS
    obtain ⟨X6, r6, s6, f6⟩ := one_send S d5 (by simpa using hS)
    exact ⟨_, X6, hYrun, fun Q hQ => pre Q ⟨fun _ => r6 Q hQ, fun q => absurd rfl q⟩, s6, f6⟩
  · subst q
    rw [if_neg (by decide)] at hS hans
    obtain ⟨X6, r6, d6⟩ := x_add d5 (by simp) ans
    obtain ⟨X7, r7, s7, f7⟩ := one_send S d6 (by simpa using hS)
    exact ⟨_, X7, hYrun, fun Q hQ => pre Q ⟨fun q => absurd q (by decide), fun _ => by rw [← hans]; exact r6 _ (r7 Q hQ)⟩, s7, f7⟩
theorem reply_sim (S : Sim n K Y X) (hr : r < n) {L : Nat} {w : Rq} (hL : L < 100) (hl : X.2 26 r = nI (L + 1)) (he : xE X (100 * r + L) = some w) (hw : RqOK K w) (hs : X.2 23 r ≠ 2) :
    ∃ Y2 X2, (∀ Q : Yc → Prop, Q Y2 → wy_X8_sendReply n r (some w) (lds n X r) Y Q) ∧
      (∀ Q : Xc → Prop, Q X2 → (vp_in (nI (100 * r + L)) 700 ∧ (∀ x37 : Int32, x37 = X.2 31 (nI (100 * r + L)).toNatClampNeg → (wx_X12_leads (nI r) X (fun (x39 : Int32) (X41 : Xc) => ((x39 = 0 → bx_X12_takeOne_120 Q (nI r) (nI (100 * r + L)) x37 x39 X41) ∧ (¬ x39 = 0 → (wx_X12_execute (nI r) X41 (fun (X46 : Xc) => bx_X12_takeOne_120 Q (nI r) (nI (100 * r + L)) x37 x39 X46))))))))) ∧
      Sim n K Y2 X2 ∧ Up X X2 ∧ Kp X X2 := by
  have hn := S.sc.n7
  have hk2 := S.sc.k2
  have hce : (nI (100 * r + L)).toNatClampNeg = 100 * r + L := nI_clamp (by omega)
  have hve : vp_in (nI (100 * r + L)) 700 := vp_in_nI (by omega) (by omega)
  have h30 : X.2 30 (100 * r + L) ≠ 0 := fun q => by unfold xE at he; rw [if_pos q] at he; simp at he
  have hh : (X.2 31 (100 * r + L), X.2 32 (100 * r + L), X.2 33 (100 * r + L), X.2 34 (100 * r + L), X.2 35 (100 * r + L)) = w := by unfold xE at he; rw [if_neg h30] at he; simpa using he
  have w1 : X.2 31 (100 * r + L) = w.1 := by rw [← hh]
  have w2 : X.2 32 (100 * r + L) = w.2.1 := by rw [← hh]
  rw [hce]
  rcases lds_01 (n := n) (X := X) (r := r) with hd | hd
  · obtain ⟨Y2, X2, ry, rx, s2, f2⟩ := replySend S hr (p := 0) hL hl w2 hw (Or.inl rfl)
    refine ⟨Y2, X2, fun Q hQ => ?_, fun Q hQ => ⟨hve, fun x37 e37 => ?_⟩, s2, f2.up, f2.kp⟩
    · unfold wy_X8_sendReply
      rw [hd]
      exact ⟨fun _ => ry Q hQ, fun h => absurd rfl h⟩
    · rw [w1] at e37
      subst e37
      refine x_leads S hr _ ?_
      rw [hd]
      refine ⟨fun _ => ?_, fun h => absurd rfl h⟩
      unfold bx_X12_takeOne_120
      exact ⟨fun _ => rx Q hQ, fun h => absurd rfl h⟩
  · have hld := lds_1.mp hd
    have hlen : yI Y 201 r = nI (L + 1) := (S.lg hr).1.trans hl
    have hll : ln (nI (L + 1)) = L + 1 := nI_clamp (by omega)
    have hex : exE n X r = L + 1 := by unfold exE; rw [if_pos ⟨hld, hs⟩, hl, hll]
    obtain ⟨Y1, ry1, b1, g1, _⟩ := y_replay (n := n) (K := K) (Y := Y) (r := r) (L := L + 1) (E := L + 1) (by omega) (by omega) hlen (fun s hs' => by
      have := (S.lg hr).2.2.2.2 s (by rw [hl, hll]; exact hs')
      rw [this.1]
      exact this.2)
    obtain ⟨X1, rx1, c1, t1⟩ := x_execute S hr
    rw [hex] at c1
    rw [Nat.min_self, Tb_congr (g := fun s => xE X (100 * r + s)) (L + 1) (fun s hs' => ((S.lg hr).2.2.2.2 s (by rw [hl, hll]; exact hs')).1)] at b1
    generalize hT : Tb (fun s => xE X (100 * r + s)) (L + 1) = T at *
    have S1 := tbl_sim S g1 t1
    have yg : ∀ Q : Yc → Prop, ((T.2.1 (ln w.1) = w.2.1 → by_X8_sendReply_42 n r Q (some w) 1 Y1) ∧ (¬ T.2.1 (ln w.1) = w.2.1 → Q Y1)) → wy_X8_sendReply n r (some w) (lds n X r) Y Q := fun Q h => by
      unfold wy_X8_sendReply
      rw [hd]
      refine ⟨fun q => absurd q (by decide), fun _ x6 e6 => ?_⟩
      rw [hlen] at e6
      subst e6
      refine ry1 _ ⟨w, rfl, fun x23 e23 => ?_⟩
      subst e23
      refine ⟨hw.cl.1, fun x26 e26 x28 e28 => ?_⟩
      have e26 : x26 = T.2.1 (ln w.1) := e26.trans (b1.2.1 _ hw.cl.2)
      subst e26; subst e28
      exact h
    have xg : ∀ Q : Xc → Prop, ((T.2.1 (ln w.1) = w.2.1 → bx_X12_takeOne_142 Q (nI r) (nI (100 * r + L)) w.1 1 X1) ∧ (¬ T.2.1 (ln w.1) = w.2.1 → Q X1)) → (vp_in (nI (100 * r + L)) 700 ∧ (∀ x37 : Int32, x37 = X.2 31 (100 * r + L) → (wx_X12_leads (nI r) X (fun (x39 : Int32) (X41 : Xc) => ((x39 = 0 → bx_X12_takeOne_120 Q (nI r) (nI (100 * r + L)) x37 x39 X41) ∧ (¬ x39 = 0 → (wx_X12_execute (nI r) X41 (fun (X46 : Xc) => bx_X12_takeOne_120 Q (nI r) (nI (100 * r + L)) x37 x39 X46)))))))) := fun Q h => by
      refine ⟨hve, fun x37 e37 => ?_⟩
      rw [w1] at e37
      subst e37
      refine x_leads S hr _ ?_
      rw [hd]
      refine ⟨fun q => absurd q (by decide), fun _ => rx1 _ ?_⟩
      unfold bx_X12_takeOne_120
      refine ⟨fun q => absurd q (by decide), fun _ => ⟨hw.cl.1, fun x3 e3 => ⟨hve, fun x6 e6 => ?_⟩⟩⟩
      have e3 : x3 = T.2.1 (ln w.1) := e3.trans (c1.2.1 _ hw.cl.2)
      rw [hce, t1.2 32 _ (by omega), w2] at e6
      subst e3; subst e6
      exact h
    by_cases hq : T.2.1 (ln w.1) = w.2.1
    · obtain ⟨Y2, X2, ry, rx, s2, f2⟩ := replySend S1 hr (p := 1) (w := w) hL (by rw [t1.2 26 r (by omega)]; exact hl) (by rw [t1.2 32 _ (by omega)]; exact w2) hw (Or.inr ⟨rfl, by
        unfold ldr at *
        rw [t1.2 21 r (by omega)]
        exact hld, by rw [b1.2.2 _ hw.cl.2, c1.2.2 _ hw.cl.2]⟩)
      exact ⟨Y2, X2, fun Q hQ => yg Q ⟨fun _ => ry Q hQ, fun h => absurd hq h⟩, fun Q hQ => xg Q ⟨fun _ => rx Q hQ, fun h => absurd hq h⟩, s2, t1.up.trans f2.up, t1.kp.trans f2.kp⟩
    · exact ⟨Y1, X1, fun Q hQ => yg Q ⟨fun h => absurd h hq, fun _ => hQ⟩, fun Q hQ => xg Q ⟨fun h => absurd h hq, fun _ => hQ⟩, S1, t1.up, t1.kp⟩
end
