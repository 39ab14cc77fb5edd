theorem encL_congr {f g : Nat → Option Rq} : ∀ m s, (∀ j, s ≤ j → j < s + m → f j = g j) → encL f s m = encL g s m := by
  intro m
  induction m with
  | zero => intro s _; rfl
  | succ m ih => intro s h; simp only [encL]; rw [h s (by omega) (by omega), ih (s + 1) (fun j a b => h j (by omega) (by omega))]
theorem encG_congr {f g : Nat → Option Rq} {x : Int32} (h : ∀ j, j < ln x → f j = g j) : encG f x = encG g x := by
  unfold encG
  rw [encL_congr (ln x) 0 (fun j _ b => h j (by omega))]
theorem SntB.mS {Y Y2 : Yc} (h : SntB Y Y2) (m : Nat) (f : Nat → Option Rq) : SntB Y (ySl Y2 (56 + ySO Y) m f) := by
  obtain ⟨h1, h2, h3, h4, h5, h6, h7, h8, h9, h10⟩ := h
  refine ⟨h1, h2, h3, h4, h5, h6, fun c o i a => ?_, h8, h9, h10⟩
  rw [ySl_S, if_neg (by omega)]; exact h7 c o i a
theorem SntB.mB {Y Y2 : Yc} (h : SntB Y Y2) {q L : Nat} : SntB Y (yBc Y2 (56 + ySO Y) q L) := ((h.mL 202 _ (Or.inr rfl)).mL 201 _ (Or.inl rfl)).mS _ _
/-- values of a message's log after the copying -/
theorem yBc_v {Y2 : Yc} {o q L : Nat} (hq : q ≠ 56 + o) : yI (yBc Y2 (56 + o) q L) 201 (56 + o) = yI Y2 201 q ∧ yI (yBc Y2 (56 + o) q L) 202 (56 + o) = yI Y2 202 q ∧ (∀ s, s < L → yS (yBc Y2 (56 + o) q L) 200 (56 + o) s = yS Y2 200 q s) ∧ (∀ c, 300 ≤ c → yI (yBc Y2 (56 + o) q L) c o = yI Y2 c o) ∧ yJ (yBc Y2 (56 + o) q L) = yJ Y2 ∧ yP (yBc Y2 (56 + o) q L) = yP Y2 := by
  unfold yBc
  refine ⟨?_, ?_, fun s hs => ?_, fun c hc => ?_, rfl, rfl⟩
  · rw [(ySl_o _ _ _ _).1, yII, if_pos ⟨rfl, rfl⟩]
  · rw [(ySl_o _ _ _ _).1, yII, if_neg (by omega), yII, if_pos ⟨rfl, rfl⟩]
  · rw [ySl_S, if_pos ⟨rfl, rfl, hs⟩]
  · rw [(ySl_o _ _ _ _).1, yII, if_neg (by omega), yII, if_neg (by omega)]
section
variable {n K : Nat} {Y : Yc} {X : Xc}
theorem snt_log (S : Sim n K Y X) {r t L : Nat} (hr : r < n) (ht : t < n) (hL : X.2 26 r = nI L) (hL2 : L ≤ 100) {k : Int32} (hk : k = 5 ∨ k = 10) :
    Snt n K Y (yBc (ySd Y k (nI r) (nI t) (yJ Y 805 r) 0) (56 + ySO Y) r L) ([k, nI r, nI t, X.2 21 r, X.2 22 r] ++ ((if k = 5 then [] else [X.2 27 r]) ++ encG (fun s => xE X (100 * r + s)) (nI L))) := by
  have R := S.rp hr
  have G := S.lg hr
  have hn := S.sc.n7
  have hk1 := S.sc.k1
  obtain ⟨l, hl, el⟩ := R.ldK
  obtain ⟨e, he, ee⟩ := R.epK
  have hvw : yJ Y 805 r = vw (nI l) (nI e) := by rw [R.vie, el, ee]
  have hB := ySd_B Y k (nI r) (nI t) (yJ Y 805 r) 0
  obtain ⟨v1, v2, v3, v4, v5, v6, v7⟩ := ySd_v Y k (nI r) (nI t) (yJ Y 805 r) 0
  obtain ⟨w1, w2, w3, w4, w5, w6⟩ := yBc_v (Y2 := ySd Y k (nI r) (nI t) (yJ Y 805 r) 0) (o := ySO Y) (q := r) (L := L) (by omega)
  have hne := nI_ne1 (r := r) (by omega)
  have i1 : yI (ySd Y k (nI r) (nI t) (yJ Y 805 r) 0) 201 r = nI L := by rw [hB.1 201 r (by omega) (by omega) (by omega) (by omega) (by omega), G.len, hL]
  have i2 : yI (ySd Y k (nI r) (nI t) (yJ Y 805 r) 0) 202 r = X.2 27 r := by rw [hB.1 202 r (by omega) (by omega) (by omega) (by omega) (by omega), G.bas]
  have hln : ln (nI L) = L := nI_clamp (by omega)
  have i3 : ∀ s, s < L → yS (yBc (ySd Y k (nI r) (nI t) (yJ Y 805 r) 0) (56 + ySO Y) r L) 200 (56 + ySO Y) s = xE X (100 * r + s) ∧ EnOK K (xE X (100 * r + s)) := fun s hs => by
    rw [w3 s hs, hB.2.2.2.2.2.2.1 200 r s (by omega)]
    exact G.ent s (by rw [hL, hln]; exact hs)
  have hg : encG (yS (yBc (ySd Y k (nI r) (nI t) (yJ Y 805 r) 0) (56 + ySO Y) r L) 200 (56 + ySO Y)) (nI L) = encG (fun s => xE X (100 * r + s)) (nI L) := encG_congr (fun j hj => (i3 j (by rw [hln] at hj; exact hj)).1)
  refine hB.mB.snt ?_ ?_
  · unfold encM
    rw [w4 301 (by omega), w4 302 (by omega), w4 303 (by omega), w5, w1, w2, i1, i2, v1, v2, v3, v4, hvw, el, ee, vw_lead, vw_sess]
    rcases hk with rfl | rfl
    · rw [hvw] at hg; simp [hne, hg]
    · rw [hvw] at hg; simp [hne, hg]
  · unfold MOK
    rw [w4 301 (by omega), w4 302 (by omega), w4 303 (by omega), w4 306 (by omega), w4 308 (by omega), w4 309 (by omega), w5, w6, w1, w2, i1, i2, v1, v2, v3, v4, v5, v6, v7, hln]
    rcases hk with rfl | rfl
    · exact ⟨⟨_, by decide, rfl⟩, by simpa using ⟨r, hr, rfl⟩, by simpa using ⟨t, ht, rfl⟩, ⟨l, e, hl, he, hvw⟩, by simp, ⟨0, by omega, rfl⟩, by simp, by simp, by simp, fun _ => ⟨⟨L, hL2, rfl⟩, G.b100, fun s hs => by rw [(i3 s hs).1]; exact (i3 s hs).2⟩⟩
    · exact ⟨⟨_, by decide, rfl⟩, by simpa using ⟨r, hr, rfl⟩, by simpa using ⟨t, ht, rfl⟩, ⟨l, e, hl, he, hvw⟩, by simp, ⟨0, by omega, rfl⟩, by simp, by simp, by simp, fun _ => ⟨⟨L, hL2, rfl⟩, G.b100, fun s hs => by rw [(i3 s hs).1]; exact (i3 s hs).2⟩⟩
theorem SntB.log {Y2 : Yc} (h : SntB Y Y2) {r : Nat} (hr : r < 7) : yI Y2 201 r = yI Y 201 r := h.1 201 r (by omega) (by omega) (by omega) (by omega) (by omega)
/-- SYNC to one -/
theorem sync_sim (S : Sim n K Y X) {r t : Nat} (hr : r < n) (ht : t < n) :
    ∃ Y2 X2, (∀ Q : Yc → Prop, Q Y2 → wy_X4_send n 5 (nI r) (nI t) (yJ Y 805 r) 0 Y (fun o Y' => wy_X2_become n (56 + o) r Y' Q)) ∧
      (∀ Q : Xc → Prop, Q X2 → wx_X12_begin 5 (nI r) (nI t) X (fun X7 => wx_X12_addView (nI r) X7 (fun X11 => vp_in (nI r) 7 ∧ ∀ x14 : Int32, x14 = X11.2 26 (nI r).toNatClampNeg → wx_X12_addLog (nI r) x14 X11 (fun X18 => wx_X12_post X18 Q)))) ∧ Sim n K Y2 X2 ∧ SR Y X Y2 X2 := by
  have hn := S.sc.n7
  obtain ⟨L, hL2, hL⟩ := (S.lg hr).l100
  have hS := snt_log S hr ht hL hL2 (k := 5) (Or.inl rfl)
  obtain ⟨X1, r1, d1⟩ := x_begin X 5 (nI r) (nI t)
  obtain ⟨X2, r2, d2⟩ := x_addView d1 (by simp) (r := r) (by omega)
  obtain ⟨X3, r3, d3⟩ := x_addLog d2 hL2 (by simp) (r := r) (by omega)
  obtain ⟨X4, r4, s4, f4⟩ := one_send S d3 (by simpa using hS)
  refine ⟨_, X4, fun Q hQ => y_send S.ar _ _ _ _ _ _ (y_become (by omega) hL2 (by rw [(ySd_B _ _ _ _ _ _).log (by omega), (S.lg hr).len, hL]) _ hQ), fun Q hQ => ?_, s4, f4⟩
  refine r1 _ (r2 _ ⟨vp_in_nI (by omega) (by omega), fun x14 e14 => ?_⟩)
  rw [nI_clamp (by omega), d2.2.1 26 (by omega), hL] at e14
  subst e14
  exact r3 _ (r4 _ hQ)
/-- START to one -/
theorem start_sim (S : Sim n K Y X) {r t : Nat} (hr : r < n) (ht : t < n) :
    ∃ Y2 X2, (∀ Q : Yc → Prop, Q Y2 → wy_X4_send n 10 (nI r) (nI t) (yJ Y 805 r) 0 Y (fun o Y' => wy_X2_become n (56 + o) r Y' Q)) ∧
      (∀ Q : Xc → Prop, Q X2 → wx_X12_sendStart (nI r) (nI t) X Q) ∧ Sim n K Y2 X2 ∧ SR Y X Y2 X2 := by
  have hn := S.sc.n7
  obtain ⟨L, hL2, hL⟩ := (S.lg hr).l100
  have hS := snt_log S hr ht hL hL2 (k := 10) (Or.inr rfl)
  obtain ⟨X1, r1, d1⟩ := x_begin X 10 (nI r) (nI t)
  obtain ⟨X2, r2, d2⟩ := x_addView d1 (by simp) (r := r) (by omega)
  obtain ⟨X25, r25, d25⟩ := x_add d2 (by simp) (X.2 27 r)
  obtain ⟨X3, r3, d3⟩ := x_addLog d25 hL2 (by simp) (r := r) (by omega)
  obtain ⟨X4, r4, s4, f4⟩ := one_send S d3 (by simpa using hS)
  refine ⟨_, X4, fun Q hQ => y_send S.ar _ _ _ _ _ _ (y_become (by omega) hL2 (by rw [(ySd_B _ _ _ _ _ _).log (by omega), (S.lg hr).len, hL]) _ hQ), fun Q hQ => ?_, s4, f4⟩
  unfold wx_X12_sendStart
  refine r1 _ (r2 _ ⟨vp_in_nI (by omega) (by omega), fun x10 e10 => ?_⟩)
  rw [nI_clamp (by omega), d2.2.1 27 (by omega)] at e10
  subst e10
  refine r25 _ ⟨vp_in_nI (by omega) (by omega), fun x17 e17 => ?_⟩
  rw [nI_clamp (by omega), d25.2.1 26 (by omega), hL] at e17
  subst e17
  exact r3 _ (r4 _ hQ)
/-- TURNED to the leader -/
theorem turned_sim (S : Sim n K Y X) {r t : Nat} (hr : r < n) (ht : t < n) (hrt : t ≠ r) :
    ∃ Y2 X2, (∀ Q : Yc → Prop, Q Y2 → wy_X4_send n 9 (nI r) (nI t) (yJ Y 805 r) 0 Y (fun o Y' => ∀ y32 : Int64, y32 = yJ Y' 806 r → wy_X2_become n (56 + o) r (uJ Y' 305 o y32) Q)) ∧
      (∀ Q : Xc → Prop, Q X2 → wx_X12_begin 9 (nI r) (nI t) X (fun (X12 : Xc) => (wx_X12_addView (nI r) X12 (fun (X16 : Xc) => (vp_in (nI r) 7 ∧ (∀ x19 : Int32, x19 = X16.2 24 (nI r).toNatClampNeg → (wx_X12_add x19 X16 (fun (X23 : Xc) => (vp_in (nI r) 7 ∧ (∀ x26 : Int32, x26 = X23.2 25 (nI r).toNatClampNeg → (wx_X12_add x26 X23 (fun (X30 : Xc) => (vp_in (nI r) 7 ∧ (∀ x33 : Int32, x33 = X30.2 27 (nI r).toNatClampNeg → (wx_X12_add x33 X30 (fun (X37 : Xc) => (vp_in (nI r) 7 ∧ (∀ x40 : Int32, x40 = X37.2 26 (nI r).toNatClampNeg → (wx_X12_addLog (nI r) x40 X37 (fun (X44 : Xc) => (wx_X12_post  X44 Q))))))))))))))))))))) ∧ Sim n K Y2 X2 ∧ SR Y X Y2 X2 := by
  have hn := S.sc.n7
  have R := S.rp hr
  have G := S.lg hr
  have hk1 := S.sc.k1
  obtain ⟨l, hl, el⟩ := R.ldK
  obtain ⟨e, he, ee⟩ := R.epK
  obtain ⟨ll, hll, ell⟩ := R.llK
  obtain ⟨le, hle, ele⟩ := R.leK
  have hvw : yJ Y 805 r = vw (nI l) (nI e) := by rw [R.vie, el, ee]
  have hno : yJ Y 806 r = vw (nI ll) (nI le) := by rw [R.nor, ell, ele]
  obtain ⟨L, hL2, hL⟩ := (S.lg hr).l100
  have hB := (ySd_B Y 9 (nI r) (nI t) (yJ Y 805 r) 0).mJ (yJ Y 806 r)
  obtain ⟨v1, v2, v3, v4, v5, v6, v7⟩ := ySd_v Y 9 (nI r) (nI t) (yJ Y 805 r) 0
  obtain ⟨w1, w2, w3, w4, w5, w6⟩ := yBc_v (Y2 := uJ (ySd Y 9 (nI r) (nI t) (yJ Y 805 r) 0) 305 (ySO Y) (yJ Y 806 r)) (o := ySO Y) (q := r) (L := L) (by omega)
  have hne := nI_ne1 (r := r) (by omega)
  have i1 : yI (uJ (ySd Y 9 (nI r) (nI t) (yJ Y 805 r) 0) 305 (ySO Y) (yJ Y 806 r)) 201 r = nI L := by rw [hB.1 201 r (by omega) (by omega) (by omega) (by omega) (by omega), G.len, hL]
  have i2 : yI (uJ (ySd Y 9 (nI r) (nI t) (yJ Y 805 r) 0) 305 (ySO Y) (yJ Y 806 r)) 202 r = X.2 27 r := by rw [hB.1 202 r (by omega) (by omega) (by omega) (by omega) (by omega), G.bas]
  have hln : ln (nI L) = L := nI_clamp (by omega)
  have i3 : ∀ s, s < L → yS (yBc (uJ (ySd Y 9 (nI r) (nI t) (yJ Y 805 r) 0) 305 (ySO Y) (yJ Y 806 r)) (56 + ySO Y) r L) 200 (56 + ySO Y) s = xE X (100 * r + s) ∧ EnOK K (xE X (100 * r + s)) := fun s hs => by
    rw [w3 s hs, hB.2.2.2.2.2.2.1 200 r s (by omega)]
    exact G.ent s (by rw [hL, hln]; exact hs)
  have hg : encG (yS (yBc (uJ (ySd Y 9 (nI r) (nI t) (yJ Y 805 r) 0) 305 (ySO Y) (yJ Y 806 r)) (56 + ySO Y) r L) 200 (56 + ySO Y)) (nI L) = encG (fun s => xE X (100 * r + s)) (nI L) := encG_congr (fun j hj => (i3 j (by rw [hln] at hj; exact hj)).1)
  have j4 : yJ (uJ (ySd Y 9 (nI r) (nI t) (yJ Y 805 r) 0) 305 (ySO Y) (yJ Y 806 r)) 304 (ySO Y) = vw (nI l) (nI e) := by rw [yJJ, if_neg (by omega), v4, hvw]
  have j5 : yJ (uJ (ySd Y 9 (nI r) (nI t) (yJ Y 805 r) 0) 305 (ySO Y) (yJ Y 806 r)) 305 (ySO Y) = vw (nI ll) (nI le) := by rw [yJJ, if_pos ⟨rfl, rfl⟩, hno]
  have hS : Snt n K Y (yBc (uJ (ySd Y 9 (nI r) (nI t) (yJ Y 805 r) 0) 305 (ySO Y) (yJ Y 806 r)) (56 + ySO Y) r L) ([9, nI r, nI t, X.2 21 r, X.2 22 r, X.2 24 r, X.2 25 r, X.2 27 r] ++ encG (fun s => xE X (100 * r + s)) (nI L)) := by
    refine hB.mB.snt ?_ ?_
    · unfold encM
      rw [w4 301 (by omega), w4 302 (by omega), w4 303 (by omega), w5, w1, w2, i1, i2, j4, j5, vw_lead, vw_sess, vw_lead, vw_sess, hg, yIJ, v1, v2, v3, el, ee, ell, ele]
      simp [hne]
    · unfold MOK
      rw [w4 301 (by omega), w4 302 (by omega), w4 303 (by omega), w4 306 (by omega), w4 308 (by omega), w4 309 (by omega), w5, w6, w1, w2, i1, i2, j4, j5, yIJ, yPJ, v1, v2, v3, v5, v6, v7, hln]
      refine ⟨⟨_, by decide, rfl⟩, by simpa using ⟨r, hr, rfl⟩, by simpa using ⟨t, ht, rfl⟩, ⟨l, e, hl, he, rfl⟩, fun _ => ⟨⟨ll, le, hll, hle, rfl⟩, fun q => hrt ((nI_eq (by omega) (by omega)).mp q.symm)⟩, ⟨0, by omega, rfl⟩, by simp, by simp, by simp, fun _ => ⟨⟨L, hL2, rfl⟩, G.b100, fun s hs => by rw [(i3 s hs).1]; exact (i3 s hs).2⟩⟩
  obtain ⟨X1, r1, d1⟩ := x_begin X 9 (nI r) (nI t)
  obtain ⟨X2, r2, d2⟩ := x_addView d1 (by simp) (r := r) (by omega)
  obtain ⟨X21, r21, d21⟩ := x_add d2 (by simp) (X.2 24 r)
  obtain ⟨X22, r22, d22⟩ := x_add d21 (by simp) (X.2 25 r)
  obtain ⟨X25, r25, d25⟩ := x_add d22 (by simp) (X.2 27 r)
  obtain ⟨X3, r3, d3⟩ := x_addLog d25 hL2 (by simp) (r := r) (by omega)
  obtain ⟨X4, r4, s4, f4⟩ := one_send S d3 (by simpa using hS)
  refine ⟨_, X4, fun Q hQ => y_send S.ar _ _ _ _ _ _ (fun y32 e32 => ?_), fun Q hQ => ?_, s4, f4⟩
  · rw [(ySd_B Y 9 (nI r) (nI t) (yJ Y 805 r) 0).2.1 806 r (by omega)] at e32
    subst e32
    exact y_become (by omega) hL2 (by rw [hB.log (by omega), (S.lg hr).len, hL]) _ hQ
  refine r1 _ (r2 _ ⟨vp_in_nI (by omega) (by omega), fun x e => ?_⟩)
  rw [nI_clamp (by omega), d2.2.1 24 (by omega)] at e
  subst e
  refine r21 _ ⟨vp_in_nI (by omega) (by omega), fun x e => ?_⟩
  rw [nI_clamp (by omega), d21.2.1 25 (by omega)] at e
  subst e
  refine r22 _ ⟨vp_in_nI (by omega) (by omega), fun x e => ?_⟩
  rw [nI_clamp (by omega), d22.2.1 27 (by omega)] at e
  subst e
  refine r25 _ ⟨vp_in_nI (by omega) (by omega), fun x17 e17 => ?_⟩
  rw [nI_clamp (by omega), d25.2.1 26 (by omega), hL] at e17
  subst e17
  exact r3 _ (r4 _ hQ)
end
