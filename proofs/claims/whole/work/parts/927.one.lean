/-- what a sending leaves: other cells, the message at hand -/
def SR (Y : Yc) (X : Xc) (Y2 : Yc) (X2 : Xc) : Prop :=
  OutY Y Y2 ∧ XF X X2 ∧ yR Y2 = yR Y ∧ yI Y2 404 0 = yI Y 404 0 ∧ yI Y2 408 0 = yI Y 408 0 ∧ (∀ i, i = yR Y ((ln (yI Y 404 0) + 255) % 256) → MEq Y Y2 i) ∧ ln (X.1 6) ≤ ln (X2.1 6)
/-- the air has no fewer, no word is said -/
def Up (X X2 : Xc) : Prop := ln (X.1 6) ≤ ln (X2.1 6) ∧ X2.1 0 = X.1 0
theorem Up.rf {X : Xc} : Up X X := ⟨Nat.le_refl _, rfl⟩
theorem Up.trans {X X2 X3 : Xc} (h : Up X X2) (g : Up X2 X3) : Up X X3 := ⟨Nat.le_trans h.1 g.1, g.2.trans h.2⟩
theorem Up.ks {X X2 : Xc} (h6 : X2.1 6 = X.1 6) (h0 : X2.1 0 = X.1 0) : Up X X2 := ⟨by rw [h6]; exact Nat.le_refl _, h0⟩
theorem Up.eq {X X2 : Xc} (h : X2.1 = X.1) : Up X X2 := Up.ks (by rw [h]) (by rw [h])
theorem SR.rf {Y : Yc} {X : Xc} : SR Y X Y X := ⟨OutY.rf, XF.rf, rfl, rfl, rfl, fun _ _ => MEq.rf, Nat.le_refl _⟩
theorem SR.trans {Y Y2 Y3 : Yc} {X X2 X3 : Xc} (h : SR Y X Y2 X2) (g : SR Y2 X2 Y3 X3) : SR Y X Y3 X3 :=
  ⟨h.1.trans g.1, h.2.1.trans g.2.1, g.2.2.1.trans h.2.2.1, g.2.2.2.1.trans h.2.2.2.1, g.2.2.2.2.1.trans h.2.2.2.2.1, fun i hi => (h.2.2.2.2.2.1 i hi).trans (g.2.2.2.2.2.1 i (by rw [h.2.2.1, h.2.2.2.1]; exact hi)), Nat.le_trans h.2.2.2.2.2.2 g.2.2.2.2.2.2⟩
theorem SR.up {Y Y2 : Yc} {X X2 : Xc} (h : SR Y X Y2 X2) : Up X X2 := ⟨h.2.2.2.2.2.2, h.2.1.1 0 (by omega) (by omega) (by omega) (by omega)⟩
theorem SR.han {n K : Nat} {Y Y2 : Yc} {X X2 : Xc} {i : Nat} {l : List Int32} (h : SR Y X Y2 X2) (g : Han n K Y X i l) : Han n K Y2 X2 i l := by
  obtain ⟨g1, g2, g3, g4, g5⟩ := g
  have hm := h.2.2.2.2.2.1 i g1
  exact ⟨by rw [h.2.2.1, h.2.2.2.1]; exact g1, by rw [hm.enc]; exact g2, hm.ok g3, by rw [h.2.1.2 15 (by omega) (by omega)]; exact g4, g5⟩
theorem so_ne {n K : Nat} {Y : Yc} {X : Xc} (A : ArS n K Y X) : yR Y ((ln (yI Y 404 0) + 255) % 256) ≠ ySO Y := by
  obtain ⟨cnt, od, hc, ho, e5, _, e4, hr, hri, _⟩ := A
  unfold ySO
  rw [e4, e5]
  have e : ln (nI od) = od := nI_clamp (by omega)
  have e' : ln (nI cnt) = cnt := nI_clamp (by omega)
  rw [e, e']
  split
  · have := hr ((od + 255) % 256) (by omega); omega
  · rename_i h
    have h2 : cnt ≠ 200 := fun q => h ((nI_inj200 hc).mpr q)
    intro q
    have := hri _ _ (by omega) (by omega) q
    omega
theorem one_send {n K : Nat} {Y Y2 : Yc} {X X1 : Xc} {l : List Int32} (S : Sim n K Y X) (hD : Dr X X1 l) (hS : Snt n K Y Y2 l) :
    ∃ X2, (∀ Q : Xc → Prop, Q X2 → wx_X12_post X1 Q) ∧ Sim n K Y2 X2 ∧ SR Y X Y2 X2 := by
  have hl : l.length ≤ 640 := by
    have := enc_len hS.2.2.2.2.2.2.2.2.2.2.2
    rw [hS.2.2.2.2.2.2.2.2.2.2.1] at this
    omega
  obtain ⟨X2, r2, s2, f2⟩ := post_sim S hD hl hS
  refine ⟨X2, r2, s2, hS.out, f2, hS.2.2.2.2.1, hS.1 404 0 (by omega) (by omega) (by omega) (by omega) (by omega), hS.1 408 0 (by omega) (by omega) (by omega) (by omega) (by omega), fun i hi => hS.meq ?_, ?_⟩
  · rw [hi]
    exact so_ne S.ar
  · obtain ⟨c1, _, b1, _, e1, x1, _⟩ := S.ar
    obtain ⟨c2, _, b2, _, e2, x2, _⟩ := s2.ar
    rw [x1, x2]
    have h1 : ln (nI c1) = c1 := nI_clamp (by omega)
    have h2 : ln (nI c2) = c2 := nI_clamp (by omega)
    rw [h1, h2]
    have sif := hS.2.2.2.2.2.2.2.2.1
    split at sif
    · have := (nI_inj200 b2).mp (e2.symm.trans sif.1)
      omega
    · have sif := sif.1
      rw [e1, e2, nI_1] at sif
      have := (nI_eq (by omega) (by omega)).mp sif
      omega
theorem Sim.rp {n K : Nat} {Y : Yc} {X : Xc} (S : Sim n K Y X) {r : Nat} (hr : r < n) : RpS n K Y X r := (S.2.1 r hr).1
theorem Sim.lg {n K : Nat} {Y : Yc} {X : Xc} (S : Sim n K Y X) {r : Nat} (hr : r < n) : LgS K Y X r := (S.2.1 r hr).2.1
theorem Sim.hd {n K : Nat} {Y : Yc} {X : Xc} (S : Sim n K Y X) {r : Nat} (hr : r < n) : HdS 8 K Y X r := (S.2.1 r hr).2.2.1
theorem Sim.ct {n K : Nat} {Y : Yc} {X : Xc} (S : Sim n K Y X) {r : Nat} (hr : r < n) : CtS Y X r := (S.2.1 r hr).2.2.2.1
theorem Sim.ch {n K : Nat} {Y : Yc} {X : Xc} (S : Sim n K Y X) {r : Nat} (hr : r < n) : ChS n K Y X r := (S.2.1 r hr).2.2.2.2
/-- a message without request and log -/
def PlK (k : Int32) : Prop := k = 1 ∨ k = 3 ∨ k = 4 ∨ k = 6 ∨ k = 7 ∨ k = 8 ∨ k = 12
theorem nI_ne1 {r : Nat} (h : r < 2 ^ 31) : nI r ≠ -1 := fun e => by
  have := congrArg Int32.toInt e
  rw [nI_toInt h] at this
  have h2 : (-1 : Int32).toInt = -1 := by decide
  omega
theorem snt_plain {n K : Nat} {Y : Yc} {l e : Nat} {k s : Int32} {r t : Nat} (hn : n ≤ 7) (hr : r < n) (ht : t < n) (hl : l ≤ K) (he : e ≤ K) (hs : Sm K s) (hk : PlK k) :
    Snt n K Y (ySd Y k (nI r) (nI t) (vw (nI l) (nI e)) s) ([k, nI r, nI t, nI l, nI e] ++ (if k = 8 ∨ k = 12 then [] else [s])) := by
  obtain ⟨v1, v2, v3, v4, v5, v6, v7⟩ := ySd_v Y k (nI r) (nI t) (vw (nI l) (nI e)) s
  have hne := nI_ne1 (r := r) (by omega)
  refine (ySd_B Y k (nI r) (nI t) (vw (nI l) (nI e)) s).snt ?_ ?_
  · unfold encM
    rw [v1, v2, v3, v4, v5, v6, v7, vw_lead, vw_sess]
    rcases hk with rfl | rfl | rfl | rfl | rfl | rfl | rfl <;> simp [hne]
  · unfold MOK
    rw [v1, v2, v3, v4, v5, v6, v7]
    rcases hk with rfl | rfl | rfl | rfl | rfl | rfl | rfl <;>
      exact ⟨⟨_, by decide, rfl⟩, by simpa using ⟨r, hr, rfl⟩, by simpa using ⟨t, ht, rfl⟩, ⟨l, e, hl, he, rfl⟩, by simp, hs, by simp, by simp, by simp, by simp⟩
theorem neg1_lt : (-1 : Int32) < 0 := by decide
theorem tell_sim {n K : Nat} {Y : Yc} {X : Xc} (S : Sim n K Y X) {r t : Nat} (hr : r < n) (ht : t < n) {k s v : Int32} (hk : PlK k) (hs : Sm K s) (hv : v = if k = 8 ∨ k = 12 then -1 else s) :
    ∃ Y2 X2, (∀ Q : Yc → Prop, Q Y2 → wy_X4_send n k (nI r) (nI t) (yJ Y 805 r) s Y (fun _ Y' => Q Y')) ∧ (∀ Q : Xc → Prop, Q X2 → wx_X12_tell k (nI r) (nI t) v X Q) ∧ Sim n K Y2 X2 ∧ SR Y X Y2 X2 := by
  have R := S.rp hr
  have hn := S.sc.n7
  have hk1 := S.sc.k1
  have hk2 := S.sc.k2
  obtain ⟨l, hl, el⟩ := R.ldK
  obtain ⟨e, he, ee⟩ := R.epK
  have hS := snt_plain (Y := Y) hn hr ht hl he hs hk
  obtain ⟨X1, r1, d1⟩ := x_begin X k (nI r) (nI t)
  obtain ⟨X2, r2, d2⟩ := x_addView d1 (by simp) (r := r) (by omega)
  rw [el, ee] at d2
  have hvw : yJ Y 805 r = vw (nI l) (nI e) := by rw [R.vie, el, ee]
  by_cases h8 : k = 8 ∨ k = 12
  · rw [if_pos h8] at hv hS
    obtain ⟨X3, r3, s3, f3⟩ := one_send S d2 (by simpa using hS)
    refine ⟨_, X3, fun Q hQ => y_send S.ar _ _ _ _ _ _ (by rw [hvw]; exact hQ), fun Q hQ => ?_, s3, f3⟩
    unfold wx_X12_tell
    refine r1 _ (r2 _ ⟨fun _ => ?_, fun h => absurd (by rw [hv]; exact neg1_lt) h⟩)
    unfold bx_X12_tell_23
    exact r3 _ hQ
  · rw [if_neg h8] at hv hS
    subst hv
    obtain ⟨X3, r3, d3⟩ := x_add d2 (by simp) v
    obtain ⟨X4, r4, s4, f4⟩ := one_send S d3 (by simpa using hS)
    refine ⟨_, X4, fun Q hQ => y_send S.ar _ _ _ _ _ _ (by rw [hvw]; exact hQ), fun Q hQ => ?_, s4, f4⟩
    unfold wx_X12_tell
    have hp := (hs.pos (by omega)).1
    refine r1 _ (r2 _ ⟨fun h => ?_, fun _ => r3 _ ?_⟩)
    · rw [Int32.lt_iff_toInt_lt] at h
      have h0 : (0 : Int32).toInt = 0 := by decide
      omega
    · unfold bx_X12_tell_23
      exact r4 _ hQ
