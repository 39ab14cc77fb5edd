section
variable {n K : Nat} {Y Y2 : Yc} {X X2 : Xc} {r : Nat}
theorem RgY.wI (h : RgY r Y Y2) {c : Nat} (hc : (500 ≤ c ∧ c < 600) ∨ (800 ≤ c ∧ c < 900) ∨ c = 201 ∨ c = 202) (v : Int32) : RgY r Y (uI Y2 c r v) := by
  obtain ⟨h1, h2, h3, h4, h5, h6, h7⟩ := h
  refine ⟨fun c' o a b d => ?_, h2, h3, h4, h5, h6, h7⟩
  rw [yII, if_neg (by omega)]; exact h1 c' o a b d
theorem RgY.wJ (h : RgY r Y Y2) {c : Nat} (hc : 800 ≤ c ∧ c < 900) (v : Int64) : RgY r Y (uJ Y2 c r v) := by
  obtain ⟨h1, h2, h3, h4, h5, h6, h7⟩ := h
  refine ⟨h1, fun c' o a => ?_, h3, h4, h5, h6, h7⟩
  rw [yJJ, if_neg (by omega)]; exact h2 c' o a
theorem RgY.wS (h : RgY r Y Y2) {c o : Nat} (i : Nat) (hc : (c = 501 ∧ o = r) ∨ (c = 200 ∧ (o = r ∨ (7 + 7 * r ≤ o ∧ o < 14 + 7 * r)))) (v : Option Rq) : RgY r Y (uS Y2 c o i v) := by
  obtain ⟨h1, h2, h3, h4, h5, h6, h7⟩ := h
  refine ⟨h1, h2, h3, h4, h5, h6, fun c' o' j a b => ?_⟩
  rw [ySS, if_neg (by omega)]; exact h7 c' o' j a b
theorem RgY.wSl (h : RgY r Y Y2) {o m : Nat} {f : Nat → Option Rq} (hc : o = r ∨ (7 + 7 * r ≤ o ∧ o < 14 + 7 * r)) : RgY r Y (ySl Y2 o m f) := by
  obtain ⟨h1, h2, h3, h4, h5, h6, h7⟩ := h
  refine ⟨h1, h2, h3, h4, h5, h6, fun c' o' j a b => ?_⟩
  rw [ySl_S, if_neg (by omega)]; exact h7 c' o' j a b
theorem RgY.wL (h : RgY r Y Y2) {c o : Nat} (hc : c = 201 ∨ c = 202) (ho : o = r ∨ (7 + 7 * r ≤ o ∧ o < 14 + 7 * r)) (v : Int32) : RgY r Y (uI Y2 c o v) := by
  obtain ⟨h1, h2, h3, h4, h5, h6, h7⟩ := h
  refine ⟨fun c' o' a b d => ?_, h2, h3, h4, h5, h6, h7⟩
  rw [yII, if_neg (by omega)]; exact h1 c' o' a b d
theorem RgY.wB (h : RgY r Y Y2) (i : Nat) (v : Int64) : RgY r Y (uB Y2 r i v) := by
  obtain ⟨h1, h2, h3, h4, h5, h6, h7⟩ := h
  refine ⟨h1, h2, h3, fun o j a => ?_, h5, h6, h7⟩
  rw [yBB, if_neg (by omega)]; exact h4 o j a
theorem RgY.wA (h : RgY r Y Y2) {c o : Nat} (i : Nat) (hc : (c = 500 ∧ o = r) ∨ (1000 ≤ c ∧ c < 1010)) (v : Int32) : RgY r Y (uA Y2 c o i v) := by
  obtain ⟨h1, h2, h3, h4, h5, h6, h7⟩ := h
  refine ⟨h1, h2, fun c' o' j a b => ?_, h4, h5, h6, h7⟩
  rw [yAA, if_neg (by omega)]; exact h3 c' o' j a b
theorem RgX.wA (h : RgX r X X2) {k i : Nat} (hk : k = 13 ∨ (62 ≤ k ∧ k ≤ 64) ∨ (((20 ≤ k ∧ k ≤ 29) ∨ k = 36 ∨ (43 ≤ k ∧ k ≤ 46) ∨ (57 ≤ k ∧ k ≤ 61)) ∧ i = r) ∨ ((30 ≤ k ∧ k ≤ 35) ∧ 100 * r ≤ i ∧ i < 100 * r + 100) ∨ ((37 ≤ k ∧ k ≤ 42) ∧ 16 * r ≤ i ∧ i < 16 * r + 16) ∨ ((47 ≤ k ∧ k ≤ 50) ∧ 7 * r ≤ i ∧ i < 7 * r + 7) ∨ ((51 ≤ k ∧ k ≤ 56) ∧ 700 * r ≤ i ∧ i < 700 * r + 700)) (v : Int32) (h30 : k = 30 → v = 0 ∨ v = 1 := by first | (intro h; omega) | (intro _; exact Or.inl rfl) | (intro _; exact Or.inr rfl)) : RgX r X (xA X2 k i v) := by
  obtain ⟨h1, h2, h3⟩ := h
  refine ⟨h1, fun k' i' a b c d e f g => ?_, fun q e => ?_⟩
  · clear h30 h3
    rw [xAA, if_neg (by omega)]; exact h2 k' i' a b c d e f g
  · clear hk
    rw [xAA]
    by_cases w : 30 = k ∧ e = i
    · rw [if_pos w]; exact h30 w.1.symm
    · rw [if_neg w]; exact h3 q e
theorem RgX.wS (h : RgX r X X2) {k : Nat} (hk : k = 14 ∨ k = 97 ∨ k = 98) (v : Int32) : RgX r X (xS X2 k v) := by
  obtain ⟨h1, h2⟩ := h
  refine ⟨fun k' a b c d => ?_, h2⟩
  rw [xSS, if_neg (by omega)]; exact h1 k' a b c d
/-- one of the hours of replica r -/
theorem sim_hour (S : Sim n K Y X) (hr : r < n) {c k : Nat} (hck : (c = 811 ∧ k = 57) ∨ (c = 812 ∧ k = 58) ∨ (c = 813 ∧ k = 59) ∨ (c = 814 ∧ k = 60) ∨ (c = 815 ∧ k = 61)) (v : Int32) : Sim n K (uI Y c r v) (xA X k r v) := by
  have hn := S.sc.n7
  have R := S.rp hr
  refine sim_rep S hr (RgY.rf.wI (by omega) v) (RgX.rf.wA (by omega) v) ⟨?_, ?_, ?_, ?_, ?_⟩
  · unfold RpS
    rcases hck with ⟨rfl, rfl⟩ | ⟨rfl, rfl⟩ | ⟨rfl, rfl⟩ | ⟨rfl, rfl⟩ | ⟨rfl, rfl⟩ <;> simp [yII, yJI, xAA, R.num, R.dwn, R.sta, R.vie, R.nor, R.pnt, R.syn, R.hea, R.ask, R.trn, R.spo, R.ssa, R.dwn01, R.sta2, R.ldK, R.epK, R.llK, R.leK, R.pnK]
  · have := S.lg hr
    unfold LgS xE at *
    rcases hck with ⟨rfl, rfl⟩ | ⟨rfl, rfl⟩ | ⟨rfl, rfl⟩ | ⟨rfl, rfl⟩ | ⟨rfl, rfl⟩ <;> simpa [yII, ySI, xAA] using this
  · have := S.hd hr
    unfold HdS xH at *
    rcases hck with ⟨rfl, rfl⟩ | ⟨rfl, rfl⟩ | ⟨rfl, rfl⟩ | ⟨rfl, rfl⟩ | ⟨rfl, rfl⟩ <;> simpa [yII, yAI, ySI, xAA] using this
  · have := S.ct hr
    unfold CtS at *
    rcases hck with ⟨rfl, rfl⟩ | ⟨rfl, rfl⟩ | ⟨rfl, rfl⟩ | ⟨rfl, rfl⟩ | ⟨rfl, rfl⟩ <;> simpa [yII, xAA] using this
  · have := S.ch hr
    unfold ChS TdS xT at *
    rcases hck with ⟨rfl, rfl⟩ | ⟨rfl, rfl⟩ | ⟨rfl, rfl⟩ | ⟨rfl, rfl⟩ | ⟨rfl, rfl⟩ <;> simpa [yII, yBI, ySI, xAA] using this
theorem x_tellOthers_loop {k v : Int32} (hr : r < n) (hn : n ≤ 7) {ys : Nat → Yc} {xs : Nat → Xc} (h3 : ∀ t, t ≤ n → Sim n K (ys t) (xs t))
    (h4 : ∀ t, t < n → (t = r → xs (t + 1) = xs t) ∧ (t ≠ r → ∀ Q : Xc → Prop, Q (xs (t + 1)) → wx_X12_tell k (nI r) (nI t) v (xs t) Q)) (Q : Xc → Prop) (hQ : Q (xs n)) : wx_X12_tellOthers k (nI r) v (xs 0) Q := by
  unfold wx_X12_tellOthers
  intro R hR
  have key : ∀ d t, t + d = n → R (k, nI r, v, nI t) (xs t) := by
    intro d
    induction d with
    | zero =>
      intro t ht
      refine hR _ _ (fun x1 e1 => ?_)
      rw [(h3 t (by omega)).sc.x1] at e1
      subst e1
      have ht : t = n := by omega
      subst ht
      exact ⟨fun _ => hQ, fun h => absurd (nI_le (Nat.le_refl t) (by omega)) h⟩
    | succ d ih =>
      intro t ht
      refine hR _ _ (fun x1 e1 => ?_)
      rw [(h3 t (by omega)).sc.x1] at e1
      subst e1
      refine ⟨fun h => absurd h (nI_ge (by omega) (by omega)), fun _ => ⟨fun h => ?_, fun h => ?_⟩⟩
      · have h : t = r := (nI_eq (by omega) (by omega)).mp h
        unfold bx_X12_tellOthers_27
        intro x1 e1
        rw [nI_1] at e1
        subst e1
        have := ih (t + 1) (by omega)
        rw [(h4 t (by omega)).1 h] at this
        exact this
      · have hne : t ≠ r := fun q => h (by rw [q])
        refine (h4 t (by omega)).2 hne _ ?_
        unfold bx_X12_tellOthers_27
        intro x1 e1
        rw [nI_1] at e1
        subst e1
        exact ih (t + 1) (by omega)
  exact key n 0 (by omega)
theorem SR.ld {Y : Yc} {X : Xc} {Y2 : Yc} {X2 : Xc} (h : SR Y X Y2 X2) (r : Nat) : ldr n X2 r = ldr n X r := by
  unfold ldr; rw [h.2.1.2 21 (by omega) (by omega)]
theorem tellTurn_sim (S0 : Sim n K Y X) (hr : r < n) :
    ∃ Y2 X2, (∀ Q : Yc → Prop, Q Y2 → wy_X8_tellTurn n r Y Q) ∧ (∀ Q : Xc → Prop, Q X2 → wx_X12_tellOthers 8 (nI r) (-1) (xA X 58 r (X.1 4)) (fun X17 => wx_X12_sendTurned (nI r) X17 Q)) ∧ Sim n K Y2 X2 ∧ SR (uI Y 812 r (X.1 4)) (xA X 58 r (X.1 4)) Y2 X2 := by
  have hn := S0.sc.n7
  have hk1 := S0.sc.k1
  have S := sim_hour S0 hr (c := 812) (k := 58) (by omega) (X.1 4)
  obtain ⟨ys, xs, h1, h2, h3, h4⟩ := seq_sim S r (fun t Y' Y2 => ∀ Q : Yc → Prop, Q Y2 → wy_X4_send n 8 (nI r) (nI t) (yJ Y' 805 r) 0 Y' (fun _ Y' => Q Y')) (fun t X' X2 => ∀ Q : Xc → Prop, Q X2 → wx_X12_tell 8 (nI r) (nI t) (-1) X' Q)
    (fun t Y' X' ht hne S' _ => tell_sim S' hr ht (by unfold PlK; simp) ⟨0, by omega, rfl⟩ (by simp))
  have hS := (h3 n (Nat.le_refl n)).1
  have hSR := (h3 n (Nat.le_refl n)).2
  have hlt := ldr_lt hS r
  have hy : ∀ Q : Yc → Prop, LFy (fy_X8_tellTurn_13 n r Q) 0 (ys 0) → wy_X8_tellTurn n r Y Q := fun Q h => by
    unfold wy_X8_tellTurn
    intro x3 e3
    rw [S0.sc.tim] at e3
    subst e3
    rw [h1] at h
    exact h
  by_cases hl : ldr n (xs n) r = r
  · refine ⟨ys n, xs n, fun Q hQ => hy Q (y_tellTurn_loop hr hn (fun t ht => (h3 t ht).1) (fun t ht => ⟨fun e => ((h4 t ht).1 e).1, fun e => ((h4 t ht).2 e).1⟩) Q (fun y7 e7 => ?_)), fun Q hQ => ?_, hS, hSR⟩
    · subst e7
      refine y_leader hS hr _ (fun x16 e16 => ?_)
      rw [(hS.rp hr).num] at e16
      subst e16
      exact ⟨fun _ => hQ, fun h => absurd (by rw [hl]) h⟩
    · rw [← h2]
      refine x_tellOthers_loop hr hn (fun t ht => (h3 t ht).1) (fun t ht => ⟨fun e => ((h4 t ht).1 e).2, fun e => ((h4 t ht).2 e).2⟩) _ ?_
      unfold wx_X12_sendTurned
      refine x_leads hS hr _ ⟨fun h => ?_, fun _ => hQ⟩
      rw [lds_1.mpr hl] at h
      exact absurd h (by decide)
  · obtain ⟨Y5, X5, ry, rx, s5, f5⟩ := turned_sim hS hr hlt hl
    refine ⟨Y5, X5, fun Q hQ => hy Q (y_tellTurn_loop hr hn (fun t ht => (h3 t ht).1) (fun t ht => ⟨fun e => ((h4 t ht).1 e).1, fun e => ((h4 t ht).2 e).1⟩) Q (fun y7 e7 => ?_)), fun Q hQ => ?_, s5, hSR.trans f5⟩
    · subst e7
      refine y_leader hS hr _ (fun x16 e16 => ?_)
      rw [(hS.rp hr).num] at e16
      subst e16
      refine ⟨fun h => absurd ((nI_eq (by omega) (by omega)).mp h) hl, fun _ x20 e20 y22 e22 => ?_⟩
      rw [(hS.rp hr).num] at e20
      subst e20; subst e22
      exact ry _ hQ
    · rw [← h2]
      refine x_tellOthers_loop hr hn (fun t ht => (h3 t ht).1) (fun t ht => ⟨fun e => ((h4 t ht).1 e).2, fun e => ((h4 t ht).2 e).2⟩) _ ?_
      unfold wx_X12_sendTurned
      refine x_leads hS hr _ ⟨fun _ => x_leader hS hr _ (rx _ hQ), fun h => ?_⟩
      rw [lds_0.mpr hl] at h
      exact absurd rfl h
end
