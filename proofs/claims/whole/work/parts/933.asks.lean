section
variable {n K : Nat} {Y Y2 : Yc} {X X2 : Xc} {r : Nat}
theorem sim_code (S : Sim n K Y X) (v : Int32) : Sim n K Y (xS X 0 v) := by
  have hn := S.sc.n7
  exact Sim.mk (sc_Sc (X := X) (fun c h => rfl) (fun j h => by rw [xSS, if_neg (by omega)]) S.sc) (out_Pcs (X := X) OutY.rf ⟨fun j h0 _ _ _ _ _ _ _ _ => by rw [xSS, if_neg h0], fun _ _ _ _ _ => rfl⟩ hn S.pcs) (ae_Ar (X := X) ⟨rfl, rfl, rfl, fun i => MEq.rf⟩ ⟨rfl, fun k i h => rfl⟩ S.ar)
theorem len_Sm (S : Sim n K Y X) (hr : r < n) : Sm K (X.2 26 r) ∧ Sm K (X.2 26 r + 1) := by
  have hk1 := S.sc.k1
  obtain ⟨L, h1, h2⟩ := (S.lg hr).l100
  exact ⟨⟨L, by omega, h2⟩, ⟨L + 1, by omega, by rw [h2, nI_1]⟩⟩
theorem asks_sim (S : Sim n K Y X) (hr : r < n) :
    ∃ Y2 X2, (∀ Q : Yc → Prop, Q Y2 → wy_X8_askAgain n r Y Q) ∧ (∀ Q : Xc → Prop, Q X2 → wx_X12_asks (nI r) X Q) ∧ Sim n K Y2 X2 ∧ Up X X2 := by
  have hn := S.sc.n7
  have R := S.rp hr
  have hc : (nI r).toNatClampNeg = r := nI_clamp (by omega)
  have hv : vp_in (nI r) 7 := vp_in_nI (by omega) (by omega)
  have S1 := sim_hour S hr (c := 812) (k := 58) (by omega) (X.1 4)
  by_cases h2 : X.2 23 r = 2
  · obtain ⟨Y2, X2, ry, rx, s2, f2⟩ := tellTurn_sim S hr
    refine ⟨Y2, X2, fun Q hQ => ?_, fun Q hQ => ?_, s2, f2.up⟩
    · unfold wy_X8_askAgain
      intro x1 e1
      rw [R.sta, h2] at e1
      subst e1
      exact ⟨fun h => absurd rfl h, fun _ => ry _ hQ⟩
    · unfold wx_X12_asks
      rw [hc]
      refine ⟨hv, fun x2 e2 => ?_⟩
      rw [h2] at e2
      subst e2
      refine ⟨fun _ => ⟨hv, fun x6 e6 => ?_⟩, fun h => absurd h (by decide)⟩
      rw [h2] at e6
      subst e6
      refine ⟨fun h => absurd rfl h, fun _ x33 e33 => ?_⟩
      subst e33
      exact ⟨hv, rx _ hQ⟩
  · by_cases h1 : X.2 23 r = 1
    · obtain ⟨Y2, X2, ry, rx, s2, f2⟩ := others_sim S1 hr (k := 3) (s := X.2 26 r) (v := X.2 26 r) (by unfold PlK; simp) (len_Sm S hr).1 (by simp)
      refine ⟨Y2, X2, fun Q hQ => ?_, fun Q hQ => ?_, s2, f2.up⟩
      · unfold wy_X8_askAgain
        intro x1 e1
        rw [R.sta, h1] at e1
        subst e1
        refine ⟨fun _ x4 e4 => ?_, fun h => absurd h (by decide)⟩
        rw [R.sta, h1] at e4
        subst e4
        refine ⟨fun h => absurd rfl h, fun _ x53 e53 x58 e58 => ?_⟩
        rw [S.sc.tim] at e53
        subst e53
        have e58 : x58 = X.2 26 r := e58.trans (S.lg hr).len
        subst e58
        exact ry _ hQ
      · unfold wx_X12_asks
        rw [hc]
        refine ⟨hv, fun x2 e2 => ?_⟩
        rw [h1] at e2
        subst e2
        refine ⟨fun h => absurd rfl h, fun _ x44 e44 => ⟨hv, hv, fun x47 e47 => ?_⟩⟩
        subst e44
        have e47 : x47 = X.2 26 r := e47
        subst e47
        exact rx _ hQ
    · by_cases hl : ldr n X r = r
      · refine ⟨Y, X, fun Q hQ => ?_, fun Q hQ => ?_, S, Up.rf⟩
        · unfold wy_X8_askAgain
          intro x1 e1
          rw [R.sta] at e1
          subst e1
          refine ⟨fun _ x4 e4 => ?_, fun h => absurd h h2⟩
          rw [R.sta] at e4
          subst e4
          refine ⟨fun _ => y_leads S hr _ ⟨fun _ => hQ, fun h => ?_⟩, fun h => absurd h h1⟩
          rw [lds_1.mpr hl] at h; exact absurd h (by decide)
        · unfold wx_X12_asks
          rw [hc]
          refine ⟨hv, fun x2 e2 => ?_⟩
          subst e2
          refine ⟨fun _ => ⟨hv, fun x6 e6 => ?_⟩, fun h => absurd h h1⟩
          subst e6
          refine ⟨fun _ => x_leads S hr _ ⟨fun _ => hQ, fun h => ?_⟩, fun h => absurd h h2⟩
          rw [lds_1.mpr hl] at h; exact absurd h (by decide)
      · by_cases h0 : X.2 36 r ≤ 0
        · refine ⟨Y, X, fun Q hQ => ?_, fun Q hQ => ?_, S, Up.rf⟩
          · unfold wy_X8_askAgain
            intro x1 e1
            rw [R.sta] at e1
            subst e1
            refine ⟨fun _ x4 e4 => ?_, fun h => absurd h h2⟩
            rw [R.sta] at e4
            subst e4
            refine ⟨fun _ => y_leads S hr _ ⟨fun _ => hQ, fun _ x17 e17 => ?_⟩, fun h => absurd h h1⟩
            rw [(S.hd hr).cnt] at e17
            subst e17
            exact ⟨fun _ => hQ, fun h => absurd h0 h⟩
          · unfold wx_X12_asks
            rw [hc]
            refine ⟨hv, fun x2 e2 => ?_⟩
            subst e2
            refine ⟨fun _ => ⟨hv, fun x6 e6 => ?_⟩, fun h => absurd h h1⟩
            subst e6
            refine ⟨fun _ => x_leads S hr _ ⟨fun _ => hQ, fun _ => ⟨hv, fun x15 e15 => ?_⟩⟩, fun h => absurd h h2⟩
            subst e15
            exact ⟨fun _ => hQ, fun h => absurd h0 h⟩
        · have hl1 : ldr n (xA X 58 r (X.1 4)) r = ldr n X r := rfl
          obtain ⟨Y2, X2, ry, rx, s2, f2⟩ := tell_sim S1 hr (ldr_lt S r) (k := 1) (s := X.2 26 r + 1) (v := X.2 26 r + 1) (by unfold PlK; simp) (len_Sm S hr).2 (by simp)
          refine ⟨Y2, X2, fun Q hQ => ?_, fun Q hQ => ?_, s2, f2.up⟩
          · unfold wy_X8_askAgain
            intro x1 e1
            rw [R.sta] at e1
            subst e1
            refine ⟨fun _ x4 e4 => ?_, fun h => absurd h h2⟩
            rw [R.sta] at e4
            subst e4
            refine ⟨fun _ => y_leads S hr _ ⟨fun h => ?_, fun _ x17 e17 => ?_⟩, fun h => absurd h h1⟩
            · rw [lds_0.mpr hl] at h; exact absurd rfl h
            rw [(S.hd hr).cnt] at e17
            subst e17
            refine ⟨fun h => absurd h h0, fun _ x22 e22 x26 e26 y29 e29 => ?_⟩
            rw [S.sc.tim] at e22
            subst e22
            have e26 : x26 = nI r := e26.trans R.num
            subst e26; subst e29
            refine y_leader S1 hr _ (fun y38 e38 x42 e42 => ?_)
            subst e38
            have e42 : x42 = X.2 26 r := e42.trans (S.lg hr).len
            subst e42
            rw [hl1]
            exact ry _ hQ
          · unfold wx_X12_asks
            rw [hc]
            refine ⟨hv, fun x2 e2 => ?_⟩
            subst e2
            refine ⟨fun _ => ⟨hv, fun x6 e6 => ?_⟩, fun h => absurd h h1⟩
            subst e6
            refine ⟨fun _ => x_leads S hr _ ⟨fun h => ?_, fun _ => ⟨hv, fun x15 e15 => ?_⟩⟩, fun h => absurd h h2⟩
            · rw [lds_0.mpr hl] at h; exact absurd rfl h
            subst e15
            refine ⟨fun h => absurd h h0, fun _ x19 e19 => ⟨hv, ?_⟩⟩
            subst e19
            refine x_leader S1 hr _ ⟨hv, fun x26 e26 => ?_⟩
            have e26 : x26 = X.2 26 r := e26
            subst e26
            rw [hl1]
            exact rx _ hQ
/-- the class's loop that sends its log to the others -/
theorem y_sendLog_loop {k : Int32} (hr : r < n) (hn : n ≤ 7) {ys : Nat → Yc} {xs : Nat → Xc} (h3 : ∀ t, t ≤ n → Sim n K (ys t) (xs t))
    (h4 : ∀ t, t < n → (t = r → ys (t + 1) = ys t) ∧ (t ≠ r → ∀ Q : Yc → Prop, Q (ys (t + 1)) → wy_X4_send n k (nI r) (nI t) (yJ (ys t) 805 r) 0 (ys t) (fun o Y' => wy_X2_become n (56 + o) r Y' Q))) (Q : Yc → Prop) (hQ : Q (ys n)) : wy_X8_sendLogToOthers n r k (ys 0) Q := by
  unfold wy_X8_sendLogToOthers
  intro R hR
  have key : ∀ d t, t + d = n → R (k, nI t) (ys t) := by
    intro d
    induction d with
    | zero =>
      intro t ht
      refine hR _ _ (fun x3 e3 => ?_)
      rw [(h3 t (by omega)).sc.y400] at e3
      subst e3
      have ht : t = n := by omega
      subst ht
      exact ⟨fun _ => hQ, fun h => absurd (nI_le (Nat.le_refl t) (by omega)) h⟩
    | succ d ih =>
      intro t ht
      refine hR _ _ (fun x3 e3 => ?_)
      rw [(h3 t (by omega)).sc.y400] at e3
      subst e3
      refine ⟨fun h => absurd h (nI_ge (by omega) (by omega)), fun _ x6 e6 => ?_⟩
      rw [((h3 t (by omega)).rp hr).num] at e6
      subst e6
      refine ⟨fun h => ?_, fun h x10 e10 y12 e12 => ?_⟩
      · have h : t = r := (nI_eq (by omega) (by omega)).mp h
        unfold by_X8_sendLogToOthers_49
        intro x1 e1
        rw [nI_1] at e1
        subst e1
        have := ih (t + 1) (by omega)
        rw [(h4 t (by omega)).1 h] at this
        exact this
      · rw [((h3 t (by omega)).rp hr).num] at e10
        subst e10; subst e12
        have hne : t ≠ r := fun q => h (by rw [q])
        refine (h4 t (by omega)).2 hne _ ?_
        unfold by_X8_sendLogToOthers_49
        intro x1 e1
        rw [nI_1] at e1
        subst e1
        exact ih (t + 1) (by omega)
  exact key n 0 (by omega)
theorem syncs_sim (S0 : Sim n K Y X) (hr : r < n) :
    ∃ Y2 X2, (∀ Q : Yc → Prop, Q Y2 → wy_X8_sendSync n r Y Q) ∧ (∀ Q : Xc → Prop, Q X2 → wx_X12_syncs (nI r) X Q) ∧ Sim n K Y2 X2 ∧ Up X X2 := by
  have hn := S0.sc.n7
  have hc : (nI r).toNatClampNeg = r := nI_clamp (by omega)
  have hv : vp_in (nI r) 7 := vp_in_nI (by omega) (by omega)
  have S := sim_hour S0 hr (c := 815) (k := 61) (by omega) (X.1 4)
  obtain ⟨ys, xs, h1, h2, h3, h4⟩ := seq_sim S r (fun t Y' Y2 => ∀ Q : Yc → Prop, Q Y2 → wy_X4_send n 5 (nI r) (nI t) (yJ Y' 805 r) 0 Y' (fun o Y' => wy_X2_become n (56 + o) r Y' Q)) (fun t X' X2 => ∀ Q : Xc → Prop, Q X2 → wx_X12_begin 5 (nI r) (nI t) X' (fun X7 => wx_X12_addView (nI r) X7 (fun X11 => vp_in (nI r) 7 ∧ ∀ x14 : Int32, x14 = X11.2 26 (nI r).toNatClampNeg → wx_X12_addLog (nI r) x14 X11 (fun X18 => wx_X12_post X18 Q))))
    (fun t Y' X' ht hne S' _ => sync_sim S' hr ht)
  refine ⟨ys n, xs n, fun Q hQ => ?_, fun Q hQ => ?_, (h3 n (Nat.le_refl n)).1, (h3 n (Nat.le_refl n)).2.up⟩
  · unfold wy_X8_sendSync
    intro x3 e3
    rw [S0.sc.tim] at e3
    subst e3
    rw [← h1]
    exact y_sendLog_loop hr hn (fun t ht => (h3 t ht).1) (fun t ht => ⟨fun e => ((h4 t ht).1 e).1, fun e => ((h4 t ht).2 e).1⟩) _ hQ
  · unfold wx_X12_syncs
    intro x2 e2
    subst e2
    rw [hc]
    refine ⟨hv, ?_⟩
    rw [← h2]
    intro R hR
    have key : ∀ d t, t + d = n → R (nI r, nI t) (xs t) := by
      intro d
      induction d with
      | zero =>
        intro t ht
        refine hR _ _ (fun x1 e1 => ?_)
        rw [(h3 t (by omega)).1.sc.x1] at e1
        subst e1
        have ht : t = n := by omega
        subst ht
        exact ⟨fun _ => hQ, fun h => absurd (nI_le (Nat.le_refl t) (by omega)) h⟩
      | succ d ih =>
        intro t ht
        refine hR _ _ (fun x1 e1 => ?_)
        rw [(h3 t (by omega)).1.sc.x1] at e1
        subst e1
        refine ⟨fun h => absurd h (nI_ge (by omega) (by omega)), fun _ => ⟨fun h => ?_, fun h => ?_⟩⟩
        · have h : t = r := (nI_eq (by omega) (by omega)).mp h
          unfold bx_X12_syncs_52
          intro x1 e1
          rw [nI_1] at e1
          subst e1
          have := ih (t + 1) (by omega)
          rw [((h4 t (by omega)).1 h).2] at this
          exact this
        · have hne : t ≠ r := fun q => h (by rw [q])
          refine ((h4 t (by omega)).2 hne).2 _ ?_
          unfold bx_X12_syncs_52
          intro x1 e1
          rw [nI_1] at e1
          subst e1
          exact ih (t + 1) (by omega)
    exact key n 0 (by omega)
end
