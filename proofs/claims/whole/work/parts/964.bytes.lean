section
variable {n K : Nat} {Y Y2 : Yc} {X X2 : Xc}
theorem enc_head {i : Nat} : (encM Y i).getD 0 0 = yI Y 301 i ∧ (encM Y i).getD 1 0 = (if yI Y 302 i = -1 then 255 else yI Y 302 i) ∧ (encM Y i).getD 2 0 = (if yI Y 301 i = 11 then 16 + yI Y 303 i else yI Y 303 i) ∧ 3 ≤ (encM Y i).length := by
  unfold encM
  exact ⟨rfl, rfl, rfl, by simp⟩
theorem idx640 {m j : Nat} : (640 : Int32) * nI m + nI j = nI (640 * m + j) := by rw [show (640 : Int32) = nI 640 from rfl, nI_mul, nI_add]
theorem idx640' {m : Nat} : (640 : Int32) * nI m = nI (640 * m) := by rw [show (640 : Int32) = nI 640 from rfl, nI_mul]
/-- p is a place of the air, or not -/
theorem air_arg (S : Sim n K Y X) (p : Int32) : (∃ k o m, p = nI k ∧ k < 200 ∧ m < 200 ∧ MS n K Y X o m ∧ X.2 5 k = nI m ∧ (∀ Q : Nat → Yc → Prop, Q o Y → wy_X4_at n p Y Q) ∧ (∀ Q : Yc → Prop, (∀ x4 : Int32, x4 = yI Y 405 0 → p < x4)) ∧ ¬ p < 0 ∧
      (∀ (X' : Xc) (Q : Int32 → Xc → Prop), Q 1 X' → wx_X12_in p 0 (X.1 6 - 1) X' Q)) ∨
    ((p < 0 ∨ (¬ p < 0 ∧ ∀ x4 : Int32, x4 = yI Y 405 0 → ¬ p < x4)) ∧ (∀ (X' : Xc) (Q : Int32 → Xc → Prop), Q 0 X' → wx_X12_in p 0 (X.1 6 - 1) X' Q)) := by
  obtain ⟨cnt, od, hc, ho, e5, x6, e4, hr, hri, f, hf, hfi, hfb⟩ := S.ar
  rcases i32_cases p with h | ⟨k, hk, rfl⟩
  · exact Or.inr ⟨Or.inl h, fun X' Q hQ => x_inN h Q hQ⟩
  · have hk0 : ¬ nI k < 0 := fun q => absurd ((nI_lti (a := k) (b := 0) hk (by omega)).mp q) (by omega)
    by_cases hkc : k < cnt
    · obtain ⟨g1, g2, g3, g4⟩ := hf k hkc
      refine Or.inl ⟨k, _, f k, rfl, by omega, g1, g4, g2, fun Q hQ => y_at e4 ho (by omega) Q hQ, fun _ x4 h4 => ?_, hk0, fun X' Q hQ => ?_⟩
      · rw [e5] at h4
        subst h4
        exact (nI_lti hk (by omega)).mpr hkc
      · have z : nI cnt - (1 : Int32) = nI (cnt - 1) := nI_sub (a := cnt) (b := 1) (by omega)
        rw [x6, z]
        refine x_in0 hk (by omega) _ ?_
        rw [if_pos (by omega)]
        exact hQ
    · refine Or.inr ⟨Or.inr ⟨hk0, fun x4 h4 => ?_⟩, fun X' Q hQ => ?_⟩
      · rw [e5] at h4
        subst h4
        exact fun q => hkc ((nI_lti hk (by omega)).mp q)
      · by_cases hz : cnt = 0
        · subst hz
          rw [x6]
          have z : nI 0 - (1 : Int32) = -1 := by decide
          rw [z]
          unfold wx_X12_in
          exact ⟨fun _ => hQ, fun _ => ⟨fun _ => hQ, fun q => absurd (by
            rw [Int32.lt_iff_toInt_lt, nI_toInt hk]
            have : (-1 : Int32).toInt = -1 := by decide
            omega) q⟩⟩
        · have z : nI cnt - (1 : Int32) = nI (cnt - 1) := nI_sub (a := cnt) (b := 1) (by omega)
          rw [x6, z]
          refine x_in0 hk (by omega) _ ?_
          rw [if_neg (by omega)]
          exact hQ
theorem message_call (S : Sim n K Y X) (p p2 : Int32) : OutP n K (wy_X11_message n p p2 Y) (wx_X12_message p p2 X) := by
  have hn := S.sc.n7
  have S0 := sim_code S 0
  rcases air_arg S p with ⟨k, o, m, rfl, hk, hm, M, h5, ya, yl, hk0, xa⟩ | ⟨hy, hx⟩
  · obtain ⟨m1, m2, m3, m4⟩ := M
    obtain ⟨w0, w1, w2, wl⟩ := enc_head (Y := Y) (i := o)
    have hck : (nI k).toNatClampNeg = k := nI_clamp (by omega)
    have hcm : (nI m).toNatClampNeg = m := nI_clamp (by omega)
    have c : ∀ j, j < 3 → (nI (640 * m + j)).toNatClampNeg = 640 * m + j ∧ vp_in (nI (640 * m + j)) 128000 := fun j hj => ⟨nI_clamp (by omega), vp_in_nI (by omega) (by omega)⟩
    have t0 : X.2 10 (640 * m + 0) = yI Y 301 o := (m3 0 (by omega)).trans w0
    have t1 : X.2 10 (640 * m + 1) = if yI Y 302 o = -1 then 255 else yI Y 302 o := (m3 1 (by omega)).trans w1
    have t2 : X.2 10 (640 * m + 2) = if yI Y 301 o = 11 then 16 + yI Y 303 o else yI Y 303 o := (m3 2 (by omega)).trans w2
    have yg : ∀ Q : Int32 → Yc → Prop, ((p2.toInt < 0 ∨ 3 < p2.toInt → Q (-1 : Int32) Y) ∧ (p2 = (0 : Int32) → Q (yI Y 300 o) Y) ∧ (p2 = (1 : Int32) → Q (yI Y 301 o) Y) ∧ (p2 = (2 : Int32) → Q (yI Y 302 o) Y) ∧ (p2 = (3 : Int32) → Q (yI Y 303 o) Y)) → wy_X11_message n (nI k) p2 Y Q := fun Q h => ⟨fun q => absurd q hk0, fun _ x4 h4 => ⟨fun _ => ya _ ⟨h.1, fun e x17 e17 => by subst e17; exact h.2.1 e, fun e x17 e17 => by subst e17; exact h.2.2.1 e, fun e x17 e17 => by subst e17; exact h.2.2.2.1 e, fun e x17 e17 => by subst e17; exact h.2.2.2.2 e⟩, fun q => absurd (yl (fun _ => True) x4 h4) q⟩⟩
    have xg : ∀ Q : Int32 → Xc → Prop, ((p2.toInt < 0 ∨ 3 < p2.toInt → Q (-1 : Int32) (xS X 0 0)) ∧ (p2 = (0 : Int32) → Q (yI Y 300 o) (xS X 0 0)) ∧ (p2 = (1 : Int32) → Q (yI Y 301 o) (xS X 0 0)) ∧ (p2 = (2 : Int32) → Q (yI Y 302 o) (xS X 0 0)) ∧ (p2 = (3 : Int32) → Q (yI Y 303 o) (xS X 0 0))) → wx_X12_message (nI k) p2 X Q := fun Q h => by
      unfold wx_X12_message
      intro x1 e1
      have e1 : x1 = X.1 6 := e1
      subst e1
      refine xa _ _ ⟨fun _ => ⟨vp_in_nI hk (by omega), fun x9 e9 x11 e11 => ?_⟩, fun q => absurd q (by decide)⟩
      rw [hck] at e9
      have e9 : x9 = nI m := e9.trans h5
      subst e9
      rw [idx640'] at e11
      subst e11
      have c0 := c 0 (by omega)
      refine ⟨h.1, fun e => ⟨vp_in_nI hm (by omega), fun x15 e15 => ?_⟩, fun e => ⟨c0.2, fun x18 e18 => ?_⟩, fun e x21 e21 => ?_, fun e x32 e32 => ?_⟩
      · rw [hcm] at e15
        have e15 : x15 = yI Y 300 o := e15.trans m1.symm
        subst e15
        exact h.2.1 e
      · have e18 : x18 = yI Y 301 o := by rw [e18]; show X.2 10 (nI (640 * m + 0)).toNatClampNeg = _; rw [c0.1]; exact t0
        subst e18
        exact h.2.2.1 e
      · have e21 : x21 = nI (640 * m + 1) := e21.trans (nI_1 _)
        subst e21
        refine ⟨(c 1 (by omega)).2, fun x23 e23 => ?_⟩
        have e23 : x23 = if yI Y 302 o = -1 then 255 else yI Y 302 o := by rw [e23]; show X.2 10 (nI (640 * m + 1)).toNatClampNeg = _; rw [(c 1 (by omega)).1]; exact t1
        have hq := h.2.2.2.1 e
        refine ⟨fun q x27 e27 => ?_, fun q => ?_⟩
        · have e27 : x27 = nI (640 * m + 1) := e27.trans (nI_1 _)
          subst e27
          refine ⟨(c 1 (by omega)).2, fun x29 e29 => ?_⟩
          have e29 : x29 = if yI Y 302 o = -1 then 255 else yI Y 302 o := by rw [e29]; show X.2 10 (nI (640 * m + 1)).toNatClampNeg = _; rw [(c 1 (by omega)).1]; exact t1
          have hne : ¬ yI Y 302 o = -1 := fun z => q (by rw [e23, if_pos z])
          rw [if_neg hne] at e29
          subst e29
          exact hq
        · have hz : yI Y 302 o = -1 := by
            apply Classical.byContradiction
            intro z
            rw [if_neg z] at e23
            have m2 := m4.2.1
            by_cases g0 : yI Y 301 o = 0
            · rw [if_pos g0] at m2
              exact z m2
            · rw [if_neg g0] at m2
              obtain ⟨f, hf, ef⟩ := m2
              rw [e23, ef] at q
              have := (nI_eq (a := f) (b := 255) (by omega) (by omega)).mp q
              omega
          rw [← hz]
          exact hq
      · have e32 : x32 = nI (640 * m + 2) := by rw [e32]; exact nI_add (640 * m) 2
        subst e32
        have tt : ∀ x : Int32, x = (xS X 0 0).2 10 (nI (640 * m + 2)).toNatClampNeg → x = if yI Y 301 o = 11 then 16 + yI Y 303 o else yI Y 303 o := fun x ex => by rw [ex]; show X.2 10 (nI (640 * m + 2)).toNatClampNeg = _; rw [(c 2 (by omega)).1]; exact t2
        refine ⟨(c 2 (by omega)).2, fun x34 e34 => ?_⟩
        have e34 := tt x34 e34
        have hq := h.2.2.2.2 e
        have m3' := m4.2.2.1
        refine ⟨fun q x38 e38 => ?_, fun q x43 e43 => ?_⟩
        · have e38 : x38 = nI (640 * m + 2) := by rw [e38]; exact nI_add (640 * m) 2
          subst e38
          refine ⟨(c 2 (by omega)).2, fun x40 e40 => ?_⟩
          have e40 := tt x40 e40
          by_cases g : yI Y 301 o = 11
          · rw [if_pos g] at m3' e34
            obtain ⟨t, ht, et⟩ := m3'
            rw [e34, et, show (16 : Int32) + nI t = nI (16 + t) from nI_add 16 t] at q
            exact absurd ((nI_lti (a := 16 + t) (b := 16) (by omega) (by omega)).mp q) (by omega)
          · rw [if_neg g] at e40
            subst e40
            exact hq
        · have e43 : x43 = nI (640 * m + 2) := by rw [e43]; exact nI_add (640 * m) 2
          subst e43
          refine ⟨(c 2 (by omega)).2, fun x45 e45 => ?_⟩
          have e45 := tt x45 e45
          by_cases g : yI Y 301 o = 11
          · rw [if_pos g] at m3' e45
            obtain ⟨t, ht, et⟩ := m3'
            have z : x45 - 16 = yI Y 303 o := by
              rw [e45, et, show (16 : Int32) + nI t = nI (16 + t) from nI_add 16 t]
              show nI (16 + t) - nI 16 = _
              rw [nI_sub (by omega)]
              congr 1
              omega
            rw [z]
            exact hq
          · rw [if_neg g] at m3' e34
            obtain ⟨t, ht, et⟩ := m3'
            rw [e34, et] at q
            exact absurd ((nI_lti (a := t) (b := 16) (by omega) (by omega)).mpr (by omega)) q
    rcases sw_cases p2 3 (by omega) with hd | ⟨j, hj, rfl⟩
    · have d0 : p2 ≠ 0 := fun q => by rw [q] at hd; exact absurd hd (by decide)
      have d1 : p2 ≠ 1 := fun q => by rw [q] at hd; exact absurd hd (by decide)
      have d2 : p2 ≠ 2 := fun q => by rw [q] at hd; exact absurd hd (by decide)
      have d3 : p2 ≠ 3 := fun q => by rw [q] at hd; exact absurd hd (by decide)
      exact ⟨-1, Y, xS X 0 0, fun Q hQ => yg Q ⟨fun _ => hQ, fun q => absurd q d0, fun q => absurd q d1, fun q => absurd q d2, fun q => absurd q d3⟩, fun Q hQ => xg Q ⟨fun _ => hQ, fun q => absurd q d0, fun q => absurd q d1, fun q => absurd q d2, fun q => absurd q d3⟩, S0⟩
    · rcases (show j = 0 ∨ j = 1 ∨ j = 2 ∨ j = 3 by omega) with rfl | rfl | rfl | rfl
      · exact ⟨yI Y 300 o, Y, xS X 0 0, fun Q hQ => yg Q ⟨fun q => absurd q (by decide), fun _ => hQ, fun q => absurd q (by decide), fun q => absurd q (by decide), fun q => absurd q (by decide)⟩, fun Q hQ => xg Q ⟨fun q => absurd q (by decide), fun _ => hQ, fun q => absurd q (by decide), fun q => absurd q (by decide), fun q => absurd q (by decide)⟩, S0⟩
      · exact ⟨yI Y 301 o, Y, xS X 0 0, fun Q hQ => yg Q ⟨fun q => absurd q (by decide), fun q => absurd q (by decide), fun _ => hQ, fun q => absurd q (by decide), fun q => absurd q (by decide)⟩, fun Q hQ => xg Q ⟨fun q => absurd q (by decide), fun q => absurd q (by decide), fun _ => hQ, fun q => absurd q (by decide), fun q => absurd q (by decide)⟩, S0⟩
      · exact ⟨yI Y 302 o, Y, xS X 0 0, fun Q hQ => yg Q ⟨fun q => absurd q (by decide), fun q => absurd q (by decide), fun q => absurd q (by decide), fun _ => hQ, fun q => absurd q (by decide)⟩, fun Q hQ => xg Q ⟨fun q => absurd q (by decide), fun q => absurd q (by decide), fun q => absurd q (by decide), fun _ => hQ, fun q => absurd q (by decide)⟩, S0⟩
      · exact ⟨yI Y 303 o, Y, xS X 0 0, fun Q hQ => yg Q ⟨fun q => absurd q (by decide), fun q => absurd q (by decide), fun q => absurd q (by decide), fun q => absurd q (by decide), fun _ => hQ⟩, fun Q hQ => xg Q ⟨fun q => absurd q (by decide), fun q => absurd q (by decide), fun q => absurd q (by decide), fun q => absurd q (by decide), fun _ => hQ⟩, S0⟩
  · refine ⟨-1, Y, xS X 0 0, fun Q hQ => ⟨fun _ => hQ, fun q x4 h4 => ⟨fun q2 => ?_, fun _ => hQ⟩⟩, fun Q hQ => ?_, S0⟩
    · rcases hy with hy | hy
      · exact absurd hy q
      · exact absurd q2 (hy.2 x4 h4)
    · unfold wx_X12_message
      intro x1 e1
      have e1 : x1 = X.1 6 := e1
      subst e1
      exact hx _ _ ⟨fun q => absurd rfl q, fun _ => hQ⟩
theorem output_call (S : Sim n K Y X) (p : Int32) : OutP n K (wy_X11_output n p Y) (wx_X12_output p X) := by
  obtain ⟨b1, ⟨M, hM, eM⟩, b3⟩ := S.pcs.2.2.2.1
  have hM : M ≤ 2560 := hM
  have hbl : bl 0 = 2560 := rfl
  have hln : ln (nI M) = M := nI_clamp (by omega)
  rw [eM] at b1
  rw [eM, hln] at b3
  have S0 := sim_code S 0
  rcases i32_cases p with h | ⟨k, hk, rfl⟩
  · refine ⟨-1, Y, xS X 0 0, fun Q hQ => ⟨fun _ => hQ, fun q => absurd h q⟩, fun Q hQ => ?_, S0⟩
    unfold wx_X12_output
    intro x1 e1
    exact x_inN h _ ⟨fun _ => hQ, fun q => absurd rfl q⟩
  · have hk0 : ¬ nI k < 0 := fun q => absurd ((nI_lti (a := k) (b := 0) hk (by omega)).mp q) (by omega)
    have hc : (nI k).toNatClampNeg = k := nI_clamp hk
    by_cases hkM : k < M
    · refine ⟨X.2 88 k, Y, xS X 0 0, fun Q hQ => ⟨fun q => absurd q hk0, fun _ x2 e2 => ?_⟩, fun Q hQ => ?_, S0⟩
      · rw [b1] at e2
        subst e2
        rw [hbl]
        refine ⟨fun q => absurd q (nI_ge hkM (by omega)), fun _ => ⟨fun q => absurd q (nI_ge (a := k) (b := 2560) (by omega) (by omega)), fun _ => ⟨vp_in_nI (by omega) (by omega), fun x9 e9 => ?_⟩⟩⟩
        rw [hc] at e9
        subst e9
        rw [(b3 k hkM).1]
        exact hQ
      · unfold wx_X12_output
        intro x1 e1
        have e1 : x1 = nI M := e1.trans eM
        subst e1
        have z : nI M - (1 : Int32) = nI (M - 1) := nI_sub (a := M) (b := 1) (by omega)
        rw [z]
        refine x_in0 hk (by omega) _ ?_
        rw [if_pos (by omega)]
        refine ⟨fun q => absurd q (by decide), fun _ => ⟨vp_in_nI (by omega) (by omega), fun x9 e9 => ?_⟩⟩
        rw [hc] at e9
        subst e9
        exact hQ
    · refine ⟨-1, Y, xS X 0 0, fun Q hQ => ⟨fun q => absurd q hk0, fun _ x2 e2 => ?_⟩, fun Q hQ => ?_, S0⟩
      · rw [b1] at e2
        subst e2
        exact ⟨fun _ => hQ, fun q => absurd (nI_le (by omega) hk) q⟩
      · unfold wx_X12_output
        intro x1 e1
        have e1 : x1 = nI M := e1.trans eM
        subst e1
        by_cases hM0 : M = 0
        · subst hM0
          unfold wx_X12_in
          have z : nI 0 - (1 : Int32) = -1 := by decide
          rw [z]
          exact ⟨fun _ => ⟨fun _ => hQ, fun q => absurd rfl q⟩, fun _ => ⟨fun _ => ⟨fun _ => hQ, fun q => absurd rfl q⟩, fun q => absurd (by
            rw [Int32.lt_iff_toInt_lt, nI_toInt hk]
            have : (-1 : Int32).toInt = -1 := by decide
            omega) q⟩⟩
        · have z : nI M - (1 : Int32) = nI (M - 1) := nI_sub (a := M) (b := 1) (by omega)
          rw [z]
          refine x_in0 hk (by omega) _ ?_
          rw [if_neg (by omega)]
          exact ⟨fun _ => hQ, fun q => absurd rfl q⟩
end
