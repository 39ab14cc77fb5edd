section
variable {n K : Nat} {Y Y2 : Yc} {X X2 : Xc} {r : Nat}
set_option maxHeartbeats 4000000 in
theorem acts_sim (S : Sim n K Y X) (hK : K + 1 < 1073741824) (hr : r < n) :
    ∃ Y2 X2, (∀ Q : Yc → Prop, Q Y2 → wy_X8_passTick n r (X.1 3) Y Q) ∧ (∀ Q : Xc → Prop, Q X2 → wx_X12_acts (nI r) X Q) ∧ Sim n (K + 1) Y2 X2 ∧ Up X X2 := by
  have hn := S.sc.n7
  have R := S.rp hr
  have hc : (nI r).toNatClampNeg = r := nI_clamp (by omega)
  have hv : vp_in (nI r) 7 := vp_in_nI (by omega) (by omega)
  have hz : Sm K (0 : Int32) := Sm.z
  have yg : ∀ Q : Yc → Prop, ((lds n X r = 0 → by_X8_passTick_29 n r Q (X.1 3) (X.1 4) (lds n X r) Y) ∧ (¬ lds n X r = 0 → (∀ x13 : Int32, x13 = yI Y 804 r → ((x13 = (2 : Int32) → by_X8_passTick_29 n r Q (X.1 3) (X.1 4) (lds n X r) Y) ∧ (¬ x13 = (2 : Int32) → by_X8_passTick_30 n r Q (X.1 3) (X.1 4) (lds n X r) (1 : Int32) Y))))) → wy_X8_passTick n r (X.1 3) Y Q := fun Q h => by
    unfold wy_X8_passTick
    intro x3 e3
    rw [S.sc.tim] at e3
    subst e3
    exact y_leads S hr _ h
  have xg : ∀ Q : Xc → Prop, (∀ x6 : Int32, x6 = X.2 23 r → ((¬ x6 = (2 : Int32) → bx_X12_acts_60  Q (nI r) (lds n X r) x6 X) ∧ (x6 = (2 : Int32) → (∀ x9 : Int32, x9 = X.1 4 → (vp_in (nI r) 7 ∧ (∀ x12 : Int32, x12 = X.2 59 r → (∀ x14 : Int32, x14 = X.1 3 → (((x9 - x12) < ((4 : Int32) * x14) → bx_X12_acts_60  Q (nI r) (lds n X r) x6 X) ∧ (¬ (x9 - x12) < ((4 : Int32) * x14) → (vp_in (nI r) 7 ∧ (∀ x18 : Int32, x18 = X.2 21 r → (vp_in (nI r) 7 ∧ (∀ x21 : Int32, x21 = X.2 22 r → (wx_X12_turnsTo (nI r) (x18 + (1 : Int32)) x21 X (fun (X25 : Xc) => Q X25))))))))))))))) → wx_X12_acts (nI r) X Q := fun Q h => by
    unfold wx_X12_acts
    refine x_leads S hr _ ⟨hv, ?_⟩
    rw [hc]
    exact h
  have s012 : X.2 23 r = 0 ∨ X.2 23 r = 1 ∨ X.2 23 r = 2 := by
    obtain ⟨k, h1, h2⟩ := R.sta2
    rw [h2]
    rcases (show k = 0 ∨ k = 1 ∨ k = 2 by omega) with rfl | rfl | rfl
    · exact Or.inl rfl
    · exact Or.inr (Or.inl rfl)
    · exact Or.inr (Or.inr rfl)
  have C1 : ∀ (a b c : Int32), a - b < c ∨ ¬ a - b < c := fun a b c => Classical.em _
  rcases lds_01 (n := n) (X := X) (r := r) with hl | hl
  · rcases s012 with hs | hs | hs
    · skip
      by_cases c53 : X.1 4 - X.2 57 r < 3 * X.1 3
      · skip
        by_cases cH4 : X.2 36 r ≤ 0
        · skip
          exact ⟨Y, X, fun Q hQ => yg Q (by simp [-Int32.not_lt, -Int32.not_le, by_X8_passTick_29, by_X8_passTick_30, by_X8_passTick_47, by_X8_passTick_48, by_X8_passTick_77, by_X8_passTick_101, by_X8_passTick_131, by_X8_passTick_176, by_X8_passTick_200, R.sta, R.trn, R.ask, R.spo, R.ssa, R.hea, R.pnt, (S.hd hr).cnt, (S.lg hr).len, hl, hs, c53, cH4, hQ]), fun Q hQ => xg Q (by simp [-Int32.not_lt, -Int32.not_le, bx_X12_acts_60, bx_X12_acts_90, bx_X12_acts_138, bx_X12_acts_189, bx_X12_acts_239, hc, hv, hl, hs, c53, cH4, hQ]), S.mono (Nat.le_succ K) hK, Up.rf⟩
        · skip
          by_cases c25 : X.1 4 - X.2 58 r < X.1 3
          · skip
            exact ⟨Y, X, fun Q hQ => yg Q (by simp [-Int32.not_lt, -Int32.not_le, by_X8_passTick_29, by_X8_passTick_30, by_X8_passTick_47, by_X8_passTick_48, by_X8_passTick_77, by_X8_passTick_101, by_X8_passTick_131, by_X8_passTick_176, by_X8_passTick_200, R.sta, R.trn, R.ask, R.spo, R.ssa, R.hea, R.pnt, (S.hd hr).cnt, (S.lg hr).len, hl, hs, c53, cH4, c25, hQ]), fun Q hQ => xg Q (by simp [-Int32.not_lt, -Int32.not_le, bx_X12_acts_60, bx_X12_acts_90, bx_X12_acts_138, bx_X12_acts_189, bx_X12_acts_239, hc, hv, hl, hs, c53, cH4, c25, hQ]), S.mono (Nat.le_succ K) hK, Up.rf⟩
          · skip
            obtain ⟨Y2, X2, ry, rx, s2, u2⟩ := asks_sim S hr
            exact ⟨Y2, X2, fun Q hQ => yg Q (by have h9 := ry Q hQ; simp [-Int32.not_lt, -Int32.not_le, by_X8_passTick_29, by_X8_passTick_30, by_X8_passTick_47, by_X8_passTick_48, by_X8_passTick_77, by_X8_passTick_101, by_X8_passTick_131, by_X8_passTick_176, by_X8_passTick_200, R.sta, R.trn, R.ask, R.spo, R.ssa, R.hea, R.pnt, (S.hd hr).cnt, (S.lg hr).len, hl, hs, c53, cH4, c25, h9]), fun Q hQ => xg Q (by have h9 := rx Q hQ; simp [-Int32.not_lt, -Int32.not_le, bx_X12_acts_60, bx_X12_acts_90, bx_X12_acts_138, bx_X12_acts_189, bx_X12_acts_239, hc, hv, hl, hs, c53, cH4, c25, h9]), s2.mono (Nat.le_succ K) hK, u2⟩
      · skip
        obtain ⟨Y2, X2, ry, rx, s2, u2⟩ := next_sim S hK hr
        exact ⟨Y2, X2, fun Q hQ => yg Q (by have h9 := ry Q hQ; simp [-Int32.not_lt, -Int32.not_le, by_X8_passTick_29, by_X8_passTick_30, by_X8_passTick_47, by_X8_passTick_48, by_X8_passTick_77, by_X8_passTick_101, by_X8_passTick_131, by_X8_passTick_176, by_X8_passTick_200, R.sta, R.trn, R.ask, R.spo, R.ssa, R.hea, R.pnt, (S.hd hr).cnt, (S.lg hr).len, hl, hs, c53, h9]), fun Q hQ => xg Q (by have h9 := rx Q hQ; simp [-Int32.not_lt, -Int32.not_le, bx_X12_acts_60, bx_X12_acts_90, bx_X12_acts_138, bx_X12_acts_189, bx_X12_acts_239, hc, hv, hl, hs, c53, h9]), s2, u2⟩
    · skip
      by_cases c23 : X.1 4 - X.2 58 r < X.1 3
      · skip
        exact ⟨Y, X, fun Q hQ => yg Q (by simp [-Int32.not_lt, -Int32.not_le, by_X8_passTick_29, by_X8_passTick_30, by_X8_passTick_47, by_X8_passTick_48, by_X8_passTick_77, by_X8_passTick_101, by_X8_passTick_131, by_X8_passTick_176, by_X8_passTick_200, R.sta, R.trn, R.ask, R.spo, R.ssa, R.hea, R.pnt, (S.hd hr).cnt, (S.lg hr).len, hl, hs, c23, hQ]), fun Q hQ => xg Q (by simp [-Int32.not_lt, -Int32.not_le, bx_X12_acts_60, bx_X12_acts_90, bx_X12_acts_138, bx_X12_acts_189, bx_X12_acts_239, hc, hv, hl, hs, c23, hQ]), S.mono (Nat.le_succ K) hK, Up.rf⟩
      · skip
        obtain ⟨Y2, X2, ry, rx, s2, u2⟩ := asks_sim S hr
        exact ⟨Y2, X2, fun Q hQ => yg Q (by have h9 := ry Q hQ; simp [-Int32.not_lt, -Int32.not_le, by_X8_passTick_29, by_X8_passTick_30, by_X8_passTick_47, by_X8_passTick_48, by_X8_passTick_77, by_X8_passTick_101, by_X8_passTick_131, by_X8_passTick_176, by_X8_passTick_200, R.sta, R.trn, R.ask, R.spo, R.ssa, R.hea, R.pnt, (S.hd hr).cnt, (S.lg hr).len, hl, hs, c23, h9]), fun Q hQ => xg Q (by have h9 := rx Q hQ; simp [-Int32.not_lt, -Int32.not_le, bx_X12_acts_60, bx_X12_acts_90, bx_X12_acts_138, bx_X12_acts_189, bx_X12_acts_239, hc, hv, hl, hs, c23, h9]), s2.mono (Nat.le_succ K) hK, u2⟩
    · skip
      by_cases c13 : X.1 4 - X.2 59 r < 4 * X.1 3
      · skip
        by_cases c24 : X.1 4 - X.2 58 r < X.1 3
        · skip
          exact ⟨Y, X, fun Q hQ => yg Q (by simp [-Int32.not_lt, -Int32.not_le, by_X8_passTick_29, by_X8_passTick_30, by_X8_passTick_47, by_X8_passTick_48, by_X8_passTick_77, by_X8_passTick_101, by_X8_passTick_131, by_X8_passTick_176, by_X8_passTick_200, R.sta, R.trn, R.ask, R.spo, R.ssa, R.hea, R.pnt, (S.hd hr).cnt, (S.lg hr).len, hl, hs, c13, c24, hQ]), fun Q hQ => xg Q (by simp [-Int32.not_lt, -Int32.not_le, bx_X12_acts_60, bx_X12_acts_90, bx_X12_acts_138, bx_X12_acts_189, bx_X12_acts_239, hc, hv, hl, hs, c13, c24, hQ]), S.mono (Nat.le_succ K) hK, Up.rf⟩
        · skip
          obtain ⟨Y2, X2, ry, rx, s2, u2⟩ := asks_sim S hr
          exact ⟨Y2, X2, fun Q hQ => yg Q (by have h9 := ry Q hQ; simp [-Int32.not_lt, -Int32.not_le, by_X8_passTick_29, by_X8_passTick_30, by_X8_passTick_47, by_X8_passTick_48, by_X8_passTick_77, by_X8_passTick_101, by_X8_passTick_131, by_X8_passTick_176, by_X8_passTick_200, R.sta, R.trn, R.ask, R.spo, R.ssa, R.hea, R.pnt, (S.hd hr).cnt, (S.lg hr).len, hl, hs, c13, c24, h9]), fun Q hQ => xg Q (by have h9 := rx Q hQ; simp [-Int32.not_lt, -Int32.not_le, bx_X12_acts_60, bx_X12_acts_90, bx_X12_acts_138, bx_X12_acts_189, bx_X12_acts_239, hc, hv, hl, hs, c13, c24, h9]), s2.mono (Nat.le_succ K) hK, u2⟩
      · skip
        obtain ⟨Y2, X2, ry, rx, s2, u2⟩ := next_sim S hK hr
        exact ⟨Y2, X2, fun Q hQ => yg Q (by have h9 := ry Q hQ; simp [-Int32.not_lt, -Int32.not_le, by_X8_passTick_29, by_X8_passTick_30, by_X8_passTick_47, by_X8_passTick_48, by_X8_passTick_77, by_X8_passTick_101, by_X8_passTick_131, by_X8_passTick_176, by_X8_passTick_200, R.sta, R.trn, R.ask, R.spo, R.ssa, R.hea, R.pnt, (S.hd hr).cnt, (S.lg hr).len, hl, hs, c13, h9]), fun Q hQ => xg Q (by have h9 := rx Q hQ; simp [-Int32.not_lt, -Int32.not_le, bx_X12_acts_60, bx_X12_acts_90, bx_X12_acts_138, bx_X12_acts_189, bx_X12_acts_239, hc, hv, hl, hs, c13, h9]), s2, u2⟩
  · rcases s012 with hs | hs | hs
    · skip
      by_cases c33 : X.1 4 - X.2 60 r < X.1 3
      · skip
        by_cases cL4 : X.2 26 r ≤ X.2 28 r
        · skip
          exact ⟨Y, X, fun Q hQ => yg Q (by simp [-Int32.not_lt, -Int32.not_le, by_X8_passTick_29, by_X8_passTick_30, by_X8_passTick_47, by_X8_passTick_48, by_X8_passTick_77, by_X8_passTick_101, by_X8_passTick_131, by_X8_passTick_176, by_X8_passTick_200, R.sta, R.trn, R.ask, R.spo, R.ssa, R.hea, R.pnt, (S.hd hr).cnt, (S.lg hr).len, hl, hs, c33, cL4, hQ]), fun Q hQ => xg Q (by simp [-Int32.not_lt, -Int32.not_le, bx_X12_acts_60, bx_X12_acts_90, bx_X12_acts_138, bx_X12_acts_189, bx_X12_acts_239, hc, hv, hl, hs, c33, cL4, hQ]), S.mono (Nat.le_succ K) hK, Up.rf⟩
        · skip
          by_cases c45 : X.1 4 - X.2 61 r < 4 * X.1 3
          · skip
            exact ⟨Y, X, fun Q hQ => yg Q (by simp [-Int32.not_lt, -Int32.not_le, by_X8_passTick_29, by_X8_passTick_30, by_X8_passTick_47, by_X8_passTick_48, by_X8_passTick_77, by_X8_passTick_101, by_X8_passTick_131, by_X8_passTick_176, by_X8_passTick_200, R.sta, R.trn, R.ask, R.spo, R.ssa, R.hea, R.pnt, (S.hd hr).cnt, (S.lg hr).len, hl, hs, c33, cL4, c45, hQ]), fun Q hQ => xg Q (by simp [-Int32.not_lt, -Int32.not_le, bx_X12_acts_60, bx_X12_acts_90, bx_X12_acts_138, bx_X12_acts_189, bx_X12_acts_239, hc, hv, hl, hs, c33, cL4, c45, hQ]), S.mono (Nat.le_succ K) hK, Up.rf⟩
          · skip
            obtain ⟨Y2, X2, ry, rx, s2, u2⟩ := syncs_sim S hr
            exact ⟨Y2, X2, fun Q hQ => yg Q (by have h9 := ry Q hQ; simp [-Int32.not_lt, -Int32.not_le, by_X8_passTick_29, by_X8_passTick_30, by_X8_passTick_47, by_X8_passTick_48, by_X8_passTick_77, by_X8_passTick_101, by_X8_passTick_131, by_X8_passTick_176, by_X8_passTick_200, R.sta, R.trn, R.ask, R.spo, R.ssa, R.hea, R.pnt, (S.hd hr).cnt, (S.lg hr).len, hl, hs, c33, cL4, c45, h9]), fun Q hQ => xg Q (by have h9 := rx Q hQ; simp [-Int32.not_lt, -Int32.not_le, bx_X12_acts_60, bx_X12_acts_90, bx_X12_acts_138, bx_X12_acts_189, bx_X12_acts_239, hc, hv, hl, hs, c33, cL4, c45, h9]), s2.mono (Nat.le_succ K) hK, u2⟩
      · skip
        obtain ⟨Y2, X2, ry, rx, s2, u2⟩ := others_sim (sim_hour S hr (c := 814) (k := 60) (by omega) (X.1 4)) hr (k := 12) (s := 0) (v := -1) (by unfold PlK; simp) hz (by simp)
        exact ⟨Y2, X2, fun Q hQ => yg Q (by have h9 := ry Q hQ; simp [-Int32.not_lt, -Int32.not_le, by_X8_passTick_29, by_X8_passTick_30, by_X8_passTick_47, by_X8_passTick_48, by_X8_passTick_77, by_X8_passTick_101, by_X8_passTick_131, by_X8_passTick_176, by_X8_passTick_200, R.sta, R.trn, R.ask, R.spo, R.ssa, R.hea, R.pnt, (S.hd hr).cnt, (S.lg hr).len, hl, hs, c33, h9]), fun Q hQ => xg Q (by have h9 := rx Q hQ; simp [-Int32.not_lt, -Int32.not_le, bx_X12_acts_60, bx_X12_acts_90, bx_X12_acts_138, bx_X12_acts_189, bx_X12_acts_239, hc, hv, hl, hs, c33, h9]), s2.mono (Nat.le_succ K) hK, u2.up⟩
    · skip
      by_cases c23 : X.1 4 - X.2 58 r < X.1 3
      · skip
        by_cases c34 : X.1 4 - X.2 60 r < X.1 3
        · skip
          exact ⟨Y, X, fun Q hQ => yg Q (by simp [-Int32.not_lt, -Int32.not_le, by_X8_passTick_29, by_X8_passTick_30, by_X8_passTick_47, by_X8_passTick_48, by_X8_passTick_77, by_X8_passTick_101, by_X8_passTick_131, by_X8_passTick_176, by_X8_passTick_200, R.sta, R.trn, R.ask, R.spo, R.ssa, R.hea, R.pnt, (S.hd hr).cnt, (S.lg hr).len, hl, hs, c23, c34, hQ]), fun Q hQ => xg Q (by simp [-Int32.not_lt, -Int32.not_le, bx_X12_acts_60, bx_X12_acts_90, bx_X12_acts_138, bx_X12_acts_189, bx_X12_acts_239, hc, hv, hl, hs, c23, c34, hQ]), S.mono (Nat.le_succ K) hK, Up.rf⟩
        · skip
          obtain ⟨Y2, X2, ry, rx, s2, u2⟩ := others_sim (sim_hour S hr (c := 814) (k := 60) (by omega) (X.1 4)) hr (k := 12) (s := 0) (v := -1) (by unfold PlK; simp) hz (by simp)
          exact ⟨Y2, X2, fun Q hQ => yg Q (by have h9 := ry Q hQ; simp [-Int32.not_lt, -Int32.not_le, by_X8_passTick_29, by_X8_passTick_30, by_X8_passTick_47, by_X8_passTick_48, by_X8_passTick_77, by_X8_passTick_101, by_X8_passTick_131, by_X8_passTick_176, by_X8_passTick_200, R.sta, R.trn, R.ask, R.spo, R.ssa, R.hea, R.pnt, (S.hd hr).cnt, (S.lg hr).len, hl, hs, c23, c34, h9]), fun Q hQ => xg Q (by have h9 := rx Q hQ; simp [-Int32.not_lt, -Int32.not_le, bx_X12_acts_60, bx_X12_acts_90, bx_X12_acts_138, bx_X12_acts_189, bx_X12_acts_239, hc, hv, hl, hs, c23, c34, h9]), s2.mono (Nat.le_succ K) hK, u2.up⟩
      · skip
        obtain ⟨Y2, X2, ry, rx, s2, u2⟩ := asks_sim S hr
        exact ⟨Y2, X2, fun Q hQ => yg Q (by have h9 := ry Q hQ; simp [-Int32.not_lt, -Int32.not_le, by_X8_passTick_29, by_X8_passTick_30, by_X8_passTick_47, by_X8_passTick_48, by_X8_passTick_77, by_X8_passTick_101, by_X8_passTick_131, by_X8_passTick_176, by_X8_passTick_200, R.sta, R.trn, R.ask, R.spo, R.ssa, R.hea, R.pnt, (S.hd hr).cnt, (S.lg hr).len, hl, hs, c23, h9]), fun Q hQ => xg Q (by have h9 := rx Q hQ; simp [-Int32.not_lt, -Int32.not_le, bx_X12_acts_60, bx_X12_acts_90, bx_X12_acts_138, bx_X12_acts_189, bx_X12_acts_239, hc, hv, hl, hs, c23, h9]), s2.mono (Nat.le_succ K) hK, u2⟩
    · skip
      by_cases c13 : X.1 4 - X.2 59 r < 4 * X.1 3
      · skip
        by_cases c24 : X.1 4 - X.2 58 r < X.1 3
        · skip
          exact ⟨Y, X, fun Q hQ => yg Q (by simp [-Int32.not_lt, -Int32.not_le, by_X8_passTick_29, by_X8_passTick_30, by_X8_passTick_47, by_X8_passTick_48, by_X8_passTick_77, by_X8_passTick_101, by_X8_passTick_131, by_X8_passTick_176, by_X8_passTick_200, R.sta, R.trn, R.ask, R.spo, R.ssa, R.hea, R.pnt, (S.hd hr).cnt, (S.lg hr).len, hl, hs, c13, c24, hQ]), fun Q hQ => xg Q (by simp [-Int32.not_lt, -Int32.not_le, bx_X12_acts_60, bx_X12_acts_90, bx_X12_acts_138, bx_X12_acts_189, bx_X12_acts_239, hc, hv, hl, hs, c13, c24, hQ]), S.mono (Nat.le_succ K) hK, Up.rf⟩
        · skip
          obtain ⟨Y2, X2, ry, rx, s2, u2⟩ := asks_sim S hr
          exact ⟨Y2, X2, fun Q hQ => yg Q (by have h9 := ry Q hQ; simp [-Int32.not_lt, -Int32.not_le, by_X8_passTick_29, by_X8_passTick_30, by_X8_passTick_47, by_X8_passTick_48, by_X8_passTick_77, by_X8_passTick_101, by_X8_passTick_131, by_X8_passTick_176, by_X8_passTick_200, R.sta, R.trn, R.ask, R.spo, R.ssa, R.hea, R.pnt, (S.hd hr).cnt, (S.lg hr).len, hl, hs, c13, c24, h9]), fun Q hQ => xg Q (by have h9 := rx Q hQ; simp [-Int32.not_lt, -Int32.not_le, bx_X12_acts_60, bx_X12_acts_90, bx_X12_acts_138, bx_X12_acts_189, bx_X12_acts_239, hc, hv, hl, hs, c13, c24, h9]), s2.mono (Nat.le_succ K) hK, u2⟩
      · skip
        obtain ⟨Y2, X2, ry, rx, s2, u2⟩ := next_sim S hK hr
        exact ⟨Y2, X2, fun Q hQ => yg Q (by have h9 := ry Q hQ; simp [-Int32.not_lt, -Int32.not_le, by_X8_passTick_29, by_X8_passTick_30, by_X8_passTick_47, by_X8_passTick_48, by_X8_passTick_77, by_X8_passTick_101, by_X8_passTick_131, by_X8_passTick_176, by_X8_passTick_200, R.sta, R.trn, R.ask, R.spo, R.ssa, R.hea, R.pnt, (S.hd hr).cnt, (S.lg hr).len, hl, hs, c13, h9]), fun Q hQ => xg Q (by have h9 := rx Q hQ; simp [-Int32.not_lt, -Int32.not_le, bx_X12_acts_60, bx_X12_acts_90, bx_X12_acts_138, bx_X12_acts_189, bx_X12_acts_239, hc, hv, hl, hs, c13, h9]), s2, u2⟩
end
