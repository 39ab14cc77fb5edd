section
variable {n K : Nat} {Y Y2 : Yc} {X X2 : Xc} {r c : Nat}
theorem nI_1' : (4 : Int32) = nI 4 := rfl
theorem raise_sim (S : Sim n K Y X) (hK : K + 1 < 1073741824) :
    ∃ Y2 X2, (∀ Q : Yc → Prop, Q Y2 → wy_X11_raiseSequencer n Y Q) ∧ (∀ Q : Int32 → Xc → Prop, Q (X2.1 17) X2 → wx_X12_establish X Q) ∧ Sim n (K + 1) Y2 X2 ∧ yI Y2 1106 0 = X2.1 17 ∧ Up X X2 := by
  obtain ⟨k, hk, e⟩ := S.sc.sesK
  have S2 : Sim n (K + 1) (uI (uI (uI Y 1105 0 1) 1106 0 (X.1 17 + 1)) 1107 0 0) (xS (xS (xS X 16 1) 17 (X.1 17 + 1)) 18 0) := by
    have S1 := S.mono (Nat.le_succ K) hK
    refine sim_sc S1 (fun k o h _ => ?_) rfl rfl rfl rfl rfl rfl (fun k _ _ _ _ h => ?_) rfl ?_
    · rw [yII, if_neg (by omega), yII, if_neg (by omega), yII, if_neg (by omega)]
    · rw [xSS, if_neg (by omega), xSS, if_neg (by omega), xSS, if_neg (by omega)]
    · obtain ⟨a1, a2, a3, a4, a5, a6, a7, a8, a9, a10, a11, a12, a13, a14, a15, a16, a17, a18, a19, a20, a21⟩ := S1.sc
      refine ⟨a1, a2, a3, a4, a5, a6, a7, a8, a9, a10, a11, rfl, rfl, rfl, a15, a16, Or.inr rfl, ?_, ⟨0, by omega, rfl⟩, a20, a21⟩
      show Sm (K + 1) (X.1 17 + 1)
      exact ⟨k + 1, by omega, by rw [e, nI_1]⟩
  refine ⟨_, _, fun Q hQ => ?_, fun Q hQ => ?_, S2, rfl, Up.ks rfl rfl⟩
  · unfold wy_X11_raiseSequencer
    intro x2 e2 x4 e4
    have e2 : x2 = X.1 17 := e2.trans S.sc.ses
    subst e2; subst e4
    exact hQ
  · unfold wx_X12_establish
    intro x1 e1 x3 e3 x5 e5
    have e1 : x1 = X.1 17 := e1
    subst e1; subst e3; subst e5
    exact hQ
theorem actsLoop_sim : ∀ d t K Y X, t + d = n → K + d < 1073741824 → Sim n K Y X →
    ∃ Y2 X2, (∀ Q : Yc → Prop, LFy (fy_X11_passTick_96 n Q) (nI 4, 0) Y2 → LFy (fy_X11_passTick_53 n Q) (nI n, nI t) Y) ∧ (∀ Q : Xc → Prop, LFx (fx_X12_goOn_70 Q) (0 : Int32) X2 → LFx (fx_X12_goOn_40 Q) (nI t) X) ∧ Sim n (K + d) Y2 X2 ∧ Up X X2 := by
  intro d
  induction d with
  | zero =>
    intro t K Y X ht _ S
    have hn := S.sc.n7
    have ht : t = n := by omega
    subst ht
    refine ⟨Y, X, fun Q hQ R hR => hR _ _ ⟨fun _ x6 e6 => ?_, fun h => absurd (nI_le (Nat.le_refl t) (by omega)) h⟩, fun Q hQ R hR => hR _ _ (fun x1 e1 => ?_), S, Up.rf⟩
    · subst e6; exact hQ
    · rw [S.sc.x1] at e1
      subst e1
      exact ⟨fun _ => hQ, fun h => absurd (nI_le (Nat.le_refl t) (by omega)) h⟩
  | succ d ih =>
    intro t K Y X ht hK S
    have hn := S.sc.n7
    have htn : t < n := by omega
    have hc : (nI t).toNatClampNeg = t := nI_clamp (by omega)
    have hv : vp_in (nI t) 7 := vp_in_nI (by omega) (by omega)
    have hvn : vp_in (nI t) n := vp_in_nI (by omega) (by omega)
    obtain ⟨Y1, X1, ry, rx, s1, u1⟩ : ∃ Y1 X1, (∀ Q : Yc → Prop, Q Y1 → (∀ x14 : Int32, x14 = yI Y 803 t → ((¬ x14 = 0 → Q Y) ∧ (x14 = 0 → wy_X8_passTick n t (X.1 3) Y Q)))) ∧ (∀ Q : Xc → Prop, Q X1 → (∀ x5 : Int32, x5 = X.2 20 t → ((¬ x5 = 0 → Q X) ∧ (x5 = 0 → wx_X12_acts (nI t) X Q)))) ∧ Sim n (K + 1) Y1 X1 ∧ Up X X1 := by
      rcases (S.rp htn).dwn01 with h0 | h0
      · obtain ⟨Y1, X1, ry, rx, s1, u1⟩ := acts_sim S (by omega) htn
        refine ⟨Y1, X1, fun Q hQ x14 e14 => ?_, fun Q hQ x5 e5 => ?_, s1, u1⟩
        · rw [(S.rp htn).dwn, h0] at e14
          subst e14
          exact ⟨fun h => absurd rfl h, fun _ => ry Q hQ⟩
        · rw [h0] at e5
          subst e5
          exact ⟨fun h => absurd rfl h, fun _ => rx Q hQ⟩
      · refine ⟨Y, X, fun Q hQ x14 e14 => ?_, fun Q hQ x5 e5 => ?_, S.mono (Nat.le_succ K) (by omega), Up.rf⟩
        · rw [(S.rp htn).dwn, h0] at e14
          subst e14
          exact ⟨fun _ => hQ, fun h => absurd h (by decide)⟩
        · rw [h0] at e5
          subst e5
          exact ⟨fun _ => hQ, fun h => absurd h (by decide)⟩
    obtain ⟨Y2, X2, gy, gx, s2, u2⟩ := ih (t + 1) (K + 1) Y1 X1 (by omega) (by omega) s1
    refine ⟨Y2, X2, fun Q hQ R hR => hR _ _ ⟨fun h => absurd h (nI_ge (by omega) (by omega)), fun _ => ⟨hvn, ?_⟩⟩, fun Q hQ R hR => hR _ _ (fun x1 e1 => ?_), by rw [show K + (d + 1) = K + 1 + d by omega]; exact s2, u1.trans u2⟩
    · rw [show ((nI n, nI t) : Int32 × Int32).2.toNatClampNeg = t from hc]
      have := ry (fun Y' => by_X11_passTick_80 n R Q (nI n) (nI t) Y') (by
        unfold by_X11_passTick_80
        intro x1 e1
        rw [nI_1] at e1
        subst e1
        exact gy Q hQ R hR)
      intro x14 e14
      refine ⟨(this x14 e14).1, fun h x17 e17 => ?_⟩
      rw [S.sc.pat] at e17
      subst e17
      exact (this x14 e14).2 h
    · rw [S.sc.x1] at e1
      subst e1
      refine ⟨fun h => absurd h (nI_ge (by omega) (by omega)), fun _ => ⟨hv, ?_⟩⟩
      rw [hc]
      exact rx (fun X' => bx_X12_goOn_62 R Q (nI t) X') (by
        unfold bx_X12_goOn_62
        intro x1 e1
        rw [nI_1] at e1
        subst e1
        exact gx Q hQ R hR)
theorem stampsLoop_sim : ∀ d t K Y X, t + d = 4 → K + d < 1073741824 → Sim n K Y X →
    ∃ Y2 X2, (∀ Q : Yc → Prop, Q Y2 → LFy (fy_X11_passTick_96 n Q) (nI 4, nI t) Y) ∧ (∀ Q : Xc → Prop, Q X2 → LFx (fx_X12_goOn_70 Q) (nI t) X) ∧ Sim n (K + d) Y2 X2 ∧ Up X X2 := by
  intro d
  induction d with
  | zero =>
    intro t K Y X ht _ S
    have ht : t = 4 := by omega
    subst ht
    exact ⟨Y, X, fun Q hQ R hR => hR _ _ ⟨fun _ => hQ, fun h => absurd (nI_le (Nat.le_refl 4) (by omega)) h⟩, fun Q hQ R hR => hR _ _ ⟨fun _ => hQ, fun h => absurd (nI_le (Nat.le_refl 4) (by omega)) h⟩, S, Up.rf⟩
  | succ d ih =>
    intro t K Y X ht hK S
    have htn : t < 4 := by omega
    have hc : (nI t).toNatClampNeg = t := nI_clamp (by omega)
    have hv : vp_in (nI t) 4 := vp_in_nI (by omega) (by omega)
    obtain ⟨Y1, X1, ry, rx, s1, u1⟩ : ∃ Y1 X1, (∀ Q : Yc → Prop, Q Y1 → (∀ x8 : Int32, x8 = yI Y 102 t → ((x8 = 0 → Q Y) ∧ (¬ x8 = 0 → (((X.1 4 - X.2 70 t) < 2 * X.1 3 → Q Y) ∧ (¬ (X.1 4 - X.2 70 t) < 2 * X.1 3 → wy_X11_stamp n t Y Q)))))) ∧ (∀ Q : Xc → Prop, Q X1 → (∀ x3 : Int32, x3 = X.2 66 t → ((x3 = 0 → Q X) ∧ (¬ x3 = 0 → (((X.1 4 - X.2 70 t) < 2 * X.1 3 → Q X) ∧ (¬ (X.1 4 - X.2 70 t) < 2 * X.1 3 → wx_X12_stamp (nI t) X Q)))))) ∧ Sim n (K + 1) Y1 X1 ∧ Up X X1 := by
      have C := S.cl htn
      rcases C.2.2.2.1 with h0 | h0
      · refine ⟨Y, X, fun Q hQ x14 e14 => ?_, fun Q hQ x5 e5 => ?_, S.mono (Nat.le_succ K) (by omega), Up.rf⟩
        · rw [C.2.1, h0] at e14
          subst e14
          exact ⟨fun _ => hQ, fun h => absurd rfl h⟩
        · rw [h0] at e5
          subst e5
          exact ⟨fun _ => hQ, fun h => absurd rfl h⟩
      · by_cases hd : (X.1 4 - X.2 70 t) < 2 * X.1 3
        · refine ⟨Y, X, fun Q hQ x14 e14 => ?_, fun Q hQ x5 e5 => ?_, S.mono (Nat.le_succ K) (by omega), Up.rf⟩
          · exact ⟨fun _ => hQ, fun h => ⟨fun _ => hQ, fun h => absurd hd h⟩⟩
          · exact ⟨fun _ => hQ, fun h => ⟨fun _ => hQ, fun h => absurd hd h⟩⟩
        · obtain ⟨Y1, X1, ry, rx, s1, u1⟩ := stamp_sim S (by omega) htn h0
          refine ⟨Y1, X1, fun Q hQ x14 e14 => ?_, fun Q hQ x5 e5 => ?_, s1, u1⟩
          · rw [C.2.1, h0] at e14
            subst e14
            exact ⟨fun h => absurd h (by decide), fun h => ⟨fun h => absurd h hd, fun _ => ry Q hQ⟩⟩
          · rw [h0] at e5
            subst e5
            exact ⟨fun h => absurd h (by decide), fun h => ⟨fun h => absurd h hd, fun _ => rx Q hQ⟩⟩
    obtain ⟨Y2, X2, gy, gx, s2, u2⟩ := ih (t + 1) (K + 1) Y1 X1 (by omega) (by omega) s1
    have C := S.cl htn
    refine ⟨Y2, X2, fun Q hQ R hR => hR _ _ ⟨fun h => absurd h (nI_ge (a := t) (b := 4) (by omega) (by omega)), fun _ => ⟨hv, ?_⟩⟩, fun Q hQ R hR => hR _ _ ⟨fun h => absurd h (nI_ge (a := t) (b := 4) (by omega) (by omega)), fun _ => ⟨hv, ?_⟩⟩, by rw [show K + (d + 1) = K + 1 + d by omega]; exact s2, u1.trans u2⟩
    · rw [show ((nI 4, nI t) : Int32 × Int32).2.toNatClampNeg = t from hc]
      have := ry (fun Y' => by_X11_passTick_142 n R Q (nI 4) (nI t) Y') (by
        unfold by_X11_passTick_142
        intro x1 e1
        rw [nI_1] at e1
        subst e1
        exact gy Q hQ R hR)
      intro x14 e14
      refine ⟨(this x14 e14).1, fun h x13 e13 x15 e15 x17 e17 => ?_⟩
      rw [S.sc.tim] at e13
      rw [C.2.2.1] at e15
      rw [S.sc.pat] at e17
      subst e13; subst e15; subst e17
      exact (this x14 e14).2 h
    · rw [hc]
      have := rx (fun X' => bx_X12_goOn_109 R Q (nI t) X') (by
        unfold bx_X12_goOn_109
        intro x1 e1
        rw [nI_1] at e1
        subst e1
        exact gx Q hQ R hR)
      intro x3 e3
      refine ⟨(this x3 e3).1, fun h x6 e6 => ⟨hv, fun x9 e9 x11 e11 => ?_⟩⟩
      subst e6; subst e9; subst e11
      exact (this x3 e3).2 h
/-- a tick, without what it hands over -/
theorem tick_sim (S : Sim n K Y X) (hK : K + 12 < 1073741824) :
    ∃ Y2 X2, (∀ Q : Yc → Prop, Q Y2 → wy_X11_passTick n Y Q) ∧ (∀ Q : Xc → Prop, Q X2 → wx_X12_goOn X Q) ∧ Sim n (K + 12) Y2 X2 ∧ Up X X2 := by
  have hn := S.sc.n7
  have S1 : Sim n K (uI Y 408 0 (X.1 4 + 1)) (xS X 4 (X.1 4 + 1)) := by
    refine sim_sc S (fun k o h h2 => ?_) rfl rfl rfl rfl rfl rfl (fun k _ h _ _ _ => ?_) rfl ?_
    · rw [yII, if_neg (by omega)]
    · rw [xSS, if_neg (by omega)]
    · obtain ⟨a1, a2, a3, a4, a5, a6, a7, a8, a9, a10, a11, a12, a13, a14, a15, a16, a17, a18, a19, a20, a21⟩ := S.sc
      exact ⟨a1, a2, a3, a4, a5, a6, a7, a8, rfl, a10, a11, a12, a13, a14, a15, a16, a17, a18, a19, a20, a21⟩
  obtain ⟨Y1, X1, ry, rx, s1, u1⟩ : ∃ Y1 X1, (∀ Q : Yc → Prop, Q Y1 → (∀ x10 : Int32, x10 = yI (uI Y 408 0 (X.1 4 + 1)) 1105 0 → ((¬ x10 = 0 → Q (uI Y 408 0 (X.1 4 + 1))) ∧ (x10 = 0 → (((X.1 4 + 1 - X.1 19) < X.1 3 → Q (uI Y 408 0 (X.1 4 + 1))) ∧ (¬ (X.1 4 + 1 - X.1 19) < X.1 3 → wy_X11_raiseSequencer n (uI Y 408 0 (X.1 4 + 1)) Q)))))) ∧ (∀ Q : Xc → Prop, Q X1 → (∀ x5 : Int32, x5 = (xS X 4 (X.1 4 + 1)).1 16 → ((¬ x5 = 0 → Q (xS X 4 (X.1 4 + 1))) ∧ (x5 = 0 → (((X.1 4 + 1 - X.1 19) < X.1 3 → Q (xS X 4 (X.1 4 + 1))) ∧ (¬ (X.1 4 + 1 - X.1 19) < X.1 3 → wx_X12_establish (xS X 4 (X.1 4 + 1)) (fun _ X' => Q X'))))))) ∧ Sim n (K + 1) Y1 X1 ∧ Up X X1 := by
    rcases S.sc.up01 with h0 | h0
    · by_cases hd : (X.1 4 + 1 - X.1 19) < X.1 3
      · refine ⟨_, _, fun Q hQ x14 e14 => ?_, fun Q hQ x5 e5 => ?_, S1.mono (Nat.le_succ K) (by omega), Up.ks rfl rfl⟩
        · exact ⟨fun _ => hQ, fun h => ⟨fun _ => hQ, fun h => absurd hd h⟩⟩
        · exact ⟨fun _ => hQ, fun h => ⟨fun _ => hQ, fun h => absurd hd h⟩⟩
      · obtain ⟨Y1, X1, ry, rx, s1, _, u1⟩ := raise_sim S1 (by omega)
        refine ⟨Y1, X1, fun Q hQ x14 e14 => ?_, fun Q hQ x5 e5 => ?_, s1, u1⟩
        · have e14 : x14 = 0 := e14.trans (S.sc.up.trans h0)
          subst e14
          exact ⟨fun h => absurd rfl h, fun h => ⟨fun h => absurd h hd, fun _ => ry Q hQ⟩⟩
        · have e5 : x5 = 0 := e5.trans h0
          subst e5
          exact ⟨fun h => absurd rfl h, fun h => ⟨fun h => absurd h hd, fun _ => rx _ hQ⟩⟩
    · refine ⟨_, _, fun Q hQ x14 e14 => ?_, fun Q hQ x5 e5 => ?_, S1.mono (Nat.le_succ K) (by omega), Up.ks rfl rfl⟩
      · have e14 : x14 = 1 := e14.trans (S.sc.up.trans h0)
        subst e14
        exact ⟨fun _ => hQ, fun h => absurd h (by decide)⟩
      · have e5 : x5 = 1 := e5.trans h0
        subst e5
        exact ⟨fun _ => hQ, fun h => absurd h (by decide)⟩
  obtain ⟨Y2, X2, gy, gx, s2, u2⟩ := actsLoop_sim n 0 (K + 1) Y1 X1 (by omega) (by omega) s1
  obtain ⟨Y3, X3, ky, kx, s3, u3⟩ := stampsLoop_sim 4 0 (K + 1 + n) Y2 X2 (by omega) (by omega) s2
  refine ⟨Y3, X3, fun Q hQ => ?_, fun Q hQ => ?_, s3.mono (by omega) hK, u1.trans (u2.trans u3)⟩
  · unfold wy_X11_passTick
    intro x5 e5 x7 e7 x10 e10
    rw [S.sc.tim] at e5
    subst e5; subst e7
    have := ry (fun Y' => by_X11_passTick_43 n Q Y') (by
      unfold by_X11_passTick_43
      intro x5 e5
      subst e5
      exact gy Q (ky Q hQ)) x10 e10
    refine ⟨this.1, fun h x15 e15 x17 e17 x19 e19 => ?_⟩
    have e15 : x15 = X.1 4 + 1 := e15
    have e17 : x17 = X.1 19 := e17.trans S.sc.fai
    have e19 : x19 = X.1 3 := e19.trans S.sc.pat
    subst e15; subst e17; subst e19
    exact this.2 h
  · unfold wx_X12_goOn
    intro x1 e1 x3 e3 x5 e5
    subst e1; subst e3
    have := rx (fun X' => bx_X12_goOn_38 Q X') (by
      unfold bx_X12_goOn_38
      exact gx Q (kx Q hQ)) x5 e5
    refine ⟨this.1, fun h x15 e15 x17 e17 x19 e19 => ?_⟩
    have e15 : x15 = X.1 4 + 1 := e15
    have e17 : x17 = X.1 19 := e17
    have e19 : x19 = X.1 3 := e19
    subst e15; subst e17; subst e19
    exact this.2 h
end
