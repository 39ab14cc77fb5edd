section
variable {n K : Nat} {Y Y2 : Yc} {X X2 : Xc} {r c : Nat}
theorem stampLoop_sim (hc : c < 4) : ∀ d t Y X, t + d = n → Sim n K Y X → X.2 66 c = 1 →
    ∃ Y2 X2, (∀ Q : Yc → Prop, Q Y2 → LFy (fy_X11_stamp_31 n Q) (c, nI t) Y) ∧ (∀ Q : Xc → Prop, Q X2 → LFx (fx_X12_stamp_30 Q) (nI c, nI t) X) ∧ Sim n K Y2 X2 ∧ SR Y X Y2 X2 := by
  intro d
  induction d with
  | zero =>
    intro t Y X ht S _
    have hn := S.sc.n7
    have ht : t = n := by omega
    subst ht
    refine ⟨Y, X, fun Q hQ R hR => hR _ _ (fun x3 e3 => ?_), fun Q hQ R hR => hR _ _ (fun x1 e1 => ?_), S, SR.rf⟩
    · rw [S.sc.y400] at e3
      subst e3
      exact ⟨fun _ => hQ, fun h => absurd (nI_le (Nat.le_refl t) (by omega)) h⟩
    · rw [S.sc.x1] at e1
      subst e1
      exact ⟨fun _ => hQ, fun h => absurd (nI_le (Nat.le_refl t) (by omega)) h⟩
  | succ d ih =>
    intro t Y X ht S ho
    have hn := S.sc.n7
    obtain ⟨Y1, X1, ry, rx, s1, f1⟩ := stamped_sim S hc (t := t) (by omega) ho
    obtain ⟨Y2, X2, gy, gx, s2, f2⟩ := ih (t + 1) Y1 X1 (by omega) s1 (by rw [f1.2.1.2 66 (by omega) (by omega)]; exact ho)
    refine ⟨Y2, X2, fun Q hQ R hR => hR _ _ (fun x3 e3 => ?_), fun Q hQ R hR => hR _ _ (fun x1 e1 => ?_), s2, f1.trans f2⟩
    · rw [S.sc.y400] at e3
      subst e3
      refine ⟨fun h => absurd h (nI_ge (by omega) (by omega)), fun _ x7 e7 => ?_⟩
      rw [S.sc.ses] at e7
      subst e7
      unfold wy_X11_viewOf
      intro x16 e16
      rw [S.sc.stm] at e16
      subst e16
      refine ry (fun Y' => ∀ x35 : Int32, x35 = nI t + 1 → R (c, x35) Y') (fun x35 e35 => ?_)
      rw [nI_1] at e35
      subst e35
      exact gy Q hQ R hR
    · rw [S.sc.x1] at e1
      subst e1
      refine ⟨fun h => absurd h (nI_ge (by omega) (by omega)), fun _ => ?_⟩
      refine rx (fun X' => ∀ x56 : Int32, x56 = nI t + 1 → R (nI c, x56) X') (fun x56 e56 => ?_)
      rw [nI_1] at e56
      subst e56
      exact gx Q hQ R hR
theorem stampedAt_sim (S : Sim n K Y X) (hc : c < 4) (v : Int32) : Sim n K (uI Y 103 c v) (xA X 70 c v) := by
  refine sim_cli S hc (CgY.rf.wI (by omega) v) (CgX.rf.wA (by omega) v) ?_
  obtain ⟨a1, a2, a3, a4, a5, a6, a7, a8, a9, a10, a11, f, hf, hf2, hf3⟩ := S.cl hc
  refine ⟨a1, a2, ?_, a4, a5, a6, a7, a8, a9, a10, a11, f, hf, hf2, hf3⟩
  show yI (uI Y 103 c v) 103 c = (xA X 70 c v).2 70 c
  rw [yII, xAA, if_pos ⟨rfl, rfl⟩, if_pos ⟨rfl, rfl⟩]
theorem stamp_sim (S : Sim n K Y X) (hK : K + 1 < 1073741824) (hc : c < 4) (ho : X.2 66 c = 1) :
    ∃ Y2 X2, (∀ Q : Yc → Prop, Q Y2 → wy_X11_stamp n c Y Q) ∧ (∀ Q : Xc → Prop, Q X2 → wx_X12_stamp (nI c) X Q) ∧ Sim n (K + 1) Y2 X2 ∧ Up X X2 := by
  have hn := S.sc.n7
  have S1 := stampedAt_sim S hc (X.1 4)
  have hcc : (nI c).toNatClampNeg = c := nI_clamp (by omega)
  have hv : vp_in (nI c) 4 := vp_in_nI hc (by omega)
  rcases S.sc.up01 with hu | hu
  · refine ⟨_, _, fun Q hQ => ?_, fun Q hQ => ?_, S1.mono (Nat.le_succ K) hK, Up.rf⟩
    · unfold wy_X11_stamp
      intro x3 e3 x7 e7
      rw [S.sc.tim] at e3
      subst e3
      have e7 : x7 = 0 := by rw [e7]; exact S.sc.up.trans hu
      subst e7
      exact ⟨fun h => absurd rfl h, fun _ => hQ⟩
    · unfold wx_X12_stamp
      intro x2 e2
      subst e2
      refine ⟨hv, fun x4 e4 => ?_⟩
      have e4 : x4 = 0 := e4.trans hu
      subst e4
      rw [hcc]
      exact ⟨fun h => absurd rfl h, fun _ => hQ⟩
  · have S2 : Sim n (K + 1) (uI (uI Y 103 c (X.1 4)) 1107 0 (X.1 18 + 1)) (xS (xA X 70 c (X.1 4)) 18 (X.1 18 + 1)) := by
      have S1 := S1.mono (Nat.le_succ K) hK
      refine sim_sc S1 (fun k o h _ => ?_) rfl rfl rfl rfl rfl rfl (fun k _ _ _ _ h => ?_) rfl ?_
      · rw [yII, if_neg (by omega)]
      · rw [xSS, if_neg (by omega)]
      · obtain ⟨a1, a2, a3, a4, a5, a6, a7, a8, a9, a10, a11, a12, a13, a14, a15, a16, a17, a18, a19, a20, a21⟩ := S1.sc
        refine ⟨a1, a2, a3, a4, a5, a6, a7, a8, a9, a10, a11, a12, a13, ?_, a15, a16, a17, a18, ?_, a20, a21⟩
        · rw [yII, xSS, if_pos ⟨rfl, rfl⟩, if_pos rfl]
        · rw [xSS, if_pos rfl]
          obtain ⟨k, hk, e⟩ := S.sc.stmK
          exact ⟨k + 1, by omega, by rw [e, nI_1]⟩
    obtain ⟨Y2, X2, gy, gx, s2, f2⟩ := stampLoop_sim hc n 0 _ _ (by omega) S2 (by exact ho)
    refine ⟨Y2, X2, fun Q hQ => ?_, fun Q hQ => ?_, s2, Up.trans (Up.ks (X := X) (X2 := xS (xA X 70 c (X.1 4)) 18 (X.1 18 + 1)) rfl rfl) f2.up⟩
    · unfold wy_X11_stamp
      intro x3 e3 x7 e7
      rw [S.sc.tim] at e3
      subst e3
      have e7 : x7 = 1 := by rw [e7]; exact S.sc.up.trans hu
      subst e7
      refine ⟨fun _ x10 e10 x12 e12 => ?_, fun h => absurd h (by decide)⟩
      have e10 : x10 = X.1 18 := e10.trans S.sc.stm
      subst e10; subst e12
      exact gy Q hQ
    · unfold wx_X12_stamp
      intro x2 e2
      subst e2
      refine ⟨hv, fun x4 e4 => ?_⟩
      have e4 : x4 = 1 := e4.trans hu
      subst e4
      rw [hcc]
      refine ⟨fun _ x7 e7 x9 e9 => ?_, fun h => absurd h (by decide)⟩
      have e7 : x7 = X.1 18 := e7
      subst e7; subst e9
      exact gx Q hQ
end
