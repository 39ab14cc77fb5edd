section
variable {n K : Nat} {Y Y2 : Yc} {X X2 : Xc}
theorem y_isReplica {r : Nat} (hr : r < n) (hn : n ≤ 7) (Q : Int32 → Yc → Prop) (hQ : Q 1 Y) : wy_X11_isReplica n (nI r) Y Q := by
  unfold wy_X11_isReplica
  exact ⟨fun q => absurd ((nI_lti (a := r) (b := 0) (by omega) (by omega)).mp q) (by omega), fun _ => ⟨fun q => absurd q (nI_ge hr (by omega)), fun _ => hQ⟩⟩
theorem lost_sim (S : Sim n K Y X) : Sim n K (uI Y 407 0 (X.1 8 + 1)) (xS X 8 (X.1 8 + 1)) := by
  refine sim_sc S (fun k o h h2 => ?_) rfl rfl rfl rfl rfl rfl (fun k _ _ _ h _ => ?_) rfl ?_
  · rw [yII, if_neg (by omega)]
  · rw [xSS, if_neg (by omega)]
  · obtain ⟨a1, a2, a3, a4, a5, a6, a7, a8, a9, a10, a11, a12, a13, a14, a15, a16, a17, a18, a19, a20, a21⟩ := S.sc
    exact ⟨a1, a2, a3, a4, a5, a6, a7, a8, a9, a10, rfl, a12, a13, a14, a15, a16, a17, a18, a19, a20, a21⟩
theorem hand_sim (S : Sim n K Y X) (hK : K + 1 < 1073741824) {k : Nat} (hk : k < ln (X.1 6)) :
    ∃ Y2 X2, (∀ Q : Yc → Prop, Q Y2 → wy_X11_handOver n (nI k) Y Q) ∧ (∀ Q : Xc → Prop, Q X2 → wx_X12_hand (nI k) X Q) ∧ Sim n (K + 1) Y2 X2 ∧ ln (X.1 6) ≤ ln (X2.1 6) + 1 ∧ X2.1 0 = X.1 0 := by
  have hn := S.sc.n7
  obtain ⟨o, m, Y1, X1, ry, rx, S1, hm, eo, M, ec, e0⟩ := pull_sim S hk
  obtain ⟨X2, rx2, S2, H, e6⟩ := now_sim S1 hm eo M
  have ho : o < 256 := by
    obtain ⟨cnt, od, hc, hod, e5, x6, e4, hr, _⟩ := S1.ar
    rw [eo]
    exact hr _ (by omega)
  have hx : ∀ Q : Xc → Prop, hndx Q X2 → wx_X12_hand (nI k) X Q := fun Q h => by
    unfold wx_X12_hand
    exact rx _ (rx2 Q h)
  by_cases h11 : yI Y1 301 o = 11
  · obtain ⟨c, Y3, X3, hc, ec', b2, ry3, rx3, S3, u3⟩ := reply_hear S2 hK H h11
    refine ⟨Y3, X3, fun Q hQ => ?_, fun Q hQ => hx Q ?_, S3, by have := u3.1; rw [e6] at this; omega, by rw [u3.2, e6]; exact e0⟩
    · unfold wy_X11_handOver
      refine ry _ (fun x11 e11 => ?_)
      rw [h11] at e11
      subst e11
      exact ⟨fun q => absurd rfl q, fun _ => ry3 Q hQ⟩
    · have z : (16 : Int32) + nI c = nI (16 + c) := nI_add 16 c
      unfold hndx
      refine ⟨v640 (j := 2) (by omega), fun x6 e6 => ?_⟩
      have e6 : x6 = nI (16 + c) := e6.trans (b2.trans z)
      subst e6
      refine ⟨fun q => absurd ((nI_lti (a := 16 + c) (b := 16) (by omega) (by omega)).mp q) (by omega), fun _ => ⟨v640 (j := 2) (by omega), fun x28 e28 => ?_⟩⟩
      have e28 : x28 = nI (16 + c) := e28.trans (b2.trans z)
      subst e28
      have z2 : nI (16 + c) - (16 : Int32) = nI c := by
        show nI (16 + c) - nI 16 = _
        rw [nI_sub (by omega)]
        congr 1
        omega
      rw [z2]
      exact rx3 Q hQ
  · obtain ⟨t, ht, et⟩ : ∃ t, t < n ∧ yI Y1 303 o = nI t := by
      have m3 := H.2.2.1.2.2.1
      rw [if_neg h11] at m3
      exact m3
    have b2 : X2.2 15 2 = nI t := by
      obtain ⟨rest, en⟩ : ∃ rest, encM Y1 o = [yI Y1 301 o, if yI Y1 302 o = -1 then 255 else yI Y1 302 o, nI t] ++ rest := by
        unfold encM
        rw [if_neg h11, et]
        exact ⟨_, rfl⟩
      exact H.at en (j := 2) (by simp)
    have ctt : (nI t).toNatClampNeg = t := nI_clamp (by omega)
    have yg : ∀ Q : Yc → Prop, ((X2.2 20 t = 0 → wy_X8_hear n t o Y1 Q) ∧ (¬ X2.2 20 t = 0 → Q (uI Y1 407 0 (X2.1 8 + 1)))) → wy_X11_handOver n (nI k) Y Q := fun Q h => by
      unfold wy_X11_handOver
      refine ry _ (fun x11 e11 => ?_)
      subst e11
      refine ⟨fun _ x14 e14 => ?_, fun q => absurd q h11⟩
      rw [et] at e14
      subst e14
      refine y_isReplica ht hn _ ⟨fun q => absurd q (by decide), fun _ x25 e25 => ?_⟩
      rw [et] at e25
      subst e25
      refine ⟨vp_in_nI ht (by omega), fun x33 e33 => ?_⟩
      rw [ctt] at e33 ⊢
      rw [(S2.rp ht).dwn] at e33
      subst e33
      refine ⟨h.1, fun q x47 e47 x49 e49 => ?_⟩
      rw [S2.sc.lst] at e47
      subst e47; subst e49
      exact h.2 q
    have xg : ∀ Q : Xc → Prop, ((X2.2 20 t = 0 → wx_X12_replicaGets (nI t) X2 Q) ∧ (¬ X2.2 20 t = 0 → Q (xS X2 8 (X2.1 8 + 1)))) → wx_X12_hand (nI k) X Q := fun Q h => hx Q (by
      unfold hndx
      refine ⟨v640 (j := 2) (by omega), fun x6 e6 => ?_⟩
      have e6 : x6 = nI t := e6.trans b2
      subst e6
      refine ⟨fun _ => ⟨v640 (j := 2) (by omega), fun x11 e11 => ?_⟩, fun q => absurd ((nI_lti (a := t) (b := 16) (by omega) (by omega)).mpr (by omega)) q⟩
      have e11 : x11 = nI t := e11.trans b2
      subst e11
      refine ⟨vp_in_nI (by omega) (by omega), fun x13 e13 => ?_⟩
      rw [ctt] at e13
      subst e13
      refine ⟨fun q => ⟨v640 (j := 2) (by omega), fun x17 e17 => ?_⟩, fun q x23 e23 x25 e25 => ?_⟩
      · have e17 : x17 = nI t := e17.trans b2
        subst e17
        exact h.1 q
      · subst e23; subst e25
        exact h.2 q)
    by_cases hd : X2.2 20 t = 0
    · obtain ⟨Y3, X3, ry3, rx3, S3, u3⟩ := hear_sim S2 ht H h11 ho et
      exact ⟨Y3, X3, fun Q hQ => yg Q ⟨fun _ => ry3 Q hQ, fun q => absurd hd q⟩, fun Q hQ => xg Q ⟨fun _ => rx3 Q hQ, fun q => absurd hd q⟩, S3.mono (Nat.le_succ K) hK, by have := u3.1; rw [e6] at this; omega, by rw [u3.2, e6]; exact e0⟩
    · exact ⟨_, _, fun Q hQ => yg Q ⟨fun q => absurd q hd, fun _ => hQ⟩, fun Q hQ => xg Q ⟨fun q => absurd q hd, fun _ => hQ⟩, (lost_sim S2).mono (Nat.le_succ K) hK, by
        show ln (X.1 6) ≤ ln (X2.1 6) + 1
        rw [e6]
        omega, by
        show X2.1 0 = _
        rw [e6]; exact e0⟩
end
