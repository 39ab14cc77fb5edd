/-! take -/
section
variable {n K : Nat} {Y Y2 Y0 : Yc} {X X2 X0 : Xc} {o : Nat}
theorem take_getD {l : List Int32} {m i : Nat} (h : i < m) : (l.take m).getD i 0 = l.getD i 0 := by
  rw [List.getD_eq_getElem?_getD, List.getD_eq_getElem?_getD, List.getElem?_take_of_lt h]
theorem y_becomeT {l : List Int32} (hl : l.length ≤ 2560) (w : YW 0 Y l) : ∃ Y2, (∀ Q : Yc → Prop, Q Y2 → wy_X0_become n 1 0 Y Q) ∧ YW 1 Y2 (l.take 1500) ∧ OY 1 Y Y2 := by
  have hb0 : bl 0 = 2560 := rfl
  have hb1 : bl 1 = 1500 := rfl
  have key : ∀ d t Y', t + d = min l.length 1500 → OY 1 Y Y' → yI Y' 1 1 = nI (min l.length 1500) → (∀ i, i < t → yA Y' 0 1 i &&& 255 = l.getD i 0) → ∃ Y2, OY 1 Y Y2 ∧ yI Y2 1 1 = nI (min l.length 1500) ∧ (∀ i, i < min l.length 1500 → yA Y2 0 1 i &&& 255 = l.getD i 0) ∧ ∀ Q : Yc → Prop, Q Y2 → LFy (fy_X0_become_18 n 1 Q) (0, nI t) Y' := by
    intro d
    induction d with
    | zero =>
      intro t Y' ht g e h
      have ht : t = min l.length 1500 := by omega
      subst ht
      refine ⟨Y', g, e, h, fun Q hQ R hR => hR _ _ (fun x1 e1 => ?_)⟩
      rw [e] at e1
      subst e1
      exact ⟨fun _ => hQ, fun q => absurd (nI_le (Nat.le_refl _) (by omega)) q⟩
    | succ d ih =>
      intro t Y' ht g e h
      have hct : (nI t).toNatClampNeg = t := nI_clamp (by omega)
      have h0 : yA Y' 0 0 t = yA Y 0 0 t := g.2.2.1 0 0 t (by omega)
      obtain ⟨Y2, g2, e2, h2, r2⟩ := ih (t + 1) (uA Y' 0 1 t (vp_nar .byte (yA Y 0 0 t))) (by omega) (g.wA _ _) e (fun i hi => by
        rw [yAA]
        by_cases q : i = t
        · rw [if_pos ⟨rfl, rfl, q⟩, byte_and', q]
          exact w.2 t (by omega)
        · rw [if_neg (fun z => q z.2.2)]
          exact h i (by omega))
      refine ⟨Y2, g2, e2, h2, fun Q hQ R hR => hR _ _ (fun x1 e1 => ?_)⟩
      rw [e] at e1
      subst e1
      refine ⟨fun q => absurd q (nI_ge (by omega) (by omega)), fun _ => ⟨fun q => absurd q (nI_ge (a := t) (b := bl 0) (by omega) (by omega)), fun _ => ?_⟩⟩
      show vp_in (nI t) (bl 0) ∧ _
      rw [hct]
      refine ⟨vp_in_nI (by omega) (by omega), fun x10 e10 => ⟨vp_in_nI (by omega) (by omega), fun x14 e14 => ?_⟩⟩
      have e10 : x10 = yA Y 0 0 t := e10.trans h0
      have e14 : x14 = nI (t + 1) := e14.trans (nI_1 t)
      subst e10; subst e14
      exact r2 Q hQ R hR
  obtain ⟨Y2, g2, e2, h2, r2⟩ := key (min l.length 1500) 0 (uI Y 1 1 (nI (min l.length 1500))) (by omega) (OY.rf.wI _) (by rw [yII, if_pos ⟨rfl, rfl⟩]) (fun i hi => by omega)
  refine ⟨Y2, fun Q hQ => ?_, ⟨?_, fun i hi => ?_⟩, g2⟩
  · unfold wy_X0_become
    intro x2 e
    rw [w.1] at e
    subst e
    unfold wy_J9_min_7cf53
    refine ⟨fun q => ?_, fun q => ?_⟩
    · have q := (nI_lti (a := bl 1) (b := l.length) (by omega) (by omega)).mp q
      have z : min l.length 1500 = bl 1 := by omega
      rw [z] at r2
      exact r2 Q hQ
    · have q : ¬ bl 1 < l.length := fun z => q ((nI_lti (a := bl 1) (b := l.length) (by omega) (by omega)).mpr z)
      have z : min l.length 1500 = l.length := by omega
      rw [z] at r2
      exact r2 Q hQ
  · rw [e2, List.length_take, Nat.min_comm]
  · rw [List.length_take] at hi
    rw [take_getD (by omega)]
    exact h2 i (by omega)
theorem x_copy {l : List Int32} (hl : l.length ≤ 2560) (w : XW 88 89 X l) (p q : Int32) : ∃ X1 : Xc, XW 90 91 X1 (l.take 1500) ∧ OX 90 91 X X1 ∧ ∀ Q : Int32 → Xc → Prop,
    (∀ (R : Int32 × Int32 × Int32 → Xc → Prop), (∀ t X, fx_X12_take_31 Q R t X → R t X) → R (p, q, nI (min l.length 1500)) X1) → bx_X12_take_26 Q p q (nI (min l.length 1500)) X := by
  have key : ∀ d t X', t + d = min l.length 1500 → OX 90 91 X X' → X'.1 91 = nI (min l.length 1500) → (∀ i, i < t → X'.2 90 i = l.getD i 0) → ∃ X1, OX 90 91 X X1 ∧ X1.1 91 = nI (min l.length 1500) ∧ (∀ i, i < min l.length 1500 → X1.2 90 i = l.getD i 0) ∧ ∀ Q : Int32 → Xc → Prop,
      (∀ (R : Int32 × Int32 × Int32 → Xc → Prop), (∀ t X, fx_X12_take_31 Q R t X → R t X) → R (p, q, nI (min l.length 1500)) X1) → (∀ (R : Int32 × Int32 × Int32 → Xc → Prop), (∀ t X, fx_X12_take_31 Q R t X → R t X) → R (p, q, nI t) X') := by
    intro d
    induction d with
    | zero =>
      intro t X' ht g e h
      have ht : t = min l.length 1500 := by omega
      subst ht
      exact ⟨X', g, e, h, fun Q hQ => hQ⟩
    | succ d ih =>
      intro t X' ht g e h
      have hct : (nI t).toNatClampNeg = t := nI_clamp (by omega)
      have h0 : X'.2 88 t = l.getD t 0 := (g.2 88 t (by omega)).trans (w.2 t (by omega))
      obtain ⟨X1, g2, e2, h2, r2⟩ := ih (t + 1) (xA X' 90 t (l.getD t 0)) (by omega) (g.wA _ _) e (fun i hi => by
        rw [xAA]
        by_cases q : i = t
        · rw [if_pos ⟨rfl, q⟩, q]
        · rw [if_neg (fun z => q z.2)]
          exact h i (by omega))
      refine ⟨X1, g2, e2, h2, fun Q hQ R hR => hR _ _ (fun x1 e1 => ?_)⟩
      rw [e] at e1
      subst e1
      refine ⟨fun q => absurd q (nI_ge (by omega) (by omega)), fun _ => ?_⟩
      show vp_in (nI t) 2560 ∧ _
      rw [hct]
      refine ⟨vp_in_nI (by omega) (by omega), fun x30 e30 => ⟨vp_in_nI (by omega) (by omega), fun x32 e32 => ?_⟩⟩
      have e30 : x30 = l.getD t 0 := e30.trans h0
      have e32 : x32 = nI (t + 1) := e32.trans (nI_1 t)
      subst e30; subst e32
      exact r2 Q hQ R hR
  obtain ⟨X1, g2, e2, h2, r2⟩ := key (min l.length 1500) 0 (xS X 91 (nI (min l.length 1500))) (by omega) (OX.rf.wS _) rfl (fun i hi => by omega)
  refine ⟨X1, ⟨?_, fun i hi => ?_⟩, g2, fun Q hQ => r2 Q hQ⟩
  · rw [e2, List.length_take, Nat.min_comm]
  · rw [List.length_take] at hi
    rw [take_getD (by omega)]
    exact h2 i (by omega)
theorem xor_and (x m : Int32) (hm : m &&& 255 = m) : ((x ^^^ m) &&& 255) = (x &&& 255) ^^^ m := by
  have h : (x ^^^ m) &&& 255 = (x &&& 255) ^^^ (m &&& 255) := by
    apply Int32.toBitVec_inj.1
    apply BitVec.eq_of_getLsbD_eq
    intro i hi
    simp [Bool.and_xor_distrib_right]
  rw [h, hm]
theorem x_inM (p : Int32) {M : Nat} (hM : M < 2 ^ 31) : (∃ k, k < M ∧ p = nI k ∧ ∀ (X : Xc) (Q : Int32 → Xc → Prop), Q 1 X → wx_X12_in p 0 (nI M - 1) X Q) ∨ ((p < 0 ∨ ∃ k, k < 2 ^ 31 ∧ M ≤ k ∧ p = nI k) ∧ ∀ (X : Xc) (Q : Int32 → Xc → Prop), Q 0 X → wx_X12_in p 0 (nI M - 1) X Q) := by
  rcases i32_cases p with h | ⟨k, hk, rfl⟩
  · exact Or.inr ⟨Or.inl h, fun X' Q hQ => x_inN h Q hQ⟩
  · by_cases hkc : k < M
    · refine Or.inl ⟨k, hkc, rfl, fun X' Q hQ => ?_⟩
      have z : nI M - (1 : Int32) = nI (M - 1) := nI_sub (a := M) (b := 1) (by omega)
      rw [z]
      refine x_in0 hk (by omega) _ ?_
      rw [if_pos (by omega)]
      exact hQ
    · refine Or.inr ⟨Or.inr ⟨k, hk, by omega, rfl⟩, fun X' Q hQ => ?_⟩
      by_cases hz : M = 0
      · subst hz
        have z : nI 0 - (1 : Int32) = -1 := by decide
        rw [z]
        unfold wx_X12_in
        exact ⟨fun _ => hQ, fun _ => ⟨fun _ => hQ, fun q => absurd (by
          rw [Int32.lt_iff_toInt_lt, nI_toInt hk]
          have : (-1 : Int32).toInt = -1 := by decide
          omega) q⟩⟩
      · have z : nI M - (1 : Int32) = nI (M - 1) := nI_sub (a := M) (b := 1) (by omega)
        rw [z]
        refine x_in0 hk (by omega) _ ?_
        rw [if_neg (by omega)]
        exact hQ
theorem bit7 {b : Nat} (hb : b ≤ 7) : ((1 : Int32) <<< (nI b &&& 31)) &&& 255 = (1 : Int32) <<< (nI b &&& 31) := by
  have h : b = 0 ∨ b = 1 ∨ b = 2 ∨ b = 3 ∨ b = 4 ∨ b = 5 ∨ b = 6 ∨ b = 7 := by omega
  rcases h with h | h | h | h | h | h | h | h <;> subst h <;> decide
theorem set_getD' (l : List Int32) (k : Nat) (v : Int32) (i : Nat) : (l.set k v).getD i 0 = if i = k ∧ k < l.length then v else l.getD i 0 := by
  rw [List.getD_eq_getElem?_getD, List.getElem?_set, List.getD_eq_getElem?_getD]
  by_cases e : k = i
  · subst e
    rw [if_pos rfl]
    by_cases h : k < l.length
    · rw [if_pos h, if_pos ⟨rfl, h⟩]
      rfl
    · rw [if_neg h, if_neg (fun q => h q.2), List.getElem?_eq_none (by omega)]
  · rw [if_neg e, if_neg (fun q => e q.1.symm)]
theorem take_call (S : Sim n K Y X) (p q : Int32) : OutP n K (wy_X11_take n p q Y) (wx_X12_take p q X) := by
  have S0 := sim_code S 0
  obtain ⟨l, hl, hw, hv⟩ := S0.pcs.2.2.2.1.ls (by decide)
  have hl : l.length ≤ 2560 := hl
  have hb1 : bl 1 = 1500 := rfl
  obtain ⟨Y1, ry, wy, gy⟩ := y_becomeT (n := n) hl hw
  obtain ⟨X1, wx, gx, rx⟩ := x_copy hl hv p q
  have hlt : (l.take 1500).length = min l.length 1500 := by rw [List.length_take, Nat.min_comm]
  have S1 := tape_sim S0 gy gx wy wx (by omega)
  have xg : ∀ Q : Int32 → Xc → Prop, (∀ (R : Int32 × Int32 × Int32 → Xc → Prop), (∀ t X, fx_X12_take_31 Q R t X → R t X) → R (p, q, nI (min l.length 1500)) X1) → wx_X12_take p q X Q := by
    intro Q hQ
    have hQ := rx Q hQ
    unfold wx_X12_take
    intro x1 e1
    rw [hv.1] at e1
    subst e1
    refine ⟨fun z => ?_, fun z x4 e4 => ?_⟩
    · have z := (nI_lei (a := 1500) (b := l.length) (by omega) (by omega)).mp z
      rw [show min l.length 1500 = 1500 by omega] at hQ
      exact hQ
    · have z : ¬ 1500 ≤ l.length := fun y => z ((nI_lei (a := 1500) (b := l.length) (by omega) (by omega)).mpr y)
      rw [hv.1] at e4
      subst e4
      rw [show min l.length 1500 = l.length by omega] at hQ
      exact hQ
  have x91 : X1.1 91 = nI (min l.length 1500) := by rw [wx.1, hlt]
  have y91 : yI Y1 1 1 = nI (min l.length 1500) := by rw [wy.1, hlt]
  -- the reference after the copy: three ways
  have xh : ∀ Q : Int32 → Xc → Prop, (wx_X12_in p 0 (nI (min l.length 1500) - 1) X1 (fun x6 X8 => (x6 = 0 → (∀ x11 : Int32, x11 = X8.1 91 → Q x11 X8)) ∧ (¬ x6 = 0 → (wx_X12_in q 0 7 X8 (fun x13 X15 => ((x13 = 0 → (∀ x18 : Int32, x18 = X15.1 91 → Q x18 X15)) ∧ (¬ x13 = 0 → (vp_in p 1500 ∧ (∀ x22 : Int32, x22 = X15.2 90 p.toNatClampNeg → (∀ x24 : Int32, x24 = x22 ^^^ ((1 : Int32) <<< (q &&& 31)) → (vp_in p 1500 ∧ (∀ x26 : Int32, x26 = (xA X15 90 p.toNatClampNeg x24).1 91 → Q x26 (xA X15 90 p.toNatClampNeg x24))))))))))))) → wx_X12_take p q X Q := by
    intro Q hQ
    refine xg Q (fun R hR => hR _ _ (fun x1 e1 => ?_))
    rw [x91] at e1
    subst e1
    refine ⟨fun _ x4 e4 => ?_, fun z => absurd (nI_le (Nat.le_refl _) (by omega)) z⟩
    rw [x91] at e4
    subst e4
    exact hQ
  have hm : min l.length 1500 ≤ 1500 := by omega
  have nY : (∀ Q : Yc → Prop, Q Y1 → (q < 0 ∨ (¬ q < 0 ∧ ((7 : Int32) < q ∨ (¬ (7 : Int32) < q ∧ wy_X0_turnBit n 1 p q Y1 Q))))) → (∀ Q : Int32 → Xc → Prop, Q (nI (min l.length 1500)) X1 → wx_X12_take p q X Q) → OutP n K (wy_X11_take n p q Y) (wx_X12_take p q X) := by
    intro hy hx
    refine ⟨nI (min l.length 1500), Y1, X1, fun Q hQ => ry _ ⟨fun _ x14 e14 => ?_, fun z1 => ⟨fun _ x19 e19 => ?_, fun z2 => ?_⟩⟩, hx, S1⟩
    · rw [y91] at e14
      subst e14
      exact hQ
    · rw [y91] at e19
      subst e19
      exact hQ
    · have := hy (fun Y24 => ∀ x32 : Int32, x32 = yI Y24 1 1 → Q x32 Y24) (fun x e => by
        rw [y91] at e
        subst e
        exact hQ)
      rcases this with h | ⟨_, h | ⟨_, h⟩⟩
      · exact absurd h z1
      · exact absurd h z2
      · exact h
  rcases x_inM p (M := min l.length 1500) (by omega) with ⟨k, hk, rfl, hp⟩ | ⟨hpo, hp⟩
  · have hck : (nI k).toNatClampNeg = k := nI_clamp (by omega)
    have hk0 : ¬ nI k < 0 := fun q => absurd ((nI_lti (a := k) (b := 0) (by omega) (by omega)).mp q) (by omega)
    rcases i32_cases q with h | ⟨b, hb, rfl⟩
    · refine nY (fun Q hQ => Or.inl h) (fun Q hQ => xh Q (hp _ _ ⟨fun z => absurd z (by decide), fun _ => x_inN h _ ⟨fun _ x18 e18 => ?_, fun z => absurd rfl z⟩⟩))
      rw [x91] at e18
      subst e18
      exact hQ
    · have hb0 : ¬ nI b < 0 := fun q => absurd ((nI_lti (a := b) (b := 0) hb (by omega)).mp q) (by omega)
      by_cases hb7 : b ≤ 7
      · have h7 : ¬ (7 : Int32) < nI b := fun z => absurd ((nI_lti (a := 7) (b := b) (by omega) hb).mp z) (by omega)
        have hkl : k < (l.take 1500).length := by omega
        have hyk := wy.2 k hkl
        have hxk := wx.2 k hkl
        have em : ((yA Y1 0 1 k ^^^ ((1 : Int32) <<< (nI b &&& 31))) &&& 255) = (l.take 1500).getD k 0 ^^^ ((1 : Int32) <<< (nI b &&& 31)) := by
          rw [xor_and _ _ (bit7 hb7), hyk]
        have w2 : YW 1 (uA Y1 0 1 k (vp_nar .byte (yA Y1 0 1 k ^^^ ((1 : Int32) <<< (nI b &&& 31))).toInt8.toInt32)) ((l.take 1500).set k ((l.take 1500).getD k 0 ^^^ ((1 : Int32) <<< (nI b &&& 31)))) := by
          refine ⟨by rw [List.length_set]; exact wy.1, fun i hi => ?_⟩
          rw [List.length_set] at hi
          rw [set_getD', yAA]
          by_cases e : i = k
          · rw [if_pos ⟨rfl, rfl, e⟩, if_pos ⟨e, hkl⟩, byte_and, em]
          · rw [if_neg (fun z => e z.2.2), if_neg (fun z => e z.1)]
            exact wy.2 i hi
        have v2 : XW 90 91 (xA X1 90 k ((l.take 1500).getD k 0 ^^^ ((1 : Int32) <<< (nI b &&& 31)))) ((l.take 1500).set k ((l.take 1500).getD k 0 ^^^ ((1 : Int32) <<< (nI b &&& 31)))) := by
          refine ⟨by rw [List.length_set]; exact wx.1, fun i hi => ?_⟩
          rw [List.length_set] at hi
          rw [set_getD', xAA]
          by_cases e : i = k
          · rw [if_pos ⟨rfl, e⟩, if_pos ⟨e, hkl⟩]
          · rw [if_neg (fun z => e z.2), if_neg (fun z => e z.1)]
            exact wx.2 i hi
        refine ⟨nI (min l.length 1500), _, _, fun Q hQ => ry _ ⟨fun z => absurd z hb0, fun _ => ⟨fun z => absurd z h7, fun _ => ?_⟩⟩, fun Q hQ => xh Q (hp _ _ ⟨fun z => absurd z (by decide), fun _ => ?_⟩), tape_sim S1 (OY.rf.wA _ _) (OX.rf.wA _ _) w2 v2 (by rw [List.length_set]; omega)⟩
        · unfold wy_X0_turnBit
          rw [hck]
          refine ⟨fun z => absurd z hk0, fun _ x2 e2 => ?_⟩
          rw [y91] at e2
          subst e2
          refine ⟨fun z => absurd z (nI_ge hk (by omega)), fun _ => ⟨fun z => absurd z (nI_ge (a := k) (b := bl 1) (by omega) (by omega)), fun _ => ⟨vp_in_nI (by omega) (by omega), fun x10 e10 x12 e12 => ⟨vp_in_nI (by omega) (by omega), fun x32 e32 => ?_⟩⟩⟩⟩
          subst e10
          subst e12
          have e32 : x32 = nI (min l.length 1500) := e32.trans y91
          subst e32
          exact hQ
        · refine x_in0 hb (by omega) (b := 7) _ ?_
          rw [if_pos hb7, hck]
          refine ⟨fun z => absurd z (by decide), fun _ => ⟨vp_in_nI (by omega) (by omega), fun x22 e22 x24 e24 => ⟨vp_in_nI (by omega) (by omega), fun x26 e26 => ?_⟩⟩⟩
          rw [hxk] at e22
          subst e22
          subst e24
          have e26 : x26 = nI (min l.length 1500) := e26.trans x91
          subst e26
          exact hQ
      · have h7 : (7 : Int32) < nI b := (nI_lti (a := 7) (b := b) (by omega) hb).mpr (by omega)
        refine nY (fun Q hQ => Or.inr ⟨hb0, Or.inl h7⟩) (fun Q hQ => xh Q (hp _ _ ⟨fun z => absurd z (by decide), fun _ => x_in0 hb (by omega) (b := 7) _ ?_⟩))
        rw [if_neg hb7]
        refine ⟨fun _ x18 e18 => ?_, fun z => absurd rfl z⟩
        rw [x91] at e18
        subst e18
        exact hQ
  · refine nY (fun Q hQ => ?_) (fun Q hQ => xh Q (hp _ _ ⟨fun _ x18 e18 => ?_, fun z => absurd rfl z⟩))
    · by_cases h0 : q < 0
      · exact Or.inl h0
      · refine Or.inr ⟨h0, ?_⟩
        by_cases h7 : (7 : Int32) < q
        · exact Or.inl h7
        · refine Or.inr ⟨h7, ?_⟩
          unfold wy_X0_turnBit
          refine ⟨fun _ => hQ, fun z x2 e2 => ?_⟩
          rw [y91] at e2
          subst e2
          rcases hpo with hpo | ⟨k, hk, hkm, rfl⟩
          · exact absurd hpo z
          · exact ⟨fun _ => hQ, fun z2 => absurd (nI_le hkm hk) z2⟩
    · rw [x91] at e18
      subst e18
      exact hQ
end
