/-! untake: what is read of the tape -/
section
variable {n K : Nat} {Y Y2 Y0 : Yc} {X X2 X0 : Xc} {o r : Nat} {l : List Int32} {c : Nat} {kv : Option Int32}
def FY (Y0 Y : Yc) : Prop := (∀ k j, ¬ (702 ≤ k ∧ k ≤ 705) → yI Y k j = yI Y0 k j) ∧ yJ Y = yJ Y0 ∧ (∀ k j i, k ≠ 701 → yA Y k j i = yA Y0 k j i) ∧ yB Y = yB Y0 ∧ yP Y = yP Y0 ∧ yS Y = yS Y0 ∧ yR Y = yR Y0
def FX (X0 X : Xc) : Prop := (∀ k, ¬ (93 ≤ k ∧ k ≤ 96) → X.1 k = X0.1 k) ∧ ∀ k i, k ≠ 92 → X.2 k i = X0.2 k i
theorem FY.rf : FY Y Y := ⟨fun _ _ _ => rfl, rfl, fun _ _ _ _ => rfl, rfl, rfl, rfl, rfl⟩
theorem FX.rf : FX X X := ⟨fun _ _ => rfl, fun _ _ _ => rfl⟩
theorem FY.wI (h : FY Y0 Y) {k : Nat} (hk : 702 ≤ k ∧ k ≤ 705) (v : Int32) : FY Y0 (uI Y k 0 v) := ⟨fun k' j a => by rw [yII, if_neg (fun q => a (by omega))]; exact h.1 k' j a, h.2⟩
theorem FY.wA (h : FY Y0 Y) (i : Nat) (v : Int32) : FY Y0 (uA Y 701 0 i v) := ⟨h.1, h.2.1, fun k j i' a => by rw [yAA, if_neg (fun q => a q.1)]; exact h.2.2.1 k j i' a, h.2.2.2⟩
theorem FX.wS (h : FX X0 X) {k : Nat} (hk : 93 ≤ k ∧ k ≤ 96) (v : Int32) : FX X0 (xS X k v) := ⟨fun k' a => by rw [xSS, if_neg (fun q => a (by omega))]; exact h.1 k' a, h.2⟩
theorem FX.wA (h : FX X0 X) (i : Nat) (v : Int32) : FX X0 (xA X 92 i v) := ⟨h.1, fun k j a => by rw [xAA, if_neg (fun q => a q.1)]; exact h.2 k j a⟩
def Tp (l : List Int32) (Y0 : Yc) (X0 : Xc) : Prop := YW 1 Y0 l ∧ XW 90 91 X0 l ∧ l.length ≤ 1500
/-- where the reading is -/
def Rd (l : List Int32) (Y0 : Yc) (X0 : Xc) (kv : Option Int32) (c : Nat) (Y : Yc) (X : Xc) : Prop :=
  FY Y0 Y ∧ FX X0 X ∧ ∃ pos f, pos ≤ l.length ∧ f ≤ 6 ∧ yI Y 705 0 = nI pos ∧ X.1 94 = nI pos ∧ yI Y 703 0 = nI f ∧ X.1 95 = nI f ∧ yI Y 704 0 = X.1 96 ∧
    (f = 0 → ∃ cnt, cnt ≤ c ∧ yI Y 702 0 = nI cnt ∧ X.1 93 = nI cnt ∧ (∀ i, i < cnt → yA Y 701 0 i = X.2 92 i) ∧ ∀ v, kv = some v → 1 ≤ cnt ∧ X.2 92 0 = v)
theorem Rd.up {c2 : Nat} (h : Rd l Y0 X0 kv c Y X) (hc : c ≤ c2) : Rd l Y0 X0 kv c2 Y X := by
  obtain ⟨h1, h2, pos, f, h3, h4, h5, h6, h7, h8, h9, h10⟩ := h
  refine ⟨h1, h2, pos, f, h3, h4, h5, h6, h7, h8, h9, fun q => ?_⟩
  obtain ⟨cnt, g1, g2⟩ := h10 q
  exact ⟨cnt, by omega, g2⟩
theorem f0 {f : Nat} (hf : f ≤ 6) : nI f = 0 ↔ f = 0 := nI_eq (a := f) (b := 0) (by omega) (by omega)
theorem fle {f : Nat} (hf : f ≤ 6) : nI f ≤ 0 ↔ f = 0 := by
  have := nI_lei (a := f) (b := 0) (by omega) (by omega)
  refine Iff.trans this (by omega)
/-- the fault of a state -/
theorem Rd.flt (h : Rd l Y0 X0 kv c Y X) : (yI Y 703 0 = 0 ∧ X.1 95 = 0) ∨ (¬ yI Y 703 0 = 0 ∧ ¬ X.1 95 = 0 ∧ ¬ X.1 95 ≤ 0) := by
  obtain ⟨h1, h2, pos, f, h3, h4, h5, h6, h7, h8, h9, h10⟩ := h
  by_cases hf : f = 0
  · subst hf
    exact Or.inl ⟨h7, h8⟩
  · refine Or.inr ⟨?_, ?_, ?_⟩
    · rw [h7, f0 h4]; exact hf
    · rw [h8, f0 h4]; exact hf
    · rw [h8, fle h4]; exact hf
theorem spoil_sim (R : Rd l Y0 X0 kv c Y X) {k : Nat} (hk : 1 ≤ k ∧ k ≤ 6) (p : Int32) : ∃ Y2 X2, Rd l Y0 X0 kv c Y2 X2 ∧ ¬ yI Y2 703 0 = 0 ∧ (∀ Q : Yc → Prop, Q Y2 → wy_X7_spoil n (nI k) p Y Q) ∧ (∀ Q : Xc → Prop, Q X2 → wx_X12_wrongs (nI k) p X Q) ∧ yI Y2 705 0 = yI Y 705 0 := by
  have R0 := R
  obtain ⟨h1, h2, pos, f, h3, h4, h5, h6, h7, h8, h9, h10⟩ := R
  by_cases hf : f = 0
  · subst hf
    refine ⟨uI (uI Y 703 0 (nI k)) 704 0 p, xS (xS X 95 (nI k)) 96 p, ⟨(h1.wI (by omega) _).wI (by omega) _, (h2.wS (by omega) _).wS (by omega) _, pos, k, h3, by omega, h5, h6, rfl, rfl, rfl, fun q => by omega⟩, ?_, fun Q hQ x1 e1 => ?_, fun Q hQ x1 e1 => ?_, rfl⟩
    · show ¬ nI k = 0
      rw [f0 (by omega)]
      omega
    · rw [h7] at e1
      subst e1
      exact ⟨fun q => absurd rfl q, fun _ => hQ⟩
    · rw [h8] at e1
      subst e1
      exact ⟨fun _ => hQ, fun q => absurd (by decide) q⟩
  · have n1 : ¬ yI Y 703 0 = 0 := by rw [h7, f0 h4]; exact hf
    refine ⟨Y, X, R0, n1, fun Q hQ x1 e1 => ?_, fun Q hQ x1 e1 => ?_, rfl⟩
    · subst e1
      exact ⟨fun _ => hQ, fun q => absurd q n1⟩
    · rw [h8] at e1
      subst e1
      exact ⟨fun q => absurd ((fle h4).mp q) hf, fun _ => hQ⟩
theorem rtell_sim (R : Rd l Y0 X0 kv c Y X) (hc : c + 1 ≤ 609) (p : Int32) : ∃ Y2 X2, Rd l Y0 X0 kv (c + 1) Y2 X2 ∧ (∀ Q : Yc → Prop, Q Y2 → wy_X7_tell n p Y Q) ∧ (∀ Q : Xc → Prop, Q X2 → wx_X12_keep p X Q) ∧ yI Y2 705 0 = yI Y 705 0 ∧ yI Y2 703 0 = yI Y 703 0 ∧ (c = 0 → Rd l Y0 X0 (some p) 1 Y2 X2) := by
  have R0 := R
  obtain ⟨h1, h2, pos, f, h3, h4, h5, h6, h7, h8, h9, h10⟩ := R
  by_cases hf : f = 0
  · subst hf
    obtain ⟨cnt, g1, g2, g3, g4, g5⟩ := h10 rfl
    have hcc : (nI cnt).toNatClampNeg = cnt := nI_clamp (by omega)
    have cp : ∀ i, i < cnt + 1 → yA (uI (uA Y 701 0 cnt p) 702 0 (nI (cnt + 1))) 701 0 i = (xS (xA X 92 cnt p) 93 (nI (cnt + 1))).2 92 i := fun i hi => by
      rw [yAI, yAA, xAS, xAA]
      by_cases e : i = cnt
      · rw [if_pos ⟨rfl, rfl, e⟩, if_pos ⟨rfl, e⟩]
      · rw [if_neg (fun q => e q.2.2), if_neg (fun q => e q.2)]
        exact g4 i (by omega)
    have mk : ∀ (kv2 : Option Int32) (c2 : Nat), cnt + 1 ≤ c2 → (∀ v, kv2 = some v → (xA X 92 cnt p).2 92 0 = v) → Rd l Y0 X0 kv2 c2 (uI (uA Y 701 0 cnt p) 702 0 (nI (cnt + 1))) (xS (xA X 92 cnt p) 93 (nI (cnt + 1))) := fun kv2 c2 hc2 hk =>
      ⟨(h1.wA _ _).wI (by omega) _, (h2.wA _ _).wS (by omega) _, pos, 0, h3, by omega, h5, h6, h7, h8, h9, fun _ => ⟨cnt + 1, hc2, rfl, rfl, cp, fun v hv => ⟨by omega, hk v hv⟩⟩⟩
    refine ⟨uI (uA Y 701 0 cnt p) 702 0 (nI (cnt + 1)), xS (xA X 92 cnt p) 93 (nI (cnt + 1)), mk kv (c + 1) (by omega) (fun v hv => ?_), fun Q hQ x1 e1 => ?_, fun Q hQ x1 e1 => ?_, rfl, rfl, fun hc0 => mk (some p) 1 (by omega) (fun v hv => ?_)⟩
    · have := g5 v hv
      rw [xAA, if_neg (by omega)]
      exact this.2
    · rw [h7] at e1
      subst e1
      refine ⟨fun q => absurd rfl q, fun _ x4 e4 => ?_⟩
      rw [g2] at e4
      subst e4
      refine ⟨fun q => absurd ((nI_lti (a := cnt) (b := 0) (by omega) (by omega)).mp q) (by omega), fun _ x7 e7 => ?_⟩
      rw [g2] at e7
      subst e7
      refine ⟨fun q => absurd q (nI_ge (by omega) (by omega)), fun _ x13 e13 => ?_⟩
      rw [g2] at e13
      subst e13
      rw [hcc]
      refine ⟨vp_in_nI (by omega) (by omega), fun x16 e16 x18 e18 => ?_⟩
      have e16 : x16 = nI cnt := e16.trans g2
      subst e16
      rw [nI_1] at e18
      subst e18
      exact hQ
    · rw [h8] at e1
      subst e1
      refine ⟨fun _ x5 e5 => ?_, fun q => absurd (by decide) q⟩
      rw [g3] at e5
      subst e5
      rw [hcc]
      refine ⟨vp_in_nI (by omega) (by omega), fun x7 e7 x9 e9 => ?_⟩
      have e7 : x7 = nI cnt := e7.trans g3
      subst e7
      rw [nI_1] at e9
      subst e9
      exact hQ
    · have hv : p = v := Option.some.inj hv
      rw [xAA, if_pos ⟨rfl, by omega⟩]
      exact hv
  · have n1 : ¬ yI Y 703 0 = 0 := by rw [h7, f0 h4]; exact hf
    refine ⟨Y, X, R0.up (by omega), fun Q hQ x1 e1 => ?_, fun Q hQ x1 e1 => ?_, rfl, rfl, fun _ => ⟨h1, h2, pos, f, h3, h4, h5, h6, h7, h8, h9, fun q => absurd q hf⟩⟩
    · subst e1
      exact ⟨fun _ => hQ, fun q => absurd q n1⟩
    · rw [h8] at e1
      subst e1
      exact ⟨fun q => absurd ((fle h4).mp q) hf, fun _ => hQ⟩
theorem at_tape (T : Tp l Y0 X0) (hY : FY Y0 Y) {pos : Nat} (hp : pos < l.length) : ∃ b, b < 256 ∧ l.getD pos 0 = nI b ∧ ∀ Q : Int32 → Yc → Prop, Q (nI b) Y → wy_X0_at n 1 (nI pos) Y Q := by
  obtain ⟨hw, hv, hl⟩ := T
  have hb : bl 1 = 1500 := rfl
  have hc : (nI pos).toNatClampNeg = pos := nI_clamp (by omega)
  have e := hw.2 pos hp
  obtain ⟨b, hb2, eb⟩ := and_byt (yA Y0 0 1 pos)
  refine ⟨b, hb2, by rw [← e, eb], fun Q hQ => ?_⟩
  unfold wy_X0_at
  refine ⟨fun q => absurd ((nI_lti (a := pos) (b := 0) (by omega) (by omega)).mp q) (by omega), fun _ x2 e2 => ?_⟩
  rw [hY.1 1 1 (by omega), hw.1] at e2
  subst e2
  rw [hc]
  refine ⟨fun q => absurd q (nI_ge (by omega) (by omega)), fun _ => ⟨fun q => absurd q (nI_ge (by omega) (by omega)), fun _ => ⟨vp_in_nI (by omega) (by omega), fun x9 e9 => ?_⟩⟩⟩
  rw [hY.2.2.1 0 1 pos (by omega)] at e9
  subst e9
  rw [eb]
  exact hQ
theorem rnext_sim (T : Tp l Y0 X0) (R : Rd l Y0 X0 kv c Y X) : ∃ b Y2 X2, b < 256 ∧ Rd l Y0 X0 kv c Y2 X2 ∧ (∀ Q : Int32 → Yc → Prop, Q (nI b) Y2 → wy_X7_nextByte n Y Q) ∧ (∀ Q : Int32 → Xc → Prop, Q (nI b) X2 → wx_X12_next X Q) ∧
    (b = 0 ∨ (yI Y2 703 0 = 0 ∧ ∃ pos, pos < 1500 ∧ X.1 94 = nI pos ∧ yI Y2 705 0 = nI (pos + 1))) ∧ (¬ yI Y2 703 0 = 0 → b = 0) ∧ (¬ yI Y 703 0 = 0 → Y2 = Y ∧ X2 = X) := by
  have R0 := R
  obtain ⟨h1, h2, pos, f, h3, h4, h5, h6, h7, h8, h9, h10⟩ := R
  obtain ⟨hw, hv, hl⟩ := T
  by_cases hf : f = 0
  · subst hf
    by_cases hp : pos < l.length
    · obtain ⟨b, hb, eb, ry⟩ := at_tape (n := n) ⟨hw, hv, hl⟩ h1 hp
      have hc : (nI pos).toNatClampNeg = pos := nI_clamp (by omega)
      refine ⟨b, uI Y 705 0 (nI (pos + 1)), xS X 94 (nI (pos + 1)), hb, ⟨h1.wI (by omega) _, h2.wS (by omega) _, pos + 1, 0, by omega, by omega, rfl, rfl, h7, h8, h9, h10⟩, fun Q hQ x1 e1 => ?_, fun Q hQ x1 e1 => ?_, Or.inr ⟨h7, pos, by omega, h6, rfl⟩, fun q => absurd h7 q, fun q => absurd h7 q⟩
      · rw [h7] at e1
        subst e1
        refine ⟨fun _ x5 e5 => ?_, fun q => absurd rfl q⟩
        rw [h5] at e5
        subst e5
        refine ry _ ⟨fun _ x16 e16 x18 e18 => ?_, fun q => ?_⟩
        · rw [h5] at e16
          subst e16
          rw [nI_1] at e18
          subst e18
          exact hQ
        · exfalso
          have := congrArg Int32.toInt q
          rw [nI_toInt (by omega)] at this
          have h2 : (-1 : Int32).toInt = -1 := by decide
          omega
      · rw [h8] at e1
        subst e1
        refine ⟨fun _ x4 e4 x6 e6 => ?_, fun q => absurd (by decide) q⟩
        rw [h6] at e4
        rw [h2.1 91 (by omega), hv.1] at e6
        subst e4; subst e6
        refine ⟨fun _ x9 e9 x11 e11 x14 e14 x16 e16 => ?_, fun q => absurd ((nI_eq (by omega) (by omega)).mp q) (by omega)⟩
        rw [h6] at e9
        subst e9
        rw [nI_1] at e11
        subst e11
        have e14 : x14 = nI (pos + 1) := e14
        subst e14
        have e16 : x16 = nI pos := e16.trans (nI_sub (a := pos + 1) (b := 1) (by omega))
        subst e16
        rw [hc]
        refine ⟨vp_in_nI (by omega) (by omega), fun x18 e18 => ?_⟩
        have e18 : x18 = nI b := by
          rw [e18]
          show X.2 90 pos = _
          rw [h2.2 90 pos (by omega), hv.2 pos hp, eb]
        subst e18
        exact hQ
    · have hp : pos = l.length := by omega
      subst hp
      have ty : yI Y 1 1 = nI l.length := (h1.1 1 1 (by omega)).trans hw.1
      have tx : X.1 91 = nI l.length := (h2.1 91 (by omega)).trans hv.1
      obtain ⟨Y2, X2, R2, n2, ry, rx, _⟩ := spoil_sim (n := n) R0 (k := 1) (by omega) (nI l.length)
      refine ⟨0, Y2, X2, by omega, R2, fun Q hQ x1 e1 => ?_, fun Q hQ x1 e1 => ?_, Or.inl rfl, fun _ => rfl, fun q => absurd h7 q⟩
      · rw [h7] at e1
        subst e1
        refine ⟨fun _ x5 e5 => ?_, fun q => absurd rfl q⟩
        rw [h5] at e5
        subst e5
        unfold wy_X0_at
        refine ⟨fun q => absurd ((nI_lti (a := l.length) (b := 0) (by omega) (by omega)).mp q) (by omega), fun _ x2 e2 => ?_⟩
        rw [ty] at e2
        subst e2
        refine ⟨fun _ => ⟨fun q => absurd rfl q, fun _ x23 e23 => ?_⟩, fun q => absurd (nI_le (Nat.le_refl _) (by omega)) q⟩
        rw [ty] at e23
        subst e23
        exact ry _ hQ
      · rw [h8] at e1
        subst e1
        refine ⟨fun _ x4 e4 x6 e6 => ?_, fun q => absurd (by decide) q⟩
        rw [h6] at e4
        rw [tx] at e6
        subst e4; subst e6
        refine ⟨fun q => absurd rfl q, fun _ x20 e20 => ?_⟩
        rw [tx] at e20
        subst e20
        exact rx _ hQ
  · have n1 : ¬ yI Y 703 0 = 0 := by rw [h7, f0 h4]; exact hf
    refine ⟨0, Y, X, by omega, R0, fun Q hQ x1 e1 => ?_, fun Q hQ x1 e1 => ?_, Or.inl rfl, fun _ => rfl, fun _ => ⟨rfl, rfl⟩⟩
    · subst e1
      exact ⟨fun q => absurd q n1, fun _ => hQ⟩
    · rw [h8] at e1
      subst e1
      exact ⟨fun q => absurd ((fle h4).mp q) hf, fun _ => hQ⟩
end
