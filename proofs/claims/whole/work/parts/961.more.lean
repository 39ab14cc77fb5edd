section
variable {n K : Nat} {Y Y2 : Yc} {X X2 : Xc}
/-- how many are down -/
def dwn (X : Xc) : Nat → Int32
  | 0 => 0
  | t + 1 => dwn X t + (if X.2 20 t = 0 then 0 else 1)
theorem y_downs (S : Sim n K Y X) (Q : Int32 → Yc → Prop) (hQ : Q (dwn X n) Y) : wy_X11_downs n Y Q := by
  have hn := S.sc.n7
  unfold wy_X11_downs
  intro x5 e5
  subst e5
  intro R hR
  have key : ∀ d t, t + d = n → R (dwn X t, nI n, nI t) Y := by
    intro d
    induction d with
    | zero =>
      intro t ht
      have ht : t = n := by omega
      subst ht
      exact hR _ _ ⟨fun _ => hQ, fun h => absurd (nI_le (Nat.le_refl t) (by omega)) h⟩
    | succ d ih =>
      intro t ht
      have nxt := ih (t + 1) (by omega)
      have hct : (nI t).toNatClampNeg = t := nI_clamp (by omega)
      refine hR _ _ ⟨fun h => absurd h (nI_ge (by omega) (by omega)), fun _ => ⟨vp_in_nI (by omega) (by omega), fun x8 e8 => ?_⟩⟩
      have e8 : x8 = X.2 20 t := by rw [e8]; show yI Y 803 (nI t).toNatClampNeg = _; rw [hct]; exact (S.rp (show t < n by omega)).dwn
      subst e8
      have ed : dwn X (t + 1) = dwn X t + (if X.2 20 t = 0 then 0 else 1) := rfl
      rw [ed] at nxt
      refine ⟨fun q => ?_, fun q => ?_⟩
      · rw [if_pos q] at nxt
        unfold by_X11_downs_39
        intro x1 e1 x3 e3
        have e3 : x3 = nI (t + 1) := e3.trans (nI_1 t)
        subst e1; subst e3
        exact nxt
      · rw [if_neg q] at nxt
        unfold by_X11_downs_39
        intro x1 e1 x3 e3
        have e3 : x3 = nI (t + 1) := e3.trans (nI_1 t)
        subst e1; subst e3
        exact nxt
  exact key n 0 (by omega)
theorem x_downs (S : Sim n K Y X) (Q : Int32 → Xc → Prop) (hQ : Q (dwn X n) X) : wx_X12_downs X Q := by
  have hn := S.sc.n7
  unfold wx_X12_downs
  intro R hR
  have key : ∀ d t, t + d = n → R (dwn X t, nI t) X := by
    intro d
    induction d with
    | zero =>
      intro t ht
      have ht : t = n := by omega
      subst ht
      refine hR _ _ (fun x1 e1 => ?_)
      rw [S.sc.x1] at e1
      subst e1
      exact ⟨fun _ => hQ, fun h => absurd (nI_le (Nat.le_refl t) (by omega)) h⟩
    | succ d ih =>
      intro t ht
      have nxt := ih (t + 1) (by omega)
      have hct : (nI t).toNatClampNeg = t := nI_clamp (by omega)
      refine hR _ _ (fun x1 e1 => ?_)
      rw [S.sc.x1] at e1
      subst e1
      refine ⟨fun h => absurd h (nI_ge (by omega) (by omega)), fun _ => ⟨vp_in_nI (by omega) (by omega), fun x8 e8 => ?_⟩⟩
      have e8 : x8 = X.2 20 t := by rw [e8]; show X.2 20 (nI t).toNatClampNeg = _; rw [hct]
      subst e8
      have ed : dwn X (t + 1) = dwn X t + (if X.2 20 t = 0 then 0 else 1) := rfl
      rw [ed] at nxt
      refine ⟨fun q => ?_, fun q => ?_⟩
      · rw [if_pos q] at nxt
        unfold bx_X12_downs_27
        intro x1 e1 x3 e3
        have e3 : x3 = nI (t + 1) := e3.trans (nI_1 t)
        subst e1; subst e3
        exact nxt
      · rw [if_neg q] at nxt
        unfold bx_X12_downs_27
        intro x1 e1 x3 e3
        have e3 : x3 = nI (t + 1) := e3.trans (nI_1 t)
        subst e1; subst e3
        exact nxt
  exact key n 0 (by omega)
def yDn (Y : Yc) (r : Nat) : Yc := uI (uI (uI (uI (uI (uI Y 803 r 1) 502 r 0) 503 r 0) 504 r 0) 505 r 0) 506 r 0
def xDn (X : Xc) (r : Nat) : Xc := xA (xA (xA (xA (xA (xA X 20 r 1) 36 r 0) 43 r 0) 44 r 0) 45 r 0) 46 r 0
theorem down_sim (S : Sim n K Y X) {r : Nat} (hr : r < n) : Sim n K (yDn Y r) (xDn X r) := by
  have gY : RgY r Y (yDn Y r) := by
    unfold yDn
    exact (((((RgY.rf.wI (by omega) _).wI (by omega) _).wI (by omega) _).wI (by omega) _).wI (by omega) _).wI (by omega) _
  have gX : RgX r X (xDn X r) := by
    unfold xDn
    exact (((((RgX.rf.wA (by omega) _).wA (by omega) _).wA (by omega) _).wA (by omega) _).wA (by omega) _).wA (by omega) _
  have wk : ∀ k, k ≠ 20 → k ≠ 36 → ¬ (43 ≤ k ∧ k ≤ 46) → (xDn X r).2 k r = X.2 k r := fun k h1 h2 h3 => by
    unfold xDn
    rw [xAA, if_neg (by omega), xAA, if_neg (by omega), xAA, if_neg (by omega), xAA, if_neg (by omega), xAA, if_neg (by omega), xAA, if_neg (by omega)]
  have uk : ∀ k, k ≠ 803 → ¬ (502 ≤ k ∧ k ≤ 506) → yI (yDn Y r) k r = yI Y k r := fun k h1 h2 => by
    unfold yDn
    rw [yII, if_neg (by omega), yII, if_neg (by omega), yII, if_neg (by omega), yII, if_neg (by omega), yII, if_neg (by omega), yII, if_neg (by omega)]
  have x36 : (xDn X r).2 36 r = 0 := by unfold xDn; simp [xAA]
  have z0 : ln (0 : Int32) = 0 := nI_clamp (n := 0) (by omega)
  refine sim_rep S hr gY gX ⟨?_, ?_, ?_, ?_, ?_⟩
  · obtain ⟨a1, a2, a3, a4, a5, a6, a7, a8, a9, a10, a11, a12, a13, a14, a15, a16, a17, a18, a19⟩ := S.rp hr
    have x20 : (xDn X r).2 20 r = 1 := by unfold xDn; simp [xAA]
    unfold RpS
    rw [x20, wk 21 (by omega) (by omega) (by omega), wk 22 (by omega) (by omega) (by omega), wk 23 (by omega) (by omega) (by omega), wk 24 (by omega) (by omega) (by omega), wk 25 (by omega) (by omega) (by omega), wk 28 (by omega) (by omega) (by omega), wk 29 (by omega) (by omega) (by omega), wk 57 (by omega) (by omega) (by omega), wk 58 (by omega) (by omega) (by omega), wk 59 (by omega) (by omega) (by omega), wk 60 (by omega) (by omega) (by omega), wk 61 (by omega) (by omega) (by omega), uk 800 (by omega) (by omega), uk 804 (by omega) (by omega), uk 808 (by omega) (by omega), uk 809 (by omega) (by omega), uk 811 (by omega) (by omega), uk 812 (by omega) (by omega), uk 813 (by omega) (by omega), uk 814 (by omega) (by omega), uk 815 (by omega) (by omega)]
    refine ⟨a1, ?_, a3, a4, a5, a6, a7, a8, a9, a10, a11, a12, Or.inr rfl, a14, a15, a16, a17, a18, a19⟩
    unfold yDn
    simp [yII]
  · exact S.lg hr
  · refine ⟨?_, by rw [x36]; exact ⟨0, by omega, rfl⟩, fun i hi => ?_⟩
    · rw [x36]; unfold yDn; simp [yII]
    · rw [x36, z0] at hi
      omega
  · unfold CtS yDn xDn
    simp [yII, xAA]
    exact ⟨0, by omega, rfl⟩
  · intro q
    rw [wk 23 (by omega) (by omega) (by omega)] at q
    obtain ⟨c36, c43, c44, c45, c29, c506, c127, cbt, ctd⟩ := S.ch hr q
    have x46 : (xDn X r).2 46 r = 0 := by unfold xDn; simp [xAA]
    refine ⟨x36, by unfold xDn; simp [xAA], by unfold xDn; simp [xAA], by unfold xDn; simp [xAA], by rw [wk 29 (by omega) (by omega) (by omega)]; exact c29, by rw [x46]; unfold yDn; simp [yII], by rw [x46]; exact ⟨0, by omega, rfl⟩, by rw [x46]; exact bt_0 r, fun z _ hb => ?_⟩
    rw [x46] at hb
    exact absurd hb (bt_0 z)
theorem rep_arg (S : Sim n K Y X) {r : Nat} (hr : r < n) : (nI r).toNatClampNeg = r ∧ vp_in (nI r) 7 ∧ vp_in (nI r) n := by
  have hn := S.sc.n7
  exact ⟨nI_clamp (by omega), vp_in_nI (by omega) (by omega), vp_in_nI hr (by omega)⟩
theorem down_call (S : Sim n K Y X) (p : Int32) : OutU n K CdA Y (wy_X11_down n p Y) (wx_X12_down p X) := by
  have hn := S.sc.n7
  rcases repl S p with ⟨r, hr, rfl⟩ | ⟨hy, hx⟩
  · obtain ⟨hcr, hv7, hvn⟩ := rep_arg S hr
    have bad : ∀ Q : Xc → Prop, Q (xS X 0 2) → bx_X12_down_33 Q (nI r) X := fun Q hQ => by
      unfold bx_X12_down_33 bx_X12_down_38
      intro x1 e1
      rw [xz] at e1
      subst e1
      exact ⟨fun q => absurd q (by decide), fun _ => hQ⟩
    rcases (S.rp hr).dwn01 with h0 | h0
    · by_cases hd : dwn X n < nI (n / 2)
      · refine Or.inl ⟨_, xDn (xS X 0 0) r, fun Q E hQ => y_isReplica hr hn _ ⟨fun _ => ⟨hvn, fun x16 e16 => ?_⟩, fun q => absurd q (by decide)⟩, fun Q hQ => x_isReplica S hr _ ⟨fun _ => ⟨hv7, fun x7 e7 => ?_⟩, fun q => absurd q (by decide)⟩, rfl, down_sim (sim_code S 0) hr⟩
        · rw [hcr] at e16 ⊢
          rw [(S.rp hr).dwn, h0] at e16
          subst e16
          refine ⟨fun q => absurd rfl q, fun _ => y_downs S _ (fun x28 e28 => ?_)⟩
          rw [S.sc.y401] at e28
          subst e28
          refine ⟨fun _ => ⟨hvn, hvn, ?_⟩, fun q => absurd hd q⟩
          unfold wy_X5_clear
          exact hQ
        · rw [hcr, h0] at e7
          subst e7
          refine ⟨fun q => absurd rfl q, fun _ => x_downs S _ (fun x14 e14 => ?_)⟩
          rw [S.sc.x2] at e14
          subst e14
          refine ⟨fun _ => ?_, fun q => absurd hd q⟩
          unfold bx_X12_down_38 wx_X12_forgetCounts
          intro x1 e1
          rw [xz] at e1
          subst e1
          rw [hcr, nar1]
          exact ⟨fun _ => ⟨hv7, hv7, hv7, hv7, hv7, hv7, hQ⟩, fun q => absurd (by decide) q⟩
      · refine Or.inr ⟨2, xS X 0 2, fun Q E hE => y_isReplica hr hn _ ⟨fun _ => ⟨hvn, fun x16 e16 => ?_⟩, fun q => absurd q (by decide)⟩, fun Q hQ => x_isReplica S hr _ ⟨fun _ => ⟨hv7, fun x7 e7 => ?_⟩, fun q => absurd q (by decide)⟩, Or.inr ⟨rfl, rfl⟩, sim_code S 2⟩
        · rw [hcr] at e16 ⊢
          rw [(S.rp hr).dwn, h0] at e16
          subst e16
          refine ⟨fun q => absurd rfl q, fun _ => y_downs S _ (fun x28 e28 => ?_)⟩
          rw [S.sc.y401] at e28
          subst e28
          exact ⟨fun q => absurd q hd, fun _ => hE⟩
        · rw [hcr, h0] at e7
          subst e7
          refine ⟨fun q => absurd rfl q, fun _ => x_downs S _ (fun x14 e14 => ?_)⟩
          rw [S.sc.x2] at e14
          subst e14
          exact ⟨fun q => absurd q hd, fun _ => bad Q hQ⟩
    · refine Or.inr ⟨2, xS X 0 2, fun Q E hE => y_isReplica hr hn _ ⟨fun _ => ⟨hvn, fun x16 e16 => ?_⟩, fun q => absurd q (by decide)⟩, fun Q hQ => x_isReplica S hr _ ⟨fun _ => ⟨hv7, fun x7 e7 => ?_⟩, fun q => absurd q (by decide)⟩, Or.inr ⟨rfl, rfl⟩, sim_code S 2⟩
      · rw [hcr] at e16
        rw [(S.rp hr).dwn, h0] at e16
        subst e16
        exact ⟨fun _ => hE, fun q => absurd q (by decide)⟩
      · rw [hcr, h0] at e7
        subst e7
        exact ⟨fun _ => bad Q hQ, fun q => absurd q (by decide)⟩
  · refine Or.inr ⟨0, xS X 0 1, fun Q E hE => hy _ ⟨fun q => absurd rfl q, fun _ => hE⟩, fun Q hQ => hx _ ⟨fun q => absurd rfl q, fun _ => ?_⟩, Or.inl ⟨rfl, rfl⟩, sim_code S 1⟩
    unfold bx_X12_down_38
    intro x1 e1
    rw [xz] at e1
    subst e1
    exact ⟨fun q => absurd q (by decide), fun _ => hQ⟩
theorem up_sim (S : Sim n K Y X) {r : Nat} (hr : r < n) (t : Int32) : Sim n K (uI (uI Y 803 r 0) 811 r t) (xA (xA X 20 r 0) 57 r t) := by
  refine sim_rep S hr ((RgY.rf.wI (by omega) _).wI (by omega) _) ((RgX.rf.wA (by omega) _).wA (by omega) _) ⟨?_, S.lg hr, S.hd hr, S.ct hr, S.ch hr⟩
  obtain ⟨a1, a2, a3, a4, a5, a6, a7, a8, a9, a10, a11, a12, a13, a14, a15⟩ := S.rp hr
  refine ⟨a1, ?_, a3, a4, a5, a6, a7, ?_, a9, a10, a11, a12, ?_, a14, a15⟩
  · rw [yII, if_neg (by omega), yII, if_pos ⟨rfl, rfl⟩, xAA, if_neg (by omega), xAA, if_pos ⟨rfl, rfl⟩]
  · rw [yII, if_pos ⟨rfl, rfl⟩, xAA, if_pos ⟨rfl, rfl⟩]
  · rw [xAA, if_neg (by omega), xAA, if_pos ⟨rfl, rfl⟩]
    exact Or.inl rfl
theorem up_call (S : Sim n K Y X) (p : Int32) : OutU n K CdA Y (wy_X11_up n p Y) (wx_X12_up p X) := by
  have hn := S.sc.n7
  rcases repl S p with ⟨r, hr, rfl⟩ | ⟨hy, hx⟩
  · obtain ⟨hcr, hv7, hvn⟩ := rep_arg S hr
    rcases (S.rp hr).dwn01 with h0 | h0
    · refine Or.inr ⟨2, xS X 0 2, fun Q E hE => y_isReplica hr hn _ ⟨fun _ => ⟨hvn, fun x16 e16 => ?_⟩, fun q => absurd q (by decide)⟩, fun Q hQ => x_isReplica S hr _ ⟨fun _ => ⟨hv7, fun x7 e7 => ?_⟩, fun q => absurd q (by decide)⟩, Or.inr ⟨rfl, rfl⟩, sim_code S 2⟩
      · rw [hcr] at e16
        rw [(S.rp hr).dwn, h0] at e16
        subst e16
        exact ⟨fun q => absurd rfl q, fun _ => hE⟩
      · rw [hcr, h0] at e7
        subst e7
        refine ⟨fun q => absurd rfl q, fun _ => ?_⟩
        unfold bx_X12_up_27
        intro x1 e1
        rw [xz] at e1
        subst e1
        exact ⟨fun q => absurd q (by decide), fun _ => hQ⟩
    · refine Or.inl ⟨_, xA (xA (xS X 0 0) 20 r 0) 57 r (X.1 4), fun Q E hQ => y_isReplica hr hn _ ⟨fun _ => ⟨hvn, fun x16 e16 => ?_⟩, fun q => absurd q (by decide)⟩, fun Q hQ => x_isReplica S hr _ ⟨fun _ => ⟨hv7, fun x7 e7 => ?_⟩, fun q => absurd q (by decide)⟩, rfl, up_sim (sim_code S 0) hr (X.1 4)⟩
      · rw [hcr] at e16 ⊢
        rw [(S.rp hr).dwn, h0] at e16
        subst e16
        refine ⟨fun _ => ⟨hvn, hvn, fun x33 e33 => ?_⟩, fun q => absurd q (by decide)⟩
        have e33 : x33 = X.1 4 := e33.trans S.sc.tim
        subst e33
        exact hQ
      · rw [hcr, h0] at e7
        subst e7
        refine ⟨fun _ => ?_, fun q => absurd q (by decide)⟩
        unfold bx_X12_up_27
        intro x1 e1
        rw [xz] at e1
        subst e1
        rw [hcr, nar0]
        refine ⟨fun _ => ⟨hv7, fun x6 e6 => ⟨hv7, ?_⟩⟩, fun q => absurd (by decide) q⟩
        have e6 : x6 = X.1 4 := e6
        subst e6
        exact hQ
  · refine Or.inr ⟨0, xS X 0 1, fun Q E hE => hy _ ⟨fun q => absurd rfl q, fun _ => hE⟩, fun Q hQ => hx _ ⟨fun q => absurd rfl q, fun _ => ?_⟩, Or.inl ⟨rfl, rfl⟩, sim_code S 1⟩
    unfold bx_X12_up_27
    intro x1 e1
    rw [xz] at e1
    subst e1
    exact ⟨fun q => absurd q (by decide), fun _ => hQ⟩
theorem suspect_call (S : Sim n K Y X) (hK : K + 1 < 1073741824) (p : Int32) : OutU n (K + 1) CdA Y (wy_X11_suspect n p Y) (wx_X12_suspect p X) := by
  have hn := S.sc.n7
  have Sm := S.mono (Nat.le_succ K) hK
  rcases repl S p with ⟨r, hr, rfl⟩ | ⟨hy, hx⟩
  · obtain ⟨hcr, hv7, hvn⟩ := rep_arg S hr
    rcases (S.rp hr).dwn01 with h0 | h0
    · obtain ⟨Y2, X2, ry, rx, s2, u2⟩ := next_sim (sim_code S 0) hK hr
      refine Or.inl ⟨Y2, X2, fun Q E hQ => y_isReplica hr hn _ ⟨fun _ => ⟨hvn, fun x16 e16 => ?_⟩, fun q => absurd q (by decide)⟩, fun Q hQ => x_isReplica S hr _ ⟨fun _ => ⟨hv7, fun x7 e7 => ?_⟩, fun q => absurd q (by decide)⟩, u2.2, s2⟩
      · rw [hcr] at e16 ⊢
        rw [(S.rp hr).dwn, h0] at e16
        subst e16
        exact ⟨fun _ => ⟨hvn, ry Q hQ⟩, fun q => absurd rfl q⟩
      · rw [hcr, h0] at e7
        subst e7
        refine ⟨fun _ => ?_, fun q => absurd rfl q⟩
        unfold bx_X12_suspect_27
        intro x1 e1
        rw [xz] at e1
        subst e1
        rw [hcr]
        refine ⟨fun q => absurd rfl q, fun _ => ⟨hv7, fun x5 e5 => ⟨hv7, fun x8 e8 => ?_⟩⟩⟩
        subst e5; subst e8
        exact rx Q hQ
    · refine Or.inr ⟨2, xS X 0 2, fun Q E hE => y_isReplica hr hn _ ⟨fun _ => ⟨hvn, fun x16 e16 => ?_⟩, fun q => absurd q (by decide)⟩, fun Q hQ => x_isReplica S hr _ ⟨fun _ => ⟨hv7, fun x7 e7 => ?_⟩, fun q => absurd q (by decide)⟩, Or.inr ⟨rfl, rfl⟩, sim_code Sm 2⟩
      · rw [hcr] at e16
        rw [(S.rp hr).dwn, h0] at e16
        subst e16
        exact ⟨fun q => absurd q (by decide), fun _ => hE⟩
      · rw [hcr, h0] at e7
        subst e7
        refine ⟨fun q => absurd q (by decide), fun _ => ?_⟩
        unfold bx_X12_suspect_27
        intro x1 e1
        rw [xz] at e1
        subst e1
        exact ⟨fun _ => hQ, fun q => absurd q (by decide)⟩
  · refine Or.inr ⟨0, xS X 0 1, fun Q E hE => hy _ ⟨fun q => absurd rfl q, fun _ => hE⟩, fun Q hQ => hx _ ⟨fun q => absurd rfl q, fun _ => ?_⟩, Or.inl ⟨rfl, rfl⟩, sim_code Sm 1⟩
    unfold bx_X12_suspect_27
    intro x1 e1
    rw [xz] at e1
    subst e1
    exact ⟨fun _ => hQ, fun q => absurd q (by decide)⟩
theorem nudge_call (S : Sim n K Y X) (p : Int32) : OutV n K CdA Y (wy_X11_nudge n p Y) (wx_X12_nudge p X) := by
  have hn := S.sc.n7
  rcases repl S p with ⟨r, hr, rfl⟩ | ⟨hy, hx⟩
  · obtain ⟨hcr, hv7, hvn⟩ := rep_arg S hr
    rcases (S.rp hr).dwn01 with h0 | h0
    · obtain ⟨Y2, X2, ry, rx, s2, u2⟩ := asks_sim (sim_code S 0) hr
      refine Or.inl ⟨X2.1 7 - X.1 7, Y2, X2, fun Q E hQ => y_isReplica hr hn _ ⟨fun _ => ⟨hvn, fun x16 e16 => ?_⟩, fun q => absurd q (by decide)⟩, fun Q hQ => x_isReplica S hr _ ⟨fun _ => ⟨hv7, fun x7 e7 => ?_⟩, fun q => absurd q (by decide)⟩, u2.2, s2⟩
      · rw [hcr] at e16 ⊢
        rw [(S.rp hr).dwn, h0] at e16
        subst e16
        refine ⟨fun _ x21 e21 => ⟨hvn, ry _ (fun x38 e38 => ?_)⟩, fun q => absurd rfl q⟩
        rw [S.sc.snt] at e21
        rw [s2.sc.snt] at e38
        subst e21; subst e38
        exact hQ
      · rw [hcr, h0] at e7
        subst e7
        refine ⟨fun _ => ?_, fun q => absurd rfl q⟩
        unfold bx_X12_nudge_27
        intro x1 e1
        rw [xz] at e1
        subst e1
        refine ⟨fun _ x4 e4 => rx _ (fun x10 e10 => ?_), fun q => absurd (by decide) q⟩
        have e4 : x4 = X.1 7 := e4
        subst e4; subst e10
        exact hQ
    · refine Or.inr ⟨2, 0, xS X 0 2, fun Q E hE => y_isReplica hr hn _ ⟨fun _ => ⟨hvn, fun x16 e16 => ?_⟩, fun q => absurd q (by decide)⟩, fun Q hQ => x_isReplica S hr _ ⟨fun _ => ⟨hv7, fun x7 e7 => ?_⟩, fun q => absurd q (by decide)⟩, Or.inr ⟨rfl, rfl⟩, sim_code S 2⟩
      · rw [hcr] at e16
        rw [(S.rp hr).dwn, h0] at e16
        subst e16
        exact ⟨fun q => absurd q (by decide), fun _ => hE⟩
      · rw [hcr, h0] at e7
        subst e7
        refine ⟨fun q => absurd q (by decide), fun _ => ?_⟩
        unfold bx_X12_nudge_27
        intro x1 e1
        rw [xz] at e1
        subst e1
        exact ⟨fun q => absurd q (by decide), fun _ => hQ⟩
  · refine Or.inr ⟨0, 0, xS X 0 1, fun Q E hE => hy _ ⟨fun q => absurd rfl q, fun _ => hE⟩, fun Q hQ => hx _ ⟨fun q => absurd rfl q, fun _ => ?_⟩, Or.inl ⟨rfl, rfl⟩, sim_code S 1⟩
    unfold bx_X12_nudge_27
    intro x1 e1
    rw [xz] at e1
    subst e1
    exact ⟨fun q => absurd q (by decide), fun _ => hQ⟩
theorem sync_call (S : Sim n K Y X) (p : Int32) : OutU n K CdA Y (wy_X11_sync n p Y) (wx_X12_sync p X) := by
  have hn := S.sc.n7
  rcases repl S p with ⟨r, hr, rfl⟩ | ⟨hy, hx⟩
  · obtain ⟨hcr, hv7, hvn⟩ := rep_arg S hr
    have bad : ∀ Q : Xc → Prop, Q (xS X 0 2) → bx_X12_sync_39 Q (nI r) X := fun Q hQ => by
      unfold bx_X12_sync_39 bx_X12_sync_44
      intro x1 e1
      rw [xz] at e1
      subst e1
      exact ⟨fun _ => hQ, fun q => absurd q (by decide)⟩
    have yg : ∀ (Q : Yc → Prop) (E : Nat → Yc → Prop), ((¬ X.2 20 r = 0 → E 2 Y) ∧ (X.2 20 r = 0 → ((lds n X r = 0 → E 2 Y) ∧ (¬ lds n X r = 0 → ((X.2 23 r = 0 → wy_X8_sendSync n r Y Q) ∧ (¬ X.2 23 r = 0 → E 2 Y)))))) → wy_X11_sync n (nI r) Y Q E := fun Q E h => y_isReplica hr hn _ ⟨fun _ => ⟨hvn, fun x16 e16 => by
      rw [hcr] at e16 ⊢
      rw [(S.rp hr).dwn] at e16
      subst e16
      refine ⟨h.1, fun q => y_leads S hr _ ⟨(h.2 q).1, fun q2 x27 e27 => ?_⟩⟩
      rw [(S.rp hr).sta] at e27
      subst e27
      exact (h.2 q).2 q2⟩, fun q => absurd q (by decide)⟩
    have xg : ∀ (Q : Xc → Prop), ((¬ X.2 20 r = 0 → Q (xS X 0 2)) ∧ (X.2 20 r = 0 → ((lds n X r = 0 → Q (xS X 0 2)) ∧ (¬ lds n X r = 0 → ((X.2 23 r = 0 → wx_X12_syncs (nI r) (xS X 0 0) Q) ∧ (¬ X.2 23 r = 0 → Q (xS X 0 2))))))) → wx_X12_sync (nI r) X Q := fun Q h => x_isReplica S hr _ ⟨fun _ => ⟨hv7, fun x7 e7 => by
      rw [hcr] at e7 ⊢
      subst e7
      refine ⟨fun q => bad Q (h.1 q), fun q => x_leads S hr _ ⟨fun q2 => bad Q ((h.2 q).1 q2), fun q2 => ⟨hv7, fun x16 e16 => ?_⟩⟩⟩
      subst e16
      refine ⟨fun q3 => ?_, fun q3 => bad Q (((h.2 q).2 q2).2 q3)⟩
      unfold bx_X12_sync_44
      intro x1 e1
      rw [xz] at e1
      subst e1
      exact ⟨fun q => absurd rfl q, fun _ => ((h.2 q).2 q2).1 q3⟩⟩, fun q => absurd q (by decide)⟩
    by_cases h0 : X.2 20 r = 0
    · by_cases hd : lds n X r = 0
      · exact Or.inr ⟨2, xS X 0 2, fun Q E hE => yg Q E ⟨fun _ => hE, fun _ => ⟨fun _ => hE, fun q => absurd hd q⟩⟩, fun Q hQ => xg Q ⟨fun _ => hQ, fun _ => ⟨fun _ => hQ, fun q => absurd hd q⟩⟩, Or.inr ⟨rfl, rfl⟩, sim_code S 2⟩
      · by_cases hs : X.2 23 r = 0
        · obtain ⟨Y2, X2, ry, rx, s2, u2⟩ := syncs_sim (sim_code S 0) hr
          exact Or.inl ⟨Y2, X2, fun Q E hQ => yg Q E ⟨fun q => absurd h0 q, fun _ => ⟨fun q => absurd q hd, fun _ => ⟨fun _ => ry Q hQ, fun q => absurd hs q⟩⟩⟩, fun Q hQ => xg Q ⟨fun q => absurd h0 q, fun _ => ⟨fun q => absurd q hd, fun _ => ⟨fun _ => rx Q hQ, fun q => absurd hs q⟩⟩⟩, u2.2, s2⟩
        · exact Or.inr ⟨2, xS X 0 2, fun Q E hE => yg Q E ⟨fun _ => hE, fun _ => ⟨fun _ => hE, fun _ => ⟨fun q => absurd q hs, fun _ => hE⟩⟩⟩, fun Q hQ => xg Q ⟨fun _ => hQ, fun _ => ⟨fun _ => hQ, fun _ => ⟨fun q => absurd q hs, fun _ => hQ⟩⟩⟩, Or.inr ⟨rfl, rfl⟩, sim_code S 2⟩
    · exact Or.inr ⟨2, xS X 0 2, fun Q E hE => yg Q E ⟨fun _ => hE, fun q => absurd q h0⟩, fun Q hQ => xg Q ⟨fun _ => hQ, fun q => absurd q h0⟩, Or.inr ⟨rfl, rfl⟩, sim_code S 2⟩
  · refine Or.inr ⟨0, xS X 0 1, fun Q E hE => hy _ ⟨fun q => absurd rfl q, fun _ => hE⟩, fun Q hQ => hx _ ⟨fun q => absurd rfl q, fun _ => ?_⟩, Or.inl ⟨rfl, rfl⟩, sim_code S 1⟩
    unfold bx_X12_sync_44
    intro x1 e1
    rw [xz] at e1
    subst e1
    exact ⟨fun _ => hQ, fun q => absurd q (by decide)⟩
theorem fail_call (S : Sim n K Y X) : ∃ v Y2 X2, (∀ Q : Int32 → Yc → Prop, Q v Y2 → wy_X11_fail n Y Q) ∧ (∀ Q : Int32 → Xc → Prop, Q v X2 → wx_X12_fail X Q) ∧ Sim n K Y2 X2 := by
  have S0 := sim_code S 0
  rcases S.sc.up01 with hu | hu
  · have S2 : Sim n K (uI Y 1105 0 0) (xS (xS X 0 0) 16 0) := by
      refine sim_sc S0 (fun k o h _ => ?_) rfl rfl rfl rfl rfl rfl (fun k _ _ _ _ h => ?_) rfl ?_
      · rw [yII, if_neg (by omega)]
      · rw [xSS, if_neg (by omega)]
      · obtain ⟨a1, a2, a3, a4, a5, a6, a7, a8, a9, a10, a11, a12, a13, a14, a15, a16, a17, a18⟩ := S0.sc
        exact ⟨a1, a2, a3, a4, a5, a6, a7, a8, a9, a10, a11, rfl, a13, a14, a15, a16, Or.inl rfl, a18⟩
    refine ⟨0, _, _, fun Q hQ => ?_, fun Q hQ => ?_, S2⟩
    · unfold wy_X11_fail
      intro x1 e1
      rw [S.sc.up, hu] at e1
      subst e1
      exact ⟨fun _ => ⟨Or.inl rfl, hQ⟩, fun q => absurd rfl q⟩
    · unfold wx_X12_fail
      intro x1 e1
      have e1 : x1 = 0 := e1.trans hu
      subst e1
      exact ⟨fun _ => ⟨Or.inl rfl, hQ⟩, fun q => absurd rfl q⟩
  · have S2 : Sim n K (uI (uI Y 1108 0 (X.1 4)) 1105 0 0) (xS (xS (xS X 0 0) 19 (X.1 4)) 16 0) := by
      refine sim_sc S0 (fun k o h _ => ?_) rfl rfl rfl rfl rfl rfl (fun k _ _ _ _ h => ?_) rfl ?_
      · rw [yII, if_neg (by omega), yII, if_neg (by omega)]
      · rw [xSS, if_neg (by omega), xSS, if_neg (by omega)]
      · obtain ⟨a1, a2, a3, a4, a5, a6, a7, a8, a9, a10, a11, a12, a13, a14, a15, a16, a17, a18⟩ := S0.sc
        exact ⟨a1, a2, a3, a4, a5, a6, a7, a8, a9, a10, a11, rfl, a13, a14, rfl, a16, Or.inl rfl, a18⟩
    refine ⟨1, _, _, fun Q hQ => ?_, fun Q hQ => ?_, S2⟩
    · unfold wy_X11_fail
      intro x1 e1
      rw [S.sc.up, hu] at e1
      subst e1
      refine ⟨fun q => absurd q (by decide), fun _ x6 e6 => ?_⟩
      rw [S.sc.tim] at e6
      subst e6
      exact ⟨Or.inr rfl, hQ⟩
    · unfold wx_X12_fail
      intro x1 e1
      have e1 : x1 = 1 := e1.trans hu
      subst e1
      refine ⟨fun q => absurd q (by decide), fun _ x4 e4 => ?_⟩
      have e4 : x4 = X.1 4 := e4
      subst e4
      exact ⟨Or.inr rfl, hQ⟩
theorem install_call (S : Sim n K Y X) (hK : K + 1 < 1073741824) : ∃ v Y2 X2, (∀ Q : Int32 → Yc → Prop, Q v Y2 → wy_X11_install n Y Q) ∧ (∀ Q : Int32 → Xc → Prop, Q v X2 → wx_X12_install X Q) ∧ Sim n (K + 1) Y2 X2 := by
  obtain ⟨Y2, X2, ry, rx, s2, e, _⟩ := raise_sim (sim_code S 0) hK
  refine ⟨X2.1 17, Y2, X2, fun Q hQ => ?_, fun Q hQ => ?_, s2⟩
  · unfold wy_X11_install
    refine ry _ (fun x8 e8 => ?_)
    rw [e] at e8
    subst e8
    exact hQ
  · unfold wx_X12_install
    exact rx _ hQ
end
