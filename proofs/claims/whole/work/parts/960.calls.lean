/-! The calls -/
theorem i32_cases (p : Int32) : p < 0 ∨ ∃ k, k < 2 ^ 31 ∧ p = nI k := by
  by_cases h : p < 0
  · exact Or.inl h
  · refine Or.inr ⟨p.toInt.toNat, ?_, ?_⟩
    · have := Int32.toInt_lt p
      rw [Int32.lt_iff_toInt_lt] at h
      have h0 : (0 : Int32).toInt = 0 := by decide
      omega
    · apply Int32.toInt_inj.mp
      have := Int32.toInt_lt p
      rw [Int32.lt_iff_toInt_lt] at h
      have h0 : (0 : Int32).toInt = 0 := by decide
      rw [nI_toInt (by omega)]
      omega
def CdA (e : Nat) (v : Int32) : Prop := (e = 0 ∧ v = 1) ∨ (e = 2 ∧ v = 2)
def CdB (e : Nat) (v : Int32) : Prop := e = 1 ∧ v = 1
section
variable {n K : Nat} {Y Y2 : Yc} {X X2 : Xc}
/-- a call without an answer -/
def OutU (n K' : Nat) (Cd : Nat → Int32 → Prop) (Y : Yc) (wy : (Yc → Prop) → (Nat → Yc → Prop) → Prop) (wx : (Xc → Prop) → Prop) : Prop :=
  (∃ Y2 X2, (∀ Q E, Q Y2 → wy Q E) ∧ (∀ Q, Q X2 → wx Q) ∧ X2.1 0 = 0 ∧ Sim n K' Y2 X2) ∨ (∃ e X2, (∀ Q (E : Nat → Yc → Prop), E e Y → wy Q E) ∧ (∀ Q, Q X2 → wx Q) ∧ Cd e (X2.1 0) ∧ Sim n K' Y X2)
/-- a call with one -/
def OutV (n K' : Nat) (Cd : Nat → Int32 → Prop) (Y : Yc) (wy : (Int32 → Yc → Prop) → (Nat → Yc → Prop) → Prop) (wx : (Int32 → Xc → Prop) → Prop) : Prop :=
  (∃ v Y2 X2, (∀ Q E, Q v Y2 → wy Q E) ∧ (∀ Q, Q v X2 → wx Q) ∧ X2.1 0 = 0 ∧ Sim n K' Y2 X2) ∨ (∃ e v X2, (∀ Q (E : Nat → Yc → Prop), E e Y → wy Q E) ∧ (∀ Q, Q v X2 → wx Q) ∧ Cd e (X2.1 0) ∧ Sim n K' Y X2)
theorem x_in0 {k b : Nat} (hk : k < 2 ^ 31) (hb : b < 2 ^ 31) (Q : Int32 → Xc → Prop) (hQ : Q (if k ≤ b then 1 else 0) X) : wx_X12_in (nI k) 0 (nI b) X Q := by
  unfold wx_X12_in
  refine ⟨fun h => absurd ((nI_lti (a := k) (b := 0) hk (by omega)).mp h) (by omega), fun _ => ⟨fun g => ?_, fun g => ?_⟩⟩
  · have g := (nI_lti hb hk).mp g
    rw [if_neg (by omega)] at hQ
    exact hQ
  · have g : ¬ b < k := fun q => g ((nI_lti hb hk).mpr q)
    rw [if_pos (by omega)] at hQ
    exact hQ
theorem x_inN {p b : Int32} (h : p < 0) (Q : Int32 → Xc → Prop) (hQ : Q 0 X) : wx_X12_in p 0 b X Q := by
  unfold wx_X12_in
  exact ⟨fun _ => hQ, fun q => absurd h q⟩
theorem repl (S : Sim n K Y X) (p : Int32) : (∃ r, r < n ∧ p = nI r) ∨ ((∀ Q : Int32 → Yc → Prop, Q 0 Y → wy_X11_isReplica n p Y Q) ∧ (∀ Q : Int32 → Xc → Prop, Q 0 X → wx_X12_isReplica p X Q)) := by
  have hn := S.sc.n7
  have hn3 := S.sc.n3
  have hx1 := S.sc.x1
  rcases i32_cases p with h | ⟨k, hk, rfl⟩
  · refine Or.inr ⟨fun Q hQ => ⟨fun _ => hQ, fun q => absurd h q⟩, fun Q hQ => ?_⟩
    unfold wx_X12_isReplica
    intro x1 e1
    exact x_inN h _ ⟨Or.inl rfl, hQ⟩
  · by_cases hkn : k < n
    · exact Or.inl ⟨k, hkn, rfl⟩
    · refine Or.inr ⟨fun Q hQ => ⟨fun _ => hQ, fun _ => ⟨fun _ => hQ, fun q => absurd (nI_le (by omega) hk) q⟩⟩, fun Q hQ => ?_⟩
      unfold wx_X12_isReplica
      intro x1 e1
      rw [hx1] at e1
      subst e1
      have : nI n - (1 : Int32) = nI (n - 1) := nI_sub (a := n) (b := 1) (by omega)
      rw [this]
      refine x_in0 hk (by omega) _ ?_
      rw [if_neg (by omega)]
      exact ⟨Or.inl rfl, hQ⟩
theorem x_isReplica (S : Sim n K Y X) {r : Nat} (hr : r < n) (Q : Int32 → Xc → Prop) (hQ : Q 1 X) : wx_X12_isReplica (nI r) X Q := by
  have hn := S.sc.n7
  unfold wx_X12_isReplica
  intro x1 e1
  rw [S.sc.x1] at e1
  subst e1
  have : nI n - (1 : Int32) = nI (n - 1) := nI_sub (a := n) (b := 1) (by omega)
  rw [this]
  refine x_in0 (by omega) (by omega) _ ?_
  rw [if_pos (by omega)]
  exact ⟨Or.inr rfl, hQ⟩
theorem clnt (Y : Yc) (X : Xc) (p : Int32) : (∃ c, c < 4 ∧ p = nI c) ∨ ((∀ Q : Int32 → Yc → Prop, Q 0 Y → wy_X11_isClient n p Y Q) ∧ (∀ Q : Int32 → Xc → Prop, Q 0 X → wx_X12_isClient p X Q)) := by
  rcases i32_cases p with h | ⟨k, hk, rfl⟩
  · refine Or.inr ⟨fun Q hQ => ⟨fun _ => hQ, fun q => absurd h q⟩, fun Q hQ => ?_⟩
    unfold wx_X12_isClient
    exact x_inN h _ ⟨Or.inl rfl, hQ⟩
  · by_cases hkn : k < 4
    · exact Or.inl ⟨k, hkn, rfl⟩
    · refine Or.inr ⟨fun Q hQ => ⟨fun _ => hQ, fun _ => ⟨fun _ => hQ, fun q => absurd (nI_le (by omega) hk) q⟩⟩, fun Q hQ => ?_⟩
      unfold wx_X12_isClient
      refine x_in0 (b := 3) hk (by omega) _ ?_
      rw [if_neg (by omega)]
      exact ⟨Or.inl rfl, hQ⟩
theorem y_isClient {c : Nat} (hc : c < 4) (Q : Int32 → Yc → Prop) (hQ : Q 1 Y) : wy_X11_isClient n (nI c) Y Q :=
  ⟨fun q => absurd ((nI_lti (a := c) (b := 0) (by omega) (by omega)).mp q) (by omega), fun _ => ⟨fun q => absurd q (nI_ge hc (by omega)), fun _ => hQ⟩⟩
theorem x_isClient {c : Nat} (hc : c < 4) (Q : Int32 → Xc → Prop) (hQ : Q 1 X) : wx_X12_isClient (nI c) X Q := by
  unfold wx_X12_isClient
  refine x_in0 (b := 3) (by omega) (by omega) _ ?_
  rw [if_pos (by omega)]
  exact ⟨Or.inr rfl, hQ⟩
theorem xz (v : Int32) : (xS X 0 v).1 0 = v := rfl
theorem again_call (S : Sim n K Y X) (hK : K + 1 < 1073741824) (p : Int32) : OutU n (K + 1) CdA Y (wy_X11_again n p Y) (wx_X12_again p X) := by
  have Sm := S.mono (Nat.le_succ K) hK
  rcases clnt (n := n) Y X p with ⟨c, hc, rfl⟩ | ⟨hy, hx⟩
  · have hcc : (nI c).toNatClampNeg = c := nI_clamp (by omega)
    have hv4 : vp_in (nI c) 4 := vp_in_nI hc (by omega)
    rcases (S.cl hc).2.2.2.1 with h0 | h0
    · refine Or.inr ⟨2, xS X 0 2, fun Q E hE => y_isClient hc _ ⟨fun _ => ⟨hv4, fun x16 e16 => ?_⟩, fun q => absurd q (by decide)⟩, fun Q hQ => x_isClient hc _ ⟨fun _ => ⟨hv4, fun x7 e7 => ?_⟩, fun q => absurd q (by decide)⟩, Or.inr ⟨rfl, rfl⟩, sim_code Sm 2⟩
      · rw [hcc, (S.cl hc).2.1, h0] at e16
        subst e16
        exact ⟨fun q => absurd rfl q, fun _ => hE⟩
      · rw [hcc, h0] at e7
        subst e7
        refine ⟨fun q => absurd rfl q, fun _ => ?_⟩
        unfold bx_X12_again_26
        intro x1 e1
        rw [xz] at e1
        subst e1
        exact ⟨fun _ => hQ, fun q => absurd q (by decide)⟩
    · obtain ⟨Y2, X2, ry, rx, s2, u2⟩ := stamp_sim (sim_code S 0) hK hc h0
      refine Or.inl ⟨Y2, X2, fun Q E hQ => y_isClient hc _ ⟨fun _ => ⟨hv4, fun x16 e16 => ?_⟩, fun q => absurd q (by decide)⟩, fun Q hQ => x_isClient hc _ ⟨fun _ => ⟨hv4, fun x7 e7 => ?_⟩, fun q => absurd q (by decide)⟩, u2.2, s2⟩
      · rw [hcc] at e16 ⊢
        rw [(S.cl hc).2.1, h0] at e16
        subst e16
        exact ⟨fun _ => ry Q hQ, fun q => absurd q (by decide)⟩
      · rw [hcc, h0] at e7
        subst e7
        refine ⟨fun _ => ?_, fun q => absurd q (by decide)⟩
        unfold bx_X12_again_26
        intro x1 e1
        rw [xz] at e1
        subst e1
        exact ⟨fun q => absurd rfl q, fun _ => rx Q hQ⟩
  · refine Or.inr ⟨0, xS X 0 1, fun Q E hE => hy _ ⟨fun q => absurd rfl q, fun _ => hE⟩, fun Q hQ => hx _ ⟨fun q => absurd rfl q, fun _ => ?_⟩, Or.inl ⟨rfl, rfl⟩, sim_code Sm 1⟩
    unfold bx_X12_again_26
    intro x1 e1
    rw [xz] at e1
    subst e1
    exact ⟨fun _ => hQ, fun q => absurd q (by decide)⟩
theorem deliver_call (S : Sim n K Y X) (hK : K + 1 < 1073741824) (p : Int32) : OutU n (K + 1) CdB Y (wy_X11_deliver n p Y) (wx_X12_deliver p X) := by
  have Sm := S.mono (Nat.le_succ K) hK
  rcases find_sim S p with ⟨k, hk, fy, fx⟩ | ⟨fy, fx⟩
  · have hne : nI k ≠ -1 := nI_ne1 (by
      obtain ⟨cnt, _, hc, _, _, x6, _⟩ := S.ar
      rw [x6] at hk
      have : ln (nI cnt) = cnt := nI_clamp (by omega)
      omega)
    obtain ⟨Y2, X2, ry, rx, s2, _, e0⟩ := hand_sim (sim_code S 0) hK (k := k) hk
    refine Or.inl ⟨Y2, X2, fun Q E hQ => fy _ ⟨fun _ => ry Q hQ, fun q => absurd q hne⟩, fun Q hQ => fx _ ⟨fun _ => ?_, fun q => absurd q hne⟩, e0, s2⟩
    unfold bx_X12_deliver_17
    intro x1 e1
    rw [xz] at e1
    subst e1
    exact ⟨fun q => absurd rfl q, fun _ => rx Q hQ⟩
  · refine Or.inr ⟨1, xS X 0 1, fun Q E hE => fy _ ⟨fun q => absurd rfl q, fun _ => hE⟩, fun Q hQ => fx _ ⟨fun q => absurd rfl q, fun _ => ?_⟩, ⟨rfl, rfl⟩, sim_code Sm 1⟩
    unfold bx_X12_deliver_17
    intro x1 e1
    rw [xz] at e1
    subst e1
    exact ⟨fun _ => hQ, fun q => absurd q (by decide)⟩
theorem lose_call (S : Sim n K Y X) (p : Int32) : OutU n K CdB Y (wy_X11_lose n p Y) (wx_X12_lose p X) := by
  rcases find_sim S p with ⟨k, hk, fy, fx⟩ | ⟨fy, fx⟩
  · have hne : nI k ≠ -1 := nI_ne1 (by
      obtain ⟨cnt, _, hc, _, _, x6, _⟩ := S.ar
      rw [x6] at hk
      have : ln (nI cnt) = cnt := nI_clamp (by omega)
      omega)
    obtain ⟨o, m, Y1, X1, ry, rx, S1, hm, eo, M, ec, e0⟩ := pull_sim (sim_code S 0) (k := k) hk
    refine Or.inl ⟨_, xS X1 8 (X1.1 8 + 1), fun Q E hQ => fy _ ⟨fun _ => ry _ (fun x24 e24 x26 e26 => ?_), fun q => absurd q hne⟩, fun Q hQ => fx _ ⟨fun _ => ?_, fun q => absurd q hne⟩, e0, lost_sim S1⟩
    · rw [S1.sc.lst] at e24
      subst e24; subst e26
      exact hQ
    · unfold bx_X12_lose_17
      intro x1 e1
      rw [xz] at e1
      subst e1
      refine ⟨fun _ => rx _ (fun x8 e8 x10 e10 => ?_), fun q => absurd (by decide) q⟩
      subst e8; subst e10
      exact hQ
  · refine Or.inr ⟨1, xS X 0 1, fun Q E hE => fy _ ⟨fun q => absurd rfl q, fun _ => hE⟩, fun Q hQ => fx _ ⟨fun q => absurd rfl q, fun _ => ?_⟩, ⟨rfl, rfl⟩, sim_code S 1⟩
    unfold bx_X12_lose_17
    intro x1 e1
    rw [xz] at e1
    subst e1
    exact ⟨fun q => absurd q (by decide), fun _ => hQ⟩
theorem flow_loop (N : Nat) (hN : N ≤ 40) : ∀ d t K Y X, t + d = N → K + d < 1073741824 → Sim n K Y X → X.1 0 = 0 →
    ∃ v Y2 X2, (∀ (Q : Int32 → Yc → Prop) (E : Nat → Yc → Prop), Q v Y2 → LFy (fy_X11_flow_22 n Q E) (nI N, nI t) Y) ∧ (∀ Q : Int32 → Xc → Prop, Q v X2 → LFx (fx_X12_flow_21 Q) (nI N, nI t) X) ∧ X2.1 0 = 0 ∧ Sim n (K + d) Y2 X2 := by
  intro d
  induction d with
  | zero =>
    intro t K Y X ht hK S h0
    have ht : t = N := by omega
    subst ht
    refine ⟨nI t, Y, X, fun Q E hQ R hR => hR _ _ ⟨fun _ => hQ, fun q => absurd (nI_le (Nat.le_refl t) (by omega)) q⟩, fun Q hQ R hR => hR _ _ (fun x1 e1 => ?_), h0, S⟩
    rw [h0] at e1
    subst e1
    exact ⟨fun q => absurd rfl q, fun _ => ⟨fun _ => hQ, fun q => absurd (nI_le (Nat.le_refl t) (by omega)) q⟩⟩
  | succ d ih =>
    intro t K Y X ht hK S h0
    obtain ⟨cnt, od, hc, ho, e5, x6, _⟩ := S.ar
    have hln : ln (nI cnt) = cnt := nI_clamp (by omega)
    by_cases hz : cnt = 0
    · subst hz
      refine ⟨nI t, Y, X, fun Q E hQ R hR => hR _ _ ⟨fun _ => hQ, fun _ x4 e4 => ?_⟩, fun Q hQ R hR => hR _ _ (fun x1 e1 => ?_), h0, S.mono (by omega) (by omega)⟩
      · rw [e5] at e4
        subst e4
        exact ⟨fun _ => hQ, fun q => absurd (by decide) q⟩
      · rw [h0] at e1
        subst e1
        refine ⟨fun q => absurd rfl q, fun _ => ⟨fun _ => hQ, fun _ x5 e5 => ?_⟩⟩
        rw [x6] at e5
        subst e5
        exact ⟨fun _ => hQ, fun q => absurd (by decide) q⟩
    · obtain ⟨Y1, X1, ry, rx, s1, _, e01⟩ := hand_sim S (by omega) (k := 0) (by rw [x6, hln]; omega)
      obtain ⟨v, Y2, X2, gy, gx, g0, s2⟩ := ih (t + 1) (K + 1) Y1 X1 (by omega) (by omega) s1 (e01.trans h0)
      refine ⟨v, Y2, X2, fun Q E hQ R hR => hR _ _ ⟨fun q => absurd q (nI_ge (by omega) (by omega)), fun _ x4 e4 => ?_⟩, fun Q hQ R hR => hR _ _ (fun x1 e1 => ?_), g0, by rw [show K + (d + 1) = K + 1 + d by omega]; exact s2⟩
      · rw [e5] at e4
        subst e4
        refine ⟨fun q => absurd q (nI_ge (a := 0) (b := cnt) (by omega) (by omega)), fun _ => ry _ (fun x14 e14 => ?_)⟩
        have e14 : x14 = nI (t + 1) := e14.trans (nI_1 t)
        subst e14
        exact gy Q E hQ R hR
      · rw [h0] at e1
        subst e1
        refine ⟨fun q => absurd rfl q, fun _ => ⟨fun q => absurd q (nI_ge (by omega) (by omega)), fun _ x5 e5 => ?_⟩⟩
        rw [x6] at e5
        subst e5
        refine ⟨fun q => absurd q (nI_ge (a := 0) (b := cnt) (by omega) (by omega)), fun _ => rx _ (fun x12 e12 => ?_)⟩
        have e12 : x12 = nI (t + 1) := e12.trans (nI_1 t)
        subst e12
        exact gx Q hQ R hR
theorem flow_call (S : Sim n K Y X) (hK : K + 40 < 1073741824) (p : Int32) : OutV n (K + 40) CdB Y (wy_X11_flow n p Y) (wx_X12_flow p X) := by
  have Sm := S.mono (K' := K + 40) (by omega) hK
  have bad : ∀ Q : Int32 → Xc → Prop, Q 0 (xS X 0 1) → bx_X12_flow_16 Q p 1 X := fun Q hQ => by
    unfold bx_X12_flow_16
    intro R hR
    refine hR _ _ (fun x1 e1 => ?_)
    rw [xz] at e1
    subst e1
    exact ⟨fun _ => hQ, fun q => absurd q (by decide)⟩
  rcases i32_cases p with h | ⟨k, hk, rfl⟩
  · refine Or.inr ⟨1, 0, xS X 0 1, fun Q E hE => ⟨fun _ => hE, fun q => absurd h q⟩, fun Q hQ => ?_, ⟨rfl, rfl⟩, sim_code Sm 1⟩
    unfold wx_X12_flow
    exact x_inN h _ ⟨fun _ => bad Q hQ, fun q => absurd rfl q⟩
  · have hk0 : ¬ nI k < 0 := fun q => absurd ((nI_lti (a := k) (b := 0) hk (by omega)).mp q) (by omega)
    by_cases h40 : k ≤ 40
    · obtain ⟨v, Y2, X2, gy, gx, g0, s2⟩ := flow_loop k h40 k 0 K Y (xS X 0 0) (by omega) (by omega) (sim_code S 0) rfl
      refine Or.inl ⟨v, Y2, X2, fun Q E hQ => ⟨fun q => absurd q hk0, fun _ => ⟨fun _ => gy Q E hQ, fun q => absurd (nI_le (a := k) (b := 40) h40 (by omega)) q⟩⟩, fun Q hQ => ?_, g0, s2.mono (by omega) hK⟩
      unfold wx_X12_flow
      refine x_in0 (b := 40) hk (by omega) _ ?_
      rw [if_pos h40]
      exact ⟨fun q => absurd q (by decide), fun _ => gx Q hQ⟩
    · refine Or.inr ⟨1, 0, xS X 0 1, fun Q E hE => ⟨fun _ => hE, fun _ => ⟨fun q => absurd q (nI_ge (a := 40) (b := k) (by omega) hk), fun _ => hE⟩⟩, fun Q hQ => ?_, ⟨rfl, rfl⟩, sim_code Sm 1⟩
      unfold wx_X12_flow
      refine x_in0 (b := 40) hk (by omega) _ ?_
      rw [if_neg h40]
      exact ⟨fun _ => bad Q hQ, fun q => absurd rfl q⟩
theorem tick_loop (N : Nat) (hN : N ≤ 40) (b : Int32) : ∀ d t K Y X, t + d = N → K + 12 * d < 1073741824 → Sim n K Y X → X.1 0 = 0 →
    ∃ v Y2 X2, (∀ (Q : Int32 → Yc → Prop) (E : Nat → Yc → Prop), Q v Y2 → LFy (fy_X11_tick_30 n Q E) (nI N, b, nI t) Y) ∧ (∀ Q : Int32 → Xc → Prop, Q v X2 → LFx (fx_X12_tick_26 Q) (nI N, b, nI t) X) ∧ X2.1 0 = 0 ∧ Sim n (K + 12 * d) Y2 X2 := by
  intro d
  induction d with
  | zero =>
    intro t K Y X ht hK S h0
    have ht : t = N := by omega
    subst ht
    refine ⟨X.1 7 - b, Y, X, fun Q E hQ R hR => hR _ _ ⟨fun _ x4 e4 => ?_, fun q => absurd (nI_le (Nat.le_refl t) (by omega)) q⟩, fun Q hQ R hR => hR _ _ ⟨fun _ x2 e2 => ?_, fun q => absurd (nI_le (Nat.le_refl t) (by omega)) q⟩, h0, S⟩
    · rw [S.sc.snt] at e4
      subst e4
      exact hQ
    · subst e2
      exact hQ
  | succ d ih =>
    intro t K Y X ht hK S h0
    obtain ⟨Y1, X1, ry, rx, s1, u1⟩ := tick_sim S (by omega)
    obtain ⟨v, Y2, X2, gy, gx, g0, s2⟩ := ih (t + 1) (K + 12) Y1 X1 (by omega) (by omega) s1 (u1.2.trans h0)
    refine ⟨v, Y2, X2, fun Q E hQ R hR => hR _ _ ⟨fun q => absurd q (nI_ge (by omega) (by omega)), fun _ => ry _ (fun x13 e13 => ?_)⟩, fun Q hQ R hR => hR _ _ ⟨fun q => absurd q (nI_ge (by omega) (by omega)), fun _ x4 e4 => ?_⟩, g0, by rw [show K + 12 * (d + 1) = K + 12 + 12 * d by omega]; exact s2⟩
    · have e13 : x13 = nI (t + 1) := e13.trans (nI_1 t)
      subst e13
      exact gy Q E hQ R hR
    · rw [h0] at e4
      subst e4
      refine ⟨fun q => absurd rfl q, fun _ => rx _ (fun x13 e13 => ?_)⟩
      have e13 : x13 = nI (t + 1) := e13.trans (nI_1 t)
      subst e13
      exact gx Q hQ R hR
theorem tick_call (S : Sim n K Y X) (hK : K + 480 < 1073741824) (p : Int32) : OutV n (K + 480) CdB Y (wy_X11_tick n p Y) (wx_X12_tick p X) := by
  have Sm := S.mono (K' := K + 480) (by omega) hK
  have bad : (p < 0 ∨ ∃ k, 40 < k ∧ k < 2 ^ 31 ∧ p = nI k) → ∃ v, ∀ Q : Int32 → Xc → Prop, Q v (xS X 0 1) → bx_X12_tick_16 Q p 1 X := fun hp => by
    refine ⟨X.1 7 - X.1 7, fun Q hQ => ?_⟩
    unfold bx_X12_tick_16
    intro x1 e1
    have e1 : x1 = X.1 7 := e1
    subst e1
    intro R hR
    refine hR _ _ ⟨fun _ x2 e2 => ?_, fun _ x4 e4 => ?_⟩
    · have e2 : x2 = X.1 7 := e2
      subst e2
      exact hQ
    · rw [xz] at e4
      subst e4
      refine ⟨fun _ x7 e7 => ?_, fun q => absurd q (by decide)⟩
      have e7 : x7 = X.1 7 := e7
      subst e7
      exact hQ
  rcases i32_cases p with h | ⟨k, hk, rfl⟩
  · obtain ⟨v, hv⟩ := bad (Or.inl h)
    refine Or.inr ⟨1, v, xS X 0 1, fun Q E hE => ⟨fun _ => hE, fun q => absurd h q⟩, fun Q hQ => ?_, ⟨rfl, rfl⟩, sim_code Sm 1⟩
    unfold wx_X12_tick
    exact x_inN h _ ⟨fun _ => hv Q hQ, fun q => absurd rfl q⟩
  · have hk0 : ¬ nI k < 0 := fun q => absurd ((nI_lti (a := k) (b := 0) hk (by omega)).mp q) (by omega)
    by_cases h40 : k ≤ 40
    · obtain ⟨v, Y2, X2, gy, gx, g0, s2⟩ := tick_loop k h40 (X.1 7) k 0 K Y (xS X 0 0) (by omega) (by omega) (sim_code S 0) rfl
      refine Or.inl ⟨v, Y2, X2, fun Q E hQ => ⟨fun q => absurd q hk0, fun _ => ⟨fun _ x5 e5 => ?_, fun q => absurd (nI_le (a := k) (b := 40) h40 (by omega)) q⟩⟩, fun Q hQ => ?_, g0, s2.mono (by omega) hK⟩
      · rw [S.sc.snt] at e5
        subst e5
        exact gy Q E hQ
      · unfold wx_X12_tick
        refine x_in0 (b := 40) hk (by omega) _ ?_
        rw [if_pos h40]
        refine ⟨fun q => absurd q (by decide), fun _ => ?_⟩
        unfold bx_X12_tick_16
        intro x1 e1
        have e1 : x1 = X.1 7 := e1
        subst e1
        exact gx Q hQ
    · obtain ⟨v, hv⟩ := bad (Or.inr ⟨k, by omega, hk, rfl⟩)
      refine Or.inr ⟨1, v, xS X 0 1, fun Q E hE => ⟨fun _ => hE, fun _ => ⟨fun q => absurd q (nI_ge (a := 40) (b := k) (by omega) hk), fun _ => hE⟩⟩, fun Q hQ => ?_, ⟨rfl, rfl⟩, sim_code Sm 1⟩
      unfold wx_X12_tick
      refine x_in0 (b := 40) hk (by omega) _ ?_
      rw [if_neg h40]
      exact ⟨fun _ => hv Q hQ, fun q => absurd rfl q⟩
theorem calm_in (N : Int32) (b : Int32) (i W : Nat) (hW : W ≤ 200) : ∀ d t K Y X, t + d = W → K + d < 1073741824 → Sim n K Y X → X.1 0 = 0 → d ≤ ln (X.1 6) →
    ∃ Y2 X2, (∀ (L : Int32 × Int32 × Int32 → Yc → Prop) (Q : Int32 → Yc → Prop) (E : Nat → Yc → Prop), L (N, b, nI (i + 1)) Y2 → LFy (fy_X11_calm_48 n L Q E) (N, b, nI i, nI W, nI t) Y) ∧ (∀ (L : Int32 × Int32 × Int32 → Xc → Prop) (Q : Int32 → Xc → Prop), L (N, b, nI (i + 1)) X2 → LFx (fx_X12_calm_51 L Q) (N, b, nI i, nI W, nI t) X) ∧ X2.1 0 = 0 ∧ Sim n (K + d) Y2 X2 := by
  intro d
  induction d with
  | zero =>
    intro t K Y X ht hK S h0 _
    have ht : t = W := by omega
    subst ht
    refine ⟨Y, X, fun L Q E hL R hR => hR _ _ ⟨fun _ x2 e2 => ?_, fun q => absurd (nI_le (Nat.le_refl t) (by omega)) q⟩, fun L Q hL R hR => hR _ _ ⟨fun _ x2 e2 => ?_, fun q => absurd (nI_le (Nat.le_refl t) (by omega)) q⟩, h0, S⟩
    · have e2 : x2 = nI (i + 1) := e2.trans (nI_1 i)
      subst e2
      exact hL
    · have e2 : x2 = nI (i + 1) := e2.trans (nI_1 i)
      subst e2
      exact hL
  | succ d ih =>
    intro t K Y X ht hK S h0 hd
    obtain ⟨Y1, X1, ry, rx, s1, c1, e01⟩ := hand_sim S (by omega) (k := 0) (by omega)
    obtain ⟨Y2, X2, gy, gx, g0, s2⟩ := ih (t + 1) (K + 1) Y1 X1 (by omega) (by omega) s1 (e01.trans h0) (by omega)
    refine ⟨Y2, X2, fun L Q E hL R hR => hR _ _ ⟨fun q => absurd q (nI_ge (by omega) (by omega)), fun _ => ry _ (fun x11 e11 => ?_)⟩, fun L Q hL R hR => hR _ _ ⟨fun q => absurd q (nI_ge (by omega) (by omega)), fun _ => rx _ (fun x8 e8 => ?_)⟩, g0, by rw [show K + (d + 1) = K + 1 + d by omega]; exact s2⟩
    · have e11 : x11 = nI (t + 1) := e11.trans (nI_1 t)
      subst e11
      exact gy L Q E hL R hR
    · have e8 : x8 = nI (t + 1) := e8.trans (nI_1 t)
      subst e8
      exact gx L Q hL R hR
theorem calm_loop (N : Nat) (hN : N ≤ 20) (b : Int32) : ∀ d t K Y X, t + d = N → K + 212 * d < 1073741824 → Sim n K Y X → X.1 0 = 0 →
    ∃ v Y2 X2, (∀ (Q : Int32 → Yc → Prop) (E : Nat → Yc → Prop), Q v Y2 → LFy (fy_X11_calm_27 n Q E) (nI N, b, nI t) Y) ∧ (∀ Q : Int32 → Xc → Prop, Q v X2 → LFx (fx_X12_calm_26 Q) (nI N, b, nI t) X) ∧ X2.1 0 = 0 ∧ Sim n (K + 212 * d) Y2 X2 := by
  intro d
  induction d with
  | zero =>
    intro t K Y X ht hK S h0
    have ht : t = N := by omega
    subst ht
    refine ⟨X.1 81 - b, Y, X, fun Q E hQ R hR => hR _ _ ⟨fun _ x4 e4 => ?_, fun q => absurd (nI_le (Nat.le_refl t) (by omega)) q⟩, fun Q hQ R hR => hR _ _ ⟨fun _ x2 e2 => ?_, fun q => absurd (nI_le (Nat.le_refl t) (by omega)) q⟩, h0, S⟩
    · rw [S.sc.acc] at e4
      subst e4
      exact hQ
    · subst e2
      exact hQ
  | succ d ih =>
    intro t K Y X ht hK S h0
    obtain ⟨Y1, X1, ry, rx, s1, u1⟩ := tick_sim S (by omega)
    obtain ⟨cnt, od, hc, ho, e5, x6, _⟩ := s1.ar
    have hln : ln (nI cnt) = cnt := nI_clamp (by omega)
    obtain ⟨Y2, X2, hy2, hx2, h02, s2⟩ := calm_in (nI N) b t cnt hc cnt 0 (K + 12) Y1 X1 (by omega) (by omega) s1 (u1.2.trans h0) (by rw [x6, hln]; omega)
    obtain ⟨v, Y3, X3, gy, gx, g0, s3⟩ := ih (t + 1) (K + 212) Y2 X2 (by omega) (by omega) (s2.mono (by omega) (by omega)) h02
    refine ⟨v, Y3, X3, fun Q E hQ R hR => hR _ _ ⟨fun q => absurd q (nI_ge (by omega) (by omega)), fun _ => ry _ (fun x13 e13 => ?_)⟩, fun Q hQ R hR => hR _ _ ⟨fun q => absurd q (nI_ge (by omega) (by omega)), fun _ x4 e4 => ?_⟩, g0, by rw [show K + 212 * (d + 1) = K + 212 + 212 * d by omega]; exact s3⟩
    · rw [e5] at e13
      subst e13
      exact hy2 R Q E (gy Q E hQ R hR)
    · rw [h0] at e4
      subst e4
      refine ⟨fun q => absurd rfl q, fun _ => rx _ (fun x13 e13 => ?_)⟩
      rw [x6] at e13
      subst e13
      exact hx2 R Q (gx Q hQ R hR)
theorem calm_call (S : Sim n K Y X) (hK : K + 4240 < 1073741824) (p : Int32) : OutV n (K + 4240) CdB Y (wy_X11_calm n p Y) (wx_X12_calm p X) := by
  have Sm := S.mono (K' := K + 4240) (by omega) hK
  have bad : ∃ v, ∀ Q : Int32 → Xc → Prop, Q v (xS X 0 1) → bx_X12_calm_16 Q p 1 X := by
    refine ⟨X.1 81 - X.1 81, fun Q hQ => ?_⟩
    unfold bx_X12_calm_16
    intro x1 e1
    have e1 : x1 = X.1 81 := e1
    subst e1
    intro R hR
    refine hR _ _ ⟨fun _ x2 e2 => ?_, fun _ x4 e4 => ?_⟩
    · have e2 : x2 = X.1 81 := e2
      subst e2
      exact hQ
    · rw [xz] at e4
      subst e4
      refine ⟨fun _ x7 e7 => ?_, fun q => absurd q (by decide)⟩
      have e7 : x7 = X.1 81 := e7
      subst e7
      exact hQ
  obtain ⟨v0, hv0⟩ := bad
  rcases i32_cases p with h | ⟨k, hk, rfl⟩
  · refine Or.inr ⟨1, v0, xS X 0 1, fun Q E hE => ⟨fun _ => hE, fun q => absurd h q⟩, fun Q hQ => ?_, ⟨rfl, rfl⟩, sim_code Sm 1⟩
    unfold wx_X12_calm
    exact x_inN h _ ⟨fun _ => hv0 Q hQ, fun q => absurd rfl q⟩
  · have hk0 : ¬ nI k < 0 := fun q => absurd ((nI_lti (a := k) (b := 0) hk (by omega)).mp q) (by omega)
    by_cases h40 : k ≤ 20
    · obtain ⟨v, Y2, X2, gy, gx, g0, s2⟩ := calm_loop k h40 (X.1 81) k 0 K Y (xS X 0 0) (by omega) (by omega) (sim_code S 0) rfl
      refine Or.inl ⟨v, Y2, X2, fun Q E hQ => ⟨fun q => absurd q hk0, fun _ => ⟨fun _ x5 e5 => ?_, fun q => absurd (nI_le (a := k) (b := 20) h40 (by omega)) q⟩⟩, fun Q hQ => ?_, g0, s2.mono (by omega) hK⟩
      · rw [S.sc.acc] at e5
        subst e5
        exact gy Q E hQ
      · unfold wx_X12_calm
        refine x_in0 (b := 20) hk (by omega) _ ?_
        rw [if_pos h40]
        refine ⟨fun q => absurd q (by decide), fun _ => ?_⟩
        unfold bx_X12_calm_16
        intro x1 e1
        have e1 : x1 = X.1 81 := e1
        subst e1
        exact gx Q hQ
    · refine Or.inr ⟨1, v0, xS X 0 1, fun Q E hE => ⟨fun _ => hE, fun _ => ⟨fun q => absurd q (nI_ge (a := 20) (b := k) (by omega) hk), fun _ => hE⟩⟩, fun Q hQ => ?_, ⟨rfl, rfl⟩, sim_code Sm 1⟩
      unfold wx_X12_calm
      refine x_in0 (b := 20) hk (by omega) _ ?_
      rw [if_neg h40]
      exact ⟨fun _ => hv0 Q hQ, fun q => absurd rfl q⟩
end
