section
variable {n K : Nat} {Y Y2 : Yc} {X X2 : Xc} {r : Nat}
theorem vw_eq {a b c d : Nat} (ha : a < 2 ^ 31) (hb : b < 2 ^ 31) (hc : c < 2 ^ 31) (hd : d < 2 ^ 31) : vw (nI a) (nI b) = vw (nI c) (nI d) ↔ a = c ∧ b = d := by
  refine ⟨fun h => ?_, fun h => by rw [h.1, h.2]⟩
  have h1 := congrArg (fun v : Int64 => v.toInt32) h
  have h2 := congrArg (fun v : Int64 => (v >>> ((32 : Int32).toInt64 &&& 63)).toInt32) h
  have h1 : (vw (nI a) (nI b)).toInt32 = (vw (nI c) (nI d)).toInt32 := h1
  have h2 : ((vw (nI a) (nI b)) >>> ((32 : Int32).toInt64 &&& 63)).toInt32 = ((vw (nI c) (nI d)) >>> ((32 : Int32).toInt64 &&& 63)).toInt32 := h2
  rw [vw_lead, vw_lead] at h1
  rw [vw_sess, vw_sess] at h2
  exact ⟨(nI_eq ha hc).mp h1, (nI_eq hb hd).mp h2⟩
theorem vw_lt {a b c d : Nat} (ha : a < 2 ^ 31) (hb : b < 2 ^ 31) (hc : c < 2 ^ 31) (hd : d < 2 ^ 31) : vw (nI a) (nI b) < vw (nI c) (nI d) ↔ b < d ∨ (b = d ∧ a < c) := by
  rw [Int64.lt_iff_toInt_lt, vw_toInt _ (by rw [nI_toInt ha]; omega), vw_toInt _ (by rw [nI_toInt hc]; omega), nI_toInt ha, nI_toInt hb, nI_toInt hc, nI_toInt hd]
  omega
theorem lg0 {x y : Int64} : lg_cmp x y = 0 ↔ x = y := by
  unfold lg_cmp
  by_cases h : x > y
  · rw [if_pos h]
    refine ⟨fun q => absurd q (by decide), fun q => ?_⟩
    subst q
    have h : x < x := h
    rw [Int64.lt_iff_toInt_lt] at h
    omega
  · rw [if_neg h]
    by_cases e : x = y
    · rw [if_pos e]; exact ⟨fun _ => e, fun _ => rfl⟩
    · rw [if_neg e]; exact ⟨fun q => absurd q (by decide), fun q => absurd q e⟩
theorem lgn {x y : Int64} : lg_cmp x y < 0 ↔ x < y := by
  unfold lg_cmp
  by_cases h : x > y
  · rw [if_pos h]
    refine ⟨fun q => absurd q (by decide), fun q => ?_⟩
    have h : y < x := h
    rw [Int64.lt_iff_toInt_lt] at h q
    omega
  · rw [if_neg h]
    have h : ¬ y < x := h
    by_cases e : x = y
    · rw [if_pos e]
      subst e
      exact ⟨fun q => absurd q (by decide), fun q => absurd q h⟩
    · rw [if_neg e]
      refine ⟨fun _ => ?_, fun _ => by decide⟩
      rw [Int64.lt_iff_toInt_lt] at h ⊢
      have : x.toInt ≠ y.toInt := fun q => e (Int64.toInt_inj.mp q)
      omega
theorem lg0v {a b c d : Nat} (ha : a < 2 ^ 31) (hb : b < 2 ^ 31) (hc : c < 2 ^ 31) (hd : d < 2 ^ 31) : lg_cmp (vw (nI a) (nI b)) (vw (nI c) (nI d)) = 0 ↔ a = c ∧ b = d := by
  rw [lg0, vw_eq ha hb hc hd]
/-- a view behind another -/
abbrev bh (a b c d : Nat) : Prop := ¬ (a = c ∧ b = d) ∧ a ≤ c ∧ b ≤ d
theorem y_behind {a b c d : Nat} (ha : a < 2 ^ 31) (hb : b < 2 ^ 31) (hc : c < 2 ^ 31) (hd : d < 2 ^ 31) (Q : Int32 → Yc → Prop) (hQ : Q (if bh a b c d then 1 else 0) Y) : wy_X11_isBehind n (vw (nI a) (nI b)) (vw (nI c) (nI d)) Y Q := by
  unfold wy_X11_isBehind wy_X11_leadOf wy_X11_sessionOf
  rw [lg0v ha hb hc hd, vw_lead, vw_lead, vw_sess, vw_sess]
  dsimp only
  rw [nI_lti hc ha, nI_lti hd hb]
  refine ⟨fun h => ?_, fun h => ⟨fun h2 => ?_, fun h2 => ⟨fun h3 => ?_, fun h3 => ?_⟩⟩⟩
  · rw [if_neg (fun q => q.1 h)] at hQ; exact hQ
  · rw [if_neg (fun q => by omega)] at hQ; exact hQ
  · rw [if_neg (fun q => by omega)] at hQ; exact hQ
  · rw [if_pos ⟨h, by omega, by omega⟩] at hQ; exact hQ
theorem x_behind {a b c d : Nat} (ha : a < 2 ^ 31) (hb : b < 2 ^ 31) (hc : c < 2 ^ 31) (hd : d < 2 ^ 31) (Q : Int32 → Xc → Prop) (hQ : Q (if bh a b c d then 1 else 0) X) : wx_X12_isBehind (nI a) (nI b) (nI c) (nI d) X Q := by
  have h10 : (a < c ∨ b < d) → bx_X12_isBehind_10 Q (nI a) (nI b) (nI c) (nI d) X := fun g => by
    unfold bx_X12_isBehind_10
    rw [nI_lti hc ha, nI_lti hd hb]
    refine ⟨fun h => ?_, fun h => ⟨fun h2 => ?_, fun h2 => ?_⟩⟩
    · rw [if_neg (fun q => by omega)] at hQ; exact hQ
    · rw [if_neg (fun q => by omega)] at hQ; exact hQ
    · rw [if_pos ⟨by omega, by omega, by omega⟩] at hQ; exact hQ
  unfold wx_X12_isBehind
  rw [nI_lti ha hc, nI_lei hd hb]
  refine ⟨fun h => h10 (Or.inl h), fun h => ⟨fun h2 => ?_, fun h2 => h10 (Or.inr (by omega))⟩⟩
  rw [if_neg (fun q => by omega)] at hQ
  exact hQ
theorem follow_sim (S : Sim n K Y X) (hr : r < n) {l e : Nat} (hl : l ≤ K) (he : e ≤ K) :
    ∃ Y2 X2, (∀ Q : Yc → Prop, Q Y2 → wy_X8_follow n r (vw (nI l) (nI e)) Y Q) ∧ (∀ Q : Xc → Prop, Q X2 → wx_X12_joins (nI r) (nI l) (nI e) X Q) ∧ Sim n K Y2 X2 ∧ (∀ i m, Han n K Y X i m → Han n K Y2 X2 i m) ∧ Up X X2 := by
  have hn := S.sc.n7
  have hk2 := S.sc.k2
  have hcr : (nI r).toNatClampNeg = r := nI_clamp (by omega)
  have hvr : vp_in (nI r) 7 := vp_in_nI (by omega) (by omega)
  have R := S.rp hr
  obtain ⟨rl, hrl, erl⟩ := R.ldK
  obtain ⟨re, hre, ere⟩ := R.epK
  have hv : yJ Y 805 r = vw (nI rl) (nI re) := by rw [R.vie, erl, ere]
  have yg : ∀ Q : Yc → Prop, ((l = rl ∧ e = re ∨ bh l e rl re → Q Y) ∧ (¬ (l = rl ∧ e = re ∨ bh l e rl re) → wy_X8_turn n r (vw (nI (max rl l)) (nI (max re e))) Y Q)) → wy_X8_follow n r (vw (nI l) (nI e)) Y Q := fun Q h => by
    unfold wy_X8_follow
    intro y1 e1
    rw [hv] at e1
    subst e1
    rw [lg0v (by omega) (by omega) (by omega) (by omega)]
    refine ⟨fun q => h.1 (Or.inl q), fun q y4 e4 => ?_⟩
    rw [hv] at e4
    subst e4
    refine y_behind (by omega) (by omega) (by omega) (by omega) _ ⟨fun q2 => h.1 (Or.inr ?_), fun q2 y14 e14 => ?_⟩
    · apply Classical.byContradiction
      intro q3
      rw [if_neg q3] at q2
      exact q2 rfl
    · rw [hv] at e14
      subst e14
      have q3 : ¬ bh l e rl re := fun q3 => by rw [if_pos q3] at q2; exact absurd q2 (by decide)
      unfold wy_X11_leadOf wy_X11_sessionOf wy_X11_viewOf
      rw [vw_lead, vw_lead]
      refine y_max (by omega) (by omega) _ (fun y37 e37 => ?_)
      rw [hv] at e37
      subst e37
      rw [vw_sess, vw_sess]
      exact y_max (by omega) (by omega) _ (h.2 (fun q4 => q4.elim q q3))
  have xg : ∀ Q : Xc → Prop, ((l = rl ∧ e = re ∨ bh l e rl re → Q X) ∧ (¬ (l = rl ∧ e = re ∨ bh l e rl re) → wx_X12_turnsTo (nI r) (nI (max rl l)) (nI (max re e)) X Q)) → wx_X12_joins (nI r) (nI l) (nI e) X Q := fun Q h => by
    have h24 : ¬ (l = rl ∧ e = re) → bx_X12_joins_24 Q (nI r) (nI l) (nI e) X := fun q => by
      unfold bx_X12_joins_24 bx_X12_joins_25
      rw [hcr]
      refine ⟨fun h => absurd rfl h, fun _ => ⟨hvr, fun x3 e3 => ⟨hvr, fun x6 e6 => ?_⟩⟩⟩
      rw [erl] at e3
      rw [ere] at e6
      subst e3; subst e6
      refine x_behind (by omega) (by omega) (by omega) (by omega) _ ⟨fun q2 => ⟨hvr, fun x14 e14 => ?_⟩, fun q2 => h.1 (Or.inr ?_)⟩
      · have q3 : ¬ bh l e rl re := fun q3 => by rw [if_pos q3] at q2; exact absurd q2 (by decide)
        have h2 := h.2 (fun q4 => q4.elim q q3)
        rw [erl] at e14
        subst e14
        have h75 : ∀ lead : Int32, lead = nI (max rl l) → bx_X12_joins_75 Q (nI r) (nI e) lead (nI r) X := fun lead el => by
          subst el
          unfold bx_X12_joins_75
          rw [hcr]
          refine ⟨hvr, fun x2 e2 => ?_⟩
          rw [ere] at e2
          subst e2
          rw [nI_lei (by omega) (by omega)]
          refine ⟨fun g => ⟨hvr, fun x6 e6 => ?_⟩, fun g => ?_⟩
          · rw [ere] at e6
            subst e6
            unfold bx_X12_joins_95
            rw [show max re e = re by omega] at h2
            exact h2
          · unfold bx_X12_joins_95
            rw [show max re e = e by omega] at h2
            exact h2
        rw [nI_lei (by omega) (by omega)]
        refine ⟨fun g => ⟨hvr, fun x18 e18 => h75 _ ?_⟩, fun g => h75 _ ?_⟩
        · rw [e18, erl]; congr 1; omega
        · congr 1; omega
      · apply Classical.byContradiction
        intro q3
        rw [if_neg q3] at q2
        exact q2 rfl
    unfold wx_X12_joins
    rw [hcr]
    refine ⟨hvr, fun x2 e2 => ?_⟩
    rw [erl] at e2
    subst e2
    rw [nI_eq (by omega) (by omega)]
    refine ⟨fun q => h24 (fun q2 => q q2.1), fun q => ⟨hvr, fun x6 e6 => ?_⟩⟩
    rw [ere] at e6
    subst e6
    rw [nI_eq (by omega) (by omega)]
    refine ⟨fun q2 => h24 (fun q3 => q2 q3.2), fun q2 => ?_⟩
    unfold bx_X12_joins_25
    exact ⟨fun _ => h.1 (Or.inl ⟨q, q2⟩), fun q => absurd q (by decide)⟩
  by_cases hc : l = rl ∧ e = re ∨ bh l e rl re
  · exact ⟨Y, X, fun Q hQ => yg Q ⟨fun _ => hQ, fun q => absurd hc q⟩, fun Q hQ => xg Q ⟨fun _ => hQ, fun q => absurd hc q⟩, S, fun _ _ h => h, Up.rf⟩
  · obtain ⟨Y2, X2, ry, rx, s2, h2, _, _, _, u2⟩ := turn_sim S hr (l := max rl l) (e := max re e) (by omega) (by omega)
    exact ⟨Y2, X2, fun Q hQ => yg Q ⟨fun q => absurd q hc, fun _ => ry Q hQ⟩, fun Q hQ => xg Q ⟨fun q => absurd q hc, fun _ => rx Q hQ⟩, s2, h2, u2⟩
/-- NORMAL again -/
def yNm (Y : Yc) (r : Nat) (t : Int32) : Yc := uI (uI (uI (uI (uI (uI (uI (uI (uJ Y 806 r (yJ Y 805 r)) 804 r 0) 502 r 0) 503 r 0) 504 r 0) 505 r 0) 506 r 0) 809 r 0) 811 r t
def xNm (X : Xc) (r : Nat) (t : Int32) : Xc := xA (xA (xA (xA X 23 r 0) 24 r (X.2 21 r)) 25 r (X.2 22 r)) 57 r t
theorem yNm_run (ht : yI Y 408 0 = X.1 4) (Q : Yc → Prop) (hQ : Q (yNm Y r (X.1 4))) : wy_X8_becomeNormal n r Y Q := by
  unfold wy_X8_becomeNormal wy_X5_clear
  intro y1 e1 x17 e17
  subst e1
  have e17 : x17 = X.1 4 := e17.trans ht
  subst e17
  exact hQ
theorem xNm_run (hr : r < 7) (Q : Xc → Prop) (hQ : Q (xNm X r (X.1 4))) : wx_X12_becomeNormal (nI r) X Q := by
  have hcr : (nI r).toNatClampNeg = r := nI_clamp (by omega)
  have hvr : vp_in (nI r) 7 := vp_in_nI (by omega) (by omega)
  unfold wx_X12_becomeNormal
  rw [hcr]
  refine ⟨hvr, hvr, fun x4 e4 => ⟨hvr, hvr, fun x8 e8 => ⟨hvr, fun x11 e11 => ⟨hvr, ?_⟩⟩⟩⟩
  have e4 : x4 = X.2 21 r := e4
  have e8 : x8 = X.2 22 r := e8
  have e11 : x11 = X.1 4 := e11
  subst e4; subst e8; subst e11
  exact hQ
theorem norm_core {Y0 : Yc} {X0 : Xc} (S0 : Sim n K Y0 X0) (hr : r < n) (gY : RgY r Y0 Y) (gX : RgX r X0 X) {l e : Nat} (hl : l ≤ K) (he : e ≤ K) (hv : yJ Y 805 r = vw (nI l) (nI e)) (h21 : X.2 21 r = nI l) (h22 : X.2 22 r = nI e)
    (hy : ∀ c, c = 800 ∨ c = 803 ∨ c = 808 ∨ (812 ≤ c ∧ c ≤ 815) → yI Y c r = yI Y0 c r) (hx : ∀ k, k = 20 ∨ k = 28 ∨ (58 ≤ k ∧ k ≤ 61) → X.2 k r = X0.2 k r) (hL : LgS K Y X r) (hz : ∀ k, k = 29 ∨ k = 36 ∨ (43 ≤ k ∧ k ≤ 45) → X.2 k r = 0) (t : Int32) :
    Sim n K (yNm Y r t) (xNm X r t) := by
  have hk2 := S0.sc.k2
  refine sim_rep S0 hr (gY.trans ?_) (gX.trans ?_) ⟨?_, ?_, ?_, ?_, ?_⟩
  · unfold yNm
    exact ((((((((RgY.rf.wJ (by omega) _).wI (by omega) _).wI (by omega) _).wI (by omega) _).wI (by omega) _).wI (by omega) _).wI (by omega) _).wI (by omega) _).wI (by omega) _
  · unfold xNm
    exact (((RgX.rf.wA (by omega) _).wA (by omega) _).wA (by omega) _).wA (by omega) _
  · obtain ⟨a1, a2, a3, a4, a5, a6, a7, a8, a9, a10, a11, a12, a13, a14, a15, a16, a17, a18, a19⟩ := S0.rp hr
    have w : ∀ k, k ≠ 23 → k ≠ 24 → k ≠ 25 → k ≠ 57 → (xNm X r t).2 k r = X.2 k r := fun k h1 h2 h3 h4 => by
      unfold xNm
      rw [xAA, if_neg (by omega), xAA, if_neg (by omega), xAA, if_neg (by omega), xAA, if_neg (by omega)]
    have u : ∀ c, c = 800 ∨ c = 803 ∨ c = 808 ∨ (812 ≤ c ∧ c ≤ 815) → yI (yNm Y r t) c r = yI Y0 c r := fun c h => by
      rw [← hy c h]
      unfold yNm
      rw [yII, if_neg (by omega), yII, if_neg (by omega), yII, if_neg (by omega), yII, if_neg (by omega), yII, if_neg (by omega), yII, if_neg (by omega), yII, if_neg (by omega), yII, if_neg (by omega)]
      rfl
    have k23 : (xNm X r t).2 23 r = 0 := by unfold xNm; simp [xAA]
    have k24 : (xNm X r t).2 24 r = X.2 21 r := by unfold xNm; simp [xAA]
    have k25 : (xNm X r t).2 25 r = X.2 22 r := by unfold xNm; simp [xAA]
    have k57 : (xNm X r t).2 57 r = t := by unfold xNm; simp [xAA]
    have u804 : yI (yNm Y r t) 804 r = 0 := by unfold yNm; simp [yII]
    have u809 : yI (yNm Y r t) 809 r = 0 := by unfold yNm; simp [yII]
    have u811 : yI (yNm Y r t) 811 r = t := by unfold yNm; simp [yII]
    have v805 : yJ (yNm Y r t) 805 r = yJ Y 805 r := rfl
    have v806 : yJ (yNm Y r t) 806 r = yJ Y 805 r := by unfold yNm; simp [yJI, yJJ]
    unfold RpS
    rw [w 20 (by omega) (by omega) (by omega) (by omega), w 21 (by omega) (by omega) (by omega) (by omega), w 22 (by omega) (by omega) (by omega) (by omega), w 28 (by omega) (by omega) (by omega) (by omega), w 29 (by omega) (by omega) (by omega) (by omega), w 58 (by omega) (by omega) (by omega) (by omega), w 59 (by omega) (by omega) (by omega) (by omega), w 60 (by omega) (by omega) (by omega) (by omega), w 61 (by omega) (by omega) (by omega) (by omega), k23, k24, k25, k57, u804, u809, u811, v805, v806,
      u 800 (by omega), u 803 (by omega), u 808 (by omega), u 812 (by omega), u 813 (by omega), u 814 (by omega), u 815 (by omega), hx 20 (by omega), hx 28 (by omega), hx 58 (by omega), hx 59 (by omega), hx 60 (by omega), hx 61 (by omega), hz 29 (by omega), h21, h22, hv]
    exact ⟨a1, a2, rfl, rfl, rfl, a6, rfl, rfl, a9, a10, a11, a12, a13, ⟨0, by omega, rfl⟩, ⟨l, hl, rfl⟩, ⟨e, he, rfl⟩, ⟨l, hl, rfl⟩, ⟨e, he, rfl⟩, a19⟩
  · exact hL
  · have h36 : (xNm X r t).2 36 r = 0 := hz 36 (by omega)
    refine ⟨?_, by rw [h36]; exact ⟨0, by omega, rfl⟩, fun i hi => ?_⟩
    · rw [h36]; unfold yNm; simp [yII]
    · rw [h36] at hi
      exact absurd hi (by show ¬ i < ln (nI 0); rw [show ln (nI 0) = 0 from nI_clamp (by omega)]; omega)
  · have z : ∀ k, (43 ≤ k ∧ k ≤ 45) → (xNm X r t).2 k r = 0 := fun k h => by
      unfold xNm
      rw [xAA, if_neg (by omega), xAA, if_neg (by omega), xAA, if_neg (by omega), xAA, if_neg (by omega)]
      exact hz k (by omega)
    unfold CtS
    rw [z 43 (by omega), z 44 (by omega), z 45 (by omega)]
    refine ⟨?_, ?_, ?_, ⟨0, by omega, rfl⟩, ⟨0, by omega, rfl⟩⟩
    · unfold yNm; simp [yII]
    · unfold yNm; simp [yII]
    · unfold yNm; simp [yII]
  · intro q
    have : (xNm X r t).2 23 r = 0 := by unfold xNm; simp [xAA]
    rw [this] at q
    exact absurd q (by decide)
theorem start_hear (S : Sim n K Y X) (hr : r < n) {o : Nat} {l : List Int32} (H : Han n K Y X o l) (hk : yI Y 301 o = 10) (ho : o < 256) {p : Int32} (hp : ∀ ml me rl re : Nat, ml ≤ K → me ≤ K → rl ≤ K → re ≤ K → yJ Y 304 o = vw (nI ml) (nI me) → yJ Y 805 r = vw (nI rl) (nI re) → (p = 0 ↔ ¬ (rl = ml ∧ re = me))) :
    ∃ Y2 X2, (∀ Q : Yc → Prop, Q Y2 → wy_X8_hearStart n r o Y Q) ∧ (∀ Q : Xc → Prop, Q X2 → wx_X12_getsStart (nI r) p X Q) ∧ Sim n K Y2 X2 ∧ Up X X2 := by
  have hn := S.sc.n7
  have hk2 := S.sc.k2
  have hcr : (nI r).toNatClampNeg = r := nI_clamp (by omega)
  have hvr : vp_in (nI r) 7 := vp_in_nI (by omega) (by omega)
  have R := S.rp hr
  obtain ⟨ml, me, f, t, hml, hme, hf, ht, m4, ef, et, _, b1, _, b3, b4⟩ := H.hd (by rw [hk]; decide) (by rw [hk]; decide) hn
  obtain ⟨⟨M, hM, eM⟩, hB100, hEn⟩ := H.2.2.1.2.2.2.2.2.2.2.2.2 (Or.inr (Or.inr hk))
  have hlM : ln (nI M) = M := nI_clamp (by omega)
  rw [eM, hlM] at hEn
  obtain ⟨rl, hrl, erl⟩ := R.ldK
  obtain ⟨re, hre, ere⟩ := R.epK
  have hv : yJ Y 805 r = vw (nI rl) (nI re) := by rw [R.vie, erl, ere]
  have hp := hp ml me rl re hml hme hrl hre m4 hv
  have hne := nI_ne1 (r := f) (by omega)
  have en : encM Y o = [10, nI f, nI t, nI ml, nI me, yI Y 202 (56 + o), nI M] ++ encL (yS Y 200 (56 + o)) 0 M := by
    unfold encM
    rw [hk, m4, ef, et, vw_sess, vw_lead, eM]
    simp [hne, encG, hlM]
  have a5 : X.2 15 5 = yI Y 202 (56 + o) := H.at en (j := 5) (by simp)
  have a6 : X.2 15 6 = nI M := H.at en (j := 6) (by simp)
  -- the states
  obtain ⟨Xa, eXa⟩ : ∃ Xa : Xc, Xa = xA (xA (xA (xA X 21 r (nI ml)) 22 r (nI me)) 27 r (yI Y 202 (56 + o))) 26 r (nI M) := ⟨_, rfl⟩
  have h15 : Xa.2 15 = X.2 15 := by
    rw [eXa]
    funext i
    rw [xAA, if_neg (by omega), xAA, if_neg (by omega), xAA, if_neg (by omega), xAA, if_neg (by omega)]
  obtain ⟨X1, rx1, g1, g2, g3⟩ := x_read H (r := r) (by omega) hM en (X0 := Xa) h15
  obtain ⟨Xb, eXb⟩ : ∃ Xb : Xc, Xb = xA (xA (xA (xA (xA (xA X1 36 r 0) 43 r 0) 44 r 0) 45 r 0) 46 r 0) 29 r 0 := ⟨_, rfl⟩
  have hy1 : yI (uJ Y 805 r (vw (nI ml) (nI me))) 201 (56 + o) = nI M := eM
  have kb : ∀ k, k ≠ 36 → ¬ (43 ≤ k ∧ k ≤ 46) → k ≠ 29 → ¬ (30 ≤ k ∧ k ≤ 35) → Xb.2 k r = Xa.2 k r := fun k h1 h2 h3 h4 => by
    rw [eXb, xAA, if_neg (by omega), xAA, if_neg (by omega), xAA, if_neg (by omega), xAA, if_neg (by omega), xAA, if_neg (by omega), xAA, if_neg (by omega), g3.2.1 k r (by omega)]
  have ka : ∀ k, k ≠ 21 → k ≠ 22 → k ≠ 26 → k ≠ 27 → Xa.2 k r = X.2 k r := fun k h1 h2 h3 h4 => by
    rw [eXa, xAA, if_neg (by omega), xAA, if_neg (by omega), xAA, if_neg (by omega), xAA, if_neg (by omega)]
  have Sf : Sim n K (yNm (yBc (uJ Y 805 r (vw (nI ml) (nI me))) r (56 + o) M) r (X.1 4)) (xNm Xb r (X.1 4)) := by
    refine norm_core S hr (Y := yBc (uJ Y 805 r (vw (nI ml) (nI me))) r (56 + o) M) (X := Xb) ?_ ?_ hml hme ?_ ?_ ?_ (fun c h => ?_) (fun k h => ?_) ?_ (fun k h => ?_) _
    · unfold yBc
      exact (((RgY.rf.wJ (by omega) _).wI (by omega) _).wI (by omega) _).wSl (Or.inl rfl)
    · rw [eXb]
      refine (((((RgX.trans ?_ g3.rg).wA (by omega) _).wA (by omega) _).wA (by omega) _).wA (by omega) _).wA (by omega) _ |>.wA (by omega) _
      rw [eXa]
      exact (((RgX.rf.wA (by omega) _).wA (by omega) _).wA (by omega) _).wA (by omega) _
    · unfold yBc
      rw [(ySl_o _ _ _ _).2.1, yJI, yJI, yJJ, if_pos ⟨rfl, rfl⟩]
    · rw [kb 21 (by omega) (by omega) (by omega) (by omega), eXa, xAA, if_neg (by omega), xAA, if_neg (by omega), xAA, if_neg (by omega), xAA, if_pos ⟨rfl, rfl⟩]
    · rw [kb 22 (by omega) (by omega) (by omega) (by omega), eXa, xAA, if_neg (by omega), xAA, if_neg (by omega), xAA, if_pos ⟨rfl, rfl⟩]
    · unfold yBc
      rw [(ySl_o _ _ _ _).1, yII, if_neg (by omega), yII, if_neg (by omega)]
      rfl
    · rw [kb k (by omega) (by omega) (by omega) (by omega), ka k (by omega) (by omega) (by omega) (by omega)]
    · unfold LgS
      rw [kb 26 (by omega) (by omega) (by omega) (by omega), kb 27 (by omega) (by omega) (by omega) (by omega)]
      have q26 : Xa.2 26 r = nI M := by rw [eXa, xAA, if_pos ⟨rfl, rfl⟩]
      have q27 : Xa.2 27 r = yI Y 202 (56 + o) := by rw [eXa, xAA, if_neg (by omega), xAA, if_pos ⟨rfl, rfl⟩]
      rw [q26, q27]
      refine ⟨?_, ?_, ⟨M, hM, rfl⟩, hB100, fun s hs => ?_⟩
      · unfold yBc
        rw [(ySl_o _ _ _ _).1, yII, if_pos ⟨rfl, rfl⟩]
        exact eM
      · unfold yBc
        rw [(ySl_o _ _ _ _).1, yII, if_neg (by omega), yII, if_pos ⟨rfl, rfl⟩]
        rfl
      · rw [hlM] at hs
        have e1 : xE Xb (100 * r + s) = xE X1 (100 * r + s) := by
          unfold xE
          rw [eXb]
          rfl
        rw [e1, g1 s hs]
        unfold yBc
        rw [ySl_S, if_pos ⟨rfl, rfl, hs⟩]
        exact ⟨rfl, hEn s hs⟩
    · rw [eXb]
      rcases h with rfl | rfl | h
      · rw [xAA, if_pos ⟨rfl, rfl⟩]
      · simp [xAA]
      · rcases (show k = 43 ∨ k = 44 ∨ k = 45 by omega) with rfl | rfl | rfl <;> simp [xAA]
  have hup : Up X (xNm Xb r (X.1 4)) := by
    refine Up.eq ?_
    show Xb.1 = _
    rw [eXb]
    show X1.1 = _
    rw [g3.1, eXa]
    rfl
  have y34 : ∀ Q : Yc → Prop, Q (yNm (yBc (uJ Y 805 r (vw (nI ml) (nI me))) r (56 + o) M) r (X.1 4)) → by_X8_hearStart_34 n r Q o Y := fun Q hQ => by
    unfold by_X8_hearStart_34
    intro y2 e2
    rw [m4] at e2
    subst e2
    have h408 : yI (yBc (uJ Y 805 r (vw (nI ml) (nI me))) r (56 + o) M) 408 0 = X.1 4 := by
      unfold yBc
      rw [(ySl_o _ _ _ _).1, yII, if_neg (by omega), yII, if_neg (by omega)]
      exact S.sc.tim
    refine y_become (by omega) hM hy1 _ ?_
    exact yNm_run (X := X) h408 _ hQ
  have x45 : ∀ Q : Xc → Prop, Q (xNm Xb r (X.1 4)) → bx_X12_getsStart_45 Q (nI r) X := fun Q hQ => by
    unfold bx_X12_getsStart_45
    rw [hcr]
    refine ⟨v640 (j := 3) (by omega), fun x3 e3 => ⟨hvr, v640 (j := 4) (by omega), fun x7 e7 => ⟨hvr, v640 (j := 5) (by omega), fun x11 e11 => ⟨hvr, v640 (j := 6) (by omega), fun x15 e15 => ⟨hvr, v640 (j := 6) (by omega), fun x18 e18 => ?_⟩⟩⟩⟩⟩
    have e3 : x3 = nI ml := e3.trans b3
    subst e3
    have e7 : x7 = nI me := by rw [e7, xAA, if_neg (by omega)]; exact b4
    subst e7
    have e11 : x11 = yI Y 202 (56 + o) := by rw [e11, xAA, if_neg (by omega), xAA, if_neg (by omega)]; exact a5
    subst e11
    have e15 : x15 = nI M := by rw [e15, xAA, if_neg (by omega), xAA, if_neg (by omega), xAA, if_neg (by omega)]; exact a6
    subst e15
    have e18 : x18 = nI M := by rw [e18, xAA, if_neg (by omega), xAA, if_neg (by omega), xAA, if_neg (by omega), xAA, if_neg (by omega)]; exact a6
    subst e18
    rw [← eXa]
    refine rx1 _ ?_
    unfold wx_X12_forgetCounts
    rw [hcr]
    refine ⟨hvr, hvr, hvr, hvr, hvr, hvr, ?_⟩
    rw [← eXb]
    refine xNm_run (by omega) _ ?_
    have : Xb.1 4 = X.1 4 := by
      rw [eXb]
      show X1.1 4 = _
      rw [g3.1, eXa]
      rfl
    rw [this]
    exact hQ
  have yg : ∀ Q : Yc → Prop, ((bh rl re ml me ∨ ((rl = ml ∧ re = me) ∧ X.2 23 r = 2) → by_X8_hearStart_34 n r Q o Y) ∧ (¬ (bh rl re ml me ∨ ((rl = ml ∧ re = me) ∧ X.2 23 r = 2)) → Q Y)) → wy_X8_hearStart n r o Y Q := fun Q h => by
    unfold wy_X8_hearStart
    intro y1 e1 y4 e4
    rw [hv] at e1
    rw [m4] at e4
    subst e1; subst e4
    refine y_behind (by omega) (by omega) (by omega) (by omega) _ ⟨fun q => h.1 (Or.inl ?_), fun q y14 e14 y16 e16 => ?_⟩
    · apply Classical.byContradiction
      intro q3
      rw [if_neg q3] at q
      exact q rfl
    · have q3 : ¬ bh rl re ml me := fun q3 => by rw [if_pos q3] at q; exact absurd q (by decide)
      rw [hv] at e14
      rw [m4] at e16
      subst e14; subst e16
      rw [lg0v (by omega) (by omega) (by omega) (by omega)]
      refine ⟨fun q4 => h.2 (fun q5 => q5.elim q3 (fun q6 => q4 q6.1)), fun q4 x19 e19 => ?_⟩
      rw [R.sta] at e19
      subst e19
      exact ⟨fun q5 => h.2 (fun q6 => q6.elim q3 (fun q7 => q5 q7.2)), fun q5 => h.1 (Or.inr ⟨q4, q5⟩)⟩
  have xg : ∀ Q : Xc → Prop, ((bh rl re ml me ∨ ((rl = ml ∧ re = me) ∧ X.2 23 r = 2) → bx_X12_getsStart_45 Q (nI r) X) ∧ (¬ (bh rl re ml me ∨ ((rl = ml ∧ re = me) ∧ X.2 23 r = 2)) → Q X)) → wx_X12_getsStart (nI r) p X Q := fun Q h => by
    unfold wx_X12_getsStart
    rw [hcr]
    refine ⟨hvr, fun x2 e2 => ⟨hvr, fun x5 e5 => ⟨v640 (j := 3) (by omega), fun x8 e8 => ⟨v640 (j := 4) (by omega), fun x11 e11 => ?_⟩⟩⟩⟩
    have e8 : x8 = nI ml := e8.trans b3
    have e11 : x11 = nI me := e11.trans b4
    rw [erl] at e2
    rw [ere] at e5
    subst e2; subst e5; subst e8; subst e11
    refine x_behind (by omega) (by omega) (by omega) (by omega) _ ⟨fun q => h.1 (Or.inl ?_), fun q => ⟨fun q4 => h.2 (fun q5 => ?_), fun q4 => ⟨hvr, fun x20 e20 => ?_⟩⟩⟩
    · apply Classical.byContradiction
      intro q3
      rw [if_neg q3] at q
      exact q rfl
    · have q3 : ¬ bh rl re ml me := fun q3 => by rw [if_pos q3] at q; exact absurd q (by decide)
      exact q5.elim q3 (fun q6 => hp.mp q4 q6.1)
    · have q3 : ¬ bh rl re ml me := fun q3 => by rw [if_pos q3] at q; exact absurd q (by decide)
      have q4 : rl = ml ∧ re = me := by
        apply Classical.byContradiction
        intro q6
        exact q4 (hp.mpr q6)
      subst e20
      exact ⟨fun q5 => h.1 (Or.inr ⟨q4, q5⟩), fun q5 => h.2 (fun q6 => q6.elim q3 (fun q7 => q5 q7.2))⟩
  by_cases hc : bh rl re ml me ∨ ((rl = ml ∧ re = me) ∧ X.2 23 r = 2)
  · exact ⟨_, _, fun Q hQ => yg Q ⟨fun _ => y34 Q hQ, fun q => absurd hc q⟩, fun Q hQ => xg Q ⟨fun _ => x45 Q hQ, fun q => absurd hc q⟩, Sf, hup⟩
  · exact ⟨Y, X, fun Q hQ => yg Q ⟨fun q => absurd q hc, fun _ => hQ⟩, fun Q hQ => xg Q ⟨fun q => absurd q hc, fun _ => hQ⟩, S, Up.rf⟩
end
