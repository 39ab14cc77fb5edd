/-! broken: who speaks against what a client accepted -/
def mt (cl nu : Int32) : Option Rq → Bool
  | none => false
  | some w => decide (w.1 = cl ∧ w.2.1 = nu)
theorem mt_n (cl nu : Int32) : ¬ mt cl nu none = true := fun h => by cases h
theorem mt_s {cl nu : Int32} {w : Rq} : mt cl nu (some w) = true ↔ w.1 = cl ∧ w.2.1 = nu := decide_eq_true_iff
def agV (T : Tbl) (ans : Int32) : Option Rq → Int32
  | none => 0
  | some w => if dn T w then (if gv T w = ans then 0 else 1) else 0
def agL (f : Nat → Option Rq) (cl nu ans : Int32) : Nat → Nat → Int32
  | _, 0 => 0
  | s, d + 1 => if mt cl nu (f s) = true then agV (Tb f s) ans (f s) else agL f cl nu ans (s + 1) d
theorem agL_y {f : Nat → Option Rq} {cl nu ans : Int32} {s d : Nat} (h : mt cl nu (f s) = true) : agL f cl nu ans s (d + 1) = agV (Tb f s) ans (f s) := if_pos h
theorem agL_n {f : Nat → Option Rq} {cl nu ans : Int32} {s d : Nat} (h : ¬ mt cl nu (f s) = true) : agL f cl nu ans s (d + 1) = agL f cl nu ans (s + 1) d := if_neg h
theorem tb_mono (f : Nat → Option Rq) (m c : Nat) : (Tb f m).2.1 c ≤ (Tb f (m + 1)).2.1 c := by
  show _ ≤ (tS (Tb f m) (f m)).2.1 c
  cases hf : f m with
  | none => exact Int32.le_refl _
  | some w =>
    by_cases hd : dn (Tb f m) w
    · rw [tS_y hd]
      show _ ≤ up1 (Tb f m).2.1 (ln w.1) w.2.1 c
      unfold up1
      by_cases e : c = ln w.1
      · rw [if_pos e, e]
        exact Int32.le_of_lt hd
      · rw [if_neg e]
        exact Int32.le_refl _
    · rw [tS_n hd]
      exact Int32.le_refl _
section
variable {n K : Nat} {Y Y2 Y0 Y1 : Yc} {X X2 X0 X1 : Xc} {r a L : Nat}
theorem x_kept {e : Nat} (he : e < 700) (ha : a < 200) (Q : Int32 → Xc → Prop) (hQ : Q (if mt (X.2 82 a) (X.2 83 a) (xE X e) = true then 1 else 0) X) : wx_X12_isKept (nI e) (nI a) X Q := by
  have hv : vp_in (nI e) 700 := vp_in_nI (by omega) (by omega)
  have hv2 : vp_in (nI a) 200 := vp_in_nI (by omega) (by omega)
  have hc : (nI e).toNatClampNeg = e := nI_clamp (by omega)
  have hc2 : (nI a).toNatClampNeg = a := nI_clamp (by omega)
  unfold wx_X12_isKept
  rw [hc, hc2]
  refine ⟨hv, fun x2 e2 => ?_⟩
  subst e2
  refine ⟨fun h0 => ?_, fun h0 => ⟨hv, fun x6 e6 => ⟨hv2, fun x9 e9 => ?_⟩⟩⟩
  · have hx : xE X e = none := if_pos h0
    rw [hx, if_neg (mt_n _ _)] at hQ
    exact hQ
  · have hx : xE X e = some (X.2 31 e, X.2 32 e, X.2 33 e, X.2 34 e, X.2 35 e) := if_neg h0
    subst e6; subst e9
    refine ⟨fun h => ?_, fun h => ⟨hv, fun x13 e13 => ⟨hv2, fun x16 e16 => ?_⟩⟩⟩
    · rw [hx, if_neg (fun q => h (mt_s.mp q).1)] at hQ
      exact hQ
    · subst e13; subst e16
      refine ⟨fun g => ?_, fun g => ?_⟩
      · rw [hx, if_neg (fun q => g (mt_s.mp q).2)] at hQ
        exact hQ
      · rw [hx, if_pos (mt_s.mpr ⟨h, g⟩)] at hQ
        exact hQ
theorem y_sameR (q : Option Rq) (w : Rq) (Q : Int32 → Yc → Prop) (hQ : Q (if mt w.1 w.2.1 q = true then 1 else 0) Y) : wy_X11_isSameRequest n q (some w) Y Q := by
  cases q with
  | none =>
    rw [if_neg (mt_n _ _)] at hQ
    exact ⟨fun _ => hQ, fun w3 h => by cases h⟩
  | some v =>
    refine ⟨fun h => (by cases h), fun w3 h3 => ⟨fun h => (by cases h), fun w7 h7 x9 e9 x11 e11 => ?_⟩⟩
    cases h3; cases h7
    subst e9; subst e11
    refine ⟨fun h => ?_, fun h x14 e14 x16 e16 => ?_⟩
    · rw [if_neg (fun q => h (mt_s.mp q).1)] at hQ
      exact hQ
    · subst e14; subst e16
      refine ⟨fun g => ?_, fun g => ?_⟩
      · rw [if_neg (fun q => g (mt_s.mp q).2)] at hQ
        exact hQ
      · rw [if_pos (mt_s.mpr ⟨h, g⟩)] at hQ
        exact hQ
/-- what is needed of replica r's log and of what was accepted -/
def SpX (K : Nat) (X : Xc) (r a L : Nat) : Prop := r < 7 ∧ a < 200 ∧ L ≤ 100 ∧ X.2 26 r = nI L ∧ (∀ s, s < L → EnOK K (xE X (100 * r + s))) ∧ ∃ c, c < 4 ∧ X.2 82 a = nI c
abbrev lgX (X : Xc) (r : Nat) : Nat → Option Rq := fun s => xE X (100 * r + s)
/-- one step of the reference's search -/
theorem sp_step (H : SpX K X r a L) {s : Nat} (hs : s < L) (h1 : TX X X1) (h2 : TbX X1 (Tb (lgX X r) s)) : ∃ X2, TX X X2 ∧ TbX X2 (Tb (lgX X r) (s + 1)) ∧
    ∀ (Q : Int32 → Xc → Prop) (R : Int32 × Int32 × Int32 → Xc → Prop), (∀ t X, fx_X12_speaksAgainst_137 Q R t X → R t X) →
      (¬ (dnI (Tb (lgX X r) s) (lgX X r s) ≠ 0 ∧ mt (X.2 82 a) (X.2 83 a) (lgX X r s) = true) → R (nI r, nI a, nI (s + 1)) X2) →
      (dnI (Tb (lgX X r) s) (lgX X r s) ≠ 0 → mt (X.2 82 a) (X.2 83 a) (lgX X r s) = true → ((X2.2 64 (ln (X.2 82 a)) = X.2 87 a → Q 0 X2) ∧ (¬ X2.2 64 (ln (X.2 82 a)) = X.2 87 a → Q 1 X2))) → R (nI r, nI a, nI s) X1 := by
  obtain ⟨hr, ha, hL, hl, he, c, hc4, hcl⟩ := H
  obtain ⟨X2, r2, b2, g2⟩ := x_rep1 (K := K) h2 (e := 100 * r + s) (by omega) (by rw [h1.en]; exact he s hs)
  rw [h1.en] at b2 r2
  have t2 := h1.trans g2
  have hcr : (nI r).toNatClampNeg = r := nI_clamp (by omega)
  have hca : (nI a).toNatClampNeg = a := nI_clamp (by omega)
  have hcc : (nI c).toNatClampNeg = c := nI_clamp (by omega)
  refine ⟨X2, t2, b2, fun Q R hR hn hy => hR _ _ ⟨vp_in_nI (by omega) (by omega), fun x2 e2 => ?_⟩⟩
  have e2 : x2 = nI L := by
    rw [e2]
    show X1.2 26 (nI r).toNatClampNeg = _
    rw [hcr, h1.2 26 r (by omega), hl]
  subst e2
  refine ⟨fun q => absurd q (nI_ge (a := s) (b := L) hs (by omega)), fun _ x5 e5 => ?_⟩
  have e5 : x5 = nI (100 * r + s) := e5.trans idx100
  subst e5
  have nx : ∀ Z : Xc, R (nI r, nI a, nI (s + 1)) Z → bx_X12_speaksAgainst_202 R Q (nI r) (nI a) (nI s) Z := fun Z h x1 e1 => by
    have e1 : x1 = nI (s + 1) := e1.trans (nI_1 s)
    subst e1
    exact h
  refine r2 _ ⟨fun q => nx X2 (hn (fun z => z.1 q)), fun q => ?_⟩
  refine x_kept (X := X2) (by omega) ha _ ?_
  rw [t2.en, t2.2 82 a (by omega), t2.2 83 a (by omega)]
  by_cases hm : mt (X.2 82 a) (X.2 83 a) (xE X (100 * r + s)) = true
  · rw [if_pos hm]
    have hy := hy q hm
    refine ⟨fun z => absurd z (by decide), fun _ => ⟨vp_in_nI ha (by omega), fun x19 e19 => ?_⟩⟩
    have e19 : x19 = nI c := by
      rw [e19]
      show X2.2 82 (nI a).toNatClampNeg = _
      rw [hca, t2.2 82 a (by omega), hcl]
    subst e19
    refine ⟨vp_in_nI hc4 (by omega), fun x21 e21 => ⟨vp_in_nI ha (by omega), fun x24 e24 => ?_⟩⟩
    have e24 : x24 = X.2 87 a := by
      rw [e24]
      show X2.2 87 (nI a).toNatClampNeg = _
      rw [hca, t2.2 87 a (by omega)]
    have e21 : x21 = X2.2 64 (ln (X.2 82 a)) := by rw [e21, hcl]
    subst e24; subst e21
    exact hy
  · rw [if_neg hm]
    exact ⟨fun _ => nx X2 (hn (fun z => hm z.2)), fun z => absurd rfl z⟩
theorem sp_end (H : SpX K X r a L) (h1 : TX X X1) {Q : Int32 → Xc → Prop} {R : Int32 × Int32 × Int32 → Xc → Prop} (hR : ∀ t X, fx_X12_speaksAgainst_137 Q R t X → R t X) (hQ : Q 0 X1) : R (nI r, nI a, nI L) X1 := by
  obtain ⟨hr, ha, hL, hl, he, c, hc4, hcl⟩ := H
  have hcr : (nI r).toNatClampNeg = r := nI_clamp (by omega)
  refine hR _ _ ⟨vp_in_nI (by omega) (by omega), fun x2 e2 => ?_⟩
  have e2 : x2 = nI L := by
    rw [e2]
    show X1.2 26 (nI r).toNatClampNeg = _
    rw [hcr, h1.2 26 r (by omega), hl]
  subst e2
  exact ⟨fun _ => hQ, fun q => absurd (nI_le (Nat.le_refl L) (by omega)) q⟩
theorem dnI_0 {T : Tbl} {w : Rq} (h : dnI T (some w) ≠ 0) : dn T w := by
  apply Classical.byContradiction
  intro q
  exact h (if_neg q)
theorem dnI_1 {T : Tbl} {w : Rq} (h : dn T w) : dnI T (some w) ≠ 0 := by
  have : dnI T (some w) = 1 := if_pos h
  rw [this]
  decide
theorem x_dead (H : SpX K X r a L) : ∀ d s X1, s + d = L → TX X X1 → TbX X1 (Tb (lgX X r) s) → ¬ (Tb (lgX X r) s).2.1 (ln (X.2 82 a)) < X.2 83 a → ∃ X2, TX X X2 ∧ ∀ Q : Int32 → Xc → Prop, Q 0 X2 → LFx (fx_X12_speaksAgainst_137 Q) (nI r, nI a, nI s) X1 := by
  intro d
  induction d with
  | zero =>
    intro s X1 hs h1 h2 h3
    have hs : s = L := by omega
    subst hs
    exact ⟨X1, h1, fun Q hQ R hR => sp_end H h1 hR hQ⟩
  | succ d ih =>
    intro s X1 hs h1 h2 h3
    obtain ⟨X2, t2, b2, st⟩ := sp_step H (s := s) (by omega) h1 h2
    have h4 : ¬ (Tb (lgX X r) (s + 1)).2.1 (ln (X.2 82 a)) < X.2 83 a := fun q => by
      have := tb_mono (lgX X r) s (ln (X.2 82 a))
      rw [Int32.lt_iff_toInt_lt] at h3 q
      rw [Int32.le_iff_toInt_le] at this
      omega
    obtain ⟨X3, t3, g3⟩ := ih (s + 1) X2 (by omega) t2 b2 h4
    refine ⟨X3, t3, fun Q hQ R hR => st Q R hR (fun _ => g3 Q hQ R hR) (fun hd hm => ?_)⟩
    exfalso
    cases hf : lgX X r s with
    | none => rw [hf] at hm; exact mt_n _ _ hm
    | some w =>
      rw [hf] at hm hd
      have hd := dnI_0 hd
      have hm := mt_s.mp hm
      unfold dn at hd
      rw [hm.1, hm.2] at hd
      exact h3 hd
theorem x_live (H : SpX K X r a L) : ∀ d s X1, s + d = L → TX X X1 → TbX X1 (Tb (lgX X r) s) → ∃ X2, TX X X2 ∧ ∀ Q : Int32 → Xc → Prop, Q (agL (lgX X r) (X.2 82 a) (X.2 83 a) (X.2 87 a) s d) X2 → LFx (fx_X12_speaksAgainst_137 Q) (nI r, nI a, nI s) X1 := by
  intro d
  induction d with
  | zero =>
    intro s X1 hs h1 h2
    have hs : s = L := by omega
    subst hs
    exact ⟨X1, h1, fun Q hQ R hR => sp_end H h1 hR hQ⟩
  | succ d ih =>
    intro s X1 hs h1 h2
    obtain ⟨X2, t2, b2, st⟩ := sp_step H (s := s) (by omega) h1 h2
    by_cases hm : mt (X.2 82 a) (X.2 83 a) (lgX X r s) = true
    · rw [agL_y hm]
      cases hf : lgX X r s with
      | none => rw [hf] at hm; exact absurd hm (mt_n _ _)
      | some w =>
        have hw := hm
        rw [hf] at hw
        have hw := mt_s.mp hw
        by_cases hd : dn (Tb (lgX X r) s) w
        · refine ⟨X2, t2, fun Q hQ R hR => st Q R hR (fun q => absurd ⟨by rw [hf]; exact dnI_1 hd, hm⟩ q) (fun _ _ => ?_)⟩
          have hcl : ln (X.2 82 a) < 4 := by
            obtain ⟨_, _, _, _, _, c, hc4, hcl⟩ := H
            rw [hcl]
            show (nI c).toNatClampNeg < 4
            rw [nI_clamp (by omega)]
            exact hc4
          have e64 : X2.2 64 (ln (X.2 82 a)) = gv (Tb (lgX X r) s) w := by
            rw [b2.2.2 _ hcl]
            show (tS (Tb (lgX X r) s) (lgX X r s)).2.2 _ = _
            rw [hf, tS_y hd]
            show up1 _ (ln w.1) _ _ = _
            unfold up1
            rw [if_pos (by rw [hw.1])]
          have hQ : Q (if dn (Tb (lgX X r) s) w then (if gv (Tb (lgX X r) s) w = X.2 87 a then 0 else 1) else 0) X2 := hQ
          rw [if_pos hd] at hQ
          rw [e64]
          refine ⟨fun q => ?_, fun q => ?_⟩
          · rw [if_pos q] at hQ
            exact hQ
          · rw [if_neg q] at hQ
            exact hQ
        · have dead : ¬ (Tb (lgX X r) (s + 1)).2.1 (ln (X.2 82 a)) < X.2 83 a := by
            show ¬ (tS (Tb (lgX X r) s) (lgX X r s)).2.1 _ < _
            rw [hf, tS_n hd, ← hw.1, ← hw.2]
            exact hd
          obtain ⟨X3, t3, g3⟩ := x_dead H d (s + 1) X2 (by omega) t2 b2 dead
          refine ⟨X3, t3, fun Q hQ R hR => st Q R hR (fun _ => g3 Q ?_ R hR) (fun q _ => absurd (dnI_0 (by rw [hf] at q; exact q)) hd)⟩
          have hQ : Q (if dn (Tb (lgX X r) s) w then (if gv (Tb (lgX X r) s) w = X.2 87 a then 0 else 1) else 0) X3 := hQ
          rw [if_neg hd] at hQ
          exact hQ
    · rw [agL_n hm]
      obtain ⟨X3, t3, g3⟩ := ih (s + 1) X2 (by omega) t2 b2
      exact ⟨X3, t3, fun Q hQ R hR => st Q R hR (fun _ => g3 Q hQ R hR) (fun _ q => absurd q hm)⟩
/-- does replica r speak against what was accepted as a? -/
def Ag (n : Nat) (X : Xc) (r a : Nat) : Int32 :=
  if ldr n X r = r ∧ ¬ X.2 23 r = 2 ∧ ¬ X.2 21 r < X.2 85 a ∧ ¬ X.2 22 r < X.2 86 a then
    (if X.2 26 r < X.2 84 a ∨ ¬ mt (X.2 82 a) (X.2 83 a) (xE X (100 * r + (ln (X.2 84 a) - 1))) = true then 1
     else agL (lgX X r) (X.2 82 a) (X.2 83 a) (X.2 87 a) 0 (ln (X.2 26 r))) else 0
theorem Ag_tx (h : TX X0 X) (r a : Nat) : Ag n X r a = Ag n X0 r a := by
  have e : ∀ e, xE X e = xE X0 e := fun e => h.en e
  have e2 : lgX X r = lgX X0 r := funext fun s => e _
  unfold Ag ldr
  rw [e2, e, h.2 23 r (by omega), h.2 21 r (by omega), h.2 22 r (by omega), h.2 85 a (by omega), h.2 86 a (by omega), h.2 26 r (by omega), h.2 84 a (by omega), h.2 82 a (by omega), h.2 83 a (by omega), h.2 87 a (by omega)]
theorem SpX.mk' (S : Sim n K Y X) (hr : r < n) (ha : a < 200) (ha2 : a < ln (X.1 81)) : SpX K X r a (ln (X.2 26 r)) := by
  have hn := S.sc.n7
  have L := S.lg hr
  have hl := L.l100.ln (by omega)
  obtain ⟨⟨w, h1, h2, h3, h4⟩, _⟩ := S.pcs.2.2.1 a ha ha2
  obtain ⟨c, hc, e⟩ := h4.1
  exact ⟨by omega, ha, hl.1, hl.2, fun s hs => (L.ent s hs).2, c, hc, by rw [← h2, e]⟩
theorem against_x (S : Sim n K Y X) (hr : r < n) (ha : a < 200) (ha2 : a < ln (X.1 81)) : ∃ X2, TX X X2 ∧ ∀ Q : Int32 → Xc → Prop, Q (Ag n X r a) X2 → wx_X12_speaksAgainst (nI r) (nI a) X Q := by
  have hn := S.sc.n7
  obtain ⟨hcr, hv7, hvn⟩ := rep_arg S hr
  have hva : vp_in (nI a) 200 := vp_in_nI ha (by omega)
  have hca : (nI a).toNatClampNeg = a := nI_clamp (by omega)
  have H := SpX.mk' S hr ha ha2
  have hl := (S.lg hr).l100.ln (by omega)
  obtain ⟨_, hslot, hview, hans, s84, hs84, e84⟩ := S.pcs.2.2.1 a ha ha2
  by_cases hld : ldr n X r = r
  · by_cases hst : X.2 23 r = 2
    · refine ⟨X, TX.rf, fun Q hQ => ?_⟩
      have e : Ag n X r a = 0 := if_neg (fun q => q.2.1 hst)
      rw [e] at hQ
      refine x_leads S hr _ ⟨fun _ => hQ, fun _ => ⟨hv7, fun x7 e7 => ?_⟩⟩
      rw [hcr, hst] at e7
      subst e7
      exact ⟨fun q => absurd rfl q, fun _ => hQ⟩
    · have up : ∀ Q : Int32 → Xc → Prop, (X.2 85 a = X.2 21 r ∧ X.2 86 a = X.2 22 r → bx_X12_speaksAgainst_55 Q (nI r) (nI a) 1 X) → (¬ (X.2 85 a = X.2 21 r ∧ X.2 86 a = X.2 22 r) → bx_X12_speaksAgainst_55 Q (nI r) (nI a) 0 X) → wx_X12_speaksAgainst (nI r) (nI a) X Q := fun Q h1 h0 => by
        refine x_leads S hr _ ⟨fun q => absurd hld (lds_0.mp q), fun _ => ⟨hv7, fun x7 e7 => ?_⟩⟩
        rw [hcr] at e7
        subst e7
        refine ⟨fun _ => ⟨hva, fun x11 e11 => ⟨hv7, fun x14 e14 => ?_⟩⟩, fun q => absurd q hst⟩
        rw [hca] at e11
        rw [hcr] at e14
        subst e11; subst e14
        refine ⟨fun q => h0 (fun z => q z.1), fun q => ⟨hva, fun x18 e18 => ⟨hv7, fun x21 e21 => ?_⟩⟩⟩
        rw [hca] at e18
        rw [hcr] at e21
        subst e18; subst e21
        exact ⟨fun q2 => h0 (fun z => q2 z.2), fun q2 => h1 ⟨q, q2⟩⟩
      by_cases hcn : ¬ X.2 21 r < X.2 85 a ∧ ¬ X.2 22 r < X.2 86 a
      · have eA : Ag n X r a = (if X.2 26 r < X.2 84 a ∨ ¬ mt (X.2 82 a) (X.2 83 a) (xE X (100 * r + (ln (X.2 84 a) - 1))) = true then 1 else agL (lgX X r) (X.2 82 a) (X.2 83 a) (X.2 87 a) 0 (ln (X.2 26 r))) := if_pos ⟨hld, hst, hcn⟩
        -- both ways lead to 92
        have go : ∀ Q : Int32 → Xc → Prop, bx_X12_speaksAgainst_92 Q (nI r) (nI a) X → wx_X12_speaksAgainst (nI r) (nI a) X Q := fun Q h => by
          refine up Q (fun _ => ⟨fun _ => h, fun q => absurd q (by decide)⟩) (fun q => ⟨fun q => absurd rfl q, fun _ => ⟨hva, fun x3 e3 => ⟨hva, fun x6 e6 => ⟨hv7, fun x9 e9 => ⟨hv7, fun x12 e12 => ?_⟩⟩⟩⟩⟩)
          rw [hca] at e3 e6
          rw [hcr] at e9 e12
          subst e3; subst e6; subst e9; subst e12
          have b10 : bx_X12_isBehind_10 (fun (x14 : Int32) (X16 : Xc) => ((¬ x14 = 0 → bx_X12_speaksAgainst_92 Q (nI r) (nI a) X16) ∧ (x14 = 0 → Q (0 : Int32) X16))) (X.2 85 a) (X.2 86 a) (X.2 21 r) (X.2 22 r) X :=
            ⟨fun z => absurd z hcn.1, fun _ => ⟨fun z => absurd z hcn.2, fun _ => ⟨fun _ => h, fun z => absurd z (by decide)⟩⟩⟩
          refine ⟨fun _ => b10, fun z => ⟨fun z2 => ?_, fun _ => b10⟩⟩
          exfalso
          apply q
          have c1 := hcn.1
          have c2 := hcn.2
          rw [Int32.lt_iff_toInt_lt] at z c1 c2
          rw [Int32.le_iff_toInt_le] at z2
          exact ⟨Int32.toInt_inj.mp (by omega), Int32.toInt_inj.mp (by omega)⟩
        have hc84 : ln (X.2 84 a) = s84 + 1 := by rw [e84]; exact nI_clamp (by omega)
        by_cases hlen : X.2 26 r < X.2 84 a
        · refine ⟨X, TX.rf, fun Q hQ => go Q ⟨hva, fun x2 e2 => ⟨hv7, fun x5 e5 => ?_⟩⟩⟩
          rw [eA, if_pos (Or.inl hlen)] at hQ
          rw [hca] at e2
          rw [hcr] at e5
          subst e2; subst e5
          exact ⟨fun _ => hQ, fun q => absurd hlen q⟩
        · have hlen2 : s84 + 1 ≤ ln (X.2 26 r) := by
            apply Classical.byContradiction
            intro q
            apply hlen
            rw [hl.2, e84]
            exact nI_lt (by omega) (by omega)
          have hi : ((100 : Int32) * nI r + nI (s84 + 1)) - 1 = nI (100 * r + (ln (X.2 84 a) - 1)) := by
            rw [idx100, hc84]
            exact nI_sub (a := 100 * r + (s84 + 1)) (b := 1) (by omega)
          by_cases hm : mt (X.2 82 a) (X.2 83 a) (xE X (100 * r + (ln (X.2 84 a) - 1))) = true
          · obtain ⟨X1, r1, b1, t1⟩ := x_restart X
            obtain ⟨X2, t2, g2⟩ := x_live H (ln (X.2 26 r)) 0 X1 (by omega) t1 b1
            refine ⟨X2, t2, fun Q hQ => go Q ⟨hva, fun x2 e2 => ⟨hv7, fun x5 e5 => ?_⟩⟩⟩
            rw [eA, if_neg (fun q => q.elim hlen (fun q => q hm))] at hQ
            rw [hca] at e2
            rw [hcr] at e5
            subst e2; subst e5
            refine ⟨fun q => absurd q hlen, fun _ => ⟨hva, fun x9 e9 => ?_⟩⟩
            rw [hca, e84] at e9
            subst e9
            rw [hi]
            refine x_kept (by omega) ha _ ?_
            rw [if_pos hm]
            exact ⟨fun _ => r1 _ (g2 Q hQ), fun q => absurd q (by decide)⟩
          · refine ⟨X, TX.rf, fun Q hQ => go Q ⟨hva, fun x2 e2 => ⟨hv7, fun x5 e5 => ?_⟩⟩⟩
            rw [eA, if_pos (Or.inr hm)] at hQ
            rw [hca] at e2
            rw [hcr] at e5
            subst e2; subst e5
            refine ⟨fun q => absurd q hlen, fun _ => ⟨hva, fun x9 e9 => ?_⟩⟩
            rw [hca, e84] at e9
            subst e9
            rw [hi]
            refine x_kept (by omega) ha _ ?_
            rw [if_neg hm]
            exact ⟨fun q => absurd rfl q, fun _ => hQ⟩
      · refine ⟨X, TX.rf, fun Q hQ => ?_⟩
        have e : Ag n X r a = 0 := if_neg (fun q => hcn q.2.2)
        rw [e] at hQ
        refine up Q (fun q => ?_) (fun q => ⟨fun q => absurd rfl q, fun _ => ⟨hva, fun x3 e3 => ⟨hva, fun x6 e6 => ⟨hv7, fun x9 e9 => ⟨hv7, fun x12 e12 => ?_⟩⟩⟩⟩⟩)
        · exfalso
          apply hcn
          rw [q.1, q.2]
          exact ⟨Int32.lt_irrefl, Int32.lt_irrefl⟩
        · rw [hca] at e3 e6
          rw [hcr] at e9 e12
          subst e3; subst e6; subst e9; subst e12
          have z0 : (¬ (0 : Int32) = 0 → bx_X12_speaksAgainst_92 Q (nI r) (nI a) X) ∧ ((0 : Int32) = 0 → Q (0 : Int32) X) := ⟨fun z => absurd rfl z, fun _ => hQ⟩
          have b10 : bx_X12_isBehind_10 (fun (x14 : Int32) (X16 : Xc) => ((¬ x14 = 0 → bx_X12_speaksAgainst_92 Q (nI r) (nI a) X16) ∧ (x14 = 0 → Q (0 : Int32) X16))) (X.2 85 a) (X.2 86 a) (X.2 21 r) (X.2 22 r) X :=
            ⟨fun _ => z0, fun z => ⟨fun _ => z0, fun z2 => absurd ⟨z, z2⟩ hcn⟩⟩
          exact ⟨fun _ => b10, fun _ => ⟨fun _ => z0, fun _ => b10⟩⟩
  · refine ⟨X, TX.rf, fun Q hQ => ?_⟩
    have e : Ag n X r a = 0 := if_neg (fun q => hld q.1)
    rw [e] at hQ
    exact x_leads S hr _ ⟨fun _ => hQ, fun q => absurd (lds_0.mpr hld) q⟩
end
