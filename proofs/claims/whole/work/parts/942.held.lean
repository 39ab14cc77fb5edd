section
variable {n K : Nat} {Y Y2 : Yc} {X X2 : Xc} {r : Nat}
theorem nI_lti {a b : Nat} (ha : a < 2 ^ 31) (hb : b < 2 ^ 31) : nI a < nI b ↔ a < b := by
  rw [Int32.lt_iff_toInt_lt, nI_toInt ha, nI_toInt hb]
  omega
theorem y_max {a b : Nat} (ha : a < 2 ^ 31) (hb : b < 2 ^ 31) (Q : Int32 → Yc → Prop) (hQ : Q (nI (max a b)) Y) : wy_J9_max_7cf53 n (nI a) (nI b) Y Q := by
  unfold wy_J9_max_7cf53
  refine ⟨fun h => ?_, fun h => ?_⟩
  · rw [nI_lti ha hb] at h
    rw [show max a b = b by omega] at hQ
    exact hQ
  · rw [nI_lti ha hb] at h
    rw [show max a b = a by omega] at hQ
    exact hQ
/-- a replica that may hold one more -/
def Sim9 (n K : Nat) (r : Nat) (Y : Yc) (X : Xc) : Prop := ∃ Y0 X0, Sim n K Y0 X0 ∧ RgY r Y0 Y ∧ RgX r X0 X ∧ RpS n K Y X r ∧ LgS K Y X r ∧ HdS 9 K Y X r ∧ CtS Y X r ∧ ChS n K Y X r
theorem Sim.s9 (S : Sim n K Y X) (hr : r < n) : Sim9 n K r Y X :=
  ⟨Y, X, S, RgY.rf, RgX.rf, S.rp hr, S.lg hr, ⟨(S.hd hr).1, (S.hd hr).2.1.mono (by omega), (S.hd hr).2.2⟩, S.ct hr, S.ch hr⟩
theorem Sim9.sim (S : Sim9 n K r Y X) (hr : r < n) (h : Sm 8 (X.2 36 r)) : Sim n K Y X := by
  obtain ⟨Y0, X0, S0, gY, gX, a, b, c, d, e⟩ := S
  exact sim_rep S0 hr gY gX ⟨a, b, ⟨c.1, h, c.2.2⟩, d, e⟩
theorem idx16 {r s : Nat} : (16 : Int32) * nI r + nI s = nI (16 * r + s) := by rw [show (16 : Int32) = nI 16 from rfl, nI_mul, nI_add]
/-- looking among what is held -/
theorem held_find {c : Nat} (H : HdS 9 K Y X r) (hr : r < 7) (hc : X.2 36 r = nI c) (hc9 : c ≤ 9) (x : Int32) :
    (∃ i, i < c ∧ X.2 37 (16 * r + i) = x ∧ (∀ Q : Int32 → Yc → Prop, Q (nI i) Y → wy_X5_find n r x Y Q) ∧ (∀ Q : Int32 → Xc → Prop, Q (nI (16 * r + i)) X → wx_X12_heldAt (nI r) x X Q)) ∨
    ((∀ i, i < c → X.2 37 (16 * r + i) ≠ x) ∧ (∀ Q : Int32 → Yc → Prop, Q (-1) Y → wy_X5_find n r x Y Q) ∧ (∀ Q : Int32 → Xc → Prop, Q (-1) X → wx_X12_heldAt (nI r) x X Q)) := by
  have hcr : (nI r).toNatClampNeg = r := nI_clamp (by omega)
  have hvr : vp_in (nI r) 7 := vp_in_nI (by omega) (by omega)
  have hcc : ln (nI c) = c := nI_clamp (by omega)
  have hy : yI Y 502 r = nI c := H.1.trans hc
  have key : ∀ d t, t + d = c → (∀ i, i < t → X.2 37 (16 * r + i) ≠ x) → (∃ i, i < c ∧ X.2 37 (16 * r + i) = x ∧ (∀ Q : Int32 → Yc → Prop, Q (nI i) Y → LFy (fy_X5_find_2 n r Q) (x, nI t) Y) ∧ (∀ Q : Int32 → Xc → Prop, Q (nI (16 * r + i)) X → LFx (fx_X12_heldAt_5 Q) (nI r, x, nI (16 * r + t)) X)) ∨
    ((∀ i, i < c → X.2 37 (16 * r + i) ≠ x) ∧ (∀ Q : Int32 → Yc → Prop, Q (-1) Y → LFy (fy_X5_find_2 n r Q) (x, nI t) Y) ∧ (∀ Q : Int32 → Xc → Prop, Q (-1) X → LFx (fx_X12_heldAt_5 Q) (nI r, x, nI (16 * r + t)) X)) := by
    intro d
    induction d with
    | zero =>
      intro t ht hb
      refine Or.inr ⟨fun i hi => hb i (by omega), fun Q hQ R hR => hR _ _ (fun x1 e1 => ?_), fun Q hQ R hR => hR _ _ ⟨hvr, fun x2 e2 => ?_⟩⟩
      · rw [hy] at e1; subst e1
        exact ⟨fun _ => hQ, fun h => absurd (nI_le (by omega) (by omega)) h⟩
      · have e2 : x2 = nI c := by rw [e2]; show X.2 36 (nI r).toNatClampNeg = _; rw [hcr]; exact hc
        subst e2
        exact ⟨fun _ => hQ, fun h => absurd (by show 16 * nI r + nI c ≤ nI (16 * r + t); rw [idx16]; exact nI_le (by omega) (by omega)) h⟩
    | succ d ih =>
      intro t ht hb
      have he := (H.2.2 t (by rw [hc, hcc]; omega)).1
      have hct : (nI t).toNatClampNeg = t := nI_clamp (by omega)
      have hct2 : (nI (16 * r + t)).toNatClampNeg = 16 * r + t := nI_clamp (by omega)
      have yg : ∀ (Q : Int32 → Yc → Prop) (R : Int32 × Int32 → Yc → Prop), ((¬ X.2 37 (16 * r + t) = x → R (x, nI (t + 1)) Y) ∧ (X.2 37 (16 * r + t) = x → Q (nI t) Y)) → fy_X5_find_2 n r Q R (x, nI t) Y := fun Q R h x1 e1 => by
        rw [hy] at e1; subst e1
        refine ⟨fun h => absurd h (nI_ge (by omega) (by omega)), fun _ => ⟨fun h => absurd h (nI_ge (a := t) (b := 9) (by omega) (by omega)), fun _ => ⟨vp_in_nI (by omega) (by omega), fun x7 e7 => ?_⟩⟩⟩
        have e7 : x7 = X.2 37 (16 * r + t) := by rw [e7]; show yA Y 500 r (nI t).toNatClampNeg = _; rw [hct]; exact he
        subst e7
        refine ⟨fun q x15 e15 => ?_, h.2⟩
        have e15 : x15 = nI (t + 1) := e15.trans (nI_1 _)
        subst e15
        exact h.1 q
      have xg : ∀ (Q : Int32 → Xc → Prop) (R : Int32 × Int32 × Int32 → Xc → Prop), ((¬ X.2 37 (16 * r + t) = x → R (nI r, x, nI (16 * r + (t + 1))) X) ∧ (X.2 37 (16 * r + t) = x → Q (nI (16 * r + t)) X)) → fx_X12_heldAt_5 Q R (nI r, x, nI (16 * r + t)) X := fun Q R h => by
        refine ⟨hvr, fun x2 e2 => ?_⟩
        have e2 : x2 = nI c := by rw [e2]; show X.2 36 (nI r).toNatClampNeg = _; rw [hcr]; exact hc
        subst e2
        refine ⟨fun h => absurd h (by show ¬ 16 * nI r + nI c ≤ nI (16 * r + t); rw [idx16]; exact nI_ge (by omega) (by omega)), fun _ => ⟨vp_in_nI (by omega) (by omega), fun x6 e6 => ?_⟩⟩
        have e6 : x6 = X.2 37 (16 * r + t) := by rw [e6]; show X.2 37 (nI (16 * r + t)).toNatClampNeg = _; rw [hct2]
        subst e6
        refine ⟨fun q x15 e15 => ?_, h.2⟩
        have e15 : x15 = nI (16 * r + (t + 1)) := e15.trans (nI_1 _)
        subst e15
        exact h.1 q
      by_cases e : X.2 37 (16 * r + t) = x
      · exact Or.inl ⟨t, by omega, e, fun Q hQ R hR => hR _ _ (yg Q R ⟨fun h => absurd e h, fun _ => hQ⟩), fun Q hQ R hR => hR _ _ (xg Q R ⟨fun h => absurd e h, fun _ => hQ⟩)⟩
      · rcases ih (t + 1) (by omega) (fun i hi => by
          by_cases q : i = t
          · rw [q]; exact e
          · exact hb i (by omega)) with ⟨k, hk, hx, a, b⟩ | ⟨hx, a, b⟩
        · exact Or.inl ⟨k, hk, hx, fun Q hQ R hR => hR _ _ (yg Q R ⟨fun _ => a Q hQ R hR, fun h => absurd h e⟩), fun Q hQ R hR => hR _ _ (xg Q R ⟨fun _ => b Q hQ R hR, fun h => absurd h e⟩)⟩
        · exact Or.inr ⟨hx, fun Q hQ R hR => hR _ _ (yg Q R ⟨fun _ => a Q hQ R hR, fun h => absurd h e⟩), fun Q hQ R hR => hR _ _ (xg Q R ⟨fun _ => b Q hQ R hR, fun h => absurd h e⟩)⟩
  have hx : ∀ Q : Int32 → Xc → Prop, LFx (fx_X12_heldAt_5 Q) (nI r, x, nI (16 * r + 0)) X → wx_X12_heldAt (nI r) x X Q := fun Q h => by
    unfold wx_X12_heldAt
    intro x1 e1
    have e1 : x1 = nI (16 * r + 0) := by rw [e1, show (16 : Int32) = nI 16 from rfl, nI_mul]; rfl
    subst e1
    exact h
  rcases key c 0 (by omega) (fun i hi => by omega) with ⟨k, hk, hx', a, b⟩ | ⟨hx', a, b⟩
  · exact Or.inl ⟨k, hk, hx', a, fun Q hQ => hx Q (b Q hQ)⟩
  · exact Or.inr ⟨hx', a, fun Q hQ => hx Q (b Q hQ)⟩
/-- one held is set: the class's cell i of c, the reference's -/
def yHs (Y : Yc) (r i : Nat) (x : Int32) (w : Option Rq) (c : Int32) : Yc := uI (uS (uA Y 500 r i x) 501 r i w) 502 r c
def xHs (X : Xc) (r i : Nat) (x : Int32) (w : Rq) : Xc := xA (xA (xA (xA (xA (xA X 37 (16 * r + i) x) 38 (16 * r + i) w.1) 39 (16 * r + i) w.2.1) 40 (16 * r + i) w.2.2.1) 41 (16 * r + i) w.2.2.2.1) 42 (16 * r + i) w.2.2.2.2
theorem yHs_g {i : Nat} {x : Int32} {w : Option Rq} {c : Int32} : RgY r Y (yHs Y r i x w c) := ((RgY.rf.wA i (by omega) x).wS i (by omega) w).wI (by omega) c
theorem xHs_g {i : Nat} (hi : i < 16) {x : Int32} {w : Rq} : RgX r X (xHs X r i x w) := (((((RgX.rf.wA (by omega) _).wA (by omega) _).wA (by omega) _).wA (by omega) _).wA (by omega) _).wA (by omega) _
theorem xHs_v {i : Nat} {x : Int32} {w : Rq} : (xHs X r i x w).2 37 (16 * r + i) = x ∧ xH (xHs X r i x w) (16 * r + i) = w := by
  unfold xHs xH
  simp [xAA]
theorem xHs_o {i j : Nat} {x : Int32} {w : Rq} (h : j ≠ 16 * r + i) : (xHs X r i x w).2 37 j = X.2 37 j ∧ xH (xHs X r i x w) j = xH X j := by
  unfold xHs xH
  simp [xAA, h]
theorem xHs_k {i k j : Nat} {x : Int32} {w : Rq} (h : ¬ (37 ≤ k ∧ k ≤ 42)) : (xHs X r i x w).2 k j = X.2 k j := by
  unfold xHs
  rw [xAA, if_neg (by omega), xAA, if_neg (by omega), xAA, if_neg (by omega), xAA, if_neg (by omega), xAA, if_neg (by omega), xAA, if_neg (by omega)]
theorem hs_Rp {i : Nat} {x c c' : Int32} {w : Option Rq} {v : Rq} (h : RpS n K Y X r) : RpS n K (yHs Y r i x w c) (xHs (xA X 36 r c') r i x v) r := by
  unfold RpS at *
  rw [xHs_k (by omega), xHs_k (by omega), xHs_k (by omega), xHs_k (by omega), xHs_k (by omega), xHs_k (by omega), xHs_k (by omega), xHs_k (by omega), xHs_k (by omega), xHs_k (by omega), xHs_k (by omega), xHs_k (by omega), xHs_k (by omega)]
  exact h
theorem hs_Lg {i : Nat} {x c c' : Int32} {w : Option Rq} {v : Rq} (h : LgS K Y X r) : LgS K (yHs Y r i x w c) (xHs (xA X 36 r c') r i x v) r := by
  have hx : ∀ e, xE (xHs (xA X 36 r c') r i x v) e = xE X e := fun e => by
    unfold xE
    rw [xHs_k (by omega), xHs_k (by omega), xHs_k (by omega), xHs_k (by omega), xHs_k (by omega), xHs_k (by omega)]
    rfl
  unfold LgS at *
  rw [xHs_k (by omega), xHs_k (by omega)]
  refine ⟨h.1, h.2.1, h.2.2.1, h.2.2.2.1, fun s hs => ?_⟩
  rw [hx]
  exact h.2.2.2.2 s hs
theorem hs_Ct {i : Nat} {x c c' : Int32} {w : Option Rq} {v : Rq} (h : CtS Y X r) : CtS (yHs Y r i x w c) (xHs (xA X 36 r c') r i x v) r := by
  unfold CtS at *
  rw [xHs_k (by omega), xHs_k (by omega), xHs_k (by omega)]
  exact h
theorem hs_Ch {i : Nat} {x c c' : Int32} {w : Option Rq} {v : Rq} (h : X.2 23 r ≠ 2) : ChS n K (yHs Y r i x w c) (xHs (xA X 36 r c') r i x v) r := by
  intro q
  rw [xHs_k (by omega)] at q
  exact absurd q h
theorem xA_same {k i : Nat} : xA X k i (X.2 k i) = X := by
  have : (xA X k i (X.2 k i)).2 = X.2 := by
    funext k' i'
    rw [xAA]
    split
    · rename_i h; rw [h.1, h.2]
    · rfl
  exact Prod.ext rfl this
/-- a request is held: its numbers stand at p in the message -/
theorem hold_sim (S : Sim n K Y X) (hr : r < n) (hs : X.2 23 r ≠ 2) {o : Nat} {l : List Int32} (H : Han n K Y X o l) {p : Nat} (hp : p < 600) {w : Rq} (hw : yP Y 307 o = some w) (hk : RqOK K w)
    (h0 : X.2 15 p = w.1) (h1 : X.2 15 (p + 1) = w.2.1) (h2 : X.2 15 (p + 2) = w.2.2.1) (h3 : X.2 15 (p + 3) = w.2.2.2.1) (h4 : X.2 15 (p + 4) = w.2.2.2.2) (x : Int32) :
    ∃ Y2 X2, (∀ Q : Yc → Prop, Q Y2 → wy_X5_hold n r x (yP Y 307 o) Y Q) ∧ (∀ Q : Xc → Prop, Q X2 → wx_X12_hold (nI r) x (nI p) X Q) ∧ Sim9 n K r Y2 X2 ∧ RgY r Y Y2 ∧ RgX r X X2 ∧
      (∃ i c, X2.2 36 r = nI c ∧ i < c ∧ c ≤ 9 ∧ X2.2 37 (16 * r + i) = x ∧ c ≤ ln (X.2 36 r) + 1) ∧ X2.2 23 r = X.2 23 r ∧ X2.2 26 r = X.2 26 r ∧ X2.2 27 r = X.2 27 r := by
  have hn := S.sc.n7
  have hcr : (nI r).toNatClampNeg = r := nI_clamp (by omega)
  have hvr : vp_in (nI r) 7 := vp_in_nI (by omega) (by omega)
  obtain ⟨c, hc8, hc⟩ := (S.hd hr).2.1
  have H9 : HdS 9 K Y X r := ⟨(S.hd hr).1, (S.hd hr).2.1.mono (by omega), (S.hd hr).2.2⟩
  have hcc : ln (nI c) = c := nI_clamp (by omega)
  have h502 : yI Y 502 r = nI c := (S.hd hr).1.trans hc
  have b37 : ∀ (X' : Xc) (i : Nat) (Q : Xc → Prop), i < 16 → X'.2 15 = X.2 15 → Q (xHs X' r i x w) → bx_X12_hold_37 Q x (nI p) (nI (16 * r + i)) X' := fun X' i Q hi h15 hQ => by
    have e1 : (nI (16 * r + i)).toNatClampNeg = 16 * r + i := nI_clamp (by omega)
    have v1 : vp_in (nI (16 * r + i)) 112 := vp_in_nI (by omega) (by omega)
    have ep : ∀ j, j < 5 → (nI (p + j)).toNatClampNeg = p + j := fun j hj => nI_clamp (by omega)
    have vpp : ∀ j, j < 5 → vp_in (nI (p + j)) 640 := fun j hj => vp_in_nI (by omega) (by omega)
    unfold bx_X12_hold_37
    rw [e1]
    refine ⟨v1, vpp 0 (by omega), fun x4 e4 => ⟨v1, fun x8 e8 => ?_⟩⟩
    have e4 : x4 = w.1 := by rw [e4]; show X'.2 15 (nI (p + 0)).toNatClampNeg = _; rw [ep 0 (by omega), h15]; exact h0
    have e8 : x8 = nI (p + 1) := by rw [e8]; exact nI_add p 1
    subst e4; subst e8
    refine ⟨vpp 1 (by omega), fun x10 e10 => ⟨v1, fun x14 e14 => ?_⟩⟩
    have e10 : x10 = w.2.1 := by rw [e10]; show X'.2 15 (nI (p + 1)).toNatClampNeg = _; rw [ep 1 (by omega), h15]; exact h1
    have e14 : x14 = nI (p + 2) := by rw [e14]; exact nI_add p 2
    subst e10; subst e14
    refine ⟨vpp 2 (by omega), fun x16 e16 => ⟨v1, fun x20 e20 => ?_⟩⟩
    have e16 : x16 = w.2.2.1 := by rw [e16]; show X'.2 15 (nI (p + 2)).toNatClampNeg = _; rw [ep 2 (by omega), h15]; exact h2
    have e20 : x20 = nI (p + 3) := by rw [e20]; exact nI_add p 3
    subst e16; subst e20
    refine ⟨vpp 3 (by omega), fun x22 e22 => ⟨v1, fun x26 e26 => ?_⟩⟩
    have e22 : x22 = w.2.2.2.1 := by rw [e22]; show X'.2 15 (nI (p + 3)).toNatClampNeg = _; rw [ep 3 (by omega), h15]; exact h3
    have e26 : x26 = nI (p + 4) := by rw [e26]; exact nI_add p 4
    subst e22; subst e26
    refine ⟨vpp 4 (by omega), fun x28 e28 => ⟨v1, ?_⟩⟩
    have e28 : x28 = w.2.2.2.2 := by rw [e28]; show X'.2 15 (nI (p + 4)).toNatClampNeg = _; rw [ep 4 (by omega), h15]; exact h4
    subst e28
    exact hQ
  have y16 : ∀ (i : Nat) (Q : Yc → Prop), i < 9 → Q (yHs Y r i x (some w) (nI (max c (i + 1)))) → by_X5_hold_16 n r Q x (some w) (nI i) Y := fun i Q hi hQ => by
    unfold by_X5_hold_16
    have e1 : (nI i).toNatClampNeg = i := nI_clamp (by omega)
    rw [e1]
    refine ⟨fun h => absurd ((nI_lti (a := i) (b := 0) (by omega) (by omega)).mp h) (by omega), fun _ => ⟨fun _ => ⟨vp_in_nI hi (by omega), vp_in_nI hi (by omega), fun x9 e9 => ?_⟩, fun h => absurd ((nI_lti (a := i) (b := 9) (by omega) (by omega)).mpr hi) h⟩⟩
    have e9 : x9 = nI c := e9.trans h502
    subst e9
    rw [nI_1]
    exact y_max (by omega) (by omega) _ hQ
  have fin : ∀ i c', i < 9 → c' = max c (i + 1) → i ≤ c → c' ≤ 9 → Sim9 n K r (yHs Y r i x (some w) (nI c')) (xHs (xA X 36 r (nI c')) r i x w) ∧ RgY r Y (yHs Y r i x (some w) (nI c')) ∧ RgX r X (xHs (xA X 36 r (nI c')) r i x w) ∧
      (∃ i' c'', (xHs (xA X 36 r (nI c')) r i x w).2 36 r = nI c'' ∧ i' < c'' ∧ c'' ≤ 9 ∧ (xHs (xA X 36 r (nI c')) r i x w).2 37 (16 * r + i') = x ∧ c'' ≤ ln (X.2 36 r) + 1) ∧ (xHs (xA X 36 r (nI c')) r i x w).2 23 r = X.2 23 r ∧ (xHs (xA X 36 r (nI c')) r i x w).2 26 r = X.2 26 r ∧ (xHs (xA X 36 r (nI c')) r i x w).2 27 r = X.2 27 r := fun i c' hi hc' hic h9 => by
    have g36 : (xHs (xA X 36 r (nI c')) r i x w).2 36 r = nI c' := by rw [xHs_k (by omega), xAA, if_pos ⟨rfl, rfl⟩]
    have gY := yHs_g (Y := Y) (r := r) (i := i) (x := x) (w := some w) (c := nI c')
    have gX : RgX r X (xHs (xA X 36 r (nI c')) r i x w) := (RgX.rf.wA (by omega) (nI c')).trans (xHs_g (by omega))
    refine ⟨⟨Y, X, S, gY, gX, hs_Rp (S.rp hr), hs_Lg (S.lg hr), ⟨?_, ?_, fun j hj => ?_⟩, hs_Ct (S.ct hr), hs_Ch hs⟩, gY, gX, ⟨i, c', g36, by omega, h9, xHs_v.1, by rw [hc, hcc]; omega⟩, ?_, ?_, ?_⟩
    · rw [g36]; unfold yHs; rw [yII, if_pos ⟨rfl, rfl⟩]
    · rw [g36]; exact ⟨c', h9, rfl⟩
    · have hcl' : ln (nI c') = c' := nI_clamp (by omega)
      rw [g36, hcl'] at hj
      by_cases e : j = i
      · subst e
        rw [xHs_v.1, xHs_v.2]
        refine ⟨?_, ?_, hk⟩
        · show yA (uA Y 500 r j x) 500 r j = x
          rw [yAA, if_pos ⟨rfl, rfl, rfl⟩]
        · show yS (uS (uA Y 500 r j x) 501 r j (some w)) 501 r j = some w
          rw [ySS, if_pos ⟨rfl, rfl, rfl⟩]
      · rw [(xHs_o (by omega)).1, (xHs_o (by omega)).2]
        have hj' : j < c := by omega
        have := (S.hd hr).2.2 j (by rw [hc, hcc]; exact hj')
        refine ⟨?_, ?_, this.2.2⟩
        · show yA (uA Y 500 r i x) 500 r j = X.2 37 _
          rw [yAA, if_neg (by omega)]
          exact this.1
        · show yS (uS (uA Y 500 r i x) 501 r i (some w)) 501 r j = some (xH X _)
          rw [ySS, if_neg (by omega)]
          exact this.2.1
    · rw [xHs_k (by omega)]; rfl
    · rw [xHs_k (by omega)]; rfl
    · rw [xHs_k (by omega)]; rfl
  rcases held_find (n := n) H9 (by omega) hc (by omega) x with ⟨i, hi, hx, fy, fx⟩ | ⟨hx, fy, fx⟩
  · refine ⟨_, _, fun Q hQ => ?_, fun Q hQ => ?_, fin i c (by omega) (by omega) (by omega) (by omega)⟩
    · unfold wy_X5_hold
      rw [hw]
      refine fy _ ⟨fun _ => y16 i Q (by omega) (by rw [show max c (i + 1) = c by omega]; exact hQ), fun h => absurd h (nI_ne1 (by omega))⟩
    · unfold wx_X12_hold
      refine fx _ ⟨fun _ => b37 X i Q (by omega) rfl (by rw [← hc, xA_same] at hQ; exact hQ), fun h => absurd h (nI_ne1 (by omega))⟩
  · refine ⟨_, _, fun Q hQ => ?_, fun Q hQ => ?_, fin c (c + 1) (by omega) (by omega) (by omega) (by omega)⟩
    · unfold wy_X5_hold
      rw [hw]
      refine fy _ ⟨fun h => absurd rfl h, fun _ x9 e9 => ?_⟩
      rw [h502] at e9
      subst e9
      exact y16 c Q (by omega) (by rw [show max c (c + 1) = c + 1 by omega]; exact hQ)
    · unfold wx_X12_hold
      refine fx _ ⟨fun h => absurd rfl h, fun _ => ⟨hvr, fun x7 e7 x9 e9 => ⟨hvr, fun x12 e12 x14 e14 => ⟨hvr, ?_⟩⟩⟩⟩
      rw [hcr] at *
      rw [hc] at e7 e12
      subst e7; subst e12
      rw [nI_1] at e14
      rw [idx16] at e9
      subst e14; subst e9
      exact b37 _ c Q (by omega) rfl hQ
end
