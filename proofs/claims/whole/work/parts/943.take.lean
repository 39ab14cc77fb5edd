section
variable {n K : Nat} {Y Y2 : Yc} {X X2 : Xc} {r : Nat}
/-- cells equal but for what is held and the log -/
theorem rl_Rp {Y1 : Yc} {X1 : Xc} (gY : ∀ c, 800 ≤ c ∧ c < 900 → yI Y1 c r = yI Y c r) (gJ : ∀ c, 800 ≤ c ∧ c < 900 → yJ Y1 c r = yJ Y c r) (gX : ∀ k, (20 ≤ k ∧ k ≤ 25) ∨ k = 28 ∨ k = 29 ∨ (57 ≤ k ∧ k ≤ 61) → X1.2 k r = X.2 k r) (h : RpS n K Y X r) : RpS n K Y1 X1 r := by
  unfold RpS at *
  rw [gY 800 (by omega), gY 803 (by omega), gY 804 (by omega), gJ 805 (by omega), gJ 806 (by omega), gY 808 (by omega), gY 809 (by omega), gY 811 (by omega), gY 812 (by omega), gY 813 (by omega), gY 814 (by omega), gY 815 (by omega), gX 20 (by omega), gX 21 (by omega), gX 22 (by omega), gX 23 (by omega), gX 24 (by omega), gX 25 (by omega), gX 28 (by omega), gX 29 (by omega), gX 57 (by omega), gX 58 (by omega), gX 59 (by omega), gX 60 (by omega), gX 61 (by omega)]
  exact h
/-- one held taken out -/
def yRl (Y : Yc) (r i c : Nat) : Yc := uS (uA (uI Y 502 r (nI (c - 1))) 500 r i (yA Y 500 r (c - 1))) 501 r i (yS Y 501 r (c - 1))
theorem y_release {i c : Nat} {x : Int32} (hf : ∀ Q : Int32 → Yc → Prop, Q (nI i) Y → wy_X5_find n r x Y Q) (hi : i < c) (hc : c ≤ 9) (h502 : yI Y 502 r = nI c) (Q : Option Rq → Yc → Prop) (hQ : Q (yS Y 501 r i) (yRl Y r i c)) : wy_X5_release n r x Y Q := by
  have e1 : (nI i).toNatClampNeg = i := nI_clamp (by omega)
  have e2 : (nI (c - 1)).toNatClampNeg = c - 1 := nI_clamp (by omega)
  have v1 : vp_in (nI i) 9 := vp_in_nI (by omega) (by omega)
  have v2 : vp_in (nI (c - 1)) 9 := vp_in_nI (by omega) (by omega)
  unfold wy_X5_release
  refine hf _ ⟨fun h => absurd ((nI_lti (a := i) (b := 0) (by omega) (by omega)).mp h) (by omega), fun _ => ⟨fun h => absurd h (nI_ge (a := i) (b := 9) (by omega) (by omega)), fun _ x10 e10 => ?_⟩⟩
  rw [h502] at e10
  subst e10
  refine ⟨fun h => absurd ((nI_lti (a := c) (b := 1) (by omega) (by omega)).mp h) (by omega), fun _ x13 e13 => ?_⟩
  rw [h502] at e13
  subst e13
  refine ⟨fun _ => ⟨v1, fun q20 e20 x23 e23 x25 e25 x30 e30 => ?_⟩, fun h => absurd (nI_le (a := c) (b := 9) (by omega) (by omega)) h⟩
  rw [h502] at e23
  subst e23
  have e25 : x25 = nI (c - 1) := e25.trans (nI_sub (a := c) (b := 1) (by omega))
  subst e25
  have e30 : x30 = nI (c - 1) := by rw [e30, yII, if_pos ⟨rfl, rfl⟩]
  subst e30
  refine ⟨v2, fun x33 e33 => ⟨v1, fun x38 e38 => ?_⟩⟩
  have e38 : x38 = nI (c - 1) := by rw [e38, yIA, yII, if_pos ⟨rfl, rfl⟩]
  subst e38
  refine ⟨v2, fun q42 e42 => ⟨v1, ?_⟩⟩
  rw [e1] at *
  rw [e2] at *
  subst e33; subst e20; subst e42
  exact hQ
def yAd (Y : Yc) (r L : Nat) (q : Option Rq) : Yc := uI (uS Y 200 r L q) 201 r (nI (L + 1))
theorem y_add {L : Nat} {q : Option Rq} (hL : L < 100) (hl : yI Y 201 r = nI L) (Q : Yc → Prop) (hQ : Q (yAd Y r L q)) : wy_X2_add n r q Y Q := by
  unfold wy_X2_add
  intro x1 e1
  rw [hl] at e1
  subst e1
  refine ⟨fun h => absurd ((nI_lti (a := L) (b := 0) (by omega) (by omega)).mp h) (by omega), fun _ x4 e4 => ?_⟩
  rw [hl] at e4
  subst e4
  refine ⟨fun h => absurd h (nI_ge (a := L) (b := 100) (by omega) (by omega)), fun _ x10 e10 => ?_⟩
  rw [hl] at e10
  subst e10
  refine ⟨vp_in_nI hL (by omega), fun x13 e13 x15 e15 => ?_⟩
  have e13 : x13 = nI L := e13.trans hl
  subst e13
  rw [nI_1] at e15
  subst e15
  rw [nI_clamp (by omega)]
  exact hQ
/-- the entry written -/
def xWr (X : Xc) (e : Nat) (w : Rq) : Xc := xA (xA (xA (xA (xA (xA X 30 e 1) 31 e w.1) 32 e w.2.1) 33 e w.2.2.1) 34 e w.2.2.2.1) 35 e w.2.2.2.2
theorem xWr_k {e k j : Nat} {w : Rq} (h : ¬ (30 ≤ k ∧ k ≤ 35)) : (xWr X e w).2 k j = X.2 k j := by
  unfold xWr
  rw [xAA, if_neg (by omega), xAA, if_neg (by omega), xAA, if_neg (by omega), xAA, if_neg (by omega), xAA, if_neg (by omega), xAA, if_neg (by omega)]
theorem xWr_v {e : Nat} {w : Rq} : xE (xWr X e w) e = some w := by
  unfold xWr xE
  simp [xAA]
theorem xWr_o {e j : Nat} {w : Rq} (h : j ≠ e) : xE (xWr X e w) j = xE X j := by
  unfold xWr xE
  simp [xAA, h]
def xRl (X : Xc) (r i c : Nat) : Xc := xHs (xA X 36 r (nI (c - 1))) r i (X.2 37 (16 * r + (c - 1))) (xH X (16 * r + (c - 1)))
theorem x_drop {i c : Nat} (hr : r < 7) (hi : i < c) (hc : c ≤ 9) (hX : X.2 36 r = nI c) (Q : Xc → Prop) (hQ : Q (xRl X r i c)) : wx_X12_drop (nI r) (nI (16 * r + i)) X Q := by
  have hcr : (nI r).toNatClampNeg = r := nI_clamp (by omega)
  have hvr : vp_in (nI r) 7 := vp_in_nI (by omega) (by omega)
  have e1 : (nI (16 * r + i)).toNatClampNeg = 16 * r + i := nI_clamp (by omega)
  have v1 : vp_in (nI (16 * r + i)) 112 := vp_in_nI (by omega) (by omega)
  have e2 : (nI (16 * r + (c - 1))).toNatClampNeg = 16 * r + (c - 1) := nI_clamp (by omega)
  have v2 : vp_in (nI (16 * r + (c - 1))) 112 := vp_in_nI (by omega) (by omega)
  unfold wx_X12_drop
  rw [hcr, e1]
  refine ⟨hvr, fun x2 h2 x4 h4 => ⟨hvr, hvr, fun x7 h7 x9 h9 => ?_⟩⟩
  rw [hX] at h2
  subst h2
  have h4 : x4 = nI (c - 1) := h4.trans (nI_sub (a := c) (b := 1) (by omega))
  subst h4
  rw [xAA, if_pos ⟨rfl, rfl⟩] at h7
  subst h7
  rw [idx16] at h9
  subst h9
  rw [e2]
  refine ⟨v2, fun x13 h13 => ⟨v1, v2, fun x17 h17 => ⟨v1, v2, fun x21 h21 => ⟨v1, v2, fun x25 h25 => ⟨v1, v2, fun x29 h29 => ⟨v1, v2, fun x33 h33 => ⟨v1, ?_⟩⟩⟩⟩⟩⟩⟩
  subst h13; subst h17; subst h21; subst h25; subst h29; subst h33
  exact hQ
set_option maxHeartbeats 4000000 in
/-- one is taken: what it comes to, before the answer -/
theorem take_core (S : Sim9 n K r Y X) (hr : r < n) (hn : n ≤ 7) {i c L : Nat} (hi : i < c) (hc : c ≤ 9) (hX : X.2 36 r = nI c) (hL : L < 100) (hl : X.2 26 r = nI L) (hs : X.2 23 r ≠ 2) :
    Sim n K (yAd (yRl Y r i c) r L (yS Y 501 r i)) (xRl (xA (xWr X (100 * r + L) (xH X (16 * r + i))) 26 r (nI (L + 1))) r i c) ∧
    RgY r Y (yAd (yRl Y r i c) r L (yS Y 501 r i)) ∧ RgX r X (xRl (xA (xWr X (100 * r + L) (xH X (16 * r + i))) 26 r (nI (L + 1))) r i c) ∧ yS Y 501 r i = some (xH X (16 * r + i)) ∧ RqOK K (xH X (16 * r + i)) ∧
    (xRl (xA (xWr X (100 * r + L) (xH X (16 * r + i))) 26 r (nI (L + 1))) r i c).2 26 r = nI (L + 1) ∧ xE (xRl (xA (xWr X (100 * r + L) (xH X (16 * r + i))) 26 r (nI (L + 1))) r i c) (100 * r + L) = some (xH X (16 * r + i)) ∧ ∀ k, (20 ≤ k ∧ k ≤ 25) ∨ k = 27 → (xRl (xA (xWr X (100 * r + L) (xH X (16 * r + i))) 26 r (nI (L + 1))) r i c).2 k r = X.2 k r := by
  obtain ⟨Y0, X0, S0, gY, gX, a, b, h, d, _⟩ := S
  have hcc : ln (nI c) = c := nI_clamp (by omega)
  have hw := (h.2.2 i (by rw [hX, hcc]; exact hi)).2
  have gY1 : RgY r Y (yAd (yRl Y r i c) r L (yS Y 501 r i)) := by
    unfold yAd yRl
    exact ((((RgY.rf.wI (by omega) _).wA i (by omega) _).wS i (by omega) _).wS L (by omega) _).wI (by omega) _
  have gX1 : RgX r X (xRl (xA (xWr X (100 * r + L) (xH X (16 * r + i))) 26 r (nI (L + 1))) r i c) := by
    unfold xRl
    refine RgX.trans (RgX.trans ?_ (RgX.rf.wA (k := 26) (i := r) (by omega) _)) ((RgX.rf.wA (k := 36) (i := r) (by omega) _).trans (xHs_g (by omega)))
    unfold xWr
    exact (((((RgX.rf.wA (by omega) _).wA (by omega) _).wA (by omega) _).wA (by omega) _).wA (by omega) _).wA (by omega) _
  have kX : ∀ k j, ¬ (30 ≤ k ∧ k ≤ 35) → ¬ (37 ≤ k ∧ k ≤ 42) → ¬ (k = 26 ∧ j = r) → ¬ (k = 36 ∧ j = r) → (xRl (xA (xWr X (100 * r + L) (xH X (16 * r + i))) 26 r (nI (L + 1))) r i c).2 k j = X.2 k j := fun k j h1 h2 h3 h4 => by
    unfold xRl
    rw [xHs_k h2, xAA, if_neg h4, xAA, if_neg h3, xWr_k h1]
  have k36 : (xRl (xA (xWr X (100 * r + L) (xH X (16 * r + i))) 26 r (nI (L + 1))) r i c).2 36 r = nI (c - 1) := by
    unfold xRl
    rw [xHs_k (by omega), xAA, if_pos ⟨rfl, rfl⟩]
  have k26 : (xRl (xA (xWr X (100 * r + L) (xH X (16 * r + i))) 26 r (nI (L + 1))) r i c).2 26 r = nI (L + 1) := by
    unfold xRl
    rw [xHs_k (by omega), xAA, if_neg (by omega), xAA, if_pos ⟨rfl, rfl⟩]
  have kE : ∀ e, xE (xRl (xA (xWr X (100 * r + L) (xH X (16 * r + i))) 26 r (nI (L + 1))) r i c) e = xE (xWr X (100 * r + L) (xH X (16 * r + i))) e := fun e => by
    unfold xRl xE
    rw [xHs_k (by omega), xHs_k (by omega), xHs_k (by omega), xHs_k (by omega), xHs_k (by omega), xHs_k (by omega)]
    rfl
  have kH : ∀ j, xH (xA (xWr X (100 * r + L) (xH X (16 * r + i))) 26 r (nI (L + 1))) j = xH X j := fun j => by
    unfold xH
    rw [xAA, if_neg (by omega), xAA, if_neg (by omega), xAA, if_neg (by omega), xAA, if_neg (by omega), xAA, if_neg (by omega), xWr_k (by omega), xWr_k (by omega), xWr_k (by omega), xWr_k (by omega), xWr_k (by omega)]
  have k37 : ∀ j, (xA (xWr X (100 * r + L) (xH X (16 * r + i))) 26 r (nI (L + 1))).2 37 j = X.2 37 j := fun j => by
    rw [xAA, if_neg (by omega), xWr_k (by omega)]
  refine ⟨sim_rep S0 hr (gY.trans gY1) (gX.trans gX1) ⟨?_, ?_, ?_, ?_, ?_⟩, gY1, gX1, hw.1, hw.2, k26, by rw [kE, xWr_v], fun k hk => kX k r (by omega) (by omega) (by omega) (by omega)⟩
  · refine rl_Rp (Y := Y) (X := X) (fun c' h' => ?_) (fun c' h' => rfl) (fun k h' => kX k r (by omega) (by omega) (by omega) (by omega)) a
    unfold yAd yRl
    rw [yII, if_neg (by omega), yIS, yIS, yIA, yII, if_neg (by omega)]
  · have hcl : ln (nI (L + 1)) = L + 1 := nI_clamp (by omega)
    unfold LgS
    rw [k26, kX 27 r (by omega) (by omega) (by omega) (by omega)]
    refine ⟨?_, ?_, ⟨L + 1, by omega, rfl⟩, b.2.2.2.1, fun s hs' => ?_⟩
    · unfold yAd; rw [yII, if_pos ⟨rfl, rfl⟩]
    · unfold yAd yRl; rw [yII, if_neg (by omega), yIS, yIS, yIA, yII, if_neg (by omega)]; exact b.2.1
    · rw [hcl] at hs'
      rw [kE]
      by_cases e : s = L
      · subst e
        rw [xWr_v]
        refine ⟨?_, fun w ew => ?_⟩
        · unfold yAd
          rw [ySI, ySS, if_pos ⟨rfl, rfl, rfl⟩]
          exact hw.1
        · have ew : xH X (16 * r + i) = w := by simpa using ew
          subst ew
          exact hw.2
      · rw [xWr_o (by omega)]
        have hll : ln (nI L) = L := nI_clamp (by omega)
        have := b.2.2.2.2 s (by rw [hl, hll]; omega)
        refine ⟨?_, this.2⟩
        unfold yAd yRl
        rw [ySI, ySS, if_neg (by omega), ySS, if_neg (by omega)]
        exact this.1
  · have hcl : ln (nI (c - 1)) = c - 1 := nI_clamp (by omega)
    unfold HdS
    rw [k36]
    refine ⟨?_, ⟨c - 1, by omega, rfl⟩, fun j hj => ?_⟩
    · unfold yAd yRl; rw [yII, if_neg (by omega), yIS, yIS, yIA, yII, if_pos ⟨rfl, rfl⟩]
    · rw [hcl] at hj
      unfold xRl
      by_cases e : j = i
      · subst e
        rw [xHs_v.1, xHs_v.2, k37, kH]
        have := h.2.2 (c - 1) (by rw [hX, hcc]; omega)
        refine ⟨?_, ?_, this.2.2⟩
        · unfold yAd yRl
          rw [yAI, yAS, yAS, yAA, if_pos ⟨rfl, rfl, rfl⟩]
          exact this.1
        · unfold yAd yRl
          rw [ySI, ySS, if_neg (by omega), ySS, if_pos ⟨rfl, rfl, rfl⟩]
          exact this.2.1
      · rw [(xHs_o (by omega)).1, (xHs_o (by omega)).2]
        have hx : xH (xA (xA (xWr X (100 * r + L) (xH X (16 * r + i))) 26 r (nI (L + 1))) 36 r (nI (c - 1))) (16 * r + j) = xH X (16 * r + j) := kH _
        have hx2 : (xA (xA (xWr X (100 * r + L) (xH X (16 * r + i))) 26 r (nI (L + 1))) 36 r (nI (c - 1))).2 37 (16 * r + j) = X.2 37 (16 * r + j) := k37 _
        rw [hx, hx2]
        have := h.2.2 j (by rw [hX, hcc]; omega)
        refine ⟨?_, ?_, this.2.2⟩
        · unfold yAd yRl
          rw [yAI, yAS, yAS, yAA, if_neg (by omega)]
          exact this.1
        · unfold yAd yRl
          rw [ySI, ySS, if_neg (by omega), ySS, if_neg (by omega)]
          exact this.2.1
  · unfold CtS
    rw [kX 43 r (by omega) (by omega) (by omega) (by omega), kX 44 r (by omega) (by omega) (by omega) (by omega), kX 45 r (by omega) (by omega) (by omega) (by omega)]
    unfold yAd yRl
    simp only [yII, yIJ, yIA, yIB, yIP, yIS, yIR, yJI, yJJ, yJA, yJB, yJP, yJS, yJR, yAI, yAJ, yAA, yAB, yAP, yAS, yAR, yBI, yBJ, yBA, yBB, yBP, yBS, yBR, yPI, yPJ, yPA, yPB, yPP, yPS, yPR, ySI, ySJ, ySA, ySB, ySP, ySS, ySR, yRI, yRJ, yRA, yRB, yRP, yRS, yRR]
    simp
    exact d
  · intro q
    rw [kX 23 r (by omega) (by omega) (by omega) (by omega)] at q
    exact absurd q hs
end
