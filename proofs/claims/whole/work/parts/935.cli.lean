section
variable {n K : Nat} {Y Y2 : Yc} {X X2 : Xc} {r c : Nat}
theorem sim_sc (S : Sim n K Y X) (hI : ∀ c o, c < 1000 → ¬ (406 ≤ c ∧ c ≤ 408) → yI Y2 c o = yI Y c o) (hJ : yJ Y2 = yJ Y) (hA : yA Y2 = yA Y) (hB : yB Y2 = yB Y) (hP : yP Y2 = yP Y) (hS : yS Y2 = yS Y) (hR : yR Y2 = yR Y)
    (hX : ∀ k, k ≠ 0 → k ≠ 4 → k ≠ 7 → k ≠ 8 → ¬ (16 ≤ k ∧ k ≤ 19) → X2.1 k = X.1 k) (hX2 : X2.2 = X.2) (h : ScS n K Y2 X2) : Sim n K Y2 X2 := by
  have hn := S.sc.n7
  have cY : CoY Y Y2 := ⟨fun c o h => hI c o (by omega) (by omega), fun c o h => by rw [hJ], fun c o i h => by rw [hA], fun c o h => by rw [hP]⟩
  have cX : CoX X X2 := ⟨fun k h => hX k (by omega) (by omega) (by omega) (by omega) (by omega), fun k i h => by rw [hX2]⟩
  refine Sim.mk h ⟨fun r hr => eq_RpA ⟨fun c h => hI c r (by omega) (by omega), fun c h => by rw [hJ], fun c o h1 h2 => hI c o (by omega) (by omega), by rw [hA], by rw [hS], fun o h => by rw [hS], by rw [hB]⟩ ⟨fun k h => by rw [hX2], fun k s h1 h2 => by rw [hX2], fun k s h1 h2 => by rw [hX2], fun k s h1 h2 => by rw [hX2], fun k q s h1 h2 h3 => by rw [hX2]⟩ hn (S.pcs.1 r hr), fun c hc => co_Cl cY cX (S.pcs.2.1 c hc), fun a h1 h2 => ?_, co_By cY cX (by omega) (by omega) S.pcs.2.2.2.1, co_By cY cX (by omega) (by omega) S.pcs.2.2.2.2.1, co_Rd cY cX (by have h := S.pcs.2.2.2.2.2.1; unfold B01 at *; rw [hX2]; exact h) S.pcs.2.2.2.2.2⟩ (ae_Ar ⟨hI 405 0 (by omega) (by omega), hI 404 0 (by omega) (by omega), hR, fun i => ⟨fun c h1 h2 => hI c i (by omega) (by omega), by rw [hJ], by rw [hJ], by rw [hP], hI 201 _ (by omega) (by omega), hI 202 _ (by omega) (by omega), by rw [hS]⟩⟩ ⟨hX 6 (by omega) (by omega) (by omega) (by omega) (by omega), fun k i h => by rw [hX2]⟩ S.ar)
  rw [hX 81 (by omega) (by omega) (by omega) (by omega) (by omega)] at h2
  exact co_Kp cY cX (S.pcs.2.2.1 a h1 h2)
/-- client c's own cells -/
def CgY (c : Nat) (Y Y2 : Yc) : Prop :=
  (∀ k o, ¬ (100 ≤ k ∧ k < 200 ∧ o = c) → ¬ (600 ≤ k ∧ k < 700 ∧ (o = c ∨ (4 + 64 * c ≤ o ∧ o < 68 + 64 * c))) → yI Y2 k o = yI Y k o) ∧
  (∀ k o, ¬ (600 ≤ k ∧ k < 700 ∧ (o = c ∨ (4 + 64 * c ≤ o ∧ o < 68 + 64 * c))) → yJ Y2 k o = yJ Y k o) ∧ yA Y2 = yA Y ∧ yB Y2 = yB Y ∧
  (∀ k o, ¬ (k = 100 ∧ o = c) → ¬ (k = 600 ∧ (o = c ∨ (4 + 64 * c ≤ o ∧ o < 68 + 64 * c))) → yP Y2 k o = yP Y k o) ∧ yS Y2 = yS Y ∧ yR Y2 = yR Y
def CgX (c : Nat) (X X2 : Xc) : Prop := (∀ k, k ≠ 14 → X2.1 k = X.1 k) ∧ (∀ k i, ¬ ((65 ≤ k ∧ k ≤ 75) ∧ i = c) → ¬ ((76 ≤ k ∧ k ≤ 80) ∧ 64 * c ≤ i ∧ i < 64 * c + 64) → X2.2 k i = X.2 k i)
theorem CgY.rf : CgY c Y Y := ⟨fun _ _ _ _ => rfl, fun _ _ _ => rfl, rfl, rfl, fun _ _ _ _ => rfl, rfl, rfl⟩
theorem CgX.rf : CgX c X X := ⟨fun _ _ => rfl, fun _ _ _ _ => rfl⟩
theorem CgY.wI (h : CgY c Y Y2) {k o : Nat} (hk : (100 ≤ k ∧ k < 200 ∧ o = c) ∨ (600 ≤ k ∧ k < 700 ∧ (o = c ∨ (4 + 64 * c ≤ o ∧ o < 68 + 64 * c)))) (v : Int32) : CgY c Y (uI Y2 k o v) := by
  obtain ⟨h1, h2⟩ := h
  refine ⟨fun k' o' a b => ?_, h2⟩
  rw [yII, if_neg (by omega)]; exact h1 k' o' a b
theorem CgY.wJ (h : CgY c Y Y2) {k o : Nat} (hk : 600 ≤ k ∧ k < 700 ∧ (o = c ∨ (4 + 64 * c ≤ o ∧ o < 68 + 64 * c))) (v : Int64) : CgY c Y (uJ Y2 k o v) := by
  obtain ⟨h1, h2, h3⟩ := h
  refine ⟨h1, fun k' o' a => ?_, h3⟩
  rw [yJJ, if_neg (by omega)]; exact h2 k' o' a
theorem CgY.wP (h : CgY c Y Y2) {k o : Nat} (hk : (k = 100 ∧ o = c) ∨ (k = 600 ∧ (o = c ∨ (4 + 64 * c ≤ o ∧ o < 68 + 64 * c)))) (v : Option Rq) : CgY c Y (uP Y2 k o v) := by
  obtain ⟨h1, h2, h3, h4, h5, h6⟩ := h
  refine ⟨h1, h2, h3, h4, fun k' o' a b => ?_, h6⟩
  rw [yPP, if_neg (by omega)]; exact h5 k' o' a b
theorem CgX.wA (h : CgX c X X2) {k i : Nat} (hk : ((65 ≤ k ∧ k ≤ 75) ∧ i = c) ∨ ((76 ≤ k ∧ k ≤ 80) ∧ 64 * c ≤ i ∧ i < 64 * c + 64)) (v : Int32) : CgX c X (xA X2 k i v) := by
  obtain ⟨h1, h2⟩ := h
  refine ⟨h1, fun k' i' a b => ?_⟩
  rw [xAA, if_neg (by omega)]; exact h2 k' i' a b
theorem cl_congr {d : Nat} (hd : d < 4) (hI : ∀ k o, (100 ≤ k ∧ k < 200 ∧ o = d) ∨ (600 ≤ k ∧ k < 700 ∧ (o = d ∨ (4 + 64 * d ≤ o ∧ o < 68 + 64 * d))) → yI Y2 k o = yI Y k o) (hJ : ∀ k o, 600 ≤ k ∧ k < 700 ∧ (o = d ∨ (4 + 64 * d ≤ o ∧ o < 68 + 64 * d)) → yJ Y2 k o = yJ Y k o) (hP : ∀ k o, (k = 100 ∧ o = d) ∨ (k = 600 ∧ (o = d ∨ (4 + 64 * d ≤ o ∧ o < 68 + 64 * d))) → yP Y2 k o = yP Y k o)
    (hX : ∀ k i, ((65 ≤ k ∧ k ≤ 75) ∧ i = d) ∨ ((76 ≤ k ∧ k ≤ 80) ∧ 64 * d ≤ i ∧ i < 64 * d + 64) → X2.2 k i = X.2 k i) (h : ClS K Y X d) : ClS K Y2 X2 d := by
  unfold ClS at *
  obtain ⟨a1, a2, a3, a4, a5, a6, a7, a8, a9, a10, a11, f, hf, hf2, hf3⟩ := h
  have hl := (a11.ln (by omega)).1
  rw [hI 101 d (by omega), hI 102 d (by omega), hI 103 d (by omega), hI 602 d (by omega), hI 604 d (by omega), hI 107 d (by omega), hI 106 d (by omega), hJ 601 d (by omega), hP 100 d (by omega), hX 65 d (by omega), hX 66 d (by omega), hX 67 d (by omega), hX 68 d (by omega), hX 69 d (by omega), hX 70 d (by omega), hX 71 d (by omega), hX 72 d (by omega), hX 73 d (by omega), hX 74 d (by omega), hX 75 d (by omega)]
  refine ⟨a1, a2, a3, a4, a5, a6, a7, a8, a9, a10, a11, f, hf, hf2, fun i hi => ?_⟩
  obtain ⟨p, q⟩ := hf3 i hi
  have hm : (f + i) % 64 < 64 := Nat.mod_lt _ (by omega)
  refine ⟨?_, by rw [hP 600 _ (by omega)]; exact q⟩
  unfold PlS at *
  rw [hJ 601 _ (by omega), hI 602 _ (by omega), hI 603 _ (by omega), hI 604 _ (by omega), hX 76 _ (by omega), hX 77 _ (by omega), hX 78 _ (by omega), hX 79 _ (by omega), hX 80 _ (by omega)]
  exact p
theorem CgY.meq (h : CgY c Y Y2) (i : Nat) : MEq Y Y2 i :=
  ⟨fun k h1 h2 => h.1 k i (by omega) (by omega), h.2.1 304 i (by omega), h.2.1 305 i (by omega), h.2.2.2.2.1 307 i (by omega) (by omega), h.1 201 _ (by omega) (by omega), h.1 202 _ (by omega) (by omega), by rw [h.2.2.2.2.2.1]⟩
theorem sim_cli (S : Sim n K Y X) (hc : c < 4) (hY : CgY c Y Y2) (hX : CgX c X X2) (h : ClS K Y2 X2 c) : Sim n K Y2 X2 := by
  have hn := S.sc.n7
  obtain ⟨hI, hJ, hA, hB, hP, hS, hR⟩ := hY
  have hY : CgY c Y Y2 := ⟨hI, hJ, hA, hB, hP, hS, hR⟩
  refine Sim.mk (sc_Sc (fun k h => hI k 0 (by omega) (by omega)) (fun k h => hX.1 k (by omega)) S.sc) ⟨fun r hr => eq_RpA ⟨fun k h => hI k r (by omega) (by omega), fun k h => hJ k r (by omega), fun k o h1 h2 => hI k o (by omega) (by omega), by rw [hA], by rw [hS], fun o h => by rw [hS], by rw [hB]⟩ ⟨fun k h => hX.2 k _ (by omega) (by omega), fun k s h1 h2 => hX.2 k _ (by omega) (by omega), fun k s h1 h2 => hX.2 k _ (by omega) (by omega), fun k s h1 h2 => hX.2 k _ (by omega) (by omega), fun k q s h1 h2 h3 => hX.2 k _ (by omega) (by omega)⟩ hn (S.pcs.1 r hr), fun d hd => ?_, fun a h1 h2 => ?_, ?_, ?_, ?_⟩ (ae_Ar ⟨hI 405 0 (by omega) (by omega), hI 404 0 (by omega) (by omega), hR, hY.meq⟩ ⟨hX.1 6 (by omega), fun k i h => hX.2 k i (by omega) (by omega)⟩ S.ar)
  · by_cases e : d = c
    · subst e; exact h
    · refine cl_congr hd (fun k o h => hI k o (by omega) (by omega)) (fun k o h => hJ k o (by omega)) (fun k o h => hP k o (by omega) (by omega)) (fun k i h => hX.2 k i (by omega) (by omega)) (S.pcs.2.1 d hd)
  · rw [hX.1 81 (by omega)] at h2
    have := S.pcs.2.2.1 a h1 h2
    unfold KpS at *
    rw [hP 600 _ (by omega) (by omega), hI 602 _ (by omega) (by omega), hJ 601 _ (by omega), hI 604 _ (by omega) (by omega), hX.2 82 _ (by omega) (by omega), hX.2 83 _ (by omega) (by omega), hX.2 84 _ (by omega) (by omega), hX.2 85 _ (by omega) (by omega), hX.2 86 _ (by omega) (by omega), hX.2 87 _ (by omega) (by omega)]
    exact this
  · have := S.pcs.2.2.2.1
    unfold ByS at *
    rw [hI 1 0 (by omega) (by omega), hA, hX.1 89 (by omega), show X2.2 88 = X.2 88 from funext (fun i => hX.2 88 i (by omega) (by omega))]
    exact this
  · have := S.pcs.2.2.2.2.1
    unfold ByS at *
    rw [hI 1 1 (by omega) (by omega), hA, hX.1 91 (by omega), show X2.2 90 = X.2 90 from funext (fun i => hX.2 90 i (by omega) (by omega))]
    exact this
  · have := S.pcs.2.2.2.2.2
    unfold RdS B01 at *
    rw [show X2.2 30 = X.2 30 from funext (fun i => hX.2 30 i (by omega) (by omega)), hI 702 0 (by omega) (by omega), hI 703 0 (by omega) (by omega), hI 704 0 (by omega) (by omega), hA, hX.1 93 (by omega), hX.1 95 (by omega), hX.1 96 (by omega), show X2.2 92 = X.2 92 from funext (fun i => hX.2 92 i (by omega) (by omega))]
    exact this
theorem Sim.cl (S : Sim n K Y X) (hc : c < 4) : ClS K Y X c := S.pcs.2.1 c hc
/-- a stamped message to one replica -/
theorem stamped_sim (S : Sim n K Y X) {t : Nat} (hc : c < 4) (ht : t < n) (ho : X.2 66 c = 1) :
    ∃ Y2 X2, (∀ Q : Yc → Prop, Q Y2 → wy_X4_send n 0 (-1) (nI t) (vw 0 (X.1 17)) (X.1 18) Y (fun o Y' => ∀ q27 : Option Rq, q27 = yP Y' 100 c → Q (uP Y' 307 o q27))) ∧
      (∀ Q : Xc → Prop, Q X2 → wx_X12_begin 0 255 (nI t) X (fun X6 => ∀ x8 : Int32, x8 = X6.1 17 → wx_X12_add x8 X6 (fun X12 => ∀ x14 : Int32, x14 = X12.1 18 → wx_X12_add x14 X12 (fun X18 => wx_X12_add (nI c) X18 (fun X22 => vp_in (nI c) 4 ∧ ∀ x25 : Int32, x25 = X22.2 65 (nI c).toNatClampNeg → wx_X12_add x25 X22 (fun X29 => vp_in (nI c) 4 ∧ ∀ x32 : Int32, x32 = X29.2 67 (nI c).toNatClampNeg → wx_X12_add x32 X29 (fun X36 => vp_in (nI c) 4 ∧ ∀ x39 : Int32, x39 = X36.2 68 (nI c).toNatClampNeg → wx_X12_add x39 X36 (fun X43 => vp_in (nI c) 4 ∧ ∀ x46 : Int32, x46 = X43.2 69 (nI c).toNatClampNeg → wx_X12_add x46 X43 (fun X50 => wx_X12_post X50 Q))))))))) ∧ Sim n K Y2 X2 ∧ SR Y X Y2 X2 := by
  have hn := S.sc.n7
  have C := S.cl hc
  have hk1 := S.sc.k1
  obtain ⟨a1, a2, a3, a4, a5, a6, _⟩ := C
  obtain ⟨hp, hp2, hp3⟩ := a6 ho
  obtain ⟨e, he, ee⟩ := S.sc.sesK
  have hB := (ySd_B Y 0 (-1) (nI t) (vw 0 (X.1 17)) (X.1 18)).mP (yP Y 100 c)
  obtain ⟨v1, v2, v3, v4, v5, v6, v7⟩ := ySd_v Y 0 (-1) (nI t) (vw 0 (X.1 17)) (X.1 18)
  have gP : yP (uP (ySd Y 0 (-1) (nI t) (vw 0 (X.1 17)) (X.1 18)) 307 (ySO Y) (yP Y 100 c)) 307 (ySO Y) = yP Y 100 c := by rw [yPP, if_pos ⟨rfl, rfl⟩]
  have hS : Snt n K Y (uP (ySd Y 0 (-1) (nI t) (vw 0 (X.1 17)) (X.1 18)) 307 (ySO Y) (yP Y 100 c)) [0, 255, nI t, X.1 17, X.1 18, nI c, X.2 65 c, X.2 67 c, X.2 68 c, X.2 69 c] := by
    refine hB.snt ?_ ?_
    · unfold encM
      rw [yIP, yJP, gP, v1, v2, v3, v4, v5, vw_sess, hp]
      simp [rqL]
    · unfold MOK
      rw [yIP, yJP, gP, v1, v2, v3, v4, v5, v7]
      exact ⟨⟨_, by decide, rfl⟩, by simp, by simpa using ⟨t, ht, rfl⟩, ⟨0, e, by omega, he, by rw [ee]; rfl⟩, by simp, S.sc.stmK, fun _ => ⟨_, hp, ⟨⟨c, hc, rfl⟩, a5, hp2, hp3⟩⟩, by simp, by simp, by simp⟩
  have hcc : (nI c).toNatClampNeg = c := nI_clamp (by omega)
  have hv : vp_in (nI c) 4 := vp_in_nI hc (by omega)
  obtain ⟨X1, r1, d1⟩ := x_begin X 0 255 (nI t)
  obtain ⟨X2, r2, d2⟩ := x_add d1 (by simp) (X.1 17)
  obtain ⟨X3, r3, d3⟩ := x_add d2 (by simp) (X.1 18)
  obtain ⟨X4, r4, d4⟩ := x_add d3 (by simp) (nI c)
  obtain ⟨X5, r5, d5⟩ := x_add d4 (by simp) (X.2 65 c)
  obtain ⟨X6, r6, d6⟩ := x_add d5 (by simp) (X.2 67 c)
  obtain ⟨X7, r7, d7⟩ := x_add d6 (by simp) (X.2 68 c)
  obtain ⟨X8, r8, d8⟩ := x_add d7 (by simp) (X.2 69 c)
  obtain ⟨X9, r9, s9, f9⟩ := one_send S d8 (by simpa using hS)
  refine ⟨_, X9, fun Q hQ => y_send S.ar _ _ _ _ _ _ (fun q27 e27 => ?_), fun Q hQ => ?_, s9, f9⟩
  · rw [(ySd_B Y 0 (-1) (nI t) (vw 0 (X.1 17)) (X.1 18)).2.2.2.2.2.1 100 c (by omega)] at e27
    subst e27
    exact hQ
  · rw [hcc]
    refine r1 _ (fun x e => ?_)
    rw [d1.1 17 (by omega)] at e
    subst e
    refine r2 _ (fun x e => ?_)
    rw [d2.1 18 (by omega)] at e
    subst e
    refine r3 _ (r4 _ ⟨hv, fun x e => ?_⟩)
    rw [d4.2.1 65 (by omega)] at e
    subst e
    refine r5 _ ⟨hv, fun x e => ?_⟩
    rw [d5.2.1 67 (by omega)] at e
    subst e
    refine r6 _ ⟨hv, fun x e => ?_⟩
    rw [d6.2.1 68 (by omega)] at e
    subst e
    refine r7 _ ⟨hv, fun x e => ?_⟩
    rw [d7.2.1 69 (by omega)] at e
    subst e
    exact r8 _ (r9 _ hQ)
end
