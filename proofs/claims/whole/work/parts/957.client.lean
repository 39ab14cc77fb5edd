section
variable {n K : Nat} {Y Y2 : Yc} {X X2 : Xc} {c : Nat}
theorem idx64 {c s : Nat} : (64 : Int32) * nI c + nI s = nI (64 * c + s) := by rw [show (64 : Int32) = nI 64 from rfl, nI_mul, nI_add]
theorem idx64' {c : Nat} : (64 : Int32) * nI c = nI (64 * c) := by rw [show (64 : Int32) = nI 64 from rfl, nI_mul]
/-- the place i of client c -/
def plY (c f i : Nat) : Nat := 4 + 64 * c + (f + i) % 64
/-- a fresh place -/
def yFr (Y : Yc) (o : Nat) (q : Option Rq) (v : Int64) (s : Int32) : Yc := uI (uI (uI (uJ (uP Y 600 o q) 601 o v) 602 o s) 603 o 0) 604 o 0
def xFr (X : Xc) (e : Nat) (l d s : Int32) : Xc := xA (xA (xA (xA (xA X 76 e l) 77 e d) 78 e s) 79 e 0) 80 e 0
theorem xFr_k {e k j : Nat} {l d s : Int32} (h : ¬ (76 ≤ k ∧ k ≤ 80 ∧ j = e)) : (xFr X e l d s).2 k j = X.2 k j := by
  unfold xFr
  rw [xAA, if_neg (by omega), xAA, if_neg (by omega), xAA, if_neg (by omega), xAA, if_neg (by omega), xAA, if_neg (by omega)]
theorem xFr_v {e : Nat} {l d s : Int32} : (xFr X e l d s).2 76 e = l ∧ (xFr X e l d s).2 77 e = d ∧ (xFr X e l d s).2 78 e = s ∧ (xFr X e l d s).2 79 e = 0 ∧ (xFr X e l d s).2 80 e = 0 := by
  unfold xFr
  simp [xAA]
theorem yFr_k {o k j : Nat} {q : Option Rq} {v : Int64} {s : Int32} (h : ¬ (600 ≤ k ∧ k < 700 ∧ j = o)) : yI (yFr Y o q v s) k j = yI Y k j := by
  unfold yFr
  rw [yII, if_neg (by omega), yII, if_neg (by omega), yII, if_neg (by omega)]
  rfl
theorem yFr_j {o k j : Nat} {q : Option Rq} {v : Int64} {s : Int32} (h : ¬ (k = 601 ∧ j = o)) : yJ (yFr Y o q v s) k j = yJ Y k j := by
  unfold yFr
  rw [yJI, yJI, yJI, yJJ, if_neg h]
  rfl
theorem yFr_p {o k j : Nat} {q : Option Rq} {v : Int64} {s : Int32} (h : ¬ (k = 600 ∧ j = o)) : yP (yFr Y o q v s) k j = yP Y k j := by
  unfold yFr
  rw [yPI, yPI, yPI, yPJ, yPP, if_neg h]
theorem yFr_v {o : Nat} {q : Option Rq} {v : Int64} {s : Int32} : yJ (yFr Y o q v s) 601 o = v ∧ yI (yFr Y o q v s) 602 o = s ∧ yI (yFr Y o q v s) 603 o = 0 ∧ yI (yFr Y o q v s) 604 o = 0 ∧ yP (yFr Y o q v s) 600 o = q := by
  unfold yFr
  simp [yII, yJI, yJJ, yPI, yPJ, yPP]
theorem yFr_g {o : Nat} {q : Option Rq} {v : Int64} {s : Int32} (ho : 4 + 64 * c ≤ o ∧ o < 68 + 64 * c) (h : CgY c Y Y2) : CgY c Y (yFr Y2 o q v s) := by
  unfold yFr
  exact ((((h.wP (by omega) _).wJ (by omega) _).wI (by omega) _).wI (by omega) _).wI (by omega) _
theorem xFr_g {e : Nat} {l d s : Int32} (he : 64 * c ≤ e ∧ e < 64 * c + 64) (h : CgX c X X2) : CgX c X (xFr X2 e l d s) := by
  unfold xFr
  exact ((((h.wA (by omega) _).wA (by omega) _).wA (by omega) _).wA (by omega) _).wA (by omega) _
theorem CgX.trans {X3 : Xc} (h : CgX c X X2) (g : CgX c X2 X3) : CgX c X X3 := ⟨fun k a => (g.1 k a).trans (h.1 k a), fun k i a b => (g.2 k i a b).trans (h.2 k i a b)⟩
theorem CgY.trans {Y3 : Yc} (h : CgY c Y Y2) (g : CgY c Y2 Y3) : CgY c Y Y3 :=
  ⟨fun k o a b => (g.1 k o a b).trans (h.1 k o a b), fun k o a => (g.2.1 k o a).trans (h.2.1 k o a), g.2.2.1.trans h.2.2.1, g.2.2.2.1.trans h.2.2.2.1, fun k o a b => (g.2.2.2.2.1 k o a b).trans (h.2.2.2.2.1 k o a b), g.2.2.2.2.2.1.trans h.2.2.2.2.2.1, g.2.2.2.2.2.2.trans h.2.2.2.2.2.2⟩
/-- the ref's shift: the rows 0 .. t - 1 of client c from the next -/
def xSh (X : Xc) (c t : Nat) : Xc := (X.1, fun k i => if (76 ≤ k ∧ k ≤ 80) ∧ 64 * c ≤ i ∧ i < 64 * c + t then X.2 k (i + 1) else X.2 k i)
theorem xSh_2 (c t k i : Nat) : (xSh X c t).2 k i = if (76 ≤ k ∧ k ≤ 80) ∧ 64 * c ≤ i ∧ i < 64 * c + t then X.2 k (i + 1) else X.2 k i := rfl
theorem xSh_0 (c : Nat) : xSh X c 0 = X := by
  have : (xSh X c 0).2 = X.2 := by
    funext k i
    rw [xSh_2, if_neg (by omega)]
  exact Prod.ext rfl this
theorem xSh_s (c t : Nat) : xA (xA (xA (xA (xA (xSh X c t) 76 (64 * c + t) (X.2 76 (64 * c + t + 1))) 77 (64 * c + t) (X.2 77 (64 * c + t + 1))) 78 (64 * c + t) (X.2 78 (64 * c + t + 1))) 79 (64 * c + t) (X.2 79 (64 * c + t + 1))) 80 (64 * c + t) (X.2 80 (64 * c + t + 1)) = xSh X c (t + 1) := by
  refine Prod.ext rfl ?_
  funext k i
  rw [xSh_2]
  by_cases hi : i = 64 * c + t
  · subst hi
    by_cases hk : 76 ≤ k ∧ k ≤ 80
    · rw [if_pos (by omega)]
      rcases (show k = 76 ∨ k = 77 ∨ k = 78 ∨ k = 79 ∨ k = 80 by omega) with rfl | rfl | rfl | rfl | rfl <;> simp [xAA]
    · rw [if_neg (by omega), xAA, if_neg (by omega), xAA, if_neg (by omega), xAA, if_neg (by omega), xAA, if_neg (by omega), xAA, if_neg (by omega), xSh_2, if_neg (by omega)]
  · rw [xAA, if_neg (by omega), xAA, if_neg (by omega), xAA, if_neg (by omega), xAA, if_neg (by omega), xAA, if_neg (by omega), xSh_2]
    by_cases h : (76 ≤ k ∧ k ≤ 80) ∧ 64 * c ≤ i ∧ i < 64 * c + t
    · rw [if_pos h, if_pos (by omega)]
    · rw [if_neg h, if_neg (by omega)]
set_option maxHeartbeats 1000000 in
theorem place_sim (S : Sim n K Y X) (hc : c < 4) (ho : X.2 66 c = 1) {ml me : Nat} (hml : ml ≤ K) (hme : me ≤ K) {s : Nat} (hs : s < 100) :
    ∃ o e Y1 X1, (∀ Q : Nat → Yc → Prop, Q o Y1 → wy_X1_placeOf n c (vw (nI ml) (nI me)) (nI (s + 1)) Y Q) ∧ (∀ Q : Int32 → Xc → Prop, Q (nI e) X1 → wx_X12_placeOf (nI c) (nI ml) (nI me) (nI (s + 1)) X Q) ∧ Sim n K Y1 X1 ∧ CgY c Y Y1 ∧ CgX c X X1 ∧
      (∃ f i cnt, f < 64 ∧ yI Y1 106 c = nI f ∧ X1.2 75 c = nI cnt ∧ i < cnt ∧ cnt ≤ 64 ∧ o = plY c f i ∧ e = 64 * c + i) ∧ X1.2 66 c = 1 ∧ X1.2 65 c = X.2 65 c ∧ X1.1 = X.1 ∧ X1.2 76 e = nI ml := by
  have hk2 := S.sc.k2
  have hcc : (nI c).toNatClampNeg = c := nI_clamp (by omega)
  have hv4 : vp_in (nI c) 4 := vp_in_nI hc (by omega)
  obtain ⟨a1, a2, a3, a4, a5, a6, a7, a8, a9, a10, ⟨cnt, hcnt, ecnt⟩, f, hf, hf2, hf3⟩ := S.cl hc
  have hln : ln (nI cnt) = cnt := nI_clamp (by omega)
  rw [ecnt, hln] at hf3
  have h107 : yI Y 107 c = nI cnt := a10.trans ecnt
  -- the new place, on a state with a free one at the end
  have new : ∀ (f' cnt' : Nat) (Ya : Yc) (Xa : Xc), f' < 64 → cnt' < 64 → CgY c Y Ya → CgX c X Xa → yI Ya 106 c = nI f' → Xa.2 75 c = nI cnt' → (∀ k, 65 ≤ k ∧ k ≤ 74 → Xa.2 k c = X.2 k c) → (∀ k, k = 101 ∨ k = 102 ∨ k = 103 ∨ k = 602 ∨ k = 604 → yI Ya k c = yI Y k c) → yJ Ya 601 c = yJ Y 601 c → yP Ya 100 c = yP Y 100 c → Xa.1 = X.1 → yI Ya 107 c = nI (cnt' + 1) →
      (∀ i, i < cnt' → PlS K Ya Xa (plY c f' i) (64 * c + i) ∧ yP Ya 600 (plY c f' i) = yP Ya 100 c) →
      ∃ Y1 X1, (∀ Q : Nat → Yc → Prop, Q (plY c f' cnt') Y1 → by_X1_placeOf_92 n c Q (vw (nI ml) (nI me)) (nI (s + 1)) Ya) ∧ (∀ Q : Int32 → Xc → Prop, Q (nI (64 * c + cnt')) X1 → bx_X12_placeOf_191 Q (nI c) (nI ml) (nI me) (nI (s + 1)) Xa) ∧ Sim n K Y1 X1 ∧ CgY c Y Y1 ∧ CgX c X X1 ∧
      (∃ f i cnt, f < 64 ∧ yI Y1 106 c = nI f ∧ X1.2 75 c = nI cnt ∧ i < cnt ∧ cnt ≤ 64 ∧ plY c f' cnt' = plY c f i ∧ 64 * c + cnt' = 64 * c + i) ∧ X1.2 66 c = 1 ∧ X1.2 65 c = X.2 65 c ∧ X1.1 = X.1 ∧ X1.2 76 (64 * c + cnt') = nI ml := fun f' cnt' Ya Xa hf' hcnt' gY gX y106 x75 kX kY kJ kP kx1 y107 hpl => by
    have hpo : plY c f' cnt' = 4 + 64 * c + (f' + cnt') % 64 := rfl
    have ce : (nI (64 * c + cnt')).toNatClampNeg = 64 * c + cnt' := nI_clamp (by omega)
    have ve : vp_in (nI (64 * c + cnt')) 256 := vp_in_nI (by omega) (by omega)
    obtain ⟨Y1, eY1⟩ : ∃ Y1 : Yc, Y1 = yFr Ya (plY c f' cnt') (yP Ya 100 c) (vw (nI ml) (nI me)) (nI (s + 1)) := ⟨_, rfl⟩
    obtain ⟨X1, eX1⟩ : ∃ X1 : Xc, X1 = xFr (xA Xa 75 c (nI (cnt' + 1))) (64 * c + cnt') (nI ml) (nI me) (nI (s + 1)) := ⟨_, rfl⟩
    have gY1 : CgY c Y Y1 := by rw [eY1]; exact yFr_g (by omega) gY
    have gX1 : CgX c X X1 := by rw [eX1]; exact xFr_g (by omega) (gX.wA (by omega) _)
    have w75 : X1.2 75 c = nI (cnt' + 1) := by rw [eX1, xFr_k (by omega), xAA, if_pos ⟨rfl, rfl⟩]
    have wk : ∀ k, 65 ≤ k ∧ k ≤ 74 → X1.2 k c = X.2 k c := fun k h => by rw [eX1, xFr_k (by omega), xAA, if_neg (by omega)]; exact kX k h
    have uk : ∀ k, k = 101 ∨ k = 102 ∨ k = 103 ∨ k = 602 ∨ k = 604 → yI Y1 k c = yI Y k c := fun k h => by rw [eY1, yFr_k (by omega)]; exact kY k h
    have u106 : yI Y1 106 c = nI f' := by rw [eY1, yFr_k (by omega)]; exact y106
    have u107 : yI Y1 107 c = nI (cnt' + 1) := by rw [eY1, yFr_k (by omega)]; exact y107
    have uP : yP Y1 100 c = yP Y 100 c := by rw [eY1, yFr_p (by omega)]; exact kP
    have uJ : yJ Y1 601 c = yJ Y 601 c := by rw [eY1, yFr_j (by omega)]; exact kJ
    have hl1 : ln (nI (cnt' + 1)) = cnt' + 1 := nI_clamp (by omega)
    have S1 : Sim n K Y1 X1 := by
      refine sim_cli S hc gY1 gX1 ?_
      unfold ClS
      rw [uk 101 (by omega), uk 102 (by omega), uk 103 (by omega), uk 602 (by omega), uk 604 (by omega), uP, uJ, u107, w75, wk 65 (by omega), wk 66 (by omega), wk 67 (by omega), wk 68 (by omega), wk 69 (by omega), wk 70 (by omega), wk 71 (by omega), wk 72 (by omega), wk 73 (by omega), wk 74 (by omega)]
      refine ⟨a1, a2, a3, a4, a5, a6, a7, a8, a9, rfl, ⟨cnt' + 1, by omega, rfl⟩, f', hf', u106, fun i hi => ?_⟩
      rw [hl1] at hi
      by_cases e : i = cnt'
      · subst e
        obtain ⟨x1, x2, x3, x4, x5⟩ := xFr_v (X := xA Xa 75 c (nI (i + 1))) (e := 64 * c + i) (l := nI ml) (d := nI me) (s := nI (s + 1))
        obtain ⟨z1, z2, z3, z4, z5⟩ := yFr_v (Y := Ya) (o := plY c f' i) (q := yP Ya 100 c) (v := vw (nI ml) (nI me)) (s := nI (s + 1))
        rw [← eX1] at x1 x2 x3 x4 x5
        rw [← eY1] at z1 z2 z3 z4 z5
        unfold PlS
        have hpp : 4 + 64 * c + (f' + i) % 64 = plY c f' i := rfl
        rw [hpp, x1, x2, x3, x4, x5, z1, z2, z3, z4, z5]
        exact ⟨⟨rfl, rfl, rfl, rfl, ⟨ml, hml, rfl⟩, ⟨me, hme, rfl⟩, ⟨0, by omega, rfl⟩, s, hs, rfl⟩, fun _ => kP⟩
      · obtain ⟨p1, p2⟩ := hpl i (by omega)
        have hne : 4 + 64 * c + (f' + i) % 64 ≠ plY c f' cnt' := by rw [hpo]; omega
        refine ⟨?_, fun _ => ?_⟩
        · unfold PlS plY at *
          rw [eY1, eX1, yFr_j (fun q => hne q.2), yFr_k (fun q => hne q.2.2), yFr_k (fun q => hne q.2.2), yFr_k (fun q => hne q.2.2), xFr_k (by omega), xFr_k (by omega), xFr_k (by omega), xFr_k (by omega), xFr_k (by omega)]
          exact p1
        · rw [eY1, yFr_p (fun q => hne q.2)]
          exact p2.trans kP
    refine ⟨Y1, X1, fun Q hQ => ?_, fun Q hQ => ?_, S1, gY1, gX1, ⟨f', cnt', cnt' + 1, hf', u106, w75, by omega, by omega, rfl, rfl⟩, by rw [wk 66 (by omega)]; exact ho, wk 65 (by omega), by rw [eX1]; exact kx1, by rw [eX1]; exact xFr_v.1⟩
    · unfold by_X1_placeOf_92
      intro x2 e2 x4 e4 x6 e6
      rw [y106] at e2
      rw [y107] at e4
      subst e2; subst e4
      have e6 : x6 = nI ((f' + cnt') % 64) := by rw [e6, nI_add, show f' + (cnt' + 1) = (f' + cnt') + 1 by omega, nI_m, and63 (by omega)]
      subst e6
      refine ⟨vp_in_nI (by omega) (by omega), fun q14 e14 => ?_⟩
      subst e14
      rw [nI_clamp (by omega)]
      unfold wy_X6_begin
      rw [← hpo]
      show Q (plY c f' cnt') (yFr Ya (plY c f' cnt') (yP Ya 100 c) (vw (nI ml) (nI me)) (nI (s + 1)))
      rw [← eY1]
      exact hQ
    · unfold bx_X12_placeOf_191
      rw [hcc]
      refine ⟨hv4, fun x2 e2 x4 e4 => ⟨hv4, fun x7 e7 x9 e9 => ⟨hv4, ?_⟩⟩⟩
      rw [x75] at e2 e7
      subst e2; subst e7
      rw [idx64] at e4
      rw [nI_1] at e9
      subst e4; subst e9
      rw [ce]
      refine ⟨ve, ve, ve, ve, ve, ?_⟩
      show Q (nI (64 * c + cnt')) (xFr (xA Xa 75 c (nI (cnt' + 1))) (64 * c + cnt') (nI ml) (nI me) (nI (s + 1)))
      rw [← eX1]
      exact hQ
  -- looking
  have look : ∀ d t, t + d = cnt → (∃ i, i < cnt ∧ X.2 76 (64 * c + i) = nI ml ∧ (∀ Q : Nat → Yc → Prop, Q (plY c f i) Y → LFy (fy_X1_placeOf_3 n c Q) (vw (nI ml) (nI me), nI (s + 1), nI t) Y) ∧ (∀ Q : Int32 → Xc → Prop, Q (nI (64 * c + i)) X → LFx (fx_X12_placeOf_6 Q) (nI c, nI ml, nI me, nI (s + 1), nI (64 * c + t)) X)) ∨
      ((∀ Q : Nat → Yc → Prop, (∀ x4 : Int32, x4 = yI Y 107 c → (((64 : Int32) ≤ x4 → (∀ x7 : Int32, x7 = yI Y 106 c → (∀ x9 : Int32, x9 = (x7 + (1 : Int32)) &&& (63 : Int32) → by_X1_placeOf_92 n c Q (vw (nI ml) (nI me)) (nI (s + 1)) (uI Y 106 c x9)))) ∧ (¬ (64 : Int32) ≤ x4 → (∀ x12 : Int32, x12 = yI Y 107 c → (∀ x14 : Int32, x14 = x12 + (1 : Int32) → by_X1_placeOf_92 n c Q (vw (nI ml) (nI me)) (nI (s + 1)) (uI Y 107 c x14)))))) → LFy (fy_X1_placeOf_3 n c Q) (vw (nI ml) (nI me), nI (s + 1), nI t) Y) ∧
        (∀ Q : Int32 → Xc → Prop, (vp_in (nI c) 4 ∧ (∀ x6 : Int32, x6 = X.2 75 c → ((¬ x6 = (64 : Int32) → bx_X12_placeOf_191 Q (nI c) (nI ml) (nI me) (nI (s + 1)) X) ∧ (x6 = (64 : Int32) → (∀ x9 : Int32, x9 = (64 : Int32) * nI c → LFx (fx_X12_placeOf_82 Q) (nI c, nI ml, nI me, nI (s + 1), x9) X))))) → LFx (fx_X12_placeOf_6 Q) (nI c, nI ml, nI me, nI (s + 1), nI (64 * c + t)) X)) := by
    intro d
    induction d with
    | zero =>
      intro t ht
      refine Or.inr ⟨fun Q h R hR => hR _ _ (fun x1 e1 => ?_), fun Q h R hR => hR _ _ ⟨hv4, fun x2 e2 => ?_⟩⟩
      · rw [h107] at e1
        subst e1
        exact ⟨fun _ => h, fun q => absurd (nI_le (by omega) (by omega)) q⟩
      · have e2 : x2 = nI cnt := by rw [e2]; show X.2 75 (nI c).toNatClampNeg = _; rw [hcc]; exact ecnt
        subst e2
        refine ⟨fun _ => ?_, fun q => absurd (by show 64 * nI c + nI cnt ≤ nI (64 * c + t); rw [idx64]; exact nI_le (by omega) (by omega)) q⟩
        show vp_in (nI c) 4 ∧ ∀ x6 : Int32, x6 = X.2 75 (nI c).toNatClampNeg → _
        rw [hcc]
        exact h
    | succ d ih =>
      intro t ht
      obtain ⟨⟨p1, p2, p3, p4, ⟨pl, hpl, epl⟩, ⟨pe, hpe, epe⟩, p7, ps, hps, eps⟩, _⟩ := hf3 t (by omega)
      have hpo : 4 + 64 * c + (f + t) % 64 = plY c f t := rfl
      have yg : ∀ (Q : Nat → Yc → Prop) (R : Int64 × Int32 × Int32 → Yc → Prop), ((¬ (pl = ml ∧ pe = me ∧ ps = s) → R (vw (nI ml) (nI me), nI (s + 1), nI (t + 1)) Y) ∧ ((pl = ml ∧ pe = me ∧ ps = s) → Q (plY c f t) Y)) → fy_X1_placeOf_3 n c Q R (vw (nI ml) (nI me), nI (s + 1), nI t) Y := fun Q R h => by
        intro x1 e1
        rw [h107] at e1
        subst e1
        refine ⟨fun q => absurd q (nI_ge (by omega) (by omega)), fun _ x18 e18 x20 e20 => ?_⟩
        rw [hf2] at e18
        subst e18
        have e20 : x20 = nI ((f + t) % 64) := by rw [e20]; show (nI f + nI t) &&& 63 = _; rw [nI_add, and63 (by omega)]
        subst e20
        rw [nI_clamp (by omega), hpo]
        have n51 : R (vw (nI ml) (nI me), nI (s + 1), nI (t + 1)) Y → by_X1_placeOf_51 n c R Q (vw (nI ml) (nI me)) (nI (s + 1)) (nI t) Y := fun h => by
          unfold by_X1_placeOf_51
          intro x1 e1
          rw [nI_1] at e1
          subst e1
          exact h
        refine ⟨vp_in_nI (by omega) (by omega), fun y28 e28 => ?_⟩
        rw [← hpo, p1, epl, epe] at e28
        subst e28
        show (¬ lg_cmp (vw (nI pl) (nI pe)) (vw (nI ml) (nI me)) = 0 → _) ∧ (lg_cmp (vw (nI pl) (nI pe)) (vw (nI ml) (nI me)) = 0 → _)
        rw [lg0v (by omega) (by omega) (by omega) (by omega)]
        refine ⟨fun q => n51 (h.1 (fun q2 => q ⟨q2.1, q2.2.1⟩)), fun q x31 e31 => ?_⟩
        rw [← hpo, p2, eps] at e31
        subst e31
        show (¬ nI (ps + 1) = nI (s + 1) → _) ∧ (nI (ps + 1) = nI (s + 1) → _)
        rw [nI_eq (by omega) (by omega)]
        exact ⟨fun q2 => n51 (h.1 (fun q3 => q2 (by rw [q3.2.2]))), fun q2 => h.2 ⟨q.1, q.2, by omega⟩⟩
      have xg : ∀ (Q : Int32 → Xc → Prop) (R : Int32 × Int32 × Int32 × Int32 × Int32 → Xc → Prop), ((¬ (pl = ml ∧ pe = me ∧ ps = s) → R (nI c, nI ml, nI me, nI (s + 1), nI (64 * c + (t + 1))) X) ∧ ((pl = ml ∧ pe = me ∧ ps = s) → Q (nI (64 * c + t)) X)) → fx_X12_placeOf_6 Q R (nI c, nI ml, nI me, nI (s + 1), nI (64 * c + t)) X := fun Q R h => by
        have ct : (nI (64 * c + t)).toNatClampNeg = 64 * c + t := nI_clamp (by omega)
        have vt : vp_in (nI (64 * c + t)) 256 := vp_in_nI (by omega) (by omega)
        have n59 : R (nI c, nI ml, nI me, nI (s + 1), nI (64 * c + (t + 1))) X → bx_X12_placeOf_59 R Q (nI c) (nI ml) (nI me) (nI (s + 1)) (nI (64 * c + t)) X := fun h => by
          unfold bx_X12_placeOf_59
          intro x1 e1
          rw [nI_1] at e1
          subst e1
          exact h
        refine ⟨hv4, fun x2 e2 => ?_⟩
        have e2 : x2 = nI cnt := by rw [e2]; show X.2 75 (nI c).toNatClampNeg = _; rw [hcc]; exact ecnt
        subst e2
        refine ⟨fun q => absurd q (by show ¬ 64 * nI c + nI cnt ≤ nI (64 * c + t); rw [idx64]; exact nI_ge (by omega) (by omega)), fun _ => ⟨vt, fun x12 e12 => ?_⟩⟩
        have e12 : x12 = nI pl := by rw [e12]; show X.2 76 (nI (64 * c + t)).toNatClampNeg = _; rw [ct]; exact epl
        subst e12
        show (¬ nI pl = nI ml → _) ∧ (nI pl = nI ml → _)
        rw [nI_eq (by omega) (by omega)]
        refine ⟨fun q => n59 (h.1 (fun q2 => q q2.1)), fun q => ⟨vt, fun x16 e16 => ?_⟩⟩
        have e16 : x16 = nI pe := by rw [e16]; show X.2 77 (nI (64 * c + t)).toNatClampNeg = _; rw [ct]; exact epe
        subst e16
        show (¬ nI pe = nI me → _) ∧ (nI pe = nI me → _)
        rw [nI_eq (by omega) (by omega)]
        refine ⟨fun q1 => n59 (h.1 (fun q2 => q1 q2.2.1)), fun q1 => ⟨vt, fun x20 e20 => ?_⟩⟩
        have e20 : x20 = nI (ps + 1) := by rw [e20]; show X.2 78 (nI (64 * c + t)).toNatClampNeg = _; rw [ct]; exact eps
        subst e20
        show (¬ nI (ps + 1) = nI (s + 1) → _) ∧ (nI (ps + 1) = nI (s + 1) → _)
        rw [nI_eq (by omega) (by omega)]
        exact ⟨fun q2 => n59 (h.1 (fun q3 => q2 (by rw [q3.2.2]))), fun q2 => h.2 ⟨q, q1, by omega⟩⟩
      by_cases hm : pl = ml ∧ pe = me ∧ ps = s
      · exact Or.inl ⟨t, by omega, by rw [epl, hm.1], fun Q hQ R hR => hR _ _ (yg Q R ⟨fun q => absurd hm q, fun _ => hQ⟩), fun Q hQ R hR => hR _ _ (xg Q R ⟨fun q => absurd hm q, fun _ => hQ⟩)⟩
      · rcases ih (t + 1) (by omega) with ⟨i, hi, h76, ga, gb⟩ | ⟨ga, gb⟩
        · exact Or.inl ⟨i, hi, h76, fun Q hQ R hR => hR _ _ (yg Q R ⟨fun _ => ga Q hQ R hR, fun q => absurd q hm⟩), fun Q hQ R hR => hR _ _ (xg Q R ⟨fun _ => gb Q hQ R hR, fun q => absurd q hm⟩)⟩
        · exact Or.inr ⟨fun Q h R hR => hR _ _ (yg Q R ⟨fun _ => ga Q h R hR, fun q => absurd q hm⟩), fun Q h R hR => hR _ _ (xg Q R ⟨fun _ => gb Q h R hR, fun q => absurd q hm⟩)⟩
  have xw : ∀ Q : Int32 → Xc → Prop, LFx (fx_X12_placeOf_6 Q) (nI c, nI ml, nI me, nI (s + 1), nI (64 * c + 0)) X → wx_X12_placeOf (nI c) (nI ml) (nI me) (nI (s + 1)) X Q := fun Q h => by
    unfold wx_X12_placeOf
    intro x1 e1
    rw [idx64'] at e1
    subst e1
    exact h
  rcases look cnt 0 (by omega) with ⟨i, hi, h76, ga, gb⟩ | ⟨ga, gb⟩
  · exact ⟨plY c f i, 64 * c + i, Y, X, ga, fun Q hQ => xw Q (gb Q hQ), S, CgY.rf, CgX.rf, ⟨f, i, cnt, hf, hf2, ecnt, hi, hcnt, rfl, rfl⟩, ho, rfl, rfl, h76⟩
  · by_cases h64 : cnt = 64
    · subst h64
      -- the oldest goes
      have hsh : ∀ k, ¬ (76 ≤ k ∧ k ≤ 80) → ∀ i, (xSh X c 63).2 k i = X.2 k i := fun k h i => by rw [xSh_2, if_neg (by omega)]
      have gSh : CgX c X (xSh X c 63) := ⟨fun k _ => rfl, fun k i h1 h2 => by rw [xSh_2, if_neg (by omega)]⟩
      obtain ⟨Y1, X1, ry, rx, S1, g⟩ := new ((f + 1) % 64) 63 (uI Y 106 c (nI ((f + 1) % 64))) (xA (xSh X c 63) 75 c (nI 63)) (by omega) (by omega) (CgY.rf.wI (by omega) _)
        (gSh.wA (by omega) _) (by rw [yII, if_pos ⟨rfl, rfl⟩]) (by rw [xAA, if_pos ⟨rfl, rfl⟩]) (fun k h => by rw [xAA, if_neg (by omega)]; exact hsh k (by omega) c) (fun k h => by rw [yII, if_neg (by omega)]) rfl rfl rfl (by rw [yII, if_neg (by omega)]; exact h107) (fun i hi => by
          obtain ⟨q1, q2⟩ := hf3 (i + 1) (by omega)
          have e1 : (f + 1) % 64 + i = (f + 1) % 64 + i := rfl
          have e2 : ((f + 1) % 64 + i) % 64 = (f + (i + 1)) % 64 := by omega
          unfold plY
          rw [e2]
          refine ⟨?_, q2 ho⟩
          unfold PlS at q1 ⊢
          have sx : ∀ k, 76 ≤ k ∧ k ≤ 80 → (xA (xSh X c 63) 75 c (nI 63)).2 k (64 * c + i) = X.2 k (64 * c + (i + 1)) := fun k h => by rw [xAA, if_neg (by omega), xSh_2, if_pos (by omega)]; rfl
          rw [sx 76 (by omega), sx 77 (by omega), sx 78 (by omega), sx 79 (by omega), sx 80 (by omega)]
          exact q1)
      refine ⟨_, _, Y1, X1, fun Q hQ => ga Q (fun x4 e4 => ?_), fun Q hQ => xw Q (gb Q ⟨hv4, fun x6 e6 => ?_⟩), S1, g⟩
      · rw [h107] at e4
        subst e4
        refine ⟨fun _ x7 e7 x9 e9 => ?_, fun q => absurd (nI_le (Nat.le_refl 64) (by omega)) q⟩
        rw [hf2] at e7
        subst e7
        rw [nI_1, and63 (by omega)] at e9
        subst e9
        exact ry Q hQ
      · rw [ecnt] at e6
        subst e6
        refine ⟨fun q => absurd rfl q, fun _ x9 e9 => ?_⟩
        rw [idx64'] at e9
        subst e9
        intro R hR
        have key : ∀ d t, t + d = 63 → R (nI c, nI ml, nI me, nI (s + 1), nI (64 * c + t)) (xSh X c t) := by
          intro d
          induction d with
          | zero =>
            intro t ht
            have ht : t = 63 := by omega
            subst ht
            refine hR _ _ ⟨fun _ => ⟨hv4, fun x3 e3 x5 e5 => ⟨hv4, ?_⟩⟩, fun q => absurd (by show 64 * (nI c + 1) ≤ nI (64 * c + 63) + 1; rw [nI_1, nI_1, idx64']; exact nI_le (by omega) (by omega)) q⟩
            have e3 : x3 = nI 64 := by rw [e3]; show (xSh X c 63).2 75 (nI c).toNatClampNeg = _; rw [hcc, hsh 75 (by omega)]; exact ecnt
            subst e3
            have e5 : x5 = nI 63 := e5
            subst e5
            show bx_X12_placeOf_191 Q (nI c) (nI ml) (nI me) (nI (s + 1)) (xA (xSh X c 63) 75 (nI c).toNatClampNeg (nI 63))
            rw [hcc]
            exact rx Q hQ
          | succ d ih2 =>
            intro t ht
            have ct : (nI (64 * c + t)).toNatClampNeg = 64 * c + t := nI_clamp (by omega)
            have vt : vp_in (nI (64 * c + t)) 256 := vp_in_nI (by omega) (by omega)
            have ct1 : (nI (64 * c + t + 1)).toNatClampNeg = 64 * c + t + 1 := nI_clamp (by omega)
            have vt1 : vp_in (nI (64 * c + t + 1)) 256 := vp_in_nI (by omega) (by omega)
            have sv : ∀ k, (xSh X c t).2 k (64 * c + t + 1) = X.2 k (64 * c + t + 1) := fun k => by rw [xSh_2, if_neg (by omega)]
            refine hR _ _ ⟨fun q => absurd q (by show ¬ 64 * (nI c + 1) ≤ nI (64 * c + t) + 1; rw [nI_1, nI_1, idx64']; exact nI_ge (by omega) (by omega)), fun _ x9 e9 => ?_⟩
            have e9 : x9 = nI (64 * c + t + 1) := e9.trans (nI_1 _)
            subst e9
            refine ⟨vt1, fun x11 e11 => ?_⟩
            have e11 : x11 = X.2 76 (64 * c + t + 1) := by rw [e11, ct1]; exact sv 76
            subst e11
            show vp_in (nI (64 * c + t)) 256 ∧ ∀ x15 : Int32, x15 = nI (64 * c + t) + 1 → (vp_in x15 256 ∧ (∀ x17 : Int32, x17 = (xA (xSh X c t) 76 (nI (64 * c + t)).toNatClampNeg _).2 77 x15.toNatClampNeg → _))
            rw [ct, nI_1]
            refine ⟨vt, fun x15 e15 => ?_⟩
            subst e15
            refine ⟨vt1, fun x17 e17 => ?_⟩
            have e17 : x17 = X.2 77 (64 * c + t + 1) := by rw [e17, ct1]; exact sv 77
            subst e17
            refine ⟨vt, fun x21 e21 => ?_⟩
            subst e21
            refine ⟨vt1, fun x23 e23 => ?_⟩
            have e23 : x23 = X.2 78 (64 * c + t + 1) := by rw [e23, ct1]; exact sv 78
            subst e23
            refine ⟨vt, fun x27 e27 => ?_⟩
            subst e27
            refine ⟨vt1, fun x29 e29 => ?_⟩
            have e29 : x29 = X.2 79 (64 * c + t + 1) := by rw [e29, ct1]; exact sv 79
            subst e29
            refine ⟨vt, fun x33 e33 => ?_⟩
            subst e33
            refine ⟨vt1, fun x35 e35 => ?_⟩
            have e35 : x35 = X.2 80 (64 * c + t + 1) := by rw [e35, ct1]; exact sv 80
            subst e35
            refine ⟨vt, fun x37 e37 => ?_⟩
            have e37 : x37 = nI (64 * c + (t + 1)) := e37
            subst e37
            have := ih2 (t + 1) (by omega)
            rw [← xSh_s] at this
            exact this
        have := key 63 0 (by omega)
        rw [xSh_0] at this
        exact this
    · obtain ⟨Y1, X1, ry, rx, S1, g⟩ := new f cnt (uI Y 107 c (nI (cnt + 1))) X hf (by omega) (CgY.rf.wI (by omega) _) CgX.rf (by rw [yII, if_neg (by omega)]; exact hf2) ecnt (fun k h => rfl) (fun k h => by rw [yII, if_neg (by omega)]) rfl rfl rfl (by rw [yII, if_pos ⟨rfl, rfl⟩]) (fun i hi => ⟨(hf3 i hi).1, (hf3 i hi).2 ho⟩)
      refine ⟨_, _, Y1, X1, fun Q hQ => ga Q (fun x4 e4 => ?_), fun Q hQ => xw Q (gb Q ⟨hv4, fun x6 e6 => ?_⟩), S1, g⟩
      · rw [h107] at e4
        subst e4
        refine ⟨fun q => absurd q (nI_ge (a := cnt) (b := 64) (by omega) (by omega)), fun _ x12 e12 x14 e14 => ?_⟩
        rw [h107] at e12
        subst e12
        rw [nI_1] at e14
        subst e14
        exact ry Q hQ
      · rw [ecnt] at e6
        subst e6
        exact ⟨fun _ => rx Q hQ, fun q => absurd ((nI_eq (a := cnt) (b := 64) (by omega) (by omega)).mp q) h64⟩
end
