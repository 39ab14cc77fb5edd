section
variable {n K : Nat} {Y Y2 : Yc} {X X2 : Xc} {r : Nat}
/-- the entry written -/
def xWt (X : Xc) (e : Nat) (w : Rq) : Xc := xA (xA (xA (xA (xA (xA X 51 e 1) 52 e w.1) 53 e w.2.1) 54 e w.2.2.1) 55 e w.2.2.2.1) 56 e w.2.2.2.2
theorem xWt_k {e k j : Nat} {w : Rq} (h : ¬ (51 ≤ k ∧ k ≤ 56)) : (xWt X e w).2 k j = X.2 k j := by
  unfold xWt
  rw [xAA, if_neg (by omega), xAA, if_neg (by omega), xAA, if_neg (by omega), xAA, if_neg (by omega), xAA, if_neg (by omega), xAA, if_neg (by omega)]
theorem xWt_v {e : Nat} {w : Rq} : xT (xWt X e w) e = some w := by
  unfold xWt xT
  simp [xAA]
theorem xWt_o {e j : Nat} {w : Rq} (h : j ≠ e) : xT (xWt X e w) j = xT X j := by
  unfold xWt xT
  simp [xAA, h]
/-- an entry in the reference's log -/
def xWu (X : Xc) (e : Nat) : Option Rq → Xc
  | none => xA X 51 e 0
  | some w => xWt X e w
theorem xWu_v {e : Nat} (q : Option Rq) : xT (xWu X e q) e = q := by
  cases q with
  | none =>
    unfold xWu xT
    simp [xAA]
  | some w => exact xWt_v
theorem xWu_o {e j : Nat} (q : Option Rq) (h : j ≠ e) : xT (xWu X e q) j = xT X j := by
  cases q with
  | none =>
    unfold xWu xT
    simp [xAA, h]
  | some w => exact xWt_o h
theorem xWu_k {e k j : Nat} (q : Option Rq) (h : ¬ (51 ≤ k ∧ k ≤ 56 ∧ j = e)) : (xWu X e q).2 k j = X.2 k j := by
  cases q with
  | none =>
    unfold xWu
    rw [xAA, if_neg (by omega)]
  | some w =>
    unfold xWu xWt
    rw [xAA, if_neg (by omega), xAA, if_neg (by omega), xAA, if_neg (by omega), xAA, if_neg (by omega), xAA, if_neg (by omega), xAA, if_neg (by omega)]
theorem xWu_1 {e : Nat} (q : Option Rq) : (xWu X e q).1 = X.1 := by cases q <;> rfl
def KtX (r q : Nat) (X X2 : Xc) : Prop := X2.1 = X.1 ∧ ∀ k i, ¬ (51 ≤ k ∧ k ≤ 56 ∧ 100 * (7 * r + q) ≤ i ∧ i < 100 * (7 * r + q) + 100) → X2.2 k i = X.2 k i
theorem KtX.rg {q : Nat} (h : KtX r q X X2) (hq : q < 7) : RgX r X X2 := ⟨fun k _ _ _ _ => by rw [h.1], fun k i _ _ _ _ _ _ a => h.2 k i (by omega), fun b e => by rw [h.2 30 e (by omega)]; exact b e⟩
theorem x_keep1 {o : Nat} {l : List Int32} (H : Han n K Y X o l) (hr : r < 7) {q : Nat} (hq7 : q < 7) {pre : List Int32} {f : Nat → Option Rq} {L s : Nat} (hL : L ≤ 100) (en : encM Y o = pre ++ encL f 0 L) (hs : s < L) {X0 : Xc} (h15 : X0.2 15 = X.2 15) (h8 : X.2 15 8 = nI L)
    (Q : Xc → Prop) (R : Int32 × Int32 × Int32 × Int32 × Int32 → Xc → Prop) (hR : R (nI r, nI q, nI (7 * r + q), nI (pre.length + (encL f 0 (s + 1)).length), nI (s + 1)) (xWu X0 (100 * (7 * r + q) + s) (f s))) :
    fx_X12_keepTurned_65 Q R (nI r, nI q, nI (7 * r + q), nI (pre.length + (encL f 0 s).length), nI s) X0 := by
  generalize hp : pre.length + (encL f 0 s).length = p at *
  have hp1 : pre.length + (encL f 0 (s + 1)).length = p + (encE (f s)).length := by
    rw [encL_add f s 0 1, List.length_append, ← hp, ← Nat.add_assoc]
    show pre.length + (encL f 0 s).length + (encE (f (0 + s)) ++ []).length = _
    rw [List.append_nil, Nat.zero_add]
  rw [hp1] at hR
  have hat : ∀ j, j < (encE (f s)).length → X0.2 15 (p + j) = (encE (f s)).getD j 0 ∧ p + j < 640 := fun j hj => by
    have := ent_at H en hs hj
    rw [hp] at this
    rw [h15]
    exact this
  have hpos : 0 < (encE (f s)).length := by cases f s <;> simp [encE]
  have he : (nI (100 * (7 * r + q) + s)).toNatClampNeg = 100 * (7 * r + q) + s := nI_clamp (by omega)
  have hve : vp_in (nI (100 * (7 * r + q) + s)) 4900 := vp_in_nI (by omega) (by omega)
  refine ⟨v640 (j := 8) (by omega), fun x0 e0 => ?_⟩
  have e0 : x0 = nI L := by rw [e0]; show X0.2 15 8 = _; rw [h15]; exact h8
  subst e0
  refine ⟨fun h => absurd h (nI_ge (by omega) (by omega)), fun _ x2 e2 => ?_⟩
  have e2 : x2 = nI (100 * (7 * r + q) + s) := e2.trans idx100
  subst e2
  refine ⟨v640 (hat 0 hpos).2, fun x6 e6 => ?_⟩
  have hcp : (nI p).toNatClampNeg = p := nI_clamp (by have := (hat 0 hpos).2; omega)
  have e6 : x6 = (encE (f s)).getD 0 0 := by rw [e6]; show X0.2 15 (nI p).toNatClampNeg = _; rw [hcp]; exact (hat 0 hpos).1
  cases hqq : f s with
  | none =>
    rw [hqq] at e6 hR
    have e6 : x6 = 0 := e6
    subst e6
    refine ⟨fun _ => ?_, fun h => absurd h (by decide)⟩
    unfold bx_X12_keepTurned_108
    rw [he, nar0]
    refine ⟨hve, fun x1 e1 => ⟨hve, fun x4 e4 => ?_⟩⟩
    have e1 : x1 = nI (p + 1) := e1.trans (nI_1 p)
    rw [xAA, if_pos ⟨rfl, rfl⟩] at e4
    subst e1; subst e4
    refine ⟨fun _ => ?_, fun h => absurd rfl h⟩
    unfold bx_X12_keepTurned_203
    intro x1 e1
    have e1 : x1 = nI (s + 1) := e1.trans (nI_1 s)
    subst e1
    exact hR
  | some w =>
    rw [hqq] at e6 hR hat
    have e6 : x6 = 1 := e6
    subst e6
    refine ⟨fun h => absurd rfl h, fun _ => ?_⟩
    have h1 : X0.2 15 (p + 1) = w.1 ∧ p + 1 < 640 := hat 1 (by simp [encE])
    have h2 : X0.2 15 (p + 2) = w.2.1 ∧ p + 2 < 640 := hat 2 (by simp [encE])
    have h3 : X0.2 15 (p + 3) = w.2.2.1 ∧ p + 3 < 640 := hat 3 (by simp [encE])
    have h4 : X0.2 15 (p + 4) = w.2.2.2.1 ∧ p + 4 < 640 := hat 4 (by simp [encE])
    have h5 : X0.2 15 (p + 5) = w.2.2.2.2 ∧ p + 5 < 640 := hat 5 (by simp [encE])
    have cp : ∀ j, j < 6 → (nI (p + j)).toNatClampNeg = p + j := fun j hj => nI_clamp (by omega)
    unfold bx_X12_keepTurned_108
    rw [he, nar1]
    refine ⟨hve, fun x1 e1 => ⟨hve, fun x4 e4 => ?_⟩⟩
    have e1 : x1 = nI (p + 1) := e1.trans (nI_1 p)
    rw [xAA, if_pos ⟨rfl, rfl⟩] at e4
    subst e1; subst e4
    refine ⟨fun h => absurd h (by decide), fun _ => ⟨v640 h1.2, fun x9 e9 => ⟨hve, fun x13 e13 => ?_⟩⟩⟩
    have e9 : x9 = w.1 := by rw [e9, cp 1 (by omega)]; exact h1.1
    have e13 : x13 = nI (p + 2) := by rw [e13]; exact nI_add (p + 1) 1
    subst e9; subst e13
    refine ⟨v640 h2.2, fun x15 e15 => ⟨hve, fun x19 e19 => ?_⟩⟩
    have e15 : x15 = w.2.1 := by rw [e15, cp 2 (by omega)]; exact h2.1
    have e19 : x19 = nI (p + 3) := by rw [e19]; exact nI_add (p + 1) 2
    subst e15; subst e19
    refine ⟨v640 h3.2, fun x21 e21 => ⟨hve, fun x25 e25 => ?_⟩⟩
    have e21 : x21 = w.2.2.1 := by rw [e21, cp 3 (by omega)]; exact h3.1
    have e25 : x25 = nI (p + 4) := by rw [e25]; exact nI_add (p + 1) 3
    subst e21; subst e25
    refine ⟨v640 h4.2, fun x27 e27 => ⟨hve, fun x31 e31 => ?_⟩⟩
    have e27 : x27 = w.2.2.2.1 := by rw [e27, cp 4 (by omega)]; exact h4.1
    have e31 : x31 = nI (p + 5) := by rw [e31]; exact nI_add (p + 1) 4
    subst e27; subst e31
    refine ⟨v640 h5.2, fun x33 e33 => ⟨hve, fun x35 e35 => ?_⟩⟩
    have e33 : x33 = w.2.2.2.2 := by rw [e33, cp 5 (by omega)]; exact h5.1
    have e35 : x35 = nI (p + 6) := by rw [e35]; exact nI_add (p + 1) 5
    subst e33; subst e35
    unfold bx_X12_keepTurned_203
    intro x1 e1
    have e1 : x1 = nI (s + 1) := e1.trans (nI_1 s)
    subst e1
    exact hR
theorem x_keep {o : Nat} {l : List Int32} (H : Han n K Y X o l) (hr : r < 7) {q : Nat} (hq7 : q < 7) {pre : List Int32} {f : Nat → Option Rq} {L : Nat} (hL : L ≤ 100) (en : encM Y o = pre ++ encL f 0 L) {X0 : Xc} (h15 : X0.2 15 = X.2 15) (h8 : X.2 15 8 = nI L) :
    ∃ X2, (∀ Q : Xc → Prop, Q (xA X2 46 r (X0.2 46 r ||| ((1 : Int32) <<< (nI q &&& 31)))) → LFx (fx_X12_keepTurned_65 Q) (nI r, nI q, nI (7 * r + q), nI pre.length, 0) X0) ∧ (∀ s, s < L → xT X2 (100 * (7 * r + q) + s) = f s) ∧ (∀ s, L ≤ s → xT X2 (100 * (7 * r + q) + s) = xT X0 (100 * (7 * r + q) + s)) ∧ KtX r q X0 X2 := by
  have hcr : (nI r).toNatClampNeg = r := nI_clamp (by omega)
  have hvr : vp_in (nI r) 7 := vp_in_nI (by omega) (by omega)
  have key : ∀ d t X1, t + d = L → KtX r q X0 X1 → (∀ s, s < t → xT X1 (100 * (7 * r + q) + s) = f s) → (∀ s, t ≤ s → xT X1 (100 * (7 * r + q) + s) = xT X0 (100 * (7 * r + q) + s)) →
      ∃ X2, (∀ Q : Xc → Prop, Q (xA X2 46 r (X0.2 46 r ||| ((1 : Int32) <<< (nI q &&& 31)))) → LFx (fx_X12_keepTurned_65 Q) (nI r, nI q, nI (7 * r + q), nI (pre.length + (encL f 0 t).length), nI t) X1) ∧ (∀ s, s < L → xT X2 (100 * (7 * r + q) + s) = f s) ∧ (∀ s, L ≤ s → xT X2 (100 * (7 * r + q) + s) = xT X0 (100 * (7 * r + q) + s)) ∧ KtX r q X0 X2 := by
    intro d
    induction d with
    | zero =>
      intro t X1 ht h1 h2 h3
      have ht : t = L := by omega
      subst ht
      refine ⟨X1, fun Q hQ R hR => hR _ _ ⟨v640 (j := 8) (by omega), fun x0 e0 => ?_⟩, h2, h3, h1⟩
      have e0 : x0 = nI t := by rw [e0]; show X1.2 15 8 = _; rw [h1.2 15 8 (by omega), h15]; exact h8
      subst e0
      refine ⟨fun _ => ⟨hvr, fun x6 e6 x8 e8 => ⟨hvr, ?_⟩⟩, fun h => absurd (nI_le (Nat.le_refl t) (by omega)) h⟩
      have e6 : x6 = X0.2 46 r := by rw [e6]; show X1.2 46 (nI r).toNatClampNeg = _; rw [hcr, h1.2 46 r (by omega)]
      subst e6
      have e8 : x8 = X0.2 46 r ||| ((1 : Int32) <<< (nI q &&& 31)) := e8
      subst e8
      show Q (xA X1 46 (nI r).toNatClampNeg _)
      rw [hcr]
      exact hQ
    | succ d ih =>
      intro t X1 ht h1 h2 h3
      obtain ⟨X2, r2, g1, g2, g3⟩ := ih (t + 1) (xWu X1 (100 * (7 * r + q) + t) (f t)) (by omega) ⟨(xWu_1 _).trans h1.1, fun k i hk => by rw [xWu_k _ (by omega)]; exact h1.2 k i hk⟩ (fun s hs => by
        by_cases e : s = t
        · subst e; exact xWu_v _
        · rw [xWu_o _ (by omega)]; exact h2 s (by omega)) (fun s hs => by rw [xWu_o _ (by omega)]; exact h3 s (by omega))
      exact ⟨X2, fun Q hQ R hR => hR _ _ (x_keep1 H hr hq7 hL en (by omega) (by funext i; rw [h1.2 15 i (by omega), h15]) h8 Q R (r2 Q hQ R hR)), g1, g2, g3⟩
  exact key L 0 X0 (by omega) ⟨rfl, fun _ _ _ => rfl⟩ (fun s hs => by omega) (fun s _ => rfl)
set_option maxRecDepth 100000 in
set_option maxHeartbeats 4000000 in
theorem bt_dec : ∀ a : Fin 128, ∀ f : Fin 7, ∀ q : Fin 7, (((nI a.1 ||| ((1 : Int32) <<< (nI f.1 &&& 31))) >>> (nI q.1 &&& 31)) &&& 1 = 1) ↔ (((nI a.1 >>> (nI q.1 &&& 31)) &&& 1 = 1) ∨ q = f) := by decide
theorem bt_or {x : Int32} (h : Sm 127 x) {f q : Nat} (hf : f < 7) (hq : q < 7) : bt (x ||| ((1 : Int32) <<< (nI f &&& 31))) q ↔ bt x q ∨ q = f := by
  obtain ⟨a, ha, rfl⟩ := h
  have := bt_dec ⟨a, by omega⟩ ⟨f, hf⟩ ⟨q, hq⟩
  unfold bt
  rw [this]
  simp
/-- a TURNED is counted -/
theorem count_sim (S : Sim n K Y X) (hr : r < n) {o : Nat} {l : List Int32} (H : Han n K Y X o l) (hk : yI Y 301 o = 9) (ho : o < 256) (hs : X.2 23 r = 2) (hto : yI Y 303 o = nI r) :
    ∃ Y2 X2 f, f < n ∧ f ≠ r ∧ (∀ Q : Yc → Prop, Q Y2 → wy_X5_countTurned n r o Y Q) ∧ (∀ Q : Xc → Prop, Q X2 → wx_X12_keepTurned (nI r) (nI f) X Q) ∧ Sim n K Y2 X2 ∧ X.2 15 1 = nI f ∧ Up X X2 ∧ (∀ k, k ≤ 45 → X2.2 k = X.2 k) ∧ X2.1 = X.1 := by
  have hn := S.sc.n7
  have hk2 := S.sc.k2
  have hcr : (nI r).toNatClampNeg = r := nI_clamp (by omega)
  have hvr : vp_in (nI r) 7 := vp_in_nI (by omega) (by omega)
  obtain ⟨ml, me, f, t, hml, hme, hf, ht, m4, ef, et, _, b1, _, b3, b4⟩ := H.hd (by rw [hk]; decide) (by rw [hk]; decide) hn
  obtain ⟨⟨nl, ne, hnl, hne', m5⟩, hft⟩ := H.2.2.1.2.2.2.2.1 hk
  obtain ⟨⟨M, hM, eM⟩, hB100, hEn⟩ := H.2.2.1.2.2.2.2.2.2.2.2.2 (Or.inr (Or.inl hk))
  have hlM : ln (nI M) = M := nI_clamp (by omega)
  rw [eM, hlM] at hEn
  have hfr : f ≠ r := fun q => by
    rw [ef, hto, q] at hft
    exact hft rfl
  have hne := nI_ne1 (r := f) (by omega)
  have en : encM Y o = [9, nI f, nI t, nI ml, nI me, nI nl, nI ne, yI Y 202 (56 + o), nI M] ++ encL (yS Y 200 (56 + o)) 0 M := by
    unfold encM
    rw [hk, m4, m5, ef, et, vw_sess, vw_lead, vw_sess, vw_lead, eM]
    simp [hne, encG, hlM]
  have a5 : X.2 15 5 = nI nl := H.at en (j := 5) (by simp)
  have a6 : X.2 15 6 = nI ne := H.at en (j := 6) (by simp)
  have a7 : X.2 15 7 = yI Y 202 (56 + o) := H.at en (j := 7) (by simp)
  have a8 : X.2 15 8 = nI M := H.at en (j := 8) (by simp)
  obtain ⟨Xa, eXa⟩ : ∃ Xa : Xc, Xa = xA (xA (xA (xA X 47 (7 * r + f) (nI nl)) 48 (7 * r + f) (nI ne)) 49 (7 * r + f) (yI Y 202 (56 + o))) 50 (7 * r + f) (nI M) := ⟨_, rfl⟩
  have ka : ∀ k i, ¬ (47 ≤ k ∧ k ≤ 50 ∧ i = 7 * r + f) → Xa.2 k i = X.2 k i := fun k i h => by
    rw [eXa, xAA, if_neg (by omega), xAA, if_neg (by omega), xAA, if_neg (by omega), xAA, if_neg (by omega)]
  have h15 : Xa.2 15 = X.2 15 := funext (fun i => ka 15 i (by omega))
  obtain ⟨X1, rx1, g1, g2, g3⟩ := x_keep H (r := r) (q := f) (by omega) (by omega) hM en (X0 := Xa) h15 a8
  obtain ⟨c36, c43, c44, c45, c29, c506, c127, cbt, ctd⟩ := S.ch hr hs
  obtain ⟨a, ea⟩ : ∃ a : Int32, a = X.2 46 r ||| ((1 : Int32) <<< (nI f &&& 31)) := ⟨_, rfl⟩
  have ha : Sm 127 a := by rw [ea]; exact or_Sm c127 (by omega)
  have ka46 : Xa.2 46 r = X.2 46 r := ka 46 r (by omega)
  rw [ka46, ← ea] at rx1
  have k1 : ∀ k i, ¬ (47 ≤ k ∧ k ≤ 50 ∧ i = 7 * r + f) → ¬ (51 ≤ k ∧ k ≤ 56 ∧ 100 * (7 * r + f) ≤ i ∧ i < 100 * (7 * r + f) + 100) → X1.2 k i = X.2 k i := fun k i h1 h2 => (g3.2 k i h2).trans (ka k i h1)
  have kf : ∀ k i, k ≠ 46 → ¬ (47 ≤ k ∧ k ≤ 50 ∧ i = 7 * r + f) → ¬ (51 ≤ k ∧ k ≤ 56 ∧ 100 * (7 * r + f) ≤ i ∧ i < 100 * (7 * r + f) + 100) → (xA X1 46 r a).2 k i = X.2 k i := fun k i h0 h1 h2 => by rw [xAA, if_neg (by omega)]; exact k1 k i h1 h2
  have gX : RgX r X (xA X1 46 r a) := by
    refine RgX.wA (RgX.trans ?_ (g3.rg (by omega))) (by omega) _
    rw [eXa]
    exact (((RgX.rf.wA (by omega) _).wA (by omega) _).wA (by omega) _).wA (by omega) _
  obtain ⟨Yf, eYf⟩ : ∃ Yf : Yc, Yf = yBc (uB (uI Y 506 r a) r f (vw (nI nl) (nI ne))) (7 + 7 * r + f) (56 + o) M := ⟨_, rfl⟩
  have gY : RgY r Y Yf := by
    rw [eYf]
    unfold yBc
    exact ((((RgY.rf.wI (by omega) _).wB f _).wL (by omega) (by omega) _).wL (by omega) (by omega) _).wSl (by omega)
  have yI1 : ∀ c o', ¬ (c = 506 ∧ o' = r) → ¬ ((c = 201 ∨ c = 202) ∧ o' = 7 + 7 * r + f) → yI Yf c o' = yI Y c o' := fun c o' h1 h2 => by
    rw [eYf]
    unfold yBc
    rw [(ySl_o _ _ _ _).1, yII, if_neg (by omega), yII, if_neg (by omega), yIB, yII, if_neg (by omega)]
  have yS1 : ∀ o' i, o' ≠ 7 + 7 * r + f → yS Yf 200 o' i = yS Y 200 o' i := fun o' i h => by
    rw [eYf]
    unfold yBc
    rw [ySl_S, if_neg (by omega)]
    rfl
  have S2 : Sim n K Yf (xA X1 46 r a) := by
    refine sim_rep S hr gY gX ⟨?_, ?_, ?_, ?_, fun _ => ?_⟩
    · refine rl_Rp (Y := Y) (X := X) (fun c h => yI1 c r (by omega) (by omega)) (fun c h => ?_) (fun k h => kf k r (by omega) (by omega) (by omega)) (S.rp hr)
      rw [eYf]; rfl
    · have hx : ∀ e, xE (xA X1 46 r a) e = xE X e := fun e => by
        unfold xE
        rw [kf 30 e (by omega) (by omega) (by omega), kf 31 e (by omega) (by omega) (by omega), kf 32 e (by omega) (by omega) (by omega), kf 33 e (by omega) (by omega) (by omega), kf 34 e (by omega) (by omega) (by omega), kf 35 e (by omega) (by omega) (by omega)]
      obtain ⟨l1, l2, l3, l4, l5⟩ := S.lg hr
      unfold LgS
      rw [kf 26 r (by omega) (by omega) (by omega), kf 27 r (by omega) (by omega) (by omega), yI1 201 r (by omega) (by omega), yI1 202 r (by omega) (by omega)]
      refine ⟨l1, l2, l3, l4, fun s hs' => ?_⟩
      rw [hx, yS1 r s (by omega)]
      exact l5 s hs'
    · obtain ⟨l1, l2, l3⟩ := S.hd hr
      unfold HdS
      rw [kf 36 r (by omega) (by omega) (by omega), yI1 502 r (by omega) (by omega)]
      refine ⟨l1, l2, fun i hi => ?_⟩
      have hi0 : i < 0 := by
        rw [c36] at hi
        have : ln (0 : Int32) = 0 := nI_clamp (n := 0) (by omega)
        omega
      omega
    · obtain ⟨l1, l2, l3, l4, l5⟩ := S.ct hr
      unfold CtS
      rw [kf 43 r (by omega) (by omega) (by omega), kf 44 r (by omega) (by omega) (by omega), kf 45 r (by omega) (by omega) (by omega), yI1 503 r (by omega) (by omega), yI1 504 r (by omega) (by omega), yI1 505 r (by omega) (by omega)]
      exact ⟨l1, l2, l3, l4, l5⟩
    · have k46 : (xA X1 46 r a).2 46 r = a := by rw [xAA, if_pos ⟨rfl, rfl⟩]
      rw [kf 36 r (by omega) (by omega) (by omega), kf 43 r (by omega) (by omega) (by omega), kf 44 r (by omega) (by omega) (by omega), kf 45 r (by omega) (by omega) (by omega), kf 29 r (by omega) (by omega) (by omega), k46]
      refine ⟨c36, c43, c44, c45, c29, ?_, ha, ?_, fun q hq hb => ?_⟩
      · rw [eYf]
        unfold yBc
        rw [(ySl_o _ _ _ _).1, yII, if_neg (by omega), yII, if_neg (by omega), yIB, yII, if_pos ⟨rfl, rfl⟩]
      · rw [ea, bt_or c127 (by omega) (by omega)]
        exact fun h => h.elim cbt (fun e => hfr e.symm)
      · rw [ea, bt_or c127 (by omega) (by omega)] at hb
        by_cases e : q = f
        · subst e
          have q47 : (xA X1 46 r a).2 47 (7 * r + q) = nI nl := by rw [xAA, if_neg (by omega), g3.2 47 _ (by omega), eXa, xAA, if_neg (by omega), xAA, if_neg (by omega), xAA, if_neg (by omega), xAA, if_pos ⟨rfl, rfl⟩]
          have q48 : (xA X1 46 r a).2 48 (7 * r + q) = nI ne := by rw [xAA, if_neg (by omega), g3.2 48 _ (by omega), eXa, xAA, if_neg (by omega), xAA, if_neg (by omega), xAA, if_pos ⟨rfl, rfl⟩]
          have q49 : (xA X1 46 r a).2 49 (7 * r + q) = yI Y 202 (56 + o) := by rw [xAA, if_neg (by omega), g3.2 49 _ (by omega), eXa, xAA, if_neg (by omega), xAA, if_pos ⟨rfl, rfl⟩]
          have q50 : (xA X1 46 r a).2 50 (7 * r + q) = nI M := by rw [xAA, if_neg (by omega), g3.2 50 _ (by omega), eXa, xAA, if_pos ⟨rfl, rfl⟩]
          unfold TdS
          rw [q47, q48, q49, q50]
          refine ⟨?_, ⟨nl, hnl, rfl⟩, ⟨ne, hne', rfl⟩, ?_, ?_, ⟨M, hM, rfl⟩, hB100, fun s hs' => ?_⟩
          · rw [eYf]
            unfold yBc
            rw [(ySl_o _ _ _ _).2.2.2.1, yBI, yBI, yBB, if_pos ⟨rfl, rfl⟩]
          · rw [eYf]
            unfold yBc
            rw [(ySl_o _ _ _ _).1, yII, if_pos ⟨rfl, rfl⟩]
            exact eM
          · rw [eYf]
            unfold yBc
            rw [(ySl_o _ _ _ _).1, yII, if_neg (by omega), yII, if_pos ⟨rfl, rfl⟩]
            rfl
          · rw [hlM] at hs'
            have e1 : xT (xA X1 46 r a) (100 * (7 * r + q) + s) = xT X1 (100 * (7 * r + q) + s) := rfl
            rw [e1, g1 s hs', eYf]
            unfold yBc
            rw [ySl_S, if_pos ⟨rfl, rfl, hs'⟩]
            exact ⟨rfl, hEn s hs'⟩
        · have hb := hb.resolve_right e
          obtain ⟨t1, t2, t3, t4, t5, t6, t7, t8⟩ := ctd q hq hb
          unfold TdS
          rw [kf 47 (7 * r + q) (by omega) (by omega) (by omega), kf 48 (7 * r + q) (by omega) (by omega) (by omega), kf 49 (7 * r + q) (by omega) (by omega) (by omega), kf 50 (7 * r + q) (by omega) (by omega) (by omega), yI1 201 _ (by omega) (by omega), yI1 202 _ (by omega) (by omega)]
          refine ⟨?_, t2, t3, t4, t5, t6, t7, fun s hs' => ?_⟩
          · rw [eYf]
            unfold yBc
            rw [(ySl_o _ _ _ _).2.2.2.1, yBI, yBI, yBB, if_neg (by omega)]
            exact t1
          · have hs100 : s < 100 := by
              obtain ⟨z, hz, ez⟩ := t6
              rw [ez] at hs'
              have : ln (nI z) = z := nI_clamp (by omega)
              omega
            have e1 : xT (xA X1 46 r a) (100 * (7 * r + q) + s) = xT X (100 * (7 * r + q) + s) := by
              unfold xT
              rw [kf 51 _ (by omega) (by omega) (by omega), kf 52 _ (by omega) (by omega) (by omega), kf 53 _ (by omega) (by omega) (by omega), kf 54 _ (by omega) (by omega) (by omega), kf 55 _ (by omega) (by omega) (by omega), kf 56 _ (by omega) (by omega) (by omega)]
            rw [e1, yS1 _ s (by omega)]
            exact t8 s hs'
  refine ⟨Yf, xA X1 46 r a, f, hf, hfr, fun Q hQ => ?_, fun Q hQ => ?_, S2, b1, gX.up, fun k hk' => funext (fun i => kf k i (by omega) (by omega) (by omega)), ?_⟩
  · unfold wy_X5_countTurned
    intro x2 e2
    rw [ef] at e2
    subst e2
    refine ⟨fun h => absurd ((nI_lti (a := f) (b := 0) (by omega) (by omega)).mp h) (by omega), fun _ => ⟨fun h => absurd h (nI_ge hf (by omega)), fun _ x8 e8 x10 e10 y14 e14 => ?_⟩⟩
    rw [c506] at e8
    subst e8
    have e10 : x10 = a := e10.trans ea.symm
    subst e10
    have e14 : y14 = vw (nI nl) (nI ne) := e14.trans m5
    subst e14
    rw [nI_clamp (by omega)]
    refine ⟨vp_in_nI hf (by omega), vp_in_nI hf (by omega), y_become (by omega) hM (by exact eM) _ ?_⟩
    rw [← eYf]
    exact hQ
  · have c7 : (7 : Int32) * nI r + nI f = nI (7 * r + f) := by rw [show (7 : Int32) = nI 7 from rfl, nI_mul, nI_add]
    have cl : (nI (7 * r + f)).toNatClampNeg = 7 * r + f := nI_clamp (by omega)
    have v49 : vp_in (nI (7 * r + f)) 49 := vp_in_nI (by omega) (by omega)
    unfold wx_X12_keepTurned
    intro x1 e1
    rw [c7] at e1
    subst e1
    rw [cl]
    refine ⟨v640 (j := 5) (by omega), fun x5 e5 => ⟨v49, v640 (j := 6) (by omega), fun x9 e9 => ⟨v49, v640 (j := 7) (by omega), fun x13 e13 => ⟨v49, v640 (j := 8) (by omega), fun x17 e17 => ⟨v49, ?_⟩⟩⟩⟩⟩
    have e5 : x5 = nI nl := e5.trans a5
    subst e5
    have e9 : x9 = nI ne := by rw [e9, xAA, if_neg (by omega)]; exact a6
    subst e9
    have e13 : x13 = yI Y 202 (56 + o) := by rw [e13, xAA, if_neg (by omega), xAA, if_neg (by omega)]; exact a7
    subst e13
    have e17 : x17 = nI M := by rw [e17, xAA, if_neg (by omega), xAA, if_neg (by omega), xAA, if_neg (by omega)]; exact a8
    subst e17
    rw [← eXa]
    exact rx1 Q hQ
  · show X1.1 = X.1
    rw [g3.1, eXa]
    rfl
end
