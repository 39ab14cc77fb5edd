/-! Sets of replicas -/
def bcF (p0 : Int32) : Int32 :=
  let x1 := p0 - (((p0.toUInt32 >>> ((1 : Int32).toUInt32 &&& Int32.toUInt32 31)).toInt32) &&& (1431655765 : Int32))
  let x3 := (x1 &&& (858993459 : Int32)) + (((x1.toUInt32 >>> ((2 : Int32).toUInt32 &&& Int32.toUInt32 31)).toInt32) &&& (858993459 : Int32))
  let x5 := (x3 + ((x3.toUInt32 >>> ((4 : Int32).toUInt32 &&& Int32.toUInt32 31)).toInt32)) &&& (252645135 : Int32)
  let x7 := x5 + ((x5.toUInt32 >>> ((8 : Int32).toUInt32 &&& Int32.toUInt32 31)).toInt32)
  let x9 := x7 + ((x7.toUInt32 >>> ((16 : Int32).toUInt32 &&& Int32.toUInt32 31)).toInt32)
  x9 &&& (63 : Int32)
def bS (x : Int32) : Nat → Int32
  | 0 => 0
  | k + 1 => bS x k + ((x >>> (nI k &&& 31)) &&& 1)
theorem y_bits {n : Nat} {Y : Yc} (x : Int32) (Q : Int32 → Yc → Prop) (hQ : Q (bcF x) Y) : wy_J6_bitCount_0f7a4 n x Y Q := by
  unfold wy_J6_bitCount_0f7a4
  intro x1 e1 x3 e3 x5 e5 x7 e7 x9 e9
  subst e1; subst e3; subst e5; subst e7; subst e9
  exact hQ
theorem x_bits {X : Xc} (x : Int32) (Q : Int32 → Xc → Prop) (hQ : Q (bS x 7) X) : wx_X12_bits x X Q := by
  unfold wx_X12_bits
  intro R hR
  have key : ∀ d t, t + d = 7 → R (x, bS x t, nI t) X := by
    intro d
    induction d with
    | zero =>
      intro t ht
      have ht : t = 7 := by omega
      subst ht
      exact hR _ _ ⟨fun _ => hQ, fun h => absurd (nI_le (a := 7) (b := 7) (by omega) (by omega)) h⟩
    | succ d ih =>
      intro t ht
      refine hR _ _ ⟨fun h => absurd h (nI_ge (a := t) (b := 7) (by omega) (by omega)), fun _ x2 e2 x4 e4 => ?_⟩
      have e4 : x4 = nI (t + 1) := e4.trans (nI_1 t)
      have e2 : x2 = bS x (t + 1) := e2
      subst e2; subst e4
      exact ih (t + 1) (by omega)
  exact key 7 0 (by omega)
set_option maxRecDepth 100000 in
theorem bits_eq : ∀ a : Fin 128, bcF (nI a.1) = bS (nI a.1) 7 := by decide
set_option maxRecDepth 100000 in
theorem or_eq : ∀ a : Fin 128, ∀ f : Fin 7, (nI a.1 ||| ((1 : Int32) <<< (nI f.1 &&& 31))) = nI ((a.1 ||| (1 <<< f.1)) % 128) := by decide
theorem or_Sm {x : Int32} (h : Sm 127 x) {f : Nat} (hf : f < 7) : Sm 127 (x ||| ((1 : Int32) <<< (nI f &&& 31))) := by
  obtain ⟨a, ha, rfl⟩ := h
  rw [or_eq ⟨a, by omega⟩ ⟨f, hf⟩]
  exact ⟨_, by show (a ||| 1 <<< f) % 128 ≤ 127; omega, rfl⟩
theorem Sm.bits {x : Int32} (h : Sm 127 x) : bcF x = bS x 7 := by
  obtain ⟨a, ha, rfl⟩ := h
  exact bits_eq ⟨a, by omega⟩
section
variable {n K : Nat} {Y Y2 : Yc} {X X2 : Xc} {r : Nat}
theorem gapCommit_hear (S : Sim n K Y X) (hr : r < n) {o : Nat} {l : List Int32} (H : Han n K Y X o l) (hk : yI Y 301 o = 3) :
    ∃ Y2 X2, (∀ Q : Yc → Prop, Q Y2 → wy_X8_hearGapCommit n r (yI Y 306 o) Y Q) ∧ (∀ Q : Xc → Prop, Q X2 → wx_X12_getsInView (nI r) 3 X Q) ∧ Sim n K Y2 X2 ∧ Up X X2 := by
  have hn := S.sc.n7
  have hk1 := S.sc.k1
  have hk2 := S.sc.k2
  have hcr : (nI r).toNatClampNeg = r := nI_clamp (by omega)
  have hvr : vp_in (nI r) 7 := vp_in_nI (by omega) (by omega)
  have R := S.rp hr
  have a5 := H.slot (Or.inr (Or.inl hk)) hn
  obtain ⟨m, hm, em⟩ := H.2.2.1.2.2.2.2.2.1
  obtain ⟨L, hL, hl⟩ := (S.lg hr).2.2.1
  have h201 : yI Y 201 r = nI L := (S.lg hr).1.trans hl
  rw [em]
  obtain ⟨nx, hnx⟩ : ∃ nx : Int32, nx = if m = L + 1 ∧ L < 100 then 1 else 0 := ⟨_, rfl⟩
  have y0 : ∀ Q : Yc → Prop, by_X8_hearGapCommit_28 n r Q (nI m) nx Y → wy_X8_hearGapCommit n r (nI m) Y Q := fun Q h => by
    unfold wy_X8_hearGapCommit
    intro x3 e3
    rw [h201] at e3
    subst e3
    rw [nI_1]
    refine ⟨fun q => ?_, fun q => y_isFull hL h201 _ ⟨fun q2 => ?_, fun q2 => ?_⟩⟩
    · have : ¬ m = L + 1 := fun e => q (by rw [e])
      rw [if_neg (by omega)] at hnx
      unfold by_X8_hearGapCommit_27
      rw [← hnx]; exact h
    · have : ¬ L < 100 := fun e => q2 (by rw [if_pos e])
      rw [if_neg (by omega)] at hnx
      unfold by_X8_hearGapCommit_27
      rw [← hnx]; exact h
    · have q : m = L + 1 := (nI_eq (by omega) (by omega)).mp q
      have : L < 100 := by
        apply Classical.byContradiction
        intro e
        rw [if_neg e] at q2
        exact absurd q2 (by decide)
      rw [if_pos ⟨q, this⟩] at hnx
      rw [← hnx]; exact h
  have yg : ∀ Q : Yc → Prop, ((¬ lds n X r = 0 → Q Y) ∧ (lds n X r = 0 → ((¬ X.2 23 r = 0 → Q Y) ∧ (X.2 23 r = 0 → ((¬ nx = 0 → by_X8_hearGapCommit_59 n r Q (nI m) nx Y) ∧ (nx = 0 → ((1 ≤ m ∧ m ≤ L → by_X8_hearGapCommit_59 n r Q (nI m) nx Y) ∧ (¬ (1 ≤ m ∧ m ≤ L) → Q Y)))))))) → wy_X8_hearGapCommit n r (nI m) Y Q := fun Q h => y0 Q (by
    unfold by_X8_hearGapCommit_28
    refine y_leads S hr _ ⟨h.1, fun a x9 e9 => ?_⟩
    rw [R.sta] at e9
    subst e9
    refine ⟨(h.2 a).1, fun b => ⟨((h.2 a).2 b).1, fun d => y_has (by omega) hL h201 _ ⟨fun q => ?_, fun q => ?_⟩⟩⟩
    · refine (((h.2 a).2 b).2 d).1 ?_
      apply Classical.byContradiction
      intro e
      rw [if_neg e] at q
      exact q rfl
    · refine (((h.2 a).2 b).2 d).2 (fun e => ?_)
      rw [if_pos e] at q
      exact absurd q (by decide))
  have xg : ∀ Q : Xc → Prop, ((¬ lds n X r = 0 → Q X) ∧ (lds n X r = 0 → ((¬ X.2 23 r = 0 → Q X) ∧ (X.2 23 r = 0 → wx_X12_commitGap (nI r) (nI m) X Q)))) → wx_X12_getsInView (nI r) 3 X Q := fun Q h => by
    unfold wx_X12_getsInView
    rw [hcr]
    refine ⟨v640 (j := 5) (by omega), fun x2 e2 => ?_⟩
    have e2 : x2 = nI m := e2.trans (a5.trans em)
    subst e2
    refine ⟨fun h => absurd h (by decide), fun h => absurd h (by decide), fun h => absurd h (by decide), fun _ => x_leads S hr _ ⟨h.1, fun a => ⟨hvr, fun x29 e29 => ?_⟩⟩, fun h => absurd h (by decide), fun h => absurd h (by decide), fun h => absurd h (by decide)⟩
    subst e29
    exact h.2 a
  rcases lds_01 (n := n) (X := X) (r := r) with hd | hd
  · by_cases hs : X.2 23 r = 0
    · have hs2 : X.2 23 r ≠ 2 := by rw [hs]; decide
      by_cases hx : m = L + 1 ∧ L < 100
      · rw [if_pos hx] at hnx
        have hnn : ¬ (1 ≤ m ∧ m ≤ L) := by omega
        -- what is held by that number goes
        obtain ⟨c, hc8, hc⟩ := (S.hd hr).2.1
        have H9 : HdS 9 K Y X r := ⟨(S.hd hr).1, (S.hd hr).2.1.mono (by omega), (S.hd hr).2.2⟩
        have h502 : yI Y 502 r = nI c := (S.hd hr).1.trans hc
        obtain ⟨Y1, X1, ry1, rx1, S1, k23, k26, gX1, gY1⟩ : ∃ Y1 X1, (∀ Q : Option Rq → Yc → Prop, (∀ q, Q q Y1) → wy_X5_release n r (nI m - X.2 27 r) Y Q) ∧ (∀ Q : Xc → Prop, Q X1 → wx_X12_heldAt (nI r) (nI m - X.2 27 r) X (fun (x20 : Int32) (X22 : Xc) => ((x20 = (-1 : Int32) → Q X22) ∧ (¬ x20 = (-1 : Int32) → (wx_X12_drop (nI r) x20 X22 Q))))) ∧ Sim n K Y1 X1 ∧ X1.2 23 r = 0 ∧ X1.2 26 r = nI L ∧ Up X X1 ∧ yI Y1 201 r = nI L := by
          rcases held_find (n := n) H9 (by omega) hc (by omega) (nI m - X.2 27 r) with ⟨i, hi, hx, fy, fx⟩ | ⟨hx, fy, fx⟩
          · have kX : ∀ k, k = 23 ∨ k = 26 → (xRl X r i c).2 k r = X.2 k r := fun k h2 => by
              unfold xRl
              rw [xHs_k (by omega), xAA, if_neg (by omega)]
            refine ⟨yRl Y r i c, xRl X r i c, fun Q hQ => y_release fy hi (by omega) h502 _ (hQ _), fun Q hQ => fx _ ⟨fun h => absurd h (nI_ne1 (by omega)), fun _ => x_drop (by omega) hi (by omega) hc _ hQ⟩, drop_core S hr hi (by omega) hc hs2, by rw [kX 23 (by omega)]; exact hs, by rw [kX 26 (by omega)]; exact hl, ?_, ?_⟩
            · exact Up.ks rfl rfl
            · unfold yRl
              rw [yIS, yIA, yII, if_neg (by omega)]
              exact h201
          · refine ⟨Y, X, fun Q hQ => ?_, fun Q hQ => fx _ ⟨fun _ => hQ, fun h => absurd rfl h⟩, S, hs, hl, Up.rf, h201⟩
            unfold wy_X5_release
            exact fy _ ⟨fun _ => hQ none, fun h => absurd neg1_lt h⟩
        have S2 := no_core S1 hr hx.2 k26 (by rw [k23]; decide)
        have hlt := ldr_lt S2 r
        obtain ⟨Y3, X3, ry3, rx3, s3, f3⟩ := tell_sim S2 hr hlt (k := 4) (s := nI m) (v := nI m) (by unfold PlK; simp) ⟨m, hm, rfl⟩ (by simp)
        have k23' : X3.2 23 r ≠ 2 := by
          rw [f3.kp 23 (by omega) (by omega)]
          unfold xNo
          rw [xAA, if_neg (by omega), xAA, if_neg (by omega), k23]
          decide
        obtain ⟨Y4, X4, ry4, rx4, s4, u4⟩ := takes_sim' s3 hr k23'
        refine ⟨Y4, X4, fun Q hQ => yg Q ⟨fun h => absurd hd h, fun _ => ⟨fun h => absurd hs h, fun _ => ⟨fun _ => ?_, fun h => by rw [hnx] at h; exact absurd h (by decide)⟩⟩⟩, fun Q hQ => xg Q ⟨fun h => absurd hd h, fun _ => ⟨fun h => absurd hs h, fun _ => ?_⟩⟩, s4, gX1.trans (Up.trans (Up.ks rfl rfl) (f3.up.trans u4))⟩
        · rw [hnx]
          unfold by_X8_hearGapCommit_59
          refine ⟨fun h => absurd h (by decide), fun _ x14 e14 => ?_⟩
          rw [(S.lg hr).2.1] at e14
          subst e14
          refine ry1 _ (fun q => y_add hx.2 gY1 _ ?_)
          unfold by_X8_hearGapCommit_100
          intro x2 e2 y5 e5
          rw [(S2.rp hr).num] at e2
          subst e2; subst e5
          refine y_leader S2 hr _ (fun y15 e15 => ?_)
          subst e15
          exact ry3 _ ⟨fun h => absurd h (by decide), fun _ => ry4 Q hQ⟩
        · unfold wx_X12_commitGap
          rw [hcr]
          refine ⟨hvr, fun x2 e2 => ?_⟩
          rw [hl] at e2
          subst e2
          refine x_in (by omega) hL _ ?_
          rw [if_neg hnn]
          refine ⟨fun _ => ⟨hvr, fun x10 e10 => ?_⟩, fun h => absurd rfl h⟩
          rw [hl] at e10
          subst e10
          rw [nI_1]
          refine ⟨fun h => absurd (by rw [hx.1]) h, fun _ => ⟨hvr, fun x14 e14 => ?_⟩⟩
          rw [hl] at e14
          subst e14
          refine ⟨fun h => absurd h (nI_ge (a := L) (b := 100) (by omega) (by omega)), fun _ => ⟨hvr, fun x18 e18 => ?_⟩⟩
          subst e18
          refine rx1 (fun X' => bx_X12_commitGap_91 Q (nI r) (nI m) X') ?_
          unfold bx_X12_commitGap_91
          exact x_addNothing (by omega) hx.2 k26 _ (x_leader S2 hr _ (rx3 _ (rx4 Q hQ)))
      · rw [if_neg hx] at hnx
        by_cases hh : 1 ≤ m ∧ m ≤ L
        · have S2 := void_core S hr (m := m - 1) (L := L) (by omega) hL hl hs2
          have hlt := ldr_lt S2 r
          obtain ⟨Y3, X3, ry3, rx3, s3, f3⟩ := tell_sim S2 hr hlt (k := 4) (s := nI m) (v := nI m) (by unfold PlK; simp) ⟨m, hm, rfl⟩ (by simp)
          refine ⟨Y3, X3, fun Q hQ => yg Q ⟨fun h => absurd hd h, fun _ => ⟨fun h => absurd hs h, fun _ => ⟨fun h => absurd hnx h, fun _ => ⟨fun _ => ?_, fun h => absurd hh h⟩⟩⟩⟩, fun Q hQ => xg Q ⟨fun h => absurd hd h, fun _ => ⟨fun h => absurd hs h, fun _ => ?_⟩⟩, s3, f3.up⟩
          · rw [hnx]
            unfold by_X8_hearGapCommit_59
            refine ⟨fun _ => ?_, fun h => absurd rfl h⟩
            unfold wy_X2_replace
            refine y_has (by omega) hL h201 _ ?_
            rw [if_pos hh, show nI m - (1 : Int32) = nI (m - 1) from nI_sub (a := m) (b := 1) hh.1, nI_clamp (by omega)]
            refine ⟨fun h => absurd h (by decide), fun _ => ⟨vp_in_nI (by omega) (by omega), ?_⟩⟩
            unfold by_X8_hearGapCommit_100
            intro x2 e2 y5 e5
            rw [(S2.rp hr).num] at e2
            subst e2; subst e5
            refine y_leader S2 hr _ (fun y15 e15 => ?_)
            subst e15
            exact ry3 _ ⟨fun _ => hQ, fun h => absurd rfl h⟩
          · unfold wx_X12_commitGap
            rw [hcr]
            refine ⟨hvr, fun x2 e2 => ?_⟩
            rw [hl] at e2
            subst e2
            refine x_in (by omega) hL _ ?_
            rw [if_pos hh, idx101 hh.1, nI_clamp (by omega), nar0]
            exact ⟨fun h => absurd h (by decide), fun _ => ⟨vp_in_nI (by omega) (by omega), x_leader S2 hr _ (rx3 _ hQ)⟩⟩
        · refine ⟨Y, X, fun Q hQ => yg Q ⟨fun h => absurd hd h, fun _ => ⟨fun h => absurd hs h, fun _ => ⟨fun h => absurd hnx h, fun _ => ⟨fun h => absurd h hh, fun _ => hQ⟩⟩⟩⟩, fun Q hQ => xg Q ⟨fun h => absurd hd h, fun _ => ⟨fun h => absurd hs h, fun _ => ?_⟩⟩, S, Up.rf⟩
          unfold wx_X12_commitGap
          rw [hcr]
          refine ⟨hvr, fun x2 e2 => ?_⟩
          rw [hl] at e2
          subst e2
          refine x_in (by omega) hL _ ?_
          rw [if_neg hh]
          refine ⟨fun _ => ⟨hvr, fun x10 e10 => ?_⟩, fun h => absurd rfl h⟩
          rw [hl] at e10
          subst e10
          rw [nI_1]
          refine ⟨fun _ => hQ, fun h => ⟨hvr, fun x14 e14 => ?_⟩⟩
          rw [hl] at e14
          subst e14
          refine ⟨fun _ => hQ, fun h2 => ?_⟩
          have h := (nI_eq (by omega) (by omega)).mp h
          have h2 : ¬ 100 ≤ L := fun q => h2 (nI_le (a := 100) (b := L) q (by omega))
          omega
    · exact ⟨Y, X, fun Q hQ => yg Q ⟨fun h => absurd hd h, fun _ => ⟨fun _ => hQ, fun h => absurd h hs⟩⟩, fun Q hQ => xg Q ⟨fun h => absurd hd h, fun _ => ⟨fun _ => hQ, fun h => absurd h hs⟩⟩, S, Up.rf⟩
  · have hd0 : ¬ lds n X r = 0 := by rw [hd]; decide
    exact ⟨Y, X, fun Q hQ => yg Q ⟨fun _ => hQ, fun h => absurd h hd0⟩, fun Q hQ => xg Q ⟨fun _ => hQ, fun h => absurd h hd0⟩, S, Up.rf⟩
/-- numbers that are counted -/
theorem ct_sim (S : Sim n K Y X) (hr : r < n) (hs : X.2 23 r ≠ 2) {a b s : Int32} (ha : Sm 127 a) (hb : Sm 127 b) :
    Sim n K (uI (uI (uI Y 503 r a) 505 r s) 504 r b) (xA (xA (xA X 43 r a) 44 r s) 45 r b) := by
  refine sim_rep S hr (((RgY.rf.wI (by omega) _).wI (by omega) _).wI (by omega) _) (((RgX.rf.wA (by omega) _).wA (by omega) _).wA (by omega) _) ⟨S.rp hr, S.lg hr, S.hd hr, ?_, fun q => absurd q hs⟩
  unfold CtS
  simp [yII, yIJ, yIA, yIB, yIP, yIS, yIR, yJI, yJJ, yJA, yJB, yJP, yJS, yJR, yAI, yAJ, yAA, yAB, yAP, yAS, yAR, yBI, yBJ, yBA, yBB, yBP, yBS, yBR, yPI, yPJ, yPA, yPB, yPP, yPS, yPR, ySI, ySJ, ySA, ySB, ySP, ySS, ySR, yRI, yRJ, yRA, yRB, yRP, yRS, yRR, xSS, xSA, xAS, xAA, ha, hb]
theorem y_same {c o : Nat} {v : Int32} (h : yI Y c o = v) : uI Y c o v = Y := by
  have : up2 Y.1 c o v = Y.1 := by
    funext c' o'
    show (if c' = c ∧ o' = o then v else Y.1 c' o') = Y.1 c' o'
    split
    · rename_i q; rw [q.1, q.2]; exact h.symm
    · rfl
  unfold uI
  rw [this]
theorem x_same {k i : Nat} {v : Int32} (h : X.2 k i = v) : xA X k i v = X := by
  subst h
  exact xA_same
theorem status_sim (S : Sim n K Y X) (hr : r < n) (hs : X.2 23 r ≠ 2) {s : Int32} (h : s = 0 ∨ s = 1) : Sim n K (uI Y 804 r s) (xA X 23 r s) := by
  refine sim_rep S hr (RgY.rf.wI (by omega) _) (RgX.rf.wA (by omega) _) ⟨?_, S.lg hr, S.hd hr, S.ct hr, fun q => ?_⟩
  · obtain ⟨a1, a2, a3, a4, a5, a6, a7, a8, a9, a10, a11, a12, a13, a14, a15⟩ := S.rp hr
    refine ⟨a1, a2, ?_, a4, a5, a6, a7, a8, a9, a10, a11, a12, a13, ?_, a15⟩
    · rw [yII, if_pos ⟨rfl, rfl⟩, xAA, if_pos ⟨rfl, rfl⟩]
    · rw [xAA, if_pos ⟨rfl, rfl⟩]
      rcases h with h | h
      · exact ⟨0, by omega, h⟩
      · exact ⟨1, by omega, h⟩
  · rw [xAA, if_pos ⟨rfl, rfl⟩] at q
    subst q
    rcases h with h | h
    · exact absurd h (by decide)
    · exact absurd h (by decide)
theorem gapReply_hear (S : Sim n K Y X) (hr : r < n) {o : Nat} {l : List Int32} (H : Han n K Y X o l) (hk : yI Y 301 o = 4) :
    ∃ Y2 X2, (∀ Q : Yc → Prop, Q Y2 → wy_X8_hearGapReply n r o Y Q) ∧ (∀ Q : Xc → Prop, Q X2 → wx_X12_getsInView (nI r) 4 X Q) ∧ Sim n K Y2 X2 ∧ Up X X2 := by
  have hn := S.sc.n7
  have hk2 := S.sc.k2
  have hcr : (nI r).toNatClampNeg = r := nI_clamp (by omega)
  have hvr : vp_in (nI r) 7 := vp_in_nI (by omega) (by omega)
  have R := S.rp hr
  have a5 := H.slot (Or.inr (Or.inr (Or.inl hk))) hn
  obtain ⟨ml, me, f, t, hml, hme, hf, ht, m4, ef, et, _, b1, _⟩ := H.hd (by rw [hk]; decide) (by rw [hk]; decide) hn
  obtain ⟨a, ea⟩ : ∃ a : Int32, a = X.2 43 r ||| ((1 : Int32) <<< (nI f &&& 31)) := ⟨_, rfl⟩
  have ha : Sm 127 a := by rw [ea]; exact or_Sm (S.ct hr).2.2.2.1 (by omega)
  have yg : ∀ Q : Yc → Prop, ((lds n X r = 0 → Q Y) ∧ (¬ lds n X r = 0 → ((¬ X.2 23 r = 1 → Q Y) ∧ (X.2 23 r = 1 → ((yI Y 306 o = X.2 26 r → ((bS a 7 < nI (n / 2) → Q (uI Y 503 r a)) ∧ (¬ bS a 7 < nI (n / 2) → wy_X8_takeHeld n r (uI (uI Y 503 r a) 804 r 0) Q))) ∧ (¬ yI Y 306 o = X.2 26 r → Q Y)))))) → wy_X8_hearGapReply n r o Y Q := fun Q h => by
    unfold wy_X8_hearGapReply
    refine y_leads S hr _ ⟨h.1, fun q1 x9 e9 => ?_⟩
    rw [R.sta] at e9
    subst e9
    refine ⟨(h.2 q1).1, fun q2 x13 e13 x17 e17 => ?_⟩
    rw [(S.lg hr).1] at e17
    subst e13; subst e17
    refine ⟨fun q3 x24 e24 x26 e26 x28 e28 x33 e33 => ?_, ((h.2 q1).2 q2).2⟩
    rw [(S.ct hr).1] at e24
    rw [ef] at e26
    subst e24; subst e26
    have e28 : x28 = a := e28.trans ea.symm
    subst e28
    rw [yII, if_pos ⟨rfl, rfl⟩] at e33
    subst e33
    refine y_bits _ _ (fun x44 e44 => ?_)
    have e44 : x44 = nI (n / 2) := e44.trans S.sc.y401
    subst e44
    rw [ha.bits]
    exact ((h.2 q1).2 q2).1 q3
  have xg : ∀ Q : Xc → Prop, ((lds n X r = 0 → Q X) ∧ (¬ lds n X r = 0 → ((¬ X.2 23 r = 1 → Q X) ∧ (X.2 23 r = 1 → ((yI Y 306 o = X.2 26 r → ((nI (n / 2) ≤ bS a 7 → wx_X12_takes (nI r) (xA (xA X 43 r a) 23 r 0) Q) ∧ (¬ nI (n / 2) ≤ bS a 7 → Q (xA X 43 r a)))) ∧ (¬ yI Y 306 o = X.2 26 r → Q X)))))) → wx_X12_getsInView (nI r) 4 X Q := fun Q h => by
    unfold wx_X12_getsInView
    rw [hcr]
    refine ⟨v640 (j := 5) (by omega), fun x2 e2 => ?_⟩
    have e2 : x2 = yI Y 306 o := e2.trans a5
    subst e2
    refine ⟨fun h => absurd h (by decide), fun h => absurd h (by decide), fun h => absurd h (by decide), fun h => absurd h (by decide), fun _ => x_leads S hr _ ⟨h.1, fun q1 => ⟨hvr, fun x74 e74 => ?_⟩⟩, fun h => absurd h (by decide), fun h => absurd h (by decide)⟩
    subst e74
    refine ⟨(h.2 q1).1, fun q2 => ⟨hvr, fun x78 e78 => ?_⟩⟩
    subst e78
    refine ⟨((h.2 q1).2 q2).2, fun q3 => ?_⟩
    unfold wx_X12_replyGap
    rw [hcr]
    refine ⟨hvr, fun x2 e2 => ⟨v640 (j := 1) (by omega), fun x5 e5 x7 e7 => ⟨hvr, hvr, fun x10 e10 => ?_⟩⟩⟩
    have e5 : x5 = nI f := e5.trans b1
    subst e2; subst e5
    have e7 : x7 = a := e7.trans ea.symm
    subst e7
    rw [xAA, if_pos ⟨rfl, rfl⟩] at e10
    subst e10
    refine x_bits _ _ (fun x16 e16 => ?_)
    have e16 : x16 = nI (n / 2) := e16.trans S.sc.x2
    subst e16
    exact ⟨fun q => ⟨hvr, (((h.2 q1).2 q2).1 q3).1 q⟩, (((h.2 q1).2 q2).1 q3).2⟩
  rcases lds_01 (n := n) (X := X) (r := r) with hd | hd
  · exact ⟨Y, X, fun Q hQ => yg Q ⟨fun _ => hQ, fun h => absurd hd h⟩, fun Q hQ => xg Q ⟨fun _ => hQ, fun h => absurd hd h⟩, S, Up.rf⟩
  · have hd0 : ¬ lds n X r = 0 := by rw [hd]; decide
    by_cases hs : X.2 23 r = 1
    · by_cases hq : yI Y 306 o = X.2 26 r
      · have hs2 : X.2 23 r ≠ 2 := by rw [hs]; decide
        have S1 : Sim n K (uI Y 503 r a) (xA X 43 r a) := by
          have := ct_sim S hr hs2 (a := a) (b := X.2 45 r) (s := X.2 44 r) ha (S.ct hr).2.2.2.2
          have z := S.ct hr
          rw [x_same (X := xA X 43 r a) (k := 44) (i := r) (by rw [xAA, if_neg (by omega)]), x_same (X := xA X 43 r a) (k := 45) (i := r) (by rw [xAA, if_neg (by omega)]), y_same (Y := uI Y 503 r a) (c := 505) (o := r) (by rw [yII, if_neg (by omega)]; exact z.2.2.1), y_same (Y := uI Y 503 r a) (c := 504) (o := r) (by rw [yII, if_neg (by omega)]; exact z.2.1)] at this
          exact this
        by_cases hb : bS a 7 < nI (n / 2)
        · have hb2 : ¬ nI (n / 2) ≤ bS a 7 := Int32.not_le.mpr hb
          exact ⟨_, _, fun Q hQ => yg Q ⟨fun h => absurd h hd0, fun _ => ⟨fun h => absurd hs h, fun _ => ⟨fun _ => ⟨fun _ => hQ, fun h => absurd hb h⟩, fun h => absurd hq h⟩⟩⟩, fun Q hQ => xg Q ⟨fun h => absurd h hd0, fun _ => ⟨fun h => absurd hs h, fun _ => ⟨fun _ => ⟨fun h => absurd h hb2, fun _ => hQ⟩, fun h => absurd hq h⟩⟩⟩, S1, Up.rf⟩
        · have hb2 : nI (n / 2) ≤ bS a 7 := Int32.not_lt.mp hb
          have S2 := status_sim S1 hr hs2 (s := 0) (Or.inl rfl)
          obtain ⟨Y4, X4, ry4, rx4, s4, u4⟩ := takes_sim' S2 hr (by rw [xAA, if_pos ⟨rfl, rfl⟩]; decide)
          exact ⟨Y4, X4, fun Q hQ => yg Q ⟨fun h => absurd h hd0, fun _ => ⟨fun h => absurd hs h, fun _ => ⟨fun _ => ⟨fun h => absurd h hb, fun _ => ry4 Q hQ⟩, fun h => absurd hq h⟩⟩⟩, fun Q hQ => xg Q ⟨fun h => absurd h hd0, fun _ => ⟨fun h => absurd hs h, fun _ => ⟨fun _ => ⟨fun _ => rx4 Q hQ, fun h => absurd hb2 h⟩, fun h => absurd hq h⟩⟩⟩, s4, u4⟩
      · exact ⟨Y, X, fun Q hQ => yg Q ⟨fun h => absurd h hd0, fun _ => ⟨fun h => absurd hs h, fun _ => ⟨fun h => absurd h hq, fun _ => hQ⟩⟩⟩, fun Q hQ => xg Q ⟨fun h => absurd h hd0, fun _ => ⟨fun h => absurd hs h, fun _ => ⟨fun h => absurd h hq, fun _ => hQ⟩⟩⟩, S, Up.rf⟩
    · exact ⟨Y, X, fun Q hQ => yg Q ⟨fun h => absurd h hd0, fun _ => ⟨fun _ => hQ, fun h => absurd h hs⟩⟩, fun Q hQ => xg Q ⟨fun h => absurd h hd0, fun _ => ⟨fun _ => hQ, fun h => absurd h hs⟩⟩, S, Up.rf⟩
end
