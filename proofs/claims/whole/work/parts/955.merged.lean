section
variable {n K : Nat} {Y Y2 : Yc} {X X2 : Xc} {r : Nat}
/-- an entry of the log copied to what is told -/
def xCp (X : Xc) (a b : Nat) : Xc := xA (xA (xA (xA (xA (xA X 51 a (X.2 30 b)) 52 a (X.2 31 b)) 53 a (X.2 32 b)) 54 a (X.2 33 b)) 55 a (X.2 34 b)) 56 a (X.2 35 b)
theorem xCp_v {a b : Nat} : xT (xCp X a b) a = xE X b := by
  unfold xCp xT xE
  simp [xAA]
theorem xCp_k {a b k j : Nat} (h : ¬ (51 ≤ k ∧ k ≤ 56 ∧ j = a)) : (xCp X a b).2 k j = X.2 k j := by
  unfold xCp
  rw [xAA, if_neg (by omega), xAA, if_neg (by omega), xAA, if_neg (by omega), xAA, if_neg (by omega), xAA, if_neg (by omega), xAA, if_neg (by omega)]
theorem xCp_o {a b j : Nat} (h : j ≠ a) : xT (xCp X a b) j = xT X j := by
  unfold xT
  rw [xCp_k (by omega), xCp_k (by omega), xCp_k (by omega), xCp_k (by omega), xCp_k (by omega), xCp_k (by omega)]
theorem nar01 {x : Int32} (h : x = 0 ∨ x = 1) : vp_nar .boolean x = x := by
  rcases h with rfl | rfl
  · exact nar0
  · exact nar1
theorem x_own {L : Nat} (hr : r < 7) (hB : B01 X) (hL : L ≤ 100) (hl : X.2 26 r = nI L) :
    ∃ X1, (∀ Q : Xc → Prop, Q X1 → wx_X12_keepOwn (nI r) X Q) ∧ KtX r r (xA (xA (xA (xA X 47 (7 * r + r) (X.2 24 r)) 48 (7 * r + r) (X.2 25 r)) 49 (7 * r + r) (X.2 27 r)) 50 (7 * r + r) (nI L)) X1 ∧ ∀ s, s < L → xT X1 (100 * (7 * r + r) + s) = xE X (100 * r + s) := by
  have hcr : (nI r).toNatClampNeg = r := nI_clamp (by omega)
  have hvr : vp_in (nI r) 7 := vp_in_nI (by omega) (by omega)
  obtain ⟨Xa, eXa⟩ : ∃ Xa : Xc, Xa = xA (xA (xA (xA X 47 (7 * r + r) (X.2 24 r)) 48 (7 * r + r) (X.2 25 r)) 49 (7 * r + r) (X.2 27 r)) 50 (7 * r + r) (nI L) := ⟨_, rfl⟩
  rw [← eXa]
  have ka : ∀ k i, ¬ (47 ≤ k ∧ k ≤ 50) → Xa.2 k i = X.2 k i := fun k i h => by
    rw [eXa, xAA, if_neg (by omega), xAA, if_neg (by omega), xAA, if_neg (by omega), xAA, if_neg (by omega)]
  have key : ∀ d t X1, t + d = L → KtX r r Xa X1 → (∀ s, s < t → xT X1 (100 * (7 * r + r) + s) = xE X (100 * r + s)) →
      ∃ X2, (∀ Q : Xc → Prop, Q X2 → LFx (fx_X12_keepOwn_57 Q) (nI r, nI (7 * r + r), nI t) X1) ∧ KtX r r Xa X2 ∧ ∀ s, s < L → xT X2 (100 * (7 * r + r) + s) = xE X (100 * r + s) := by
    intro d
    induction d with
    | zero =>
      intro t X1 ht h1 h2
      have ht : t = L := by omega
      subst ht
      refine ⟨X1, fun Q hQ R hR => hR _ _ ⟨hvr, fun x2 e2 => ?_⟩, h1, h2⟩
      have e2 : x2 = nI t := by rw [e2]; show X1.2 26 (nI r).toNatClampNeg = _; rw [hcr, h1.2 26 r (by omega), ka 26 r (by omega)]; exact hl
      subst e2
      exact ⟨fun _ => hQ, fun h => absurd (nI_le (Nat.le_refl t) (by omega)) h⟩
    | succ d ih =>
      intro t X1 ht h1 h2
      have ka1 : ∀ k i, 30 ≤ k ∧ k ≤ 35 → X1.2 k i = X.2 k i := fun k i h => by rw [h1.2 k i (by omega), ka k i (by omega)]
      have hE1 : xE X1 (100 * r + t) = xE X (100 * r + t) := by
        unfold xE
        rw [ka1 30 _ (by omega), ka1 31 _ (by omega), ka1 32 _ (by omega), ka1 33 _ (by omega), ka1 34 _ (by omega), ka1 35 _ (by omega)]
      obtain ⟨X2, r2, g1, g2⟩ := ih (t + 1) (xCp X1 (100 * (7 * r + r) + t) (100 * r + t)) (by omega) ⟨h1.1, fun k i hk => by rw [xCp_k (by omega)]; exact h1.2 k i hk⟩ (fun s hs => by
        by_cases e : s = t
        · subst e; rw [xCp_v]; exact hE1
        · rw [xCp_o (by omega)]; exact h2 s (by omega))
      refine ⟨X2, fun Q hQ R hR => hR _ _ ⟨hvr, fun x2 e2 => ?_⟩, g1, g2⟩
      have e2 : x2 = nI L := by rw [e2]; show X1.2 26 (nI r).toNatClampNeg = _; rw [hcr, h1.2 26 r (by omega), ka 26 r (by omega)]; exact hl
      subst e2
      have ca : (nI (100 * (7 * r + r) + t)).toNatClampNeg = 100 * (7 * r + r) + t := nI_clamp (by omega)
      have va : vp_in (nI (100 * (7 * r + r) + t)) 4900 := vp_in_nI (by omega) (by omega)
      have cb : (nI (100 * r + t)).toNatClampNeg = 100 * r + t := nI_clamp (by omega)
      have vb : vp_in (nI (100 * r + t)) 700 := vp_in_nI (by omega) (by omega)
      refine ⟨fun h => absurd h (nI_ge (by omega) (by omega)), fun _ x5 e5 x7 e7 => ?_⟩
      have e5 : x5 = nI (100 * (7 * r + r) + t) := e5.trans idx100
      have e7 : x7 = nI (100 * r + t) := e7.trans idx100
      subst e5; subst e7
      rw [ca, cb]
      have hb : X1.2 30 (100 * r + t) = 0 ∨ X1.2 30 (100 * r + t) = 1 := by rw [ka1 30 _ (by omega)]; exact hB _
      refine ⟨vb, fun x11 e11 => ?_⟩
      subst e11
      rw [nar01 hb]
      refine ⟨va, vb, fun x15 e15 => ⟨va, vb, fun x19 e19 => ⟨va, vb, fun x23 e23 => ⟨va, vb, fun x27 e27 => ⟨va, vb, fun x31 e31 => ⟨va, fun x33 e33 => ?_⟩⟩⟩⟩⟩⟩
      have e33 : x33 = nI (t + 1) := e33.trans (nI_1 t)
      subst e15; subst e19; subst e23; subst e27; subst e31; subst e33
      exact r2 Q hQ R hR
  obtain ⟨X1, r1, g1, g2⟩ := key L 0 Xa (by omega) ⟨rfl, fun _ _ _ => rfl⟩ (fun s hs => by omega)
  refine ⟨X1, fun Q hQ => ?_, g1, g2⟩
  unfold wx_X12_keepOwn
  intro x1 e1
  rw [idx7] at e1
  subst e1
  rw [nI_clamp (n := 7 * r + r) (by omega), hcr]
  have v49 : vp_in (nI (7 * r + r)) 49 := vp_in_nI (by omega) (by omega)
  refine ⟨hvr, fun x5 e5 => ⟨v49, hvr, fun x9 e9 => ⟨v49, hvr, fun x13 e13 => ⟨v49, hvr, fun x17 e17 => ⟨v49, ?_⟩⟩⟩⟩⟩
  subst e5
  have e9 : x9 = X.2 25 r := e9
  subst e9
  have e13 : x13 = X.2 27 r := e13
  subst e13
  have e17 : x17 = nI L := e17.trans hl
  subst e17
  rw [← eXa]
  exact r1 Q hQ
section
variable {bq : Nat → Bool} {v : Nat → Nat × Nat} {len : Nat → Nat} {ent : Nat → Nat → Option Rq} {bas : Nat → Nat} {X0 : Xc} {b : Nat × Nat} {lk : Nat → Bool}
theorem x_slots (M : MD n K r Y X0 bq v len ent bas) (hk2 : K < 1073741824) (hn : n ≤ 7) (hr : r < n) (hx1 : X.1 1 = nI n) (hX : ∀ k, 43 ≤ k → k ≤ 56 → X.2 k = X0.2 k) (h97 : X.1 97 = nI b.1) (h98 : X.1 98 = nI b.2) (hb : b.1 ≤ K ∧ b.2 ≤ K)
    (hlk : ∀ x, x < n → (lk x = true ↔ (x = r ∨ bq x = true) ∧ v x = b)) (hL : aL lk len r n ≤ 100) {y : Nat} (hy : y < n) (hly : lk y = true) {re : Nat} (hre : re ≤ K) (h22 : X.2 22 r = nI re) :
    ∃ X', (∀ Q : Xc → Prop, bx_X12_merges_186 Q (nI r) (if b.2 = re then nI (bas y) else nI (aL lk len r n)) (nI r) (xA X' 26 r (nI (aL lk len r n))) → LFx (fx_X12_merges_127 Q) (nI r, nI (aL lk len r n), nI y, (0 : Int32)) X) ∧ (∀ s, s < aL lk len r n → xE X' (100 * r + s) = mE lk len ent r n s) ∧ RdX r X X' := by
  have hcr : (nI r).toNatClampNeg = r := nI_clamp (by omega)
  have hvr : vp_in (nI r) 7 := vp_in_nI (by omega) (by omega)
  have key : ∀ d s X1, s + d = aL lk len r n → RdX r X X1 → (∀ j, j < s → xE X1 (100 * r + j) = mE lk len ent r n j) →
      ∃ X', (∀ Q : Xc → Prop, bx_X12_merges_186 Q (nI r) (if b.2 = re then nI (bas y) else nI (aL lk len r n)) (nI r) (xA X' 26 r (nI (aL lk len r n))) → LFx (fx_X12_merges_127 Q) (nI r, nI (aL lk len r n), nI y, nI s) X1) ∧ (∀ s, s < aL lk len r n → xE X' (100 * r + s) = mE lk len ent r n s) ∧ RdX r X X' := by
    intro d
    induction d with
    | zero =>
      intro s X1 hs h1 h2
      have hs : s = aL lk len r n := by omega
      refine ⟨X1, fun Q hQ R hR => hR _ _ ⟨fun _ => ⟨hvr, fun x4 e4 => ⟨hvr, fun x7 e7 => ?_⟩⟩, fun h => absurd (nI_le (by omega) (by omega)) h⟩, fun j hj => h2 j (by omega), h1⟩
      have e4 : x4 = nI b.2 := by rw [e4]; show X1.1 98 = _; rw [h1.1]; exact h98
      have e7 : x7 = nI re := by rw [e7]; show (xA X1 26 (nI r).toNatClampNeg (nI (aL lk len r n))).2 22 (nI r).toNatClampNeg = _; rw [hcr, xAA, if_neg (by omega), h1.2.1 22 r (by omega)]; exact h22
      subst e4; subst e7
      rw [nI_eq (by omega) (by omega)]
      show (_ → bx_X12_merges_186 Q (nI r) (nI (aL lk len r n)) (nI r) (xA X1 26 (nI r).toNatClampNeg (nI (aL lk len r n)))) ∧ (_ → ∀ x11 : Int32, x11 = 7 * nI r + nI y → (vp_in x11 49 ∧ ∀ x13 : Int32, x13 = (xA X1 26 (nI r).toNatClampNeg (nI (aL lk len r n))).2 49 x11.toNatClampNeg → bx_X12_merges_186 Q (nI r) x13 (nI r) (xA X1 26 (nI r).toNatClampNeg (nI (aL lk len r n)))))
      rw [hcr]
      refine ⟨fun q => ?_, fun q x11 e11 => ?_⟩
      · rw [if_neg q] at hQ
        exact hQ
      · rw [if_pos q] at hQ
        rw [idx7] at e11
        subst e11
        refine ⟨vp_in_nI (by omega) (by omega), fun x13 e13 => ?_⟩
        have e13 : x13 = nI (bas y) := by
          rw [e13, nI_clamp (by omega), xAA, if_neg (by omega), h1.2.1 49 _ (by omega), hX 49 (by omega) (by omega)]
          exact (M.2.2.2.1 y hy ((hlk y hy).mp hly).1).2.2.2.2.2.2.1
        subst e13
        exact hQ
    | succ d ih =>
      intro s X1 hs h1 h2
      obtain ⟨X', r', g1, g2⟩ := ih (s + 1) (xWe X1 (100 * r + s) (mE lk len ent r n s)) (by omega) ⟨(xWe_1 _).trans h1.1, fun k i hk => by rw [xWe_k _ (by omega)]; exact h1.2.1 k i hk, fun q => xWe_b _ (h1.2.2 q)⟩ (fun j hj => by
        by_cases e : j = s
        · subst e; exact xWe_v _
        · rw [xWe_o _ (by omega)]; exact h2 j (by omega))
      refine ⟨X', fun Q hQ R hR => hR _ _ ⟨fun h => absurd h (nI_ge (by omega) (by omega)), fun _ => ?_⟩, g1, g2⟩
      refine x_slot M hk2 hn hr (by rw [h1.1]; exact hx1) (fun k a b => funext (fun i => (h1.2.1 k i (by omega)).trans (congrFun (hX k a b) i))) (by rw [h1.1]; exact h97) (by rw [h1.1]; exact h98) hb hlk (s := s) (by omega) (by omega) _ (fun x19 e19 => ?_)
      have e19 : x19 = nI (s + 1) := e19.trans (nI_1 s)
      subst e19
      exact r' Q hQ R hR
  exact key (aL lk len r n) 0 X (by omega) ⟨rfl, fun _ _ _ => rfl, fun q => q⟩ (fun j hj => by omega)
end
theorem ln_nI {x : Int32} {b K : Nat} (h : Sm b x) (hb : b < 2 ^ 31) : x = nI (ln x) ∧ ln x ≤ b := ⟨(h.ln hb).2, (h.ln hb).1⟩
set_option maxHeartbeats 1000000 in
theorem merge_sim (S : Sim n K Y X) (hr : r < n) (hs : X.2 23 r = 2) :
    ∃ Y2 X2, (∀ Q : Yc → Prop, Q Y2 → wy_X8_merge n r Y Q) ∧ (∀ Q : Xc → Prop, Q X2 → wx_X12_keepOwn (nI r) X (fun (X22 : Xc) => (wx_X12_findBest (nI r) X22 (fun (X26 : Xc) => LFx (fx_X12_merges_52 Q) (nI r, (0 : Int32), (-1 : Int32), (0 : Int32)) X26)))) ∧ Sim n K Y2 X2 ∧ Up X X2 := by
  have hn := S.sc.n7
  have hk2 := S.sc.k2
  have hcr : (nI r).toNatClampNeg = r := nI_clamp (by omega)
  have hvr : vp_in (nI r) 7 := vp_in_nI (by omega) (by omega)
  have R := S.rp hr
  obtain ⟨L0, hL0, hl0⟩ := (S.lg hr).2.2.1
  have hll0 : ln (nI L0) = L0 := nI_clamp (by omega)
  obtain ⟨B0, hB0, hb0⟩ := (S.lg hr).2.2.2.1
  obtain ⟨rl, hrl, erl⟩ := R.ldK
  obtain ⟨re, hre, ere⟩ := R.epK
  obtain ⟨ol, hol, eol⟩ := R.llK
  obtain ⟨oe, hoe, eoe⟩ := R.leK
  obtain ⟨c36, c43, c44, c45, c29, c506, c127, cbt, ctd⟩ := S.ch hr hs
  obtain ⟨X1, rx1, g1, gE⟩ := x_own (X := X) (r := r) (by omega) S.pcs.2.2.2.2.2.1 hL0 hl0
  have q1 : ∀ k i, ¬ (47 ≤ k ∧ k ≤ 50 ∧ i = 7 * r + r) → ¬ (51 ≤ k ∧ k ≤ 56 ∧ 100 * (7 * r + r) ≤ i ∧ i < 100 * (7 * r + r) + 100) → X1.2 k i = X.2 k i := fun k i h1 h2 => by
    rw [g1.2 k i h2, xAA, if_neg (by omega), xAA, if_neg (by omega), xAA, if_neg (by omega), xAA, if_neg (by omega)]
  have o47 : X1.2 47 (7 * r + r) = nI ol := by rw [g1.2 47 _ (by omega), xAA, if_neg (by omega), xAA, if_neg (by omega), xAA, if_neg (by omega), xAA, if_pos ⟨rfl, rfl⟩, eol]
  have o48 : X1.2 48 (7 * r + r) = nI oe := by rw [g1.2 48 _ (by omega), xAA, if_neg (by omega), xAA, if_neg (by omega), xAA, if_pos ⟨rfl, rfl⟩, eoe]
  have o49 : X1.2 49 (7 * r + r) = nI B0 := by rw [g1.2 49 _ (by omega), xAA, if_neg (by omega), xAA, if_pos ⟨rfl, rfl⟩, hb0]
  have o50 : X1.2 50 (7 * r + r) = nI L0 := by rw [g1.2 50 _ (by omega), xAA, if_pos ⟨rfl, rfl⟩]
  have h1eq : X1.1 = X.1 := g1.1
  -- the data
  obtain ⟨bq, hbq⟩ : ∃ bq : Nat → Bool, ∀ x, bq x = true ↔ bt (X.2 46 r) x := ⟨fun x => decide ((X.2 46 r >>> (nI x &&& 31)) &&& 1 = 1), fun x => by unfold bt; simp⟩
  have clm : ∀ z : Nat, z < 2 ^ 31 → ln (nI z) = z := fun z hz => nI_clamp hz
  have M : MD n K r Y X1 bq (fun x => (ln (X1.2 47 (7 * r + x)), ln (X1.2 48 (7 * r + x)))) (fun x => ln (X1.2 50 (7 * r + x))) (fun x s => xT X1 (100 * (7 * r + x) + s)) (fun x => ln (X1.2 49 (7 * r + x))) := by
    have hbr : bq r = false := by
      cases h : bq r with
      | false => rfl
      | true => exact absurd ((hbq r).mp h) cbt
    have td : ∀ x, x < n → bq x = true → x ≠ r ∧ TdS K Y X r x := fun x hx h => ⟨fun e => by rw [e, hbr] at h; simp at h, ctd x hx ((hbq x).mp h)⟩
    have xq : ∀ x, x < n → x ≠ r → ∀ s, s < 100 → xT X1 (100 * (7 * r + x) + s) = xT X (100 * (7 * r + x) + s) := fun x hx hxr s hs' => by
      unfold xT
      rw [q1 51 _ (by omega) (by omega), q1 52 _ (by omega) (by omega), q1 53 _ (by omega) (by omega), q1 54 _ (by omega) (by omega), q1 55 _ (by omega) (by omega), q1 56 _ (by omega) (by omega)]
    refine ⟨fun x hx => by rw [hbq x, q1 46 r (by omega) (by omega)], by rw [q1 46 r (by omega) (by omega)]; exact c506, hbr, fun x hx hT => ?_, fun x hx hb => ?_, ?_, ?_, ?_, ?_⟩
    · dsimp only
      by_cases e : x = r
      · subst e
        rw [o47, o48, o49, o50, clm ol (by omega), clm oe (by omega), clm L0 (by omega), clm B0 (by omega)]
        refine ⟨rfl, rfl, hol, hoe, rfl, hL0, rfl, hB0, fun s hs' => ⟨rfl, ?_⟩⟩
        rw [gE s hs']
        exact ((S.lg hr).2.2.2.2 s (by rw [hl0, hll0]; exact hs')).2
      · obtain ⟨_, t1, t2, t3, t4, t5, t6, t7, t8⟩ := td x hx (hT.resolve_left e)
        rw [q1 47 (7 * r + x) (by omega) (by omega), q1 48 (7 * r + x) (by omega) (by omega), q1 49 (7 * r + x) (by omega) (by omega), q1 50 (7 * r + x) (by omega) (by omega)]
        have u2 := t2.ln (by omega)
        have u3 := t3.ln (by omega)
        have u6 := t6.ln (by omega)
        have u7 := t7.ln (by omega)
        refine ⟨u2.2, u3.2, u2.1, u3.1, u6.2, u6.1, u7.2, u7.1, fun s hs' => ⟨rfl, ?_⟩⟩
        rw [xq x hx e s (by omega)]
        exact (t8 s hs').2
    · dsimp only
      obtain ⟨hxr, t1, t2, t3, t4, t5, t6, t7, t8⟩ := td x hx hb
      rw [q1 47 (7 * r + x) (by omega) (by omega), q1 48 (7 * r + x) (by omega) (by omega), q1 49 (7 * r + x) (by omega) (by omega), q1 50 (7 * r + x) (by omega) (by omega)]
      have u2 := t2.ln (by omega)
      have u3 := t3.ln (by omega)
      have u6 := t6.ln (by omega)
      have u7 := t7.ln (by omega)
      rw [← u2.2, ← u3.2, ← u6.2, ← u7.2]
      refine ⟨t1, t4, t5, fun s hs' => ?_⟩
      rw [xq x hx hxr s (by omega)]
      exact (t8 s hs').1
    · dsimp only
      rw [o47, o48, clm ol (by omega), clm oe (by omega), R.nor, eol, eoe]
    · dsimp only
      rw [o50, clm L0 (by omega), (S.lg hr).1, hl0]
    · dsimp only
      rw [o49, clm B0 (by omega), (S.lg hr).2.1, hb0]
    · dsimp only
      rw [o50, clm L0 (by omega)]
      intro s hs'
      rw [gE s hs']
      exact ((S.lg hr).2.2.2.2 s (by rw [hl0, hll0]; exact hs')).1
  have hvr0 : (fun x => (ln (X1.2 47 (7 * r + x)), ln (X1.2 48 (7 * r + x)))) r = (ol, oe) := by
    dsimp only
    rw [o47, o48, clm ol (by omega), clm oe (by omega)]
  generalize (fun x => (ln (X1.2 47 (7 * r + x)), ln (X1.2 48 (7 * r + x)))) = v at M hvr0
  generalize (fun x => ln (X1.2 50 (7 * r + x))) = len at M
  generalize (fun x s => xT X1 (100 * (7 * r + x) + s)) = ent at M
  generalize (fun x => ln (X1.2 49 (7 * r + x))) = bas at M
  obtain ⟨b, eb⟩ : ∃ b, b = bsF bq v (v r) n := ⟨_, rfl⟩
  have hMr := M.2.2.2.1 r hr (Or.inl rfl)
  have hb : b.1 ≤ K ∧ b.2 ≤ K := by
    rw [eb]
    rcases bs_mem bq v (v r) n with h | ⟨i, h1, h2, h3⟩
    · rw [h]; exact ⟨hMr.2.2.1, hMr.2.2.2.1⟩
    · rw [h3]
      have := M.2.2.2.1 i h1 (Or.inr h2)
      exact ⟨this.2.2.1, this.2.2.2.1⟩
  obtain ⟨lk, hlk'⟩ : ∃ lk : Nat → Bool, ∀ x, lk x = true ↔ (x = r ∨ bq x = true) ∧ v x = b := ⟨fun x => decide ((x = r ∨ bq x = true) ∧ v x = b), fun x => by simp⟩
  have hlk : ∀ x, x < n → (lk x = true ↔ (x = r ∨ bq x = true) ∧ v x = b) := fun x _ => hlk' x
  obtain ⟨x0, hx0, hlx0⟩ : ∃ x, x < n ∧ lk x = true := by
    rcases bs_mem bq v (v r) n with h | ⟨i, h1, h2, h3⟩
    · exact ⟨r, hr, (hlk' r).mpr ⟨Or.inl rfl, by rw [eb, h]⟩⟩
    · exact ⟨i, h1, (hlk' i).mpr ⟨Or.inr h2, by rw [eb, h3]⟩⟩
  obtain ⟨j0, hj0, ej0⟩ := io_ex hr hx0
  obtain ⟨y, hyB⟩ := aB_ex lk r n j0 hj0 (by rw [ej0]; exact hlx0)
  obtain ⟨hly, jy, hjy, ejy⟩ := aB_some lk r n hyB
  have hy : y < n := by rw [ejy]; exact io_lt hr hjy
  have hby : bas y ≤ 100 := (M.2.2.2.1 y hy ((hlk' y).mp hly).1).2.2.2.2.2.2.2.1
  have hLm : aL lk len r n ≤ 100 := by
    apply Classical.byContradiction
    intro q
    obtain ⟨j, hj, h1, h2⟩ := aL_mem lk len r n 100 (by omega)
    have hx := io_lt (t := j) hr hj
    have := (M.2.2.2.1 _ hx ((hlk' _).mp h1).1).2.2.2.2.2.1
    omega
  have hmE : ∀ s, s < aL lk len r n → EnOK K (mE lk len ent r n s) := fun s hs' => by
    unfold mE
    split
    · exact fun w hw => by simp at hw
    · cases hq : (aM lk len ent r s n).2 with
      | none => exact fun w hw => by simp at hw
      | some z =>
        obtain ⟨z1, z2, z3, j, hj, ej⟩ := aM_some lk len ent r s n hq
        have hz : z < n := by rw [ej]; exact io_lt hr hj
        exact ((M.2.2.2.1 z hz ((hlk' z).mp z1).1).2.2.2.2.2.2.2.2 s z2).2
  obtain ⟨X2, rx2, b1, b2, b3, b4⟩ := x_best M hk2 hn hr (by rw [h1eq]; exact S.sc.x1) (by rw [q1 24 r (by omega) (by omega), eol, hvr0]) (by rw [q1 25 r (by omega) (by omega), eoe, hvr0])
  rw [← eb] at b2 b3
  obtain ⟨X3, rx3, e3, g3⟩ := x_slots (X := X2) M hk2 hn hr (by rw [b4 1 (by omega) (by omega), h1eq]; exact S.sc.x1) (fun k _ _ => by rw [b1]) b2 b3 hb hlk hLm hy hly hre (by rw [b1, q1 22 r (by omega) (by omega)]; exact ere)
  obtain ⟨Lm, eLm⟩ : ∃ Lm, Lm = aL lk len r n := ⟨_, rfl⟩
  rw [← eLm] at hLm hmE rx3 e3
  obtain ⟨bse, ebse, hbse⟩ : ∃ z : Nat, (if b.2 = re then nI (bas y) else nI Lm) = nI z ∧ z ≤ 100 := by
    split
    · exact ⟨_, rfl, hby⟩
    · exact ⟨_, rfl, hLm⟩
  rw [ebse] at rx3
  -- the states
  obtain ⟨Yf, eYf⟩ : ∃ Yf : Yc, Yf = uI (uI (ySl Y r Lm (mE lk len ent r n)) 201 r (nI Lm)) 202 r (nI bse) := ⟨_, rfl⟩
  obtain ⟨Xf, eXf⟩ : ∃ Xf : Xc, Xf = xA (xA X3 26 r (nI Lm)) 27 r (nI bse) := ⟨_, rfl⟩
  have gY : RgY r Y Yf := by
    rw [eYf]
    exact ((RgY.rf.wSl (Or.inl rfl)).wI (by omega) _).wI (by omega) _
  have gX : RgX r X Xf := by
    rw [eXf]
    refine ((RgX.trans (RgX.trans (RgX.trans ?_ (g1.rg (by omega))) ?_) g3.rg).wA (by omega) _).wA (by omega) _
    · exact (((RgX.rf.wA (by omega) _).wA (by omega) _).wA (by omega) _).wA (by omega) _
    · exact ⟨fun k _ _ h1 h2 => b4 k h1 h2, fun k i _ _ _ _ _ _ _ => by rw [b1], fun h e => by rw [b1]; exact h e⟩
  have kf : ∀ k, k ≤ 45 ∨ 57 ≤ k → k ≠ 26 → k ≠ 27 → ¬ (30 ≤ k ∧ k ≤ 35) → Xf.2 k r = X.2 k r := fun k h1 h2 h3 h4 => by
    rw [eXf, xAA, if_neg (by omega), xAA, if_neg (by omega), g3.2.1 k r (by omega), b1, q1 k r (by omega) (by omega)]
  have t4 : Xf.1 4 = X.1 4 := by
    rw [eXf]
    show X3.1 4 = _
    rw [g3.1, b4 4 (by omega) (by omega), h1eq]
  have yI1 : ∀ c, ¬ (c = 201 ∨ c = 202) → ∀ o, yI Yf c o = yI Y c o := fun c h o => by
    rw [eYf, yII, if_neg (by omega), yII, if_neg (by omega), (ySl_o _ _ _ _).1]
  have Sf : Sim n K (yNm Yf r (X.1 4)) (xNm Xf r (X.1 4)) := by
    refine norm_core S hr (Y := Yf) (X := Xf) gY gX hrl hre ?_ ?_ ?_ (fun c h => yI1 c (by omega) r) (fun k h => kf k (by omega) (by omega) (by omega) (by omega)) ?_ (fun k h => ?_) _
    · rw [eYf]
      show yJ Y 805 r = _
      rw [R.vie, erl, ere]
    · rw [kf 21 (by omega) (by omega) (by omega) (by omega)]; exact erl
    · rw [kf 22 (by omega) (by omega) (by omega) (by omega)]; exact ere
    · have z26 : Xf.2 26 r = nI Lm := by rw [eXf, xAA, if_neg (by omega), xAA, if_pos ⟨rfl, rfl⟩]
      have z27 : Xf.2 27 r = nI bse := by rw [eXf, xAA, if_pos ⟨rfl, rfl⟩]
      unfold LgS
      rw [z26, z27]
      refine ⟨?_, ?_, ⟨Lm, hLm, rfl⟩, ⟨bse, hbse, rfl⟩, fun s hs' => ?_⟩
      · rw [eYf, yII, if_neg (by omega), yII, if_pos ⟨rfl, rfl⟩]
      · rw [eYf, yII, if_pos ⟨rfl, rfl⟩]
      · rw [clm Lm (by omega)] at hs'
        have z : xE Xf (100 * r + s) = xE X3 (100 * r + s) := by rw [eXf]; rfl
        rw [z, e3 s hs', eYf, ySI, ySI, ySl_S, if_pos ⟨rfl, rfl, hs'⟩]
        exact ⟨rfl, hmE s hs'⟩
    · rw [kf k (by omega) (by omega) (by omega) (by omega)]
      rcases h with rfl | rfl | h
      · exact c29
      · exact c36
      · rcases (show k = 43 ∨ k = 44 ∨ k = 45 by omega) with rfl | rfl | rfl
        · exact c43
        · exact c44
        · exact c45
  -- START to the others
  obtain ⟨ys, xs, h1, h2, h3, h4⟩ := seq_sim Sf r (fun t Y' Y2 => ∀ Q : Yc → Prop, Q Y2 → wy_X4_send n 10 (nI r) (nI t) (yJ Y' 805 r) 0 Y' (fun o Y' => wy_X2_become n (56 + o) r Y' Q)) (fun t X' X2 => ∀ Q : Xc → Prop, Q X2 → wx_X12_sendStart (nI r) (nI t) X' Q)
    (fun t Y' X' ht hne S' _ => start_sim S' hr ht)
  refine ⟨ys n, xs n, fun Q hQ => ?_, fun Q hQ => ?_, (h3 n (Nat.le_refl n)).1, ?_⟩
  · refine y_best M hk2 hn hr S.sc.y400 Q ?_
    rw [← eb]
    refine y_len M hk2 hn hr S.sc.y400 hb hlk Q ?_
    rw [← eLm, hyB]
    refine y_slots M hk2 hn hr S.sc.y400 hb hlk hLm _ Q ?_
    have h280 : ∀ s0 : Int32, s0 = nI bse → by_X8_merge_280 n r Q s0 r (uI (ySl Y r Lm (mE lk len ent r n)) 201 r (nI Lm)) := fun s0 es => by
      subst es
      unfold by_X8_merge_280
      rw [← eYf]
      refine yNm_run (X := X) ((yI1 408 (by omega) 0).trans S.sc.tim) _ ?_
      rw [← h1]
      exact y_sendLog_loop hr hn (fun t ht => (h3 t ht).1) (fun t ht => ⟨fun e => ((h4 t ht).1 e).1, fun e => ((h4 t ht).2 e).1⟩) _ hQ
    unfold by_X8_merge_236 wy_J9_min_7cf53 wy_X11_sessionOf
    refine ⟨fun h => absurd ((nI_lti (a := 100) (b := Lm) (by omega) (by omega)).mp h) (by omega), fun _ y19 e19 => ?_⟩
    have e19 : y19 = vw (nI rl) (nI re) := by rw [e19]; show yJ Y 805 r = _; rw [R.vie, erl, ere]
    subst e19
    rw [vw_sess, vw_sess]
    dsimp only
    rw [nI_eq (by omega) (by omega)]
    refine ⟨fun q x31 e31 => h280 _ ?_, fun q => h280 _ ?_⟩
    · rw [if_neg q] at ebse
      rw [e31, yII, if_pos ⟨rfl, rfl⟩, ebse]
    · rw [if_pos q] at ebse
      exact ebse
  · refine rx1 _ (rx2 _ ?_)
    refine x_len M hk2 hn hr (by rw [b4 1 (by omega) (by omega), h1eq]; exact S.sc.x1) (fun k _ _ => by rw [b1]) b2 b3 hb hlk Q ?_
    rw [← eLm, hyB]
    refine rx3 Q ?_
    unfold bx_X12_merges_186
    rw [hcr]
    refine ⟨hvr, ?_⟩
    rw [← eXf]
    refine xNm_run (by omega) _ ?_
    rw [t4, ← h2]
    intro RR hR
    have key : ∀ d t, t + d = n → RR (nI r, nI t) (xs t) := by
      intro d
      induction d with
      | zero =>
        intro t ht
        refine hR _ _ (fun x1 e1 => ?_)
        rw [(h3 t (by omega)).1.sc.x1] at e1
        subst e1
        have ht : t = n := by omega
        subst ht
        exact ⟨fun _ => hQ, fun h => absurd (nI_le (Nat.le_refl t) (by omega)) h⟩
      | succ d ih =>
        intro t ht
        refine hR _ _ (fun x1 e1 => ?_)
        rw [(h3 t (by omega)).1.sc.x1] at e1
        subst e1
        refine ⟨fun h => absurd h (nI_ge (by omega) (by omega)), fun _ => ⟨fun h => ?_, fun h => ?_⟩⟩
        · have h : t = r := (nI_eq (by omega) (by omega)).mp h
          unfold bx_X12_merges_217
          intro x1 e1
          rw [nI_1] at e1
          subst e1
          have := ih (t + 1) (by omega)
          rw [((h4 t (by omega)).1 h).2] at this
          exact this
        · have hne : t ≠ r := fun q => h (by rw [q])
          refine ((h4 t (by omega)).2 hne).2 _ ?_
          unfold bx_X12_merges_217
          intro x1 e1
          rw [nI_1] at e1
          subst e1
          exact ih (t + 1) (by omega)
    exact key n 0 (by omega)
  · have u := (h3 n (Nat.le_refl n)).2.up
    have : Up X (xNm Xf r (X.1 4)) := by
      have : Up X Xf := gX.up
      exact this
    exact this.trans u
end
