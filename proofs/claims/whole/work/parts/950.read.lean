theorem getD_app (a b : List Int32) (j : Nat) : (a ++ b).getD (a.length + j) 0 = b.getD j 0 := by
  simp [List.getD_eq_getElem?_getD, List.getElem?_append_right]
theorem getD_apl {a : List Int32} (b : List Int32) {j : Nat} (h : j < a.length) : (a ++ b).getD j 0 = a.getD j 0 := by
  simp [List.getD_eq_getElem?_getD, List.getElem?_append_left h]
theorem encL_add (f : Nat → Option Rq) : ∀ a s b, encL f s (a + b) = encL f s a ++ encL f (s + a) b := by
  intro a
  induction a with
  | zero => intro s b; rw [Nat.zero_add]; rfl
  | succ a ih =>
    intro s b
    rw [show a + 1 + b = (a + b) + 1 by omega]
    show encE (f s) ++ encL f (s + 1) (a + b) = (encE (f s) ++ encL f (s + 1) a) ++ encL f (s + (a + 1)) b
    rw [ih (s + 1) b, List.append_assoc, show s + 1 + a = s + (a + 1) by omega]
section
variable {n K : Nat} {Y Y2 : Yc} {X X2 : Xc} {r : Nat}
theorem ent_at {o : Nat} {l : List Int32} (H : Han n K Y X o l) {pre : List Int32} {f : Nat → Option Rq} {L s j : Nat} (en : encM Y o = pre ++ encL f 0 L) (hs : s < L) (hj : j < (encE (f s)).length) :
    X.2 15 (pre.length + (encL f 0 s).length + j) = (encE (f s)).getD j 0 ∧ pre.length + (encL f 0 s).length + j < 640 := by
  have e1 : encL f 0 L = encL f 0 s ++ (encE (f s) ++ encL f (s + 1) (L - s - 1)) := by
    rw [show L = s + ((L - s - 1) + 1) by omega, encL_add]
    show _ ++ (encE (f (0 + s)) ++ encL f (0 + s + 1) (L - s - 1)) = _
    rw [Nat.zero_add, show s + (L - s - 1 + 1) - s - 1 = L - s - 1 by omega]
  have hlen : pre.length + (encL f 0 s).length + j < (encM Y o).length := by
    rw [en, e1]
    simp only [List.length_append]
    omega
  have h640 := H.2.2.2.2
  rw [← H.2.1] at h640
  refine ⟨?_, by omega⟩
  rw [H.at rfl hlen, en, e1, Nat.add_assoc, getD_app, getD_app, getD_apl _ hj]
/-- an entry in the reference's log -/
def xWe (X : Xc) (e : Nat) : Option Rq → Xc
  | none => xA X 30 e 0
  | some w => xWr X e w
theorem xWe_v {e : Nat} (q : Option Rq) : xE (xWe X e q) e = q := by
  cases q with
  | none =>
    unfold xWe xE
    simp [xAA]
  | some w => exact xWr_v
theorem xWe_o {e j : Nat} (q : Option Rq) (h : j ≠ e) : xE (xWe X e q) j = xE X j := by
  cases q with
  | none =>
    unfold xWe xE
    simp [xAA, h]
  | some w => exact xWr_o h
theorem xWe_k {e k j : Nat} (q : Option Rq) (h : ¬ (30 ≤ k ∧ k ≤ 35 ∧ j = e)) : (xWe X e q).2 k j = X.2 k j := by
  cases q with
  | none =>
    unfold xWe
    rw [xAA, if_neg (by omega)]
  | some w =>
    unfold xWe xWr
    rw [xAA, if_neg (by omega), xAA, if_neg (by omega), xAA, if_neg (by omega), xAA, if_neg (by omega), xAA, if_neg (by omega), xAA, if_neg (by omega)]
theorem xWe_b {e : Nat} (q : Option Rq) (h : B01 X) : B01 (xWe X e q) := by
  intro e'
  cases q with
  | none =>
    show (if 30 = 30 ∧ e' = e then (0 : Int32) else X.2 30 e') = 0 ∨ (if 30 = 30 ∧ e' = e then (0 : Int32) else X.2 30 e') = 1
    split
    · exact Or.inl rfl
    · exact h e'
  | some w =>
    show (if 30 = 30 ∧ e' = e then (1 : Int32) else X.2 30 e') = 0 ∨ (if 30 = 30 ∧ e' = e then (1 : Int32) else X.2 30 e') = 1
    split
    · exact Or.inr rfl
    · exact h e'
theorem xWe_1 {e : Nat} (q : Option Rq) : (xWe X e q).1 = X.1 := by cases q <;> rfl
/-- a log read -/
def RdX (r : Nat) (X X2 : Xc) : Prop := X2.1 = X.1 ∧ (∀ k i, ¬ (30 ≤ k ∧ k ≤ 35 ∧ 100 * r ≤ i ∧ i < 100 * r + 100) → X2.2 k i = X.2 k i) ∧ (B01 X → B01 X2)
theorem RdX.rg (h : RdX r X X2) : RgX r X X2 := ⟨fun k _ _ _ _ => by rw [h.1], fun k i _ _ _ a _ _ _ => h.2.1 k i (by omega), h.2.2⟩
theorem x_read1 {o : Nat} {l : List Int32} (H : Han n K Y X o l) (hr : r < 7) {pre : List Int32} {f : Nat → Option Rq} {L s : Nat} (hL : L ≤ 100) (en : encM Y o = pre ++ encL f 0 L) (hs : s < L) {X0 : Xc} (h15 : X0.2 15 = X.2 15)
    (Q : Xc → Prop) (R : Int32 × Int32 × Int32 × Int32 → Xc → Prop) (hR : R (nI r, nI L, nI (pre.length + (encL f 0 (s + 1)).length), nI (s + 1)) (xWe X0 (100 * r + s) (f s))) :
    fx_X12_readEntries_6 Q R (nI r, nI L, nI (pre.length + (encL f 0 s).length), nI s) X0 := by
  generalize hp : pre.length + (encL f 0 s).length = p at *
  have hp1 : pre.length + (encL f 0 (s + 1)).length = p + (encE (f s)).length := by
    rw [encL_add f s 0 1, List.length_append, ← hp, ← Nat.add_assoc]
    show pre.length + (encL f 0 s).length + (encE (f (0 + s)) ++ []).length = _
    rw [List.append_nil, Nat.zero_add]
  rw [hp1] at hR
  have hat : ∀ j, j < (encE (f s)).length → X0.2 15 (p + j) = (encE (f s)).getD j 0 ∧ p + j < 640 := fun j hj => by
    have := ent_at H en hs hj
    rw [hp] at this
    rw [h15]
    exact this
  have hpos : 0 < (encE (f s)).length := by cases f s <;> simp [encE]
  have he : (nI (100 * r + s)).toNatClampNeg = 100 * r + s := nI_clamp (by omega)
  have hve : vp_in (nI (100 * r + s)) 700 := vp_in_nI (by omega) (by omega)
  refine ⟨fun h => absurd h (nI_ge (by omega) (by omega)), fun _ x2 e2 => ?_⟩
  have e2 : x2 = nI (100 * r + s) := e2.trans idx100
  subst e2
  refine ⟨v640 (hat 0 hpos).2, fun x6 e6 => ?_⟩
  have hcp : (nI p).toNatClampNeg = p := nI_clamp (by have := (hat 0 hpos).2; omega)
  have e6 : x6 = (encE (f s)).getD 0 0 := by rw [e6]; show X0.2 15 (nI p).toNatClampNeg = _; rw [hcp]; exact (hat 0 hpos).1
  cases hq : f s with
  | none =>
    rw [hq] at e6 hR
    have e6 : x6 = 0 := e6
    subst e6
    refine ⟨fun _ => ?_, fun h => absurd h (by decide)⟩
    unfold bx_X12_readEntries_43
    rw [he, nar0]
    refine ⟨hve, fun x1 e1 => ⟨hve, fun x4 e4 => ?_⟩⟩
    have e1 : x1 = nI (p + 1) := e1.trans (nI_1 p)
    rw [xAA, if_pos ⟨rfl, rfl⟩] at e4
    subst e1; subst e4
    refine ⟨fun _ => ?_, fun h => absurd rfl h⟩
    unfold bx_X12_readEntries_138
    intro x1 e1
    have e1 : x1 = nI (s + 1) := e1.trans (nI_1 s)
    subst e1
    exact hR
  | some w =>
    rw [hq] at e6 hR hat
    have e6 : x6 = 1 := e6
    subst e6
    refine ⟨fun h => absurd rfl h, fun _ => ?_⟩
    have h1 : X0.2 15 (p + 1) = w.1 ∧ p + 1 < 640 := hat 1 (by simp [encE])
    have h2 : X0.2 15 (p + 2) = w.2.1 ∧ p + 2 < 640 := hat 2 (by simp [encE])
    have h3 : X0.2 15 (p + 3) = w.2.2.1 ∧ p + 3 < 640 := hat 3 (by simp [encE])
    have h4 : X0.2 15 (p + 4) = w.2.2.2.1 ∧ p + 4 < 640 := hat 4 (by simp [encE])
    have h5 : X0.2 15 (p + 5) = w.2.2.2.2 ∧ p + 5 < 640 := hat 5 (by simp [encE])
    have cp : ∀ j, j < 6 → (nI (p + j)).toNatClampNeg = p + j := fun j hj => nI_clamp (by omega)
    unfold bx_X12_readEntries_43
    rw [he, nar1]
    refine ⟨hve, fun x1 e1 => ⟨hve, fun x4 e4 => ?_⟩⟩
    have e1 : x1 = nI (p + 1) := e1.trans (nI_1 p)
    rw [xAA, if_pos ⟨rfl, rfl⟩] at e4
    subst e1; subst e4
    refine ⟨fun h => absurd h (by decide), fun _ => ⟨v640 h1.2, fun x9 e9 => ⟨hve, fun x13 e13 => ?_⟩⟩⟩
    have e9 : x9 = w.1 := by rw [e9, cp 1 (by omega)]; exact h1.1
    have e13 : x13 = nI (p + 2) := by rw [e13]; exact nI_add (p + 1) 1
    subst e9; subst e13
    refine ⟨v640 h2.2, fun x15 e15 => ⟨hve, fun x19 e19 => ?_⟩⟩
    have e15 : x15 = w.2.1 := by rw [e15, cp 2 (by omega)]; exact h2.1
    have e19 : x19 = nI (p + 3) := by rw [e19]; exact nI_add (p + 1) 2
    subst e15; subst e19
    refine ⟨v640 h3.2, fun x21 e21 => ⟨hve, fun x25 e25 => ?_⟩⟩
    have e21 : x21 = w.2.2.1 := by rw [e21, cp 3 (by omega)]; exact h3.1
    have e25 : x25 = nI (p + 4) := by rw [e25]; exact nI_add (p + 1) 3
    subst e21; subst e25
    refine ⟨v640 h4.2, fun x27 e27 => ⟨hve, fun x31 e31 => ?_⟩⟩
    have e27 : x27 = w.2.2.2.1 := by rw [e27, cp 4 (by omega)]; exact h4.1
    have e31 : x31 = nI (p + 5) := by rw [e31]; exact nI_add (p + 1) 4
    subst e27; subst e31
    refine ⟨v640 h5.2, fun x33 e33 => ⟨hve, fun x35 e35 => ?_⟩⟩
    have e33 : x33 = w.2.2.2.2 := by rw [e33, cp 5 (by omega)]; exact h5.1
    have e35 : x35 = nI (p + 6) := by rw [e35]; exact nI_add (p + 1) 5
    subst e33; subst e35
    unfold bx_X12_readEntries_138
    intro x1 e1
    have e1 : x1 = nI (s + 1) := e1.trans (nI_1 s)
    subst e1
    exact hR
theorem x_read {o : Nat} {l : List Int32} (H : Han n K Y X o l) (hr : r < 7) {pre : List Int32} {f : Nat → Option Rq} {L : Nat} (hL : L ≤ 100) (en : encM Y o = pre ++ encL f 0 L) {X0 : Xc} (h15 : X0.2 15 = X.2 15) :
    ∃ X2, (∀ Q : Xc → Prop, Q X2 → wx_X12_readEntries (nI r) (nI L) (nI pre.length) X0 Q) ∧ (∀ s, s < L → xE X2 (100 * r + s) = f s) ∧ (∀ s, L ≤ s → xE X2 (100 * r + s) = xE X0 (100 * r + s)) ∧ RdX r X0 X2 := by
  have key : ∀ d t X1, t + d = L → RdX r X0 X1 → (∀ s, s < t → xE X1 (100 * r + s) = f s) → (∀ s, t ≤ s → xE X1 (100 * r + s) = xE X0 (100 * r + s)) →
      ∃ X2, (∀ Q : Xc → Prop, Q X2 → LFx (fx_X12_readEntries_6 Q) (nI r, nI L, nI (pre.length + (encL f 0 t).length), nI t) X1) ∧ (∀ s, s < L → xE X2 (100 * r + s) = f s) ∧ (∀ s, L ≤ s → xE X2 (100 * r + s) = xE X0 (100 * r + s)) ∧ RdX r X0 X2 := by
    intro d
    induction d with
    | zero =>
      intro t X1 ht h1 h2 h3
      have ht : t = L := by omega
      subst ht
      exact ⟨X1, fun Q hQ R hR => hR _ _ ⟨fun _ => hQ, fun h => absurd (nI_le (Nat.le_refl t) (by omega)) h⟩, h2, h3, h1⟩
    | succ d ih =>
      intro t X1 ht h1 h2 h3
      obtain ⟨X2, r2, g1, g2, g3⟩ := ih (t + 1) (xWe X1 (100 * r + t) (f t)) (by omega) ⟨(xWe_1 _).trans h1.1, fun k i hk => by rw [xWe_k _ (by omega)]; exact h1.2.1 k i hk, fun q => xWe_b _ (h1.2.2 q)⟩ (fun s hs => by
        by_cases e : s = t
        · subst e; exact xWe_v _
        · rw [xWe_o _ (by omega)]; exact h2 s (by omega)) (fun s hs => by rw [xWe_o _ (by omega)]; exact h3 s (by omega))
      exact ⟨X2, fun Q hQ R hR => hR _ _ (x_read1 H hr hL en (by omega) (by funext i; rw [h1.2.1 15 i (by omega), h15]) Q R (r2 Q hQ R hR)), g1, g2, g3⟩
  exact key L 0 X0 (by omega) ⟨rfl, fun _ _ _ => rfl, fun q => q⟩ (fun s hs => by omega) (fun s _ => rfl)
theorem sync_hear (S : Sim n K Y X) (hr : r < n) {o : Nat} {l : List Int32} (H : Han n K Y X o l) (hk : yI Y 301 o = 5) (ho : o < 256) :
    ∃ Y2 X2, (∀ Q : Yc → Prop, Q Y2 → wy_X8_hearSync n r (56 + o) Y Q) ∧ (∀ Q : Xc → Prop, Q X2 → wx_X12_getsInView (nI r) 5 X Q) ∧ Sim n K Y2 X2 ∧ Up X X2 := by
  have hn := S.sc.n7
  have hk1 := S.sc.k1
  have hcr : (nI r).toNatClampNeg = r := nI_clamp (by omega)
  have hvr : vp_in (nI r) 7 := vp_in_nI (by omega) (by omega)
  have R := S.rp hr
  obtain ⟨ml, me, f, t, hml, hme, hf, ht, m4, ef, et, _, b1, _⟩ := H.hd (by rw [hk]; decide) (by rw [hk]; decide) hn
  obtain ⟨⟨M, hM, eM⟩, _, hEn⟩ := H.2.2.1.2.2.2.2.2.2.2.2.2 (Or.inl hk)
  have hlM : ln (nI M) = M := nI_clamp (by omega)
  rw [eM, hlM] at hEn
  have hne := nI_ne1 (r := f) (by omega)
  have en : encM Y o = [5, nI f, nI t, nI ml, nI me, nI M] ++ encL (yS Y 200 (56 + o)) 0 M := by
    unfold encM
    rw [hk, m4, ef, et, vw_sess, vw_lead, eM]
    simp [hne, encG, hlM]
  have a5 : X.2 15 5 = nI M := H.at en (j := 5) (by simp)
  obtain ⟨L, hL, hl⟩ := (S.lg hr).2.2.1
  have hll : ln (nI L) = L := nI_clamp (by omega)
  have h201 : yI Y 201 r = nI L := (S.lg hr).1.trans hl
  obtain ⟨v, ev⟩ : ∃ v : Int32, v = if nI M ≤ X.2 29 r then X.2 29 r else nI M := ⟨_, rfl⟩
  have yg : ∀ Q : Yc → Prop, ((¬ lds n X r = 0 → Q Y) ∧ (lds n X r = 0 → ((¬ X.2 23 r = 0 → Q Y) ∧ (X.2 23 r = 0 → ((M ≤ L → wy_X4_leaderOf n (yJ Y 805 r) (uI (ySl Y r M (yS Y 200 (56 + o))) 809 r v) (fun (x51 : Int32) (Y48 : Yc) => (∀ y54 : Int64, y54 = yJ Y48 805 r → (∀ x56 : Int32, x56 = yI Y48 201 (56 + o) → (wy_X4_send n (6 : Int32) (nI r) x51 y54 x56 Y48 (fun (o62 : Nat) (Y59 : Yc) => Q Y59)))))) ∧ (¬ M ≤ L → Q Y)))))) → wy_X8_hearSync n r (56 + o) Y Q := fun Q h => by
    unfold wy_X8_hearSync
    refine y_leads S hr _ ⟨h.1, fun q1 x9 e9 => ?_⟩
    rw [R.sta] at e9
    subst e9
    refine ⟨(h.2 q1).1, fun q2 x14 e14 x17 e17 => ?_⟩
    rw [h201] at e14
    rw [eM] at e17
    subst e14; subst e17
    refine ⟨fun q3 => y_copyFirst (by omega) hM eM _ (fun x28 e28 x30 e30 => ?_), fun q3 => ((h.2 q1).2 q2).2 (fun e => q3 (nI_le e (by omega)))⟩
    have e28 : x28 = X.2 29 r := e28.trans R.syn
    have e30 : x30 = nI M := e30.trans eM
    subst e28; subst e30
    have h3 := ((h.2 q1).2 q2).1 ((nI_lei (by omega) (by omega)).mp q3)
    have fin : ∀ v', v' = v → ∀ x41 : Int32, x41 = yI (uI (ySl Y r M (yS Y 200 (56 + o))) 809 r v') 800 r → (∀ y44 : Int64, y44 = yJ (uI (ySl Y r M (yS Y 200 (56 + o))) 809 r v') 805 r → (wy_X4_leaderOf n y44 (uI (ySl Y r M (yS Y 200 (56 + o))) 809 r v') (fun (x51 : Int32) (Y48 : Yc) => (∀ y54 : Int64, y54 = yJ Y48 805 r → (∀ x56 : Int32, x56 = yI Y48 201 (56 + o) → (wy_X4_send n (6 : Int32) x41 x51 y54 x56 Y48 (fun (o62 : Nat) (Y59 : Yc) => Q Y59))))))) := fun v' e' x41 e41 y44 e44 => by
      subst e'
      have e41 : x41 = nI r := e41.trans R.num
      have e44 : y44 = yJ Y 805 r := e44
      subst e41; subst e44
      exact h3
    unfold wy_J9_max_7cf53
    refine ⟨fun q => fin _ ?_, fun q => fin _ ?_⟩
    · rw [ev, if_neg (Int32.not_le.mpr q)]
    · rw [ev, if_pos (Int32.not_lt.mp q)]
  by_cases hd : lds n X r = 0
  · by_cases hs : X.2 23 r = 0
    · by_cases hML : M ≤ L
      · have hs2 : X.2 23 r ≠ 2 := by rw [hs]; decide
        obtain ⟨X1, rx1, g1, g2, g3⟩ := x_read H (r := r) (by omega) hM en (X0 := X) rfl
        have S1 : Sim n K (uI (ySl Y r M (yS Y 200 (56 + o))) 809 r v) (xA X1 29 r v) := by
          have kx : ∀ k, ¬ (30 ≤ k ∧ k ≤ 35) → X1.2 k r = X.2 k r := fun k h => g3.2.1 k r (by omega)
          refine sim_rep S hr ((RgY.rf.wSl (Or.inl rfl)).wI (by omega) _) (g3.rg.wA (by omega) _) ⟨?_, ?_, ?_, ?_, fun q => ?_⟩
          · obtain ⟨a1, a2, a3, a4, a5, a6, a7, a8, a9, a10, a11, a12, a13, a14, a15, a16, a17, a18, a19⟩ := S.rp hr
            have w : ∀ k, k ≠ 29 → ¬ (30 ≤ k ∧ k ≤ 35) → (xA X1 29 r v).2 k r = X.2 k r := fun k h h2 => by rw [xAA, if_neg (by omega), kx k h2]
            unfold RpS
            rw [w 20 (by omega) (by omega), w 21 (by omega) (by omega), w 22 (by omega) (by omega), w 23 (by omega) (by omega), w 24 (by omega) (by omega), w 25 (by omega) (by omega), w 28 (by omega) (by omega), w 57 (by omega) (by omega), w 58 (by omega) (by omega), w 59 (by omega) (by omega), w 60 (by omega) (by omega), w 61 (by omega) (by omega)]
            refine ⟨a1, a2, a3, a4, a5, a6, ?_, a8, a9, a10, a11, a12, a13, a14, a15, a16, a17, a18, a19⟩
            rw [yII, if_pos ⟨rfl, rfl⟩, xAA, if_pos ⟨rfl, rfl⟩]
          · obtain ⟨c1, c2, c3, c4, c5⟩ := S.lg hr
            unfold LgS
            rw [show (xA X1 29 r v).2 26 r = X.2 26 r from (kx 26 (by omega)), show (xA X1 29 r v).2 27 r = X.2 27 r from (kx 27 (by omega))]
            refine ⟨c1, c2, c3, c4, fun s hs' => ?_⟩
            have e1 : xE (xA X1 29 r v) (100 * r + s) = xE X1 (100 * r + s) := rfl
            rw [e1, ySI, ySl_S]
            by_cases h : s < M
            · rw [if_pos ⟨rfl, rfl, h⟩, g1 s h]
              exact ⟨rfl, hEn s h⟩
            · rw [if_neg (by omega), g2 s (by omega)]
              exact c5 s hs'
          · obtain ⟨c1, c2, c3⟩ := S.hd hr
            unfold HdS xH
            rw [show (xA X1 29 r v).2 36 r = X.2 36 r from (kx 36 (by omega))]
            refine ⟨c1, c2, fun i hi => ?_⟩
            have w : ∀ k, 37 ≤ k ∧ k ≤ 42 → (xA X1 29 r v).2 k (16 * r + i) = X.2 k (16 * r + i) := fun k h => by rw [xAA, if_neg (by omega), g3.2.1 k _ (by omega)]
            rw [w 37 (by omega), w 38 (by omega), w 39 (by omega), w 40 (by omega), w 41 (by omega), w 42 (by omega)]
            exact c3 i hi
          · obtain ⟨c1, c2, c3, c4, c5⟩ := S.ct hr
            unfold CtS
            rw [show (xA X1 29 r v).2 43 r = X.2 43 r from (kx 43 (by omega)), show (xA X1 29 r v).2 44 r = X.2 44 r from (kx 44 (by omega)), show (xA X1 29 r v).2 45 r = X.2 45 r from (kx 45 (by omega))]
            exact ⟨c1, c2, c3, c4, c5⟩
          · rw [xAA, if_neg (by omega), kx 23 (by omega)] at q
            exact absurd q hs2
        have hlt := ldr_lt S1 r
        obtain ⟨Y2, X2, ry, rx, s2, f2⟩ := tell_sim S1 hr hlt (k := 6) (s := nI M) (v := nI M) (by unfold PlK; simp) ⟨M, by omega, rfl⟩ (by simp)
        refine ⟨Y2, X2, fun Q hQ => yg Q ⟨fun h => absurd hd h, fun _ => ⟨fun h => absurd hs h, fun _ => ⟨fun _ => ?_, fun h => absurd hML h⟩⟩⟩, fun Q hQ => ?_, s2, Up.trans (g3.rg.up) f2.up⟩
        · refine y_leader S1 hr _ (fun y54 e54 x56 e56 => ?_)
          have e56 : x56 = nI M := e56.trans eM
          subst e54; subst e56
          exact ry _ hQ
        · unfold wx_X12_getsInView
          rw [hcr]
          refine ⟨v640 (j := 5) (by omega), fun x2 e2 => ?_⟩
          have e2 : x2 = nI M := e2.trans a5
          subst e2
          refine ⟨fun h => absurd h (by decide), fun h => absurd h (by decide), fun h => absurd h (by decide), fun h => absurd h (by decide), fun h => absurd h (by decide), fun _ => x_leads S hr _ ⟨fun h => absurd hd h, fun _ => ⟨hvr, fun x91 e91 => ?_⟩⟩, fun h => absurd h (by decide)⟩
          rw [hs] at e91
          subst e91
          refine ⟨fun h => absurd rfl h, fun _ => ⟨hvr, fun x95 e95 => ?_⟩⟩
          rw [hl] at e95
          subst e95
          refine ⟨fun h => absurd ((nI_lti (by omega) (by omega)).mp h) (by omega), fun _ => rx1 _ ⟨hvr, fun x104 e104 => ?_⟩⟩
          have e104 : x104 = X.2 29 r := e104.trans (g3.2.1 29 r (by omega))
          subst e104
          have b241 : ∀ v', v' = v → bx_X12_getsInView_241 Q (nI r) (nI M) v' (nI r) X1 := fun v' e' => by
            subst e'
            unfold bx_X12_getsInView_241
            rw [hcr]
            exact ⟨hvr, x_leader S1 hr _ (rx _ hQ)⟩
          refine ⟨fun q => ⟨hvr, fun x108 e108 => b241 _ ?_⟩, fun q => b241 _ ?_⟩
          · rw [e108, g3.2.1 29 r (by omega), ev, if_pos q]
          · rw [ev, if_neg q]
      · refine ⟨Y, X, fun Q hQ => yg Q ⟨fun h => absurd hd h, fun _ => ⟨fun h => absurd hs h, fun _ => ⟨fun h => absurd h hML, fun _ => hQ⟩⟩⟩, fun Q hQ => ?_, S, Up.rf⟩
        unfold wx_X12_getsInView
        rw [hcr]
        refine ⟨v640 (j := 5) (by omega), fun x2 e2 => ?_⟩
        have e2 : x2 = nI M := e2.trans a5
        subst e2
        refine ⟨fun h => absurd h (by decide), fun h => absurd h (by decide), fun h => absurd h (by decide), fun h => absurd h (by decide), fun h => absurd h (by decide), fun _ => x_leads S hr _ ⟨fun h => absurd hd h, fun _ => ⟨hvr, fun x91 e91 => ?_⟩⟩, fun h => absurd h (by decide)⟩
        rw [hs] at e91
        subst e91
        refine ⟨fun h => absurd rfl h, fun _ => ⟨hvr, fun x95 e95 => ?_⟩⟩
        rw [hl] at e95
        subst e95
        exact ⟨fun _ => hQ, fun h => absurd ((nI_lti (by omega) (by omega)).mpr (by omega)) h⟩
    · refine ⟨Y, X, fun Q hQ => yg Q ⟨fun h => absurd hd h, fun _ => ⟨fun _ => hQ, fun h => absurd h hs⟩⟩, fun Q hQ => ?_, S, Up.rf⟩
      unfold wx_X12_getsInView
      rw [hcr]
      refine ⟨v640 (j := 5) (by omega), fun x2 e2 => ?_⟩
      refine ⟨fun h => absurd h (by decide), fun h => absurd h (by decide), fun h => absurd h (by decide), fun h => absurd h (by decide), fun h => absurd h (by decide), fun _ => x_leads S hr _ ⟨fun h => absurd hd h, fun _ => ⟨hvr, fun x91 e91 => ?_⟩⟩, fun h => absurd h (by decide)⟩
      subst e91
      exact ⟨fun _ => hQ, fun h => absurd h hs⟩
  · refine ⟨Y, X, fun Q hQ => yg Q ⟨fun _ => hQ, fun h => absurd h hd⟩, fun Q hQ => ?_, S, Up.rf⟩
    unfold wx_X12_getsInView
    rw [hcr]
    refine ⟨v640 (j := 5) (by omega), fun x2 e2 => ?_⟩
    exact ⟨fun h => absurd h (by decide), fun h => absurd h (by decide), fun h => absurd h (by decide), fun h => absurd h (by decide), fun h => absurd h (by decide), fun _ => x_leads S hr _ ⟨fun _ => hQ, fun h => absurd h hd⟩, fun h => absurd h (by decide)⟩
end
