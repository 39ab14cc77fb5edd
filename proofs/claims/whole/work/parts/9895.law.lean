/-! The law: each call -/
section
variable {n m po K K2 : Nat} {ad aa : Nat → Nat → Nat} {adx : Nat → Nat} {σ σ2 τ : Sto} {Y Y2 : Yc} {X X2 : Xc}
/-- class, reference and the place of answers stand apart -/
def St (n : Nat) (ad aa : Nat → Nat → Nat) (m : Nat) (adx : Nat → Nat) (po : Nat) (σ : Sto) (Y : Yc) (X : Xc) : Prop :=
  HY n ad aa σ Y ∧ RefC m adx σ X ∧ sK σ po = 15 ∧ sN σ po = 1 ∧ (∀ a, rg m adx a → ¬ cg n ad aa a) ∧ ¬ cg n ad aa po ∧ ¬ rg m adx po
theorem rg_k (h : RefC m adx σ X) {a : Nat} (ha : rg m adx a) : sK σ a = 12 ∨ sK σ a = 14 ∨ sK σ a = 16 := by
  rcases ha with rfl | ⟨k, hk, rfl⟩
  · exact Or.inl h.1.1
  · rw [h.K hk]
    exact Or.inr (ak_in k hk)
theorem St.cls (T : St n ad aa m adx po σ Y X) (h : HY n ad aa σ2 Y2) (F : Fy n ad aa σ σ2) : St n ad aa m adx po σ2 Y2 X := by
  obtain ⟨h1, h2, h3, h4, h5, h6, h7⟩ := T
  have hp := F po (by rw [h3]; decide) h6
  refine ⟨h, h2.kept (fun a ha => ?_), hp.1.trans h3, hp.2.1.trans h4, h5, h6, h7⟩
  have := F a (by rcases rg_k h2 ha with e | e | e <;> rw [e] <;> decide) (h5 a ha)
  exact ⟨this.1, this.2.1, this.2.2.1, this.2.2.2.2⟩
theorem St.ref (T : St n ad aa m adx po σ Y X) (h : RefC m adx σ2 X2) (F : Fi m adx σ σ2) : St n ad aa m adx po σ2 Y X2 := by
  obtain ⟨h1, h2, h3, h4, h5, h6, h7⟩ := T
  refine ⟨h1.out (fun a ha => ?_), h, (by rw [F.1]; exact h3), (by rw [F.2.1]; exact h4), h5, h6, h7⟩
  have hn : ¬ rg m adx a := fun hr => by
    rcases ha with ha | ha
    · exact h5 a hr ha
    · rcases rg_k h2 hr with e | e | e <;> omega
  exact ⟨by rw [F.1], by rw [F.2.1], F.2.2.2.2 a hn, by rw [F.2.2.1], by rw [F.2.2.2.1]⟩
theorem St.out (T : St n ad aa m adx po σ Y X) (k : Nat) (v : Int64) : St n ad aa m adx po (stJ σ po k v) Y X := by
  obtain ⟨h1, h2, h3, h4, h5, h6, h7⟩ := T
  refine ⟨h1.out (fun a ha => ?_), h2.kept (fun a ha => ⟨rfl, rfl, rfl, rfl⟩), h3, h4, h5, h6, h7⟩
  have hn : a ≠ po := fun e => by
    rcases ha with ha | ha
    · exact h6 (by rw [← e]; exact ha)
    · rw [e, h3] at ha
      omega
  exact ⟨rfl, rfl, rfl, up2_row _ v hn, rfl⟩
theorem St.k11 (T : St n ad aa m adx po σ Y X) : sK σ (ad 11 0) = 11 := T.1.K ob_11
theorem St.k12 (T : St n ad aa m adx po σ Y X) : sK σ m = 12 := T.2.1.1.1
theorem St.k15 (T : St n ad aa m adx po σ Y X) : sK σ po = 15 := T.2.2.1
theorem St.v0 (T : St n ad aa m adx po σ Y X) : vp_in (0 : Int32) (sN σ po) := by
  rw [T.2.2.2.1]
  exact vp_in_nI (n := 0) (N := 1) (by omega) (by omega)
theorem callP {wy : (Int32 → Yc → Prop) → Prop} {wx : (Int32 → Xc → Prop) → Prop} {wpY : (Int32 → Sto → Prop) → Prop} {wpX : Sto → (Int32 → Sto → Prop) → Prop} {G : Int32 → Sto → Prop} {C D : Sto → Prop} (T : St n ad aa m adx po σ Y X) (o : OutP n K2 wy wx)
    (yl : ∀ (Qy : Int32 → Yc → Prop) (Q : Int32 → Sto → Prop), wy Qy → (∀ r σ' Y', Qy r Y' → HY n ad aa σ' Y' → Fy n ad aa σ σ' → Q r σ') → wpY Q)
    (xl : ∀ σ', RefC m adx σ' X → ∀ (Qx : Int32 → Xc → Prop) (Q : Int32 → Sto → Prop), wx Qx → (∀ r σ'' X', Qx r X' → RefC m adx σ'' X' → Fi m adx σ' σ'' → Q r σ'') → wpX σ' Q)
    (g : ∀ r σ', sK σ' m = 12 → wpX σ' (fun r' σ'' => (r = r' → C σ'') ∧ (¬ r = r' → D σ'')) → G r σ')
    (c : ∀ σ' Y' X', St n ad aa m adx po σ' Y' X' → Sim n K2 Y' X' → C σ') : wpY G := by
  obtain ⟨v, Y2, X2, ry, rx, S2⟩ := o
  refine yl (fun r Z => r = v ∧ Z = Y2) G (ry _ ⟨rfl, rfl⟩) (fun r σ' Y' q hR F => ?_)
  obtain ⟨rfl, rfl⟩ := q
  have T1 := T.cls hR F
  refine g _ _ T1.k12 (xl σ' T1.2.1 (fun s Z => s = r ∧ Z = X2) _ (rx _ ⟨rfl, rfl⟩) (fun s σ'' X' q hR' F' => ?_))
  obtain ⟨rfl, rfl⟩ := q
  exact ⟨fun _ => c _ _ _ (T1.ref hR' F') S2, fun q => absurd rfl q⟩
def FinV (C D : Sto → Prop) (p3 : Option Nat) (k r t : Int32) (σ : Sto) : Prop := ((t = k → ((¬ k = 0 → C σ) ∧ (k = 0 → (∃ b : Nat, p3 = some b ∧ (sK σ b = 15 ∧ (vp_in (0 : Int32) (sN σ b) ∧ (∀ y : Int64, y = sJ σ b (0 : Int32).toNatClampNeg → (((lg_cmp y r.toInt64) = 0 → C σ) ∧ (¬ (lg_cmp y r.toInt64) = 0 → D σ))))))))) ∧ (¬ t = k → D σ))
def FinU (C D : Sto → Prop) (k t : Int32) (σ : Sto) : Prop := ((t = k → C σ) ∧ (¬ t = k → D σ))
theorem callW {wy : (Int32 → Yc → Prop) → (Nat → Yc → Prop) → Prop} {wx : (Int32 → Xc → Prop) → Prop} {wpY : (Int32 → Sto → Prop) → (Nat → Sto → Prop) → Prop} {wpX : Sto → (Int32 → Sto → Prop) → Prop} {G : Int32 → Sto → Prop} {E : Nat → Sto → Prop} {C D : Sto → Prop} {B : Prop} {Cd : Nat → Int32 → Prop} (T : St n ad aa m adx po σ Y X) (o : OutW n K2 Cd wy wx) (hB : B)
    (yl : ∀ (Qy : Int32 → Yc → Prop) (Xy : Nat → Yc → Prop) (Q : Int32 → Sto → Prop) (E : Nat → Sto → Prop), wy Qy Xy → (∀ r σ' Y', Qy r Y' → HY n ad aa σ' Y' → Fy n ad aa σ σ' → Q r σ') → (∀ r σ' Y', Xy r Y' → HY n ad aa σ' Y' → Fy n ad aa σ σ' → E r σ') → wpY Q E)
    (xl : ∀ σ', RefC m adx σ' X → ∀ (Qx : Int32 → Xc → Prop) (Q : Int32 → Sto → Prop), wx Qx → (∀ r σ'' X', Qx r X' → RefC m adx σ'' X' → Fi m adx σ' σ'' → Q r σ'') → wpX σ' Q)
    (g : ∀ k σ', sK σ' m = 12 → wpX σ' (fun r' σ'' => sK σ'' m = 12 ∧ (B ∧ wp_X12_thrown m σ'' (fun t σ3 => FinV C D (some po) k r' t σ3))) → G k σ')
    (ce : ∀ e v σ', Cd e v → G v σ' → E e σ') (cn : ∀ e v, Cd e v → ¬ v = 0)
    (c : ∀ σ' Y' X', St n ad aa m adx po σ' Y' X' → Sim n K2 Y' X' → C σ') : wpY (fun x5 σ4 => (∃ b8 : Nat, some po = some b8 ∧ (sK σ4 b8 = 15 ∧ (vp_in (0 : Int32) (sN σ4 b8) ∧ G (0 : Int32) (stJ σ4 b8 (0 : Int32).toNatClampNeg x5.toInt64))))) E := by
  rcases o with ⟨v, Y2, X2, ry, rx, c0, S2⟩ | ⟨e, v, Y2, X2, ry, rx, c0, S2⟩
  · refine yl (fun r Z => r = v ∧ Z = Y2) (fun _ _ => False) _ _ (ry _ _ ⟨rfl, rfl⟩) (fun r σ' Y' q hR F => ?_) (fun _ _ _ q => q.elim)
    obtain ⟨rfl, rfl⟩ := q
    have T1 := T.cls hR F
    have T2 := T1.out (0 : Int32).toNatClampNeg r.toInt64
    refine ⟨po, rfl, T1.k15, T1.v0, g _ _ T2.k12 (xl _ T2.2.1 (fun s Z => s = r ∧ Z = X2) _ (rx _ ⟨rfl, rfl⟩) (fun s σ'' X' q hR' F' => ?_))⟩
    obtain ⟨rfl, rfl⟩ := q
    have T3 := T2.ref hR' F'
    refine ⟨T3.k12, hB, T3.k12, fun x2 e2 => ?_⟩
    have e2 : x2 = 0 := e2.trans ((hR'.2.1 0).trans c0)
    subst e2
    refine ⟨fun _ => ⟨fun q => absurd rfl q, fun _ => ⟨po, rfl, T3.k15, T3.v0, fun y ey => ⟨fun _ => c _ _ _ T3 S2, fun q => absurd ?_ q⟩⟩⟩, fun q => absurd rfl q⟩
    rw [F'.2.2.1] at ey
    have ey : y = s.toInt64 := ey.trans (up2_self _ _ _ _)
    rw [ey]
    exact lg0.mpr rfl
  · refine yl (fun _ _ => False) (fun r Z => r = e ∧ Z = Y2) _ _ (ry _ _ ⟨rfl, rfl⟩) (fun _ _ _ q => q.elim) (fun r σ' Y' q hR F => ?_)
    obtain ⟨rfl, rfl⟩ := q
    have T1 := T.cls hR F
    refine ce _ _ _ c0 (g _ _ T1.k12 (xl _ T1.2.1 (fun s Z => s = v ∧ Z = X2) _ (rx _ ⟨rfl, rfl⟩) (fun s σ'' X' q hR' F' => ?_)))
    obtain ⟨rfl, rfl⟩ := q
    have T3 := T1.ref hR' F'
    refine ⟨T3.k12, hB, T3.k12, fun x2 e2 => ?_⟩
    have e2 : x2 = X'.1 0 := e2.trans (hR'.2.1 0)
    subst e2
    exact ⟨fun _ => ⟨fun _ => c _ _ _ T3 S2, fun q => absurd q (cn _ _ c0)⟩, fun q => absurd rfl q⟩
theorem outVW {wy : (Int32 → Yc → Prop) → (Nat → Yc → Prop) → Prop} {wx : (Int32 → Xc → Prop) → Prop} {Cd : Nat → Int32 → Prop} (o : OutV n K2 Cd Y wy wx) : OutW n K2 Cd wy wx := by
  rcases o with h | ⟨e, v, X2, h1, h2, h3, h4⟩
  · exact Or.inl h
  · exact Or.inr ⟨e, v, Y, X2, h1, h2, h3, h4⟩
theorem callU {wy : (Yc → Prop) → (Nat → Yc → Prop) → Prop} {wx : (Xc → Prop) → Prop} {wpY : (Sto → Prop) → (Nat → Sto → Prop) → Prop} {wpX : Sto → (Sto → Prop) → Prop} {G : Int32 → Sto → Prop} {E : Nat → Sto → Prop} {C D : Sto → Prop} {B : Prop} {Cd : Nat → Int32 → Prop} (T : St n ad aa m adx po σ Y X) (o : OutU n K2 Cd Y wy wx) (hB : B)
    (yl : ∀ (Qy : Yc → Prop) (Xy : Nat → Yc → Prop) (Q : Sto → Prop) (E : Nat → Sto → Prop), wy Qy Xy → (∀ σ' Y', Qy Y' → HY n ad aa σ' Y' → Fy n ad aa σ σ' → Q σ') → (∀ r σ' Y', Xy r Y' → HY n ad aa σ' Y' → Fy n ad aa σ σ' → E r σ') → wpY Q E)
    (xl : ∀ σ', RefC m adx σ' X → ∀ (Qx : Xc → Prop) (Q : Sto → Prop), wx Qx → (∀ σ'' X', Qx X' → RefC m adx σ'' X' → Fi m adx σ' σ'' → Q σ'') → wpX σ' Q)
    (g : ∀ k σ', sK σ' m = 12 → wpX σ' (fun σ'' => sK σ'' m = 12 ∧ (B ∧ wp_X12_thrown m σ'' (fun t σ3 => FinU C D k t σ3))) → G k σ')
    (ce : ∀ e v σ', Cd e v → G v σ' → E e σ')
    (c : ∀ σ' Y' X', St n ad aa m adx po σ' Y' X' → Sim n K2 Y' X' → C σ') : wpY (fun σ4 => G (0 : Int32) σ4) E := by
  rcases o with ⟨Y2, X2, ry, rx, c0, S2⟩ | ⟨e, X2, ry, rx, c0, S2⟩
  · refine yl (fun Z => Z = Y2) (fun _ _ => False) _ _ (ry _ _ rfl) (fun σ' Y' q hR F => ?_) (fun _ _ _ q => q.elim)
    subst q
    have T1 := T.cls hR F
    refine g _ _ T1.k12 (xl _ T1.2.1 (fun Z => Z = X2) _ (rx _ rfl) (fun σ'' X' q hR' F' => ?_))
    subst q
    have T3 := T1.ref hR' F'
    refine ⟨T3.k12, hB, T3.k12, fun x2 e2 => ?_⟩
    have e2 : x2 = 0 := e2.trans ((hR'.2.1 0).trans c0)
    subst e2
    exact ⟨fun _ => c _ _ _ T3 S2, fun q => absurd rfl q⟩
  · refine yl (fun _ => False) (fun r Z => r = e ∧ Z = Y) _ _ (ry _ _ ⟨rfl, rfl⟩) (fun _ _ q => q.elim) (fun r σ' Y' q hR F => ?_)
    obtain ⟨rfl, rfl⟩ := q
    have T1 := T.cls hR F
    refine ce _ _ _ c0 (g _ _ T1.k12 (xl _ T1.2.1 (fun Z => Z = X2) _ (rx _ rfl) (fun σ'' X' q hR' F' => ?_)))
    subst q
    have T3 := T1.ref hR' F'
    refine ⟨T3.k12, hB, T3.k12, fun x2 e2 => ?_⟩
    have e2 : x2 = X'.1 0 := e2.trans (hR'.2.1 0)
    subst e2
    exact ⟨fun _ => c _ _ _ T3 S2, fun q => absurd rfl q⟩
/-- what is to be shown behind a call -/
def Nxt (n : Nat) (ad aa : Nat → Nat → Nat) (m : Nat) (adx : Nat → Nat) (po K L : Nat) (xs : Nat → Int32) (R : Option Nat × Option Nat × Option Nat × Int32 × Nat × Nat → Sto → Prop) (Q : Int32 → Sto → Prop) (i kc nc : Nat) : Prop :=
  ∀ σ Y X K2 kc2 nc2, St n ad aa m adx po σ Y X → Sim n K2 Y X → K2 ≤ K + 5000 → kc2 ≤ kc + 1 → nc2 ≤ nc + 6 → b_L_law_1369 L xs R Q (some (ad 11 0)) (some m) (some po) (nI i) kc2 nc2 σ
theorem argI {i L j : Nat} {x : Int32} (e : x = nI i + nI j) (h : i + j < L) (hL : L ≤ 322) : vp_in x L ∧ x.toNatClampNeg = i + j := by
  rw [nI_add] at e
  subst e
  exact ⟨vp_in_nI h (by omega), nI_clamp (by omega)⟩
variable {L i kc nc : Nat} {xs : Nat → Int32} {R : Option Nat × Option Nat × Option Nat × Int32 × Nat × Nat → Sto → Prop} {Q : Int32 → Sto → Prop}
theorem Lw_again {G : Int32 → Sto → Prop} {C D : Sto → Prop} {B : Prop} (T : St n ad aa m adx po σ Y X) (S : Sim n K Y X) (hK : K + 1 < 1073741824) (p1 : Int32) (hB : B) (g : ∀ k σ1, sK σ1 m = 12 → wp_X12_again m p1 σ1 (fun σ2 => sK σ2 m = 12 ∧ (B ∧ wp_X12_thrown m σ2 (fun t σ3 => FinU C D k t σ3))) → G k σ1) (c : ∀ σ1 Y1 X1, St n ad aa m adx po σ1 Y1 X1 → Sim n (K + 1) Y1 X1 → C σ1) : wp_L_again (some (ad 11 0)) p1 σ G :=
  ⟨ad 11 0, rfl, T.k11, callU (K2 := K + 1) (G := G) (C := C) (D := D) (B := B) (Cd := CdA) (wpX := fun σ9 Q9 => wp_X12_again m p1 σ9 Q9) T (again_call S hK p1) hB (fun Qy Xy Q9 E9 h hQ hX => y_X11_again T.1 h hQ hX) (fun σ9 hR Qx Q9 h hQ => x_X12_again hR h hQ) g (fun e v σ9 hc hG => ⟨fun q => (by rcases hc with ⟨_, rfl⟩ | ⟨h, _⟩ <;> first | exact hG | omega), fun q => (by rcases hc with ⟨h, _⟩ | ⟨h, _⟩ <;> omega), fun q => (by rcases hc with ⟨h, _⟩ | ⟨_, rfl⟩ <;> first | exact hG | omega)⟩) c⟩
theorem law_again (T : St n ad aa m adx po σ Y X) (S : Sim n K Y X) (hK : K + 5000 < 1073741824) (hi : i + 5 ≤ L) (hL : L ≤ 322) (hkc : kc + 1 ≤ 600128) (hnc : nc + 6 ≤ 7301064) (nx : Nxt n ad aa m adx po K L xs R Q i kc nc) : b_L_law_288 L xs R Q (some (ad 11 0)) (some m) (some po) (nI i) kc nc σ := by
  intro x1 e1
  obtain ⟨v1, c1⟩ := argI (j := 1) e1 (by omega : i + 1 < L) hL
  refine ⟨v1, fun y1 f1 => ?_⟩
  rw [c1] at f1
  subst f1
  refine ⟨⟨hkc, hnc⟩, Lw_again (B := (kc + 1) ≤ 600128 ∧ (nc + 6) ≤ 7301064) (C := fun σ9 => b_L_law_1369 L xs R Q (some (ad 11 0)) (some m) (some po) (nI i) (kc + 1) (nc + 6) σ9) (D := fun σ9 => ((kc + 1) ≤ 600128 ∧ (nc + 6) ≤ 7301064) ∧ Q (0 : Int32) σ9) T S (by omega) (xs (i + 1)) ⟨hkc, hnc⟩ (fun r σ9 hk h => ?_) (fun σ9 Y9 X9 T9 S9 => nx _ _ _ _ _ _ T9 S9 (by omega) (by omega) (by omega))⟩
  intro z1 d1
  obtain ⟨u1, b1⟩ := argI (j := 1) d1 (by omega : i + 1 < L) hL
  refine ⟨u1, fun w1 g1 => ?_⟩
  rw [b1] at g1
  subst g1
  exact ⟨m, rfl, hk, ⟨hkc, hnc⟩, h⟩
theorem Lw_deliver {G : Int32 → Sto → Prop} {C D : Sto → Prop} {B : Prop} (T : St n ad aa m adx po σ Y X) (S : Sim n K Y X) (hK : K + 1 < 1073741824) (p1 : Int32) (hB : B) (g : ∀ k σ1, sK σ1 m = 12 → wp_X12_deliver m p1 σ1 (fun σ2 => sK σ2 m = 12 ∧ (B ∧ wp_X12_thrown m σ2 (fun t σ3 => FinU C D k t σ3))) → G k σ1) (c : ∀ σ1 Y1 X1, St n ad aa m adx po σ1 Y1 X1 → Sim n (K + 1) Y1 X1 → C σ1) : wp_L_deliver (some (ad 11 0)) p1 σ G :=
  ⟨ad 11 0, rfl, T.k11, callU (K2 := K + 1) (G := G) (C := C) (D := D) (B := B) (Cd := CdB) (wpX := fun σ9 Q9 => wp_X12_deliver m p1 σ9 Q9) T (deliver_call S hK p1) hB (fun Qy Xy Q9 E9 h hQ hX => y_X11_deliver T.1 h hQ hX) (fun σ9 hR Qx Q9 h hQ => x_X12_deliver hR h hQ) g (fun e v σ9 hc hG => ⟨fun q => (by have := hc.1; omega), fun q => (by have := hc.2; subst this; exact hG), fun q => (by have := hc.1; omega)⟩) c⟩
theorem law_deliver (T : St n ad aa m adx po σ Y X) (S : Sim n K Y X) (hK : K + 5000 < 1073741824) (hi : i + 5 ≤ L) (hL : L ≤ 322) (hkc : kc + 1 ≤ 600128) (hnc : nc + 6 ≤ 7301064) (nx : Nxt n ad aa m adx po K L xs R Q i kc nc) : b_L_law_324 L xs R Q (some (ad 11 0)) (some m) (some po) (nI i) kc nc σ := by
  intro x1 e1
  obtain ⟨v1, c1⟩ := argI (j := 1) e1 (by omega : i + 1 < L) hL
  refine ⟨v1, fun y1 f1 => ?_⟩
  rw [c1] at f1
  subst f1
  refine ⟨⟨hkc, hnc⟩, Lw_deliver (B := (kc + 1) ≤ 600128 ∧ (nc + 6) ≤ 7301064) (C := fun σ9 => b_L_law_1369 L xs R Q (some (ad 11 0)) (some m) (some po) (nI i) (kc + 1) (nc + 6) σ9) (D := fun σ9 => ((kc + 1) ≤ 600128 ∧ (nc + 6) ≤ 7301064) ∧ Q (0 : Int32) σ9) T S (by omega) (xs (i + 1)) ⟨hkc, hnc⟩ (fun r σ9 hk h => ?_) (fun σ9 Y9 X9 T9 S9 => nx _ _ _ _ _ _ T9 S9 (by omega) (by omega) (by omega))⟩
  intro z1 d1
  obtain ⟨u1, b1⟩ := argI (j := 1) d1 (by omega : i + 1 < L) hL
  refine ⟨u1, fun w1 g1 => ?_⟩
  rw [b1] at g1
  subst g1
  exact ⟨m, rfl, hk, ⟨hkc, hnc⟩, h⟩
theorem Lw_lose {G : Int32 → Sto → Prop} {C D : Sto → Prop} {B : Prop} (T : St n ad aa m adx po σ Y X) (S : Sim n K Y X) (hK : K + 0 < 1073741824) (p1 : Int32) (hB : B) (g : ∀ k σ1, sK σ1 m = 12 → wp_X12_lose m p1 σ1 (fun σ2 => sK σ2 m = 12 ∧ (B ∧ wp_X12_thrown m σ2 (fun t σ3 => FinU C D k t σ3))) → G k σ1) (c : ∀ σ1 Y1 X1, St n ad aa m adx po σ1 Y1 X1 → Sim n (K + 0) Y1 X1 → C σ1) : wp_L_lose (some (ad 11 0)) p1 σ G :=
  ⟨ad 11 0, rfl, T.k11, callU (K2 := K + 0) (G := G) (C := C) (D := D) (B := B) (Cd := CdB) (wpX := fun σ9 Q9 => wp_X12_lose m p1 σ9 Q9) T (lose_call S p1) hB (fun Qy Xy Q9 E9 h hQ hX => y_X11_lose T.1 h hQ hX) (fun σ9 hR Qx Q9 h hQ => x_X12_lose hR h hQ) g (fun e v σ9 hc hG => ⟨fun q => (by have := hc.1; omega), fun q => (by have := hc.2; subst this; exact hG), fun q => (by have := hc.1; omega)⟩) c⟩
theorem law_lose (T : St n ad aa m adx po σ Y X) (S : Sim n K Y X) (hK : K + 5000 < 1073741824) (hi : i + 5 ≤ L) (hL : L ≤ 322) (hkc : kc + 1 ≤ 600128) (hnc : nc + 6 ≤ 7301064) (nx : Nxt n ad aa m adx po K L xs R Q i kc nc) : b_L_law_360 L xs R Q (some (ad 11 0)) (some m) (some po) (nI i) kc nc σ := by
  intro x1 e1
  obtain ⟨v1, c1⟩ := argI (j := 1) e1 (by omega : i + 1 < L) hL
  refine ⟨v1, fun y1 f1 => ?_⟩
  rw [c1] at f1
  subst f1
  refine ⟨⟨hkc, hnc⟩, Lw_lose (B := (kc + 1) ≤ 600128 ∧ (nc + 6) ≤ 7301064) (C := fun σ9 => b_L_law_1369 L xs R Q (some (ad 11 0)) (some m) (some po) (nI i) (kc + 1) (nc + 6) σ9) (D := fun σ9 => ((kc + 1) ≤ 600128 ∧ (nc + 6) ≤ 7301064) ∧ Q (0 : Int32) σ9) T S (by omega) (xs (i + 1)) ⟨hkc, hnc⟩ (fun r σ9 hk h => ?_) (fun σ9 Y9 X9 T9 S9 => nx _ _ _ _ _ _ T9 S9 (by omega) (by omega) (by omega))⟩
  intro z1 d1
  obtain ⟨u1, b1⟩ := argI (j := 1) d1 (by omega : i + 1 < L) hL
  refine ⟨u1, fun w1 g1 => ?_⟩
  rw [b1] at g1
  subst g1
  exact ⟨m, rfl, hk, ⟨hkc, hnc⟩, h⟩
theorem Lw_flow {G : Int32 → Sto → Prop} {C D : Sto → Prop} {B : Prop} (T : St n ad aa m adx po σ Y X) (S : Sim n K Y X) (hK : K + 40 < 1073741824) (p1 : Int32) (hB : B) (g : ∀ k σ1, sK σ1 m = 12 → wp_X12_flow m p1 σ1 (fun r σ2 => sK σ2 m = 12 ∧ (B ∧ wp_X12_thrown m σ2 (fun t σ3 => FinV C D (some po) k r t σ3))) → G k σ1) (c : ∀ σ1 Y1 X1, St n ad aa m adx po σ1 Y1 X1 → Sim n (K + 40) Y1 X1 → C σ1) : wp_L_flow (some (ad 11 0)) p1 (some po) σ G :=
  ⟨ad 11 0, rfl, T.k11, callW (K2 := K + 40) (G := G) (C := C) (D := D) (B := B) (Cd := CdB) (wpX := fun σ9 Q9 => wp_X12_flow m p1 σ9 Q9) T (outVW (flow_call S hK p1)) hB (fun Qy Xy Q9 E9 h hQ hX => y_X11_flow T.1 h hQ hX) (fun σ9 hR Qx Q9 h hQ => x_X12_flow hR h hQ) g (fun e v σ9 hc hG => ⟨fun q => (by have := hc.1; omega), fun q => (by have := hc.2; subst this; exact hG), fun q => (by have := hc.1; omega)⟩) (fun e v hc q => (by rw [hc.2] at q; exact absurd q (by decide))) c⟩
theorem law_flow (T : St n ad aa m adx po σ Y X) (S : Sim n K Y X) (hK : K + 5000 < 1073741824) (hi : i + 5 ≤ L) (hL : L ≤ 322) (hkc : kc + 1 ≤ 600128) (hnc : nc + 6 ≤ 7301064) (nx : Nxt n ad aa m adx po K L xs R Q i kc nc) : b_L_law_396 L xs R Q (some (ad 11 0)) (some m) (some po) (nI i) kc nc σ := by
  intro x1 e1
  obtain ⟨v1, c1⟩ := argI (j := 1) e1 (by omega : i + 1 < L) hL
  refine ⟨v1, fun y1 f1 => ?_⟩
  rw [c1] at f1
  subst f1
  refine ⟨⟨hkc, hnc⟩, Lw_flow (B := (kc + 1) ≤ 600128 ∧ (nc + 6) ≤ 7301064) (C := fun σ9 => b_L_law_1369 L xs R Q (some (ad 11 0)) (some m) (some po) (nI i) (kc + 1) (nc + 6) σ9) (D := fun σ9 => ((kc + 1) ≤ 600128 ∧ (nc + 6) ≤ 7301064) ∧ Q (0 : Int32) σ9) T S (by omega) (xs (i + 1)) ⟨hkc, hnc⟩ (fun r σ9 hk h => ?_) (fun σ9 Y9 X9 T9 S9 => nx _ _ _ _ _ _ T9 S9 (by omega) (by omega) (by omega))⟩
  intro z1 d1
  obtain ⟨u1, b1⟩ := argI (j := 1) d1 (by omega : i + 1 < L) hL
  refine ⟨u1, fun w1 g1 => ?_⟩
  rw [b1] at g1
  subst g1
  exact ⟨m, rfl, hk, ⟨hkc, hnc⟩, h⟩
theorem Lw_down {G : Int32 → Sto → Prop} {C D : Sto → Prop} {B : Prop} (T : St n ad aa m adx po σ Y X) (S : Sim n K Y X) (hK : K + 0 < 1073741824) (p1 : Int32) (hB : B) (g : ∀ k σ1, sK σ1 m = 12 → wp_X12_down m p1 σ1 (fun σ2 => sK σ2 m = 12 ∧ (B ∧ wp_X12_thrown m σ2 (fun t σ3 => FinU C D k t σ3))) → G k σ1) (c : ∀ σ1 Y1 X1, St n ad aa m adx po σ1 Y1 X1 → Sim n (K + 0) Y1 X1 → C σ1) : wp_L_down (some (ad 11 0)) p1 σ G :=
  ⟨ad 11 0, rfl, T.k11, callU (K2 := K + 0) (G := G) (C := C) (D := D) (B := B) (Cd := CdA) (wpX := fun σ9 Q9 => wp_X12_down m p1 σ9 Q9) T (down_call S p1) hB (fun Qy Xy Q9 E9 h hQ hX => y_X11_down T.1 h hQ hX) (fun σ9 hR Qx Q9 h hQ => x_X12_down hR h hQ) g (fun e v σ9 hc hG => ⟨fun q => (by rcases hc with ⟨_, rfl⟩ | ⟨h, _⟩ <;> first | exact hG | omega), fun q => (by rcases hc with ⟨h, _⟩ | ⟨h, _⟩ <;> omega), fun q => (by rcases hc with ⟨h, _⟩ | ⟨_, rfl⟩ <;> first | exact hG | omega)⟩) c⟩
theorem law_down (T : St n ad aa m adx po σ Y X) (S : Sim n K Y X) (hK : K + 5000 < 1073741824) (hi : i + 5 ≤ L) (hL : L ≤ 322) (hkc : kc + 1 ≤ 600128) (hnc : nc + 6 ≤ 7301064) (nx : Nxt n ad aa m adx po K L xs R Q i kc nc) : b_L_law_452 L xs R Q (some (ad 11 0)) (some m) (some po) (nI i) kc nc σ := by
  intro x1 e1
  obtain ⟨v1, c1⟩ := argI (j := 1) e1 (by omega : i + 1 < L) hL
  refine ⟨v1, fun y1 f1 => ?_⟩
  rw [c1] at f1
  subst f1
  refine ⟨⟨hkc, hnc⟩, Lw_down (B := (kc + 1) ≤ 600128 ∧ (nc + 6) ≤ 7301064) (C := fun σ9 => b_L_law_1369 L xs R Q (some (ad 11 0)) (some m) (some po) (nI i) (kc + 1) (nc + 6) σ9) (D := fun σ9 => ((kc + 1) ≤ 600128 ∧ (nc + 6) ≤ 7301064) ∧ Q (0 : Int32) σ9) T S (by omega) (xs (i + 1)) ⟨hkc, hnc⟩ (fun r σ9 hk h => ?_) (fun σ9 Y9 X9 T9 S9 => nx _ _ _ _ _ _ T9 S9 (by omega) (by omega) (by omega))⟩
  intro z1 d1
  obtain ⟨u1, b1⟩ := argI (j := 1) d1 (by omega : i + 1 < L) hL
  refine ⟨u1, fun w1 g1 => ?_⟩
  rw [b1] at g1
  subst g1
  exact ⟨m, rfl, hk, ⟨hkc, hnc⟩, h⟩
theorem Lw_up {G : Int32 → Sto → Prop} {C D : Sto → Prop} {B : Prop} (T : St n ad aa m adx po σ Y X) (S : Sim n K Y X) (hK : K + 0 < 1073741824) (p1 : Int32) (hB : B) (g : ∀ k σ1, sK σ1 m = 12 → wp_X12_up m p1 σ1 (fun σ2 => sK σ2 m = 12 ∧ (B ∧ wp_X12_thrown m σ2 (fun t σ3 => FinU C D k t σ3))) → G k σ1) (c : ∀ σ1 Y1 X1, St n ad aa m adx po σ1 Y1 X1 → Sim n (K + 0) Y1 X1 → C σ1) : wp_L_up (some (ad 11 0)) p1 σ G :=
  ⟨ad 11 0, rfl, T.k11, callU (K2 := K + 0) (G := G) (C := C) (D := D) (B := B) (Cd := CdA) (wpX := fun σ9 Q9 => wp_X12_up m p1 σ9 Q9) T (up_call S p1) hB (fun Qy Xy Q9 E9 h hQ hX => y_X11_up T.1 h hQ hX) (fun σ9 hR Qx Q9 h hQ => x_X12_up hR h hQ) g (fun e v σ9 hc hG => ⟨fun q => (by rcases hc with ⟨_, rfl⟩ | ⟨h, _⟩ <;> first | exact hG | omega), fun q => (by rcases hc with ⟨h, _⟩ | ⟨h, _⟩ <;> omega), fun q => (by rcases hc with ⟨h, _⟩ | ⟨_, rfl⟩ <;> first | exact hG | omega)⟩) c⟩
theorem law_up (T : St n ad aa m adx po σ Y X) (S : Sim n K Y X) (hK : K + 5000 < 1073741824) (hi : i + 5 ≤ L) (hL : L ≤ 322) (hkc : kc + 1 ≤ 600128) (hnc : nc + 6 ≤ 7301064) (nx : Nxt n ad aa m adx po K L xs R Q i kc nc) : b_L_law_488 L xs R Q (some (ad 11 0)) (some m) (some po) (nI i) kc nc σ := by
  intro x1 e1
  obtain ⟨v1, c1⟩ := argI (j := 1) e1 (by omega : i + 1 < L) hL
  refine ⟨v1, fun y1 f1 => ?_⟩
  rw [c1] at f1
  subst f1
  refine ⟨⟨hkc, hnc⟩, Lw_up (B := (kc + 1) ≤ 600128 ∧ (nc + 6) ≤ 7301064) (C := fun σ9 => b_L_law_1369 L xs R Q (some (ad 11 0)) (some m) (some po) (nI i) (kc + 1) (nc + 6) σ9) (D := fun σ9 => ((kc + 1) ≤ 600128 ∧ (nc + 6) ≤ 7301064) ∧ Q (0 : Int32) σ9) T S (by omega) (xs (i + 1)) ⟨hkc, hnc⟩ (fun r σ9 hk h => ?_) (fun σ9 Y9 X9 T9 S9 => nx _ _ _ _ _ _ T9 S9 (by omega) (by omega) (by omega))⟩
  intro z1 d1
  obtain ⟨u1, b1⟩ := argI (j := 1) d1 (by omega : i + 1 < L) hL
  refine ⟨u1, fun w1 g1 => ?_⟩
  rw [b1] at g1
  subst g1
  exact ⟨m, rfl, hk, ⟨hkc, hnc⟩, h⟩
theorem Lw_suspect {G : Int32 → Sto → Prop} {C D : Sto → Prop} {B : Prop} (T : St n ad aa m adx po σ Y X) (S : Sim n K Y X) (hK : K + 1 < 1073741824) (p1 : Int32) (hB : B) (g : ∀ k σ1, sK σ1 m = 12 → wp_X12_suspect m p1 σ1 (fun σ2 => sK σ2 m = 12 ∧ (B ∧ wp_X12_thrown m σ2 (fun t σ3 => FinU C D k t σ3))) → G k σ1) (c : ∀ σ1 Y1 X1, St n ad aa m adx po σ1 Y1 X1 → Sim n (K + 1) Y1 X1 → C σ1) : wp_L_suspect (some (ad 11 0)) p1 σ G :=
  ⟨ad 11 0, rfl, T.k11, callU (K2 := K + 1) (G := G) (C := C) (D := D) (B := B) (Cd := CdA) (wpX := fun σ9 Q9 => wp_X12_suspect m p1 σ9 Q9) T (suspect_call S hK p1) hB (fun Qy Xy Q9 E9 h hQ hX => y_X11_suspect T.1 h hQ hX) (fun σ9 hR Qx Q9 h hQ => x_X12_suspect hR h hQ) g (fun e v σ9 hc hG => ⟨fun q => (by rcases hc with ⟨_, rfl⟩ | ⟨h, _⟩ <;> first | exact hG | omega), fun q => (by rcases hc with ⟨h, _⟩ | ⟨h, _⟩ <;> omega), fun q => (by rcases hc with ⟨h, _⟩ | ⟨_, rfl⟩ <;> first | exact hG | omega)⟩) c⟩
theorem law_suspect (T : St n ad aa m adx po σ Y X) (S : Sim n K Y X) (hK : K + 5000 < 1073741824) (hi : i + 5 ≤ L) (hL : L ≤ 322) (hkc : kc + 1 ≤ 600128) (hnc : nc + 6 ≤ 7301064) (nx : Nxt n ad aa m adx po K L xs R Q i kc nc) : b_L_law_524 L xs R Q (some (ad 11 0)) (some m) (some po) (nI i) kc nc σ := by
  intro x1 e1
  obtain ⟨v1, c1⟩ := argI (j := 1) e1 (by omega : i + 1 < L) hL
  refine ⟨v1, fun y1 f1 => ?_⟩
  rw [c1] at f1
  subst f1
  refine ⟨⟨hkc, hnc⟩, Lw_suspect (B := (kc + 1) ≤ 600128 ∧ (nc + 6) ≤ 7301064) (C := fun σ9 => b_L_law_1369 L xs R Q (some (ad 11 0)) (some m) (some po) (nI i) (kc + 1) (nc + 6) σ9) (D := fun σ9 => ((kc + 1) ≤ 600128 ∧ (nc + 6) ≤ 7301064) ∧ Q (0 : Int32) σ9) T S (by omega) (xs (i + 1)) ⟨hkc, hnc⟩ (fun r σ9 hk h => ?_) (fun σ9 Y9 X9 T9 S9 => nx _ _ _ _ _ _ T9 S9 (by omega) (by omega) (by omega))⟩
  intro z1 d1
  obtain ⟨u1, b1⟩ := argI (j := 1) d1 (by omega : i + 1 < L) hL
  refine ⟨u1, fun w1 g1 => ?_⟩
  rw [b1] at g1
  subst g1
  exact ⟨m, rfl, hk, ⟨hkc, hnc⟩, h⟩
theorem Lw_nudge {G : Int32 → Sto → Prop} {C D : Sto → Prop} {B : Prop} (T : St n ad aa m adx po σ Y X) (S : Sim n K Y X) (hK : K + 0 < 1073741824) (p1 : Int32) (hB : B) (g : ∀ k σ1, sK σ1 m = 12 → wp_X12_nudge m p1 σ1 (fun r σ2 => sK σ2 m = 12 ∧ (B ∧ wp_X12_thrown m σ2 (fun t σ3 => FinV C D (some po) k r t σ3))) → G k σ1) (c : ∀ σ1 Y1 X1, St n ad aa m adx po σ1 Y1 X1 → Sim n (K + 0) Y1 X1 → C σ1) : wp_L_nudge (some (ad 11 0)) p1 (some po) σ G :=
  ⟨ad 11 0, rfl, T.k11, callW (K2 := K + 0) (G := G) (C := C) (D := D) (B := B) (Cd := CdA) (wpX := fun σ9 Q9 => wp_X12_nudge m p1 σ9 Q9) T (outVW (nudge_call S p1)) hB (fun Qy Xy Q9 E9 h hQ hX => y_X11_nudge T.1 h hQ hX) (fun σ9 hR Qx Q9 h hQ => x_X12_nudge hR h hQ) g (fun e v σ9 hc hG => ⟨fun q => (by rcases hc with ⟨_, rfl⟩ | ⟨h, _⟩ <;> first | exact hG | omega), fun q => (by rcases hc with ⟨h, _⟩ | ⟨h, _⟩ <;> omega), fun q => (by rcases hc with ⟨h, _⟩ | ⟨_, rfl⟩ <;> first | exact hG | omega)⟩) (fun e v hc q => (by rcases hc with ⟨_, h⟩ | ⟨_, h⟩ <;> rw [h] at q <;> exact absurd q (by decide))) c⟩
theorem law_nudge (T : St n ad aa m adx po σ Y X) (S : Sim n K Y X) (hK : K + 5000 < 1073741824) (hi : i + 5 ≤ L) (hL : L ≤ 322) (hkc : kc + 1 ≤ 600128) (hnc : nc + 6 ≤ 7301064) (nx : Nxt n ad aa m adx po K L xs R Q i kc nc) : b_L_law_560 L xs R Q (some (ad 11 0)) (some m) (some po) (nI i) kc nc σ := by
  intro x1 e1
  obtain ⟨v1, c1⟩ := argI (j := 1) e1 (by omega : i + 1 < L) hL
  refine ⟨v1, fun y1 f1 => ?_⟩
  rw [c1] at f1
  subst f1
  refine ⟨⟨hkc, hnc⟩, Lw_nudge (B := (kc + 1) ≤ 600128 ∧ (nc + 6) ≤ 7301064) (C := fun σ9 => b_L_law_1369 L xs R Q (some (ad 11 0)) (some m) (some po) (nI i) (kc + 1) (nc + 6) σ9) (D := fun σ9 => ((kc + 1) ≤ 600128 ∧ (nc + 6) ≤ 7301064) ∧ Q (0 : Int32) σ9) T S (by omega) (xs (i + 1)) ⟨hkc, hnc⟩ (fun r σ9 hk h => ?_) (fun σ9 Y9 X9 T9 S9 => nx _ _ _ _ _ _ T9 S9 (by omega) (by omega) (by omega))⟩
  intro z1 d1
  obtain ⟨u1, b1⟩ := argI (j := 1) d1 (by omega : i + 1 < L) hL
  refine ⟨u1, fun w1 g1 => ?_⟩
  rw [b1] at g1
  subst g1
  exact ⟨m, rfl, hk, ⟨hkc, hnc⟩, h⟩
theorem Lw_sync {G : Int32 → Sto → Prop} {C D : Sto → Prop} {B : Prop} (T : St n ad aa m adx po σ Y X) (S : Sim n K Y X) (hK : K + 0 < 1073741824) (p1 : Int32) (hB : B) (g : ∀ k σ1, sK σ1 m = 12 → wp_X12_sync m p1 σ1 (fun σ2 => sK σ2 m = 12 ∧ (B ∧ wp_X12_thrown m σ2 (fun t σ3 => FinU C D k t σ3))) → G k σ1) (c : ∀ σ1 Y1 X1, St n ad aa m adx po σ1 Y1 X1 → Sim n (K + 0) Y1 X1 → C σ1) : wp_L_sync (some (ad 11 0)) p1 σ G :=
  ⟨ad 11 0, rfl, T.k11, callU (K2 := K + 0) (G := G) (C := C) (D := D) (B := B) (Cd := CdA) (wpX := fun σ9 Q9 => wp_X12_sync m p1 σ9 Q9) T (sync_call S p1) hB (fun Qy Xy Q9 E9 h hQ hX => y_X11_sync T.1 h hQ hX) (fun σ9 hR Qx Q9 h hQ => x_X12_sync hR h hQ) g (fun e v σ9 hc hG => ⟨fun q => (by rcases hc with ⟨_, rfl⟩ | ⟨h, _⟩ <;> first | exact hG | omega), fun q => (by rcases hc with ⟨h, _⟩ | ⟨h, _⟩ <;> omega), fun q => (by rcases hc with ⟨h, _⟩ | ⟨_, rfl⟩ <;> first | exact hG | omega)⟩) c⟩
theorem law_sync (T : St n ad aa m adx po σ Y X) (S : Sim n K Y X) (hK : K + 5000 < 1073741824) (hi : i + 5 ≤ L) (hL : L ≤ 322) (hkc : kc + 1 ≤ 600128) (hnc : nc + 6 ≤ 7301064) (nx : Nxt n ad aa m adx po K L xs R Q i kc nc) : b_L_law_616 L xs R Q (some (ad 11 0)) (some m) (some po) (nI i) kc nc σ := by
  intro x1 e1
  obtain ⟨v1, c1⟩ := argI (j := 1) e1 (by omega : i + 1 < L) hL
  refine ⟨v1, fun y1 f1 => ?_⟩
  rw [c1] at f1
  subst f1
  refine ⟨⟨hkc, hnc⟩, Lw_sync (B := (kc + 1) ≤ 600128 ∧ (nc + 6) ≤ 7301064) (C := fun σ9 => b_L_law_1369 L xs R Q (some (ad 11 0)) (some m) (some po) (nI i) (kc + 1) (nc + 6) σ9) (D := fun σ9 => ((kc + 1) ≤ 600128 ∧ (nc + 6) ≤ 7301064) ∧ Q (0 : Int32) σ9) T S (by omega) (xs (i + 1)) ⟨hkc, hnc⟩ (fun r σ9 hk h => ?_) (fun σ9 Y9 X9 T9 S9 => nx _ _ _ _ _ _ T9 S9 (by omega) (by omega) (by omega))⟩
  intro z1 d1
  obtain ⟨u1, b1⟩ := argI (j := 1) d1 (by omega : i + 1 < L) hL
  refine ⟨u1, fun w1 g1 => ?_⟩
  rw [b1] at g1
  subst g1
  exact ⟨m, rfl, hk, ⟨hkc, hnc⟩, h⟩
theorem Lw_tick {G : Int32 → Sto → Prop} {C D : Sto → Prop} {B : Prop} (T : St n ad aa m adx po σ Y X) (S : Sim n K Y X) (hK : K + 480 < 1073741824) (p1 : Int32) (hB : B) (g : ∀ k σ1, sK σ1 m = 12 → wp_X12_tick m p1 σ1 (fun r σ2 => sK σ2 m = 12 ∧ (B ∧ wp_X12_thrown m σ2 (fun t σ3 => FinV C D (some po) k r t σ3))) → G k σ1) (c : ∀ σ1 Y1 X1, St n ad aa m adx po σ1 Y1 X1 → Sim n (K + 480) Y1 X1 → C σ1) : wp_L_tick (some (ad 11 0)) p1 (some po) σ G :=
  ⟨ad 11 0, rfl, T.k11, callW (K2 := K + 480) (G := G) (C := C) (D := D) (B := B) (Cd := CdB) (wpX := fun σ9 Q9 => wp_X12_tick m p1 σ9 Q9) T (outVW (tick_call S hK p1)) hB (fun Qy Xy Q9 E9 h hQ hX => y_X11_tick T.1 h hQ hX) (fun σ9 hR Qx Q9 h hQ => x_X12_tick hR h hQ) g (fun e v σ9 hc hG => ⟨fun q => (by have := hc.1; omega), fun q => (by have := hc.2; subst this; exact hG), fun q => (by have := hc.1; omega)⟩) (fun e v hc q => (by rw [hc.2] at q; exact absurd q (by decide))) c⟩
theorem law_tick (T : St n ad aa m adx po σ Y X) (S : Sim n K Y X) (hK : K + 5000 < 1073741824) (hi : i + 5 ≤ L) (hL : L ≤ 322) (hkc : kc + 1 ≤ 600128) (hnc : nc + 6 ≤ 7301064) (nx : Nxt n ad aa m adx po K L xs R Q i kc nc) : b_L_law_652 L xs R Q (some (ad 11 0)) (some m) (some po) (nI i) kc nc σ := by
  intro x1 e1
  obtain ⟨v1, c1⟩ := argI (j := 1) e1 (by omega : i + 1 < L) hL
  refine ⟨v1, fun y1 f1 => ?_⟩
  rw [c1] at f1
  subst f1
  refine ⟨⟨hkc, hnc⟩, Lw_tick (B := (kc + 1) ≤ 600128 ∧ (nc + 6) ≤ 7301064) (C := fun σ9 => b_L_law_1369 L xs R Q (some (ad 11 0)) (some m) (some po) (nI i) (kc + 1) (nc + 6) σ9) (D := fun σ9 => ((kc + 1) ≤ 600128 ∧ (nc + 6) ≤ 7301064) ∧ Q (0 : Int32) σ9) T S (by omega) (xs (i + 1)) ⟨hkc, hnc⟩ (fun r σ9 hk h => ?_) (fun σ9 Y9 X9 T9 S9 => nx _ _ _ _ _ _ T9 S9 (by omega) (by omega) (by omega))⟩
  intro z1 d1
  obtain ⟨u1, b1⟩ := argI (j := 1) d1 (by omega : i + 1 < L) hL
  refine ⟨u1, fun w1 g1 => ?_⟩
  rw [b1] at g1
  subst g1
  exact ⟨m, rfl, hk, ⟨hkc, hnc⟩, h⟩
theorem Lw_calm {G : Int32 → Sto → Prop} {C D : Sto → Prop} {B : Prop} (T : St n ad aa m adx po σ Y X) (S : Sim n K Y X) (hK : K + 4240 < 1073741824) (p1 : Int32) (hB : B) (g : ∀ k σ1, sK σ1 m = 12 → wp_X12_calm m p1 σ1 (fun r σ2 => sK σ2 m = 12 ∧ (B ∧ wp_X12_thrown m σ2 (fun t σ3 => FinV C D (some po) k r t σ3))) → G k σ1) (c : ∀ σ1 Y1 X1, St n ad aa m adx po σ1 Y1 X1 → Sim n (K + 4240) Y1 X1 → C σ1) : wp_L_calm (some (ad 11 0)) p1 (some po) σ G :=
  ⟨ad 11 0, rfl, T.k11, callW (K2 := K + 4240) (G := G) (C := C) (D := D) (B := B) (Cd := CdB) (wpX := fun σ9 Q9 => wp_X12_calm m p1 σ9 Q9) T (outVW (calm_call S hK p1)) hB (fun Qy Xy Q9 E9 h hQ hX => y_X11_calm T.1 h hQ hX) (fun σ9 hR Qx Q9 h hQ => x_X12_calm hR h hQ) g (fun e v σ9 hc hG => ⟨fun q => (by have := hc.1; omega), fun q => (by have := hc.2; subst this; exact hG), fun q => (by have := hc.1; omega)⟩) (fun e v hc q => (by rw [hc.2] at q; exact absurd q (by decide))) c⟩
theorem law_calm (T : St n ad aa m adx po σ Y X) (S : Sim n K Y X) (hK : K + 5000 < 1073741824) (hi : i + 5 ≤ L) (hL : L ≤ 322) (hkc : kc + 1 ≤ 600128) (hnc : nc + 6 ≤ 7301064) (nx : Nxt n ad aa m adx po K L xs R Q i kc nc) : b_L_law_708 L xs R Q (some (ad 11 0)) (some m) (some po) (nI i) kc nc σ := by
  intro x1 e1
  obtain ⟨v1, c1⟩ := argI (j := 1) e1 (by omega : i + 1 < L) hL
  refine ⟨v1, fun y1 f1 => ?_⟩
  rw [c1] at f1
  subst f1
  refine ⟨⟨hkc, hnc⟩, Lw_calm (B := (kc + 1) ≤ 600128 ∧ (nc + 6) ≤ 7301064) (C := fun σ9 => b_L_law_1369 L xs R Q (some (ad 11 0)) (some m) (some po) (nI i) (kc + 1) (nc + 6) σ9) (D := fun σ9 => ((kc + 1) ≤ 600128 ∧ (nc + 6) ≤ 7301064) ∧ Q (0 : Int32) σ9) T S (by omega) (xs (i + 1)) ⟨hkc, hnc⟩ (fun r σ9 hk h => ?_) (fun σ9 Y9 X9 T9 S9 => nx _ _ _ _ _ _ T9 S9 (by omega) (by omega) (by omega))⟩
  intro z1 d1
  obtain ⟨u1, b1⟩ := argI (j := 1) d1 (by omega : i + 1 < L) hL
  refine ⟨u1, fun w1 g1 => ?_⟩
  rw [b1] at g1
  subst g1
  exact ⟨m, rfl, hk, ⟨hkc, hnc⟩, h⟩
theorem law_fail (T : St n ad aa m adx po σ Y X) (S : Sim n K Y X) (hK : K + 5000 < 1073741824) (hi : i + 5 ≤ L) (hL : L ≤ 322) (hkc : kc + 1 ≤ 600128) (hnc : nc + 6 ≤ 7301064) (nx : Nxt n ad aa m adx po K L xs R Q i kc nc) : b_L_law_764 L xs R Q (some (ad 11 0)) (some m) (some po) (nI i) kc nc σ := by
  refine ⟨ad 11 0, rfl, T.k11, ⟨by omega, by omega⟩, ?_⟩
  refine callP (K2 := K + 0) (wpX := fun σ9 Q9 => wp_X12_fail m σ9 Q9) (C := fun σ9 => b_L_law_1369 L xs R Q (some (ad 11 0)) (some m) (some po) (nI i) kc nc σ9) (D := fun σ9 => (kc ≤ 600128 ∧ nc ≤ 7301064) ∧ Q (0 : Int32) σ9) T (fail_call S) (fun Qy Q9 h hQ => y_X11_fail T.1 h hQ) (fun σ9 hR Qx Q9 h hQ => x_X12_fail hR h hQ) (fun r σ9 hk h => ?_) (fun σ9 Y9 X9 T9 S9 => nx _ _ _ _ _ _ T9 S9 (by omega) (by omega) (by omega))
  exact ⟨m, rfl, hk, ⟨by omega, by omega⟩, h⟩
theorem law_install (T : St n ad aa m adx po σ Y X) (S : Sim n K Y X) (hK : K + 5000 < 1073741824) (hi : i + 5 ≤ L) (hL : L ≤ 322) (hkc : kc + 1 ≤ 600128) (hnc : nc + 6 ≤ 7301064) (nx : Nxt n ad aa m adx po K L xs R Q i kc nc) : b_L_law_777 L xs R Q (some (ad 11 0)) (some m) (some po) (nI i) kc nc σ := by
  refine ⟨ad 11 0, rfl, T.k11, ⟨by omega, by omega⟩, ?_⟩
  refine callP (K2 := K + 1) (wpX := fun σ9 Q9 => wp_X12_install m σ9 Q9) (C := fun σ9 => b_L_law_1369 L xs R Q (some (ad 11 0)) (some m) (some po) (nI i) kc nc σ9) (D := fun σ9 => (kc ≤ 600128 ∧ nc ≤ 7301064) ∧ Q (0 : Int32) σ9) T (install_call S (by omega)) (fun Qy Q9 h hQ => y_X11_install T.1 h hQ) (fun σ9 hR Qx Q9 h hQ => x_X12_install hR h hQ) (fun r σ9 hk h => ?_) (fun σ9 Y9 X9 T9 S9 => nx _ _ _ _ _ _ T9 S9 (by omega) (by omega) (by omega))
  exact ⟨m, rfl, hk, ⟨by omega, by omega⟩, h⟩
theorem law_replica (T : St n ad aa m adx po σ Y X) (S : Sim n K Y X) (hK : K + 5000 < 1073741824) (hi : i + 5 ≤ L) (hL : L ≤ 322) (hkc : kc + 1 ≤ 600128) (hnc : nc + 6 ≤ 7301064) (nx : Nxt n ad aa m adx po K L xs R Q i kc nc) : b_L_law_790 L xs R Q (some (ad 11 0)) (some m) (some po) (nI i) kc nc σ := by
  intro x1 e1
  obtain ⟨v1, c1⟩ := argI (j := 1) e1 (by omega : i + 1 < L) hL
  refine ⟨v1, fun y1 f1 => ?_⟩
  rw [c1] at f1
  subst f1
  intro x2 e2
  obtain ⟨v2, c2⟩ := argI (j := 2) e2 (by omega : i + 2 < L) hL
  refine ⟨v2, fun y2 f2 => ?_⟩
  rw [c2] at f2
  subst f2
  refine ⟨ad 11 0, rfl, T.k11, ⟨by omega, by omega⟩, ?_⟩
  refine callP (K2 := K + 0) (wpX := fun σ9 Q9 => wp_X12_replica m (xs (i + 1)) (xs (i + 2)) σ9 Q9) (C := fun σ9 => b_L_law_1369 L xs R Q (some (ad 11 0)) (some m) (some po) (nI i) kc nc σ9) (D := fun σ9 => (kc ≤ 600128 ∧ nc ≤ 7301064) ∧ Q (0 : Int32) σ9) T (replica_call S (xs (i + 1)) (xs (i + 2))) (fun Qy Q9 h hQ => y_X11_replica T.1 h hQ) (fun σ9 hR Qx Q9 h hQ => x_X12_replica hR h hQ) (fun r σ9 hk h => ?_) (fun σ9 Y9 X9 T9 S9 => nx _ _ _ _ _ _ T9 S9 (by omega) (by omega) (by omega))
  intro z1 d1
  obtain ⟨u1, b1⟩ := argI (j := 1) d1 (by omega : i + 1 < L) hL
  refine ⟨u1, fun w1 g1 => ?_⟩
  rw [b1] at g1
  subst g1
  intro z2 d2
  obtain ⟨u2, b2⟩ := argI (j := 2) d2 (by omega : i + 2 < L) hL
  refine ⟨u2, fun w2 g2 => ?_⟩
  rw [b2] at g2
  subst g2
  exact ⟨m, rfl, hk, ⟨by omega, by omega⟩, h⟩
theorem law_entry (T : St n ad aa m adx po σ Y X) (S : Sim n K Y X) (hK : K + 5000 < 1073741824) (hi : i + 5 ≤ L) (hL : L ≤ 322) (hkc : kc + 1 ≤ 600128) (hnc : nc + 6 ≤ 7301064) (nx : Nxt n ad aa m adx po K L xs R Q i kc nc) : b_L_law_827 L xs R Q (some (ad 11 0)) (some m) (some po) (nI i) kc nc σ := by
  intro x1 e1
  obtain ⟨v1, c1⟩ := argI (j := 1) e1 (by omega : i + 1 < L) hL
  refine ⟨v1, fun y1 f1 => ?_⟩
  rw [c1] at f1
  subst f1
  intro x2 e2
  obtain ⟨v2, c2⟩ := argI (j := 2) e2 (by omega : i + 2 < L) hL
  refine ⟨v2, fun y2 f2 => ?_⟩
  rw [c2] at f2
  subst f2
  intro x3 e3
  obtain ⟨v3, c3⟩ := argI (j := 3) e3 (by omega : i + 3 < L) hL
  refine ⟨v3, fun y3 f3 => ?_⟩
  rw [c3] at f3
  subst f3
  refine ⟨ad 11 0, rfl, T.k11, ⟨by omega, by omega⟩, ?_⟩
  refine callP (K2 := K + 0) (wpX := fun σ9 Q9 => wp_X12_entry m (xs (i + 1)) (xs (i + 2)) (xs (i + 3)) σ9 Q9) (C := fun σ9 => b_L_law_1369 L xs R Q (some (ad 11 0)) (some m) (some po) (nI i) kc nc σ9) (D := fun σ9 => (kc ≤ 600128 ∧ nc ≤ 7301064) ∧ Q (0 : Int32) σ9) T (entry_call S (xs (i + 1)) (xs (i + 2)) (xs (i + 3))) (fun Qy Q9 h hQ => y_X11_entry T.1 h hQ) (fun σ9 hR Qx Q9 h hQ => x_X12_entry hR h hQ) (fun r σ9 hk h => ?_) (fun σ9 Y9 X9 T9 S9 => nx _ _ _ _ _ _ T9 S9 (by omega) (by omega) (by omega))
  intro z1 d1
  obtain ⟨u1, b1⟩ := argI (j := 1) d1 (by omega : i + 1 < L) hL
  refine ⟨u1, fun w1 g1 => ?_⟩
  rw [b1] at g1
  subst g1
  intro z2 d2
  obtain ⟨u2, b2⟩ := argI (j := 2) d2 (by omega : i + 2 < L) hL
  refine ⟨u2, fun w2 g2 => ?_⟩
  rw [b2] at g2
  subst g2
  intro z3 d3
  obtain ⟨u3, b3⟩ := argI (j := 3) d3 (by omega : i + 3 < L) hL
  refine ⟨u3, fun w3 g3 => ?_⟩
  rw [b3] at g3
  subst g3
  exact ⟨m, rfl, hk, ⟨by omega, by omega⟩, h⟩
theorem law_word (T : St n ad aa m adx po σ Y X) (S : Sim n K Y X) (hK : K + 5000 < 1073741824) (hi : i + 5 ≤ L) (hL : L ≤ 322) (hkc : kc + 1 ≤ 600128) (hnc : nc + 6 ≤ 7301064) (nx : Nxt n ad aa m adx po K L xs R Q i kc nc) : b_L_law_876 L xs R Q (some (ad 11 0)) (some m) (some po) (nI i) kc nc σ := by
  intro x1 e1
  obtain ⟨v1, c1⟩ := argI (j := 1) e1 (by omega : i + 1 < L) hL
  refine ⟨v1, fun y1 f1 => ?_⟩
  rw [c1] at f1
  subst f1
  intro x2 e2
  obtain ⟨v2, c2⟩ := argI (j := 2) e2 (by omega : i + 2 < L) hL
  refine ⟨v2, fun y2 f2 => ?_⟩
  rw [c2] at f2
  subst f2
  refine ⟨ad 11 0, rfl, T.k11, ⟨by omega, by omega⟩, ?_⟩
  refine callP (K2 := K + 0) (wpX := fun σ9 Q9 => wp_X12_word m (xs (i + 1)) (xs (i + 2)) σ9 Q9) (C := fun σ9 => b_L_law_1369 L xs R Q (some (ad 11 0)) (some m) (some po) (nI i) kc nc σ9) (D := fun σ9 => (kc ≤ 600128 ∧ nc ≤ 7301064) ∧ Q (0 : Int32) σ9) T (word_call S (xs (i + 1)) (xs (i + 2))) (fun Qy Q9 h hQ => y_X11_word T.1 h hQ) (fun σ9 hR Qx Q9 h hQ => x_X12_word hR h hQ) (fun r σ9 hk h => ?_) (fun σ9 Y9 X9 T9 S9 => nx _ _ _ _ _ _ T9 S9 (by omega) (by omega) (by omega))
  intro z1 d1
  obtain ⟨u1, b1⟩ := argI (j := 1) d1 (by omega : i + 1 < L) hL
  refine ⟨u1, fun w1 g1 => ?_⟩
  rw [b1] at g1
  subst g1
  intro z2 d2
  obtain ⟨u2, b2⟩ := argI (j := 2) d2 (by omega : i + 2 < L) hL
  refine ⟨u2, fun w2 g2 => ?_⟩
  rw [b2] at g2
  subst g2
  exact ⟨m, rfl, hk, ⟨by omega, by omega⟩, h⟩
theorem law_client (T : St n ad aa m adx po σ Y X) (S : Sim n K Y X) (hK : K + 5000 < 1073741824) (hi : i + 5 ≤ L) (hL : L ≤ 322) (hkc : kc + 1 ≤ 600128) (hnc : nc + 6 ≤ 7301064) (nx : Nxt n ad aa m adx po K L xs R Q i kc nc) : b_L_law_913 L xs R Q (some (ad 11 0)) (some m) (some po) (nI i) kc nc σ := by
  intro x1 e1
  obtain ⟨v1, c1⟩ := argI (j := 1) e1 (by omega : i + 1 < L) hL
  refine ⟨v1, fun y1 f1 => ?_⟩
  rw [c1] at f1
  subst f1
  intro x2 e2
  obtain ⟨v2, c2⟩ := argI (j := 2) e2 (by omega : i + 2 < L) hL
  refine ⟨v2, fun y2 f2 => ?_⟩
  rw [c2] at f2
  subst f2
  refine ⟨ad 11 0, rfl, T.k11, ⟨by omega, by omega⟩, ?_⟩
  refine callP (K2 := K + 0) (wpX := fun σ9 Q9 => wp_X12_client m (xs (i + 1)) (xs (i + 2)) σ9 Q9) (C := fun σ9 => b_L_law_1369 L xs R Q (some (ad 11 0)) (some m) (some po) (nI i) kc nc σ9) (D := fun σ9 => (kc ≤ 600128 ∧ nc ≤ 7301064) ∧ Q (0 : Int32) σ9) T (client_call S (xs (i + 1)) (xs (i + 2))) (fun Qy Q9 h hQ => y_X11_client T.1 h hQ) (fun σ9 hR Qx Q9 h hQ => x_X12_client hR h hQ) (fun r σ9 hk h => ?_) (fun σ9 Y9 X9 T9 S9 => nx _ _ _ _ _ _ T9 S9 (by omega) (by omega) (by omega))
  intro z1 d1
  obtain ⟨u1, b1⟩ := argI (j := 1) d1 (by omega : i + 1 < L) hL
  refine ⟨u1, fun w1 g1 => ?_⟩
  rw [b1] at g1
  subst g1
  intro z2 d2
  obtain ⟨u2, b2⟩ := argI (j := 2) d2 (by omega : i + 2 < L) hL
  refine ⟨u2, fun w2 g2 => ?_⟩
  rw [b2] at g2
  subst g2
  exact ⟨m, rfl, hk, ⟨by omega, by omega⟩, h⟩
theorem law_answer (T : St n ad aa m adx po σ Y X) (S : Sim n K Y X) (hK : K + 5000 < 1073741824) (hi : i + 5 ≤ L) (hL : L ≤ 322) (hkc : kc + 1 ≤ 600128) (hnc : nc + 6 ≤ 7301064) (nx : Nxt n ad aa m adx po K L xs R Q i kc nc) : b_L_law_950 L xs R Q (some (ad 11 0)) (some m) (some po) (nI i) kc nc σ := by
  intro x1 e1
  obtain ⟨v1, c1⟩ := argI (j := 1) e1 (by omega : i + 1 < L) hL
  refine ⟨v1, fun y1 f1 => ?_⟩
  rw [c1] at f1
  subst f1
  refine ⟨ad 11 0, rfl, T.k11, ⟨by omega, by omega⟩, ?_⟩
  refine callP (K2 := K + 0) (wpX := fun σ9 Q9 => wp_X12_answer m (xs (i + 1)) σ9 Q9) (C := fun σ9 => b_L_law_1369 L xs R Q (some (ad 11 0)) (some m) (some po) (nI i) kc nc σ9) (D := fun σ9 => (kc ≤ 600128 ∧ nc ≤ 7301064) ∧ Q (0 : Int32) σ9) T (answer_call S (xs (i + 1))) (fun Qy Q9 h hQ => y_X11_answer T.1 h hQ) (fun σ9 hR Qx Q9 h hQ => x_X12_answer hR h hQ) (fun r σ9 hk h => ?_) (fun σ9 Y9 X9 T9 S9 => nx _ _ _ _ _ _ T9 S9 (by omega) (by omega) (by omega))
  intro z1 d1
  obtain ⟨u1, b1⟩ := argI (j := 1) d1 (by omega : i + 1 < L) hL
  refine ⟨u1, fun w1 g1 => ?_⟩
  rw [b1] at g1
  subst g1
  exact ⟨m, rfl, hk, ⟨by omega, by omega⟩, h⟩
theorem law_about (T : St n ad aa m adx po σ Y X) (S : Sim n K Y X) (hK : K + 5000 < 1073741824) (hi : i + 5 ≤ L) (hL : L ≤ 322) (hkc : kc + 1 ≤ 600128) (hnc : nc + 6 ≤ 7301064) (nx : Nxt n ad aa m adx po K L xs R Q i kc nc) : b_L_law_975 L xs R Q (some (ad 11 0)) (some m) (some po) (nI i) kc nc σ := by
  intro x1 e1
  obtain ⟨v1, c1⟩ := argI (j := 1) e1 (by omega : i + 1 < L) hL
  refine ⟨v1, fun y1 f1 => ?_⟩
  rw [c1] at f1
  subst f1
  refine ⟨ad 11 0, rfl, T.k11, ⟨by omega, by omega⟩, ?_⟩
  refine callP (K2 := K + 0) (wpX := fun σ9 Q9 => wp_X12_about m (xs (i + 1)) σ9 Q9) (C := fun σ9 => b_L_law_1369 L xs R Q (some (ad 11 0)) (some m) (some po) (nI i) kc nc σ9) (D := fun σ9 => (kc ≤ 600128 ∧ nc ≤ 7301064) ∧ Q (0 : Int32) σ9) T (about_call S (xs (i + 1))) (fun Qy Q9 h hQ => y_X11_about T.1 h hQ) (fun σ9 hR Qx Q9 h hQ => x_X12_about hR h hQ) (fun r σ9 hk h => ?_) (fun σ9 Y9 X9 T9 S9 => nx _ _ _ _ _ _ T9 S9 (by omega) (by omega) (by omega))
  intro z1 d1
  obtain ⟨u1, b1⟩ := argI (j := 1) d1 (by omega : i + 1 < L) hL
  refine ⟨u1, fun w1 g1 => ?_⟩
  rw [b1] at g1
  subst g1
  exact ⟨m, rfl, hk, ⟨by omega, by omega⟩, h⟩
theorem law_message (T : St n ad aa m adx po σ Y X) (S : Sim n K Y X) (hK : K + 5000 < 1073741824) (hi : i + 5 ≤ L) (hL : L ≤ 322) (hkc : kc + 1 ≤ 600128) (hnc : nc + 6 ≤ 7301064) (nx : Nxt n ad aa m adx po K L xs R Q i kc nc) : b_L_law_1000 L xs R Q (some (ad 11 0)) (some m) (some po) (nI i) kc nc σ := by
  intro x1 e1
  obtain ⟨v1, c1⟩ := argI (j := 1) e1 (by omega : i + 1 < L) hL
  refine ⟨v1, fun y1 f1 => ?_⟩
  rw [c1] at f1
  subst f1
  intro x2 e2
  obtain ⟨v2, c2⟩ := argI (j := 2) e2 (by omega : i + 2 < L) hL
  refine ⟨v2, fun y2 f2 => ?_⟩
  rw [c2] at f2
  subst f2
  refine ⟨ad 11 0, rfl, T.k11, ⟨by omega, by omega⟩, ?_⟩
  refine callP (K2 := K + 0) (wpX := fun σ9 Q9 => wp_X12_message m (xs (i + 1)) (xs (i + 2)) σ9 Q9) (C := fun σ9 => b_L_law_1369 L xs R Q (some (ad 11 0)) (some m) (some po) (nI i) kc nc σ9) (D := fun σ9 => (kc ≤ 600128 ∧ nc ≤ 7301064) ∧ Q (0 : Int32) σ9) T (message_call S (xs (i + 1)) (xs (i + 2))) (fun Qy Q9 h hQ => y_X11_message T.1 h hQ) (fun σ9 hR Qx Q9 h hQ => x_X12_message hR h hQ) (fun r σ9 hk h => ?_) (fun σ9 Y9 X9 T9 S9 => nx _ _ _ _ _ _ T9 S9 (by omega) (by omega) (by omega))
  intro z1 d1
  obtain ⟨u1, b1⟩ := argI (j := 1) d1 (by omega : i + 1 < L) hL
  refine ⟨u1, fun w1 g1 => ?_⟩
  rw [b1] at g1
  subst g1
  intro z2 d2
  obtain ⟨u2, b2⟩ := argI (j := 2) d2 (by omega : i + 2 < L) hL
  refine ⟨u2, fun w2 g2 => ?_⟩
  rw [b2] at g2
  subst g2
  exact ⟨m, rfl, hk, ⟨by omega, by omega⟩, h⟩
theorem law_wire (T : St n ad aa m adx po σ Y X) (S : Sim n K Y X) (hK : K + 5000 < 1073741824) (hi : i + 5 ≤ L) (hL : L ≤ 322) (hkc : kc + 1 ≤ 600128) (hnc : nc + 6 ≤ 7301064) (nx : Nxt n ad aa m adx po K L xs R Q i kc nc) : b_L_law_1037 L xs R Q (some (ad 11 0)) (some m) (some po) (nI i) kc nc σ := by
  intro x1 e1
  obtain ⟨v1, c1⟩ := argI (j := 1) e1 (by omega : i + 1 < L) hL
  refine ⟨v1, fun y1 f1 => ?_⟩
  rw [c1] at f1
  subst f1
  refine ⟨ad 11 0, rfl, T.k11, ⟨by omega, by omega⟩, ?_⟩
  refine callP (K2 := K + 0) (wpX := fun σ9 Q9 => wp_X12_wire m (xs (i + 1)) σ9 Q9) (C := fun σ9 => b_L_law_1369 L xs R Q (some (ad 11 0)) (some m) (some po) (nI i) kc nc σ9) (D := fun σ9 => (kc ≤ 600128 ∧ nc ≤ 7301064) ∧ Q (0 : Int32) σ9) T (wire_call S (xs (i + 1))) (fun Qy Q9 h hQ => y_X11_wire T.1 h hQ) (fun σ9 hR Qx Q9 h hQ => x_X12_wire hR h hQ) (fun r σ9 hk h => ?_) (fun σ9 Y9 X9 T9 S9 => nx _ _ _ _ _ _ T9 S9 (by omega) (by omega) (by omega))
  intro z1 d1
  obtain ⟨u1, b1⟩ := argI (j := 1) d1 (by omega : i + 1 < L) hL
  refine ⟨u1, fun w1 g1 => ?_⟩
  rw [b1] at g1
  subst g1
  exact ⟨m, rfl, hk, ⟨by omega, by omega⟩, h⟩
theorem Lw_image {G : Int32 → Sto → Prop} {C D : Sto → Prop} {B : Prop} (T : St n ad aa m adx po σ Y X) (S : Sim n K Y X) (hK : K + 0 < 1073741824) (p1 : Int32) (hB : B) (g : ∀ k σ1, sK σ1 m = 12 → wp_X12_image m p1 σ1 (fun r σ2 => sK σ2 m = 12 ∧ (B ∧ wp_X12_thrown m σ2 (fun t σ3 => FinV C D (some po) k r t σ3))) → G k σ1) (c : ∀ σ1 Y1 X1, St n ad aa m adx po σ1 Y1 X1 → Sim n (K + 0) Y1 X1 → C σ1) : wp_L_image (some (ad 11 0)) p1 (some po) σ G :=
  ⟨ad 11 0, rfl, T.k11, callW (K2 := K + 0) (G := G) (C := C) (D := D) (B := B) (Cd := CdI) (wpX := fun σ9 Q9 => wp_X12_image m p1 σ9 Q9) T (outVW (image_call S p1)) hB (fun Qy Xy Q9 E9 h hQ hX => y_X11_image T.1 h hQ hX) (fun σ9 hR Qx Q9 h hQ => x_X12_image hR h hQ) g (fun e v σ9 hc hG => ⟨fun q => (by have := hc.2; subst this; exact hG), fun q => (by have := hc.1; omega), fun q => (by have := hc.1; omega)⟩) (fun e v hc q => (by rw [hc.2] at q; exact absurd q (by decide))) c⟩
theorem law_image (T : St n ad aa m adx po σ Y X) (S : Sim n K Y X) (hK : K + 5000 < 1073741824) (hi : i + 5 ≤ L) (hL : L ≤ 322) (hkc : kc + 1 ≤ 600128) (hnc : nc + 6 ≤ 7301064) (nx : Nxt n ad aa m adx po K L xs R Q i kc nc) : b_L_law_1062 L xs R Q (some (ad 11 0)) (some m) (some po) (nI i) kc nc σ := by
  intro x1 e1
  obtain ⟨v1, c1⟩ := argI (j := 1) e1 (by omega : i + 1 < L) hL
  refine ⟨v1, fun y1 f1 => ?_⟩
  rw [c1] at f1
  subst f1
  refine ⟨⟨hkc, hnc⟩, Lw_image (B := (kc + 1) ≤ 600128 ∧ (nc + 6) ≤ 7301064) (C := fun σ9 => b_L_law_1369 L xs R Q (some (ad 11 0)) (some m) (some po) (nI i) (kc + 1) (nc + 6) σ9) (D := fun σ9 => ((kc + 1) ≤ 600128 ∧ (nc + 6) ≤ 7301064) ∧ Q (0 : Int32) σ9) T S (by omega) (xs (i + 1)) ⟨hkc, hnc⟩ (fun r σ9 hk h => ?_) (fun σ9 Y9 X9 T9 S9 => nx _ _ _ _ _ _ T9 S9 (by omega) (by omega) (by omega))⟩
  intro z1 d1
  obtain ⟨u1, b1⟩ := argI (j := 1) d1 (by omega : i + 1 < L) hL
  refine ⟨u1, fun w1 g1 => ?_⟩
  rw [b1] at g1
  subst g1
  exact ⟨m, rfl, hk, ⟨hkc, hnc⟩, h⟩
theorem law_output (T : St n ad aa m adx po σ Y X) (S : Sim n K Y X) (hK : K + 5000 < 1073741824) (hi : i + 5 ≤ L) (hL : L ≤ 322) (hkc : kc + 1 ≤ 600128) (hnc : nc + 6 ≤ 7301064) (nx : Nxt n ad aa m adx po K L xs R Q i kc nc) : b_L_law_1118 L xs R Q (some (ad 11 0)) (some m) (some po) (nI i) kc nc σ := by
  intro x1 e1
  obtain ⟨v1, c1⟩ := argI (j := 1) e1 (by omega : i + 1 < L) hL
  refine ⟨v1, fun y1 f1 => ?_⟩
  rw [c1] at f1
  subst f1
  refine ⟨ad 11 0, rfl, T.k11, ⟨by omega, by omega⟩, ?_⟩
  refine callP (K2 := K + 0) (wpX := fun σ9 Q9 => wp_X12_output m (xs (i + 1)) σ9 Q9) (C := fun σ9 => b_L_law_1369 L xs R Q (some (ad 11 0)) (some m) (some po) (nI i) kc nc σ9) (D := fun σ9 => (kc ≤ 600128 ∧ nc ≤ 7301064) ∧ Q (0 : Int32) σ9) T (output_call S (xs (i + 1))) (fun Qy Q9 h hQ => y_X11_output T.1 h hQ) (fun σ9 hR Qx Q9 h hQ => x_X12_output hR h hQ) (fun r σ9 hk h => ?_) (fun σ9 Y9 X9 T9 S9 => nx _ _ _ _ _ _ T9 S9 (by omega) (by omega) (by omega))
  intro z1 d1
  obtain ⟨u1, b1⟩ := argI (j := 1) d1 (by omega : i + 1 < L) hL
  refine ⟨u1, fun w1 g1 => ?_⟩
  rw [b1] at g1
  subst g1
  exact ⟨m, rfl, hk, ⟨by omega, by omega⟩, h⟩
theorem law_put (T : St n ad aa m adx po σ Y X) (S : Sim n K Y X) (hK : K + 5000 < 1073741824) (hi : i + 5 ≤ L) (hL : L ≤ 322) (hkc : kc + 1 ≤ 600128) (hnc : nc + 6 ≤ 7301064) (nx : Nxt n ad aa m adx po K L xs R Q i kc nc) : b_L_law_1143 L xs R Q (some (ad 11 0)) (some m) (some po) (nI i) kc nc σ := by
  intro x1 e1
  obtain ⟨v1, c1⟩ := argI (j := 1) e1 (by omega : i + 1 < L) hL
  refine ⟨v1, fun y1 f1 => ?_⟩
  rw [c1] at f1
  subst f1
  intro x2 e2
  obtain ⟨v2, c2⟩ := argI (j := 2) e2 (by omega : i + 2 < L) hL
  refine ⟨v2, fun y2 f2 => ?_⟩
  rw [c2] at f2
  subst f2
  intro x3 e3
  obtain ⟨v3, c3⟩ := argI (j := 3) e3 (by omega : i + 3 < L) hL
  refine ⟨v3, fun y3 f3 => ?_⟩
  rw [c3] at f3
  subst f3
  refine ⟨ad 11 0, rfl, T.k11, ⟨by omega, by omega⟩, ?_⟩
  refine callP (K2 := K + 0) (wpX := fun σ9 Q9 => wp_X12_put m (((xs (i + 1)).toInt64 <<< ((32 : Int32).toInt64 &&& 63)) ||| ((xs (i + 2)).toInt64 &&& (4294967295 : Int64))) (xs (i + 3)) σ9 Q9) (C := fun σ9 => b_L_law_1369 L xs R Q (some (ad 11 0)) (some m) (some po) (nI i) kc nc σ9) (D := fun σ9 => (kc ≤ 600128 ∧ nc ≤ 7301064) ∧ Q (0 : Int32) σ9) T (put_call S (((xs (i + 1)).toInt64 <<< ((32 : Int32).toInt64 &&& 63)) ||| ((xs (i + 2)).toInt64 &&& (4294967295 : Int64))) (xs (i + 3))) (fun Qy Q9 h hQ => y_X11_put T.1 h hQ) (fun σ9 hR Qx Q9 h hQ => x_X12_put hR h hQ) (fun r σ9 hk h => ?_) (fun σ9 Y9 X9 T9 S9 => nx _ _ _ _ _ _ T9 S9 (by omega) (by omega) (by omega))
  intro z1 d1
  obtain ⟨u1, b1⟩ := argI (j := 1) d1 (by omega : i + 1 < L) hL
  refine ⟨u1, fun w1 g1 => ?_⟩
  rw [b1] at g1
  subst g1
  intro z2 d2
  obtain ⟨u2, b2⟩ := argI (j := 2) d2 (by omega : i + 2 < L) hL
  refine ⟨u2, fun w2 g2 => ?_⟩
  rw [b2] at g2
  subst g2
  intro z3 d3
  obtain ⟨u3, b3⟩ := argI (j := 3) d3 (by omega : i + 3 < L) hL
  refine ⟨u3, fun w3 g3 => ?_⟩
  rw [b3] at g3
  subst g3
  exact ⟨m, rfl, hk, ⟨by omega, by omega⟩, h⟩
theorem law_take (T : St n ad aa m adx po σ Y X) (S : Sim n K Y X) (hK : K + 5000 < 1073741824) (hi : i + 5 ≤ L) (hL : L ≤ 322) (hkc : kc + 1 ≤ 600128) (hnc : nc + 6 ≤ 7301064) (nx : Nxt n ad aa m adx po K L xs R Q i kc nc) : b_L_law_1212 L xs R Q (some (ad 11 0)) (some m) (some po) (nI i) kc nc σ := by
  intro x1 e1
  obtain ⟨v1, c1⟩ := argI (j := 1) e1 (by omega : i + 1 < L) hL
  refine ⟨v1, fun y1 f1 => ?_⟩
  rw [c1] at f1
  subst f1
  intro x2 e2
  obtain ⟨v2, c2⟩ := argI (j := 2) e2 (by omega : i + 2 < L) hL
  refine ⟨v2, fun y2 f2 => ?_⟩
  rw [c2] at f2
  subst f2
  refine ⟨ad 11 0, rfl, T.k11, ⟨by omega, by omega⟩, ?_⟩
  refine callP (K2 := K + 0) (wpX := fun σ9 Q9 => wp_X12_take m (xs (i + 1)) (xs (i + 2)) σ9 Q9) (C := fun σ9 => b_L_law_1369 L xs R Q (some (ad 11 0)) (some m) (some po) (nI i) kc nc σ9) (D := fun σ9 => (kc ≤ 600128 ∧ nc ≤ 7301064) ∧ Q (0 : Int32) σ9) T (take_call S (xs (i + 1)) (xs (i + 2))) (fun Qy Q9 h hQ => y_X11_take T.1 h hQ) (fun σ9 hR Qx Q9 h hQ => x_X12_take hR h hQ) (fun r σ9 hk h => ?_) (fun σ9 Y9 X9 T9 S9 => nx _ _ _ _ _ _ T9 S9 (by omega) (by omega) (by omega))
  intro z1 d1
  obtain ⟨u1, b1⟩ := argI (j := 1) d1 (by omega : i + 1 < L) hL
  refine ⟨u1, fun w1 g1 => ?_⟩
  rw [b1] at g1
  subst g1
  intro z2 d2
  obtain ⟨u2, b2⟩ := argI (j := 2) d2 (by omega : i + 2 < L) hL
  refine ⟨u2, fun w2 g2 => ?_⟩
  rw [b2] at g2
  subst g2
  exact ⟨m, rfl, hk, ⟨by omega, by omega⟩, h⟩
theorem Lw_untake {G : Int32 → Sto → Prop} {C D : Sto → Prop} {B : Prop} (T : St n ad aa m adx po σ Y X) (S : Sim n K Y X) (hK : K + 0 < 1073741824) (hB : B) (g : ∀ k σ1, sK σ1 m = 12 → wp_X12_untake m σ1 (fun r σ2 => sK σ2 m = 12 ∧ (B ∧ wp_X12_thrown m σ2 (fun t σ3 => FinV C D (some po) k r t σ3))) → G k σ1) (c : ∀ σ1 Y1 X1, St n ad aa m adx po σ1 Y1 X1 → Sim n (K + 0) Y1 X1 → C σ1) : wp_L_untake (some (ad 11 0)) (some po) σ G :=
  ⟨ad 11 0, rfl, T.k11, callW (K2 := K + 0) (G := G) (C := C) (D := D) (B := B) (Cd := CdB) (wpX := fun σ9 Q9 => wp_X12_untake m σ9 Q9) T (untake_call S) hB (fun Qy Xy Q9 E9 h hQ hX => y_X11_untake T.1 h hQ hX) (fun σ9 hR Qx Q9 h hQ => x_X12_untake hR h hQ) g (fun e v σ9 hc hG => ⟨fun q => (by have := hc.1; omega), fun q => (by have := hc.2; subst this; exact hG), fun q => (by have := hc.1; omega)⟩) (fun e v hc q => (by rw [hc.2] at q; exact absurd q (by decide))) c⟩
theorem law_untake (T : St n ad aa m adx po σ Y X) (S : Sim n K Y X) (hK : K + 5000 < 1073741824) (hi : i + 5 ≤ L) (hL : L ≤ 322) (hkc : kc + 1 ≤ 600128) (hnc : nc + 6 ≤ 7301064) (nx : Nxt n ad aa m adx po K L xs R Q i kc nc) : b_L_law_1249 L xs R Q (some (ad 11 0)) (some m) (some po) (nI i) kc nc σ := by
  refine ⟨⟨hkc, hnc⟩, Lw_untake (B := (kc + 1) ≤ 600128 ∧ (nc + 6) ≤ 7301064) (C := fun σ9 => b_L_law_1369 L xs R Q (some (ad 11 0)) (some m) (some po) (nI i) (kc + 1) (nc + 6) σ9) (D := fun σ9 => ((kc + 1) ≤ 600128 ∧ (nc + 6) ≤ 7301064) ∧ Q (0 : Int32) σ9) T S (by omega) ⟨hkc, hnc⟩ (fun r σ9 hk h => ?_) (fun σ9 Y9 X9 T9 S9 => nx _ _ _ _ _ _ T9 S9 (by omega) (by omega) (by omega))⟩
  exact ⟨m, rfl, hk, ⟨hkc, hnc⟩, h⟩
theorem law_fault (T : St n ad aa m adx po σ Y X) (S : Sim n K Y X) (hK : K + 5000 < 1073741824) (hi : i + 5 ≤ L) (hL : L ≤ 322) (hkc : kc + 1 ≤ 600128) (hnc : nc + 6 ≤ 7301064) (nx : Nxt n ad aa m adx po K L xs R Q i kc nc) : b_L_law_1293 L xs R Q (some (ad 11 0)) (some m) (some po) (nI i) kc nc σ := by
  intro x1 e1
  obtain ⟨v1, c1⟩ := argI (j := 1) e1 (by omega : i + 1 < L) hL
  refine ⟨v1, fun y1 f1 => ?_⟩
  rw [c1] at f1
  subst f1
  refine ⟨ad 11 0, rfl, T.k11, ⟨by omega, by omega⟩, ?_⟩
  refine callP (K2 := K + 0) (wpX := fun σ9 Q9 => wp_X12_fault m (xs (i + 1)) σ9 Q9) (C := fun σ9 => b_L_law_1369 L xs R Q (some (ad 11 0)) (some m) (some po) (nI i) kc nc σ9) (D := fun σ9 => (kc ≤ 600128 ∧ nc ≤ 7301064) ∧ Q (0 : Int32) σ9) T (fault_call S (xs (i + 1))) (fun Qy Q9 h hQ => y_X11_fault T.1 h hQ) (fun σ9 hR Qx Q9 h hQ => x_X12_fault hR h hQ) (fun r σ9 hk h => ?_) (fun σ9 Y9 X9 T9 S9 => nx _ _ _ _ _ _ T9 S9 (by omega) (by omega) (by omega))
  intro z1 d1
  obtain ⟨u1, b1⟩ := argI (j := 1) d1 (by omega : i + 1 < L) hL
  refine ⟨u1, fun w1 g1 => ?_⟩
  rw [b1] at g1
  subst g1
  exact ⟨m, rfl, hk, ⟨by omega, by omega⟩, h⟩
theorem law_told (T : St n ad aa m adx po σ Y X) (S : Sim n K Y X) (hK : K + 5000 < 1073741824) (hi : i + 5 ≤ L) (hL : L ≤ 322) (hkc : kc + 1 ≤ 600128) (hnc : nc + 6 ≤ 7301064) (nx : Nxt n ad aa m adx po K L xs R Q i kc nc) : b_L_law_1318 L xs R Q (some (ad 11 0)) (some m) (some po) (nI i) kc nc σ := by
  intro x1 e1
  obtain ⟨v1, c1⟩ := argI (j := 1) e1 (by omega : i + 1 < L) hL
  refine ⟨v1, fun y1 f1 => ?_⟩
  rw [c1] at f1
  subst f1
  refine ⟨ad 11 0, rfl, T.k11, ⟨by omega, by omega⟩, ?_⟩
  refine callP (K2 := K + 0) (wpX := fun σ9 Q9 => wp_X12_told m (xs (i + 1)) σ9 Q9) (C := fun σ9 => b_L_law_1369 L xs R Q (some (ad 11 0)) (some m) (some po) (nI i) kc nc σ9) (D := fun σ9 => (kc ≤ 600128 ∧ nc ≤ 7301064) ∧ Q (0 : Int32) σ9) T (told_call S (xs (i + 1))) (fun Qy Q9 h hQ => y_X11_told T.1 h hQ) (fun σ9 hR Qx Q9 h hQ => x_X12_told hR h hQ) (fun r σ9 hk h => ?_) (fun σ9 Y9 X9 T9 S9 => nx _ _ _ _ _ _ T9 S9 (by omega) (by omega) (by omega))
  intro z1 d1
  obtain ⟨u1, b1⟩ := argI (j := 1) d1 (by omega : i + 1 < L) hL
  refine ⟨u1, fun w1 g1 => ?_⟩
  rw [b1] at g1
  subst g1
  exact ⟨m, rfl, hk, ⟨by omega, by omega⟩, h⟩
theorem law_tolds (T : St n ad aa m adx po σ Y X) (S : Sim n K Y X) (hK : K + 5000 < 1073741824) (hi : i + 5 ≤ L) (hL : L ≤ 322) (hkc : kc + 1 ≤ 600128) (hnc : nc + 6 ≤ 7301064) (nx : Nxt n ad aa m adx po K L xs R Q i kc nc) : b_L_law_1343 L xs R Q (some (ad 11 0)) (some m) (some po) (nI i) kc nc σ := by
  refine ⟨ad 11 0, rfl, T.k11, ⟨by omega, by omega⟩, ?_⟩
  refine callP (K2 := K + 0) (wpX := fun σ9 Q9 => wp_X12_tolds m σ9 Q9) (C := fun σ9 => b_L_law_1369 L xs R Q (some (ad 11 0)) (some m) (some po) (nI i) kc nc σ9) (D := fun σ9 => (kc ≤ 600128 ∧ nc ≤ 7301064) ∧ Q (0 : Int32) σ9) T (tolds_call S) (fun Qy Q9 h hQ => y_X11_tolds T.1 h hQ) (fun σ9 hR Qx Q9 h hQ => x_X12_tolds hR h hQ) (fun r σ9 hk h => ?_) (fun σ9 Y9 X9 T9 S9 => nx _ _ _ _ _ _ T9 S9 (by omega) (by omega) (by omega))
  exact ⟨m, rfl, hk, ⟨by omega, by omega⟩, h⟩
theorem law_broken (T : St n ad aa m adx po σ Y X) (S : Sim n K Y X) (hK : K + 5000 < 1073741824) (hi : i + 5 ≤ L) (hL : L ≤ 322) (hkc : kc + 1 ≤ 600128) (hnc : nc + 6 ≤ 7301064) (nx : Nxt n ad aa m adx po K L xs R Q i kc nc) : b_L_law_1356 L xs R Q (some (ad 11 0)) (some m) (some po) (nI i) kc nc σ := by
  refine ⟨ad 11 0, rfl, T.k11, ⟨by omega, by omega⟩, ?_⟩
  refine callP (K2 := K + 0) (wpX := fun σ9 Q9 => wp_X12_broken m σ9 Q9) (C := fun σ9 => b_L_law_1369 L xs R Q (some (ad 11 0)) (some m) (some po) (nI i) kc nc σ9) (D := fun σ9 => (kc ≤ 600128 ∧ nc ≤ 7301064) ∧ Q (0 : Int32) σ9) T (broken_call S) (fun Qy Q9 h hQ => y_X11_broken T.1 h hQ) (fun σ9 hR Qx Q9 h hQ => x_X12_broken hR h hQ) (fun r σ9 hk h => ?_) (fun σ9 Y9 X9 T9 S9 => nx _ _ _ _ _ _ T9 S9 (by omega) (by omega) (by omega))
  exact ⟨m, rfl, hk, ⟨by omega, by omega⟩, h⟩
end
