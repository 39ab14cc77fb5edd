/-! What neither the net nor the reference's scratch reaches -/
def OutY (Y Y2 : Yc) : Prop :=
  (∀ c o, (c < 300 ∨ 311 ≤ c) → ¬ (404 ≤ c ∧ c ≤ 408) → (c = 201 ∨ c = 202 → o < 56) → yI Y2 c o = yI Y c o) ∧ (∀ c o, c ≠ 304 → c ≠ 305 → yJ Y2 c o = yJ Y c o) ∧
  yA Y2 = yA Y ∧ yB Y2 = yB Y ∧ (∀ c o, c ≠ 307 → yP Y2 c o = yP Y c o) ∧ (∀ c o i, (c = 200 → o < 56) → yS Y2 c o i = yS Y c o i)
def OutX (X X2 : Xc) : Prop :=
  (∀ k, k ≠ 0 → k ≠ 4 → k ≠ 6 → k ≠ 7 → k ≠ 8 → k ≠ 14 → k ≠ 94 → k ≠ 97 → k ≠ 98 → X2.1 k = X.1 k) ∧ (∀ k, k ≠ 5 → ¬ (9 ≤ k ∧ k ≤ 13) → k ≠ 15 → ¬ (62 ≤ k ∧ k ≤ 64) → X2.2 k = X.2 k)
theorem OutY.rf {Y : Yc} : OutY Y Y := ⟨fun _ _ _ _ _ => rfl, fun _ _ _ _ => rfl, rfl, rfl, fun _ _ _ => rfl, fun _ _ _ _ => rfl⟩
theorem OutX.rf {X : Xc} : OutX X X := ⟨fun _ _ _ _ _ _ _ _ _ _ => rfl, fun _ _ _ _ _ => rfl⟩
theorem OutY.trans {Y Y2 Y3 : Yc} (h : OutY Y Y2) (g : OutY Y2 Y3) : OutY Y Y3 :=
  ⟨fun c o a b d => (g.1 c o a b d).trans (h.1 c o a b d), fun c o a b => (g.2.1 c o a b).trans (h.2.1 c o a b), g.2.2.1.trans h.2.2.1, g.2.2.2.1.trans h.2.2.2.1, fun c o a => (g.2.2.2.2.1 c o a).trans (h.2.2.2.2.1 c o a), fun c o i a => (g.2.2.2.2.2 c o i a).trans (h.2.2.2.2.2 c o i a)⟩
theorem OutX.trans {X X2 X3 : Xc} (h : OutX X X2) (g : OutX X2 X3) : OutX X X3 :=
  ⟨fun k a b c d e f i j l => (g.1 k a b c d e f i j l).trans (h.1 k a b c d e f i j l), fun k a b c d => (g.2 k a b c d).trans (h.2 k a b c d)⟩
def RpA (n K : Nat) (Y : Yc) (X : Xc) (r : Nat) : Prop := RpS n K Y X r ∧ LgS K Y X r ∧ HdS 8 K Y X r ∧ CtS Y X r ∧ ChS n K Y X r
def Pcs (n K : Nat) (Y : Yc) (X : Xc) : Prop :=
  (∀ r, r < n → RpA n K Y X r) ∧ (∀ c, c < 4 → ClS K Y X c) ∧ (∀ a, a < 200 → a < ln (X.1 81) → KpS K Y X a) ∧ ByS Y X 0 88 89 ∧ ByS Y X 1 90 91 ∧ RdS Y X
theorem Sim.mk {n K : Nat} {Y : Yc} {X : Xc} (a : ScS n K Y X) (b : Pcs n K Y X) (c : ArS n K Y X) : Sim n K Y X := ⟨a, b.1, b.2.1, b.2.2.1, c, b.2.2.2⟩
theorem Sim.sc {n K : Nat} {Y : Yc} {X : Xc} (h : Sim n K Y X) : ScS n K Y X := h.1
theorem Sim.pcs {n K : Nat} {Y : Yc} {X : Xc} (h : Sim n K Y X) : Pcs n K Y X := ⟨h.2.1, h.2.2.1, h.2.2.2.1, h.2.2.2.2.2⟩
theorem Sim.ar {n K : Nat} {Y : Yc} {X : Xc} (h : Sim n K Y X) : ArS n K Y X := h.2.2.2.2.1
section
variable {n K : Nat} {Y Y2 : Yc} {X X2 : Xc}
theorem out_xE (hX : OutX X X2) (e : Nat) : xE X2 e = xE X e := by
  simp [xE, hX.2]
theorem out_xT (hX : OutX X X2) (e : Nat) : xT X2 e = xT X e := by
  simp [xT, hX.2]
theorem out_xH (hX : OutX X X2) (e : Nat) : xH X2 e = xH X e := by
  simp [xH, hX.2]
theorem out_Rp (hY : OutY Y Y2) (hX : OutX X X2) {r : Nat} (h : RpS n K Y X r) : RpS n K Y2 X2 r := by
  unfold RpS at *
  simpa [hY.1, hY.2.1, hX.2] using h
theorem out_Lg (hY : OutY Y Y2) (hX : OutX X X2) {r : Nat} (hr : r < 56) (h : LgS K Y X r) : LgS K Y2 X2 r := by
  unfold LgS at *
  simpa [hY.1, hY.2.2.2.2.2, hX.2, out_xE hX, hr] using h
theorem out_Hd (hY : OutY Y Y2) (hX : OutX X X2) {H r : Nat} (h : HdS H K Y X r) : HdS H K Y2 X2 r := by
  unfold HdS at *
  simpa [hY.1, hY.2.2.2.2.2, hY.2.2.1, hX.2, out_xH hX] using h
theorem out_Ct (hY : OutY Y Y2) (hX : OutX X X2) {r : Nat} (h : CtS Y X r) : CtS Y2 X2 r := by
  unfold CtS at *
  simpa [hY.1, hX.2] using h
theorem out_Td (hY : OutY Y Y2) (hX : OutX X X2) {r q : Nat} (hr : 7 + 7 * r + q < 56) (h : TdS K Y X r q) : TdS K Y2 X2 r q := by
  unfold TdS at *
  simpa [hY.1, hY.2.2.2.1, hY.2.2.2.2.2, hX.2, out_xT hX, hr] using h
theorem out_Ch (hY : OutY Y Y2) (hX : OutX X X2) {r : Nat} (hn : n ≤ 7) (hr : r < n) (h : ChS n K Y X r) : ChS n K Y2 X2 r := by
  unfold ChS at *
  intro h2
  have e : ∀ k, k ≠ 5 → ¬ (9 ≤ k ∧ k ≤ 13) → k ≠ 15 → ¬ (62 ≤ k ∧ k ≤ 64) → X2.2 k = X.2 k := hX.2
  rw [e 23 (by omega) (by omega) (by omega) (by omega)] at h2
  obtain ⟨h3, h4, h5, h6, h7, h8, h9, h10, h11⟩ := h h2
  rw [e 36 (by omega) (by omega) (by omega) (by omega), e 43 (by omega) (by omega) (by omega) (by omega), e 44 (by omega) (by omega) (by omega) (by omega), e 45 (by omega) (by omega) (by omega) (by omega), e 29 (by omega) (by omega) (by omega) (by omega), e 46 (by omega) (by omega) (by omega) (by omega), hY.1 506 r (by omega) (by omega) (by omega)]
  exact ⟨h3, h4, h5, h6, h7, h8, h9, h10, fun q hq hb => out_Td hY hX (by omega) (h11 q hq hb)⟩
theorem out_Pl (hY : OutY Y Y2) (hX : OutX X X2) {o e : Nat} (h : PlS K Y X o e) : PlS K Y2 X2 o e := by
  unfold PlS at *
  simpa [hY.1, hY.2.1, hX.2] using h
theorem out_Cl (hY : OutY Y Y2) (hX : OutX X X2) {c : Nat} (h : ClS K Y X c) : ClS K Y2 X2 c := by
  have e : ∀ k, k ≠ 5 → ¬ (9 ≤ k ∧ k ≤ 13) → k ≠ 15 → ¬ (62 ≤ k ∧ k ≤ 64) → X2.2 k = X.2 k := hX.2
  have ep : ∀ o e, PlS K Y2 X2 o e = PlS K Y X o e := fun o e => by unfold PlS; simp [hY.1, hY.2.1, hX.2]
  unfold ClS at *
  simpa [hY.1, hY.2.1, hY.2.2.2.2.1, hX.2, ep] using h
theorem out_Kp (hY : OutY Y Y2) (hX : OutX X X2) {a : Nat} (h : KpS K Y X a) : KpS K Y2 X2 a := by
  unfold KpS at *
  simpa [hY.1, hY.2.1, hY.2.2.2.2.1, hX.2] using h
theorem out_By (hY : OutY Y Y2) (hX : OutX X X2) {o a c : Nat} (ha : X2.2 a = X.2 a) (hc : X2.1 c = X.1 c) (h : ByS Y X o a c) : ByS Y2 X2 o a c := by
  unfold ByS at *
  simpa [hY.1, hY.2.2.1, ha, hc] using h
theorem out_Rd (hY : OutY Y Y2) (hX : OutX X X2) (h : RdS Y X) : RdS Y2 X2 := by
  unfold RdS B01 at *
  simpa [hY.1, hY.2.2.1, hX.1, hX.2] using h
theorem out_RpA (hY : OutY Y Y2) (hX : OutX X X2) {r : Nat} (hn : n ≤ 7) (hr : r < n) (h : RpA n K Y X r) : RpA n K Y2 X2 r :=
  ⟨out_Rp hY hX h.1, out_Lg hY hX (by omega) h.2.1, out_Hd hY hX h.2.2.1, out_Ct hY hX h.2.2.2.1, out_Ch hY hX hn hr h.2.2.2.2⟩
theorem out_Pcs (hY : OutY Y Y2) (hX : OutX X X2) (hn : n ≤ 7) (h : Pcs n K Y X) : Pcs n K Y2 X2 := by
  refine ⟨fun r hr => out_RpA hY hX hn hr (h.1 r hr), fun c hc => out_Cl hY hX (h.2.1 c hc), fun a h1 h2 => ?_, out_By hY hX (hX.2 88 (by omega) (by omega) (by omega) (by omega)) (hX.1 89 (by omega) (by omega) (by omega) (by omega) (by omega) (by omega) (by omega) (by omega) (by omega)) h.2.2.2.1, out_By hY hX (hX.2 90 (by omega) (by omega) (by omega) (by omega)) (hX.1 91 (by omega) (by omega) (by omega) (by omega) (by omega) (by omega) (by omega) (by omega) (by omega)) h.2.2.2.2.1, out_Rd hY hX h.2.2.2.2.2⟩
  rw [hX.1 81 (by omega) (by omega) (by omega) (by omega) (by omega) (by omega) (by omega) (by omega) (by omega)] at h2
  exact out_Kp hY hX (h.2.2.1 a h1 h2)
end
theorem ScS.n7 {n K : Nat} {Y : Yc} {X : Xc} (h : ScS n K Y X) : n ≤ 7 := by have := h.1; omega
theorem ScS.n3 {n K : Nat} {Y : Yc} {X : Xc} (h : ScS n K Y X) : 3 ≤ n := by have := h.1; omega
