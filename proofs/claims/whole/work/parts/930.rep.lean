/-! One replica changes -/
def EqY (r : Nat) (Y Y2 : Yc) : Prop :=
  (∀ c, (500 ≤ c ∧ c < 600) ∨ (800 ≤ c ∧ c < 900) → yI Y2 c r = yI Y c r) ∧ (∀ c, 800 ≤ c ∧ c < 900 → yJ Y2 c r = yJ Y c r) ∧
  (∀ c o, c = 201 ∨ c = 202 → o = r ∨ (7 + 7 * r ≤ o ∧ o < 14 + 7 * r) → yI Y2 c o = yI Y c o) ∧ yA Y2 500 r = yA Y 500 r ∧ yS Y2 501 r = yS Y 501 r ∧
  (∀ o, o = r ∨ (7 + 7 * r ≤ o ∧ o < 14 + 7 * r) → yS Y2 200 o = yS Y 200 o) ∧ yB Y2 r = yB Y r
def EqX (r : Nat) (X X2 : Xc) : Prop :=
  (∀ k, (20 ≤ k ∧ k ≤ 29) ∨ k = 36 ∨ (43 ≤ k ∧ k ≤ 46) ∨ (57 ≤ k ∧ k ≤ 61) → X2.2 k r = X.2 k r) ∧
  (∀ k s, 30 ≤ k ∧ k ≤ 35 → s < 100 → X2.2 k (100 * r + s) = X.2 k (100 * r + s)) ∧ (∀ k i, 37 ≤ k ∧ k ≤ 42 → i < 16 → X2.2 k (16 * r + i) = X.2 k (16 * r + i)) ∧
  (∀ k q, 47 ≤ k ∧ k ≤ 50 → q < 7 → X2.2 k (7 * r + q) = X.2 k (7 * r + q)) ∧ (∀ k q s, 51 ≤ k ∧ k ≤ 56 → q < 7 → s < 100 → X2.2 k (100 * (7 * r + q) + s) = X.2 k (100 * (7 * r + q) + s))
section
variable {n K : Nat} {Y Y2 : Yc} {X X2 : Xc} {r : Nat}
theorem eq_xE (hX : EqX r X X2) {s : Nat} (hs : s < 100) : xE X2 (100 * r + s) = xE X (100 * r + s) := by
  unfold xE
  rw [hX.2.1 30 s (by omega) hs, hX.2.1 31 s (by omega) hs, hX.2.1 32 s (by omega) hs, hX.2.1 33 s (by omega) hs, hX.2.1 34 s (by omega) hs, hX.2.1 35 s (by omega) hs]
theorem eq_xT (hX : EqX r X X2) {q s : Nat} (hq : q < 7) (hs : s < 100) : xT X2 (100 * (7 * r + q) + s) = xT X (100 * (7 * r + q) + s) := by
  unfold xT
  rw [hX.2.2.2.2 51 q s (by omega) hq hs, hX.2.2.2.2 52 q s (by omega) hq hs, hX.2.2.2.2 53 q s (by omega) hq hs, hX.2.2.2.2 54 q s (by omega) hq hs, hX.2.2.2.2 55 q s (by omega) hq hs, hX.2.2.2.2 56 q s (by omega) hq hs]
theorem eq_xH (hX : EqX r X X2) {i : Nat} (hi : i < 16) : xH X2 (16 * r + i) = xH X (16 * r + i) := by
  unfold xH
  rw [hX.2.2.1 38 i (by omega) hi, hX.2.2.1 39 i (by omega) hi, hX.2.2.1 40 i (by omega) hi, hX.2.2.1 41 i (by omega) hi, hX.2.2.1 42 i (by omega) hi]
theorem eq_Rp (hY : EqY r Y Y2) (hX : EqX r X X2) (h : RpS n K Y X r) : RpS n K Y2 X2 r := by
  unfold RpS at *
  rw [hY.1 800 (by omega), hY.1 803 (by omega), hY.1 804 (by omega), hY.1 808 (by omega), hY.1 809 (by omega), hY.1 811 (by omega), hY.1 812 (by omega), hY.1 813 (by omega), hY.1 814 (by omega), hY.1 815 (by omega), hY.2.1 805 (by omega), hY.2.1 806 (by omega),
    hX.1 20 (by omega), hX.1 21 (by omega), hX.1 22 (by omega), hX.1 23 (by omega), hX.1 24 (by omega), hX.1 25 (by omega), hX.1 28 (by omega), hX.1 29 (by omega), hX.1 57 (by omega), hX.1 58 (by omega), hX.1 59 (by omega), hX.1 60 (by omega), hX.1 61 (by omega)]
  exact h
theorem eq_Lg (hY : EqY r Y Y2) (hX : EqX r X X2) (h : LgS K Y X r) : LgS K Y2 X2 r := by
  have hl := (h.l100.ln (by omega)).1
  unfold LgS at *
  rw [hY.2.2.1 201 r (by omega) (by omega), hY.2.2.1 202 r (by omega) (by omega), hX.1 26 (by omega), hX.1 27 (by omega), hY.2.2.2.2.2.1 r (by omega)]
  exact ⟨h.1, h.2.1, h.2.2.1, h.2.2.2.1, fun s hs => by rw [eq_xE hX (by omega)]; exact h.2.2.2.2 s hs⟩
theorem eq_Hd (hY : EqY r Y Y2) (hX : EqX r X X2) {H : Nat} (hH : H ≤ 9) (h : HdS H K Y X r) : HdS H K Y2 X2 r := by
  have hl := (h.sm.ln (by omega)).1
  unfold HdS at *
  rw [hY.1 502 (by omega), hX.1 36 (by omega), hY.2.2.2.1, hY.2.2.2.2.1]
  exact ⟨h.1, h.2.1, fun i hi => by rw [eq_xH hX (by omega), hX.2.2.1 37 i (by omega) (by omega)]; exact h.2.2 i hi⟩
theorem eq_Ct (hY : EqY r Y Y2) (hX : EqX r X X2) (h : CtS Y X r) : CtS Y2 X2 r := by
  unfold CtS at *
  rw [hY.1 503 (by omega), hY.1 504 (by omega), hY.1 505 (by omega), hX.1 43 (by omega), hX.1 44 (by omega), hX.1 45 (by omega)]
  exact h
theorem eq_Td (hY : EqY r Y Y2) (hX : EqX r X X2) {q : Nat} (hq : q < 7) (h : TdS K Y X r q) : TdS K Y2 X2 r q := by
  have hl := (h.2.2.2.2.2.1.ln (by omega)).1
  unfold TdS at *
  rw [hY.2.2.2.2.2.2, hX.2.2.2.1 47 q (by omega) hq, hX.2.2.2.1 48 q (by omega) hq, hX.2.2.2.1 49 q (by omega) hq, hX.2.2.2.1 50 q (by omega) hq, hY.2.2.1 201 (7 + 7 * r + q) (by omega) (by omega), hY.2.2.1 202 (7 + 7 * r + q) (by omega) (by omega), hY.2.2.2.2.2.1 (7 + 7 * r + q) (by omega)]
  exact ⟨h.1, h.2.1, h.2.2.1, h.2.2.2.1, h.2.2.2.2.1, h.2.2.2.2.2.1, h.2.2.2.2.2.2.1, fun s hs => by rw [eq_xT hX hq (by omega)]; exact h.2.2.2.2.2.2.2 s hs⟩
theorem eq_Ch (hY : EqY r Y Y2) (hX : EqX r X X2) (hn : n ≤ 7) (h : ChS n K Y X r) : ChS n K Y2 X2 r := by
  unfold ChS at *
  rw [hX.1 23 (by omega), hX.1 36 (by omega), hX.1 43 (by omega), hX.1 44 (by omega), hX.1 45 (by omega), hX.1 29 (by omega), hX.1 46 (by omega), hY.1 506 (by omega)]
  intro h2
  obtain ⟨h3, h4, h5, h6, h7, h8, h9, h10, h11⟩ := h h2
  exact ⟨h3, h4, h5, h6, h7, h8, h9, h10, fun q hq hb => eq_Td hY hX (by omega) (h11 q hq hb)⟩
theorem eq_RpA (hY : EqY r Y Y2) (hX : EqX r X X2) (hn : n ≤ 7) (h : RpA n K Y X r) : RpA n K Y2 X2 r :=
  ⟨eq_Rp hY hX h.1, eq_Lg hY hX h.2.1, eq_Hd hY hX (by omega) h.2.2.1, eq_Ct hY hX h.2.2.2.1, eq_Ch hY hX hn h.2.2.2.2⟩
/-- clients, what is remembered, bytes: not of the replicas -/
def CoY (Y Y2 : Yc) : Prop := (∀ c o, c < 200 ∨ (600 ≤ c ∧ c < 800) → yI Y2 c o = yI Y c o) ∧ (∀ c o, 600 ≤ c ∧ c < 700 → yJ Y2 c o = yJ Y c o) ∧ (∀ c o i, c = 0 ∨ c = 701 → yA Y2 c o i = yA Y c o i) ∧ (∀ c o, c = 100 ∨ c = 600 → yP Y2 c o = yP Y c o)
def CoX (X X2 : Xc) : Prop := (∀ k, k = 81 ∨ k = 89 ∨ k = 91 ∨ k = 93 ∨ k = 95 ∨ k = 96 → X2.1 k = X.1 k) ∧ (∀ k i, 65 ≤ k ∧ k ≤ 92 → X2.2 k i = X.2 k i)
theorem co_Cl (hY : CoY Y Y2) (hX : CoX X X2) {c : Nat} (h : ClS K Y X c) : ClS K Y2 X2 c := by
  have ep : ∀ o e, PlS K Y2 X2 o e = PlS K Y X o e := fun o e => by unfold PlS; simp [hY.1, hY.2.1, hX.2]
  unfold ClS at *
  simpa [hY.1, hY.2.1, hY.2.2.2, hX.2, ep] using h
theorem co_Kp (hY : CoY Y Y2) (hX : CoX X X2) {a : Nat} (h : KpS K Y X a) : KpS K Y2 X2 a := by
  unfold KpS at *
  simpa [hY.1, hY.2.1, hY.2.2.2, hX.2] using h
theorem co_By (hY : CoY Y Y2) (hX : CoX X X2) {o a c : Nat} (ha : 65 ≤ a ∧ a ≤ 92) (hc : c = 89 ∨ c = 91) (h : ByS Y X o a c) : ByS Y2 X2 o a c := by
  have e : ∀ i, X2.2 a i = X.2 a i := fun i => hX.2 a i ha
  have e2 : X2.1 c = X.1 c := hX.1 c (by omega)
  unfold ByS at *
  simpa [hY.1, hY.2.2.1, e, e2] using h
theorem co_Rd (hY : CoY Y Y2) (hX : CoX X X2) (hb : B01 X2) (h : RdS Y X) : RdS Y2 X2 := by
  refine ⟨hb, ?_⟩
  have h := h.2
  simpa [hY.1, hY.2.2.1, hX.1, hX.2] using h
/-- the air stands -/
def AeY (Y Y2 : Yc) : Prop := yI Y2 405 0 = yI Y 405 0 ∧ yI Y2 404 0 = yI Y 404 0 ∧ yR Y2 = yR Y ∧ ∀ i, MEq Y Y2 i
def AeX (X X2 : Xc) : Prop := X2.1 6 = X.1 6 ∧ ∀ k i, k = 5 ∨ (9 ≤ k ∧ k ≤ 12) → X2.2 k i = X.2 k i
theorem ae_Ar (hY : AeY Y Y2) (hX : AeX X X2) (h : ArS n K Y X) : ArS n K Y2 X2 := by
  obtain ⟨cnt, od, hc, ho, e5, x6, e4, hr, hri, f, hf, hfi, hfb⟩ := h
  refine ⟨cnt, od, hc, ho, hY.1.trans e5, hX.1.trans x6, hY.2.1.trans e4, by rw [hY.2.2.1]; exact hr, by rw [hY.2.2.1]; exact hri, f, fun k hk => ?_, hfi, fun m hm hb => hfb m hm (by rw [← hX.2 9 m (by omega)]; exact hb)⟩
  obtain ⟨g1, g2, g3, m1, m2, m3, m4⟩ := hf k hk
  rw [hY.2.2.1]
  have hm := hY.2.2.2 (yR Y ((od + k) % 256))
  refine ⟨g1, (hX.2 5 k (by omega)).trans g2, (hX.2 9 _ (by omega)).trans g3, by rw [hm.1 300 (by omega) (by omega), hX.2 12 _ (by omega)]; exact m1, by rw [hm.enc, hX.2 11 _ (by omega)]; exact m2, by rw [hm.enc]; intro j hj; rw [hX.2 10 _ (by omega)]; exact m3 j hj, hm.ok m4⟩
/-- numbers that all share -/
def ScY (Y Y2 : Yc) : Prop := ∀ c, c = 400 ∨ c = 401 ∨ c = 406 ∨ c = 407 ∨ c = 408 ∨ c = 1100 ∨ (1105 ≤ c ∧ c ≤ 1110) → yI Y2 c 0 = yI Y c 0
def ScX (X X2 : Xc) : Prop := ∀ k, k = 1 ∨ k = 2 ∨ k = 3 ∨ k = 4 ∨ k = 7 ∨ k = 8 ∨ (16 ≤ k ∧ k ≤ 19) ∨ k = 81 → X2.1 k = X.1 k
theorem sc_Sc (hY : ScY Y Y2) (hX : ScX X X2) (h : ScS n K Y X) : ScS n K Y2 X2 := by
  unfold ScS at *
  rw [hY 400 (by omega), hY 401 (by omega), hY 406 (by omega), hY 407 (by omega), hY 408 (by omega), hY 1100 (by omega), hY 1105 (by omega), hY 1106 (by omega), hY 1107 (by omega), hY 1108 (by omega), hY 1110 (by omega), hX 1 (by omega), hX 2 (by omega), hX 3 (by omega), hX 4 (by omega), hX 7 (by omega), hX 8 (by omega), hX 16 (by omega), hX 17 (by omega), hX 18 (by omega), hX 19 (by omega), hX 81 (by omega)]
  exact h
/-- replica r's own cells, and the tables -/
def RgY (r : Nat) (Y Y2 : Yc) : Prop :=
  (∀ c o, ¬ (500 ≤ c ∧ c < 600 ∧ o = r) → ¬ (800 ≤ c ∧ c < 900 ∧ o = r) → ¬ ((c = 201 ∨ c = 202) ∧ (o = r ∨ (7 + 7 * r ≤ o ∧ o < 14 + 7 * r))) → yI Y2 c o = yI Y c o) ∧
  (∀ c o, ¬ (800 ≤ c ∧ c < 900 ∧ o = r) → yJ Y2 c o = yJ Y c o) ∧ (∀ c o i, ¬ (c = 500 ∧ o = r) → ¬ (1000 ≤ c ∧ c < 1010) → yA Y2 c o i = yA Y c o i) ∧
  (∀ o i, o ≠ r → yB Y2 o i = yB Y o i) ∧ yP Y2 = yP Y ∧ yR Y2 = yR Y ∧
  (∀ c o i, ¬ (c = 501 ∧ o = r) → ¬ (c = 200 ∧ (o = r ∨ (7 + 7 * r ≤ o ∧ o < 14 + 7 * r))) → yS Y2 c o i = yS Y c o i)
def RgX (r : Nat) (X X2 : Xc) : Prop :=
  (∀ k, k ≠ 14 → k ≠ 14 → k ≠ 97 → k ≠ 98 → X2.1 k = X.1 k) ∧
  (∀ k i, k ≠ 13 → ¬ (62 ≤ k ∧ k ≤ 64) → ¬ (((20 ≤ k ∧ k ≤ 29) ∨ k = 36 ∨ (43 ≤ k ∧ k ≤ 46) ∨ (57 ≤ k ∧ k ≤ 61)) ∧ i = r) → ¬ ((30 ≤ k ∧ k ≤ 35) ∧ 100 * r ≤ i ∧ i < 100 * r + 100) → ¬ ((37 ≤ k ∧ k ≤ 42) ∧ 16 * r ≤ i ∧ i < 16 * r + 16) → ¬ ((47 ≤ k ∧ k ≤ 50) ∧ 7 * r ≤ i ∧ i < 7 * r + 7) → ¬ ((51 ≤ k ∧ k ≤ 56) ∧ 700 * r ≤ i ∧ i < 700 * r + 700) → X2.2 k i = X.2 k i) ∧ (B01 X → B01 X2)
theorem RgY.rf : RgY r Y Y := ⟨fun _ _ _ _ _ => rfl, fun _ _ _ => rfl, fun _ _ _ _ _ => rfl, fun _ _ _ => rfl, rfl, rfl, fun _ _ _ _ _ => rfl⟩
theorem RgX.rf : RgX r X X := ⟨fun _ _ _ _ _ => rfl, fun _ _ _ _ _ _ _ _ _ => rfl, fun h => h⟩
theorem RgY.trans {Y3 : Yc} (h : RgY r Y Y2) (g : RgY r Y2 Y3) : RgY r Y Y3 :=
  ⟨fun c o a b d => (g.1 c o a b d).trans (h.1 c o a b d), fun c o a => (g.2.1 c o a).trans (h.2.1 c o a), fun c o i a b => (g.2.2.1 c o i a b).trans (h.2.2.1 c o i a b), fun o i a => (g.2.2.2.1 o i a).trans (h.2.2.2.1 o i a), g.2.2.2.2.1.trans h.2.2.2.2.1, g.2.2.2.2.2.1.trans h.2.2.2.2.2.1, fun c o i a b => (g.2.2.2.2.2.2 c o i a b).trans (h.2.2.2.2.2.2 c o i a b)⟩
theorem RgX.trans {X3 : Xc} (h : RgX r X X2) (g : RgX r X2 X3) : RgX r X X3 :=
  ⟨fun k a b c d => (g.1 k a b c d).trans (h.1 k a b c d), fun k i a b c d e f g' => (g.2.1 k i a b c d e f g').trans (h.2.1 k i a b c d e f g'), fun q => g.2.2 (h.2.2 q)⟩
theorem RgY.meq (h : RgY r Y Y2) (hr : r < 7) (i : Nat) : MEq Y Y2 i :=
  ⟨fun c h1 h2 => h.1 c i (by omega) (by omega) (by omega), h.2.1 304 i (by omega), h.2.1 305 i (by omega), congrFun (congrFun h.2.2.2.2.1 307) i, h.1 201 (56 + i) (by omega) (by omega) (by omega), h.1 202 (56 + i) (by omega) (by omega) (by omega), by funext s; exact h.2.2.2.2.2.2 200 (56 + i) s (by omega) (by omega)⟩
theorem sim_rep (S : Sim n K Y X) (hr : r < n) (hY : RgY r Y Y2) (hX : RgX r X X2) (h : RpA n K Y2 X2 r) : Sim n K Y2 X2 := by
  have hn := S.sc.n7
  have cY : CoY Y Y2 := ⟨fun c o h => hY.1 c o (by omega) (by omega) (by omega), fun c o h => hY.2.1 c o (by omega), fun c o i h => hY.2.2.1 c o i (by omega) (by omega), fun c o h => by rw [hY.2.2.2.2.1]⟩
  have cX : CoX X X2 := ⟨fun k h => hX.1 k (by omega) (by omega) (by omega) (by omega), fun k i h => hX.2.1 k i (by omega) (by omega) (by omega) (by omega) (by omega) (by omega) (by omega)⟩
  refine Sim.mk (sc_Sc (fun c h => hY.1 c 0 (by omega) (by omega) (by omega)) (fun k h => hX.1 k (by omega) (by omega) (by omega) (by omega)) S.sc) ⟨fun r' hr' => ?_, fun c hc => co_Cl cY cX (S.pcs.2.1 c hc), fun a h1 h2 => ?_, co_By cY cX (by omega) (by omega) S.pcs.2.2.2.1, co_By cY cX (by omega) (by omega) S.pcs.2.2.2.2.1, co_Rd cY cX (hX.2.2 S.pcs.2.2.2.2.2.1) S.pcs.2.2.2.2.2⟩ (ae_Ar ⟨hY.1 405 0 (by omega) (by omega) (by omega), hY.1 404 0 (by omega) (by omega) (by omega), hY.2.2.2.2.2.1, hY.meq (by omega)⟩ ⟨hX.1 6 (by omega) (by omega) (by omega) (by omega), fun k i h => hX.2.1 k i (by omega) (by omega) (by omega) (by omega) (by omega) (by omega) (by omega)⟩ S.ar)
  · by_cases e : r' = r
    · subst e; exact h
    · refine eq_RpA ⟨fun c h => hY.1 c r' (by omega) (by omega) (by omega), fun c h => hY.2.1 c r' (by omega), fun c o h1 h2 => hY.1 c o (by omega) (by omega) (by omega), by funext i; exact hY.2.2.1 500 r' i (by omega) (by omega), by funext i; exact hY.2.2.2.2.2.2 501 r' i (by omega) (by omega), fun o h => by funext i; exact hY.2.2.2.2.2.2 200 o i (by omega) (by omega), by funext i; exact hY.2.2.2.1 r' i e⟩ ⟨fun k h => hX.2.1 k r' (by omega) (by omega) (by omega) (by omega) (by omega) (by omega) (by omega), fun k s h1 h2 => hX.2.1 k _ (by omega) (by omega) (by omega) (by omega) (by omega) (by omega) (by omega), fun k i h1 h2 => hX.2.1 k _ (by omega) (by omega) (by omega) (by omega) (by omega) (by omega) (by omega), fun k q h1 h2 => hX.2.1 k _ (by omega) (by omega) (by omega) (by omega) (by omega) (by omega) (by omega), fun k q s h1 h2 h3 => hX.2.1 k _ (by omega) (by omega) (by omega) (by omega) (by omega) (by omega) (by omega)⟩ hn (S.pcs.1 r' hr')
  · rw [hX.1 81 (by omega) (by omega) (by omega) (by omega)] at h2
    exact co_Kp cY cX (S.pcs.2.2.1 a h1 h2)
theorem RgY.han (h : RgY r Y Y2) (hx : RgX r X X2) (hr : r < 7) {i : Nat} {l : List Int32} (g : Han n K Y X i l) : Han n K Y2 X2 i l := by
  obtain ⟨g1, g2, g3, g4, g5⟩ := g
  have hm := h.meq hr i
  refine ⟨by rw [h.2.2.2.2.2.1, h.1 404 0 (by omega) (by omega) (by omega)]; exact g1, by rw [hm.enc]; exact g2, hm.ok g3, ?_, g5⟩
  intro j hj
  rw [hx.2.1 15 _ (by omega) (by omega) (by omega) (by omega) (by omega) (by omega) (by omega)]
  exact g4 j hj
end
