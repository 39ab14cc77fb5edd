section
variable {n K : Nat} {Y Y2 : Yc} {X X2 : Xc} {c : Nat}
set_option maxRecDepth 100000 in
theorem bS_dec : ∀ a : Fin 128, ∃ z : Fin 8, bS (nI a.1) 7 = nI z.1 := by decide
theorem bS_le (a : Fin 128) : ∃ z, z ≤ 7 ∧ bS (nI a.1) 7 = nI z := by
  obtain ⟨z, hz⟩ := bS_dec a
  exact ⟨z.1, by omega, hz⟩
/-- a place told by one more -/
theorem told_sim (S : Sim n K Y X) (hc : c < 4) {f i cnt : Nat} (hf : f < 64) (h106 : yI Y 106 c = nI f) (h75 : X.2 75 c = nI cnt) (hi : i < cnt) (hcnt : cnt ≤ 64) {a v : Int32} (ha : Sm 127 a) :
    Sim n K (uI (uI Y 603 (plY c f i) a) 604 (plY c f i) v) (xA (xA X 79 (64 * c + i) a) 80 (64 * c + i) v) ∧ CgY c Y (uI (uI Y 603 (plY c f i) a) 604 (plY c f i) v) ∧ CgX c X (xA (xA X 79 (64 * c + i) a) 80 (64 * c + i) v) := by
  have hpo : plY c f i = 4 + 64 * c + (f + i) % 64 := rfl
  have gY : CgY c Y (uI (uI Y 603 (plY c f i) a) 604 (plY c f i) v) := (CgY.rf.wI (by omega) _).wI (by omega) _
  have gX : CgX c X (xA (xA X 79 (64 * c + i) a) 80 (64 * c + i) v) := (CgX.rf.wA (by omega) _).wA (by omega) _
  refine ⟨sim_cli S hc gY gX ?_, gY, gX⟩
  obtain ⟨a1, a2, a3, a4, a5, a6, a7, a8, a9, a10, a11, f', hf', hf2, hf3⟩ := S.cl hc
  have ef : f' = f := (nI_eq (by omega) (by omega)).mp (hf2.symm.trans h106)
  subst ef
  have hln : ln (nI cnt) = cnt := nI_clamp (by omega)
  have uk : ∀ k, yI (uI (uI Y 603 (plY c f' i) a) 604 (plY c f' i) v) k c = yI Y k c := fun k => by rw [yII, if_neg (by omega), yII, if_neg (by omega)]
  have wk : ∀ k, k < 79 → (xA (xA X 79 (64 * c + i) a) 80 (64 * c + i) v).2 k c = X.2 k c := fun k h => by rw [xAA, if_neg (by omega), xAA, if_neg (by omega)]
  unfold ClS
  rw [uk 101, uk 102, uk 103, uk 602, uk 604, uk 107, uk 106, wk 65 (by omega), wk 66 (by omega), wk 67 (by omega), wk 68 (by omega), wk 69 (by omega), wk 70 (by omega), wk 71 (by omega), wk 72 (by omega), wk 73 (by omega), wk 74 (by omega), wk 75 (by omega)]
  refine ⟨a1, a2, a3, a4, a5, a6, a7, a8, a9, a10, a11, f', hf', hf2, fun j hj => ?_⟩
  obtain ⟨⟨p1, p2, p3, p4, p5, p6, p7, p8⟩, q⟩ := hf3 j hj
  rw [h75, hln] at hj
  refine ⟨?_, q⟩
  by_cases e : j = i
  · subst e
    have hpp : 4 + 64 * c + (f' + j) % 64 = plY c f' j := rfl
    rw [hpp] at p1 p2 p3 p4 ⊢
    refine ⟨p1, ?_, ?_, ?_, p5, p6, ?_, p8⟩
    · rw [yII, if_neg (by omega), yII, if_neg (by omega)]; exact p2
    · rw [yII, if_neg (by omega), yII, if_pos ⟨rfl, rfl⟩, xAA, if_neg (by omega), xAA, if_pos ⟨rfl, rfl⟩]
    · rw [yII, if_pos ⟨rfl, rfl⟩, xAA, if_pos ⟨rfl, rfl⟩]
    · rw [xAA, if_neg (by omega), xAA, if_pos ⟨rfl, rfl⟩]; exact ha
  · have hne : 4 + 64 * c + (f' + j) % 64 ≠ plY c f' i := by rw [hpo]; omega
    have u : ∀ k, yI (uI (uI Y 603 (plY c f' i) a) 604 (plY c f' i) v) k (4 + 64 * c + (f' + j) % 64) = yI Y k (4 + 64 * c + (f' + j) % 64) := fun k => by rw [yII, if_neg (fun z => hne z.2), yII, if_neg (fun z => hne z.2)]
    have w : ∀ k, (xA (xA X 79 (64 * c + i) a) 80 (64 * c + i) v).2 k (64 * c + j) = X.2 k (64 * c + j) := fun k => by rw [xAA, if_neg (by omega), xAA, if_neg (by omega)]
    unfold PlS
    rw [u 602, u 603, u 604, w 76, w 77, w 78, w 79, w 80]
    exact ⟨p1, p2, p3, p4, p5, p6, p7, p8⟩
/-- a place becomes another -/
def yBp (Y : Yc) (o p : Nat) : Yc := uI (uI (uI (uJ (uP Y 600 o (yP Y 600 p)) 601 o (yJ Y 601 p)) 602 o (yI Y 602 p)) 603 o (yI Y 603 p)) 604 o (yI Y 604 p)
theorem y_bp {o p : Nat} (h : o ≠ p) (Q : Yc → Prop) (hQ : Q (yBp Y o p)) : wy_X6_become n o p Y Q := by
  unfold wy_X6_become
  intro q3 e3 y10 e10 x13 e13 x16 e16 x19 e19
  subst e3
  have e10 : y10 = yJ Y 601 p := e10
  subst e10
  have e13 : x13 = yI Y 602 p := e13
  subst e13
  have e16 : x16 = yI Y 603 p := by rw [e16, yII, if_neg (by omega)]; rfl
  subst e16
  have e19 : x19 = yI Y 604 p := by rw [e19, yII, if_neg (by omega), yII, if_neg (by omega)]; rfl
  subst e19
  exact hQ
theorem yBp_v {o p : Nat} : yP (yBp Y o p) 600 o = yP Y 600 p ∧ yJ (yBp Y o p) 601 o = yJ Y 601 p ∧ yI (yBp Y o p) 602 o = yI Y 602 p ∧ yI (yBp Y o p) 604 o = yI Y 604 p := by
  unfold yBp
  simp [yII, yJI, yJJ, yPI, yPJ, yPP]
theorem yBp_k {o p k j : Nat} (h : ¬ (602 ≤ k ∧ k ≤ 604 ∧ j = o)) : yI (yBp Y o p) k j = yI Y k j := by
  unfold yBp
  rw [yII, if_neg (by omega), yII, if_neg (by omega), yII, if_neg (by omega)]
  rfl
theorem yBp_j {o p k j : Nat} (h : ¬ (k = 601 ∧ j = o)) : yJ (yBp Y o p) k j = yJ Y k j := by
  unfold yBp
  rw [yJI, yJI, yJI, yJJ, if_neg h]
  rfl
theorem yBp_p {o p k j : Nat} (h : ¬ (k = 600 ∧ j = o)) : yP (yBp Y o p) k j = yP Y k j := by
  unfold yBp
  rw [yPI, yPI, yPI, yPJ, yPP, if_neg h]
/-- what a client takes for its answer -/
def xGt (X : Xc) (c e : Nat) : Xc := xA (xA (xA (xA (xA X 66 c 0) 71 c (X.2 80 e)) 72 c (X.2 78 e)) 73 c (X.2 76 e)) 74 c (X.2 77 e)
theorem got_sim (S : Sim n K Y X) (hc : c < 4) (ho : X.2 66 c = 1) {f i cnt : Nat} (hf : f < 64) (h106 : yI Y 106 c = nI f) (h75 : X.2 75 c = nI cnt) (hi : i < cnt) (hcnt : cnt ≤ 64) :
    Sim n K (yBp (uI Y 102 c 0) c (plY c f i)) (xGt X c (64 * c + i)) ∧ yP (yBp (uI Y 102 c 0) c (plY c f i)) 600 c = some (nI c, X.2 65 c, X.2 67 c, X.2 68 c, X.2 69 c) ∧ RqOK K (nI c, X.2 65 c, X.2 67 c, X.2 68 c, X.2 69 c) ∧
      (∃ s, s < 100 ∧ X.2 78 (64 * c + i) = nI (s + 1)) ∧ CgY c Y (yBp (uI Y 102 c 0) c (plY c f i)) := by
  obtain ⟨a1, a2, a3, a4, a5, a6, a7, a8, a9, a10, a11, f', hf', hf2, hf3⟩ := S.cl hc
  have ef : f' = f := (nI_eq (by omega) (by omega)).mp (hf2.symm.trans h106)
  subst ef
  have hln : ln (nI cnt) = cnt := nI_clamp (by omega)
  obtain ⟨⟨p1, p2, p3, p4, p5, p6, p7, p8⟩, q⟩ := hf3 i (by rw [h75, hln]; exact hi)
  have hpp : 4 + 64 * c + (f' + i) % 64 = plY c f' i := rfl
  rw [hpp] at p1 p2 p3 p4 q
  have hpc : plY c f' i ≠ c := by rw [← hpp]; omega
  have gY : CgY c Y (yBp (uI Y 102 c 0) c (plY c f' i)) := by
    unfold yBp
    exact (((((CgY.rf.wI (by omega) _).wP (by omega) _).wJ (by omega) _).wI (by omega) _).wI (by omega) _).wI (by omega) _
  have gX : CgX c X (xGt X c (64 * c + i)) := by
    unfold xGt
    exact ((((CgX.rf.wA (by omega) _).wA (by omega) _).wA (by omega) _).wA (by omega) _).wA (by omega) _
  obtain ⟨b1, b2, b3, b4⟩ := yBp_v (Y := uI Y 102 c 0) (o := c) (p := plY c f' i)
  have wk : ∀ k j, ¬ (k = 66 ∧ j = c) → ¬ (71 ≤ k ∧ k ≤ 74 ∧ j = c) → (xGt X c (64 * c + i)).2 k j = X.2 k j := fun k j h1 h2 => by
    unfold xGt
    rw [xAA, if_neg (by omega), xAA, if_neg (by omega), xAA, if_neg (by omega), xAA, if_neg (by omega), xAA, if_neg (by omega)]
  refine ⟨sim_cli S hc gY gX ?_, by rw [b1]; exact (q ho).trans (a6 ho).1, ⟨⟨c, hc, rfl⟩, a5, (a6 ho).2.1, (a6 ho).2.2⟩, p8, gY⟩
  have w66 : (xGt X c (64 * c + i)).2 66 c = 0 := by unfold xGt; simp [xAA]
  have w71 : (xGt X c (64 * c + i)).2 71 c = X.2 80 (64 * c + i) := by unfold xGt; simp [xAA]
  have w72 : (xGt X c (64 * c + i)).2 72 c = X.2 78 (64 * c + i) := by unfold xGt; simp [xAA]
  have w73 : (xGt X c (64 * c + i)).2 73 c = X.2 76 (64 * c + i) := by unfold xGt; simp [xAA]
  have w74 : (xGt X c (64 * c + i)).2 74 c = X.2 77 (64 * c + i) := by unfold xGt; simp [xAA]
  unfold ClS
  rw [w66, w71, w72, w73, w74, wk 65 c (by omega) (by omega), wk 67 c (by omega) (by omega), wk 68 c (by omega) (by omega), wk 69 c (by omega) (by omega), wk 70 c (by omega) (by omega), wk 75 c (by omega) (by omega), b2, b3, b4, yBp_k (by omega), yBp_k (by omega), yBp_k (by omega), yBp_k (by omega), yBp_k (by omega)]
  refine ⟨a1, ?_, a3, Or.inl rfl, a5, fun h => absurd h (by decide), p2, p1, p4, a10, a11, f', hf', hf2, fun j hj => ⟨?_, fun h => absurd h (by decide)⟩⟩
  · rw [yII, if_pos ⟨rfl, rfl⟩]
  · obtain ⟨⟨r1, r2, r3, r4, r5, r6, r7, r8⟩, _⟩ := hf3 j hj
    unfold PlS
    rw [yBp_j (by omega), yBp_k (by omega), yBp_k (by omega), yBp_k (by omega), wk 76 _ (by omega) (by omega), wk 77 _ (by omega) (by omega), wk 78 _ (by omega) (by omega), wk 79 _ (by omega) (by omega), wk 80 _ (by omega) (by omega)]
    exact ⟨r1, r2, r3, r4, r5, r6, r7, r8⟩
/-- kept among the latest -/
def xKt (X : Xc) (c a : Nat) (v : Int32) : Xc := xA (xA (xA (xA (xA (xA (xS X 81 v) 82 a (nI c)) 83 a (X.2 65 c)) 84 a (X.2 72 c)) 85 a (X.2 73 c)) 86 a (X.2 74 c)) 87 a (X.2 71 c)
theorem kept_sim (S : Sim n K Y X) (hK : K + 1 < 1073741824) (hc : c < 4) {A : Nat} (hA : X.1 81 = nI A) (hAK : A ≤ K) {w : Rq} (hw : yP Y 600 c = some w) (hwk : RqOK K w) (w1 : w.1 = nI c) (w2 : w.2.1 = X.2 65 c) (hs : ∃ s, s < 100 ∧ X.2 72 c = nI (s + 1)) :
    Sim n (K + 1) (uI (yBp Y (260 + A % 200) c) 1110 0 (nI (A + 1))) (xKt X c (A % 200) (nI (A + 1))) := by
  have hk2 := S.sc.k2
  have hn := S.sc.n7
  have S0 := S
  have S := S.mono (Nat.le_succ K) hK
  obtain ⟨a, ea⟩ : ∃ a, a = A % 200 := ⟨_, rfl⟩
  rw [← ea]
  have ha : a < 200 := by omega
  have uI' : ∀ k j, ¬ (602 ≤ k ∧ k ≤ 604 ∧ j = 260 + a) → ¬ (k = 1110 ∧ j = 0) → yI (uI (yBp Y (260 + a) c) 1110 0 (nI (A + 1))) k j = yI Y k j := fun k j h1 h2 => by rw [yII, if_neg h2, yBp_k h1]
  have uJ' : ∀ k j, ¬ (k = 601 ∧ j = 260 + a) → yJ (uI (yBp Y (260 + a) c) 1110 0 (nI (A + 1))) k j = yJ Y k j := fun k j h => by rw [yJI, yBp_j h]
  have uP' : ∀ k j, ¬ (k = 600 ∧ j = 260 + a) → yP (uI (yBp Y (260 + a) c) 1110 0 (nI (A + 1))) k j = yP Y k j := fun k j h => by rw [yPI, yBp_p h]
  have xk : ∀ k j, ¬ (82 ≤ k ∧ k ≤ 87 ∧ j = a) → (xKt X c a (nI (A + 1))).2 k j = X.2 k j := fun k j h => by
    unfold xKt
    rw [xAA, if_neg (by omega), xAA, if_neg (by omega), xAA, if_neg (by omega), xAA, if_neg (by omega), xAA, if_neg (by omega), xAA, if_neg (by omega)]
    rfl
  have xs : ∀ k, k ≠ 81 → (xKt X c a (nI (A + 1))).1 k = X.1 k := fun k h => by
    unfold xKt
    show (xS X 81 (nI (A + 1))).1 k = _
    rw [xSS, if_neg h]
  have x81 : (xKt X c a (nI (A + 1))).1 81 = nI (A + 1) := rfl
  have hl1 : ln (nI (A + 1)) = A + 1 := nI_clamp (by omega)
  have hl0 : ln (nI A) = A := nI_clamp (by omega)
  refine Sim.mk ?_ ⟨fun r hr => eq_RpA ⟨fun k h => uI' k r (by omega) (by omega), fun k h => uJ' k r (by omega), fun k o h1 h2 => uI' k o (by omega) (by omega), rfl, rfl, fun o h => rfl, rfl⟩ ⟨fun k h => xk k _ (by omega), fun k s h1 h2 => xk k _ (by omega), fun k s h1 h2 => xk k _ (by omega), fun k s h1 h2 => xk k _ (by omega), fun k q s h1 h2 h3 => xk k _ (by omega)⟩ hn (S.pcs.1 r hr), fun d hd => ?_, fun b hb1 hb2 => ?_, ?_, ?_, ?_⟩ (ae_Ar ⟨uI' 405 0 (by omega) (by omega), uI' 404 0 (by omega) (by omega), rfl, fun i => ⟨fun k h1 h2 => uI' k i (by omega) (by omega), uJ' 304 i (by omega), uJ' 305 i (by omega), uP' 307 i (by omega), uI' 201 _ (by omega) (by omega), uI' 202 _ (by omega) (by omega), rfl⟩⟩ ⟨xs 6 (by omega), fun k i h => xk k i (by omega)⟩ S.ar)
  · obtain ⟨a1, a2, a3, a4, a5, a6, a7, a8, a9, a10, a11, a12, a13, a14, a15, a16, a17, a18, a19, a20, a21⟩ := S.sc
    unfold ScS
    rw [uI' 400 0 (by omega) (by omega), uI' 401 0 (by omega) (by omega), uI' 1100 0 (by omega) (by omega), uI' 408 0 (by omega) (by omega), uI' 406 0 (by omega) (by omega), uI' 407 0 (by omega) (by omega), uI' 1105 0 (by omega) (by omega), uI' 1106 0 (by omega) (by omega), uI' 1107 0 (by omega) (by omega), uI' 1108 0 (by omega) (by omega), xs 1 (by omega), xs 2 (by omega), xs 3 (by omega), xs 4 (by omega), xs 7 (by omega), xs 8 (by omega), xs 16 (by omega), xs 17 (by omega), xs 18 (by omega), xs 19 (by omega), x81]
    exact ⟨a1, a2, a3, a4, a5, a6, a7, a8, a9, a10, a11, a12, a13, a14, a15, by rw [yII, if_pos ⟨rfl, rfl⟩], a17, a18, a19, ⟨A + 1, by omega, rfl⟩, a21⟩
  · exact cl_congr hd (fun k o h => uI' k o (by omega) (by omega)) (fun k o h => uJ' k o (by omega)) (fun k o h => uP' k o (by omega)) (fun k i h => xk k i (by omega)) (S.pcs.2.1 d hd)
  · rw [x81, hl1] at hb2
    by_cases e : b = a
    · subst e
      obtain ⟨z1, z2, z3, z4⟩ := yBp_v (Y := Y) (o := 260 + b) (p := c)
      obtain ⟨c1, c2, c3, c4, c5, c6, c7, c8, c9, _⟩ := S.cl hc
      have y82 : (xKt X c b (nI (A + 1))).2 82 b = nI c := by unfold xKt; simp [xAA]
      have y83 : (xKt X c b (nI (A + 1))).2 83 b = X.2 65 c := by unfold xKt; simp [xAA]
      have y84 : (xKt X c b (nI (A + 1))).2 84 b = X.2 72 c := by unfold xKt; simp [xAA]
      have y85 : (xKt X c b (nI (A + 1))).2 85 b = X.2 73 c := by unfold xKt; simp [xAA]
      have y86 : (xKt X c b (nI (A + 1))).2 86 b = X.2 74 c := by unfold xKt; simp [xAA]
      have y87 : (xKt X c b (nI (A + 1))).2 87 b = X.2 71 c := by unfold xKt; simp [xAA]
      unfold KpS
      rw [y82, y83, y84, y85, y86, y87]
      refine ⟨⟨w, ?_, w1, w2, hwk.mono (Nat.le_succ K)⟩, ?_, ?_, ?_, hs⟩
      · rw [yPI, z1]; exact hw
      · rw [yII, if_neg (by omega), z3]; exact c7
      · rw [yJI, z2]; exact c8
      · rw [yII, if_neg (by omega), z4]; exact c9
    · have hbA : b < A := by omega
      have := S.pcs.2.2.1 b hb1 (by rw [hA, hl0]; exact hbA)
      unfold KpS at *
      rw [uP' 600 _ (by omega), uI' 602 _ (by omega) (by omega), uJ' 601 _ (by omega), uI' 604 _ (by omega) (by omega), xk 82 b (by omega), xk 83 b (by omega), xk 84 b (by omega), xk 85 b (by omega), xk 86 b (by omega), xk 87 b (by omega)]
      exact this
  · have := S.pcs.2.2.2.1
    unfold ByS at *
    rw [uI' 1 0 (by omega) (by omega), xs 89 (by omega), show (xKt X c a (nI (A + 1))).2 88 = X.2 88 from funext (fun i => xk 88 i (by omega))]
    exact this
  · have := S.pcs.2.2.2.2.1
    unfold ByS at *
    rw [uI' 1 1 (by omega) (by omega), xs 91 (by omega), show (xKt X c a (nI (A + 1))).2 90 = X.2 90 from funext (fun i => xk 90 i (by omega))]
    exact this
  · have := S.pcs.2.2.2.2.2
    unfold RdS B01 at *
    rw [show (xKt X c a (nI (A + 1))).2 30 = X.2 30 from funext (fun i => xk 30 i (by omega)), uI' 702 0 (by omega) (by omega), uI' 703 0 (by omega) (by omega), uI' 704 0 (by omega) (by omega), xs 93 (by omega), xs 95 (by omega), xs 96 (by omega), show (xKt X c a (nI (A + 1))).2 92 = X.2 92 from funext (fun i => xk 92 i (by omega))]
    exact this
theorem CgY.ms (h : CgY c Y Y2) (i : Nat) : yI Y2 309 i = yI Y 309 i ∧ yI Y2 310 i = yI Y 310 i ∧ yI Y2 302 i = yI Y 302 i := ⟨h.1 309 i (by omega) (by omega), h.1 310 i (by omega) (by omega), h.1 302 i (by omega) (by omega)⟩
theorem y_mod {A m : Nat} (hA : A < 2 ^ 31) (hm : 0 < m) (hm2 : m < 2 ^ 31) (Q : Int32 → Yc → Prop) (hQ : Q (nI (A % m)) Y) : wy_J9_floorMod_7cf53 n (nI A) (nI m) Y Q := by
  unfold wy_J9_floorMod_7cf53
  refine ⟨nI_ne0 (by omega) (by omega), fun x1 e1 => ?_⟩
  have e1 : x1 = nI (A % m) := e1.trans (md_nI hA hm hm2)
  subst e1
  refine ⟨fun _ => hQ, fun h => absurd (xor_pos ?_ ?_) h⟩
  · rw [nI_toInt hA]; omega
  · rw [nI_toInt hm2]; omega
set_option maxHeartbeats 1000000 in
/-- a reply to a client -/
theorem reply_hear (S : Sim n K Y X) (hK : K + 1 < 1073741824) {o : Nat} {l : List Int32} (H : Han n K Y X o l) (hk : yI Y 301 o = 11) :
    ∃ c Y2 X2, c < 4 ∧ yI Y 303 o = nI c ∧ X.2 15 2 = 16 + nI c ∧ (∀ Q : Yc → Prop, Q Y2 → wy_X11_handToClient n o Y Q) ∧ (∀ Q : Xc → Prop, Q X2 → wx_X12_clientGets (nI c) X Q) ∧ Sim n (K + 1) Y2 X2 ∧ Up X X2 := by
  have hn := S.sc.n7
  have hn3 := S.sc.n3
  have hk2 := S.sc.k2
  obtain ⟨m1, m2, m3, ⟨ml, me, hml, hme, m4⟩, m5, m6, m7, m8, m9, m10⟩ := H.2.2.1
  rw [if_neg (by rw [hk]; decide)] at m2
  rw [if_pos hk] at m3
  obtain ⟨f, hf, ef⟩ := m2
  obtain ⟨c, hc, ec⟩ := m3
  obtain ⟨s, hs, es⟩ := m8 (Or.inr hk)
  obtain ⟨m91, m92⟩ := m9 hk
  have hne := nI_ne1 (r := f) (by omega)
  have hcc : (nI c).toNatClampNeg = c := nI_clamp (by omega)
  have hv4 : vp_in (nI c) 4 := vp_in_nI hc (by omega)
  have en : encM Y o = [11, nI f, 16 + nI c, nI ml, nI me, nI (s + 1), yI Y 308 o, yI Y 309 o] ++ (if yI Y 309 o = 0 then [] else [yI Y 310 o]) := by
    unfold encM
    rw [hk, m4, ef, ec, es, vw_sess, vw_lead]
    simp [hne]
  have b1 : X.2 15 1 = nI f := H.at en (j := 1) (by simp)
  have b2 : X.2 15 2 = 16 + nI c := H.at en (j := 2) (by simp)
  have b3 : X.2 15 3 = nI ml := H.at en (j := 3) (by simp)
  have b4 : X.2 15 4 = nI me := H.at en (j := 4) (by simp)
  have b5 : X.2 15 5 = nI (s + 1) := H.at en (j := 5) (by simp)
  have b6 : X.2 15 6 = yI Y 308 o := H.at en (j := 6) (by simp)
  have b7 : X.2 15 7 = yI Y 309 o := H.at en (j := 7) (by simp)
  have hL : ml % n < n := Nat.mod_lt _ (by omega)
  obtain ⟨A, hA, eA⟩ := S.sc.accK
  have hP : ∀ Q : Yc → Prop, (wy_X1_hearReply n c o (nI (ml % n)) (nI (n / 2) + 1) Y (fun (x40 : Int32) (Y37 : Yc) => ((x40 = 0 → Q Y37) ∧ (¬ x40 = 0 → (∀ x44 : Int32, x44 = yI Y37 1110 0 → (wy_J9_floorMod_7cf53 n x44 (200 : Int32) Y37 (fun (x50 : Int32) (Y47 : Yc) => (((nI 200) ≤ x50 → by_X11_handToClient_83 n Q Y47) ∧ (¬ (nI 200) ≤ x50 → (vp_in x50 200 ∧ (wy_X6_become n (260 + x50.toNatClampNeg) c Y47 (fun (Y64 : Yc) => by_X11_handToClient_83 n Q Y64)))))))))))) → wy_X11_handToClient n o Y Q := fun Q h => by
    unfold wy_X11_handToClient
    intro x2 e2
    rw [ec] at e2
    subst e2
    unfold wy_X11_isClient
    refine ⟨fun q => absurd ((nI_lti (a := c) (b := 0) (by omega) (by omega)).mp q) (by omega), fun _ => ⟨fun q => absurd q (nI_ge hc (by omega)), fun _ => ⟨fun _ x13 e13 => ?_, fun q => absurd q (by decide)⟩⟩⟩
    rw [ec] at e13
    subst e13
    rw [hcc]
    refine ⟨hv4, fun y21 e21 => ?_⟩
    rw [m4] at e21
    subst e21
    refine y_leaderOf S.sc hml _ (fun x33 e33 => ?_)
    rw [S.sc.y401] at e33
    subst e33
    exact h
  have same : ∀ (hq : X.2 66 c = 0 ∨ (X.2 66 c = 1 ∧ yI Y 308 o ≠ X.2 65 c)), (∀ Q : Yc → Prop, Q Y → wy_X11_handToClient n o Y Q) ∧ (∀ Q : Xc → Prop, Q X → wx_X12_clientGets (nI c) X Q) := fun hq => by
    refine ⟨fun Q hQ => hP Q ?_, fun Q hQ => ?_⟩
    · unfold wy_X1_hearReply
      intro x1 e1
      rw [(S.cl hc).2.1] at e1
      subst e1
      refine ⟨fun _ => ⟨fun _ => hQ, fun q => absurd rfl q⟩, fun q x5 e5 x7 e7 => ?_⟩
      rw [(S.cl hc).1] at e7
      subst e5; subst e7
      refine ⟨fun q2 => ?_, fun _ => ⟨fun _ => hQ, fun q => absurd rfl q⟩⟩
      rcases hq with hq | hq
      · exact absurd hq q
      · exact absurd q2 hq.2
    · unfold wx_X12_clientGets
      rw [hcc]
      refine ⟨hv4, fun x2 e2 => ?_⟩
      subst e2
      refine ⟨fun _ => hQ, fun q => ⟨v640 (j := 6) (by omega), fun x6 e6 => ⟨hv4, fun x9 e9 => ?_⟩⟩⟩
      have e6 : x6 = yI Y 308 o := e6.trans b6
      subst e6; subst e9
      refine ⟨fun q2 => ?_, fun _ => hQ⟩
      rcases hq with hq | hq
      · exact absurd hq q
      · exact absurd q2 hq.2
  have Sm1 := S.mono (Nat.le_succ K) hK
  by_cases ho : X.2 66 c = 0
  · exact ⟨c, Y, X, hc, ec, b2, (same (Or.inl ho)).1, (same (Or.inl ho)).2, Sm1, Up.rf⟩
  have ho : X.2 66 c = 1 := (S.cl hc).2.2.2.1.resolve_left ho
  rcases Classical.em (¬ yI Y 308 o = X.2 65 c) with hnum | hnum
  · exact ⟨c, Y, X, hc, ec, b2, (same (Or.inr ⟨ho, hnum⟩)).1, (same (Or.inr ⟨ho, hnum⟩)).2, Sm1, Up.rf⟩
  have hnum : yI Y 308 o = X.2 65 c := Classical.byContradiction hnum
  obtain ⟨p, e, Y1, X1, ry1, rx1, S1, gY1, gX1, ⟨f1, i, cnt, hf1, h106, h75, hi, hcnt, ep, ee⟩, ho1, hnum1, hx1, h76⟩ := place_sim S hc ho hml hme hs
  -- the tellers
  have pl : PlS K Y1 X1 p e := by
    obtain ⟨_, _, _, _, _, _, _, _, _, _, _, f', hf', hf2, hf3⟩ := S1.cl hc
    have ef' : f' = f1 := (nI_eq (by omega) (by omega)).mp (hf2.symm.trans h106)
    subst ef'
    have hln : ln (nI cnt) = cnt := nI_clamp (by omega)
    rw [ep, ee]
    exact (hf3 i (by rw [h75, hln]; exact hi)).1
  obtain ⟨pl1, pl2, pl3, pl4, pl5, pl6, pl7, pl8⟩ := pl
  obtain ⟨a, ea⟩ : ∃ a : Int32, a = X1.2 79 e ||| ((1 : Int32) <<< (nI f &&& 31)) := ⟨_, rfl⟩
  have ha : Sm 127 a := by rw [ea]; exact or_Sm pl7 (by omega)
  obtain ⟨v, ev⟩ : ∃ v : Int32, v = if yI Y 309 o = 0 then X1.2 80 e else yI Y 310 o := ⟨_, rfl⟩
  obtain ⟨S2, gY2, gX2⟩ := told_sim S1 hc hf1 h106 h75 hi hcnt (a := a) (v := v) ha
  rw [← ep, ← ee] at S2
  have hce : (nI e).toNatClampNeg = e := nI_clamp (by omega)
  have hve : vp_in (nI e) 256 := vp_in_nI (by omega) (by omega)
  have x15 : ∀ j, X1.2 15 j = X.2 15 j := fun j => gX1.2 15 j (by omega) (by omega)
  have hpl' : 4 ≤ p := by rw [ep]; unfold plY; omega
  obtain ⟨Y3, eY3⟩ : ∃ Y3 : Yc, Y3 = uI (uI Y1 603 p a) 604 p v := ⟨_, rfl⟩
  obtain ⟨X3, eX3⟩ : ∃ X3 : Xc, X3 = xA (xA X1 79 e a) 80 e v := ⟨_, rfl⟩
  rw [← eY3, ← eX3] at S2
  have y603 : yI Y3 603 p = a := by rw [eY3, yII, if_neg (by omega), yII, if_pos ⟨rfl, rfl⟩]
  have x79 : X3.2 79 e = a := by rw [eX3, xAA, if_neg (by omega), xAA, if_pos ⟨rfl, rfl⟩]
  -- to the judgement
  have yj : ∀ Q : Int32 → Yc → Prop, ((bt a (ml % n) ∧ nI (n / 2) + 1 ≤ bS a 7 → (wy_X6_become n c p (uI Y3 102 c (0 : Int32)) (fun (Y17 : Yc) => Q (1 : Int32) Y17))) ∧ (¬ (bt a (ml % n) ∧ nI (n / 2) + 1 ≤ bS a 7) → Q 0 Y3)) → wy_X1_hearReply n c o (nI (ml % n)) (nI (n / 2) + 1) Y Q := fun Q h => by
    have h66 : by_X1_hearReply_66 n c Q (nI (ml % n)) (nI (n / 2) + 1) p Y3 := by
      unfold by_X1_hearReply_66 by_X1_hearReply_84
      intro x2 e2
      rw [y603] at e2
      subst e2
      refine ⟨fun q => ⟨fun _ => h.2 (fun q2 => q q2.1), fun q => absurd rfl q⟩, fun q => ⟨fun q => absurd q (by decide), fun _ x3 e3 => ?_⟩⟩
      rw [y603] at e3
      subst e3
      refine y_bits _ _ ?_
      rw [ha.bits]
      exact ⟨fun q2 => h.1 ⟨q, q2⟩, fun q2 => h.2 (fun q3 => q2 q3.2)⟩
    unfold wy_X1_hearReply
    intro x1 e1
    rw [(S.cl hc).2.1, ho] at e1
    subst e1
    refine ⟨fun q => absurd q (by decide), fun _ x5 e5 x7 e7 => ?_⟩
    rw [(S.cl hc).1] at e7
    subst e5; subst e7
    refine ⟨fun _ y10 e10 x12 e12 => ?_, fun q => absurd hnum q⟩
    rw [m4] at e10
    rw [es] at e12
    subst e10; subst e12
    refine ry1 _ (fun x22 e22 x24 e24 x26 e26 x29 e29 => ?_)
    rw [pl3] at e22
    rw [(gY1.ms o).2.2, ef] at e24
    subst e22; subst e24
    have e26 : x26 = a := e26.trans ea.symm
    subst e26
    have e29 : x29 = yI Y 309 o := by rw [e29, yII, if_neg (by omega)]; exact (gY1.ms o).1
    subst e29
    refine ⟨fun q => ?_, fun q x32 e32 => ?_⟩
    · rw [if_pos q] at ev
      have : uI Y1 603 p x26 = Y3 := by
        rw [eY3, y_same (Y := uI Y1 603 p x26) (c := 604) (o := p)]
        rw [yII, if_neg (by omega), ev]
        exact pl4
      rw [this]
      exact h66
    · rw [if_neg q] at ev
      have e32 : x32 = v := by rw [e32, ev, yII, if_neg (by omega)]; exact (gY1.ms o).2.1
      subst e32
      rw [← eY3]
      exact h66
  have xj : ∀ Q : Xc → Prop, ((bt a (ml % n) ∧ nI (n / 2) + 1 ≤ bS a 7 → wx_X12_accept (nI c) (nI e) X3 Q) ∧ (¬ (bt a (ml % n) ∧ nI (n / 2) + 1 ≤ bS a 7) → Q X3)) → wx_X12_clientGets (nI c) X Q := fun Q h => by
    have hcond : ∀ x : Int32, (¬ bS a 7 ≤ nI (n / 2)) ↔ nI (n / 2) + 1 ≤ bS a 7 := fun _ => by
      have hb : ∃ z, z ≤ 7 ∧ bS a 7 = nI z := by
        obtain ⟨a', ha', rfl⟩ := ha
        exact bS_le ⟨a', by omega⟩
      obtain ⟨z, hz, ez⟩ := hb
      rw [ez, nI_1, nI_lei (by omega) (by omega), nI_lei (by omega) (by omega)]
      omega
    have h113 : bx_X12_clientGets_113 Q (nI c) (nI e) (nI (ml % n)) X3 := by
      unfold bx_X12_clientGets_113
      rw [hce]
      refine ⟨hve, fun x2 e2 => ?_⟩
      rw [x79] at e2
      subst e2
      refine x_bits _ _ (fun x8 e8 => ?_)
      rw [S2.sc.x2] at e8
      subst e8
      refine ⟨fun q => h.2 (fun q2 => (hcond 0).mpr q2.2 q), fun q => ⟨hve, fun x12 e12 => ?_⟩⟩
      rw [x79] at e12
      subst e12
      exact ⟨fun q2 => h.2 (fun q3 => q2 q3.1), fun q2 => h.1 ⟨q2, (hcond 0).mp q⟩⟩
    unfold wx_X12_clientGets
    rw [hcc]
    refine ⟨hv4, fun x2 e2 => ?_⟩
    rw [ho] at e2
    subst e2
    refine ⟨fun q => absurd q (by decide), fun _ => ⟨v640 (j := 6) (by omega), fun x6 e6 => ⟨hv4, fun x9 e9 => ?_⟩⟩⟩
    have e6 : x6 = yI Y 308 o := e6.trans b6
    subst e6; subst e9
    refine ⟨fun _ => ⟨v640 (j := 3) (by omega), fun x13 e13 => ⟨v640 (j := 4) (by omega), fun x16 e16 => ⟨v640 (j := 5) (by omega), fun x19 e19 => ?_⟩⟩⟩, fun q => absurd hnum q⟩
    have e13 : x13 = nI ml := e13.trans b3
    have e16 : x16 = nI me := e16.trans b4
    have e19 : x19 = nI (s + 1) := e19.trans b5
    subst e13; subst e16; subst e19
    refine rx1 _ ⟨v640 (j := 3) (by omega), fun x26 e26 x28 e28 => ?_⟩
    have e26 : x26 = nI ml := by rw [e26, x15]; exact b3
    rw [hx1, S.sc.x1] at e28
    subst e26; subst e28
    refine ⟨nI_ne0 (by omega) (by omega), fun x30 e30 => ?_⟩
    have e30 : x30 = nI (ml % n) := e30.trans (md_nI (by omega) (by omega) (by omega))
    subst e30
    rw [hce]
    refine ⟨hve, fun x33 e33 => ⟨v640 (j := 1) (by omega), fun x36 e36 x38 e38 => ?_⟩⟩
    have e36 : x36 = nI f := by rw [e36, x15]; exact b1
    subst e33; subst e36
    have e38 : x38 = a := e38.trans ea.symm
    subst e38
    refine ⟨hve, v640 (j := 1) (by omega), fun x41 e41 => ?_⟩
    have e41 : x41 = nI f := by rw [e41, xAA, if_neg (by omega), x15]; exact b1
    subst e41
    have nov : yI Y 309 o = 0 → bx_X12_clientGets_113 Q (nI c) (nI e) (nI (ml % n)) (xA X1 79 e x38) := fun q => by
      rw [if_pos q] at ev
      have : xA X1 79 e x38 = X3 := by
        rw [eX3, x_same (X := xA X1 79 e x38) (k := 80) (i := e)]
        rw [xAA, if_neg (by omega), ev]
      rw [this]
      exact h113
    rcases m92 with q9 | ⟨q9, q10⟩
    · refine ⟨fun _ => nov q9, fun _ => ⟨v640 (j := 7) (by omega), fun x45 e45 => ?_⟩⟩
      have e45 : x45 = 0 := by rw [e45, xAA, if_neg (by omega), x15]; exact b7.trans q9
      subst e45
      exact ⟨fun _ => nov q9, fun q => absurd q (by decide)⟩
    · have hq9 : ¬ yI Y 309 o = 0 := by rw [q9]; decide
      have hfl : nI f = nI (ml % n) := by
        rw [ef, m4, vw_lead, md_nI (by omega) (by omega) (by omega)] at q10
        exact q10
      refine ⟨fun q => absurd hfl q, fun _ => ⟨v640 (j := 7) (by omega), fun x45 e45 => ?_⟩⟩
      have e45 : x45 = 1 := by rw [e45, xAA, if_neg (by omega), x15]; exact b7.trans q9
      subst e45
      refine ⟨fun q => absurd rfl q, fun _ => ⟨v640 (j := 8) (by omega), fun x50 e50 => ⟨hve, ?_⟩⟩⟩
      rw [if_neg hq9] at ev
      have b8 : X.2 15 8 = yI Y 310 o := by
        rw [if_neg hq9] at en
        exact H.at en (j := 8) (by simp)
      have e50 : x50 = v := by rw [e50, xAA, if_neg (by omega), x15, ev]; exact b8
      subst e50
      rw [← eX3]
      exact h113
  by_cases hj : bt a (ml % n) ∧ nI (n / 2) + 1 ≤ bS a 7
  · -- accepted
    have h106' : yI Y3 106 c = nI f1 := by rw [eY3, yII, if_neg (by omega), yII, if_neg (by omega)]; exact h106
    have h75' : X3.2 75 c = nI cnt := by rw [eX3, xAA, if_neg (by omega), xAA, if_neg (by omega)]; exact h75
    have ho3 : X3.2 66 c = 1 := by rw [eX3, xAA, if_neg (by omega), xAA, if_neg (by omega)]; exact ho1
    obtain ⟨S4, w4, wk4, s4, g4⟩ := got_sim S2 hc ho3 hf1 h106' h75' hi hcnt
    rw [← ep] at S4 w4 g4
    rw [← ee] at S4 s4
    have hpc : c ≠ p := by omega
    have k4 : ∀ k j, ¬ (k = 66 ∧ j = c) → ¬ (71 ≤ k ∧ k ≤ 74 ∧ j = c) → (xGt X3 c e).2 k j = X3.2 k j := fun k j h1 h2 => by
      unfold xGt
      rw [xAA, if_neg (by omega), xAA, if_neg (by omega), xAA, if_neg (by omega), xAA, if_neg (by omega), xAA, if_neg (by omega)]
    have w72 : (xGt X3 c e).2 72 c = X3.2 78 e := by unfold xGt; simp [xAA]
    have x81 : (xGt X3 c e).1 81 = nI A := by
      show X3.1 81 = _
      rw [eX3]
      show X1.1 81 = _
      rw [hx1]
      exact eA
    have S5 := kept_sim S4 hK hc x81 hA w4 wk4 rfl (by rw [k4 65 c (by omega) (by omega)]) (by rw [w72]; exact s4)
    refine ⟨c, _, _, hc, ec, b2, fun Q hQ => hP Q (yj _ ⟨fun _ => y_bp hpc _ ⟨fun q => absurd q (by decide), fun _ x44 e44 => ?_⟩, fun q => absurd hj q⟩), fun Q hQ => xj Q ⟨fun _ => ?_, fun q => absurd hj q⟩, S5, ?_⟩
    · have e44 : x44 = nI A := by rw [e44, S4.sc.acc, x81]
      subst e44
      refine y_mod (A := A) (m := 200) (by omega) (by omega) (by omega) _ ⟨fun q => absurd q (nI_ge (a := A % 200) (b := 200) (by omega) (by omega)), fun _ => ⟨vp_in_nI (by omega) (by omega), ?_⟩⟩
      rw [nI_clamp (by omega)]
      refine y_bp (by omega) _ ?_
      unfold by_X11_handToClient_83
      intro x1 e1 x3 e3
      have e1 : x1 = nI A := by rw [e1, yBp_k (by omega), S4.sc.acc, x81]
      subst e1
      rw [nI_1] at e3
      subst e3
      exact hQ
    · unfold wx_X12_accept
      rw [hcc, hce, nar0]
      refine ⟨hv4, hve, fun x4 e4 => ⟨hv4, hve, fun x8 e8 => ⟨hv4, hve, fun x12 e12 => ⟨hv4, hve, fun x16 e16 => ⟨hv4, fun x18 e18 x20 e20 x22 e22 x24 e24 => ?_⟩⟩⟩⟩⟩
      have e4 : x4 = X3.2 80 e := e4
      subst e4
      have e8 : x8 = X3.2 78 e := e8
      subst e8
      have e12 : x12 = X3.2 76 e := e12
      subst e12
      have e16 : x16 = X3.2 77 e := e16
      subst e16
      have e18 : x18 = nI A := e18.trans x81
      subst e18
      have e20 : x20 = nI (A % 200) := e20.trans (md_nI (l := A) (q := 200) (by omega) (by omega) (by omega))
      subst e20
      have e22 : x22 = nI A := e22.trans x81
      subst e22
      rw [nI_1] at e24
      subst e24
      have va : vp_in (nI (A % 200)) 200 := vp_in_nI (by omega) (by omega)
      rw [nI_clamp (n := A % 200) (by omega)]
      refine ⟨va, hv4, fun x29 e29 => ⟨va, hv4, fun x33 e33 => ⟨va, hv4, fun x37 e37 => ⟨va, hv4, fun x41 e41 => ⟨va, hv4, fun x45 e45 => ⟨va, ?_⟩⟩⟩⟩⟩⟩
      subst e29; subst e33; subst e37; subst e41; subst e45
      exact hQ
    · have z : X3.1 = X.1 := by
        rw [eX3]
        show X1.1 = _
        exact hx1
      exact Up.ks (by show X3.1 6 = _; rw [z]) (by show X3.1 0 = _; rw [z])
  · refine ⟨c, Y3, X3, hc, ec, b2, fun Q hQ => hP Q (yj _ ⟨fun q => absurd q hj, fun _ => ⟨fun _ => hQ, fun q => absurd rfl q⟩⟩), fun Q hQ => xj Q ⟨fun q => absurd q hj, fun _ => hQ⟩, S2.mono (Nat.le_succ K) hK, ?_⟩
    refine Up.eq ?_
    rw [eX3]
    exact hx1
end
