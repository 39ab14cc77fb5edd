def fx_X12_keepOwn_57 (Qx : Xc → Prop) (Lx57 : Int32 × Int32 × Int32 → Xc → Prop) (t : Int32 × Int32 × Int32) (X : Xc) : Prop := (vp_in t.1 7 ∧ (∀ x2 : Int32, x2 = X.2 26 t.1.toNatClampNeg → ((x2 ≤ t.2.2 → Qx X) ∧ (¬ x2 ≤ t.2.2 → (∀ x5 : Int32, x5 = ((100 : Int32) * t.2.1) + t.2.2 → (∀ x7 : Int32, x7 = ((100 : Int32) * t.1) + t.2.2 → (vp_in x7 700 ∧ (∀ x11 : Int32, x11 = X.2 30 x7.toNatClampNeg → (vp_in x5 4900 ∧ (vp_in x7 700 ∧ (∀ x15 : Int32, x15 = (xA X 51 x5.toNatClampNeg (vp_nar .boolean x11)).2 31 x7.toNatClampNeg → (vp_in x5 4900 ∧ (vp_in x7 700 ∧ (∀ x19 : Int32, x19 = (xA (xA X 51 x5.toNatClampNeg (vp_nar .boolean x11)) 52 x5.toNatClampNeg x15).2 32 x7.toNatClampNeg → (vp_in x5 4900 ∧ (vp_in x7 700 ∧ (∀ x23 : Int32, x23 = (xA (xA (xA X 51 x5.toNatClampNeg (vp_nar .boolean x11)) 52 x5.toNatClampNeg x15) 53 x5.toNatClampNeg x19).2 33 x7.toNatClampNeg → (vp_in x5 4900 ∧ (vp_in x7 700 ∧ (∀ x27 : Int32, x27 = (xA (xA (xA (xA X 51 x5.toNatClampNeg (vp_nar .boolean x11)) 52 x5.toNatClampNeg x15) 53 x5.toNatClampNeg x19) 54 x5.toNatClampNeg x23).2 34 x7.toNatClampNeg → (vp_in x5 4900 ∧ (vp_in x7 700 ∧ (∀ x31 : Int32, x31 = (xA (xA (xA (xA (xA X 51 x5.toNatClampNeg (vp_nar .boolean x11)) 52 x5.toNatClampNeg x15) 53 x5.toNatClampNeg x19) 54 x5.toNatClampNeg x23) 55 x5.toNatClampNeg x27).2 35 x7.toNatClampNeg → (vp_in x5 4900 ∧ (∀ x33 : Int32, x33 = t.2.2 + (1 : Int32) → Lx57 (t.1, t.2.1, x33) (xA (xA (xA (xA (xA (xA X 51 x5.toNatClampNeg (vp_nar .boolean x11)) 52 x5.toNatClampNeg x15) 53 x5.toNatClampNeg x19) 54 x5.toNatClampNeg x23) 55 x5.toNatClampNeg x27) 56 x5.toNatClampNeg x31))))))))))))))))))))))))))
set_option maxHeartbeats 4000000 in
set_option maxRecDepth 100000 in
theorem xf_X12_keepOwn_57 {m : Nat} {ad : Nat → Nat} {σ0 : Sto} {Q : Sto → Prop} {Qx : Xc → Prop} {Lx57 : Int32 × Int32 × Int32 → Xc → Prop} {L57 : Int32 × Int32 × Int32 → Sto → Prop} (hQ : ∀ (σ' : Sto) (X' : Xc), Qx X' → RefC m ad σ' X' → Fi m ad σ0 σ' → Q σ') (hL57 : ∀ (t : Int32 × Int32 × Int32) (σ : Sto) (X : Xc), Lx57 t X → RefC m ad σ X → Fi m ad σ0 σ → L57 t σ) : ∀ (t : Int32 × Int32 × Int32) (σ : Sto) (X : Xc), RefC m ad σ X → Fi m ad σ0 σ → fx_X12_keepOwn_57  Qx Lx57 t X → f_X12_keepOwn_57 m  Q L57 t σ := by
  intro t σ X hR F h
  unfold fx_X12_keepOwn_57 at h
  unfold f_X12_keepOwn_57
  refine ⟨hR.1.1, ?_⟩
  have a1 : sP σ m 26 = some (ad 26) := hR.P (k := 26) (by decide)
  refine ⟨ad 26, a1, ?_⟩
  refine ⟨hR.K (k := 26) (by decide), ?_⟩
  refine ⟨hR.N (k := 26) (by decide) h.1, ?_⟩
  have h := h.2
  intro x2 e3
  rw [hR.2.2 26 (by decide)] at e3
  have h := h x2 e3
  refine ⟨fun c4 => ?_, fun c4 => ?_⟩
  · have h := h.1 c4
    exact hQ _ _ h hR F
  · have h := h.2 c4
    intro x5 e6
    have h := h x5 e6
    intro x7 e8
    have h := h x7 e8
    have a9 : sP σ m 51 = some (ad 51) := hR.P (k := 51) (by decide)
    have a10 : sP σ m 30 = some (ad 30) := hR.P (k := 30) (by decide)
    refine ⟨ad 30, a10, ?_⟩
    refine ⟨hR.K (k := 30) (by decide), ?_⟩
    refine ⟨hR.N (k := 30) (by decide) h.1, ?_⟩
    have h := h.2
    intro x11 e12
    rw [hR.2.2 30 (by decide)] at e12
    have h := h x11 e12
    refine ⟨ad 51, a9, ?_⟩
    refine ⟨hR.K (k := 51) (by decide), ?_⟩
    refine ⟨hR.N (k := 51) (by decide) h.1, ?_⟩
    have h := h.2
    have F := F.A (k := 51) (i := x5.toNatClampNeg) (v := (vp_nar .boolean x11)) (by decide)
    have hR := hR.A (k := 51) (i := x5.toNatClampNeg) (v := (vp_nar .boolean x11)) (by decide)
    have a13 : sP σ m 52 = some (ad 52) := hR.P (k := 52) (by decide)
    have a14 : sP σ m 31 = some (ad 31) := hR.P (k := 31) (by decide)
    refine ⟨ad 31, a14, ?_⟩
    refine ⟨hR.K (k := 31) (by decide), ?_⟩
    refine ⟨hR.N (k := 31) (by decide) h.1, ?_⟩
    have h := h.2
    intro x15 e16
    rw [hR.2.2 31 (by decide)] at e16
    have h := h x15 e16
    refine ⟨ad 52, a13, ?_⟩
    refine ⟨hR.K (k := 52) (by decide), ?_⟩
    refine ⟨hR.N (k := 52) (by decide) h.1, ?_⟩
    have h := h.2
    have F := F.A (k := 52) (i := x5.toNatClampNeg) (v := x15) (by decide)
    have hR := hR.A (k := 52) (i := x5.toNatClampNeg) (v := x15) (by decide)
    have a17 : sP σ m 53 = some (ad 53) := hR.P (k := 53) (by decide)
    have a18 : sP σ m 32 = some (ad 32) := hR.P (k := 32) (by decide)
    refine ⟨ad 32, a18, ?_⟩
    refine ⟨hR.K (k := 32) (by decide), ?_⟩
    refine ⟨hR.N (k := 32) (by decide) h.1, ?_⟩
    have h := h.2
    intro x19 e20
    rw [hR.2.2 32 (by decide)] at e20
    have h := h x19 e20
    refine ⟨ad 53, a17, ?_⟩
    refine ⟨hR.K (k := 53) (by decide), ?_⟩
    refine ⟨hR.N (k := 53) (by decide) h.1, ?_⟩
    have h := h.2
    have F := F.A (k := 53) (i := x5.toNatClampNeg) (v := x19) (by decide)
    have hR := hR.A (k := 53) (i := x5.toNatClampNeg) (v := x19) (by decide)
    have a21 : sP σ m 54 = some (ad 54) := hR.P (k := 54) (by decide)
    have a22 : sP σ m 33 = some (ad 33) := hR.P (k := 33) (by decide)
    refine ⟨ad 33, a22, ?_⟩
    refine ⟨hR.K (k := 33) (by decide), ?_⟩
    refine ⟨hR.N (k := 33) (by decide) h.1, ?_⟩
    have h := h.2
    intro x23 e24
    rw [hR.2.2 33 (by decide)] at e24
    have h := h x23 e24
    refine ⟨ad 54, a21, ?_⟩
    refine ⟨hR.K (k := 54) (by decide), ?_⟩
    refine ⟨hR.N (k := 54) (by decide) h.1, ?_⟩
    have h := h.2
    have F := F.A (k := 54) (i := x5.toNatClampNeg) (v := x23) (by decide)
    have hR := hR.A (k := 54) (i := x5.toNatClampNeg) (v := x23) (by decide)
    have a25 : sP σ m 55 = some (ad 55) := hR.P (k := 55) (by decide)
    have a26 : sP σ m 34 = some (ad 34) := hR.P (k := 34) (by decide)
    refine ⟨ad 34, a26, ?_⟩
    refine ⟨hR.K (k := 34) (by decide), ?_⟩
    refine ⟨hR.N (k := 34) (by decide) h.1, ?_⟩
    have h := h.2
    intro x27 e28
    rw [hR.2.2 34 (by decide)] at e28
    have h := h x27 e28
    refine ⟨ad 55, a25, ?_⟩
    refine ⟨hR.K (k := 55) (by decide), ?_⟩
    refine ⟨hR.N (k := 55) (by decide) h.1, ?_⟩
    have h := h.2
    have F := F.A (k := 55) (i := x5.toNatClampNeg) (v := x27) (by decide)
    have hR := hR.A (k := 55) (i := x5.toNatClampNeg) (v := x27) (by decide)
    have a29 : sP σ m 56 = some (ad 56) := hR.P (k := 56) (by decide)
    have a30 : sP σ m 35 = some (ad 35) := hR.P (k := 35) (by decide)
    refine ⟨ad 35, a30, ?_⟩
    refine ⟨hR.K (k := 35) (by decide), ?_⟩
    refine ⟨hR.N (k := 35) (by decide) h.1, ?_⟩
    have h := h.2
    intro x31 e32
    rw [hR.2.2 35 (by decide)] at e32
    have h := h x31 e32
    refine ⟨ad 56, a29, ?_⟩
    refine ⟨hR.K (k := 56) (by decide), ?_⟩
    refine ⟨hR.N (k := 56) (by decide) h.1, ?_⟩
    have h := h.2
    have F := F.A (k := 56) (i := x5.toNatClampNeg) (v := x31) (by decide)
    have hR := hR.A (k := 56) (i := x5.toNatClampNeg) (v := x31) (by decide)
    intro x33 e34
    have h := h x33 e34
    exact hL57 _ _ _ h hR F
def wx_X12_keepOwn (p1 : Int32) (X : Xc) (Qx : Xc → Prop) : Prop := (∀ x1 : Int32, x1 = ((7 : Int32) * p1) + p1 → (vp_in p1 7 ∧ (∀ x5 : Int32, x5 = X.2 24 p1.toNatClampNeg → (vp_in x1 49 ∧ (vp_in p1 7 ∧ (∀ x9 : Int32, x9 = (xA X 47 x1.toNatClampNeg x5).2 25 p1.toNatClampNeg → (vp_in x1 49 ∧ (vp_in p1 7 ∧ (∀ x13 : Int32, x13 = (xA (xA X 47 x1.toNatClampNeg x5) 48 x1.toNatClampNeg x9).2 27 p1.toNatClampNeg → (vp_in x1 49 ∧ (vp_in p1 7 ∧ (∀ x17 : Int32, x17 = (xA (xA (xA X 47 x1.toNatClampNeg x5) 48 x1.toNatClampNeg x9) 49 x1.toNatClampNeg x13).2 26 p1.toNatClampNeg → (vp_in x1 49 ∧ LFx (fx_X12_keepOwn_57  Qx) (p1, x1, (0 : Int32)) (xA (xA (xA (xA X 47 x1.toNatClampNeg x5) 48 x1.toNatClampNeg x9) 49 x1.toNatClampNeg x13) 50 x1.toNatClampNeg x17))))))))))))))
set_option maxHeartbeats 4000000 in
set_option maxRecDepth 100000 in
theorem x_X12_keepOwn {m : Nat} {ad : Nat → Nat} {p1 : Int32} {σ : Sto} {X : Xc} {Q : Sto → Prop} {Qx : Xc → Prop} (hR : RefC m ad σ X) (h : wx_X12_keepOwn p1 X Qx) (hQ : ∀ (σ' : Sto) (X' : Xc), Qx X' → RefC m ad σ' X' → Fi m ad σ σ' → Q σ') : wp_X12_keepOwn m p1 σ Q := by
  have F : Fi m ad σ σ := Fi.rf
  unfold wx_X12_keepOwn at h
  unfold wp_X12_keepOwn
  intro x1 e2
  have h := h x1 e2
  refine ⟨hR.1.1, ?_⟩
  have a3 : sP σ m 47 = some (ad 47) := hR.P (k := 47) (by decide)
  have a4 : sP σ m 24 = some (ad 24) := hR.P (k := 24) (by decide)
  refine ⟨ad 24, a4, ?_⟩
  refine ⟨hR.K (k := 24) (by decide), ?_⟩
  refine ⟨hR.N (k := 24) (by decide) h.1, ?_⟩
  have h := h.2
  intro x5 e6
  rw [hR.2.2 24 (by decide)] at e6
  have h := h x5 e6
  refine ⟨ad 47, a3, ?_⟩
  refine ⟨hR.K (k := 47) (by decide), ?_⟩
  refine ⟨hR.N (k := 47) (by decide) h.1, ?_⟩
  have h := h.2
  have F := F.A (k := 47) (i := x1.toNatClampNeg) (v := x5) (by decide)
  have hR := hR.A (k := 47) (i := x1.toNatClampNeg) (v := x5) (by decide)
  have a7 : sP σ m 48 = some (ad 48) := hR.P (k := 48) (by decide)
  have a8 : sP σ m 25 = some (ad 25) := hR.P (k := 25) (by decide)
  refine ⟨ad 25, a8, ?_⟩
  refine ⟨hR.K (k := 25) (by decide), ?_⟩
  refine ⟨hR.N (k := 25) (by decide) h.1, ?_⟩
  have h := h.2
  intro x9 e10
  rw [hR.2.2 25 (by decide)] at e10
  have h := h x9 e10
  refine ⟨ad 48, a7, ?_⟩
  refine ⟨hR.K (k := 48) (by decide), ?_⟩
  refine ⟨hR.N (k := 48) (by decide) h.1, ?_⟩
  have h := h.2
  have F := F.A (k := 48) (i := x1.toNatClampNeg) (v := x9) (by decide)
  have hR := hR.A (k := 48) (i := x1.toNatClampNeg) (v := x9) (by decide)
  have a11 : sP σ m 49 = some (ad 49) := hR.P (k := 49) (by decide)
  have a12 : sP σ m 27 = some (ad 27) := hR.P (k := 27) (by decide)
  refine ⟨ad 27, a12, ?_⟩
  refine ⟨hR.K (k := 27) (by decide), ?_⟩
  refine ⟨hR.N (k := 27) (by decide) h.1, ?_⟩
  have h := h.2
  intro x13 e14
  rw [hR.2.2 27 (by decide)] at e14
  have h := h x13 e14
  refine ⟨ad 49, a11, ?_⟩
  refine ⟨hR.K (k := 49) (by decide), ?_⟩
  refine ⟨hR.N (k := 49) (by decide) h.1, ?_⟩
  have h := h.2
  have F := F.A (k := 49) (i := x1.toNatClampNeg) (v := x13) (by decide)
  have hR := hR.A (k := 49) (i := x1.toNatClampNeg) (v := x13) (by decide)
  have a15 : sP σ m 50 = some (ad 50) := hR.P (k := 50) (by decide)
  have a16 : sP σ m 26 = some (ad 26) := hR.P (k := 26) (by decide)
  refine ⟨ad 26, a16, ?_⟩
  refine ⟨hR.K (k := 26) (by decide), ?_⟩
  refine ⟨hR.N (k := 26) (by decide) h.1, ?_⟩
  have h := h.2
  intro x17 e18
  rw [hR.2.2 26 (by decide)] at e18
  have h := h x17 e18
  refine ⟨ad 50, a15, ?_⟩
  refine ⟨hR.K (k := 50) (by decide), ?_⟩
  refine ⟨hR.N (k := 50) (by decide) h.1, ?_⟩
  have h := h.2
  have F := F.A (k := 50) (i := x1.toNatClampNeg) (v := x17) (by decide)
  have hR := hR.A (k := 50) (i := x1.toNatClampNeg) (v := x17) (by decide)
  exact lfx h hR F (fun Lx L hL t σ X hR F h => xf_X12_keepOwn_57 hQ  hL t σ X hR F h)
def bx_X12_findBest_122 (Lx22 : Int32 × Int32 → Xc → Prop) (Qx : Xc → Prop) (p1 : Int32) (p2 : Int32) (X : Xc) : Prop := (∀ x1 : Int32, x1 = p2 + (1 : Int32) → Lx22 (p1, x1) X)
set_option maxHeartbeats 4000000 in
set_option maxRecDepth 100000 in
theorem xb_X12_findBest_122 {m : Nat} {ad : Nat → Nat} {σ0 : Sto} {Lx22 : Int32 × Int32 → Xc → Prop} {L22 : Int32 × Int32 → Sto → Prop} {Q : Sto → Prop} {Qx : Xc → Prop} (hQ : ∀ (σ' : Sto) (X' : Xc), Qx X' → RefC m ad σ' X' → Fi m ad σ0 σ' → Q σ') (hL22 : ∀ (t : Int32 × Int32) (σ : Sto) (X : Xc), Lx22 t X → RefC m ad σ X → Fi m ad σ0 σ → L22 t σ) (p1 : Int32) (p2 : Int32) (σ : Sto) (X : Xc) (hR : RefC m ad σ X) (F : Fi m ad σ0 σ) (h : bx_X12_findBest_122 Lx22 Qx p1 p2 X) : b_X12_findBest_122 m L22 Q p1 p2 σ := by
  unfold bx_X12_findBest_122 at h
  unfold b_X12_findBest_122
  intro x1 e2
  have h := h x1 e2
  exact hL22 _ _ _ h hR F
def bx_X12_findBest_102 (Lx22 : Int32 × Int32 → Xc → Prop) (Qx : Xc → Prop) (p1 : Int32) (p2 : Int32) (p3 : Int32) (X : Xc) : Prop := (vp_in p3 49 ∧ (∀ x2 : Int32, x2 = X.2 47 p3.toNatClampNeg → (vp_in p3 49 ∧ (∀ x5 : Int32, x5 = (xS X 97 x2).2 48 p3.toNatClampNeg → bx_X12_findBest_122 Lx22 Qx p1 p2 (xS (xS X 97 x2) 98 x5)))))
set_option maxHeartbeats 4000000 in
set_option maxRecDepth 100000 in
theorem xb_X12_findBest_102 {m : Nat} {ad : Nat → Nat} {σ0 : Sto} {Lx22 : Int32 × Int32 → Xc → Prop} {L22 : Int32 × Int32 → Sto → Prop} {Q : Sto → Prop} {Qx : Xc → Prop} (hQ : ∀ (σ' : Sto) (X' : Xc), Qx X' → RefC m ad σ' X' → Fi m ad σ0 σ' → Q σ') (hL22 : ∀ (t : Int32 × Int32) (σ : Sto) (X : Xc), Lx22 t X → RefC m ad σ X → Fi m ad σ0 σ → L22 t σ) (p1 : Int32) (p2 : Int32) (p3 : Int32) (σ : Sto) (X : Xc) (hR : RefC m ad σ X) (F : Fi m ad σ0 σ) (h : bx_X12_findBest_102 Lx22 Qx p1 p2 p3 X) : b_X12_findBest_102 m L22 Q p1 p2 p3 σ := by
  unfold bx_X12_findBest_102 at h
  unfold b_X12_findBest_102
  refine ⟨hR.1.1, ?_⟩
  have a1 : sP σ m 47 = some (ad 47) := hR.P (k := 47) (by decide)
  refine ⟨ad 47, a1, ?_⟩
  refine ⟨hR.K (k := 47) (by decide), ?_⟩
  refine ⟨hR.N (k := 47) (by decide) h.1, ?_⟩
  have h := h.2
  intro x2 e3
  rw [hR.2.2 47 (by decide)] at e3
  have h := h x2 e3
  have F := F.S (k := 97) (v := x2)
  have hR := hR.S (k := 97) (v := x2)
  have a4 : sP σ m 48 = some (ad 48) := hR.P (k := 48) (by decide)
  refine ⟨ad 48, a4, ?_⟩
  refine ⟨hR.K (k := 48) (by decide), ?_⟩
  refine ⟨hR.N (k := 48) (by decide) h.1, ?_⟩
  have h := h.2
  intro x5 e6
  rw [hR.2.2 48 (by decide)] at e6
  have h := h x5 e6
  have F := F.S (k := 98) (v := x5)
  have hR := hR.S (k := 98) (v := x5)
  exact xb_X12_findBest_122 hQ hL22 p1 p2 _ _ hR F h
def bx_X12_findBest_56 (Lx22 : Int32 × Int32 → Xc → Prop) (Qx : Xc → Prop) (p1 : Int32) (p2 : Int32) (p3 : Int32) (s0 : Int32) (X : Xc) : Prop := ((s0 = 0 → bx_X12_findBest_122 Lx22 Qx p1 p2 X) ∧ (¬ s0 = 0 → (vp_in p3 49 ∧ (∀ x3 : Int32, x3 = X.2 48 p3.toNatClampNeg → (∀ x5 : Int32, x5 = X.1 98 → ((x5 < x3 → bx_X12_findBest_102 Lx22 Qx p1 p2 p3 X) ∧ (¬ x5 < x3 → (vp_in p3 49 ∧ (∀ x9 : Int32, x9 = X.2 48 p3.toNatClampNeg → (∀ x11 : Int32, x11 = X.1 98 → ((¬ x9 = x11 → bx_X12_findBest_122 Lx22 Qx p1 p2 X) ∧ (x9 = x11 → (vp_in p3 49 ∧ (∀ x15 : Int32, x15 = X.2 47 p3.toNatClampNeg → (∀ x17 : Int32, x17 = X.1 97 → ((x15 ≤ x17 → bx_X12_findBest_122 Lx22 Qx p1 p2 X) ∧ (¬ x15 ≤ x17 → bx_X12_findBest_102 Lx22 Qx p1 p2 p3 X)))))))))))))))))
set_option maxHeartbeats 4000000 in
set_option maxRecDepth 100000 in
theorem xb_X12_findBest_56 {m : Nat} {ad : Nat → Nat} {σ0 : Sto} {Lx22 : Int32 × Int32 → Xc → Prop} {L22 : Int32 × Int32 → Sto → Prop} {Q : Sto → Prop} {Qx : Xc → Prop} (hQ : ∀ (σ' : Sto) (X' : Xc), Qx X' → RefC m ad σ' X' → Fi m ad σ0 σ' → Q σ') (hL22 : ∀ (t : Int32 × Int32) (σ : Sto) (X : Xc), Lx22 t X → RefC m ad σ X → Fi m ad σ0 σ → L22 t σ) (p1 : Int32) (p2 : Int32) (p3 : Int32) (s0 : Int32) (σ : Sto) (X : Xc) (hR : RefC m ad σ X) (F : Fi m ad σ0 σ) (h : bx_X12_findBest_56 Lx22 Qx p1 p2 p3 s0 X) : b_X12_findBest_56 m L22 Q p1 p2 p3 s0 σ := by
  unfold bx_X12_findBest_56 at h
  unfold b_X12_findBest_56
  refine ⟨fun c1 => ?_, fun c1 => ?_⟩
  · have h := h.1 c1
    exact xb_X12_findBest_122 hQ hL22 p1 p2 _ _ hR F h
  · have h := h.2 c1
    refine ⟨hR.1.1, ?_⟩
    have a2 : sP σ m 48 = some (ad 48) := hR.P (k := 48) (by decide)
    refine ⟨ad 48, a2, ?_⟩
    refine ⟨hR.K (k := 48) (by decide), ?_⟩
    refine ⟨hR.N (k := 48) (by decide) h.1, ?_⟩
    have h := h.2
    intro x3 e4
    rw [hR.2.2 48 (by decide)] at e4
    have h := h x3 e4
    intro x5 e6
    rw [hR.2.1 98] at e6
    have h := h x5 e6
    refine ⟨fun c7 => ?_, fun c7 => ?_⟩
    · have h := h.1 c7
      exact xb_X12_findBest_102 hQ hL22 p1 p2 p3 _ _ hR F h
    · have h := h.2 c7
      have a8 : sP σ m 48 = some (ad 48) := hR.P (k := 48) (by decide)
      refine ⟨hR.N (k := 48) (by decide) h.1, ?_⟩
      have h := h.2
      intro x9 e10
      rw [hR.2.2 48 (by decide)] at e10
      have h := h x9 e10
      intro x11 e12
      rw [hR.2.1 98] at e12
      have h := h x11 e12
      refine ⟨fun c13 => ?_, fun c13 => ?_⟩
      · have h := h.1 c13
        exact xb_X12_findBest_122 hQ hL22 p1 p2 _ _ hR F h
      · have h := h.2 c13
        have a14 : sP σ m 47 = some (ad 47) := hR.P (k := 47) (by decide)
        refine ⟨ad 47, a14, ?_⟩
        refine ⟨hR.K (k := 47) (by decide), ?_⟩
        refine ⟨hR.N (k := 47) (by decide) h.1, ?_⟩
        have h := h.2
        intro x15 e16
        rw [hR.2.2 47 (by decide)] at e16
        have h := h x15 e16
        intro x17 e18
        rw [hR.2.1 97] at e18
        have h := h x17 e18
        refine ⟨fun c19 => ?_, fun c19 => ?_⟩
        · have h := h.1 c19
          exact xb_X12_findBest_122 hQ hL22 p1 p2 _ _ hR F h
        · have h := h.2 c19
          exact xb_X12_findBest_102 hQ hL22 p1 p2 p3 _ _ hR F h
def fx_X12_findBest_22 (Qx : Xc → Prop) (Lx22 : Int32 × Int32 → Xc → Prop) (t : Int32 × Int32) (X : Xc) : Prop := (∀ x1 : Int32, x1 = X.1 1 → ((x1 ≤ t.2 → Qx X) ∧ (¬ x1 ≤ t.2 → (∀ x4 : Int32, x4 = ((7 : Int32) * t.1) + t.2 → (vp_in t.1 7 ∧ (∀ x7 : Int32, x7 = X.2 46 t.1.toNatClampNeg → ((¬ ((x7 >>> (t.2 &&& 31)) &&& (1 : Int32)) = (1 : Int32) → bx_X12_findBest_56 Lx22 Qx t.1 t.2 x4 (0 : Int32) X) ∧ (((x7 >>> (t.2 &&& 31)) &&& (1 : Int32)) = (1 : Int32) → bx_X12_findBest_56 Lx22 Qx t.1 t.2 x4 (1 : Int32) X))))))))
set_option maxHeartbeats 4000000 in
set_option maxRecDepth 100000 in
theorem xf_X12_findBest_22 {m : Nat} {ad : Nat → Nat} {σ0 : Sto} {Q : Sto → Prop} {Qx : Xc → Prop} {Lx22 : Int32 × Int32 → Xc → Prop} {L22 : Int32 × Int32 → Sto → Prop} (hQ : ∀ (σ' : Sto) (X' : Xc), Qx X' → RefC m ad σ' X' → Fi m ad σ0 σ' → Q σ') (hL22 : ∀ (t : Int32 × Int32) (σ : Sto) (X : Xc), Lx22 t X → RefC m ad σ X → Fi m ad σ0 σ → L22 t σ) : ∀ (t : Int32 × Int32) (σ : Sto) (X : Xc), RefC m ad σ X → Fi m ad σ0 σ → fx_X12_findBest_22  Qx Lx22 t X → f_X12_findBest_22 m  Q L22 t σ := by
  intro t σ X hR F h
  unfold fx_X12_findBest_22 at h
  unfold f_X12_findBest_22
  refine ⟨hR.1.1, ?_⟩
  intro x1 e2
  rw [hR.2.1 1] at e2
  have h := h x1 e2
  refine ⟨fun c3 => ?_, fun c3 => ?_⟩
  · have h := h.1 c3
    exact hQ _ _ h hR F
  · have h := h.2 c3
    intro x4 e5
    have h := h x4 e5
    have a6 : sP σ m 46 = some (ad 46) := hR.P (k := 46) (by decide)
    refine ⟨ad 46, a6, ?_⟩
    refine ⟨hR.K (k := 46) (by decide), ?_⟩
    refine ⟨hR.N (k := 46) (by decide) h.1, ?_⟩
    have h := h.2
    intro x7 e8
    rw [hR.2.2 46 (by decide)] at e8
    have h := h x7 e8
    refine ⟨fun c9 => ?_, fun c9 => ?_⟩
    · have h := h.1 c9
      exact xb_X12_findBest_56 hQ hL22 t.1 t.2 x4 (0 : Int32) _ _ hR F h
    · have h := h.2 c9
      exact xb_X12_findBest_56 hQ hL22 t.1 t.2 x4 (1 : Int32) _ _ hR F h
def wx_X12_findBest (p1 : Int32) (X : Xc) (Qx : Xc → Prop) : Prop := (vp_in p1 7 ∧ (∀ x2 : Int32, x2 = X.2 24 p1.toNatClampNeg → (vp_in p1 7 ∧ (∀ x5 : Int32, x5 = (xS X 97 x2).2 25 p1.toNatClampNeg → LFx (fx_X12_findBest_22  Qx) (p1, (0 : Int32)) (xS (xS X 97 x2) 98 x5)))))
set_option maxHeartbeats 4000000 in
set_option maxRecDepth 100000 in
theorem x_X12_findBest {m : Nat} {ad : Nat → Nat} {p1 : Int32} {σ : Sto} {X : Xc} {Q : Sto → Prop} {Qx : Xc → Prop} (hR : RefC m ad σ X) (h : wx_X12_findBest p1 X Qx) (hQ : ∀ (σ' : Sto) (X' : Xc), Qx X' → RefC m ad σ' X' → Fi m ad σ σ' → Q σ') : wp_X12_findBest m p1 σ Q := by
  have F : Fi m ad σ σ := Fi.rf
  unfold wx_X12_findBest at h
  unfold wp_X12_findBest
  refine ⟨hR.1.1, ?_⟩
  have a1 : sP σ m 24 = some (ad 24) := hR.P (k := 24) (by decide)
  refine ⟨ad 24, a1, ?_⟩
  refine ⟨hR.K (k := 24) (by decide), ?_⟩
  refine ⟨hR.N (k := 24) (by decide) h.1, ?_⟩
  have h := h.2
  intro x2 e3
  rw [hR.2.2 24 (by decide)] at e3
  have h := h x2 e3
  have F := F.S (k := 97) (v := x2)
  have hR := hR.S (k := 97) (v := x2)
  have a4 : sP σ m 25 = some (ad 25) := hR.P (k := 25) (by decide)
  refine ⟨ad 25, a4, ?_⟩
  refine ⟨hR.K (k := 25) (by decide), ?_⟩
  refine ⟨hR.N (k := 25) (by decide) h.1, ?_⟩
  have h := h.2
  intro x5 e6
  rw [hR.2.2 25 (by decide)] at e6
  have h := h x5 e6
  have F := F.S (k := 98) (v := x5)
  have hR := hR.S (k := 98) (v := x5)
  exact lfx h hR F (fun Lx L hL t σ X hR F h => xf_X12_findBest_22 hQ  hL t σ X hR F h)
def wx_X12_inTurn (p0 : Int32) (p1 : Int32) (X : Xc) (Qx : Int32 → Xc → Prop) : Prop := ((¬ p1 = 0 → ((p0 < p1 → Qx p1 X) ∧ (¬ p0 < p1 → Qx (p1 - (1 : Int32)) X))) ∧ (p1 = 0 → Qx p0 X))
set_option maxHeartbeats 4000000 in
set_option maxRecDepth 100000 in
theorem x_X12_inTurn {m : Nat} {ad : Nat → Nat} {p0 : Int32} {p1 : Int32} {σ : Sto} {X : Xc} {Q : Int32 → Sto → Prop} {Qx : Int32 → Xc → Prop} (hR : RefC m ad σ X) (h : wx_X12_inTurn p0 p1 X Qx) (hQ : ∀ (r : Int32) (σ' : Sto) (X' : Xc), Qx r X' → RefC m ad σ' X' → Fi m ad σ σ' → Q r σ') : wp_X12_inTurn p0 p1 σ Q := by
  have F : Fi m ad σ σ := Fi.rf
  unfold wx_X12_inTurn at h
  unfold wp_X12_inTurn
  refine ⟨fun c1 => ?_, fun c1 => ?_⟩
  · have h := h.1 c1
    refine ⟨fun c2 => ?_, fun c2 => ?_⟩
    · have h := h.1 c2
      exact hQ _ _ _ h hR F
    · have h := h.2 c2
      exact hQ _ _ _ h hR F
  · have h := h.2 c1
    exact hQ _ _ _ h hR F
def bx_X12_isLookedAt_31 (Qx : Int32 → Xc → Prop) (p3 : Int32) (s0 : Int32) (X : Xc) : Prop := ((s0 = 0 → Qx (0 : Int32) X) ∧ (¬ s0 = 0 → (vp_in p3 49 ∧ (∀ x3 : Int32, x3 = X.2 47 p3.toNatClampNeg → (∀ x5 : Int32, x5 = X.1 97 → ((¬ x3 = x5 → Qx (0 : Int32) X) ∧ (x3 = x5 → (vp_in p3 49 ∧ (∀ x9 : Int32, x9 = X.2 48 p3.toNatClampNeg → (∀ x11 : Int32, x11 = X.1 98 → ((¬ x9 = x11 → Qx (0 : Int32) X) ∧ (x9 = x11 → Qx (1 : Int32) X))))))))))))
set_option maxHeartbeats 4000000 in
set_option maxRecDepth 100000 in
theorem xb_X12_isLookedAt_31 {m : Nat} {ad : Nat → Nat} {σ0 : Sto} {Q : Int32 → Sto → Prop} {Qx : Int32 → Xc → Prop} (hQ : ∀ (r : Int32) (σ' : Sto) (X' : Xc), Qx r X' → RefC m ad σ' X' → Fi m ad σ0 σ' → Q r σ')  (p3 : Int32) (s0 : Int32) (σ : Sto) (X : Xc) (hR : RefC m ad σ X) (F : Fi m ad σ0 σ) (h : bx_X12_isLookedAt_31  Qx p3 s0 X) : b_X12_isLookedAt_31 m  Q p3 s0 σ := by
  unfold bx_X12_isLookedAt_31 at h
  unfold b_X12_isLookedAt_31
  refine ⟨fun c1 => ?_, fun c1 => ?_⟩
  · have h := h.1 c1
    exact hQ _ _ _ h hR F
  · have h := h.2 c1
    refine ⟨hR.1.1, ?_⟩
    have a2 : sP σ m 47 = some (ad 47) := hR.P (k := 47) (by decide)
    refine ⟨ad 47, a2, ?_⟩
    refine ⟨hR.K (k := 47) (by decide), ?_⟩
    refine ⟨hR.N (k := 47) (by decide) h.1, ?_⟩
    have h := h.2
    intro x3 e4
    rw [hR.2.2 47 (by decide)] at e4
    have h := h x3 e4
    intro x5 e6
    rw [hR.2.1 97] at e6
    have h := h x5 e6
    refine ⟨fun c7 => ?_, fun c7 => ?_⟩
    · have h := h.1 c7
      exact hQ _ _ _ h hR F
    · have h := h.2 c7
      have a8 : sP σ m 48 = some (ad 48) := hR.P (k := 48) (by decide)
      refine ⟨ad 48, a8, ?_⟩
      refine ⟨hR.K (k := 48) (by decide), ?_⟩
      refine ⟨hR.N (k := 48) (by decide) h.1, ?_⟩
      have h := h.2
      intro x9 e10
      rw [hR.2.2 48 (by decide)] at e10
      have h := h x9 e10
      intro x11 e12
      rw [hR.2.1 98] at e12
      have h := h x11 e12
      refine ⟨fun c13 => ?_, fun c13 => ?_⟩
      · have h := h.1 c13
        exact hQ _ _ _ h hR F
      · have h := h.2 c13
        exact hQ _ _ _ h hR F
def bx_X12_isLookedAt_26 (Qx : Int32 → Xc → Prop) (p3 : Int32) (X : Xc) : Prop := bx_X12_isLookedAt_31  Qx p3 (1 : Int32) X
set_option maxHeartbeats 4000000 in
set_option maxRecDepth 100000 in
theorem xb_X12_isLookedAt_26 {m : Nat} {ad : Nat → Nat} {σ0 : Sto} {Q : Int32 → Sto → Prop} {Qx : Int32 → Xc → Prop} (hQ : ∀ (r : Int32) (σ' : Sto) (X' : Xc), Qx r X' → RefC m ad σ' X' → Fi m ad σ0 σ' → Q r σ')  (p3 : Int32) (σ : Sto) (X : Xc) (hR : RefC m ad σ X) (F : Fi m ad σ0 σ) (h : bx_X12_isLookedAt_26  Qx p3 X) : b_X12_isLookedAt_26 m  Q p3 σ := by
  unfold bx_X12_isLookedAt_26 at h
  unfold b_X12_isLookedAt_26
  exact xb_X12_isLookedAt_31 hQ  p3 (1 : Int32) _ _ hR F h
def wx_X12_isLookedAt (p1 : Int32) (p2 : Int32) (X : Xc) (Qx : Int32 → Xc → Prop) : Prop := (∀ x1 : Int32, x1 = ((7 : Int32) * p1) + p2 → ((p2 = p1 → bx_X12_isLookedAt_26  Qx x1 X) ∧ (¬ p2 = p1 → (vp_in p1 7 ∧ (∀ x5 : Int32, x5 = X.2 46 p1.toNatClampNeg → ((¬ ((x5 >>> (p2 &&& 31)) &&& (1 : Int32)) = (1 : Int32) → bx_X12_isLookedAt_31  Qx x1 (0 : Int32) X) ∧ (((x5 >>> (p2 &&& 31)) &&& (1 : Int32)) = (1 : Int32) → bx_X12_isLookedAt_26  Qx x1 X)))))))
set_option maxHeartbeats 4000000 in
set_option maxRecDepth 100000 in
theorem x_X12_isLookedAt {m : Nat} {ad : Nat → Nat} {p1 : Int32} {p2 : Int32} {σ : Sto} {X : Xc} {Q : Int32 → Sto → Prop} {Qx : Int32 → Xc → Prop} (hR : RefC m ad σ X) (h : wx_X12_isLookedAt p1 p2 X Qx) (hQ : ∀ (r : Int32) (σ' : Sto) (X' : Xc), Qx r X' → RefC m ad σ' X' → Fi m ad σ σ' → Q r σ') : wp_X12_isLookedAt m p1 p2 σ Q := by
  have F : Fi m ad σ σ := Fi.rf
  unfold wx_X12_isLookedAt at h
  unfold wp_X12_isLookedAt
  intro x1 e2
  have h := h x1 e2
  refine ⟨fun c3 => ?_, fun c3 => ?_⟩
  · have h := h.1 c3
    exact xb_X12_isLookedAt_26 hQ  x1 _ _ hR F h
  · have h := h.2 c3
    refine ⟨hR.1.1, ?_⟩
    have a4 : sP σ m 46 = some (ad 46) := hR.P (k := 46) (by decide)
    refine ⟨ad 46, a4, ?_⟩
    refine ⟨hR.K (k := 46) (by decide), ?_⟩
    refine ⟨hR.N (k := 46) (by decide) h.1, ?_⟩
    have h := h.2
    intro x5 e6
    rw [hR.2.2 46 (by decide)] at e6
    have h := h x5 e6
    refine ⟨fun c7 => ?_, fun c7 => ?_⟩
    · have h := h.1 c7
      exact xb_X12_isLookedAt_31 hQ  x1 (0 : Int32) _ _ hR F h
    · have h := h.2 c7
      exact xb_X12_isLookedAt_26 hQ  x1 _ _ hR F h
def bx_X12_mergeSlot_138 (Qx : Xc → Prop) (p3 : Int32) (p4 : Int32) (p5 : Int32) (s0 : Int32) (s1 : Int32) (X : Xc) : Prop := (vp_in s1 700 ∧ ((p3 = 0 → (vp_in p4 4900 ∧ (∀ x4 : Int32, x4 = (xA X 30 s1.toNatClampNeg (vp_nar .boolean s0)).2 52 p4.toNatClampNeg → (vp_in p5 700 ∧ (vp_in p4 4900 ∧ (∀ x8 : Int32, x8 = (xA (xA X 30 s1.toNatClampNeg (vp_nar .boolean s0)) 31 p5.toNatClampNeg x4).2 53 p4.toNatClampNeg → (vp_in p5 700 ∧ (vp_in p4 4900 ∧ (∀ x12 : Int32, x12 = (xA (xA (xA X 30 s1.toNatClampNeg (vp_nar .boolean s0)) 31 p5.toNatClampNeg x4) 32 p5.toNatClampNeg x8).2 54 p4.toNatClampNeg → (vp_in p5 700 ∧ (vp_in p4 4900 ∧ (∀ x16 : Int32, x16 = (xA (xA (xA (xA X 30 s1.toNatClampNeg (vp_nar .boolean s0)) 31 p5.toNatClampNeg x4) 32 p5.toNatClampNeg x8) 33 p5.toNatClampNeg x12).2 55 p4.toNatClampNeg → (vp_in p5 700 ∧ (vp_in p4 4900 ∧ (∀ x20 : Int32, x20 = (xA (xA (xA (xA (xA X 30 s1.toNatClampNeg (vp_nar .boolean s0)) 31 p5.toNatClampNeg x4) 32 p5.toNatClampNeg x8) 33 p5.toNatClampNeg x12) 34 p5.toNatClampNeg x16).2 56 p4.toNatClampNeg → (vp_in p5 700 ∧ Qx (xA (xA (xA (xA (xA (xA X 30 s1.toNatClampNeg (vp_nar .boolean s0)) 31 p5.toNatClampNeg x4) 32 p5.toNatClampNeg x8) 33 p5.toNatClampNeg x12) 34 p5.toNatClampNeg x16) 35 p5.toNatClampNeg x20))))))))))))))))) ∧ (¬ p3 = 0 → Qx (xA X 30 s1.toNatClampNeg (vp_nar .boolean s0)))))
set_option maxHeartbeats 4000000 in
set_option maxRecDepth 100000 in
theorem xb_X12_mergeSlot_138 {m : Nat} {ad : Nat → Nat} {σ0 : Sto} {Q : Sto → Prop} {Qx : Xc → Prop} (hQ : ∀ (σ' : Sto) (X' : Xc), Qx X' → RefC m ad σ' X' → Fi m ad σ0 σ' → Q σ')  (p3 : Int32) (p4 : Int32) (p5 : Int32) (s0 : Int32) (s1 : Int32) (σ : Sto) (X : Xc) (hR : RefC m ad σ X) (F : Fi m ad σ0 σ) (h : bx_X12_mergeSlot_138  Qx p3 p4 p5 s0 s1 X) : b_X12_mergeSlot_138 m  Q p3 p4 p5 s0 s1 (some (ad 30)) σ := by
  unfold bx_X12_mergeSlot_138 at h
  unfold b_X12_mergeSlot_138
  refine ⟨ad 30, rfl, ?_⟩
  refine ⟨hR.K (k := 30) (by decide), ?_⟩
  refine ⟨hR.N (k := 30) (by decide) h.1, ?_⟩
  have h := h.2
  have F := F.A (k := 30) (i := s1.toNatClampNeg) (v := (vp_nar .boolean s0)) (by decide)
  have hR := hR.A (k := 30) (i := s1.toNatClampNeg) (v := (vp_nar .boolean s0)) (by decide)
  refine ⟨fun c1 => ?_, fun c1 => ?_⟩
  · have h := h.1 c1
    refine ⟨hR.1.1, ?_⟩
    have a2 : sP σ m 31 = some (ad 31) := hR.P (k := 31) (by decide)
    have a3 : sP σ m 52 = some (ad 52) := hR.P (k := 52) (by decide)
    refine ⟨ad 52, a3, ?_⟩
    refine ⟨hR.K (k := 52) (by decide), ?_⟩
    refine ⟨hR.N (k := 52) (by decide) h.1, ?_⟩
    have h := h.2
    intro x4 e5
    rw [hR.2.2 52 (by decide)] at e5
    have h := h x4 e5
    refine ⟨ad 31, a2, ?_⟩
    refine ⟨hR.K (k := 31) (by decide), ?_⟩
    refine ⟨hR.N (k := 31) (by decide) h.1, ?_⟩
    have h := h.2
    have F := F.A (k := 31) (i := p5.toNatClampNeg) (v := x4) (by decide)
    have hR := hR.A (k := 31) (i := p5.toNatClampNeg) (v := x4) (by decide)
    have a6 : sP σ m 32 = some (ad 32) := hR.P (k := 32) (by decide)
    have a7 : sP σ m 53 = some (ad 53) := hR.P (k := 53) (by decide)
    refine ⟨ad 53, a7, ?_⟩
    refine ⟨hR.K (k := 53) (by decide), ?_⟩
    refine ⟨hR.N (k := 53) (by decide) h.1, ?_⟩
    have h := h.2
    intro x8 e9
    rw [hR.2.2 53 (by decide)] at e9
    have h := h x8 e9
    refine ⟨ad 32, a6, ?_⟩
    refine ⟨hR.K (k := 32) (by decide), ?_⟩
    refine ⟨hR.N (k := 32) (by decide) h.1, ?_⟩
    have h := h.2
    have F := F.A (k := 32) (i := p5.toNatClampNeg) (v := x8) (by decide)
    have hR := hR.A (k := 32) (i := p5.toNatClampNeg) (v := x8) (by decide)
    have a10 : sP σ m 33 = some (ad 33) := hR.P (k := 33) (by decide)
    have a11 : sP σ m 54 = some (ad 54) := hR.P (k := 54) (by decide)
    refine ⟨ad 54, a11, ?_⟩
    refine ⟨hR.K (k := 54) (by decide), ?_⟩
    refine ⟨hR.N (k := 54) (by decide) h.1, ?_⟩
    have h := h.2
    intro x12 e13
    rw [hR.2.2 54 (by decide)] at e13
    have h := h x12 e13
    refine ⟨ad 33, a10, ?_⟩
    refine ⟨hR.K (k := 33) (by decide), ?_⟩
    refine ⟨hR.N (k := 33) (by decide) h.1, ?_⟩
    have h := h.2
    have F := F.A (k := 33) (i := p5.toNatClampNeg) (v := x12) (by decide)
    have hR := hR.A (k := 33) (i := p5.toNatClampNeg) (v := x12) (by decide)
    have a14 : sP σ m 34 = some (ad 34) := hR.P (k := 34) (by decide)
    have a15 : sP σ m 55 = some (ad 55) := hR.P (k := 55) (by decide)
    refine ⟨ad 55, a15, ?_⟩
    refine ⟨hR.K (k := 55) (by decide), ?_⟩
    refine ⟨hR.N (k := 55) (by decide) h.1, ?_⟩
    have h := h.2
    intro x16 e17
    rw [hR.2.2 55 (by decide)] at e17
    have h := h x16 e17
    refine ⟨ad 34, a14, ?_⟩
    refine ⟨hR.K (k := 34) (by decide), ?_⟩
    refine ⟨hR.N (k := 34) (by decide) h.1, ?_⟩
    have h := h.2
    have F := F.A (k := 34) (i := p5.toNatClampNeg) (v := x16) (by decide)
    have hR := hR.A (k := 34) (i := p5.toNatClampNeg) (v := x16) (by decide)
    have a18 : sP σ m 35 = some (ad 35) := hR.P (k := 35) (by decide)
    have a19 : sP σ m 56 = some (ad 56) := hR.P (k := 56) (by decide)
    refine ⟨ad 56, a19, ?_⟩
    refine ⟨hR.K (k := 56) (by decide), ?_⟩
    refine ⟨hR.N (k := 56) (by decide) h.1, ?_⟩
    have h := h.2
    intro x20 e21
    rw [hR.2.2 56 (by decide)] at e21
    have h := h x20 e21
    refine ⟨ad 35, a18, ?_⟩
    refine ⟨hR.K (k := 35) (by decide), ?_⟩
    refine ⟨hR.N (k := 35) (by decide) h.1, ?_⟩
    have h := h.2
    have F := F.A (k := 35) (i := p5.toNatClampNeg) (v := x20) (by decide)
    have hR := hR.A (k := 35) (i := p5.toNatClampNeg) (v := x20) (by decide)
    exact hQ _ _ h hR F
  · have h := h.2 c1
    exact hQ _ _ h hR F
def bx_X12_mergeSlot_109 (Lx8 : Int32 × Int32 × Int32 × Int32 × Int32 → Xc → Prop) (Qx : Xc → Prop) (p1 : Int32) (p2 : Int32) (p3 : Int32) (p4 : Int32) (p5 : Int32) (X : Xc) : Prop := (∀ x1 : Int32, x1 = p5 + (1 : Int32) → Lx8 (p1, p2, p3, p4, x1) X)
set_option maxHeartbeats 4000000 in
set_option maxRecDepth 100000 in
theorem xb_X12_mergeSlot_109 {m : Nat} {ad : Nat → Nat} {σ0 : Sto} {Lx8 : Int32 × Int32 × Int32 × Int32 × Int32 → Xc → Prop} {L8 : Int32 × Int32 × Int32 × Int32 × Int32 → Sto → Prop} {Q : Sto → Prop} {Qx : Xc → Prop} (hQ : ∀ (σ' : Sto) (X' : Xc), Qx X' → RefC m ad σ' X' → Fi m ad σ0 σ' → Q σ') (hL8 : ∀ (t : Int32 × Int32 × Int32 × Int32 × Int32) (σ : Sto) (X : Xc), Lx8 t X → RefC m ad σ X → Fi m ad σ0 σ → L8 t σ) (p1 : Int32) (p2 : Int32) (p3 : Int32) (p4 : Int32) (p5 : Int32) (σ : Sto) (X : Xc) (hR : RefC m ad σ X) (F : Fi m ad σ0 σ) (h : bx_X12_mergeSlot_109 Lx8 Qx p1 p2 p3 p4 p5 X) : b_X12_mergeSlot_109 m L8 Q p1 p2 p3 p4 p5 σ := by
  unfold bx_X12_mergeSlot_109 at h
  unfold b_X12_mergeSlot_109
  intro x1 e2
  have h := h x1 e2
  exact hL8 _ _ _ h hR F
def bx_X12_mergeSlot_107 (Lx8 : Int32 × Int32 × Int32 × Int32 × Int32 → Xc → Prop) (Qx : Xc → Prop) (p1 : Int32) (p2 : Int32) (p3 : Int32) (p5 : Int32) (s0 : Int32) (X : Xc) : Prop := bx_X12_mergeSlot_109 Lx8 Qx p1 p2 p3 s0 p5 X
set_option maxHeartbeats 4000000 in
set_option maxRecDepth 100000 in
theorem xb_X12_mergeSlot_107 {m : Nat} {ad : Nat → Nat} {σ0 : Sto} {Lx8 : Int32 × Int32 × Int32 × Int32 × Int32 → Xc → Prop} {L8 : Int32 × Int32 × Int32 × Int32 × Int32 → Sto → Prop} {Q : Sto → Prop} {Qx : Xc → Prop} (hQ : ∀ (σ' : Sto) (X' : Xc), Qx X' → RefC m ad σ' X' → Fi m ad σ0 σ' → Q σ') (hL8 : ∀ (t : Int32 × Int32 × Int32 × Int32 × Int32) (σ : Sto) (X : Xc), Lx8 t X → RefC m ad σ X → Fi m ad σ0 σ → L8 t σ) (p1 : Int32) (p2 : Int32) (p3 : Int32) (p5 : Int32) (s0 : Int32) (σ : Sto) (X : Xc) (hR : RefC m ad σ X) (F : Fi m ad σ0 σ) (h : bx_X12_mergeSlot_107 Lx8 Qx p1 p2 p3 p5 s0 X) : b_X12_mergeSlot_107 m L8 Q p1 p2 p3 p5 s0 σ := by
  unfold bx_X12_mergeSlot_107 at h
  unfold b_X12_mergeSlot_107
  exact xb_X12_mergeSlot_109 hQ hL8 p1 p2 p3 s0 p5 _ _ hR F h
def bx_X12_mergeSlot_105 (Lx8 : Int32 × Int32 × Int32 × Int32 × Int32 → Xc → Prop) (Qx : Xc → Prop) (p1 : Int32) (p2 : Int32) (p3 : Int32) (p4 : Int32) (p5 : Int32) (X : Xc) : Prop := bx_X12_mergeSlot_107 Lx8 Qx p1 p2 p3 p5 p4 X
set_option maxHeartbeats 4000000 in
set_option maxRecDepth 100000 in
theorem xb_X12_mergeSlot_105 {m : Nat} {ad : Nat → Nat} {σ0 : Sto} {Lx8 : Int32 × Int32 × Int32 × Int32 × Int32 → Xc → Prop} {L8 : Int32 × Int32 × Int32 × Int32 × Int32 → Sto → Prop} {Q : Sto → Prop} {Qx : Xc → Prop} (hQ : ∀ (σ' : Sto) (X' : Xc), Qx X' → RefC m ad σ' X' → Fi m ad σ0 σ' → Q σ') (hL8 : ∀ (t : Int32 × Int32 × Int32 × Int32 × Int32) (σ : Sto) (X : Xc), Lx8 t X → RefC m ad σ X → Fi m ad σ0 σ → L8 t σ) (p1 : Int32) (p2 : Int32) (p3 : Int32) (p4 : Int32) (p5 : Int32) (σ : Sto) (X : Xc) (hR : RefC m ad σ X) (F : Fi m ad σ0 σ) (h : bx_X12_mergeSlot_105 Lx8 Qx p1 p2 p3 p4 p5 X) : b_X12_mergeSlot_105 m L8 Q p1 p2 p3 p4 p5 σ := by
  unfold bx_X12_mergeSlot_105 at h
  unfold b_X12_mergeSlot_105
  exact xb_X12_mergeSlot_107 hQ hL8 p1 p2 p3 p5 p4 _ _ hR F h
def bx_X12_mergeSlot_83 (Lx8 : Int32 × Int32 × Int32 × Int32 × Int32 → Xc → Prop) (Qx : Xc → Prop) (p1 : Int32) (p2 : Int32) (p4 : Int32) (p5 : Int32) (p8 : Int32) (s0 : Int32) (X : Xc) : Prop := ((¬ p4 = (-1 : Int32) → bx_X12_mergeSlot_105 Lx8 Qx p1 p2 s0 p4 p5 X) ∧ (p4 = (-1 : Int32) → (vp_in p8 4900 ∧ (∀ x3 : Int32, x3 = X.2 51 p8.toNatClampNeg → ((x3 = 0 → bx_X12_mergeSlot_105 Lx8 Qx p1 p2 s0 p4 p5 X) ∧ (¬ x3 = 0 → bx_X12_mergeSlot_107 Lx8 Qx p1 p2 s0 p5 p8 X))))))
set_option maxHeartbeats 4000000 in
set_option maxRecDepth 100000 in
theorem xb_X12_mergeSlot_83 {m : Nat} {ad : Nat → Nat} {σ0 : Sto} {Lx8 : Int32 × Int32 × Int32 × Int32 × Int32 → Xc → Prop} {L8 : Int32 × Int32 × Int32 × Int32 × Int32 → Sto → Prop} {Q : Sto → Prop} {Qx : Xc → Prop} (hQ : ∀ (σ' : Sto) (X' : Xc), Qx X' → RefC m ad σ' X' → Fi m ad σ0 σ' → Q σ') (hL8 : ∀ (t : Int32 × Int32 × Int32 × Int32 × Int32) (σ : Sto) (X : Xc), Lx8 t X → RefC m ad σ X → Fi m ad σ0 σ → L8 t σ) (p1 : Int32) (p2 : Int32) (p4 : Int32) (p5 : Int32) (p8 : Int32) (s0 : Int32) (σ : Sto) (X : Xc) (hR : RefC m ad σ X) (F : Fi m ad σ0 σ) (h : bx_X12_mergeSlot_83 Lx8 Qx p1 p2 p4 p5 p8 s0 X) : b_X12_mergeSlot_83 m L8 Q p1 p2 p4 p5 p8 s0 σ := by
  unfold bx_X12_mergeSlot_83 at h
  unfold b_X12_mergeSlot_83
  refine ⟨fun c1 => ?_, fun c1 => ?_⟩
  · have h := h.1 c1
    exact xb_X12_mergeSlot_105 hQ hL8 p1 p2 s0 p4 p5 _ _ hR F h
  · have h := h.2 c1
    refine ⟨hR.1.1, ?_⟩
    have a2 : sP σ m 51 = some (ad 51) := hR.P (k := 51) (by decide)
    refine ⟨ad 51, a2, ?_⟩
    refine ⟨hR.K (k := 51) (by decide), ?_⟩
    refine ⟨hR.N (k := 51) (by decide) h.1, ?_⟩
    have h := h.2
    intro x3 e4
    rw [hR.2.2 51 (by decide)] at e4
    have h := h x3 e4
    refine ⟨fun c5 => ?_, fun c5 => ?_⟩
    · have h := h.1 c5
      exact xb_X12_mergeSlot_105 hQ hL8 p1 p2 s0 p4 p5 _ _ hR F h
    · have h := h.2 c5
      exact xb_X12_mergeSlot_107 hQ hL8 p1 p2 s0 p5 p8 _ _ hR F h
def bx_X12_mergeSlot_78 (Lx8 : Int32 × Int32 × Int32 × Int32 × Int32 → Xc → Prop) (Qx : Xc → Prop) (p1 : Int32) (p2 : Int32) (p4 : Int32) (p5 : Int32) (p8 : Int32) (X : Xc) : Prop := bx_X12_mergeSlot_83 Lx8 Qx p1 p2 p4 p5 p8 (1 : Int32) X
set_option maxHeartbeats 4000000 in
set_option maxRecDepth 100000 in
theorem xb_X12_mergeSlot_78 {m : Nat} {ad : Nat → Nat} {σ0 : Sto} {Lx8 : Int32 × Int32 × Int32 × Int32 × Int32 → Xc → Prop} {L8 : Int32 × Int32 × Int32 × Int32 × Int32 → Sto → Prop} {Q : Sto → Prop} {Qx : Xc → Prop} (hQ : ∀ (σ' : Sto) (X' : Xc), Qx X' → RefC m ad σ' X' → Fi m ad σ0 σ' → Q σ') (hL8 : ∀ (t : Int32 × Int32 × Int32 × Int32 × Int32) (σ : Sto) (X : Xc), Lx8 t X → RefC m ad σ X → Fi m ad σ0 σ → L8 t σ) (p1 : Int32) (p2 : Int32) (p4 : Int32) (p5 : Int32) (p8 : Int32) (σ : Sto) (X : Xc) (hR : RefC m ad σ X) (F : Fi m ad σ0 σ) (h : bx_X12_mergeSlot_78 Lx8 Qx p1 p2 p4 p5 p8 X) : b_X12_mergeSlot_78 m L8 Q p1 p2 p4 p5 p8 σ := by
  unfold bx_X12_mergeSlot_78 at h
  unfold b_X12_mergeSlot_78
  exact xb_X12_mergeSlot_83 hQ hL8 p1 p2 p4 p5 p8 (1 : Int32) _ _ hR F h
def fx_X12_mergeSlot_8 (Qx : Xc → Prop) (Lx8 : Int32 × Int32 × Int32 × Int32 × Int32 → Xc → Prop) (t : Int32 × Int32 × Int32 × Int32 × Int32) (X : Xc) : Prop := (∀ x1 : Int32, x1 = X.1 1 → ((x1 ≤ t.2.2.2.2 → (∀ x4 : Int32, x4 = ((100 : Int32) * t.1) + t.2.1 → ((¬ t.2.2.1 = 0 → bx_X12_mergeSlot_138  Qx t.2.2.1 t.2.2.2.1 x4 (0 : Int32) x4 X) ∧ (t.2.2.1 = 0 → bx_X12_mergeSlot_138  Qx t.2.2.1 t.2.2.2.1 x4 (1 : Int32) x4 X)))) ∧ (¬ x1 ≤ t.2.2.2.2 → (wx_X12_inTurn t.1 t.2.2.2.2 X (fun (x8 : Int32) (X10 : Xc) => (∀ x12 : Int32, x12 = ((7 : Int32) * t.1) + x8 → (wx_X12_isLookedAt t.1 x8 X10 (fun (x14 : Int32) (X16 : Xc) => ((x14 = 0 → bx_X12_mergeSlot_109 Lx8 Qx t.1 t.2.1 t.2.2.1 t.2.2.2.1 t.2.2.2.2 X16) ∧ (¬ x14 = 0 → (vp_in x12 49 ∧ (∀ x20 : Int32, x20 = X16.2 50 x12.toNatClampNeg → ((x20 ≤ t.2.1 → bx_X12_mergeSlot_109 Lx8 Qx t.1 t.2.1 t.2.2.1 t.2.2.2.1 t.2.2.2.2 X16) ∧ (¬ x20 ≤ t.2.1 → (∀ x23 : Int32, x23 = ((100 : Int32) * x12) + t.2.1 → ((¬ t.2.2.1 = 0 → bx_X12_mergeSlot_78 Lx8 Qx t.1 t.2.1 t.2.2.2.1 t.2.2.2.2 x23 X16) ∧ (t.2.2.1 = 0 → (vp_in x23 4900 ∧ (∀ x27 : Int32, x27 = X16.2 51 x23.toNatClampNeg → ((¬ x27 = 0 → bx_X12_mergeSlot_83 Lx8 Qx t.1 t.2.1 t.2.2.2.1 t.2.2.2.2 x23 (0 : Int32) X16) ∧ (x27 = 0 → bx_X12_mergeSlot_78 Lx8 Qx t.1 t.2.1 t.2.2.2.1 t.2.2.2.2 x23 X16)))))))))))))))))))))
set_option maxHeartbeats 4000000 in
set_option maxRecDepth 100000 in
theorem xf_X12_mergeSlot_8 {m : Nat} {ad : Nat → Nat} {σ0 : Sto} {Q : Sto → Prop} {Qx : Xc → Prop} {Lx8 : Int32 × Int32 × Int32 × Int32 × Int32 → Xc → Prop} {L8 : Int32 × Int32 × Int32 × Int32 × Int32 → Sto → Prop} (hQ : ∀ (σ' : Sto) (X' : Xc), Qx X' → RefC m ad σ' X' → Fi m ad σ0 σ' → Q σ') (hL8 : ∀ (t : Int32 × Int32 × Int32 × Int32 × Int32) (σ : Sto) (X : Xc), Lx8 t X → RefC m ad σ X → Fi m ad σ0 σ → L8 t σ) : ∀ (t : Int32 × Int32 × Int32 × Int32 × Int32) (σ : Sto) (X : Xc), RefC m ad σ X → Fi m ad σ0 σ → fx_X12_mergeSlot_8  Qx Lx8 t X → f_X12_mergeSlot_8 m  Q L8 t σ := by
  intro t σ X hR F h
  unfold fx_X12_mergeSlot_8 at h
  unfold f_X12_mergeSlot_8
  refine ⟨hR.1.1, ?_⟩
  intro x1 e2
  rw [hR.2.1 1] at e2
  have h := h x1 e2
  refine ⟨fun c3 => ?_, fun c3 => ?_⟩
  · have h := h.1 c3
    intro x4 e5
    have h := h x4 e5
    have a6 : sP σ m 30 = some (ad 30) := hR.P (k := 30) (by decide)
    refine ⟨fun c7 => ?_, fun c7 => ?_⟩
    · have h := h.1 c7
      rw [a6]
      exact xb_X12_mergeSlot_138 hQ  t.2.2.1 t.2.2.2.1 x4 (0 : Int32) x4 _ _ hR F h
    · have h := h.2 c7
      rw [a6]
      exact xb_X12_mergeSlot_138 hQ  t.2.2.1 t.2.2.2.1 x4 (1 : Int32) x4 _ _ hR F h
  · have h := h.2 c3
    refine x_X12_inTurn hR h (fun x8 σ9 X10 h hR F11 => ?_)
    have F := F.trans F11
    intro x12 e13
    have h := h x12 e13
    refine ⟨hR.1.1, ?_⟩
    refine x_X12_isLookedAt hR h (fun x14 σ15 X16 h hR F17 => ?_)
    have F := F.trans F17
    refine ⟨fun c18 => ?_, fun c18 => ?_⟩
    · have h := h.1 c18
      exact xb_X12_mergeSlot_109 hQ hL8 t.1 t.2.1 t.2.2.1 t.2.2.2.1 t.2.2.2.2 _ _ hR F h
    · have h := h.2 c18
      refine ⟨hR.1.1, ?_⟩
      have a19 : sP σ15 m 50 = some (ad 50) := hR.P (k := 50) (by decide)
      refine ⟨ad 50, a19, ?_⟩
      refine ⟨hR.K (k := 50) (by decide), ?_⟩
      refine ⟨hR.N (k := 50) (by decide) h.1, ?_⟩
      have h := h.2
      intro x20 e21
      rw [hR.2.2 50 (by decide)] at e21
      have h := h x20 e21
      refine ⟨fun c22 => ?_, fun c22 => ?_⟩
      · have h := h.1 c22
        exact xb_X12_mergeSlot_109 hQ hL8 t.1 t.2.1 t.2.2.1 t.2.2.2.1 t.2.2.2.2 _ _ hR F h
      · have h := h.2 c22
        intro x23 e24
        have h := h x23 e24
        refine ⟨fun c25 => ?_, fun c25 => ?_⟩
        · have h := h.1 c25
          exact xb_X12_mergeSlot_78 hQ hL8 t.1 t.2.1 t.2.2.2.1 t.2.2.2.2 x23 _ _ hR F h
        · have h := h.2 c25
          have a26 : sP σ15 m 51 = some (ad 51) := hR.P (k := 51) (by decide)
          refine ⟨ad 51, a26, ?_⟩
          refine ⟨hR.K (k := 51) (by decide), ?_⟩
          refine ⟨hR.N (k := 51) (by decide) h.1, ?_⟩
          have h := h.2
          intro x27 e28
          rw [hR.2.2 51 (by decide)] at e28
          have h := h x27 e28
          refine ⟨fun c29 => ?_, fun c29 => ?_⟩
          · have h := h.1 c29
            exact xb_X12_mergeSlot_83 hQ hL8 t.1 t.2.1 t.2.2.2.1 t.2.2.2.2 x23 (0 : Int32) _ _ hR F h
          · have h := h.2 c29
            exact xb_X12_mergeSlot_78 hQ hL8 t.1 t.2.1 t.2.2.2.1 t.2.2.2.2 x23 _ _ hR F h
def wx_X12_mergeSlot (p1 : Int32) (p2 : Int32) (X : Xc) (Qx : Xc → Prop) : Prop := LFx (fx_X12_mergeSlot_8  Qx) (p1, p2, (0 : Int32), (-1 : Int32), (0 : Int32)) X
set_option maxHeartbeats 4000000 in
set_option maxRecDepth 100000 in
theorem x_X12_mergeSlot {m : Nat} {ad : Nat → Nat} {p1 : Int32} {p2 : Int32} {σ : Sto} {X : Xc} {Q : Sto → Prop} {Qx : Xc → Prop} (hR : RefC m ad σ X) (h : wx_X12_mergeSlot p1 p2 X Qx) (hQ : ∀ (σ' : Sto) (X' : Xc), Qx X' → RefC m ad σ' X' → Fi m ad σ σ' → Q σ') : wp_X12_mergeSlot m p1 p2 σ Q := by
  have F : Fi m ad σ σ := Fi.rf
  unfold wx_X12_mergeSlot at h
  unfold wp_X12_mergeSlot
  exact lfx h hR F (fun Lx L hL t σ X hR F h => xf_X12_mergeSlot_8 hQ  hL t σ X hR F h)
def wx_X12_becomeNormal (p1 : Int32) (X : Xc) (Qx : Xc → Prop) : Prop := (vp_in p1 7 ∧ (vp_in p1 7 ∧ (∀ x4 : Int32, x4 = (xA X 23 p1.toNatClampNeg (0 : Int32)).2 21 p1.toNatClampNeg → (vp_in p1 7 ∧ (vp_in p1 7 ∧ (∀ x8 : Int32, x8 = (xA (xA X 23 p1.toNatClampNeg (0 : Int32)) 24 p1.toNatClampNeg x4).2 22 p1.toNatClampNeg → (vp_in p1 7 ∧ (∀ x11 : Int32, x11 = (xA (xA (xA X 23 p1.toNatClampNeg (0 : Int32)) 24 p1.toNatClampNeg x4) 25 p1.toNatClampNeg x8).1 4 → (vp_in p1 7 ∧ Qx (xA (xA (xA (xA X 23 p1.toNatClampNeg (0 : Int32)) 24 p1.toNatClampNeg x4) 25 p1.toNatClampNeg x8) 57 p1.toNatClampNeg x11))))))))))
set_option maxHeartbeats 4000000 in
set_option maxRecDepth 100000 in
theorem x_X12_becomeNormal {m : Nat} {ad : Nat → Nat} {p1 : Int32} {σ : Sto} {X : Xc} {Q : Sto → Prop} {Qx : Xc → Prop} (hR : RefC m ad σ X) (h : wx_X12_becomeNormal p1 X Qx) (hQ : ∀ (σ' : Sto) (X' : Xc), Qx X' → RefC m ad σ' X' → Fi m ad σ σ' → Q σ') : wp_X12_becomeNormal m p1 σ Q := by
  have F : Fi m ad σ σ := Fi.rf
  unfold wx_X12_becomeNormal at h
  unfold wp_X12_becomeNormal
  refine ⟨hR.1.1, ?_⟩
  have a1 : sP σ m 23 = some (ad 23) := hR.P (k := 23) (by decide)
  refine ⟨ad 23, a1, ?_⟩
  refine ⟨hR.K (k := 23) (by decide), ?_⟩
  refine ⟨hR.N (k := 23) (by decide) h.1, ?_⟩
  have h := h.2
  have F := F.A (k := 23) (i := p1.toNatClampNeg) (v := (0 : Int32)) (by decide)
  have hR := hR.A (k := 23) (i := p1.toNatClampNeg) (v := (0 : Int32)) (by decide)
  have a2 : sP σ m 24 = some (ad 24) := hR.P (k := 24) (by decide)
  have a3 : sP σ m 21 = some (ad 21) := hR.P (k := 21) (by decide)
  refine ⟨ad 21, a3, ?_⟩
  refine ⟨hR.K (k := 21) (by decide), ?_⟩
  refine ⟨hR.N (k := 21) (by decide) h.1, ?_⟩
  have h := h.2
  intro x4 e5
  rw [hR.2.2 21 (by decide)] at e5
  have h := h x4 e5
  refine ⟨ad 24, a2, ?_⟩
  refine ⟨hR.K (k := 24) (by decide), ?_⟩
  refine ⟨hR.N (k := 24) (by decide) h.1, ?_⟩
  have h := h.2
  have F := F.A (k := 24) (i := p1.toNatClampNeg) (v := x4) (by decide)
  have hR := hR.A (k := 24) (i := p1.toNatClampNeg) (v := x4) (by decide)
  have a6 : sP σ m 25 = some (ad 25) := hR.P (k := 25) (by decide)
  have a7 : sP σ m 22 = some (ad 22) := hR.P (k := 22) (by decide)
  refine ⟨ad 22, a7, ?_⟩
  refine ⟨hR.K (k := 22) (by decide), ?_⟩
  refine ⟨hR.N (k := 22) (by decide) h.1, ?_⟩
  have h := h.2
  intro x8 e9
  rw [hR.2.2 22 (by decide)] at e9
  have h := h x8 e9
  refine ⟨ad 25, a6, ?_⟩
  refine ⟨hR.K (k := 25) (by decide), ?_⟩
  refine ⟨hR.N (k := 25) (by decide) h.1, ?_⟩
  have h := h.2
  have F := F.A (k := 25) (i := p1.toNatClampNeg) (v := x8) (by decide)
  have hR := hR.A (k := 25) (i := p1.toNatClampNeg) (v := x8) (by decide)
  have a10 : sP σ m 57 = some (ad 57) := hR.P (k := 57) (by decide)
  intro x11 e12
  rw [hR.2.1 4] at e12
  have h := h x11 e12
  refine ⟨ad 57, a10, ?_⟩
  refine ⟨hR.K (k := 57) (by decide), ?_⟩
  refine ⟨hR.N (k := 57) (by decide) h.1, ?_⟩
  have h := h.2
  have F := F.A (k := 57) (i := p1.toNatClampNeg) (v := x11) (by decide)
  have hR := hR.A (k := 57) (i := p1.toNatClampNeg) (v := x11) (by decide)
  exact hQ _ _ h hR F
def bx_X12_merges_217 (Lx195 : Int32 × Int32 → Xc → Prop) (Qx : Xc → Prop) (p1 : Int32) (p4 : Int32) (X : Xc) : Prop := (∀ x1 : Int32, x1 = p4 + (1 : Int32) → Lx195 (p1, x1) X)
set_option maxHeartbeats 4000000 in
set_option maxRecDepth 100000 in
theorem xb_X12_merges_217 {m : Nat} {ad : Nat → Nat} {σ0 : Sto} {Lx195 : Int32 × Int32 → Xc → Prop} {L195 : Int32 × Int32 → Sto → Prop} {Q : Sto → Prop} {Qx : Xc → Prop} (hQ : ∀ (σ' : Sto) (X' : Xc), Qx X' → RefC m ad σ' X' → Fi m ad σ0 σ' → Q σ') (hL195 : ∀ (t : Int32 × Int32) (σ : Sto) (X : Xc), Lx195 t X → RefC m ad σ X → Fi m ad σ0 σ → L195 t σ) (p1 : Int32) (p4 : Int32) (σ : Sto) (X : Xc) (hR : RefC m ad σ X) (F : Fi m ad σ0 σ) (h : bx_X12_merges_217 Lx195 Qx p1 p4 X) : b_X12_merges_217 m L195 Q p1 p4 σ := by
  unfold bx_X12_merges_217 at h
  unfold b_X12_merges_217
  intro x1 e2
  have h := h x1 e2
  exact hL195 _ _ _ h hR F
def fx_X12_merges_195 (Qx : Xc → Prop) (Lx195 : Int32 × Int32 → Xc → Prop) (t : Int32 × Int32) (X : Xc) : Prop := (∀ x1 : Int32, x1 = X.1 1 → ((x1 ≤ t.2 → Qx X) ∧ (¬ x1 ≤ t.2 → ((t.2 = t.1 → bx_X12_merges_217 Lx195 Qx t.1 t.2 X) ∧ (¬ t.2 = t.1 → (wx_X12_sendStart t.1 t.2 X (fun (X7 : Xc) => bx_X12_merges_217 Lx195 Qx t.1 t.2 X7)))))))
set_option maxHeartbeats 4000000 in
set_option maxRecDepth 100000 in
theorem xf_X12_merges_195 {m : Nat} {ad : Nat → Nat} {σ0 : Sto} {Q : Sto → Prop} {Qx : Xc → Prop} {Lx195 : Int32 × Int32 → Xc → Prop} {L195 : Int32 × Int32 → Sto → Prop} (hQ : ∀ (σ' : Sto) (X' : Xc), Qx X' → RefC m ad σ' X' → Fi m ad σ0 σ' → Q σ') (hL195 : ∀ (t : Int32 × Int32) (σ : Sto) (X : Xc), Lx195 t X → RefC m ad σ X → Fi m ad σ0 σ → L195 t σ) : ∀ (t : Int32 × Int32) (σ : Sto) (X : Xc), RefC m ad σ X → Fi m ad σ0 σ → fx_X12_merges_195  Qx Lx195 t X → f_X12_merges_195 m  Q L195 t σ := by
  intro t σ X hR F h
  unfold fx_X12_merges_195 at h
  unfold f_X12_merges_195
  refine ⟨hR.1.1, ?_⟩
  intro x1 e2
  rw [hR.2.1 1] at e2
  have h := h x1 e2
  refine ⟨fun c3 => ?_, fun c3 => ?_⟩
  · have h := h.1 c3
    exact hQ _ _ h hR F
  · have h := h.2 c3
    refine ⟨fun c4 => ?_, fun c4 => ?_⟩
    · have h := h.1 c4
      exact xb_X12_merges_217 hQ hL195 t.1 t.2 _ _ hR F h
    · have h := h.2 c4
      refine x_X12_sendStart hR h (fun σ6 X7 h hR F8 => ?_)
      have F := F.trans F8
      exact xb_X12_merges_217 hQ hL195 t.1 t.2 _ _ hR F h
def bx_X12_merges_186 (Qx : Xc → Prop) (p1 : Int32) (s0 : Int32) (s1 : Int32) (X : Xc) : Prop := (vp_in s1 7 ∧ (wx_X12_becomeNormal p1 (xA X 27 s1.toNatClampNeg s0) (fun (X3 : Xc) => LFx (fx_X12_merges_195  Qx) (p1, (0 : Int32)) X3)))
set_option maxHeartbeats 4000000 in
set_option maxRecDepth 100000 in
theorem xb_X12_merges_186 {m : Nat} {ad : Nat → Nat} {σ0 : Sto} {Q : Sto → Prop} {Qx : Xc → Prop} (hQ : ∀ (σ' : Sto) (X' : Xc), Qx X' → RefC m ad σ' X' → Fi m ad σ0 σ' → Q σ')  (p1 : Int32) (s0 : Int32) (s1 : Int32) (σ : Sto) (X : Xc) (hR : RefC m ad σ X) (F : Fi m ad σ0 σ) (h : bx_X12_merges_186  Qx p1 s0 s1 X) : b_X12_merges_186 m  Q p1 s0 s1 (some (ad 27)) σ := by
  unfold bx_X12_merges_186 at h
  unfold b_X12_merges_186
  refine ⟨ad 27, rfl, ?_⟩
  refine ⟨hR.K (k := 27) (by decide), ?_⟩
  refine ⟨hR.N (k := 27) (by decide) h.1, ?_⟩
  have h := h.2
  have F := F.A (k := 27) (i := s1.toNatClampNeg) (v := s0) (by decide)
  have hR := hR.A (k := 27) (i := s1.toNatClampNeg) (v := s0) (by decide)
  refine ⟨hR.1.1, ?_⟩
  refine x_X12_becomeNormal hR h (fun σ2 X3 h hR F4 => ?_)
  have F := F.trans F4
  exact lfx h hR F (fun Lx L hL t σ X hR F h => xf_X12_merges_195 hQ  hL t σ X hR F h)
def fx_X12_merges_127 (Qx : Xc → Prop) (Lx127 : Int32 × Int32 × Int32 × Int32 → Xc → Prop) (t : Int32 × Int32 × Int32 × Int32) (X : Xc) : Prop := ((t.2.1 ≤ t.2.2.2 → (vp_in t.1 7 ∧ (∀ x4 : Int32, x4 = (xA X 26 t.1.toNatClampNeg t.2.1).1 98 → (vp_in t.1 7 ∧ (∀ x7 : Int32, x7 = (xA X 26 t.1.toNatClampNeg t.2.1).2 22 t.1.toNatClampNeg → ((¬ x4 = x7 → bx_X12_merges_186  Qx t.1 t.2.1 t.1 (xA X 26 t.1.toNatClampNeg t.2.1)) ∧ (x4 = x7 → (∀ x11 : Int32, x11 = ((7 : Int32) * t.1) + t.2.2.1 → (vp_in x11 49 ∧ (∀ x13 : Int32, x13 = (xA X 26 t.1.toNatClampNeg t.2.1).2 49 x11.toNatClampNeg → bx_X12_merges_186  Qx t.1 x13 t.1 (xA X 26 t.1.toNatClampNeg t.2.1))))))))))) ∧ (¬ t.2.1 ≤ t.2.2.2 → (wx_X12_mergeSlot t.1 t.2.2.2 X (fun (X17 : Xc) => (∀ x19 : Int32, x19 = t.2.2.2 + (1 : Int32) → Lx127 (t.1, t.2.1, t.2.2.1, x19) X17)))))
set_option maxHeartbeats 4000000 in
set_option maxRecDepth 100000 in
theorem xf_X12_merges_127 {m : Nat} {ad : Nat → Nat} {σ0 : Sto} {Q : Sto → Prop} {Qx : Xc → Prop} {Lx127 : Int32 × Int32 × Int32 × Int32 → Xc → Prop} {L127 : Int32 × Int32 × Int32 × Int32 → Sto → Prop} (hQ : ∀ (σ' : Sto) (X' : Xc), Qx X' → RefC m ad σ' X' → Fi m ad σ0 σ' → Q σ') (hL127 : ∀ (t : Int32 × Int32 × Int32 × Int32) (σ : Sto) (X : Xc), Lx127 t X → RefC m ad σ X → Fi m ad σ0 σ → L127 t σ) : ∀ (t : Int32 × Int32 × Int32 × Int32) (σ : Sto) (X : Xc), RefC m ad σ X → Fi m ad σ0 σ → fx_X12_merges_127  Qx Lx127 t X → f_X12_merges_127 m  Q L127 t σ := by
  intro t σ X hR F h
  unfold fx_X12_merges_127 at h
  unfold f_X12_merges_127
  refine ⟨fun c1 => ?_, fun c1 => ?_⟩
  · have h := h.1 c1
    refine ⟨hR.1.1, ?_⟩
    have a2 : sP σ m 26 = some (ad 26) := hR.P (k := 26) (by decide)
    refine ⟨ad 26, a2, ?_⟩
    refine ⟨hR.K (k := 26) (by decide), ?_⟩
    refine ⟨hR.N (k := 26) (by decide) h.1, ?_⟩
    have h := h.2
    have F := F.A (k := 26) (i := t.1.toNatClampNeg) (v := t.2.1) (by decide)
    have hR := hR.A (k := 26) (i := t.1.toNatClampNeg) (v := t.2.1) (by decide)
    have a3 : sP σ m 27 = some (ad 27) := hR.P (k := 27) (by decide)
    intro x4 e5
    rw [hR.2.1 98] at e5
    have h := h x4 e5
    have a6 : sP σ m 22 = some (ad 22) := hR.P (k := 22) (by decide)
    refine ⟨ad 22, a6, ?_⟩
    refine ⟨hR.K (k := 22) (by decide), ?_⟩
    refine ⟨hR.N (k := 22) (by decide) h.1, ?_⟩
    have h := h.2
    intro x7 e8
    rw [hR.2.2 22 (by decide)] at e8
    have h := h x7 e8
    refine ⟨fun c9 => ?_, fun c9 => ?_⟩
    · have h := h.1 c9
      rw [a3]
      exact xb_X12_merges_186 hQ  t.1 t.2.1 t.1 _ _ hR F h
    · have h := h.2 c9
      have a10 : sP σ m 49 = some (ad 49) := hR.P (k := 49) (by decide)
      intro x11 e12
      have h := h x11 e12
      refine ⟨ad 49, a10, ?_⟩
      refine ⟨hR.K (k := 49) (by decide), ?_⟩
      refine ⟨hR.N (k := 49) (by decide) h.1, ?_⟩
      have h := h.2
      intro x13 e14
      rw [hR.2.2 49 (by decide)] at e14
      have h := h x13 e14
      rw [a3]
      exact xb_X12_merges_186 hQ  t.1 x13 t.1 _ _ hR F h
  · have h := h.2 c1
    refine ⟨hR.1.1, ?_⟩
    refine x_X12_mergeSlot hR h (fun σ16 X17 h hR F18 => ?_)
    have F := F.trans F18
    intro x19 e20
    have h := h x19 e20
    exact hL127 _ _ _ h hR F
def bx_X12_merges_118 (Lx52 : Int32 × Int32 × Int32 × Int32 → Xc → Prop) (Qx : Xc → Prop) (p1 : Int32) (p2 : Int32) (p3 : Int32) (p4 : Int32) (X : Xc) : Prop := (∀ x1 : Int32, x1 = p4 + (1 : Int32) → Lx52 (p1, p2, p3, x1) X)
set_option maxHeartbeats 4000000 in
set_option maxRecDepth 100000 in
theorem xb_X12_merges_118 {m : Nat} {ad : Nat → Nat} {σ0 : Sto} {Lx52 : Int32 × Int32 × Int32 × Int32 → Xc → Prop} {L52 : Int32 × Int32 × Int32 × Int32 → Sto → Prop} {Q : Sto → Prop} {Qx : Xc → Prop} (hQ : ∀ (σ' : Sto) (X' : Xc), Qx X' → RefC m ad σ' X' → Fi m ad σ0 σ' → Q σ') (hL52 : ∀ (t : Int32 × Int32 × Int32 × Int32) (σ : Sto) (X : Xc), Lx52 t X → RefC m ad σ X → Fi m ad σ0 σ → L52 t σ) (p1 : Int32) (p2 : Int32) (p3 : Int32) (p4 : Int32) (σ : Sto) (X : Xc) (hR : RefC m ad σ X) (F : Fi m ad σ0 σ) (h : bx_X12_merges_118 Lx52 Qx p1 p2 p3 p4 X) : b_X12_merges_118 m L52 Q p1 p2 p3 p4 σ := by
  unfold bx_X12_merges_118 at h
  unfold b_X12_merges_118
  intro x1 e2
  have h := h x1 e2
  exact hL52 _ _ _ h hR F
def bx_X12_merges_117 (Lx52 : Int32 × Int32 × Int32 × Int32 → Xc → Prop) (Qx : Xc → Prop) (p1 : Int32) (p2 : Int32) (p4 : Int32) (s0 : Int32) (X : Xc) : Prop := bx_X12_merges_118 Lx52 Qx p1 p2 s0 p4 X
set_option maxHeartbeats 4000000 in
set_option maxRecDepth 100000 in
theorem xb_X12_merges_117 {m : Nat} {ad : Nat → Nat} {σ0 : Sto} {Lx52 : Int32 × Int32 × Int32 × Int32 → Xc → Prop} {L52 : Int32 × Int32 × Int32 × Int32 → Sto → Prop} {Q : Sto → Prop} {Qx : Xc → Prop} (hQ : ∀ (σ' : Sto) (X' : Xc), Qx X' → RefC m ad σ' X' → Fi m ad σ0 σ' → Q σ') (hL52 : ∀ (t : Int32 × Int32 × Int32 × Int32) (σ : Sto) (X : Xc), Lx52 t X → RefC m ad σ X → Fi m ad σ0 σ → L52 t σ) (p1 : Int32) (p2 : Int32) (p4 : Int32) (s0 : Int32) (σ : Sto) (X : Xc) (hR : RefC m ad σ X) (F : Fi m ad σ0 σ) (h : bx_X12_merges_117 Lx52 Qx p1 p2 p4 s0 X) : b_X12_merges_117 m L52 Q p1 p2 p4 s0 σ := by
  unfold bx_X12_merges_117 at h
  unfold b_X12_merges_117
  exact xb_X12_merges_118 hQ hL52 p1 p2 s0 p4 _ _ hR F h
def bx_X12_merges_105 (Lx52 : Int32 × Int32 × Int32 × Int32 → Xc → Prop) (Qx : Xc → Prop) (p1 : Int32) (p3 : Int32) (p4 : Int32) (p5 : Int32) (s0 : Int32) (X : Xc) : Prop := ((¬ p3 = (-1 : Int32) → bx_X12_merges_117 Lx52 Qx p1 s0 p4 p3 X) ∧ (p3 = (-1 : Int32) → bx_X12_merges_117 Lx52 Qx p1 s0 p4 p5 X))
set_option maxHeartbeats 4000000 in
set_option maxRecDepth 100000 in
theorem xb_X12_merges_105 {m : Nat} {ad : Nat → Nat} {σ0 : Sto} {Lx52 : Int32 × Int32 × Int32 × Int32 → Xc → Prop} {L52 : Int32 × Int32 × Int32 × Int32 → Sto → Prop} {Q : Sto → Prop} {Qx : Xc → Prop} (hQ : ∀ (σ' : Sto) (X' : Xc), Qx X' → RefC m ad σ' X' → Fi m ad σ0 σ' → Q σ') (hL52 : ∀ (t : Int32 × Int32 × Int32 × Int32) (σ : Sto) (X : Xc), Lx52 t X → RefC m ad σ X → Fi m ad σ0 σ → L52 t σ) (p1 : Int32) (p3 : Int32) (p4 : Int32) (p5 : Int32) (s0 : Int32) (σ : Sto) (X : Xc) (hR : RefC m ad σ X) (F : Fi m ad σ0 σ) (h : bx_X12_merges_105 Lx52 Qx p1 p3 p4 p5 s0 X) : b_X12_merges_105 m L52 Q p1 p3 p4 p5 s0 σ := by
  unfold bx_X12_merges_105 at h
  unfold b_X12_merges_105
  refine ⟨fun c1 => ?_, fun c1 => ?_⟩
  · have h := h.1 c1
    exact xb_X12_merges_117 hQ hL52 p1 s0 p4 p3 _ _ hR F h
  · have h := h.2 c1
    exact xb_X12_merges_117 hQ hL52 p1 s0 p4 p5 _ _ hR F h
def fx_X12_merges_52 (Qx : Xc → Prop) (Lx52 : Int32 × Int32 × Int32 × Int32 → Xc → Prop) (t : Int32 × Int32 × Int32 × Int32) (X : Xc) : Prop := (∀ x1 : Int32, x1 = X.1 1 → ((x1 ≤ t.2.2.2 → LFx (fx_X12_merges_127  Qx) (t.1, t.2.1, t.2.2.1, (0 : Int32)) X) ∧ (¬ x1 ≤ t.2.2.2 → (wx_X12_inTurn t.1 t.2.2.2 X (fun (x4 : Int32) (X6 : Xc) => (wx_X12_isLookedAt t.1 x4 X6 (fun (x8 : Int32) (X10 : Xc) => ((x8 = 0 → bx_X12_merges_118 Lx52 Qx t.1 t.2.1 t.2.2.1 t.2.2.2 X10) ∧ (¬ x8 = 0 → (∀ x14 : Int32, x14 = ((7 : Int32) * t.1) + x4 → (vp_in x14 49 ∧ (∀ x16 : Int32, x16 = X10.2 50 x14.toNatClampNeg → ((x16 ≤ t.2.1 → bx_X12_merges_105 Lx52 Qx t.1 t.2.2.1 t.2.2.2 x4 t.2.1 X10) ∧ (¬ x16 ≤ t.2.1 → bx_X12_merges_105 Lx52 Qx t.1 t.2.2.1 t.2.2.2 x4 x16 X10))))))))))))))
set_option maxHeartbeats 4000000 in
set_option maxRecDepth 100000 in
theorem xf_X12_merges_52 {m : Nat} {ad : Nat → Nat} {σ0 : Sto} {Q : Sto → Prop} {Qx : Xc → Prop} {Lx52 : Int32 × Int32 × Int32 × Int32 → Xc → Prop} {L52 : Int32 × Int32 × Int32 × Int32 → Sto → Prop} (hQ : ∀ (σ' : Sto) (X' : Xc), Qx X' → RefC m ad σ' X' → Fi m ad σ0 σ' → Q σ') (hL52 : ∀ (t : Int32 × Int32 × Int32 × Int32) (σ : Sto) (X : Xc), Lx52 t X → RefC m ad σ X → Fi m ad σ0 σ → L52 t σ) : ∀ (t : Int32 × Int32 × Int32 × Int32) (σ : Sto) (X : Xc), RefC m ad σ X → Fi m ad σ0 σ → fx_X12_merges_52  Qx Lx52 t X → f_X12_merges_52 m  Q L52 t σ := by
  intro t σ X hR F h
  unfold fx_X12_merges_52 at h
  unfold f_X12_merges_52
  refine ⟨hR.1.1, ?_⟩
  intro x1 e2
  rw [hR.2.1 1] at e2
  have h := h x1 e2
  refine ⟨fun c3 => ?_, fun c3 => ?_⟩
  · have h := h.1 c3
    exact lfx h hR F (fun Lx L hL t σ X hR F h => xf_X12_merges_127 hQ  hL t σ X hR F h)
  · have h := h.2 c3
    refine x_X12_inTurn hR h (fun x4 σ5 X6 h hR F7 => ?_)
    have F := F.trans F7
    refine ⟨hR.1.1, ?_⟩
    refine x_X12_isLookedAt hR h (fun x8 σ9 X10 h hR F11 => ?_)
    have F := F.trans F11
    refine ⟨fun c12 => ?_, fun c12 => ?_⟩
    · have h := h.1 c12
      exact xb_X12_merges_118 hQ hL52 t.1 t.2.1 t.2.2.1 t.2.2.2 _ _ hR F h
    · have h := h.2 c12
      refine ⟨hR.1.1, ?_⟩
      have a13 : sP σ9 m 50 = some (ad 50) := hR.P (k := 50) (by decide)
      intro x14 e15
      have h := h x14 e15
      refine ⟨ad 50, a13, ?_⟩
      refine ⟨hR.K (k := 50) (by decide), ?_⟩
      refine ⟨hR.N (k := 50) (by decide) h.1, ?_⟩
      have h := h.2
      intro x16 e17
      rw [hR.2.2 50 (by decide)] at e17
      have h := h x16 e17
      refine ⟨fun c18 => ?_, fun c18 => ?_⟩
      · have h := h.1 c18
        exact xb_X12_merges_105 hQ hL52 t.1 t.2.2.1 t.2.2.2 x4 t.2.1 _ _ hR F h
      · have h := h.2 c18
        exact xb_X12_merges_105 hQ hL52 t.1 t.2.2.1 t.2.2.2 x4 x16 _ _ hR F h
def wx_X12_merges (p1 : Int32) (X : Xc) (Qx : Xc → Prop) : Prop := (wx_X12_leads p1 X (fun (x1 : Int32) (X3 : Xc) => ((x1 = 0 → Qx X3) ∧ (¬ x1 = 0 → (vp_in p1 7 ∧ (∀ x7 : Int32, x7 = X3.2 23 p1.toNatClampNeg → ((¬ x7 = (2 : Int32) → Qx X3) ∧ (x7 = (2 : Int32) → (vp_in p1 7 ∧ (∀ x11 : Int32, x11 = X3.2 46 p1.toNatClampNeg → (wx_X12_bits x11 X3 (fun (x13 : Int32) (X15 : Xc) => (∀ x17 : Int32, x17 = X15.1 2 → ((x17 ≤ x13 → (wx_X12_keepOwn p1 X15 (fun (X22 : Xc) => (wx_X12_findBest p1 X22 (fun (X26 : Xc) => LFx (fx_X12_merges_52  Qx) (p1, (0 : Int32), (-1 : Int32), (0 : Int32)) X26))))) ∧ (¬ x17 ≤ x13 → Qx X15)))))))))))))))
set_option maxHeartbeats 4000000 in
set_option maxRecDepth 100000 in
theorem x_X12_merges {m : Nat} {ad : Nat → Nat} {p1 : Int32} {σ : Sto} {X : Xc} {Q : Sto → Prop} {Qx : Xc → Prop} (hR : RefC m ad σ X) (h : wx_X12_merges p1 X Qx) (hQ : ∀ (σ' : Sto) (X' : Xc), Qx X' → RefC m ad σ' X' → Fi m ad σ σ' → Q σ') : wp_X12_merges m p1 σ Q := by
  have F : Fi m ad σ σ := Fi.rf
  unfold wx_X12_merges at h
  unfold wp_X12_merges
  refine ⟨hR.1.1, ?_⟩
  refine x_X12_leads hR h (fun x1 σ2 X3 h hR F4 => ?_)
  have F := F.trans F4
  refine ⟨fun c5 => ?_, fun c5 => ?_⟩
  · have h := h.1 c5
    exact hQ _ _ h hR F
  · have h := h.2 c5
    refine ⟨hR.1.1, ?_⟩
    have a6 : sP σ2 m 23 = some (ad 23) := hR.P (k := 23) (by decide)
    refine ⟨ad 23, a6, ?_⟩
    refine ⟨hR.K (k := 23) (by decide), ?_⟩
    refine ⟨hR.N (k := 23) (by decide) h.1, ?_⟩
    have h := h.2
    intro x7 e8
    rw [hR.2.2 23 (by decide)] at e8
    have h := h x7 e8
    refine ⟨fun c9 => ?_, fun c9 => ?_⟩
    · have h := h.1 c9
      exact hQ _ _ h hR F
    · have h := h.2 c9
      have a10 : sP σ2 m 46 = some (ad 46) := hR.P (k := 46) (by decide)
      refine ⟨ad 46, a10, ?_⟩
      refine ⟨hR.K (k := 46) (by decide), ?_⟩
      refine ⟨hR.N (k := 46) (by decide) h.1, ?_⟩
      have h := h.2
      intro x11 e12
      rw [hR.2.2 46 (by decide)] at e12
      have h := h x11 e12
      refine x_X12_bits hR h (fun x13 σ14 X15 h hR F16 => ?_)
      have F := F.trans F16
      refine ⟨hR.1.1, ?_⟩
      intro x17 e18
      rw [hR.2.1 2] at e18
      have h := h x17 e18
      refine ⟨fun c19 => ?_, fun c19 => ?_⟩
      · have h := h.1 c19
        refine x_X12_keepOwn hR h (fun σ21 X22 h hR F23 => ?_)
        have F := F.trans F23
        refine ⟨hR.1.1, ?_⟩
        refine x_X12_findBest hR h (fun σ25 X26 h hR F27 => ?_)
        have F := F.trans F27
        exact lfx h hR F (fun Lx L hL t σ X hR F h => xf_X12_merges_52 hQ  hL t σ X hR F h)
      · have h := h.2 c19
        exact hQ _ _ h hR F
def wx_X12_getsTurned (p1 : Int32) (X : Xc) (Qx : Xc → Prop) : Prop := (vp_in (1 : Int32) 640 ∧ (∀ x2 : Int32, x2 = X.2 15 (1 : Int32).toNatClampNeg → (vp_in (3 : Int32) 640 ∧ (∀ x5 : Int32, x5 = X.2 15 (3 : Int32).toNatClampNeg → (vp_in (4 : Int32) 640 ∧ (∀ x8 : Int32, x8 = X.2 15 (4 : Int32).toNatClampNeg → (wx_X12_joins p1 x5 x8 X (fun (X12 : Xc) => (vp_in (3 : Int32) 640 ∧ (∀ x15 : Int32, x15 = X12.2 15 (3 : Int32).toNatClampNeg → (vp_in p1 7 ∧ (∀ x18 : Int32, x18 = X12.2 21 p1.toNatClampNeg → ((¬ x15 = x18 → Qx X12) ∧ (x15 = x18 → (vp_in (4 : Int32) 640 ∧ (∀ x22 : Int32, x22 = X12.2 15 (4 : Int32).toNatClampNeg → (vp_in p1 7 ∧ (∀ x25 : Int32, x25 = X12.2 22 p1.toNatClampNeg → ((¬ x22 = x25 → Qx X12) ∧ (x22 = x25 → (wx_X12_leads p1 X12 (fun (x28 : Int32) (X30 : Xc) => ((¬ x28 = 0 → (vp_in p1 7 ∧ (∀ x34 : Int32, x34 = X30.2 23 p1.toNatClampNeg → ((¬ x34 = (2 : Int32) → (wx_X12_sendStart p1 x2 X30 (fun (X39 : Xc) => Qx X39))) ∧ (x34 = (2 : Int32) → (wx_X12_keepTurned p1 x2 X30 (fun (X43 : Xc) => (wx_X12_merges p1 X43 (fun (X47 : Xc) => Qx X47))))))))) ∧ (x28 = 0 → Qx X30))))))))))))))))))))))))
set_option maxHeartbeats 4000000 in
set_option maxRecDepth 100000 in
theorem x_X12_getsTurned {m : Nat} {ad : Nat → Nat} {p1 : Int32} {σ : Sto} {X : Xc} {Q : Sto → Prop} {Qx : Xc → Prop} (hR : RefC m ad σ X) (h : wx_X12_getsTurned p1 X Qx) (hQ : ∀ (σ' : Sto) (X' : Xc), Qx X' → RefC m ad σ' X' → Fi m ad σ σ' → Q σ') : wp_X12_getsTurned m p1 σ Q := by
  have F : Fi m ad σ σ := Fi.rf
  unfold wx_X12_getsTurned at h
  unfold wp_X12_getsTurned
  refine ⟨hR.1.1, ?_⟩
  have a1 : sP σ m 15 = some (ad 15) := hR.P (k := 15) (by decide)
  refine ⟨ad 15, a1, ?_⟩
  refine ⟨hR.K (k := 15) (by decide), ?_⟩
  refine ⟨hR.N (k := 15) (by decide) h.1, ?_⟩
  have h := h.2
  intro x2 e3
  rw [hR.2.2 15 (by decide)] at e3
  have h := h x2 e3
  have a4 : sP σ m 15 = some (ad 15) := hR.P (k := 15) (by decide)
  refine ⟨hR.N (k := 15) (by decide) h.1, ?_⟩
  have h := h.2
  intro x5 e6
  rw [hR.2.2 15 (by decide)] at e6
  have h := h x5 e6
  have a7 : sP σ m 15 = some (ad 15) := hR.P (k := 15) (by decide)
  refine ⟨hR.N (k := 15) (by decide) h.1, ?_⟩
  have h := h.2
  intro x8 e9
  rw [hR.2.2 15 (by decide)] at e9
  have h := h x8 e9
  refine x_X12_joins hR h (fun σ11 X12 h hR F13 => ?_)
  have F := F.trans F13
  refine ⟨hR.1.1, ?_⟩
  have a14 : sP σ11 m 15 = some (ad 15) := hR.P (k := 15) (by decide)
  refine ⟨ad 15, a14, ?_⟩
  refine ⟨hR.K (k := 15) (by decide), ?_⟩
  refine ⟨hR.N (k := 15) (by decide) h.1, ?_⟩
  have h := h.2
  intro x15 e16
  rw [hR.2.2 15 (by decide)] at e16
  have h := h x15 e16
  have a17 : sP σ11 m 21 = some (ad 21) := hR.P (k := 21) (by decide)
  refine ⟨ad 21, a17, ?_⟩
  refine ⟨hR.K (k := 21) (by decide), ?_⟩
  refine ⟨hR.N (k := 21) (by decide) h.1, ?_⟩
  have h := h.2
  intro x18 e19
  rw [hR.2.2 21 (by decide)] at e19
  have h := h x18 e19
  refine ⟨fun c20 => ?_, fun c20 => ?_⟩
  · have h := h.1 c20
    exact hQ _ _ h hR F
  · have h := h.2 c20
    have a21 : sP σ11 m 15 = some (ad 15) := hR.P (k := 15) (by decide)
    refine ⟨hR.N (k := 15) (by decide) h.1, ?_⟩
    have h := h.2
    intro x22 e23
    rw [hR.2.2 15 (by decide)] at e23
    have h := h x22 e23
    have a24 : sP σ11 m 22 = some (ad 22) := hR.P (k := 22) (by decide)
    refine ⟨ad 22, a24, ?_⟩
    refine ⟨hR.K (k := 22) (by decide), ?_⟩
    refine ⟨hR.N (k := 22) (by decide) h.1, ?_⟩
    have h := h.2
    intro x25 e26
    rw [hR.2.2 22 (by decide)] at e26
    have h := h x25 e26
    refine ⟨fun c27 => ?_, fun c27 => ?_⟩
    · have h := h.1 c27
      exact hQ _ _ h hR F
    · have h := h.2 c27
      refine x_X12_leads hR h (fun x28 σ29 X30 h hR F31 => ?_)
      have F := F.trans F31
      refine ⟨fun c32 => ?_, fun c32 => ?_⟩
      · have h := h.1 c32
        refine ⟨hR.1.1, ?_⟩
        have a33 : sP σ29 m 23 = some (ad 23) := hR.P (k := 23) (by decide)
        refine ⟨ad 23, a33, ?_⟩
        refine ⟨hR.K (k := 23) (by decide), ?_⟩
        refine ⟨hR.N (k := 23) (by decide) h.1, ?_⟩
        have h := h.2
        intro x34 e35
        rw [hR.2.2 23 (by decide)] at e35
        have h := h x34 e35
        refine ⟨fun c36 => ?_, fun c36 => ?_⟩
        · have h := h.1 c36
          refine x_X12_sendStart hR h (fun σ38 X39 h hR F40 => ?_)
          have F := F.trans F40
          exact hQ _ _ h hR F
        · have h := h.2 c36
          refine x_X12_keepTurned hR h (fun σ42 X43 h hR F44 => ?_)
          have F := F.trans F44
          refine ⟨hR.1.1, ?_⟩
          refine x_X12_merges hR h (fun σ46 X47 h hR F48 => ?_)
          have F := F.trans F48
          exact hQ _ _ h hR F
      · have h := h.2 c32
        exact hQ _ _ h hR F
def bx_X12_readEntries_138 (Lx6 : Int32 × Int32 × Int32 × Int32 → Xc → Prop) (Qx : Xc → Prop) (p1 : Int32) (p2 : Int32) (p4 : Int32) (p5 : Int32) (X : Xc) : Prop := (∀ x1 : Int32, x1 = p5 + (1 : Int32) → Lx6 (p1, p2, p4, x1) X)
set_option maxHeartbeats 4000000 in
set_option maxRecDepth 100000 in
theorem xb_X12_readEntries_138 {m : Nat} {ad : Nat → Nat} {σ0 : Sto} {Lx6 : Int32 × Int32 × Int32 × Int32 → Xc → Prop} {L6 : Int32 × Int32 × Int32 × Int32 → Sto → Prop} {Q : Sto → Prop} {Qx : Xc → Prop} (hQ : ∀ (σ' : Sto) (X' : Xc), Qx X' → RefC m ad σ' X' → Fi m ad σ0 σ' → Q σ') (hL6 : ∀ (t : Int32 × Int32 × Int32 × Int32) (σ : Sto) (X : Xc), Lx6 t X → RefC m ad σ X → Fi m ad σ0 σ → L6 t σ) (p1 : Int32) (p2 : Int32) (p4 : Int32) (p5 : Int32) (σ : Sto) (X : Xc) (hR : RefC m ad σ X) (F : Fi m ad σ0 σ) (h : bx_X12_readEntries_138 Lx6 Qx p1 p2 p4 p5 X) : b_X12_readEntries_138 m L6 Q p1 p2 p4 p5 σ := by
  unfold bx_X12_readEntries_138 at h
  unfold b_X12_readEntries_138
  intro x1 e2
  have h := h x1 e2
  exact hL6 _ _ _ h hR F
def bx_X12_readEntries_43 (Lx6 : Int32 × Int32 × Int32 × Int32 → Xc → Prop) (Qx : Xc → Prop) (p1 : Int32) (p2 : Int32) (p4 : Int32) (p5 : Int32) (p6 : Int32) (s0 : Int32) (s1 : Int32) (X : Xc) : Prop := (vp_in s1 700 ∧ (∀ x1 : Int32, x1 = p4 + (1 : Int32) → (vp_in p6 700 ∧ (∀ x4 : Int32, x4 = (xA X 30 s1.toNatClampNeg (vp_nar .boolean s0)).2 30 p6.toNatClampNeg → ((x4 = 0 → bx_X12_readEntries_138 Lx6 Qx p1 p2 x1 p5 (xA X 30 s1.toNatClampNeg (vp_nar .boolean s0))) ∧ (¬ x4 = 0 → (vp_in x1 640 ∧ (∀ x9 : Int32, x9 = (xA X 30 s1.toNatClampNeg (vp_nar .boolean s0)).2 15 x1.toNatClampNeg → (vp_in p6 700 ∧ (∀ x13 : Int32, x13 = x1 + (1 : Int32) → (vp_in x13 640 ∧ (∀ x15 : Int32, x15 = (xA (xA X 30 s1.toNatClampNeg (vp_nar .boolean s0)) 31 p6.toNatClampNeg x9).2 15 x13.toNatClampNeg → (vp_in p6 700 ∧ (∀ x19 : Int32, x19 = x1 + (2 : Int32) → (vp_in x19 640 ∧ (∀ x21 : Int32, x21 = (xA (xA (xA X 30 s1.toNatClampNeg (vp_nar .boolean s0)) 31 p6.toNatClampNeg x9) 32 p6.toNatClampNeg x15).2 15 x19.toNatClampNeg → (vp_in p6 700 ∧ (∀ x25 : Int32, x25 = x1 + (3 : Int32) → (vp_in x25 640 ∧ (∀ x27 : Int32, x27 = (xA (xA (xA (xA X 30 s1.toNatClampNeg (vp_nar .boolean s0)) 31 p6.toNatClampNeg x9) 32 p6.toNatClampNeg x15) 33 p6.toNatClampNeg x21).2 15 x25.toNatClampNeg → (vp_in p6 700 ∧ (∀ x31 : Int32, x31 = x1 + (4 : Int32) → (vp_in x31 640 ∧ (∀ x33 : Int32, x33 = (xA (xA (xA (xA (xA X 30 s1.toNatClampNeg (vp_nar .boolean s0)) 31 p6.toNatClampNeg x9) 32 p6.toNatClampNeg x15) 33 p6.toNatClampNeg x21) 34 p6.toNatClampNeg x27).2 15 x31.toNatClampNeg → (vp_in p6 700 ∧ (∀ x35 : Int32, x35 = x1 + (5 : Int32) → bx_X12_readEntries_138 Lx6 Qx p1 p2 x35 p5 (xA (xA (xA (xA (xA (xA X 30 s1.toNatClampNeg (vp_nar .boolean s0)) 31 p6.toNatClampNeg x9) 32 p6.toNatClampNeg x15) 33 p6.toNatClampNeg x21) 34 p6.toNatClampNeg x27) 35 p6.toNatClampNeg x33)))))))))))))))))))))))))))
set_option maxHeartbeats 4000000 in
set_option maxRecDepth 100000 in
theorem xb_X12_readEntries_43 {m : Nat} {ad : Nat → Nat} {σ0 : Sto} {Lx6 : Int32 × Int32 × Int32 × Int32 → Xc → Prop} {L6 : Int32 × Int32 × Int32 × Int32 → Sto → Prop} {Q : Sto → Prop} {Qx : Xc → Prop} (hQ : ∀ (σ' : Sto) (X' : Xc), Qx X' → RefC m ad σ' X' → Fi m ad σ0 σ' → Q σ') (hL6 : ∀ (t : Int32 × Int32 × Int32 × Int32) (σ : Sto) (X : Xc), Lx6 t X → RefC m ad σ X → Fi m ad σ0 σ → L6 t σ) (p1 : Int32) (p2 : Int32) (p4 : Int32) (p5 : Int32) (p6 : Int32) (s0 : Int32) (s1 : Int32) (σ : Sto) (X : Xc) (hR : RefC m ad σ X) (F : Fi m ad σ0 σ) (h : bx_X12_readEntries_43 Lx6 Qx p1 p2 p4 p5 p6 s0 s1 X) : b_X12_readEntries_43 m L6 Q p1 p2 p4 p5 p6 s0 s1 (some (ad 30)) σ := by
  unfold bx_X12_readEntries_43 at h
  unfold b_X12_readEntries_43
  refine ⟨ad 30, rfl, ?_⟩
  refine ⟨hR.K (k := 30) (by decide), ?_⟩
  refine ⟨hR.N (k := 30) (by decide) h.1, ?_⟩
  have h := h.2
  have F := F.A (k := 30) (i := s1.toNatClampNeg) (v := (vp_nar .boolean s0)) (by decide)
  have hR := hR.A (k := 30) (i := s1.toNatClampNeg) (v := (vp_nar .boolean s0)) (by decide)
  intro x1 e2
  have h := h x1 e2
  refine ⟨hR.1.1, ?_⟩
  have a3 : sP σ m 30 = some (ad 30) := hR.P (k := 30) (by decide)
  refine ⟨ad 30, a3, ?_⟩
  refine ⟨hR.K (k := 30) (by decide), ?_⟩
  refine ⟨hR.N (k := 30) (by decide) h.1, ?_⟩
  have h := h.2
  intro x4 e5
  rw [hR.2.2 30 (by decide)] at e5
  have h := h x4 e5
  refine ⟨fun c6 => ?_, fun c6 => ?_⟩
  · have h := h.1 c6
    exact xb_X12_readEntries_138 hQ hL6 p1 p2 x1 p5 _ _ hR F h
  · have h := h.2 c6
    have a7 : sP σ m 31 = some (ad 31) := hR.P (k := 31) (by decide)
    have a8 : sP σ m 15 = some (ad 15) := hR.P (k := 15) (by decide)
    refine ⟨ad 15, a8, ?_⟩
    refine ⟨hR.K (k := 15) (by decide), ?_⟩
    refine ⟨hR.N (k := 15) (by decide) h.1, ?_⟩
    have h := h.2
    intro x9 e10
    rw [hR.2.2 15 (by decide)] at e10
    have h := h x9 e10
    refine ⟨ad 31, a7, ?_⟩
    refine ⟨hR.K (k := 31) (by decide), ?_⟩
    refine ⟨hR.N (k := 31) (by decide) h.1, ?_⟩
    have h := h.2
    have F := F.A (k := 31) (i := p6.toNatClampNeg) (v := x9) (by decide)
    have hR := hR.A (k := 31) (i := p6.toNatClampNeg) (v := x9) (by decide)
    have a11 : sP σ m 32 = some (ad 32) := hR.P (k := 32) (by decide)
    have a12 : sP σ m 15 = some (ad 15) := hR.P (k := 15) (by decide)
    intro x13 e14
    have h := h x13 e14
    refine ⟨hR.N (k := 15) (by decide) h.1, ?_⟩
    have h := h.2
    intro x15 e16
    rw [hR.2.2 15 (by decide)] at e16
    have h := h x15 e16
    refine ⟨ad 32, a11, ?_⟩
    refine ⟨hR.K (k := 32) (by decide), ?_⟩
    refine ⟨hR.N (k := 32) (by decide) h.1, ?_⟩
    have h := h.2
    have F := F.A (k := 32) (i := p6.toNatClampNeg) (v := x15) (by decide)
    have hR := hR.A (k := 32) (i := p6.toNatClampNeg) (v := x15) (by decide)
    have a17 : sP σ m 33 = some (ad 33) := hR.P (k := 33) (by decide)
    have a18 : sP σ m 15 = some (ad 15) := hR.P (k := 15) (by decide)
    intro x19 e20
    have h := h x19 e20
    refine ⟨hR.N (k := 15) (by decide) h.1, ?_⟩
    have h := h.2
    intro x21 e22
    rw [hR.2.2 15 (by decide)] at e22
    have h := h x21 e22
    refine ⟨ad 33, a17, ?_⟩
    refine ⟨hR.K (k := 33) (by decide), ?_⟩
    refine ⟨hR.N (k := 33) (by decide) h.1, ?_⟩
    have h := h.2
    have F := F.A (k := 33) (i := p6.toNatClampNeg) (v := x21) (by decide)
    have hR := hR.A (k := 33) (i := p6.toNatClampNeg) (v := x21) (by decide)
    have a23 : sP σ m 34 = some (ad 34) := hR.P (k := 34) (by decide)
    have a24 : sP σ m 15 = some (ad 15) := hR.P (k := 15) (by decide)
    intro x25 e26
    have h := h x25 e26
    refine ⟨hR.N (k := 15) (by decide) h.1, ?_⟩
    have h := h.2
    intro x27 e28
    rw [hR.2.2 15 (by decide)] at e28
    have h := h x27 e28
    refine ⟨ad 34, a23, ?_⟩
    refine ⟨hR.K (k := 34) (by decide), ?_⟩
    refine ⟨hR.N (k := 34) (by decide) h.1, ?_⟩
    have h := h.2
    have F := F.A (k := 34) (i := p6.toNatClampNeg) (v := x27) (by decide)
    have hR := hR.A (k := 34) (i := p6.toNatClampNeg) (v := x27) (by decide)
    have a29 : sP σ m 35 = some (ad 35) := hR.P (k := 35) (by decide)
    have a30 : sP σ m 15 = some (ad 15) := hR.P (k := 15) (by decide)
    intro x31 e32
    have h := h x31 e32
    refine ⟨hR.N (k := 15) (by decide) h.1, ?_⟩
    have h := h.2
    intro x33 e34
    rw [hR.2.2 15 (by decide)] at e34
    have h := h x33 e34
    refine ⟨ad 35, a29, ?_⟩
    refine ⟨hR.K (k := 35) (by decide), ?_⟩
    refine ⟨hR.N (k := 35) (by decide) h.1, ?_⟩
    have h := h.2
    have F := F.A (k := 35) (i := p6.toNatClampNeg) (v := x33) (by decide)
    have hR := hR.A (k := 35) (i := p6.toNatClampNeg) (v := x33) (by decide)
    intro x35 e36
    have h := h x35 e36
    exact xb_X12_readEntries_138 hQ hL6 p1 p2 x35 p5 _ _ hR F h
def fx_X12_readEntries_6 (Qx : Xc → Prop) (Lx6 : Int32 × Int32 × Int32 × Int32 → Xc → Prop) (t : Int32 × Int32 × Int32 × Int32) (X : Xc) : Prop := ((t.2.1 ≤ t.2.2.2 → Qx X) ∧ (¬ t.2.1 ≤ t.2.2.2 → (∀ x2 : Int32, x2 = ((100 : Int32) * t.1) + t.2.2.2 → (vp_in t.2.2.1 640 ∧ (∀ x6 : Int32, x6 = X.2 15 t.2.2.1.toNatClampNeg → ((¬ x6 = (1 : Int32) → bx_X12_readEntries_43 Lx6 Qx t.1 t.2.1 t.2.2.1 t.2.2.2 x2 (0 : Int32) x2 X) ∧ (x6 = (1 : Int32) → bx_X12_readEntries_43 Lx6 Qx t.1 t.2.1 t.2.2.1 t.2.2.2 x2 (1 : Int32) x2 X)))))))
set_option maxHeartbeats 4000000 in
set_option maxRecDepth 100000 in
theorem xf_X12_readEntries_6 {m : Nat} {ad : Nat → Nat} {σ0 : Sto} {Q : Sto → Prop} {Qx : Xc → Prop} {Lx6 : Int32 × Int32 × Int32 × Int32 → Xc → Prop} {L6 : Int32 × Int32 × Int32 × Int32 → Sto → Prop} (hQ : ∀ (σ' : Sto) (X' : Xc), Qx X' → RefC m ad σ' X' → Fi m ad σ0 σ' → Q σ') (hL6 : ∀ (t : Int32 × Int32 × Int32 × Int32) (σ : Sto) (X : Xc), Lx6 t X → RefC m ad σ X → Fi m ad σ0 σ → L6 t σ) : ∀ (t : Int32 × Int32 × Int32 × Int32) (σ : Sto) (X : Xc), RefC m ad σ X → Fi m ad σ0 σ → fx_X12_readEntries_6  Qx Lx6 t X → f_X12_readEntries_6 m  Q L6 t σ := by
  intro t σ X hR F h
  unfold fx_X12_readEntries_6 at h
  unfold f_X12_readEntries_6
  refine ⟨fun c1 => ?_, fun c1 => ?_⟩
  · have h := h.1 c1
    exact hQ _ _ h hR F
  · have h := h.2 c1
    intro x2 e3
    have h := h x2 e3
    refine ⟨hR.1.1, ?_⟩
    have a4 : sP σ m 30 = some (ad 30) := hR.P (k := 30) (by decide)
    have a5 : sP σ m 15 = some (ad 15) := hR.P (k := 15) (by decide)
    refine ⟨ad 15, a5, ?_⟩
    refine ⟨hR.K (k := 15) (by decide), ?_⟩
    refine ⟨hR.N (k := 15) (by decide) h.1, ?_⟩
    have h := h.2
    intro x6 e7
    rw [hR.2.2 15 (by decide)] at e7
    have h := h x6 e7
    refine ⟨fun c8 => ?_, fun c8 => ?_⟩
    · have h := h.1 c8
      rw [a4]
      exact xb_X12_readEntries_43 hQ hL6 t.1 t.2.1 t.2.2.1 t.2.2.2 x2 (0 : Int32) x2 _ _ hR F h
    · have h := h.2 c8
      rw [a4]
      exact xb_X12_readEntries_43 hQ hL6 t.1 t.2.1 t.2.2.1 t.2.2.2 x2 (1 : Int32) x2 _ _ hR F h
def wx_X12_readEntries (p1 : Int32) (p2 : Int32) (p3 : Int32) (X : Xc) (Qx : Xc → Prop) : Prop := LFx (fx_X12_readEntries_6  Qx) (p1, p2, p3, (0 : Int32)) X
set_option maxHeartbeats 4000000 in
set_option maxRecDepth 100000 in
theorem x_X12_readEntries {m : Nat} {ad : Nat → Nat} {p1 : Int32} {p2 : Int32} {p3 : Int32} {σ : Sto} {X : Xc} {Q : Sto → Prop} {Qx : Xc → Prop} (hR : RefC m ad σ X) (h : wx_X12_readEntries p1 p2 p3 X Qx) (hQ : ∀ (σ' : Sto) (X' : Xc), Qx X' → RefC m ad σ' X' → Fi m ad σ σ' → Q σ') : wp_X12_readEntries m p1 p2 p3 σ Q := by
  have F : Fi m ad σ σ := Fi.rf
  unfold wx_X12_readEntries at h
  unfold wp_X12_readEntries
  exact lfx h hR F (fun Lx L hL t σ X hR F h => xf_X12_readEntries_6 hQ  hL t σ X hR F h)
def bx_X12_getsStart_45 (Qx : Xc → Prop) (p1 : Int32) (X : Xc) : Prop := (vp_in (3 : Int32) 640 ∧ (∀ x3 : Int32, x3 = X.2 15 (3 : Int32).toNatClampNeg → (vp_in p1 7 ∧ (vp_in (4 : Int32) 640 ∧ (∀ x7 : Int32, x7 = (xA X 21 p1.toNatClampNeg x3).2 15 (4 : Int32).toNatClampNeg → (vp_in p1 7 ∧ (vp_in (5 : Int32) 640 ∧ (∀ x11 : Int32, x11 = (xA (xA X 21 p1.toNatClampNeg x3) 22 p1.toNatClampNeg x7).2 15 (5 : Int32).toNatClampNeg → (vp_in p1 7 ∧ (vp_in (6 : Int32) 640 ∧ (∀ x15 : Int32, x15 = (xA (xA (xA X 21 p1.toNatClampNeg x3) 22 p1.toNatClampNeg x7) 27 p1.toNatClampNeg x11).2 15 (6 : Int32).toNatClampNeg → (vp_in p1 7 ∧ (vp_in (6 : Int32) 640 ∧ (∀ x18 : Int32, x18 = (xA (xA (xA (xA X 21 p1.toNatClampNeg x3) 22 p1.toNatClampNeg x7) 27 p1.toNatClampNeg x11) 26 p1.toNatClampNeg x15).2 15 (6 : Int32).toNatClampNeg → (wx_X12_readEntries p1 x18 (7 : Int32) (xA (xA (xA (xA X 21 p1.toNatClampNeg x3) 22 p1.toNatClampNeg x7) 27 p1.toNatClampNeg x11) 26 p1.toNatClampNeg x15) (fun (X22 : Xc) => (wx_X12_forgetCounts p1 X22 (fun (X26 : Xc) => (vp_in p1 7 ∧ (wx_X12_becomeNormal p1 (xA X26 29 p1.toNatClampNeg (0 : Int32)) (fun (X31 : Xc) => Qx X31)))))))))))))))))))))
set_option maxHeartbeats 4000000 in
set_option maxRecDepth 100000 in
theorem xb_X12_getsStart_45 {m : Nat} {ad : Nat → Nat} {σ0 : Sto} {Q : Sto → Prop} {Qx : Xc → Prop} (hQ : ∀ (σ' : Sto) (X' : Xc), Qx X' → RefC m ad σ' X' → Fi m ad σ0 σ' → Q σ')  (p1 : Int32) (σ : Sto) (X : Xc) (hR : RefC m ad σ X) (F : Fi m ad σ0 σ) (h : bx_X12_getsStart_45  Qx p1 X) : b_X12_getsStart_45 m  Q p1 σ := by
  unfold bx_X12_getsStart_45 at h
  unfold b_X12_getsStart_45
  refine ⟨hR.1.1, ?_⟩
  have a1 : sP σ m 21 = some (ad 21) := hR.P (k := 21) (by decide)
  have a2 : sP σ m 15 = some (ad 15) := hR.P (k := 15) (by decide)
  refine ⟨ad 15, a2, ?_⟩
  refine ⟨hR.K (k := 15) (by decide), ?_⟩
  refine ⟨hR.N (k := 15) (by decide) h.1, ?_⟩
  have h := h.2
  intro x3 e4
  rw [hR.2.2 15 (by decide)] at e4
  have h := h x3 e4
  refine ⟨ad 21, a1, ?_⟩
  refine ⟨hR.K (k := 21) (by decide), ?_⟩
  refine ⟨hR.N (k := 21) (by decide) h.1, ?_⟩
  have h := h.2
  have F := F.A (k := 21) (i := p1.toNatClampNeg) (v := x3) (by decide)
  have hR := hR.A (k := 21) (i := p1.toNatClampNeg) (v := x3) (by decide)
  have a5 : sP σ m 22 = some (ad 22) := hR.P (k := 22) (by decide)
  have a6 : sP σ m 15 = some (ad 15) := hR.P (k := 15) (by decide)
  refine ⟨hR.N (k := 15) (by decide) h.1, ?_⟩
  have h := h.2
  intro x7 e8
  rw [hR.2.2 15 (by decide)] at e8
  have h := h x7 e8
  refine ⟨ad 22, a5, ?_⟩
  refine ⟨hR.K (k := 22) (by decide), ?_⟩
  refine ⟨hR.N (k := 22) (by decide) h.1, ?_⟩
  have h := h.2
  have F := F.A (k := 22) (i := p1.toNatClampNeg) (v := x7) (by decide)
  have hR := hR.A (k := 22) (i := p1.toNatClampNeg) (v := x7) (by decide)
  have a9 : sP σ m 27 = some (ad 27) := hR.P (k := 27) (by decide)
  have a10 : sP σ m 15 = some (ad 15) := hR.P (k := 15) (by decide)
  refine ⟨hR.N (k := 15) (by decide) h.1, ?_⟩
  have h := h.2
  intro x11 e12
  rw [hR.2.2 15 (by decide)] at e12
  have h := h x11 e12
  refine ⟨ad 27, a9, ?_⟩
  refine ⟨hR.K (k := 27) (by decide), ?_⟩
  refine ⟨hR.N (k := 27) (by decide) h.1, ?_⟩
  have h := h.2
  have F := F.A (k := 27) (i := p1.toNatClampNeg) (v := x11) (by decide)
  have hR := hR.A (k := 27) (i := p1.toNatClampNeg) (v := x11) (by decide)
  have a13 : sP σ m 26 = some (ad 26) := hR.P (k := 26) (by decide)
  have a14 : sP σ m 15 = some (ad 15) := hR.P (k := 15) (by decide)
  refine ⟨hR.N (k := 15) (by decide) h.1, ?_⟩
  have h := h.2
  intro x15 e16
  rw [hR.2.2 15 (by decide)] at e16
  have h := h x15 e16
  refine ⟨ad 26, a13, ?_⟩
  refine ⟨hR.K (k := 26) (by decide), ?_⟩
  refine ⟨hR.N (k := 26) (by decide) h.1, ?_⟩
  have h := h.2
  have F := F.A (k := 26) (i := p1.toNatClampNeg) (v := x15) (by decide)
  have hR := hR.A (k := 26) (i := p1.toNatClampNeg) (v := x15) (by decide)
  have a17 : sP σ m 15 = some (ad 15) := hR.P (k := 15) (by decide)
  refine ⟨hR.N (k := 15) (by decide) h.1, ?_⟩
  have h := h.2
  intro x18 e19
  rw [hR.2.2 15 (by decide)] at e19
  have h := h x18 e19
  refine x_X12_readEntries hR h (fun σ21 X22 h hR F23 => ?_)
  have F := F.trans F23
  refine ⟨hR.1.1, ?_⟩
  refine x_X12_forgetCounts hR h (fun σ25 X26 h hR F27 => ?_)
  have F := F.trans F27
  refine ⟨hR.1.1, ?_⟩
  have a28 : sP σ25 m 29 = some (ad 29) := hR.P (k := 29) (by decide)
  refine ⟨ad 29, a28, ?_⟩
  refine ⟨hR.K (k := 29) (by decide), ?_⟩
  refine ⟨hR.N (k := 29) (by decide) h.1, ?_⟩
  have h := h.2
  have F := F.A (k := 29) (i := p1.toNatClampNeg) (v := (0 : Int32)) (by decide)
  have hR := hR.A (k := 29) (i := p1.toNatClampNeg) (v := (0 : Int32)) (by decide)
  refine x_X12_becomeNormal hR h (fun σ30 X31 h hR F32 => ?_)
  have F := F.trans F32
  exact hQ _ _ h hR F
def wx_X12_getsStart (p1 : Int32) (p2 : Int32) (X : Xc) (Qx : Xc → Prop) : Prop := (vp_in p1 7 ∧ (∀ x2 : Int32, x2 = X.2 21 p1.toNatClampNeg → (vp_in p1 7 ∧ (∀ x5 : Int32, x5 = X.2 22 p1.toNatClampNeg → (vp_in (3 : Int32) 640 ∧ (∀ x8 : Int32, x8 = X.2 15 (3 : Int32).toNatClampNeg → (vp_in (4 : Int32) 640 ∧ (∀ x11 : Int32, x11 = X.2 15 (4 : Int32).toNatClampNeg → (wx_X12_isBehind x2 x5 x8 x11 X (fun (x13 : Int32) (X15 : Xc) => ((¬ x13 = 0 → bx_X12_getsStart_45  Qx p1 X15) ∧ (x13 = 0 → ((p2 = 0 → Qx X15) ∧ (¬ p2 = 0 → (vp_in p1 7 ∧ (∀ x20 : Int32, x20 = X15.2 23 p1.toNatClampNeg → ((x20 = (2 : Int32) → bx_X12_getsStart_45  Qx p1 X15) ∧ (¬ x20 = (2 : Int32) → Qx X15))))))))))))))))))
set_option maxHeartbeats 4000000 in
set_option maxRecDepth 100000 in
theorem x_X12_getsStart {m : Nat} {ad : Nat → Nat} {p1 : Int32} {p2 : Int32} {σ : Sto} {X : Xc} {Q : Sto → Prop} {Qx : Xc → Prop} (hR : RefC m ad σ X) (h : wx_X12_getsStart p1 p2 X Qx) (hQ : ∀ (σ' : Sto) (X' : Xc), Qx X' → RefC m ad σ' X' → Fi m ad σ σ' → Q σ') : wp_X12_getsStart m p1 p2 σ Q := by
  have F : Fi m ad σ σ := Fi.rf
  unfold wx_X12_getsStart at h
  unfold wp_X12_getsStart
  refine ⟨hR.1.1, ?_⟩
  have a1 : sP σ m 21 = some (ad 21) := hR.P (k := 21) (by decide)
  refine ⟨ad 21, a1, ?_⟩
  refine ⟨hR.K (k := 21) (by decide), ?_⟩
  refine ⟨hR.N (k := 21) (by decide) h.1, ?_⟩
  have h := h.2
  intro x2 e3
  rw [hR.2.2 21 (by decide)] at e3
  have h := h x2 e3
  have a4 : sP σ m 22 = some (ad 22) := hR.P (k := 22) (by decide)
  refine ⟨ad 22, a4, ?_⟩
  refine ⟨hR.K (k := 22) (by decide), ?_⟩
  refine ⟨hR.N (k := 22) (by decide) h.1, ?_⟩
  have h := h.2
  intro x5 e6
  rw [hR.2.2 22 (by decide)] at e6
  have h := h x5 e6
  have a7 : sP σ m 15 = some (ad 15) := hR.P (k := 15) (by decide)
  refine ⟨ad 15, a7, ?_⟩
  refine ⟨hR.K (k := 15) (by decide), ?_⟩
  refine ⟨hR.N (k := 15) (by decide) h.1, ?_⟩
  have h := h.2
  intro x8 e9
  rw [hR.2.2 15 (by decide)] at e9
  have h := h x8 e9
  have a10 : sP σ m 15 = some (ad 15) := hR.P (k := 15) (by decide)
  refine ⟨hR.N (k := 15) (by decide) h.1, ?_⟩
  have h := h.2
  intro x11 e12
  rw [hR.2.2 15 (by decide)] at e12
  have h := h x11 e12
  refine x_X12_isBehind hR h (fun x13 σ14 X15 h hR F16 => ?_)
  have F := F.trans F16
  refine ⟨fun c17 => ?_, fun c17 => ?_⟩
  · have h := h.1 c17
    exact xb_X12_getsStart_45 hQ  p1 _ _ hR F h
  · have h := h.2 c17
    refine ⟨fun c18 => ?_, fun c18 => ?_⟩
    · have h := h.1 c18
      exact hQ _ _ h hR F
    · have h := h.2 c18
      refine ⟨hR.1.1, ?_⟩
      have a19 : sP σ14 m 23 = some (ad 23) := hR.P (k := 23) (by decide)
      refine ⟨ad 23, a19, ?_⟩
      refine ⟨hR.K (k := 23) (by decide), ?_⟩
      refine ⟨hR.N (k := 23) (by decide) h.1, ?_⟩
      have h := h.2
      intro x20 e21
      rw [hR.2.2 23 (by decide)] at e21
      have h := h x20 e21
      refine ⟨fun c22 => ?_, fun c22 => ?_⟩
      · have h := h.1 c22
        exact xb_X12_getsStart_45 hQ  p1 _ _ hR F h
      · have h := h.2 c22
        exact hQ _ _ h hR F
def wx_X12_lookUp (p1 : Int32) (p2 : Int32) (X : Xc) (Qx : Xc → Prop) : Prop := (vp_in p1 7 ∧ (∀ x2 : Int32, x2 = X.2 26 p1.toNatClampNeg → (wx_X12_in p2 (1 : Int32) x2 X (fun (x4 : Int32) (X6 : Xc) => ((¬ x4 = 0 → (vp_in (1 : Int32) 640 ∧ (∀ x10 : Int32, x10 = X6.2 15 (1 : Int32).toNatClampNeg → (∀ x12 : Int32, x12 = (((100 : Int32) * p1) + p2) - (1 : Int32) → (vp_in x12 700 ∧ (∀ x15 : Int32, x15 = X6.2 30 x12.toNatClampNeg → ((¬ x15 = 0 → (wx_X12_begin (2 : Int32) p1 x10 X6 (fun (X20 : Xc) => (wx_X12_addView p1 X20 (fun (X24 : Xc) => (wx_X12_add p2 X24 (fun (X28 : Xc) => (vp_in x12 700 ∧ (∀ x31 : Int32, x31 = X28.2 31 x12.toNatClampNeg → (wx_X12_add x31 X28 (fun (X35 : Xc) => (vp_in x12 700 ∧ (∀ x38 : Int32, x38 = X35.2 32 x12.toNatClampNeg → (wx_X12_add x38 X35 (fun (X42 : Xc) => (vp_in x12 700 ∧ (∀ x45 : Int32, x45 = X42.2 33 x12.toNatClampNeg → (wx_X12_add x45 X42 (fun (X49 : Xc) => (vp_in x12 700 ∧ (∀ x52 : Int32, x52 = X49.2 34 x12.toNatClampNeg → (wx_X12_add x52 X49 (fun (X56 : Xc) => (vp_in x12 700 ∧ (∀ x59 : Int32, x59 = X56.2 35 x12.toNatClampNeg → (wx_X12_add x59 X56 (fun (X63 : Xc) => (wx_X12_post  X63 (fun (X67 : Xc) => Qx X67))))))))))))))))))))))))))))) ∧ (x15 = 0 → (wx_X12_tell (3 : Int32) p1 x10 p2 X6 (fun (X71 : Xc) => Qx X71)))))))))) ∧ (x4 = 0 → Qx X6))))))
set_option maxHeartbeats 4000000 in
set_option maxRecDepth 100000 in
theorem x_X12_lookUp {m : Nat} {ad : Nat → Nat} {p1 : Int32} {p2 : Int32} {σ : Sto} {X : Xc} {Q : Sto → Prop} {Qx : Xc → Prop} (hR : RefC m ad σ X) (h : wx_X12_lookUp p1 p2 X Qx) (hQ : ∀ (σ' : Sto) (X' : Xc), Qx X' → RefC m ad σ' X' → Fi m ad σ σ' → Q σ') : wp_X12_lookUp m p1 p2 σ Q := by
  have F : Fi m ad σ σ := Fi.rf
  unfold wx_X12_lookUp at h
  unfold wp_X12_lookUp
  refine ⟨hR.1.1, ?_⟩
  have a1 : sP σ m 26 = some (ad 26) := hR.P (k := 26) (by decide)
  refine ⟨ad 26, a1, ?_⟩
  refine ⟨hR.K (k := 26) (by decide), ?_⟩
  refine ⟨hR.N (k := 26) (by decide) h.1, ?_⟩
  have h := h.2
  intro x2 e3
  rw [hR.2.2 26 (by decide)] at e3
  have h := h x2 e3
  refine x_X12_in hR h (fun x4 σ5 X6 h hR F7 => ?_)
  have F := F.trans F7
  refine ⟨fun c8 => ?_, fun c8 => ?_⟩
  · have h := h.1 c8
    refine ⟨hR.1.1, ?_⟩
    have a9 : sP σ5 m 15 = some (ad 15) := hR.P (k := 15) (by decide)
    refine ⟨ad 15, a9, ?_⟩
    refine ⟨hR.K (k := 15) (by decide), ?_⟩
    refine ⟨hR.N (k := 15) (by decide) h.1, ?_⟩
    have h := h.2
    intro x10 e11
    rw [hR.2.2 15 (by decide)] at e11
    have h := h x10 e11
    intro x12 e13
    have h := h x12 e13
    have a14 : sP σ5 m 30 = some (ad 30) := hR.P (k := 30) (by decide)
    refine ⟨ad 30, a14, ?_⟩
    refine ⟨hR.K (k := 30) (by decide), ?_⟩
    refine ⟨hR.N (k := 30) (by decide) h.1, ?_⟩
    have h := h.2
    intro x15 e16
    rw [hR.2.2 30 (by decide)] at e16
    have h := h x15 e16
    refine ⟨fun c17 => ?_, fun c17 => ?_⟩
    · have h := h.1 c17
      refine x_X12_begin hR h (fun σ19 X20 h hR F21 => ?_)
      have F := F.trans F21
      refine ⟨hR.1.1, ?_⟩
      refine x_X12_addView hR h (fun σ23 X24 h hR F25 => ?_)
      have F := F.trans F25
      refine ⟨hR.1.1, ?_⟩
      refine x_X12_add hR h (fun σ27 X28 h hR F29 => ?_)
      have F := F.trans F29
      refine ⟨hR.1.1, ?_⟩
      have a30 : sP σ27 m 31 = some (ad 31) := hR.P (k := 31) (by decide)
      refine ⟨ad 31, a30, ?_⟩
      refine ⟨hR.K (k := 31) (by decide), ?_⟩
      refine ⟨hR.N (k := 31) (by decide) h.1, ?_⟩
      have h := h.2
      intro x31 e32
      rw [hR.2.2 31 (by decide)] at e32
      have h := h x31 e32
      refine x_X12_add hR h (fun σ34 X35 h hR F36 => ?_)
      have F := F.trans F36
      refine ⟨hR.1.1, ?_⟩
      have a37 : sP σ34 m 32 = some (ad 32) := hR.P (k := 32) (by decide)
      refine ⟨ad 32, a37, ?_⟩
      refine ⟨hR.K (k := 32) (by decide), ?_⟩
      refine ⟨hR.N (k := 32) (by decide) h.1, ?_⟩
      have h := h.2
      intro x38 e39
      rw [hR.2.2 32 (by decide)] at e39
      have h := h x38 e39
      refine x_X12_add hR h (fun σ41 X42 h hR F43 => ?_)
      have F := F.trans F43
      refine ⟨hR.1.1, ?_⟩
      have a44 : sP σ41 m 33 = some (ad 33) := hR.P (k := 33) (by decide)
      refine ⟨ad 33, a44, ?_⟩
      refine ⟨hR.K (k := 33) (by decide), ?_⟩
      refine ⟨hR.N (k := 33) (by decide) h.1, ?_⟩
      have h := h.2
      intro x45 e46
      rw [hR.2.2 33 (by decide)] at e46
      have h := h x45 e46
      refine x_X12_add hR h (fun σ48 X49 h hR F50 => ?_)
      have F := F.trans F50
      refine ⟨hR.1.1, ?_⟩
      have a51 : sP σ48 m 34 = some (ad 34) := hR.P (k := 34) (by decide)
      refine ⟨ad 34, a51, ?_⟩
      refine ⟨hR.K (k := 34) (by decide), ?_⟩
      refine ⟨hR.N (k := 34) (by decide) h.1, ?_⟩
      have h := h.2
      intro x52 e53
      rw [hR.2.2 34 (by decide)] at e53
      have h := h x52 e53
      refine x_X12_add hR h (fun σ55 X56 h hR F57 => ?_)
      have F := F.trans F57
      refine ⟨hR.1.1, ?_⟩
      have a58 : sP σ55 m 35 = some (ad 35) := hR.P (k := 35) (by decide)
      refine ⟨ad 35, a58, ?_⟩
      refine ⟨hR.K (k := 35) (by decide), ?_⟩
      refine ⟨hR.N (k := 35) (by decide) h.1, ?_⟩
      have h := h.2
      intro x59 e60
      rw [hR.2.2 35 (by decide)] at e60
      have h := h x59 e60
      refine x_X12_add hR h (fun σ62 X63 h hR F64 => ?_)
      have F := F.trans F64
      refine ⟨hR.1.1, ?_⟩
      refine x_X12_post hR h (fun σ66 X67 h hR F68 => ?_)
      have F := F.trans F68
      exact hQ _ _ h hR F
    · have h := h.2 c17
      refine x_X12_tell hR h (fun σ70 X71 h hR F72 => ?_)
      have F := F.trans F72
      exact hQ _ _ h hR F
  · have h := h.2 c8
    exact hQ _ _ h hR F
def bx_X12_commitGap_91 (Qx : Xc → Prop) (p1 : Int32) (p2 : Int32) (X : Xc) : Prop := (wx_X12_addNothing p1 X (fun (X3 : Xc) => (wx_X12_leader p1 X3 (fun (x5 : Int32) (X7 : Xc) => (wx_X12_tell (4 : Int32) p1 x5 p2 X7 (fun (X11 : Xc) => (wx_X12_takes p1 X11 (fun (X15 : Xc) => Qx X15))))))))
set_option maxHeartbeats 4000000 in
set_option maxRecDepth 100000 in
theorem xb_X12_commitGap_91 {m : Nat} {ad : Nat → Nat} {σ0 : Sto} {Q : Sto → Prop} {Qx : Xc → Prop} (hQ : ∀ (σ' : Sto) (X' : Xc), Qx X' → RefC m ad σ' X' → Fi m ad σ0 σ' → Q σ')  (p1 : Int32) (p2 : Int32) (σ : Sto) (X : Xc) (hR : RefC m ad σ X) (F : Fi m ad σ0 σ) (h : bx_X12_commitGap_91  Qx p1 p2 X) : b_X12_commitGap_91 m  Q p1 p2 σ := by
  unfold bx_X12_commitGap_91 at h
  unfold b_X12_commitGap_91
  refine ⟨hR.1.1, ?_⟩
  refine x_X12_addNothing hR h (fun σ2 X3 h hR F4 => ?_)
  have F := F.trans F4
  refine ⟨hR.1.1, ?_⟩
  refine x_X12_leader hR h (fun x5 σ6 X7 h hR F8 => ?_)
  have F := F.trans F8
  refine ⟨hR.1.1, ?_⟩
  refine x_X12_tell hR h (fun σ10 X11 h hR F12 => ?_)
  have F := F.trans F12
  refine ⟨hR.1.1, ?_⟩
  refine x_X12_takes hR h (fun σ14 X15 h hR F16 => ?_)
  have F := F.trans F16
  exact hQ _ _ h hR F
def wx_X12_commitGap (p1 : Int32) (p2 : Int32) (X : Xc) (Qx : Xc → Prop) : Prop := (vp_in p1 7 ∧ (∀ x2 : Int32, x2 = X.2 26 p1.toNatClampNeg → (wx_X12_in p2 (1 : Int32) x2 X (fun (x4 : Int32) (X6 : Xc) => ((x4 = 0 → (vp_in p1 7 ∧ (∀ x10 : Int32, x10 = X6.2 26 p1.toNatClampNeg → ((¬ p2 = (x10 + (1 : Int32)) → Qx X6) ∧ (p2 = (x10 + (1 : Int32)) → (vp_in p1 7 ∧ (∀ x14 : Int32, x14 = X6.2 26 p1.toNatClampNeg → (((100 : Int32) ≤ x14 → Qx X6) ∧ (¬ (100 : Int32) ≤ x14 → (vp_in p1 7 ∧ (∀ x18 : Int32, x18 = X6.2 27 p1.toNatClampNeg → (wx_X12_heldAt p1 (p2 - x18) X6 (fun (x20 : Int32) (X22 : Xc) => ((x20 = (-1 : Int32) → bx_X12_commitGap_91  Qx p1 p2 X22) ∧ (¬ x20 = (-1 : Int32) → (wx_X12_drop p1 x20 X22 (fun (X27 : Xc) => bx_X12_commitGap_91  Qx p1 p2 X27))))))))))))))))) ∧ (¬ x4 = 0 → (vp_in ((((100 : Int32) * p1) + p2) - (1 : Int32)) 700 ∧ (wx_X12_leader p1 (xA X6 30 ((((100 : Int32) * p1) + p2) - (1 : Int32)).toNatClampNeg (vp_nar .boolean (0 : Int32))) (fun (x30 : Int32) (X32 : Xc) => (wx_X12_tell (4 : Int32) p1 x30 p2 X32 (fun (X36 : Xc) => Qx X36)))))))))))
set_option maxHeartbeats 4000000 in
set_option maxRecDepth 100000 in
theorem x_X12_commitGap {m : Nat} {ad : Nat → Nat} {p1 : Int32} {p2 : Int32} {σ : Sto} {X : Xc} {Q : Sto → Prop} {Qx : Xc → Prop} (hR : RefC m ad σ X) (h : wx_X12_commitGap p1 p2 X Qx) (hQ : ∀ (σ' : Sto) (X' : Xc), Qx X' → RefC m ad σ' X' → Fi m ad σ σ' → Q σ') : wp_X12_commitGap m p1 p2 σ Q := by
  have F : Fi m ad σ σ := Fi.rf
  unfold wx_X12_commitGap at h
  unfold wp_X12_commitGap
  refine ⟨hR.1.1, ?_⟩
  have a1 : sP σ m 26 = some (ad 26) := hR.P (k := 26) (by decide)
  refine ⟨ad 26, a1, ?_⟩
  refine ⟨hR.K (k := 26) (by decide), ?_⟩
  refine ⟨hR.N (k := 26) (by decide) h.1, ?_⟩
  have h := h.2
  intro x2 e3
  rw [hR.2.2 26 (by decide)] at e3
  have h := h x2 e3
  refine x_X12_in hR h (fun x4 σ5 X6 h hR F7 => ?_)
  have F := F.trans F7
  refine ⟨fun c8 => ?_, fun c8 => ?_⟩
  · have h := h.1 c8
    refine ⟨hR.1.1, ?_⟩
    have a9 : sP σ5 m 26 = some (ad 26) := hR.P (k := 26) (by decide)
    refine ⟨ad 26, a9, ?_⟩
    refine ⟨hR.K (k := 26) (by decide), ?_⟩
    refine ⟨hR.N (k := 26) (by decide) h.1, ?_⟩
    have h := h.2
    intro x10 e11
    rw [hR.2.2 26 (by decide)] at e11
    have h := h x10 e11
    refine ⟨fun c12 => ?_, fun c12 => ?_⟩
    · have h := h.1 c12
      exact hQ _ _ h hR F
    · have h := h.2 c12
      have a13 : sP σ5 m 26 = some (ad 26) := hR.P (k := 26) (by decide)
      refine ⟨hR.N (k := 26) (by decide) h.1, ?_⟩
      have h := h.2
      intro x14 e15
      rw [hR.2.2 26 (by decide)] at e15
      have h := h x14 e15
      refine ⟨fun c16 => ?_, fun c16 => ?_⟩
      · have h := h.1 c16
        exact hQ _ _ h hR F
      · have h := h.2 c16
        have a17 : sP σ5 m 27 = some (ad 27) := hR.P (k := 27) (by decide)
        refine ⟨ad 27, a17, ?_⟩
        refine ⟨hR.K (k := 27) (by decide), ?_⟩
        refine ⟨hR.N (k := 27) (by decide) h.1, ?_⟩
        have h := h.2
        intro x18 e19
        rw [hR.2.2 27 (by decide)] at e19
        have h := h x18 e19
        refine x_X12_heldAt hR h (fun x20 σ21 X22 h hR F23 => ?_)
        have F := F.trans F23
        refine ⟨fun c24 => ?_, fun c24 => ?_⟩
        · have h := h.1 c24
          exact xb_X12_commitGap_91 hQ  p1 p2 _ _ hR F h
        · have h := h.2 c24
          refine ⟨hR.1.1, ?_⟩
          refine x_X12_drop hR h (fun σ26 X27 h hR F28 => ?_)
          have F := F.trans F28
          exact xb_X12_commitGap_91 hQ  p1 p2 _ _ hR F h
  · have h := h.2 c8
    refine ⟨hR.1.1, ?_⟩
    have a29 : sP σ5 m 30 = some (ad 30) := hR.P (k := 30) (by decide)
    refine ⟨ad 30, a29, ?_⟩
    refine ⟨hR.K (k := 30) (by decide), ?_⟩
    refine ⟨hR.N (k := 30) (by decide) h.1, ?_⟩
    have h := h.2
    have F := F.A (k := 30) (i := ((((100 : Int32) * p1) + p2) - (1 : Int32)).toNatClampNeg) (v := (vp_nar .boolean (0 : Int32))) (by decide)
    have hR := hR.A (k := 30) (i := ((((100 : Int32) * p1) + p2) - (1 : Int32)).toNatClampNeg) (v := (vp_nar .boolean (0 : Int32))) (by decide)
    refine x_X12_leader hR h (fun x30 σ31 X32 h hR F33 => ?_)
    have F := F.trans F33
    refine ⟨hR.1.1, ?_⟩
    refine x_X12_tell hR h (fun σ35 X36 h hR F37 => ?_)
    have F := F.trans F37
    exact hQ _ _ h hR F
