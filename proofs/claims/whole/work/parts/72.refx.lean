def bx_X12_hold_37 (Qx : Xc → Prop) (p2 : Int32) (p3 : Int32) (p4 : Int32) (X : Xc) : Prop := (vp_in p4 112 ∧ (vp_in p3 640 ∧ (∀ x4 : Int32, x4 = (xA X 37 p4.toNatClampNeg p2).2 15 p3.toNatClampNeg → (vp_in p4 112 ∧ (∀ x8 : Int32, x8 = p3 + (1 : Int32) → (vp_in x8 640 ∧ (∀ x10 : Int32, x10 = (xA (xA X 37 p4.toNatClampNeg p2) 38 p4.toNatClampNeg x4).2 15 x8.toNatClampNeg → (vp_in p4 112 ∧ (∀ x14 : Int32, x14 = p3 + (2 : Int32) → (vp_in x14 640 ∧ (∀ x16 : Int32, x16 = (xA (xA (xA X 37 p4.toNatClampNeg p2) 38 p4.toNatClampNeg x4) 39 p4.toNatClampNeg x10).2 15 x14.toNatClampNeg → (vp_in p4 112 ∧ (∀ x20 : Int32, x20 = p3 + (3 : Int32) → (vp_in x20 640 ∧ (∀ x22 : Int32, x22 = (xA (xA (xA (xA X 37 p4.toNatClampNeg p2) 38 p4.toNatClampNeg x4) 39 p4.toNatClampNeg x10) 40 p4.toNatClampNeg x16).2 15 x20.toNatClampNeg → (vp_in p4 112 ∧ (∀ x26 : Int32, x26 = p3 + (4 : Int32) → (vp_in x26 640 ∧ (∀ x28 : Int32, x28 = (xA (xA (xA (xA (xA X 37 p4.toNatClampNeg p2) 38 p4.toNatClampNeg x4) 39 p4.toNatClampNeg x10) 40 p4.toNatClampNeg x16) 41 p4.toNatClampNeg x22).2 15 x26.toNatClampNeg → (vp_in p4 112 ∧ Qx (xA (xA (xA (xA (xA (xA X 37 p4.toNatClampNeg p2) 38 p4.toNatClampNeg x4) 39 p4.toNatClampNeg x10) 40 p4.toNatClampNeg x16) 41 p4.toNatClampNeg x22) 42 p4.toNatClampNeg x28)))))))))))))))))))))
set_option maxHeartbeats 4000000 in
set_option maxRecDepth 100000 in
theorem xb_X12_hold_37 {m : Nat} {ad : Nat → Nat} {σ0 : Sto} {Q : Sto → Prop} {Qx : Xc → Prop} (hQ : ∀ (σ' : Sto) (X' : Xc), Qx X' → RefC m ad σ' X' → Fi m ad σ0 σ' → Q σ')  (p2 : Int32) (p3 : Int32) (p4 : Int32) (σ : Sto) (X : Xc) (hR : RefC m ad σ X) (F : Fi m ad σ0 σ) (h : bx_X12_hold_37  Qx p2 p3 p4 X) : b_X12_hold_37 m  Q p2 p3 p4 σ := by
  unfold bx_X12_hold_37 at h
  unfold b_X12_hold_37
  refine ⟨hR.1.1, ?_⟩
  have a1 : sP σ m 37 = some (ad 37) := hR.P (k := 37) (by decide)
  refine ⟨ad 37, a1, ?_⟩
  refine ⟨hR.K (k := 37) (by decide), ?_⟩
  refine ⟨hR.N (k := 37) (by decide) h.1, ?_⟩
  have h := h.2
  have F := F.A (k := 37) (i := p4.toNatClampNeg) (v := p2) (by decide)
  have hR := hR.A (k := 37) (i := p4.toNatClampNeg) (v := p2) (by decide)
  have a2 : sP σ m 38 = some (ad 38) := hR.P (k := 38) (by decide)
  have a3 : sP σ m 15 = some (ad 15) := hR.P (k := 15) (by decide)
  refine ⟨ad 15, a3, ?_⟩
  refine ⟨hR.K (k := 15) (by decide), ?_⟩
  refine ⟨hR.N (k := 15) (by decide) h.1, ?_⟩
  have h := h.2
  intro x4 e5
  rw [hR.2.2 15 (by decide)] at e5
  have h := h x4 e5
  refine ⟨ad 38, a2, ?_⟩
  refine ⟨hR.K (k := 38) (by decide), ?_⟩
  refine ⟨hR.N (k := 38) (by decide) h.1, ?_⟩
  have h := h.2
  have F := F.A (k := 38) (i := p4.toNatClampNeg) (v := x4) (by decide)
  have hR := hR.A (k := 38) (i := p4.toNatClampNeg) (v := x4) (by decide)
  have a6 : sP σ m 39 = some (ad 39) := hR.P (k := 39) (by decide)
  have a7 : sP σ m 15 = some (ad 15) := hR.P (k := 15) (by decide)
  intro x8 e9
  have h := h x8 e9
  refine ⟨hR.N (k := 15) (by decide) h.1, ?_⟩
  have h := h.2
  intro x10 e11
  rw [hR.2.2 15 (by decide)] at e11
  have h := h x10 e11
  refine ⟨ad 39, a6, ?_⟩
  refine ⟨hR.K (k := 39) (by decide), ?_⟩
  refine ⟨hR.N (k := 39) (by decide) h.1, ?_⟩
  have h := h.2
  have F := F.A (k := 39) (i := p4.toNatClampNeg) (v := x10) (by decide)
  have hR := hR.A (k := 39) (i := p4.toNatClampNeg) (v := x10) (by decide)
  have a12 : sP σ m 40 = some (ad 40) := hR.P (k := 40) (by decide)
  have a13 : sP σ m 15 = some (ad 15) := hR.P (k := 15) (by decide)
  intro x14 e15
  have h := h x14 e15
  refine ⟨hR.N (k := 15) (by decide) h.1, ?_⟩
  have h := h.2
  intro x16 e17
  rw [hR.2.2 15 (by decide)] at e17
  have h := h x16 e17
  refine ⟨ad 40, a12, ?_⟩
  refine ⟨hR.K (k := 40) (by decide), ?_⟩
  refine ⟨hR.N (k := 40) (by decide) h.1, ?_⟩
  have h := h.2
  have F := F.A (k := 40) (i := p4.toNatClampNeg) (v := x16) (by decide)
  have hR := hR.A (k := 40) (i := p4.toNatClampNeg) (v := x16) (by decide)
  have a18 : sP σ m 41 = some (ad 41) := hR.P (k := 41) (by decide)
  have a19 : sP σ m 15 = some (ad 15) := hR.P (k := 15) (by decide)
  intro x20 e21
  have h := h x20 e21
  refine ⟨hR.N (k := 15) (by decide) h.1, ?_⟩
  have h := h.2
  intro x22 e23
  rw [hR.2.2 15 (by decide)] at e23
  have h := h x22 e23
  refine ⟨ad 41, a18, ?_⟩
  refine ⟨hR.K (k := 41) (by decide), ?_⟩
  refine ⟨hR.N (k := 41) (by decide) h.1, ?_⟩
  have h := h.2
  have F := F.A (k := 41) (i := p4.toNatClampNeg) (v := x22) (by decide)
  have hR := hR.A (k := 41) (i := p4.toNatClampNeg) (v := x22) (by decide)
  have a24 : sP σ m 42 = some (ad 42) := hR.P (k := 42) (by decide)
  have a25 : sP σ m 15 = some (ad 15) := hR.P (k := 15) (by decide)
  intro x26 e27
  have h := h x26 e27
  refine ⟨hR.N (k := 15) (by decide) h.1, ?_⟩
  have h := h.2
  intro x28 e29
  rw [hR.2.2 15 (by decide)] at e29
  have h := h x28 e29
  refine ⟨ad 42, a24, ?_⟩
  refine ⟨hR.K (k := 42) (by decide), ?_⟩
  refine ⟨hR.N (k := 42) (by decide) h.1, ?_⟩
  have h := h.2
  have F := F.A (k := 42) (i := p4.toNatClampNeg) (v := x28) (by decide)
  have hR := hR.A (k := 42) (i := p4.toNatClampNeg) (v := x28) (by decide)
  exact hQ _ _ h hR F
def wx_X12_hold (p1 : Int32) (p2 : Int32) (p3 : Int32) (X : Xc) (Qx : Xc → Prop) : Prop := (wx_X12_heldAt p1 p2 X (fun (x1 : Int32) (X3 : Xc) => ((¬ x1 = (-1 : Int32) → bx_X12_hold_37  Qx p2 p3 x1 X3) ∧ (x1 = (-1 : Int32) → (vp_in p1 7 ∧ (∀ x7 : Int32, x7 = X3.2 36 p1.toNatClampNeg → (∀ x9 : Int32, x9 = ((16 : Int32) * p1) + x7 → (vp_in p1 7 ∧ (∀ x12 : Int32, x12 = X3.2 36 p1.toNatClampNeg → (∀ x14 : Int32, x14 = x12 + (1 : Int32) → (vp_in p1 7 ∧ bx_X12_hold_37  Qx p2 p3 x9 (xA X3 36 p1.toNatClampNeg x14))))))))))))
set_option maxHeartbeats 4000000 in
set_option maxRecDepth 100000 in
theorem x_X12_hold {m : Nat} {ad : Nat → Nat} {p1 : Int32} {p2 : Int32} {p3 : Int32} {σ : Sto} {X : Xc} {Q : Sto → Prop} {Qx : Xc → Prop} (hR : RefC m ad σ X) (h : wx_X12_hold p1 p2 p3 X Qx) (hQ : ∀ (σ' : Sto) (X' : Xc), Qx X' → RefC m ad σ' X' → Fi m ad σ σ' → Q σ') : wp_X12_hold m p1 p2 p3 σ Q := by
  have F : Fi m ad σ σ := Fi.rf
  unfold wx_X12_hold at h
  unfold wp_X12_hold
  refine ⟨hR.1.1, ?_⟩
  refine x_X12_heldAt hR h (fun x1 σ2 X3 h hR F4 => ?_)
  have F := F.trans F4
  refine ⟨fun c5 => ?_, fun c5 => ?_⟩
  · have h := h.1 c5
    exact xb_X12_hold_37 hQ  p2 p3 x1 _ _ hR F h
  · have h := h.2 c5
    refine ⟨hR.1.1, ?_⟩
    have a6 : sP σ2 m 36 = some (ad 36) := hR.P (k := 36) (by decide)
    refine ⟨ad 36, a6, ?_⟩
    refine ⟨hR.K (k := 36) (by decide), ?_⟩
    refine ⟨hR.N (k := 36) (by decide) h.1, ?_⟩
    have h := h.2
    intro x7 e8
    rw [hR.2.2 36 (by decide)] at e8
    have h := h x7 e8
    intro x9 e10
    have h := h x9 e10
    have a11 : sP σ2 m 36 = some (ad 36) := hR.P (k := 36) (by decide)
    refine ⟨hR.N (k := 36) (by decide) h.1, ?_⟩
    have h := h.2
    intro x12 e13
    rw [hR.2.2 36 (by decide)] at e13
    have h := h x12 e13
    intro x14 e15
    have h := h x14 e15
    refine ⟨hR.N (k := 36) (by decide) h.1, ?_⟩
    have h := h.2
    have F := F.A (k := 36) (i := p1.toNatClampNeg) (v := x14) (by decide)
    have hR := hR.A (k := 36) (i := p1.toNatClampNeg) (v := x14) (by decide)
    exact xb_X12_hold_37 hQ  p2 p3 x9 _ _ hR F h
def wx_X12_drop (p1 : Int32) (p2 : Int32) (X : Xc) (Qx : Xc → Prop) : Prop := (vp_in p1 7 ∧ (∀ x2 : Int32, x2 = X.2 36 p1.toNatClampNeg → (∀ x4 : Int32, x4 = x2 - (1 : Int32) → (vp_in p1 7 ∧ (vp_in p1 7 ∧ (∀ x7 : Int32, x7 = (xA X 36 p1.toNatClampNeg x4).2 36 p1.toNatClampNeg → (∀ x9 : Int32, x9 = ((16 : Int32) * p1) + x7 → (vp_in x9 112 ∧ (∀ x13 : Int32, x13 = (xA X 36 p1.toNatClampNeg x4).2 37 x9.toNatClampNeg → (vp_in p2 112 ∧ (vp_in x9 112 ∧ (∀ x17 : Int32, x17 = (xA (xA X 36 p1.toNatClampNeg x4) 37 p2.toNatClampNeg x13).2 38 x9.toNatClampNeg → (vp_in p2 112 ∧ (vp_in x9 112 ∧ (∀ x21 : Int32, x21 = (xA (xA (xA X 36 p1.toNatClampNeg x4) 37 p2.toNatClampNeg x13) 38 p2.toNatClampNeg x17).2 39 x9.toNatClampNeg → (vp_in p2 112 ∧ (vp_in x9 112 ∧ (∀ x25 : Int32, x25 = (xA (xA (xA (xA X 36 p1.toNatClampNeg x4) 37 p2.toNatClampNeg x13) 38 p2.toNatClampNeg x17) 39 p2.toNatClampNeg x21).2 40 x9.toNatClampNeg → (vp_in p2 112 ∧ (vp_in x9 112 ∧ (∀ x29 : Int32, x29 = (xA (xA (xA (xA (xA X 36 p1.toNatClampNeg x4) 37 p2.toNatClampNeg x13) 38 p2.toNatClampNeg x17) 39 p2.toNatClampNeg x21) 40 p2.toNatClampNeg x25).2 41 x9.toNatClampNeg → (vp_in p2 112 ∧ (vp_in x9 112 ∧ (∀ x33 : Int32, x33 = (xA (xA (xA (xA (xA (xA X 36 p1.toNatClampNeg x4) 37 p2.toNatClampNeg x13) 38 p2.toNatClampNeg x17) 39 p2.toNatClampNeg x21) 40 p2.toNatClampNeg x25) 41 p2.toNatClampNeg x29).2 42 x9.toNatClampNeg → (vp_in p2 112 ∧ Qx (xA (xA (xA (xA (xA (xA (xA X 36 p1.toNatClampNeg x4) 37 p2.toNatClampNeg x13) 38 p2.toNatClampNeg x17) 39 p2.toNatClampNeg x21) 40 p2.toNatClampNeg x25) 41 p2.toNatClampNeg x29) 42 p2.toNatClampNeg x33))))))))))))))))))))))))))
set_option maxHeartbeats 4000000 in
set_option maxRecDepth 100000 in
theorem x_X12_drop {m : Nat} {ad : Nat → Nat} {p1 : Int32} {p2 : Int32} {σ : Sto} {X : Xc} {Q : Sto → Prop} {Qx : Xc → Prop} (hR : RefC m ad σ X) (h : wx_X12_drop p1 p2 X Qx) (hQ : ∀ (σ' : Sto) (X' : Xc), Qx X' → RefC m ad σ' X' → Fi m ad σ σ' → Q σ') : wp_X12_drop m p1 p2 σ Q := by
  have F : Fi m ad σ σ := Fi.rf
  unfold wx_X12_drop at h
  unfold wp_X12_drop
  refine ⟨hR.1.1, ?_⟩
  have a1 : sP σ m 36 = some (ad 36) := hR.P (k := 36) (by decide)
  refine ⟨ad 36, a1, ?_⟩
  refine ⟨hR.K (k := 36) (by decide), ?_⟩
  refine ⟨hR.N (k := 36) (by decide) h.1, ?_⟩
  have h := h.2
  intro x2 e3
  rw [hR.2.2 36 (by decide)] at e3
  have h := h x2 e3
  intro x4 e5
  have h := h x4 e5
  refine ⟨hR.N (k := 36) (by decide) h.1, ?_⟩
  have h := h.2
  have F := F.A (k := 36) (i := p1.toNatClampNeg) (v := x4) (by decide)
  have hR := hR.A (k := 36) (i := p1.toNatClampNeg) (v := x4) (by decide)
  have a6 : sP σ m 36 = some (ad 36) := hR.P (k := 36) (by decide)
  refine ⟨hR.N (k := 36) (by decide) h.1, ?_⟩
  have h := h.2
  intro x7 e8
  rw [hR.2.2 36 (by decide)] at e8
  have h := h x7 e8
  intro x9 e10
  have h := h x9 e10
  have a11 : sP σ m 37 = some (ad 37) := hR.P (k := 37) (by decide)
  have a12 : sP σ m 37 = some (ad 37) := hR.P (k := 37) (by decide)
  refine ⟨ad 37, a12, ?_⟩
  refine ⟨hR.K (k := 37) (by decide), ?_⟩
  refine ⟨hR.N (k := 37) (by decide) h.1, ?_⟩
  have h := h.2
  intro x13 e14
  rw [hR.2.2 37 (by decide)] at e14
  have h := h x13 e14
  refine ⟨hR.N (k := 37) (by decide) h.1, ?_⟩
  have h := h.2
  have F := F.A (k := 37) (i := p2.toNatClampNeg) (v := x13) (by decide)
  have hR := hR.A (k := 37) (i := p2.toNatClampNeg) (v := x13) (by decide)
  have a15 : sP σ m 38 = some (ad 38) := hR.P (k := 38) (by decide)
  have a16 : sP σ m 38 = some (ad 38) := hR.P (k := 38) (by decide)
  refine ⟨ad 38, a16, ?_⟩
  refine ⟨hR.K (k := 38) (by decide), ?_⟩
  refine ⟨hR.N (k := 38) (by decide) h.1, ?_⟩
  have h := h.2
  intro x17 e18
  rw [hR.2.2 38 (by decide)] at e18
  have h := h x17 e18
  refine ⟨hR.N (k := 38) (by decide) h.1, ?_⟩
  have h := h.2
  have F := F.A (k := 38) (i := p2.toNatClampNeg) (v := x17) (by decide)
  have hR := hR.A (k := 38) (i := p2.toNatClampNeg) (v := x17) (by decide)
  have a19 : sP σ m 39 = some (ad 39) := hR.P (k := 39) (by decide)
  have a20 : sP σ m 39 = some (ad 39) := hR.P (k := 39) (by decide)
  refine ⟨ad 39, a20, ?_⟩
  refine ⟨hR.K (k := 39) (by decide), ?_⟩
  refine ⟨hR.N (k := 39) (by decide) h.1, ?_⟩
  have h := h.2
  intro x21 e22
  rw [hR.2.2 39 (by decide)] at e22
  have h := h x21 e22
  refine ⟨hR.N (k := 39) (by decide) h.1, ?_⟩
  have h := h.2
  have F := F.A (k := 39) (i := p2.toNatClampNeg) (v := x21) (by decide)
  have hR := hR.A (k := 39) (i := p2.toNatClampNeg) (v := x21) (by decide)
  have a23 : sP σ m 40 = some (ad 40) := hR.P (k := 40) (by decide)
  have a24 : sP σ m 40 = some (ad 40) := hR.P (k := 40) (by decide)
  refine ⟨ad 40, a24, ?_⟩
  refine ⟨hR.K (k := 40) (by decide), ?_⟩
  refine ⟨hR.N (k := 40) (by decide) h.1, ?_⟩
  have h := h.2
  intro x25 e26
  rw [hR.2.2 40 (by decide)] at e26
  have h := h x25 e26
  refine ⟨hR.N (k := 40) (by decide) h.1, ?_⟩
  have h := h.2
  have F := F.A (k := 40) (i := p2.toNatClampNeg) (v := x25) (by decide)
  have hR := hR.A (k := 40) (i := p2.toNatClampNeg) (v := x25) (by decide)
  have a27 : sP σ m 41 = some (ad 41) := hR.P (k := 41) (by decide)
  have a28 : sP σ m 41 = some (ad 41) := hR.P (k := 41) (by decide)
  refine ⟨ad 41, a28, ?_⟩
  refine ⟨hR.K (k := 41) (by decide), ?_⟩
  refine ⟨hR.N (k := 41) (by decide) h.1, ?_⟩
  have h := h.2
  intro x29 e30
  rw [hR.2.2 41 (by decide)] at e30
  have h := h x29 e30
  refine ⟨hR.N (k := 41) (by decide) h.1, ?_⟩
  have h := h.2
  have F := F.A (k := 41) (i := p2.toNatClampNeg) (v := x29) (by decide)
  have hR := hR.A (k := 41) (i := p2.toNatClampNeg) (v := x29) (by decide)
  have a31 : sP σ m 42 = some (ad 42) := hR.P (k := 42) (by decide)
  have a32 : sP σ m 42 = some (ad 42) := hR.P (k := 42) (by decide)
  refine ⟨ad 42, a32, ?_⟩
  refine ⟨hR.K (k := 42) (by decide), ?_⟩
  refine ⟨hR.N (k := 42) (by decide) h.1, ?_⟩
  have h := h.2
  intro x33 e34
  rw [hR.2.2 42 (by decide)] at e34
  have h := h x33 e34
  refine ⟨hR.N (k := 42) (by decide) h.1, ?_⟩
  have h := h.2
  have F := F.A (k := 42) (i := p2.toNatClampNeg) (v := x33) (by decide)
  have hR := hR.A (k := 42) (i := p2.toNatClampNeg) (v := x33) (by decide)
  exact hQ _ _ h hR F
def fx_X12_restart_23 (Qx : Xc → Prop) (Lx23 : Int32 → Xc → Prop) (t : Int32) (X : Xc) : Prop := (((4 : Int32) ≤ t → Qx X) ∧ (¬ (4 : Int32) ≤ t → (vp_in t 4 ∧ (vp_in t 4 ∧ (∀ x4 : Int32, x4 = t + (1 : Int32) → Lx23 (x4) (xA (xA X 63 t.toNatClampNeg (0 : Int32)) 64 t.toNatClampNeg (0 : Int32)))))))
set_option maxHeartbeats 4000000 in
set_option maxRecDepth 100000 in
theorem xf_X12_restart_23 {m : Nat} {ad : Nat → Nat} {σ0 : Sto} {Q : Sto → Prop} {Qx : Xc → Prop} {Lx23 : Int32 → Xc → Prop} {L23 : Int32 → Sto → Prop} (hQ : ∀ (σ' : Sto) (X' : Xc), Qx X' → RefC m ad σ' X' → Fi m ad σ0 σ' → Q σ') (hL23 : ∀ (t : Int32) (σ : Sto) (X : Xc), Lx23 t X → RefC m ad σ X → Fi m ad σ0 σ → L23 t σ) : ∀ (t : Int32) (σ : Sto) (X : Xc), RefC m ad σ X → Fi m ad σ0 σ → fx_X12_restart_23  Qx Lx23 t X → f_X12_restart_23 m  Q L23 t σ := by
  intro t σ X hR F h
  unfold fx_X12_restart_23 at h
  unfold f_X12_restart_23
  refine ⟨fun c1 => ?_, fun c1 => ?_⟩
  · have h := h.1 c1
    exact hQ _ _ h hR F
  · have h := h.2 c1
    refine ⟨hR.1.1, ?_⟩
    have a2 : sP σ m 63 = some (ad 63) := hR.P (k := 63) (by decide)
    refine ⟨ad 63, a2, ?_⟩
    refine ⟨hR.K (k := 63) (by decide), ?_⟩
    refine ⟨hR.N (k := 63) (by decide) h.1, ?_⟩
    have h := h.2
    have F := F.A (k := 63) (i := t.toNatClampNeg) (v := (0 : Int32)) (by decide)
    have hR := hR.A (k := 63) (i := t.toNatClampNeg) (v := (0 : Int32)) (by decide)
    have a3 : sP σ m 64 = some (ad 64) := hR.P (k := 64) (by decide)
    refine ⟨ad 64, a3, ?_⟩
    refine ⟨hR.K (k := 64) (by decide), ?_⟩
    refine ⟨hR.N (k := 64) (by decide) h.1, ?_⟩
    have h := h.2
    have F := F.A (k := 64) (i := t.toNatClampNeg) (v := (0 : Int32)) (by decide)
    have hR := hR.A (k := 64) (i := t.toNatClampNeg) (v := (0 : Int32)) (by decide)
    intro x4 e5
    have h := h x4 e5
    exact hL23 _ _ _ h hR F
def fx_X12_restart_2 (Qx : Xc → Prop) (Lx2 : Int32 → Xc → Prop) (t : Int32) (X : Xc) : Prop := (((8 : Int32) ≤ t → LFx (fx_X12_restart_23  Qx) ((0 : Int32)) X) ∧ (¬ (8 : Int32) ≤ t → (vp_in t 8 ∧ (∀ x3 : Int32, x3 = t + (1 : Int32) → Lx2 (x3) (xA X 62 t.toNatClampNeg (0 : Int32))))))
set_option maxHeartbeats 4000000 in
set_option maxRecDepth 100000 in
theorem xf_X12_restart_2 {m : Nat} {ad : Nat → Nat} {σ0 : Sto} {Q : Sto → Prop} {Qx : Xc → Prop} {Lx2 : Int32 → Xc → Prop} {L2 : Int32 → Sto → Prop} (hQ : ∀ (σ' : Sto) (X' : Xc), Qx X' → RefC m ad σ' X' → Fi m ad σ0 σ' → Q σ') (hL2 : ∀ (t : Int32) (σ : Sto) (X : Xc), Lx2 t X → RefC m ad σ X → Fi m ad σ0 σ → L2 t σ) : ∀ (t : Int32) (σ : Sto) (X : Xc), RefC m ad σ X → Fi m ad σ0 σ → fx_X12_restart_2  Qx Lx2 t X → f_X12_restart_2 m  Q L2 t σ := by
  intro t σ X hR F h
  unfold fx_X12_restart_2 at h
  unfold f_X12_restart_2
  refine ⟨fun c1 => ?_, fun c1 => ?_⟩
  · have h := h.1 c1
    exact lfx h hR F (fun Lx L hL t σ X hR F h => xf_X12_restart_23 hQ  hL t σ X hR F h)
  · have h := h.2 c1
    refine ⟨hR.1.1, ?_⟩
    have a2 : sP σ m 62 = some (ad 62) := hR.P (k := 62) (by decide)
    refine ⟨ad 62, a2, ?_⟩
    refine ⟨hR.K (k := 62) (by decide), ?_⟩
    refine ⟨hR.N (k := 62) (by decide) h.1, ?_⟩
    have h := h.2
    have F := F.A (k := 62) (i := t.toNatClampNeg) (v := (0 : Int32)) (by decide)
    have hR := hR.A (k := 62) (i := t.toNatClampNeg) (v := (0 : Int32)) (by decide)
    intro x3 e4
    have h := h x3 e4
    exact hL2 _ _ _ h hR F
def wx_X12_restart  (X : Xc) (Qx : Xc → Prop) : Prop := LFx (fx_X12_restart_2  Qx) ((0 : Int32)) X
set_option maxHeartbeats 4000000 in
set_option maxRecDepth 100000 in
theorem x_X12_restart {m : Nat} {ad : Nat → Nat} {σ : Sto} {X : Xc} {Q : Sto → Prop} {Qx : Xc → Prop} (hR : RefC m ad σ X) (h : wx_X12_restart  X Qx) (hQ : ∀ (σ' : Sto) (X' : Xc), Qx X' → RefC m ad σ' X' → Fi m ad σ σ' → Q σ') : wp_X12_restart m  σ Q := by
  have F : Fi m ad σ σ := Fi.rf
  unfold wx_X12_restart at h
  unfold wp_X12_restart
  exact lfx h hR F (fun Lx L hL t σ X hR F h => xf_X12_restart_2 hQ  hL t σ X hR F h)
def bx_X12_doEntry_88 (Qx : Int32 → Xc → Prop) (p1 : Int32) (p3 : Int32) (X : Xc) : Prop := (vp_in p1 700 ∧ (∀ x2 : Int32, x2 = X.2 33 p1.toNatClampNeg → ((¬ x2 = (2 : Int32) → Qx (1 : Int32) X) ∧ (x2 = (2 : Int32) → (vp_in p3 8 ∧ (∀ x6 : Int32, x6 = X.2 62 p3.toNatClampNeg → (vp_in p1 700 ∧ (∀ x9 : Int32, x9 = X.2 35 p1.toNatClampNeg → (∀ x11 : Int32, x11 = x6 + x9 → (vp_in p3 8 ∧ Qx (1 : Int32) (xA X 62 p3.toNatClampNeg x11)))))))))))
set_option maxHeartbeats 4000000 in
set_option maxRecDepth 100000 in
theorem xb_X12_doEntry_88 {m : Nat} {ad : Nat → Nat} {σ0 : Sto} {Q : Int32 → Sto → Prop} {Qx : Int32 → Xc → Prop} (hQ : ∀ (r : Int32) (σ' : Sto) (X' : Xc), Qx r X' → RefC m ad σ' X' → Fi m ad σ0 σ' → Q r σ')  (p1 : Int32) (p3 : Int32) (σ : Sto) (X : Xc) (hR : RefC m ad σ X) (F : Fi m ad σ0 σ) (h : bx_X12_doEntry_88  Qx p1 p3 X) : b_X12_doEntry_88 m  Q p1 p3 σ := by
  unfold bx_X12_doEntry_88 at h
  unfold b_X12_doEntry_88
  refine ⟨hR.1.1, ?_⟩
  have a1 : sP σ m 33 = some (ad 33) := hR.P (k := 33) (by decide)
  refine ⟨ad 33, a1, ?_⟩
  refine ⟨hR.K (k := 33) (by decide), ?_⟩
  refine ⟨hR.N (k := 33) (by decide) h.1, ?_⟩
  have h := h.2
  intro x2 e3
  rw [hR.2.2 33 (by decide)] at e3
  have h := h x2 e3
  refine ⟨fun c4 => ?_, fun c4 => ?_⟩
  · have h := h.1 c4
    exact hQ _ _ _ h hR F
  · have h := h.2 c4
    have a5 : sP σ m 62 = some (ad 62) := hR.P (k := 62) (by decide)
    refine ⟨ad 62, a5, ?_⟩
    refine ⟨hR.K (k := 62) (by decide), ?_⟩
    refine ⟨hR.N (k := 62) (by decide) h.1, ?_⟩
    have h := h.2
    intro x6 e7
    rw [hR.2.2 62 (by decide)] at e7
    have h := h x6 e7
    have a8 : sP σ m 35 = some (ad 35) := hR.P (k := 35) (by decide)
    refine ⟨ad 35, a8, ?_⟩
    refine ⟨hR.K (k := 35) (by decide), ?_⟩
    refine ⟨hR.N (k := 35) (by decide) h.1, ?_⟩
    have h := h.2
    intro x9 e10
    rw [hR.2.2 35 (by decide)] at e10
    have h := h x9 e10
    intro x11 e12
    have h := h x11 e12
    refine ⟨hR.N (k := 62) (by decide) h.1, ?_⟩
    have h := h.2
    have F := F.A (k := 62) (i := p3.toNatClampNeg) (v := x11) (by decide)
    have hR := hR.A (k := 62) (i := p3.toNatClampNeg) (v := x11) (by decide)
    exact hQ _ _ _ h hR F
def wx_X12_doEntry (p1 : Int32) (X : Xc) (Qx : Int32 → Xc → Prop) : Prop := (vp_in p1 700 ∧ (∀ x2 : Int32, x2 = X.2 30 p1.toNatClampNeg → ((¬ x2 = 0 → (vp_in p1 700 ∧ (∀ x6 : Int32, x6 = X.2 31 p1.toNatClampNeg → (vp_in p1 700 ∧ (∀ x9 : Int32, x9 = X.2 32 p1.toNatClampNeg → (vp_in x6 4 ∧ (∀ x12 : Int32, x12 = X.2 63 x6.toNatClampNeg → ((x12 < x9 → (vp_in p1 700 ∧ (∀ x16 : Int32, x16 = X.2 34 p1.toNatClampNeg → (vp_in p1 700 ∧ (∀ x20 : Int32, x20 = X.2 32 p1.toNatClampNeg → (vp_in x6 4 ∧ (vp_in x16 8 ∧ (∀ x24 : Int32, x24 = (xA X 63 x6.toNatClampNeg x20).2 62 x16.toNatClampNeg → (vp_in x6 4 ∧ (vp_in p1 700 ∧ (∀ x27 : Int32, x27 = (xA (xA X 63 x6.toNatClampNeg x20) 64 x6.toNatClampNeg x24).2 33 p1.toNatClampNeg → ((¬ x27 = (1 : Int32) → bx_X12_doEntry_88  Qx p1 x16 (xA (xA X 63 x6.toNatClampNeg x20) 64 x6.toNatClampNeg x24)) ∧ (x27 = (1 : Int32) → (vp_in p1 700 ∧ (∀ x32 : Int32, x32 = (xA (xA X 63 x6.toNatClampNeg x20) 64 x6.toNatClampNeg x24).2 35 p1.toNatClampNeg → (vp_in x16 8 ∧ bx_X12_doEntry_88  Qx p1 x16 (xA (xA (xA X 63 x6.toNatClampNeg x20) 64 x6.toNatClampNeg x24) 62 x16.toNatClampNeg x32))))))))))))))))) ∧ (¬ x12 < x9 → Qx (0 : Int32) X))))))))) ∧ (x2 = 0 → Qx (0 : Int32) X))))
set_option maxHeartbeats 4000000 in
set_option maxRecDepth 100000 in
theorem x_X12_doEntry {m : Nat} {ad : Nat → Nat} {p1 : Int32} {σ : Sto} {X : Xc} {Q : Int32 → Sto → Prop} {Qx : Int32 → Xc → Prop} (hR : RefC m ad σ X) (h : wx_X12_doEntry p1 X Qx) (hQ : ∀ (r : Int32) (σ' : Sto) (X' : Xc), Qx r X' → RefC m ad σ' X' → Fi m ad σ σ' → Q r σ') : wp_X12_doEntry m p1 σ Q := by
  have F : Fi m ad σ σ := Fi.rf
  unfold wx_X12_doEntry at h
  unfold wp_X12_doEntry
  refine ⟨hR.1.1, ?_⟩
  have a1 : sP σ m 30 = some (ad 30) := hR.P (k := 30) (by decide)
  refine ⟨ad 30, a1, ?_⟩
  refine ⟨hR.K (k := 30) (by decide), ?_⟩
  refine ⟨hR.N (k := 30) (by decide) h.1, ?_⟩
  have h := h.2
  intro x2 e3
  rw [hR.2.2 30 (by decide)] at e3
  have h := h x2 e3
  refine ⟨fun c4 => ?_, fun c4 => ?_⟩
  · have h := h.1 c4
    have a5 : sP σ m 31 = some (ad 31) := hR.P (k := 31) (by decide)
    refine ⟨ad 31, a5, ?_⟩
    refine ⟨hR.K (k := 31) (by decide), ?_⟩
    refine ⟨hR.N (k := 31) (by decide) h.1, ?_⟩
    have h := h.2
    intro x6 e7
    rw [hR.2.2 31 (by decide)] at e7
    have h := h x6 e7
    have a8 : sP σ m 32 = some (ad 32) := hR.P (k := 32) (by decide)
    refine ⟨ad 32, a8, ?_⟩
    refine ⟨hR.K (k := 32) (by decide), ?_⟩
    refine ⟨hR.N (k := 32) (by decide) h.1, ?_⟩
    have h := h.2
    intro x9 e10
    rw [hR.2.2 32 (by decide)] at e10
    have h := h x9 e10
    have a11 : sP σ m 63 = some (ad 63) := hR.P (k := 63) (by decide)
    refine ⟨ad 63, a11, ?_⟩
    refine ⟨hR.K (k := 63) (by decide), ?_⟩
    refine ⟨hR.N (k := 63) (by decide) h.1, ?_⟩
    have h := h.2
    intro x12 e13
    rw [hR.2.2 63 (by decide)] at e13
    have h := h x12 e13
    refine ⟨fun c14 => ?_, fun c14 => ?_⟩
    · have h := h.1 c14
      have a15 : sP σ m 34 = some (ad 34) := hR.P (k := 34) (by decide)
      refine ⟨ad 34, a15, ?_⟩
      refine ⟨hR.K (k := 34) (by decide), ?_⟩
      refine ⟨hR.N (k := 34) (by decide) h.1, ?_⟩
      have h := h.2
      intro x16 e17
      rw [hR.2.2 34 (by decide)] at e17
      have h := h x16 e17
      have a18 : sP σ m 63 = some (ad 63) := hR.P (k := 63) (by decide)
      have a19 : sP σ m 32 = some (ad 32) := hR.P (k := 32) (by decide)
      refine ⟨hR.N (k := 32) (by decide) h.1, ?_⟩
      have h := h.2
      intro x20 e21
      rw [hR.2.2 32 (by decide)] at e21
      have h := h x20 e21
      refine ⟨hR.N (k := 63) (by decide) h.1, ?_⟩
      have h := h.2
      have F := F.A (k := 63) (i := x6.toNatClampNeg) (v := x20) (by decide)
      have hR := hR.A (k := 63) (i := x6.toNatClampNeg) (v := x20) (by decide)
      have a22 : sP σ m 64 = some (ad 64) := hR.P (k := 64) (by decide)
      have a23 : sP σ m 62 = some (ad 62) := hR.P (k := 62) (by decide)
      refine ⟨ad 62, a23, ?_⟩
      refine ⟨hR.K (k := 62) (by decide), ?_⟩
      refine ⟨hR.N (k := 62) (by decide) h.1, ?_⟩
      have h := h.2
      intro x24 e25
      rw [hR.2.2 62 (by decide)] at e25
      have h := h x24 e25
      refine ⟨ad 64, a22, ?_⟩
      refine ⟨hR.K (k := 64) (by decide), ?_⟩
      refine ⟨hR.N (k := 64) (by decide) h.1, ?_⟩
      have h := h.2
      have F := F.A (k := 64) (i := x6.toNatClampNeg) (v := x24) (by decide)
      have hR := hR.A (k := 64) (i := x6.toNatClampNeg) (v := x24) (by decide)
      have a26 : sP σ m 33 = some (ad 33) := hR.P (k := 33) (by decide)
      refine ⟨ad 33, a26, ?_⟩
      refine ⟨hR.K (k := 33) (by decide), ?_⟩
      refine ⟨hR.N (k := 33) (by decide) h.1, ?_⟩
      have h := h.2
      intro x27 e28
      rw [hR.2.2 33 (by decide)] at e28
      have h := h x27 e28
      refine ⟨fun c29 => ?_, fun c29 => ?_⟩
      · have h := h.1 c29
        exact xb_X12_doEntry_88 hQ  p1 x16 _ _ hR F h
      · have h := h.2 c29
        have a30 : sP σ m 62 = some (ad 62) := hR.P (k := 62) (by decide)
        have a31 : sP σ m 35 = some (ad 35) := hR.P (k := 35) (by decide)
        refine ⟨ad 35, a31, ?_⟩
        refine ⟨hR.K (k := 35) (by decide), ?_⟩
        refine ⟨hR.N (k := 35) (by decide) h.1, ?_⟩
        have h := h.2
        intro x32 e33
        rw [hR.2.2 35 (by decide)] at e33
        have h := h x32 e33
        refine ⟨hR.N (k := 62) (by decide) h.1, ?_⟩
        have h := h.2
        have F := F.A (k := 62) (i := x16.toNatClampNeg) (v := x32) (by decide)
        have hR := hR.A (k := 62) (i := x16.toNatClampNeg) (v := x32) (by decide)
        exact xb_X12_doEntry_88 hQ  p1 x16 _ _ hR F h
    · have h := h.2 c14
      exact hQ _ _ _ h hR F
  · have h := h.2 c4
    exact hQ _ _ _ h hR F
def fx_X12_execute_64 (Qx : Xc → Prop) (Lx64 : Int32 × Int32 × Int32 → Xc → Prop) (t : Int32 × Int32 × Int32) (X : Xc) : Prop := ((t.2.1 ≤ t.2.2 → Qx X) ∧ (¬ t.2.1 ≤ t.2.2 → (wx_X12_doEntry (((100 : Int32) * t.1) + t.2.2) X (fun (x2 : Int32) (X4 : Xc) => (∀ x6 : Int32, x6 = t.2.2 + (1 : Int32) → Lx64 (t.1, t.2.1, x6) X4)))))
set_option maxHeartbeats 4000000 in
set_option maxRecDepth 100000 in
theorem xf_X12_execute_64 {m : Nat} {ad : Nat → Nat} {σ0 : Sto} {Q : Sto → Prop} {Qx : Xc → Prop} {Lx64 : Int32 × Int32 × Int32 → Xc → Prop} {L64 : Int32 × Int32 × Int32 → Sto → Prop} (hQ : ∀ (σ' : Sto) (X' : Xc), Qx X' → RefC m ad σ' X' → Fi m ad σ0 σ' → Q σ') (hL64 : ∀ (t : Int32 × Int32 × Int32) (σ : Sto) (X : Xc), Lx64 t X → RefC m ad σ X → Fi m ad σ0 σ → L64 t σ) : ∀ (t : Int32 × Int32 × Int32) (σ : Sto) (X : Xc), RefC m ad σ X → Fi m ad σ0 σ → fx_X12_execute_64  Qx Lx64 t X → f_X12_execute_64 m  Q L64 t σ := by
  intro t σ X hR F h
  unfold fx_X12_execute_64 at h
  unfold f_X12_execute_64
  refine ⟨fun c1 => ?_, fun c1 => ?_⟩
  · have h := h.1 c1
    exact hQ _ _ h hR F
  · have h := h.2 c1
    refine ⟨hR.1.1, ?_⟩
    refine x_X12_doEntry hR h (fun x2 σ3 X4 h hR F5 => ?_)
    have F := F.trans F5
    intro x6 e7
    have h := h x6 e7
    exact hL64 _ _ _ h hR F
def bx_X12_execute_57 (Qx : Xc → Prop) (p1 : Int32) (s0 : Int32) (X : Xc) : Prop := (wx_X12_restart  X (fun (X3 : Xc) => LFx (fx_X12_execute_64  Qx) (p1, s0, (0 : Int32)) X3))
set_option maxHeartbeats 4000000 in
set_option maxRecDepth 100000 in
theorem xb_X12_execute_57 {m : Nat} {ad : Nat → Nat} {σ0 : Sto} {Q : Sto → Prop} {Qx : Xc → Prop} (hQ : ∀ (σ' : Sto) (X' : Xc), Qx X' → RefC m ad σ' X' → Fi m ad σ0 σ' → Q σ')  (p1 : Int32) (s0 : Int32) (σ : Sto) (X : Xc) (hR : RefC m ad σ X) (F : Fi m ad σ0 σ) (h : bx_X12_execute_57  Qx p1 s0 X) : b_X12_execute_57 m  Q p1 s0 σ := by
  unfold bx_X12_execute_57 at h
  unfold b_X12_execute_57
  refine ⟨hR.1.1, ?_⟩
  refine x_X12_restart hR h (fun σ2 X3 h hR F4 => ?_)
  have F := F.trans F4
  exact lfx h hR F (fun Lx L hL t σ X hR F h => xf_X12_execute_64 hQ  hL t σ X hR F h)
def bx_X12_execute_27 (Qx : Xc → Prop) (p1 : Int32) (X : Xc) : Prop := (vp_in p1 7 ∧ (∀ x2 : Int32, x2 = X.2 28 p1.toNatClampNeg → (vp_in p1 7 ∧ (∀ x5 : Int32, x5 = X.2 26 p1.toNatClampNeg → ((x5 ≤ x2 → (vp_in p1 7 ∧ (∀ x9 : Int32, x9 = X.2 26 p1.toNatClampNeg → bx_X12_execute_57  Qx p1 x9 X))) ∧ (¬ x5 ≤ x2 → (vp_in p1 7 ∧ (∀ x12 : Int32, x12 = X.2 28 p1.toNatClampNeg → bx_X12_execute_57  Qx p1 x12 X))))))))
set_option maxHeartbeats 4000000 in
set_option maxRecDepth 100000 in
theorem xb_X12_execute_27 {m : Nat} {ad : Nat → Nat} {σ0 : Sto} {Q : Sto → Prop} {Qx : Xc → Prop} (hQ : ∀ (σ' : Sto) (X' : Xc), Qx X' → RefC m ad σ' X' → Fi m ad σ0 σ' → Q σ')  (p1 : Int32) (σ : Sto) (X : Xc) (hR : RefC m ad σ X) (F : Fi m ad σ0 σ) (h : bx_X12_execute_27  Qx p1 X) : b_X12_execute_27 m  Q p1 σ := by
  unfold bx_X12_execute_27 at h
  unfold b_X12_execute_27
  refine ⟨hR.1.1, ?_⟩
  have a1 : sP σ m 28 = some (ad 28) := hR.P (k := 28) (by decide)
  refine ⟨ad 28, a1, ?_⟩
  refine ⟨hR.K (k := 28) (by decide), ?_⟩
  refine ⟨hR.N (k := 28) (by decide) h.1, ?_⟩
  have h := h.2
  intro x2 e3
  rw [hR.2.2 28 (by decide)] at e3
  have h := h x2 e3
  have a4 : sP σ m 26 = some (ad 26) := hR.P (k := 26) (by decide)
  refine ⟨ad 26, a4, ?_⟩
  refine ⟨hR.K (k := 26) (by decide), ?_⟩
  refine ⟨hR.N (k := 26) (by decide) h.1, ?_⟩
  have h := h.2
  intro x5 e6
  rw [hR.2.2 26 (by decide)] at e6
  have h := h x5 e6
  refine ⟨fun c7 => ?_, fun c7 => ?_⟩
  · have h := h.1 c7
    have a8 : sP σ m 26 = some (ad 26) := hR.P (k := 26) (by decide)
    refine ⟨hR.N (k := 26) (by decide) h.1, ?_⟩
    have h := h.2
    intro x9 e10
    rw [hR.2.2 26 (by decide)] at e10
    have h := h x9 e10
    exact xb_X12_execute_57 hQ  p1 x9 _ _ hR F h
  · have h := h.2 c7
    have a11 : sP σ m 28 = some (ad 28) := hR.P (k := 28) (by decide)
    refine ⟨hR.N (k := 28) (by decide) h.1, ?_⟩
    have h := h.2
    intro x12 e13
    rw [hR.2.2 28 (by decide)] at e13
    have h := h x12 e13
    exact xb_X12_execute_57 hQ  p1 x12 _ _ hR F h
def wx_X12_execute (p1 : Int32) (X : Xc) (Qx : Xc → Prop) : Prop := (wx_X12_leads p1 X (fun (x1 : Int32) (X3 : Xc) => ((x1 = 0 → bx_X12_execute_27  Qx p1 X3) ∧ (¬ x1 = 0 → (vp_in p1 7 ∧ (∀ x7 : Int32, x7 = X3.2 23 p1.toNatClampNeg → ((x7 = (2 : Int32) → bx_X12_execute_27  Qx p1 X3) ∧ (¬ x7 = (2 : Int32) → (vp_in p1 7 ∧ (∀ x11 : Int32, x11 = X3.2 26 p1.toNatClampNeg → bx_X12_execute_57  Qx p1 x11 X3))))))))))
set_option maxHeartbeats 4000000 in
set_option maxRecDepth 100000 in
theorem x_X12_execute {m : Nat} {ad : Nat → Nat} {p1 : Int32} {σ : Sto} {X : Xc} {Q : Sto → Prop} {Qx : Xc → Prop} (hR : RefC m ad σ X) (h : wx_X12_execute p1 X Qx) (hQ : ∀ (σ' : Sto) (X' : Xc), Qx X' → RefC m ad σ' X' → Fi m ad σ σ' → Q σ') : wp_X12_execute m p1 σ Q := by
  have F : Fi m ad σ σ := Fi.rf
  unfold wx_X12_execute at h
  unfold wp_X12_execute
  refine ⟨hR.1.1, ?_⟩
  refine x_X12_leads hR h (fun x1 σ2 X3 h hR F4 => ?_)
  have F := F.trans F4
  refine ⟨fun c5 => ?_, fun c5 => ?_⟩
  · have h := h.1 c5
    exact xb_X12_execute_27 hQ  p1 _ _ hR F h
  · have h := h.2 c5
    refine ⟨hR.1.1, ?_⟩
    have a6 : sP σ2 m 23 = some (ad 23) := hR.P (k := 23) (by decide)
    refine ⟨ad 23, a6, ?_⟩
    refine ⟨hR.K (k := 23) (by decide), ?_⟩
    refine ⟨hR.N (k := 23) (by decide) h.1, ?_⟩
    have h := h.2
    intro x7 e8
    rw [hR.2.2 23 (by decide)] at e8
    have h := h x7 e8
    refine ⟨fun c9 => ?_, fun c9 => ?_⟩
    · have h := h.1 c9
      exact xb_X12_execute_27 hQ  p1 _ _ hR F h
    · have h := h.2 c9
      have a10 : sP σ2 m 26 = some (ad 26) := hR.P (k := 26) (by decide)
      refine ⟨ad 26, a10, ?_⟩
      refine ⟨hR.K (k := 26) (by decide), ?_⟩
      refine ⟨hR.N (k := 26) (by decide) h.1, ?_⟩
      have h := h.2
      intro x11 e12
      rw [hR.2.2 26 (by decide)] at e12
      have h := h x11 e12
      exact xb_X12_execute_57 hQ  p1 x11 _ _ hR F h
def bx_X12_takeOne_209 (Qx : Xc → Prop)  (X : Xc) : Prop := (wx_X12_post  X (fun (X3 : Xc) => Qx X3))
set_option maxHeartbeats 4000000 in
set_option maxRecDepth 100000 in
theorem xb_X12_takeOne_209 {m : Nat} {ad : Nat → Nat} {σ0 : Sto} {Q : Sto → Prop} {Qx : Xc → Prop} (hQ : ∀ (σ' : Sto) (X' : Xc), Qx X' → RefC m ad σ' X' → Fi m ad σ0 σ' → Q σ')   (σ : Sto) (X : Xc) (hR : RefC m ad σ X) (F : Fi m ad σ0 σ) (h : bx_X12_takeOne_209  Qx  X) : b_X12_takeOne_209 m  Q  σ := by
  unfold bx_X12_takeOne_209 at h
  unfold b_X12_takeOne_209
  refine ⟨hR.1.1, ?_⟩
  refine x_X12_post hR h (fun σ2 X3 h hR F4 => ?_)
  have F := F.trans F4
  exact hQ _ _ h hR F
def bx_X12_takeOne_190 (Qx : Xc → Prop) (p4 : Int32) (p5 : Int32) (s0 : Int32) (X : Xc) : Prop := (wx_X12_add s0 X (fun (X3 : Xc) => ((p5 = 0 → bx_X12_takeOne_209  Qx  X3) ∧ (¬ p5 = 0 → (vp_in p4 4 ∧ (∀ x7 : Int32, x7 = X3.2 64 p4.toNatClampNeg → (wx_X12_add x7 X3 (fun (X11 : Xc) => bx_X12_takeOne_209  Qx  X11))))))))
set_option maxHeartbeats 4000000 in
set_option maxRecDepth 100000 in
theorem xb_X12_takeOne_190 {m : Nat} {ad : Nat → Nat} {σ0 : Sto} {Q : Sto → Prop} {Qx : Xc → Prop} (hQ : ∀ (σ' : Sto) (X' : Xc), Qx X' → RefC m ad σ' X' → Fi m ad σ0 σ' → Q σ')  (p4 : Int32) (p5 : Int32) (s0 : Int32) (σ : Sto) (X : Xc) (hR : RefC m ad σ X) (F : Fi m ad σ0 σ) (h : bx_X12_takeOne_190  Qx p4 p5 s0 X) : b_X12_takeOne_190 m  Q p4 p5 s0 m σ := by
  unfold bx_X12_takeOne_190 at h
  unfold b_X12_takeOne_190
  refine ⟨hR.1.1, ?_⟩
  refine x_X12_add hR h (fun σ2 X3 h hR F4 => ?_)
  have F := F.trans F4
  refine ⟨fun c5 => ?_, fun c5 => ?_⟩
  · have h := h.1 c5
    exact xb_X12_takeOne_209 hQ   _ _ hR F h
  · have h := h.2 c5
    refine ⟨hR.1.1, ?_⟩
    have a6 : sP σ2 m 64 = some (ad 64) := hR.P (k := 64) (by decide)
    refine ⟨ad 64, a6, ?_⟩
    refine ⟨hR.K (k := 64) (by decide), ?_⟩
    refine ⟨hR.N (k := 64) (by decide) h.1, ?_⟩
    have h := h.2
    intro x7 e8
    rw [hR.2.2 64 (by decide)] at e8
    have h := h x7 e8
    refine x_X12_add hR h (fun σ10 X11 h hR F12 => ?_)
    have F := F.trans F12
    exact xb_X12_takeOne_209 hQ   _ _ hR F h
def bx_X12_takeOne_142 (Qx : Xc → Prop) (p1 : Int32) (p3 : Int32) (p4 : Int32) (p5 : Int32) (X : Xc) : Prop := (wx_X12_begin (11 : Int32) p1 ((16 : Int32) + p4) X (fun (X3 : Xc) => (wx_X12_addView p1 X3 (fun (X7 : Xc) => (vp_in p1 7 ∧ (∀ x10 : Int32, x10 = X7.2 26 p1.toNatClampNeg → (wx_X12_add x10 X7 (fun (X14 : Xc) => (vp_in p3 700 ∧ (∀ x17 : Int32, x17 = X14.2 32 p3.toNatClampNeg → (wx_X12_add x17 X14 (fun (X21 : Xc) => ((p5 = 0 → bx_X12_takeOne_190  Qx p4 p5 (0 : Int32) X21) ∧ (¬ p5 = 0 → bx_X12_takeOne_190  Qx p4 p5 (1 : Int32) X21))))))))))))))
set_option maxHeartbeats 4000000 in
set_option maxRecDepth 100000 in
theorem xb_X12_takeOne_142 {m : Nat} {ad : Nat → Nat} {σ0 : Sto} {Q : Sto → Prop} {Qx : Xc → Prop} (hQ : ∀ (σ' : Sto) (X' : Xc), Qx X' → RefC m ad σ' X' → Fi m ad σ0 σ' → Q σ')  (p1 : Int32) (p3 : Int32) (p4 : Int32) (p5 : Int32) (σ : Sto) (X : Xc) (hR : RefC m ad σ X) (F : Fi m ad σ0 σ) (h : bx_X12_takeOne_142  Qx p1 p3 p4 p5 X) : b_X12_takeOne_142 m  Q p1 p3 p4 p5 σ := by
  unfold bx_X12_takeOne_142 at h
  unfold b_X12_takeOne_142
  refine ⟨hR.1.1, ?_⟩
  refine x_X12_begin hR h (fun σ2 X3 h hR F4 => ?_)
  have F := F.trans F4
  refine ⟨hR.1.1, ?_⟩
  refine x_X12_addView hR h (fun σ6 X7 h hR F8 => ?_)
  have F := F.trans F8
  refine ⟨hR.1.1, ?_⟩
  have a9 : sP σ6 m 26 = some (ad 26) := hR.P (k := 26) (by decide)
  refine ⟨ad 26, a9, ?_⟩
  refine ⟨hR.K (k := 26) (by decide), ?_⟩
  refine ⟨hR.N (k := 26) (by decide) h.1, ?_⟩
  have h := h.2
  intro x10 e11
  rw [hR.2.2 26 (by decide)] at e11
  have h := h x10 e11
  refine x_X12_add hR h (fun σ13 X14 h hR F15 => ?_)
  have F := F.trans F15
  refine ⟨hR.1.1, ?_⟩
  have a16 : sP σ13 m 32 = some (ad 32) := hR.P (k := 32) (by decide)
  refine ⟨ad 32, a16, ?_⟩
  refine ⟨hR.K (k := 32) (by decide), ?_⟩
  refine ⟨hR.N (k := 32) (by decide) h.1, ?_⟩
  have h := h.2
  intro x17 e18
  rw [hR.2.2 32 (by decide)] at e18
  have h := h x17 e18
  refine x_X12_add hR h (fun σ20 X21 h hR F22 => ?_)
  have F := F.trans F22
  refine ⟨fun c23 => ?_, fun c23 => ?_⟩
  · have h := h.1 c23
    exact xb_X12_takeOne_190 hQ  p4 p5 (0 : Int32) _ _ hR F h
  · have h := h.2 c23
    exact xb_X12_takeOne_190 hQ  p4 p5 (1 : Int32) _ _ hR F h
def bx_X12_takeOne_120 (Qx : Xc → Prop) (p1 : Int32) (p3 : Int32) (p4 : Int32) (p5 : Int32) (X : Xc) : Prop := ((p5 = 0 → bx_X12_takeOne_142  Qx p1 p3 p4 p5 X) ∧ (¬ p5 = 0 → (vp_in p4 4 ∧ (∀ x3 : Int32, x3 = X.2 63 p4.toNatClampNeg → (vp_in p3 700 ∧ (∀ x6 : Int32, x6 = X.2 32 p3.toNatClampNeg → ((x3 = x6 → bx_X12_takeOne_142  Qx p1 p3 p4 p5 X) ∧ (¬ x3 = x6 → Qx X))))))))
set_option maxHeartbeats 4000000 in
set_option maxRecDepth 100000 in
theorem xb_X12_takeOne_120 {m : Nat} {ad : Nat → Nat} {σ0 : Sto} {Q : Sto → Prop} {Qx : Xc → Prop} (hQ : ∀ (σ' : Sto) (X' : Xc), Qx X' → RefC m ad σ' X' → Fi m ad σ0 σ' → Q σ')  (p1 : Int32) (p3 : Int32) (p4 : Int32) (p5 : Int32) (σ : Sto) (X : Xc) (hR : RefC m ad σ X) (F : Fi m ad σ0 σ) (h : bx_X12_takeOne_120  Qx p1 p3 p4 p5 X) : b_X12_takeOne_120 m  Q p1 p3 p4 p5 σ := by
  unfold bx_X12_takeOne_120 at h
  unfold b_X12_takeOne_120
  refine ⟨fun c1 => ?_, fun c1 => ?_⟩
  · have h := h.1 c1
    exact xb_X12_takeOne_142 hQ  p1 p3 p4 p5 _ _ hR F h
  · have h := h.2 c1
    refine ⟨hR.1.1, ?_⟩
    have a2 : sP σ m 63 = some (ad 63) := hR.P (k := 63) (by decide)
    refine ⟨ad 63, a2, ?_⟩
    refine ⟨hR.K (k := 63) (by decide), ?_⟩
    refine ⟨hR.N (k := 63) (by decide) h.1, ?_⟩
    have h := h.2
    intro x3 e4
    rw [hR.2.2 63 (by decide)] at e4
    have h := h x3 e4
    have a5 : sP σ m 32 = some (ad 32) := hR.P (k := 32) (by decide)
    refine ⟨ad 32, a5, ?_⟩
    refine ⟨hR.K (k := 32) (by decide), ?_⟩
    refine ⟨hR.N (k := 32) (by decide) h.1, ?_⟩
    have h := h.2
    intro x6 e7
    rw [hR.2.2 32 (by decide)] at e7
    have h := h x6 e7
    refine ⟨fun c8 => ?_, fun c8 => ?_⟩
    · have h := h.1 c8
      exact xb_X12_takeOne_142 hQ  p1 p3 p4 p5 _ _ hR F h
    · have h := h.2 c8
      exact hQ _ _ h hR F
def wx_X12_takeOne (p1 : Int32) (p2 : Int32) (X : Xc) (Qx : Xc → Prop) : Prop := (vp_in p1 7 ∧ (∀ x2 : Int32, x2 = X.2 26 p1.toNatClampNeg → (∀ x4 : Int32, x4 = ((100 : Int32) * p1) + x2 → (vp_in x4 700 ∧ (vp_in p2 112 ∧ (∀ x9 : Int32, x9 = (xA X 30 x4.toNatClampNeg (vp_nar .boolean (1 : Int32))).2 38 p2.toNatClampNeg → (vp_in x4 700 ∧ (vp_in p2 112 ∧ (∀ x13 : Int32, x13 = (xA (xA X 30 x4.toNatClampNeg (vp_nar .boolean (1 : Int32))) 31 x4.toNatClampNeg x9).2 39 p2.toNatClampNeg → (vp_in x4 700 ∧ (vp_in p2 112 ∧ (∀ x17 : Int32, x17 = (xA (xA (xA X 30 x4.toNatClampNeg (vp_nar .boolean (1 : Int32))) 31 x4.toNatClampNeg x9) 32 x4.toNatClampNeg x13).2 40 p2.toNatClampNeg → (vp_in x4 700 ∧ (vp_in p2 112 ∧ (∀ x21 : Int32, x21 = (xA (xA (xA (xA X 30 x4.toNatClampNeg (vp_nar .boolean (1 : Int32))) 31 x4.toNatClampNeg x9) 32 x4.toNatClampNeg x13) 33 x4.toNatClampNeg x17).2 41 p2.toNatClampNeg → (vp_in x4 700 ∧ (vp_in p2 112 ∧ (∀ x25 : Int32, x25 = (xA (xA (xA (xA (xA X 30 x4.toNatClampNeg (vp_nar .boolean (1 : Int32))) 31 x4.toNatClampNeg x9) 32 x4.toNatClampNeg x13) 33 x4.toNatClampNeg x17) 34 x4.toNatClampNeg x21).2 42 p2.toNatClampNeg → (vp_in x4 700 ∧ (vp_in p1 7 ∧ (∀ x28 : Int32, x28 = (xA (xA (xA (xA (xA (xA X 30 x4.toNatClampNeg (vp_nar .boolean (1 : Int32))) 31 x4.toNatClampNeg x9) 32 x4.toNatClampNeg x13) 33 x4.toNatClampNeg x17) 34 x4.toNatClampNeg x21) 35 x4.toNatClampNeg x25).2 26 p1.toNatClampNeg → (∀ x30 : Int32, x30 = x28 + (1 : Int32) → (vp_in p1 7 ∧ (wx_X12_drop p1 p2 (xA (xA (xA (xA (xA (xA (xA X 30 x4.toNatClampNeg (vp_nar .boolean (1 : Int32))) 31 x4.toNatClampNeg x9) 32 x4.toNatClampNeg x13) 33 x4.toNatClampNeg x17) 34 x4.toNatClampNeg x21) 35 x4.toNatClampNeg x25) 26 p1.toNatClampNeg x30) (fun (X34 : Xc) => (vp_in x4 700 ∧ (∀ x37 : Int32, x37 = X34.2 31 x4.toNatClampNeg → (wx_X12_leads p1 X34 (fun (x39 : Int32) (X41 : Xc) => ((x39 = 0 → bx_X12_takeOne_120  Qx p1 x4 x37 x39 X41) ∧ (¬ x39 = 0 → (wx_X12_execute p1 X41 (fun (X46 : Xc) => bx_X12_takeOne_120  Qx p1 x4 x37 x39 X46)))))))))))))))))))))))))))))))))
set_option maxHeartbeats 4000000 in
set_option maxRecDepth 100000 in
theorem x_X12_takeOne {m : Nat} {ad : Nat → Nat} {p1 : Int32} {p2 : Int32} {σ : Sto} {X : Xc} {Q : Sto → Prop} {Qx : Xc → Prop} (hR : RefC m ad σ X) (h : wx_X12_takeOne p1 p2 X Qx) (hQ : ∀ (σ' : Sto) (X' : Xc), Qx X' → RefC m ad σ' X' → Fi m ad σ σ' → Q σ') : wp_X12_takeOne m p1 p2 σ Q := by
  have F : Fi m ad σ σ := Fi.rf
  unfold wx_X12_takeOne at h
  unfold wp_X12_takeOne
  refine ⟨hR.1.1, ?_⟩
  have a1 : sP σ m 26 = some (ad 26) := hR.P (k := 26) (by decide)
  refine ⟨ad 26, a1, ?_⟩
  refine ⟨hR.K (k := 26) (by decide), ?_⟩
  refine ⟨hR.N (k := 26) (by decide) h.1, ?_⟩
  have h := h.2
  intro x2 e3
  rw [hR.2.2 26 (by decide)] at e3
  have h := h x2 e3
  intro x4 e5
  have h := h x4 e5
  have a6 : sP σ m 30 = some (ad 30) := hR.P (k := 30) (by decide)
  refine ⟨ad 30, a6, ?_⟩
  refine ⟨hR.K (k := 30) (by decide), ?_⟩
  refine ⟨hR.N (k := 30) (by decide) h.1, ?_⟩
  have h := h.2
  have F := F.A (k := 30) (i := x4.toNatClampNeg) (v := (vp_nar .boolean (1 : Int32))) (by decide)
  have hR := hR.A (k := 30) (i := x4.toNatClampNeg) (v := (vp_nar .boolean (1 : Int32))) (by decide)
  have a7 : sP σ m 31 = some (ad 31) := hR.P (k := 31) (by decide)
  have a8 : sP σ m 38 = some (ad 38) := hR.P (k := 38) (by decide)
  refine ⟨ad 38, a8, ?_⟩
  refine ⟨hR.K (k := 38) (by decide), ?_⟩
  refine ⟨hR.N (k := 38) (by decide) h.1, ?_⟩
  have h := h.2
  intro x9 e10
  rw [hR.2.2 38 (by decide)] at e10
  have h := h x9 e10
  refine ⟨ad 31, a7, ?_⟩
  refine ⟨hR.K (k := 31) (by decide), ?_⟩
  refine ⟨hR.N (k := 31) (by decide) h.1, ?_⟩
  have h := h.2
  have F := F.A (k := 31) (i := x4.toNatClampNeg) (v := x9) (by decide)
  have hR := hR.A (k := 31) (i := x4.toNatClampNeg) (v := x9) (by decide)
  have a11 : sP σ m 32 = some (ad 32) := hR.P (k := 32) (by decide)
  have a12 : sP σ m 39 = some (ad 39) := hR.P (k := 39) (by decide)
  refine ⟨ad 39, a12, ?_⟩
  refine ⟨hR.K (k := 39) (by decide), ?_⟩
  refine ⟨hR.N (k := 39) (by decide) h.1, ?_⟩
  have h := h.2
  intro x13 e14
  rw [hR.2.2 39 (by decide)] at e14
  have h := h x13 e14
  refine ⟨ad 32, a11, ?_⟩
  refine ⟨hR.K (k := 32) (by decide), ?_⟩
  refine ⟨hR.N (k := 32) (by decide) h.1, ?_⟩
  have h := h.2
  have F := F.A (k := 32) (i := x4.toNatClampNeg) (v := x13) (by decide)
  have hR := hR.A (k := 32) (i := x4.toNatClampNeg) (v := x13) (by decide)
  have a15 : sP σ m 33 = some (ad 33) := hR.P (k := 33) (by decide)
  have a16 : sP σ m 40 = some (ad 40) := hR.P (k := 40) (by decide)
  refine ⟨ad 40, a16, ?_⟩
  refine ⟨hR.K (k := 40) (by decide), ?_⟩
  refine ⟨hR.N (k := 40) (by decide) h.1, ?_⟩
  have h := h.2
  intro x17 e18
  rw [hR.2.2 40 (by decide)] at e18
  have h := h x17 e18
  refine ⟨ad 33, a15, ?_⟩
  refine ⟨hR.K (k := 33) (by decide), ?_⟩
  refine ⟨hR.N (k := 33) (by decide) h.1, ?_⟩
  have h := h.2
  have F := F.A (k := 33) (i := x4.toNatClampNeg) (v := x17) (by decide)
  have hR := hR.A (k := 33) (i := x4.toNatClampNeg) (v := x17) (by decide)
  have a19 : sP σ m 34 = some (ad 34) := hR.P (k := 34) (by decide)
  have a20 : sP σ m 41 = some (ad 41) := hR.P (k := 41) (by decide)
  refine ⟨ad 41, a20, ?_⟩
  refine ⟨hR.K (k := 41) (by decide), ?_⟩
  refine ⟨hR.N (k := 41) (by decide) h.1, ?_⟩
  have h := h.2
  intro x21 e22
  rw [hR.2.2 41 (by decide)] at e22
  have h := h x21 e22
  refine ⟨ad 34, a19, ?_⟩
  refine ⟨hR.K (k := 34) (by decide), ?_⟩
  refine ⟨hR.N (k := 34) (by decide) h.1, ?_⟩
  have h := h.2
  have F := F.A (k := 34) (i := x4.toNatClampNeg) (v := x21) (by decide)
  have hR := hR.A (k := 34) (i := x4.toNatClampNeg) (v := x21) (by decide)
  have a23 : sP σ m 35 = some (ad 35) := hR.P (k := 35) (by decide)
  have a24 : sP σ m 42 = some (ad 42) := hR.P (k := 42) (by decide)
  refine ⟨ad 42, a24, ?_⟩
  refine ⟨hR.K (k := 42) (by decide), ?_⟩
  refine ⟨hR.N (k := 42) (by decide) h.1, ?_⟩
  have h := h.2
  intro x25 e26
  rw [hR.2.2 42 (by decide)] at e26
  have h := h x25 e26
  refine ⟨ad 35, a23, ?_⟩
  refine ⟨hR.K (k := 35) (by decide), ?_⟩
  refine ⟨hR.N (k := 35) (by decide) h.1, ?_⟩
  have h := h.2
  have F := F.A (k := 35) (i := x4.toNatClampNeg) (v := x25) (by decide)
  have hR := hR.A (k := 35) (i := x4.toNatClampNeg) (v := x25) (by decide)
  have a27 : sP σ m 26 = some (ad 26) := hR.P (k := 26) (by decide)
  refine ⟨hR.N (k := 26) (by decide) h.1, ?_⟩
  have h := h.2
  intro x28 e29
  rw [hR.2.2 26 (by decide)] at e29
  have h := h x28 e29
  intro x30 e31
  have h := h x30 e31
  refine ⟨hR.N (k := 26) (by decide) h.1, ?_⟩
  have h := h.2
  have F := F.A (k := 26) (i := p1.toNatClampNeg) (v := x30) (by decide)
  have hR := hR.A (k := 26) (i := p1.toNatClampNeg) (v := x30) (by decide)
  refine x_X12_drop hR h (fun σ33 X34 h hR F35 => ?_)
  have F := F.trans F35
  refine ⟨hR.1.1, ?_⟩
  have a36 : sP σ33 m 31 = some (ad 31) := hR.P (k := 31) (by decide)
  refine ⟨ad 31, a36, ?_⟩
  refine ⟨hR.K (k := 31) (by decide), ?_⟩
  refine ⟨hR.N (k := 31) (by decide) h.1, ?_⟩
  have h := h.2
  intro x37 e38
  rw [hR.2.2 31 (by decide)] at e38
  have h := h x37 e38
  refine x_X12_leads hR h (fun x39 σ40 X41 h hR F42 => ?_)
  have F := F.trans F42
  refine ⟨fun c43 => ?_, fun c43 => ?_⟩
  · have h := h.1 c43
    exact xb_X12_takeOne_120 hQ  p1 x4 x37 x39 _ _ hR F h
  · have h := h.2 c43
    refine ⟨hR.1.1, ?_⟩
    refine x_X12_execute hR h (fun σ45 X46 h hR F47 => ?_)
    have F := F.trans F47
    exact xb_X12_takeOne_120 hQ  p1 x4 x37 x39 _ _ hR F h
def wx_X12_addNothing (p1 : Int32) (X : Xc) (Qx : Xc → Prop) : Prop := (vp_in p1 7 ∧ (∀ x3 : Int32, x3 = X.2 26 p1.toNatClampNeg → (vp_in (((100 : Int32) * p1) + x3) 700 ∧ (vp_in p1 7 ∧ (∀ x6 : Int32, x6 = (xA X 30 (((100 : Int32) * p1) + x3).toNatClampNeg (vp_nar .boolean (0 : Int32))).2 26 p1.toNatClampNeg → (∀ x8 : Int32, x8 = x6 + (1 : Int32) → (vp_in p1 7 ∧ Qx (xA (xA X 30 (((100 : Int32) * p1) + x3).toNatClampNeg (vp_nar .boolean (0 : Int32))) 26 p1.toNatClampNeg x8))))))))
set_option maxHeartbeats 4000000 in
set_option maxRecDepth 100000 in
theorem x_X12_addNothing {m : Nat} {ad : Nat → Nat} {p1 : Int32} {σ : Sto} {X : Xc} {Q : Sto → Prop} {Qx : Xc → Prop} (hR : RefC m ad σ X) (h : wx_X12_addNothing p1 X Qx) (hQ : ∀ (σ' : Sto) (X' : Xc), Qx X' → RefC m ad σ' X' → Fi m ad σ σ' → Q σ') : wp_X12_addNothing m p1 σ Q := by
  have F : Fi m ad σ σ := Fi.rf
  unfold wx_X12_addNothing at h
  unfold wp_X12_addNothing
  refine ⟨hR.1.1, ?_⟩
  have a1 : sP σ m 30 = some (ad 30) := hR.P (k := 30) (by decide)
  have a2 : sP σ m 26 = some (ad 26) := hR.P (k := 26) (by decide)
  refine ⟨ad 26, a2, ?_⟩
  refine ⟨hR.K (k := 26) (by decide), ?_⟩
  refine ⟨hR.N (k := 26) (by decide) h.1, ?_⟩
  have h := h.2
  intro x3 e4
  rw [hR.2.2 26 (by decide)] at e4
  have h := h x3 e4
  refine ⟨ad 30, a1, ?_⟩
  refine ⟨hR.K (k := 30) (by decide), ?_⟩
  refine ⟨hR.N (k := 30) (by decide) h.1, ?_⟩
  have h := h.2
  have F := F.A (k := 30) (i := (((100 : Int32) * p1) + x3).toNatClampNeg) (v := (vp_nar .boolean (0 : Int32))) (by decide)
  have hR := hR.A (k := 30) (i := (((100 : Int32) * p1) + x3).toNatClampNeg) (v := (vp_nar .boolean (0 : Int32))) (by decide)
  have a5 : sP σ m 26 = some (ad 26) := hR.P (k := 26) (by decide)
  refine ⟨hR.N (k := 26) (by decide) h.1, ?_⟩
  have h := h.2
  intro x6 e7
  rw [hR.2.2 26 (by decide)] at e7
  have h := h x6 e7
  intro x8 e9
  have h := h x8 e9
  refine ⟨hR.N (k := 26) (by decide) h.1, ?_⟩
  have h := h.2
  have F := F.A (k := 26) (i := p1.toNatClampNeg) (v := x8) (by decide)
  have hR := hR.A (k := 26) (i := p1.toNatClampNeg) (v := x8) (by decide)
  exact hQ _ _ h hR F
def bx_X12_takes_67 (Qx : Xc → Prop) (p1 : Int32) (X : Xc) : Prop := (vp_in p1 7 ∧ (∀ x2 : Int32, x2 = X.2 36 p1.toNatClampNeg → ((x2 = 0 → Qx X) ∧ (¬ x2 = 0 → (vp_in p1 7 ∧ (∀ x6 : Int32, x6 = X.2 26 p1.toNatClampNeg → ((¬ x6 = (100 : Int32) → (∀ x10 : Int32, x10 = X.1 4 → (vp_in p1 7 ∧ (wx_X12_leads p1 (xA X 58 p1.toNatClampNeg x10) (fun (x12 : Int32) (X14 : Xc) => ((x12 = 0 → (wx_X12_leader p1 X14 (fun (x17 : Int32) (X19 : Xc) => (vp_in p1 7 ∧ (∀ x22 : Int32, x22 = X19.2 26 p1.toNatClampNeg → (wx_X12_tell (1 : Int32) p1 x17 (x22 + (1 : Int32)) X19 (fun (X26 : Xc) => Qx X26))))))) ∧ (¬ x12 = 0 → (wx_X12_addNothing p1 X14 (fun (X30 : Xc) => (vp_in p1 7 ∧ (vp_in p1 7 ∧ (vp_in p1 7 ∧ (∀ x35 : Int32, x35 = (xA (xA X30 23 p1.toNatClampNeg (1 : Int32)) 43 p1.toNatClampNeg (0 : Int32)).2 26 p1.toNatClampNeg → (wx_X12_tellOthers (3 : Int32) p1 x35 (xA (xA X30 23 p1.toNatClampNeg (1 : Int32)) 43 p1.toNatClampNeg (0 : Int32)) (fun (X39 : Xc) => Qx X39))))))))))))))) ∧ (x6 = (100 : Int32) → Qx X))))))))
set_option maxHeartbeats 4000000 in
set_option maxRecDepth 100000 in
theorem xb_X12_takes_67 {m : Nat} {ad : Nat → Nat} {σ0 : Sto} {Q : Sto → Prop} {Qx : Xc → Prop} (hQ : ∀ (σ' : Sto) (X' : Xc), Qx X' → RefC m ad σ' X' → Fi m ad σ0 σ' → Q σ')  (p1 : Int32) (σ : Sto) (X : Xc) (hR : RefC m ad σ X) (F : Fi m ad σ0 σ) (h : bx_X12_takes_67  Qx p1 X) : b_X12_takes_67 m  Q p1 σ := by
  unfold bx_X12_takes_67 at h
  unfold b_X12_takes_67
  refine ⟨hR.1.1, ?_⟩
  have a1 : sP σ m 36 = some (ad 36) := hR.P (k := 36) (by decide)
  refine ⟨ad 36, a1, ?_⟩
  refine ⟨hR.K (k := 36) (by decide), ?_⟩
  refine ⟨hR.N (k := 36) (by decide) h.1, ?_⟩
  have h := h.2
  intro x2 e3
  rw [hR.2.2 36 (by decide)] at e3
  have h := h x2 e3
  refine ⟨fun c4 => ?_, fun c4 => ?_⟩
  · have h := h.1 c4
    exact hQ _ _ h hR F
  · have h := h.2 c4
    have a5 : sP σ m 26 = some (ad 26) := hR.P (k := 26) (by decide)
    refine ⟨ad 26, a5, ?_⟩
    refine ⟨hR.K (k := 26) (by decide), ?_⟩
    refine ⟨hR.N (k := 26) (by decide) h.1, ?_⟩
    have h := h.2
    intro x6 e7
    rw [hR.2.2 26 (by decide)] at e7
    have h := h x6 e7
    refine ⟨fun c8 => ?_, fun c8 => ?_⟩
    · have h := h.1 c8
      have a9 : sP σ m 58 = some (ad 58) := hR.P (k := 58) (by decide)
      intro x10 e11
      rw [hR.2.1 4] at e11
      have h := h x10 e11
      refine ⟨ad 58, a9, ?_⟩
      refine ⟨hR.K (k := 58) (by decide), ?_⟩
      refine ⟨hR.N (k := 58) (by decide) h.1, ?_⟩
      have h := h.2
      have F := F.A (k := 58) (i := p1.toNatClampNeg) (v := x10) (by decide)
      have hR := hR.A (k := 58) (i := p1.toNatClampNeg) (v := x10) (by decide)
      refine x_X12_leads hR h (fun x12 σ13 X14 h hR F15 => ?_)
      have F := F.trans F15
      refine ⟨fun c16 => ?_, fun c16 => ?_⟩
      · have h := h.1 c16
        refine ⟨hR.1.1, ?_⟩
        refine x_X12_leader hR h (fun x17 σ18 X19 h hR F20 => ?_)
        have F := F.trans F20
        refine ⟨hR.1.1, ?_⟩
        have a21 : sP σ18 m 26 = some (ad 26) := hR.P (k := 26) (by decide)
        refine ⟨ad 26, a21, ?_⟩
        refine ⟨hR.K (k := 26) (by decide), ?_⟩
        refine ⟨hR.N (k := 26) (by decide) h.1, ?_⟩
        have h := h.2
        intro x22 e23
        rw [hR.2.2 26 (by decide)] at e23
        have h := h x22 e23
        refine x_X12_tell hR h (fun σ25 X26 h hR F27 => ?_)
        have F := F.trans F27
        exact hQ _ _ h hR F
      · have h := h.2 c16
        refine ⟨hR.1.1, ?_⟩
        refine x_X12_addNothing hR h (fun σ29 X30 h hR F31 => ?_)
        have F := F.trans F31
        refine ⟨hR.1.1, ?_⟩
        have a32 : sP σ29 m 23 = some (ad 23) := hR.P (k := 23) (by decide)
        refine ⟨ad 23, a32, ?_⟩
        refine ⟨hR.K (k := 23) (by decide), ?_⟩
        refine ⟨hR.N (k := 23) (by decide) h.1, ?_⟩
        have h := h.2
        have F := F.A (k := 23) (i := p1.toNatClampNeg) (v := (1 : Int32)) (by decide)
        have hR := hR.A (k := 23) (i := p1.toNatClampNeg) (v := (1 : Int32)) (by decide)
        have a33 : sP σ29 m 43 = some (ad 43) := hR.P (k := 43) (by decide)
        refine ⟨ad 43, a33, ?_⟩
        refine ⟨hR.K (k := 43) (by decide), ?_⟩
        refine ⟨hR.N (k := 43) (by decide) h.1, ?_⟩
        have h := h.2
        have F := F.A (k := 43) (i := p1.toNatClampNeg) (v := (0 : Int32)) (by decide)
        have hR := hR.A (k := 43) (i := p1.toNatClampNeg) (v := (0 : Int32)) (by decide)
        have a34 : sP σ29 m 26 = some (ad 26) := hR.P (k := 26) (by decide)
        refine ⟨ad 26, a34, ?_⟩
        refine ⟨hR.K (k := 26) (by decide), ?_⟩
        refine ⟨hR.N (k := 26) (by decide) h.1, ?_⟩
        have h := h.2
        intro x35 e36
        rw [hR.2.2 26 (by decide)] at e36
        have h := h x35 e36
        refine x_X12_tellOthers hR h (fun σ38 X39 h hR F40 => ?_)
        have F := F.trans F40
        exact hQ _ _ h hR F
    · have h := h.2 c8
      exact hQ _ _ h hR F
def fx_X12_takes_21 (Qx : Xc → Prop) (Lx21 : Int32 × Int32 → Xc → Prop) (t : Int32 × Int32) (X : Xc) : Prop := ((t.2 = (-1 : Int32) → bx_X12_takes_67  Qx t.1 X) ∧ (¬ t.2 = (-1 : Int32) → (vp_in t.1 7 ∧ (∀ x3 : Int32, x3 = X.2 26 t.1.toNatClampNeg → (((100 : Int32) ≤ x3 → bx_X12_takes_67  Qx t.1 X) ∧ (¬ (100 : Int32) ≤ x3 → (wx_X12_takeOne t.1 t.2 X (fun (X8 : Xc) => (vp_in t.1 7 ∧ (∀ x11 : Int32, x11 = X8.2 26 t.1.toNatClampNeg → (vp_in t.1 7 ∧ (∀ x14 : Int32, x14 = X8.2 27 t.1.toNatClampNeg → (wx_X12_heldAt t.1 ((x11 + (1 : Int32)) - x14) X8 (fun (x16 : Int32) (X18 : Xc) => Lx21 (t.1, x16) X18))))))))))))))
set_option maxHeartbeats 4000000 in
set_option maxRecDepth 100000 in
theorem xf_X12_takes_21 {m : Nat} {ad : Nat → Nat} {σ0 : Sto} {Q : Sto → Prop} {Qx : Xc → Prop} {Lx21 : Int32 × Int32 → Xc → Prop} {L21 : Int32 × Int32 → Sto → Prop} (hQ : ∀ (σ' : Sto) (X' : Xc), Qx X' → RefC m ad σ' X' → Fi m ad σ0 σ' → Q σ') (hL21 : ∀ (t : Int32 × Int32) (σ : Sto) (X : Xc), Lx21 t X → RefC m ad σ X → Fi m ad σ0 σ → L21 t σ) : ∀ (t : Int32 × Int32) (σ : Sto) (X : Xc), RefC m ad σ X → Fi m ad σ0 σ → fx_X12_takes_21  Qx Lx21 t X → f_X12_takes_21 m  Q L21 t σ := by
  intro t σ X hR F h
  unfold fx_X12_takes_21 at h
  unfold f_X12_takes_21
  refine ⟨fun c1 => ?_, fun c1 => ?_⟩
  · have h := h.1 c1
    exact xb_X12_takes_67 hQ  t.1 _ _ hR F h
  · have h := h.2 c1
    refine ⟨hR.1.1, ?_⟩
    have a2 : sP σ m 26 = some (ad 26) := hR.P (k := 26) (by decide)
    refine ⟨ad 26, a2, ?_⟩
    refine ⟨hR.K (k := 26) (by decide), ?_⟩
    refine ⟨hR.N (k := 26) (by decide) h.1, ?_⟩
    have h := h.2
    intro x3 e4
    rw [hR.2.2 26 (by decide)] at e4
    have h := h x3 e4
    refine ⟨fun c5 => ?_, fun c5 => ?_⟩
    · have h := h.1 c5
      exact xb_X12_takes_67 hQ  t.1 _ _ hR F h
    · have h := h.2 c5
      refine x_X12_takeOne hR h (fun σ7 X8 h hR F9 => ?_)
      have F := F.trans F9
      refine ⟨hR.1.1, ?_⟩
      have a10 : sP σ7 m 26 = some (ad 26) := hR.P (k := 26) (by decide)
      refine ⟨ad 26, a10, ?_⟩
      refine ⟨hR.K (k := 26) (by decide), ?_⟩
      refine ⟨hR.N (k := 26) (by decide) h.1, ?_⟩
      have h := h.2
      intro x11 e12
      rw [hR.2.2 26 (by decide)] at e12
      have h := h x11 e12
      have a13 : sP σ7 m 27 = some (ad 27) := hR.P (k := 27) (by decide)
      refine ⟨ad 27, a13, ?_⟩
      refine ⟨hR.K (k := 27) (by decide), ?_⟩
      refine ⟨hR.N (k := 27) (by decide) h.1, ?_⟩
      have h := h.2
      intro x14 e15
      rw [hR.2.2 27 (by decide)] at e15
      have h := h x14 e15
      refine x_X12_heldAt hR h (fun x16 σ17 X18 h hR F19 => ?_)
      have F := F.trans F19
      exact hL21 _ _ _ h hR F
def wx_X12_takes (p1 : Int32) (X : Xc) (Qx : Xc → Prop) : Prop := (vp_in p1 7 ∧ (∀ x2 : Int32, x2 = X.2 26 p1.toNatClampNeg → (vp_in p1 7 ∧ (∀ x5 : Int32, x5 = X.2 27 p1.toNatClampNeg → (wx_X12_heldAt p1 ((x2 + (1 : Int32)) - x5) X (fun (x7 : Int32) (X9 : Xc) => LFx (fx_X12_takes_21  Qx) (p1, x7) X9))))))
set_option maxHeartbeats 4000000 in
set_option maxRecDepth 100000 in
theorem x_X12_takes {m : Nat} {ad : Nat → Nat} {p1 : Int32} {σ : Sto} {X : Xc} {Q : Sto → Prop} {Qx : Xc → Prop} (hR : RefC m ad σ X) (h : wx_X12_takes p1 X Qx) (hQ : ∀ (σ' : Sto) (X' : Xc), Qx X' → RefC m ad σ' X' → Fi m ad σ σ' → Q σ') : wp_X12_takes m p1 σ Q := by
  have F : Fi m ad σ σ := Fi.rf
  unfold wx_X12_takes at h
  unfold wp_X12_takes
  refine ⟨hR.1.1, ?_⟩
  have a1 : sP σ m 26 = some (ad 26) := hR.P (k := 26) (by decide)
  refine ⟨ad 26, a1, ?_⟩
  refine ⟨hR.K (k := 26) (by decide), ?_⟩
  refine ⟨hR.N (k := 26) (by decide) h.1, ?_⟩
  have h := h.2
  intro x2 e3
  rw [hR.2.2 26 (by decide)] at e3
  have h := h x2 e3
  have a4 : sP σ m 27 = some (ad 27) := hR.P (k := 27) (by decide)
  refine ⟨ad 27, a4, ?_⟩
  refine ⟨hR.K (k := 27) (by decide), ?_⟩
  refine ⟨hR.N (k := 27) (by decide) h.1, ?_⟩
  have h := h.2
  intro x5 e6
  rw [hR.2.2 27 (by decide)] at e6
  have h := h x5 e6
  refine x_X12_heldAt hR h (fun x7 σ8 X9 h hR F10 => ?_)
  have F := F.trans F10
  exact lfx h hR F (fun Lx L hL t σ X hR F h => xf_X12_takes_21 hQ  hL t σ X hR F h)
def wx_X12_getsStamped (p1 : Int32) (X : Xc) (Qx : Xc → Prop) : Prop := (vp_in (3 : Int32) 640 ∧ (∀ x2 : Int32, x2 = X.2 15 (3 : Int32).toNatClampNeg → (vp_in (4 : Int32) 640 ∧ (∀ x5 : Int32, x5 = X.2 15 (4 : Int32).toNatClampNeg → (vp_in p1 7 ∧ (∀ x8 : Int32, x8 = X.2 22 p1.toNatClampNeg → ((x2 ≤ x8 → (vp_in p1 7 ∧ (∀ x12 : Int32, x12 = X.2 22 p1.toNatClampNeg → ((x2 < x12 → Qx X) ∧ (¬ x2 < x12 → (vp_in p1 7 ∧ (∀ x16 : Int32, x16 = X.2 23 p1.toNatClampNeg → ((x16 = (2 : Int32) → Qx X) ∧ (¬ x16 = (2 : Int32) → (vp_in p1 7 ∧ (∀ x20 : Int32, x20 = X.2 27 p1.toNatClampNeg → (vp_in p1 7 ∧ (∀ x23 : Int32, x23 = X.2 26 p1.toNatClampNeg → (((x20 + x5) ≤ x23 → Qx X) ∧ (¬ (x20 + x5) ≤ x23 → (wx_X12_heldAt p1 x5 X (fun (x26 : Int32) (X28 : Xc) => ((¬ x26 = (-1 : Int32) → Qx X28) ∧ (x26 = (-1 : Int32) → (vp_in p1 7 ∧ (∀ x32 : Int32, x32 = X28.2 36 p1.toNatClampNeg → ((x32 < (8 : Int32) → (wx_X12_hold p1 x5 (5 : Int32) X28 (fun (X37 : Xc) => (vp_in p1 7 ∧ (∀ x40 : Int32, x40 = X37.2 23 p1.toNatClampNeg → ((¬ x40 = 0 → Qx X37) ∧ (x40 = 0 → (wx_X12_takes p1 X37 (fun (X45 : Xc) => Qx X45))))))))) ∧ (¬ x32 < (8 : Int32) → Qx X28))))))))))))))))))))))) ∧ (¬ x2 ≤ x8 → (vp_in p1 7 ∧ (∀ x48 : Int32, x48 = X.2 21 p1.toNatClampNeg → (wx_X12_turnsTo p1 x48 x2 X (fun (X52 : Xc) => Qx X52))))))))))))
set_option maxHeartbeats 4000000 in
set_option maxRecDepth 100000 in
theorem x_X12_getsStamped {m : Nat} {ad : Nat → Nat} {p1 : Int32} {σ : Sto} {X : Xc} {Q : Sto → Prop} {Qx : Xc → Prop} (hR : RefC m ad σ X) (h : wx_X12_getsStamped p1 X Qx) (hQ : ∀ (σ' : Sto) (X' : Xc), Qx X' → RefC m ad σ' X' → Fi m ad σ σ' → Q σ') : wp_X12_getsStamped m p1 σ Q := by
  have F : Fi m ad σ σ := Fi.rf
  unfold wx_X12_getsStamped at h
  unfold wp_X12_getsStamped
  refine ⟨hR.1.1, ?_⟩
  have a1 : sP σ m 15 = some (ad 15) := hR.P (k := 15) (by decide)
  refine ⟨ad 15, a1, ?_⟩
  refine ⟨hR.K (k := 15) (by decide), ?_⟩
  refine ⟨hR.N (k := 15) (by decide) h.1, ?_⟩
  have h := h.2
  intro x2 e3
  rw [hR.2.2 15 (by decide)] at e3
  have h := h x2 e3
  have a4 : sP σ m 15 = some (ad 15) := hR.P (k := 15) (by decide)
  refine ⟨hR.N (k := 15) (by decide) h.1, ?_⟩
  have h := h.2
  intro x5 e6
  rw [hR.2.2 15 (by decide)] at e6
  have h := h x5 e6
  have a7 : sP σ m 22 = some (ad 22) := hR.P (k := 22) (by decide)
  refine ⟨ad 22, a7, ?_⟩
  refine ⟨hR.K (k := 22) (by decide), ?_⟩
  refine ⟨hR.N (k := 22) (by decide) h.1, ?_⟩
  have h := h.2
  intro x8 e9
  rw [hR.2.2 22 (by decide)] at e9
  have h := h x8 e9
  refine ⟨fun c10 => ?_, fun c10 => ?_⟩
  · have h := h.1 c10
    have a11 : sP σ m 22 = some (ad 22) := hR.P (k := 22) (by decide)
    refine ⟨hR.N (k := 22) (by decide) h.1, ?_⟩
    have h := h.2
    intro x12 e13
    rw [hR.2.2 22 (by decide)] at e13
    have h := h x12 e13
    refine ⟨fun c14 => ?_, fun c14 => ?_⟩
    · have h := h.1 c14
      exact hQ _ _ h hR F
    · have h := h.2 c14
      have a15 : sP σ m 23 = some (ad 23) := hR.P (k := 23) (by decide)
      refine ⟨ad 23, a15, ?_⟩
      refine ⟨hR.K (k := 23) (by decide), ?_⟩
      refine ⟨hR.N (k := 23) (by decide) h.1, ?_⟩
      have h := h.2
      intro x16 e17
      rw [hR.2.2 23 (by decide)] at e17
      have h := h x16 e17
      refine ⟨fun c18 => ?_, fun c18 => ?_⟩
      · have h := h.1 c18
        exact hQ _ _ h hR F
      · have h := h.2 c18
        have a19 : sP σ m 27 = some (ad 27) := hR.P (k := 27) (by decide)
        refine ⟨ad 27, a19, ?_⟩
        refine ⟨hR.K (k := 27) (by decide), ?_⟩
        refine ⟨hR.N (k := 27) (by decide) h.1, ?_⟩
        have h := h.2
        intro x20 e21
        rw [hR.2.2 27 (by decide)] at e21
        have h := h x20 e21
        have a22 : sP σ m 26 = some (ad 26) := hR.P (k := 26) (by decide)
        refine ⟨ad 26, a22, ?_⟩
        refine ⟨hR.K (k := 26) (by decide), ?_⟩
        refine ⟨hR.N (k := 26) (by decide) h.1, ?_⟩
        have h := h.2
        intro x23 e24
        rw [hR.2.2 26 (by decide)] at e24
        have h := h x23 e24
        refine ⟨fun c25 => ?_, fun c25 => ?_⟩
        · have h := h.1 c25
          exact hQ _ _ h hR F
        · have h := h.2 c25
          refine x_X12_heldAt hR h (fun x26 σ27 X28 h hR F29 => ?_)
          have F := F.trans F29
          refine ⟨fun c30 => ?_, fun c30 => ?_⟩
          · have h := h.1 c30
            exact hQ _ _ h hR F
          · have h := h.2 c30
            refine ⟨hR.1.1, ?_⟩
            have a31 : sP σ27 m 36 = some (ad 36) := hR.P (k := 36) (by decide)
            refine ⟨ad 36, a31, ?_⟩
            refine ⟨hR.K (k := 36) (by decide), ?_⟩
            refine ⟨hR.N (k := 36) (by decide) h.1, ?_⟩
            have h := h.2
            intro x32 e33
            rw [hR.2.2 36 (by decide)] at e33
            have h := h x32 e33
            refine ⟨fun c34 => ?_, fun c34 => ?_⟩
            · have h := h.1 c34
              refine x_X12_hold hR h (fun σ36 X37 h hR F38 => ?_)
              have F := F.trans F38
              refine ⟨hR.1.1, ?_⟩
              have a39 : sP σ36 m 23 = some (ad 23) := hR.P (k := 23) (by decide)
              refine ⟨ad 23, a39, ?_⟩
              refine ⟨hR.K (k := 23) (by decide), ?_⟩
              refine ⟨hR.N (k := 23) (by decide) h.1, ?_⟩
              have h := h.2
              intro x40 e41
              rw [hR.2.2 23 (by decide)] at e41
              have h := h x40 e41
              refine ⟨fun c42 => ?_, fun c42 => ?_⟩
              · have h := h.1 c42
                exact hQ _ _ h hR F
              · have h := h.2 c42
                refine x_X12_takes hR h (fun σ44 X45 h hR F46 => ?_)
                have F := F.trans F46
                exact hQ _ _ h hR F
            · have h := h.2 c34
              exact hQ _ _ h hR F
  · have h := h.2 c10
    have a47 : sP σ m 21 = some (ad 21) := hR.P (k := 21) (by decide)
    refine ⟨ad 21, a47, ?_⟩
    refine ⟨hR.K (k := 21) (by decide), ?_⟩
    refine ⟨hR.N (k := 21) (by decide) h.1, ?_⟩
    have h := h.2
    intro x48 e49
    rw [hR.2.2 21 (by decide)] at e49
    have h := h x48 e49
    refine x_X12_turnsTo hR h (fun σ51 X52 h hR F53 => ?_)
    have F := F.trans F53
    exact hQ _ _ h hR F
def bx_X12_isBehind_10 (Qx : Int32 → Xc → Prop) (p0 : Int32) (p1 : Int32) (p2 : Int32) (p3 : Int32) (X : Xc) : Prop := ((p2 < p0 → Qx (0 : Int32) X) ∧ (¬ p2 < p0 → ((p3 < p1 → Qx (0 : Int32) X) ∧ (¬ p3 < p1 → Qx (1 : Int32) X))))
set_option maxHeartbeats 4000000 in
set_option maxRecDepth 100000 in
theorem xb_X12_isBehind_10 {m : Nat} {ad : Nat → Nat} {σ0 : Sto} {Q : Int32 → Sto → Prop} {Qx : Int32 → Xc → Prop} (hQ : ∀ (r : Int32) (σ' : Sto) (X' : Xc), Qx r X' → RefC m ad σ' X' → Fi m ad σ0 σ' → Q r σ')  (p0 : Int32) (p1 : Int32) (p2 : Int32) (p3 : Int32) (σ : Sto) (X : Xc) (hR : RefC m ad σ X) (F : Fi m ad σ0 σ) (h : bx_X12_isBehind_10  Qx p0 p1 p2 p3 X) : b_X12_isBehind_10  Q p0 p1 p2 p3 σ := by
  unfold bx_X12_isBehind_10 at h
  unfold b_X12_isBehind_10
  refine ⟨fun c1 => ?_, fun c1 => ?_⟩
  · have h := h.1 c1
    exact hQ _ _ _ h hR F
  · have h := h.2 c1
    refine ⟨fun c2 => ?_, fun c2 => ?_⟩
    · have h := h.1 c2
      exact hQ _ _ _ h hR F
    · have h := h.2 c2
      exact hQ _ _ _ h hR F
def wx_X12_isBehind (p0 : Int32) (p1 : Int32) (p2 : Int32) (p3 : Int32) (X : Xc) (Qx : Int32 → Xc → Prop) : Prop := ((p0 < p2 → bx_X12_isBehind_10  Qx p0 p1 p2 p3 X) ∧ (¬ p0 < p2 → ((p3 ≤ p1 → Qx (0 : Int32) X) ∧ (¬ p3 ≤ p1 → bx_X12_isBehind_10  Qx p0 p1 p2 p3 X))))
set_option maxHeartbeats 4000000 in
set_option maxRecDepth 100000 in
theorem x_X12_isBehind {m : Nat} {ad : Nat → Nat} {p0 : Int32} {p1 : Int32} {p2 : Int32} {p3 : Int32} {σ : Sto} {X : Xc} {Q : Int32 → Sto → Prop} {Qx : Int32 → Xc → Prop} (hR : RefC m ad σ X) (h : wx_X12_isBehind p0 p1 p2 p3 X Qx) (hQ : ∀ (r : Int32) (σ' : Sto) (X' : Xc), Qx r X' → RefC m ad σ' X' → Fi m ad σ σ' → Q r σ') : wp_X12_isBehind p0 p1 p2 p3 σ Q := by
  have F : Fi m ad σ σ := Fi.rf
  unfold wx_X12_isBehind at h
  unfold wp_X12_isBehind
  refine ⟨fun c1 => ?_, fun c1 => ?_⟩
  · have h := h.1 c1
    exact xb_X12_isBehind_10 hQ  p0 p1 p2 p3 _ _ hR F h
  · have h := h.2 c1
    refine ⟨fun c2 => ?_, fun c2 => ?_⟩
    · have h := h.1 c2
      exact hQ _ _ _ h hR F
    · have h := h.2 c2
      exact xb_X12_isBehind_10 hQ  p0 p1 p2 p3 _ _ hR F h
def bx_X12_joins_95 (Qx : Xc → Prop) (s0 : Int32) (s1 : Int32) (s2 : Int32) (X : Xc) : Prop := (wx_X12_turnsTo s2 s1 s0 X (fun (X3 : Xc) => Qx X3))
set_option maxHeartbeats 4000000 in
set_option maxRecDepth 100000 in
theorem xb_X12_joins_95 {m : Nat} {ad : Nat → Nat} {σ0 : Sto} {Q : Sto → Prop} {Qx : Xc → Prop} (hQ : ∀ (σ' : Sto) (X' : Xc), Qx X' → RefC m ad σ' X' → Fi m ad σ0 σ' → Q σ')  (s0 : Int32) (s1 : Int32) (s2 : Int32) (σ : Sto) (X : Xc) (hR : RefC m ad σ X) (F : Fi m ad σ0 σ) (h : bx_X12_joins_95  Qx s0 s1 s2 X) : b_X12_joins_95 m  Q s0 s1 s2 m σ := by
  unfold bx_X12_joins_95 at h
  unfold b_X12_joins_95
  refine ⟨hR.1.1, ?_⟩
  refine x_X12_turnsTo hR h (fun σ2 X3 h hR F4 => ?_)
  have F := F.trans F4
  exact hQ _ _ h hR F
def bx_X12_joins_75 (Qx : Xc → Prop) (p1 : Int32) (p3 : Int32) (s0 : Int32) (s1 : Int32) (X : Xc) : Prop := (vp_in p1 7 ∧ (∀ x2 : Int32, x2 = X.2 22 p1.toNatClampNeg → ((p3 ≤ x2 → (vp_in p1 7 ∧ (∀ x6 : Int32, x6 = X.2 22 p1.toNatClampNeg → bx_X12_joins_95  Qx x6 s0 s1 X))) ∧ (¬ p3 ≤ x2 → bx_X12_joins_95  Qx p3 s0 s1 X))))
set_option maxHeartbeats 4000000 in
set_option maxRecDepth 100000 in
theorem xb_X12_joins_75 {m : Nat} {ad : Nat → Nat} {σ0 : Sto} {Q : Sto → Prop} {Qx : Xc → Prop} (hQ : ∀ (σ' : Sto) (X' : Xc), Qx X' → RefC m ad σ' X' → Fi m ad σ0 σ' → Q σ')  (p1 : Int32) (p3 : Int32) (s0 : Int32) (s1 : Int32) (σ : Sto) (X : Xc) (hR : RefC m ad σ X) (F : Fi m ad σ0 σ) (h : bx_X12_joins_75  Qx p1 p3 s0 s1 X) : b_X12_joins_75 m  Q p1 p3 s0 s1 m σ := by
  unfold bx_X12_joins_75 at h
  unfold b_X12_joins_75
  refine ⟨hR.1.1, ?_⟩
  have a1 : sP σ m 22 = some (ad 22) := hR.P (k := 22) (by decide)
  refine ⟨ad 22, a1, ?_⟩
  refine ⟨hR.K (k := 22) (by decide), ?_⟩
  refine ⟨hR.N (k := 22) (by decide) h.1, ?_⟩
  have h := h.2
  intro x2 e3
  rw [hR.2.2 22 (by decide)] at e3
  have h := h x2 e3
  refine ⟨fun c4 => ?_, fun c4 => ?_⟩
  · have h := h.1 c4
    have a5 : sP σ m 22 = some (ad 22) := hR.P (k := 22) (by decide)
    refine ⟨hR.N (k := 22) (by decide) h.1, ?_⟩
    have h := h.2
    intro x6 e7
    rw [hR.2.2 22 (by decide)] at e7
    have h := h x6 e7
    exact xb_X12_joins_95 hQ  x6 s0 s1 _ _ hR F h
  · have h := h.2 c4
    exact xb_X12_joins_95 hQ  p3 s0 s1 _ _ hR F h
def bx_X12_joins_25 (Qx : Xc → Prop) (p1 : Int32) (p2 : Int32) (p3 : Int32) (s0 : Int32) (X : Xc) : Prop := ((¬ s0 = 0 → Qx X) ∧ (s0 = 0 → (vp_in p1 7 ∧ (∀ x3 : Int32, x3 = X.2 21 p1.toNatClampNeg → (vp_in p1 7 ∧ (∀ x6 : Int32, x6 = X.2 22 p1.toNatClampNeg → (wx_X12_isBehind p2 p3 x3 x6 X (fun (x8 : Int32) (X10 : Xc) => ((x8 = 0 → (vp_in p1 7 ∧ (∀ x14 : Int32, x14 = X10.2 21 p1.toNatClampNeg → ((p2 ≤ x14 → (vp_in p1 7 ∧ (∀ x18 : Int32, x18 = X10.2 21 p1.toNatClampNeg → bx_X12_joins_75  Qx p1 p3 x18 p1 X10))) ∧ (¬ p2 ≤ x14 → bx_X12_joins_75  Qx p1 p3 p2 p1 X10))))) ∧ (¬ x8 = 0 → Qx X10))))))))))
set_option maxHeartbeats 4000000 in
set_option maxRecDepth 100000 in
theorem xb_X12_joins_25 {m : Nat} {ad : Nat → Nat} {σ0 : Sto} {Q : Sto → Prop} {Qx : Xc → Prop} (hQ : ∀ (σ' : Sto) (X' : Xc), Qx X' → RefC m ad σ' X' → Fi m ad σ0 σ' → Q σ')  (p1 : Int32) (p2 : Int32) (p3 : Int32) (s0 : Int32) (σ : Sto) (X : Xc) (hR : RefC m ad σ X) (F : Fi m ad σ0 σ) (h : bx_X12_joins_25  Qx p1 p2 p3 s0 X) : b_X12_joins_25 m  Q p1 p2 p3 s0 σ := by
  unfold bx_X12_joins_25 at h
  unfold b_X12_joins_25
  refine ⟨fun c1 => ?_, fun c1 => ?_⟩
  · have h := h.1 c1
    exact hQ _ _ h hR F
  · have h := h.2 c1
    refine ⟨hR.1.1, ?_⟩
    have a2 : sP σ m 21 = some (ad 21) := hR.P (k := 21) (by decide)
    refine ⟨ad 21, a2, ?_⟩
    refine ⟨hR.K (k := 21) (by decide), ?_⟩
    refine ⟨hR.N (k := 21) (by decide) h.1, ?_⟩
    have h := h.2
    intro x3 e4
    rw [hR.2.2 21 (by decide)] at e4
    have h := h x3 e4
    have a5 : sP σ m 22 = some (ad 22) := hR.P (k := 22) (by decide)
    refine ⟨ad 22, a5, ?_⟩
    refine ⟨hR.K (k := 22) (by decide), ?_⟩
    refine ⟨hR.N (k := 22) (by decide) h.1, ?_⟩
    have h := h.2
    intro x6 e7
    rw [hR.2.2 22 (by decide)] at e7
    have h := h x6 e7
    refine x_X12_isBehind hR h (fun x8 σ9 X10 h hR F11 => ?_)
    have F := F.trans F11
    refine ⟨fun c12 => ?_, fun c12 => ?_⟩
    · have h := h.1 c12
      refine ⟨hR.1.1, ?_⟩
      have a13 : sP σ9 m 21 = some (ad 21) := hR.P (k := 21) (by decide)
      refine ⟨ad 21, a13, ?_⟩
      refine ⟨hR.K (k := 21) (by decide), ?_⟩
      refine ⟨hR.N (k := 21) (by decide) h.1, ?_⟩
      have h := h.2
      intro x14 e15
      rw [hR.2.2 21 (by decide)] at e15
      have h := h x14 e15
      refine ⟨fun c16 => ?_, fun c16 => ?_⟩
      · have h := h.1 c16
        have a17 : sP σ9 m 21 = some (ad 21) := hR.P (k := 21) (by decide)
        refine ⟨hR.N (k := 21) (by decide) h.1, ?_⟩
        have h := h.2
        intro x18 e19
        rw [hR.2.2 21 (by decide)] at e19
        have h := h x18 e19
        exact xb_X12_joins_75 hQ  p1 p3 x18 p1 _ _ hR F h
      · have h := h.2 c16
        exact xb_X12_joins_75 hQ  p1 p3 p2 p1 _ _ hR F h
    · have h := h.2 c12
      exact hQ _ _ h hR F
def bx_X12_joins_24 (Qx : Xc → Prop) (p1 : Int32) (p2 : Int32) (p3 : Int32) (X : Xc) : Prop := bx_X12_joins_25  Qx p1 p2 p3 (0 : Int32) X
set_option maxHeartbeats 4000000 in
set_option maxRecDepth 100000 in
theorem xb_X12_joins_24 {m : Nat} {ad : Nat → Nat} {σ0 : Sto} {Q : Sto → Prop} {Qx : Xc → Prop} (hQ : ∀ (σ' : Sto) (X' : Xc), Qx X' → RefC m ad σ' X' → Fi m ad σ0 σ' → Q σ')  (p1 : Int32) (p2 : Int32) (p3 : Int32) (σ : Sto) (X : Xc) (hR : RefC m ad σ X) (F : Fi m ad σ0 σ) (h : bx_X12_joins_24  Qx p1 p2 p3 X) : b_X12_joins_24 m  Q p1 p2 p3 σ := by
  unfold bx_X12_joins_24 at h
  unfold b_X12_joins_24
  exact xb_X12_joins_25 hQ  p1 p2 p3 (0 : Int32) _ _ hR F h
def wx_X12_joins (p1 : Int32) (p2 : Int32) (p3 : Int32) (X : Xc) (Qx : Xc → Prop) : Prop := (vp_in p1 7 ∧ (∀ x2 : Int32, x2 = X.2 21 p1.toNatClampNeg → ((¬ p2 = x2 → bx_X12_joins_24  Qx p1 p2 p3 X) ∧ (p2 = x2 → (vp_in p1 7 ∧ (∀ x6 : Int32, x6 = X.2 22 p1.toNatClampNeg → ((¬ p3 = x6 → bx_X12_joins_24  Qx p1 p2 p3 X) ∧ (p3 = x6 → bx_X12_joins_25  Qx p1 p2 p3 (1 : Int32) X))))))))
set_option maxHeartbeats 4000000 in
set_option maxRecDepth 100000 in
theorem x_X12_joins {m : Nat} {ad : Nat → Nat} {p1 : Int32} {p2 : Int32} {p3 : Int32} {σ : Sto} {X : Xc} {Q : Sto → Prop} {Qx : Xc → Prop} (hR : RefC m ad σ X) (h : wx_X12_joins p1 p2 p3 X Qx) (hQ : ∀ (σ' : Sto) (X' : Xc), Qx X' → RefC m ad σ' X' → Fi m ad σ σ' → Q σ') : wp_X12_joins m p1 p2 p3 σ Q := by
  have F : Fi m ad σ σ := Fi.rf
  unfold wx_X12_joins at h
  unfold wp_X12_joins
  refine ⟨hR.1.1, ?_⟩
  have a1 : sP σ m 21 = some (ad 21) := hR.P (k := 21) (by decide)
  refine ⟨ad 21, a1, ?_⟩
  refine ⟨hR.K (k := 21) (by decide), ?_⟩
  refine ⟨hR.N (k := 21) (by decide) h.1, ?_⟩
  have h := h.2
  intro x2 e3
  rw [hR.2.2 21 (by decide)] at e3
  have h := h x2 e3
  refine ⟨fun c4 => ?_, fun c4 => ?_⟩
  · have h := h.1 c4
    exact xb_X12_joins_24 hQ  p1 p2 p3 _ _ hR F h
  · have h := h.2 c4
    have a5 : sP σ m 22 = some (ad 22) := hR.P (k := 22) (by decide)
    refine ⟨ad 22, a5, ?_⟩
    refine ⟨hR.K (k := 22) (by decide), ?_⟩
    refine ⟨hR.N (k := 22) (by decide) h.1, ?_⟩
    have h := h.2
    intro x6 e7
    rw [hR.2.2 22 (by decide)] at e7
    have h := h x6 e7
    refine ⟨fun c8 => ?_, fun c8 => ?_⟩
    · have h := h.1 c8
      exact xb_X12_joins_24 hQ  p1 p2 p3 _ _ hR F h
    · have h := h.2 c8
      exact xb_X12_joins_25 hQ  p1 p2 p3 (1 : Int32) _ _ hR F h
def bx_X12_keepTurned_203 (Lx65 : Int32 × Int32 × Int32 × Int32 × Int32 → Xc → Prop) (Qx : Xc → Prop) (p1 : Int32) (p2 : Int32) (p3 : Int32) (p4 : Int32) (p5 : Int32) (X : Xc) : Prop := (∀ x1 : Int32, x1 = p5 + (1 : Int32) → Lx65 (p1, p2, p3, p4, x1) X)
set_option maxHeartbeats 4000000 in
set_option maxRecDepth 100000 in
theorem xb_X12_keepTurned_203 {m : Nat} {ad : Nat → Nat} {σ0 : Sto} {Lx65 : Int32 × Int32 × Int32 × Int32 × Int32 → Xc → Prop} {L65 : Int32 × Int32 × Int32 × Int32 × Int32 → Sto → Prop} {Q : Sto → Prop} {Qx : Xc → Prop} (hQ : ∀ (σ' : Sto) (X' : Xc), Qx X' → RefC m ad σ' X' → Fi m ad σ0 σ' → Q σ') (hL65 : ∀ (t : Int32 × Int32 × Int32 × Int32 × Int32) (σ : Sto) (X : Xc), Lx65 t X → RefC m ad σ X → Fi m ad σ0 σ → L65 t σ) (p1 : Int32) (p2 : Int32) (p3 : Int32) (p4 : Int32) (p5 : Int32) (σ : Sto) (X : Xc) (hR : RefC m ad σ X) (F : Fi m ad σ0 σ) (h : bx_X12_keepTurned_203 Lx65 Qx p1 p2 p3 p4 p5 X) : b_X12_keepTurned_203 m L65 Q p1 p2 p3 p4 p5 σ := by
  unfold bx_X12_keepTurned_203 at h
  unfold b_X12_keepTurned_203
  intro x1 e2
  have h := h x1 e2
  exact hL65 _ _ _ h hR F
def bx_X12_keepTurned_108 (Lx65 : Int32 × Int32 × Int32 × Int32 × Int32 → Xc → Prop) (Qx : Xc → Prop) (p1 : Int32) (p2 : Int32) (p3 : Int32) (p4 : Int32) (p5 : Int32) (p6 : Int32) (s0 : Int32) (s1 : Int32) (X : Xc) : Prop := (vp_in s1 4900 ∧ (∀ x1 : Int32, x1 = p4 + (1 : Int32) → (vp_in p6 4900 ∧ (∀ x4 : Int32, x4 = (xA X 51 s1.toNatClampNeg (vp_nar .boolean s0)).2 51 p6.toNatClampNeg → ((x4 = 0 → bx_X12_keepTurned_203 Lx65 Qx p1 p2 p3 x1 p5 (xA X 51 s1.toNatClampNeg (vp_nar .boolean s0))) ∧ (¬ x4 = 0 → (vp_in x1 640 ∧ (∀ x9 : Int32, x9 = (xA X 51 s1.toNatClampNeg (vp_nar .boolean s0)).2 15 x1.toNatClampNeg → (vp_in p6 4900 ∧ (∀ x13 : Int32, x13 = x1 + (1 : Int32) → (vp_in x13 640 ∧ (∀ x15 : Int32, x15 = (xA (xA X 51 s1.toNatClampNeg (vp_nar .boolean s0)) 52 p6.toNatClampNeg x9).2 15 x13.toNatClampNeg → (vp_in p6 4900 ∧ (∀ x19 : Int32, x19 = x1 + (2 : Int32) → (vp_in x19 640 ∧ (∀ x21 : Int32, x21 = (xA (xA (xA X 51 s1.toNatClampNeg (vp_nar .boolean s0)) 52 p6.toNatClampNeg x9) 53 p6.toNatClampNeg x15).2 15 x19.toNatClampNeg → (vp_in p6 4900 ∧ (∀ x25 : Int32, x25 = x1 + (3 : Int32) → (vp_in x25 640 ∧ (∀ x27 : Int32, x27 = (xA (xA (xA (xA X 51 s1.toNatClampNeg (vp_nar .boolean s0)) 52 p6.toNatClampNeg x9) 53 p6.toNatClampNeg x15) 54 p6.toNatClampNeg x21).2 15 x25.toNatClampNeg → (vp_in p6 4900 ∧ (∀ x31 : Int32, x31 = x1 + (4 : Int32) → (vp_in x31 640 ∧ (∀ x33 : Int32, x33 = (xA (xA (xA (xA (xA X 51 s1.toNatClampNeg (vp_nar .boolean s0)) 52 p6.toNatClampNeg x9) 53 p6.toNatClampNeg x15) 54 p6.toNatClampNeg x21) 55 p6.toNatClampNeg x27).2 15 x31.toNatClampNeg → (vp_in p6 4900 ∧ (∀ x35 : Int32, x35 = x1 + (5 : Int32) → bx_X12_keepTurned_203 Lx65 Qx p1 p2 p3 x35 p5 (xA (xA (xA (xA (xA (xA X 51 s1.toNatClampNeg (vp_nar .boolean s0)) 52 p6.toNatClampNeg x9) 53 p6.toNatClampNeg x15) 54 p6.toNatClampNeg x21) 55 p6.toNatClampNeg x27) 56 p6.toNatClampNeg x33)))))))))))))))))))))))))))
set_option maxHeartbeats 4000000 in
set_option maxRecDepth 100000 in
theorem xb_X12_keepTurned_108 {m : Nat} {ad : Nat → Nat} {σ0 : Sto} {Lx65 : Int32 × Int32 × Int32 × Int32 × Int32 → Xc → Prop} {L65 : Int32 × Int32 × Int32 × Int32 × Int32 → Sto → Prop} {Q : Sto → Prop} {Qx : Xc → Prop} (hQ : ∀ (σ' : Sto) (X' : Xc), Qx X' → RefC m ad σ' X' → Fi m ad σ0 σ' → Q σ') (hL65 : ∀ (t : Int32 × Int32 × Int32 × Int32 × Int32) (σ : Sto) (X : Xc), Lx65 t X → RefC m ad σ X → Fi m ad σ0 σ → L65 t σ) (p1 : Int32) (p2 : Int32) (p3 : Int32) (p4 : Int32) (p5 : Int32) (p6 : Int32) (s0 : Int32) (s1 : Int32) (σ : Sto) (X : Xc) (hR : RefC m ad σ X) (F : Fi m ad σ0 σ) (h : bx_X12_keepTurned_108 Lx65 Qx p1 p2 p3 p4 p5 p6 s0 s1 X) : b_X12_keepTurned_108 m L65 Q p1 p2 p3 p4 p5 p6 s0 s1 (some (ad 51)) σ := by
  unfold bx_X12_keepTurned_108 at h
  unfold b_X12_keepTurned_108
  refine ⟨ad 51, rfl, ?_⟩
  refine ⟨hR.K (k := 51) (by decide), ?_⟩
  refine ⟨hR.N (k := 51) (by decide) h.1, ?_⟩
  have h := h.2
  have F := F.A (k := 51) (i := s1.toNatClampNeg) (v := (vp_nar .boolean s0)) (by decide)
  have hR := hR.A (k := 51) (i := s1.toNatClampNeg) (v := (vp_nar .boolean s0)) (by decide)
  intro x1 e2
  have h := h x1 e2
  refine ⟨hR.1.1, ?_⟩
  have a3 : sP σ m 51 = some (ad 51) := hR.P (k := 51) (by decide)
  refine ⟨ad 51, a3, ?_⟩
  refine ⟨hR.K (k := 51) (by decide), ?_⟩
  refine ⟨hR.N (k := 51) (by decide) h.1, ?_⟩
  have h := h.2
  intro x4 e5
  rw [hR.2.2 51 (by decide)] at e5
  have h := h x4 e5
  refine ⟨fun c6 => ?_, fun c6 => ?_⟩
  · have h := h.1 c6
    exact xb_X12_keepTurned_203 hQ hL65 p1 p2 p3 x1 p5 _ _ hR F h
  · have h := h.2 c6
    have a7 : sP σ m 52 = some (ad 52) := hR.P (k := 52) (by decide)
    have a8 : sP σ m 15 = some (ad 15) := hR.P (k := 15) (by decide)
    refine ⟨ad 15, a8, ?_⟩
    refine ⟨hR.K (k := 15) (by decide), ?_⟩
    refine ⟨hR.N (k := 15) (by decide) h.1, ?_⟩
    have h := h.2
    intro x9 e10
    rw [hR.2.2 15 (by decide)] at e10
    have h := h x9 e10
    refine ⟨ad 52, a7, ?_⟩
    refine ⟨hR.K (k := 52) (by decide), ?_⟩
    refine ⟨hR.N (k := 52) (by decide) h.1, ?_⟩
    have h := h.2
    have F := F.A (k := 52) (i := p6.toNatClampNeg) (v := x9) (by decide)
    have hR := hR.A (k := 52) (i := p6.toNatClampNeg) (v := x9) (by decide)
    have a11 : sP σ m 53 = some (ad 53) := hR.P (k := 53) (by decide)
    have a12 : sP σ m 15 = some (ad 15) := hR.P (k := 15) (by decide)
    intro x13 e14
    have h := h x13 e14
    refine ⟨hR.N (k := 15) (by decide) h.1, ?_⟩
    have h := h.2
    intro x15 e16
    rw [hR.2.2 15 (by decide)] at e16
    have h := h x15 e16
    refine ⟨ad 53, a11, ?_⟩
    refine ⟨hR.K (k := 53) (by decide), ?_⟩
    refine ⟨hR.N (k := 53) (by decide) h.1, ?_⟩
    have h := h.2
    have F := F.A (k := 53) (i := p6.toNatClampNeg) (v := x15) (by decide)
    have hR := hR.A (k := 53) (i := p6.toNatClampNeg) (v := x15) (by decide)
    have a17 : sP σ m 54 = some (ad 54) := hR.P (k := 54) (by decide)
    have a18 : sP σ m 15 = some (ad 15) := hR.P (k := 15) (by decide)
    intro x19 e20
    have h := h x19 e20
    refine ⟨hR.N (k := 15) (by decide) h.1, ?_⟩
    have h := h.2
    intro x21 e22
    rw [hR.2.2 15 (by decide)] at e22
    have h := h x21 e22
    refine ⟨ad 54, a17, ?_⟩
    refine ⟨hR.K (k := 54) (by decide), ?_⟩
    refine ⟨hR.N (k := 54) (by decide) h.1, ?_⟩
    have h := h.2
    have F := F.A (k := 54) (i := p6.toNatClampNeg) (v := x21) (by decide)
    have hR := hR.A (k := 54) (i := p6.toNatClampNeg) (v := x21) (by decide)
    have a23 : sP σ m 55 = some (ad 55) := hR.P (k := 55) (by decide)
    have a24 : sP σ m 15 = some (ad 15) := hR.P (k := 15) (by decide)
    intro x25 e26
    have h := h x25 e26
    refine ⟨hR.N (k := 15) (by decide) h.1, ?_⟩
    have h := h.2
    intro x27 e28
    rw [hR.2.2 15 (by decide)] at e28
    have h := h x27 e28
    refine ⟨ad 55, a23, ?_⟩
    refine ⟨hR.K (k := 55) (by decide), ?_⟩
    refine ⟨hR.N (k := 55) (by decide) h.1, ?_⟩
    have h := h.2
    have F := F.A (k := 55) (i := p6.toNatClampNeg) (v := x27) (by decide)
    have hR := hR.A (k := 55) (i := p6.toNatClampNeg) (v := x27) (by decide)
    have a29 : sP σ m 56 = some (ad 56) := hR.P (k := 56) (by decide)
    have a30 : sP σ m 15 = some (ad 15) := hR.P (k := 15) (by decide)
    intro x31 e32
    have h := h x31 e32
    refine ⟨hR.N (k := 15) (by decide) h.1, ?_⟩
    have h := h.2
    intro x33 e34
    rw [hR.2.2 15 (by decide)] at e34
    have h := h x33 e34
    refine ⟨ad 56, a29, ?_⟩
    refine ⟨hR.K (k := 56) (by decide), ?_⟩
    refine ⟨hR.N (k := 56) (by decide) h.1, ?_⟩
    have h := h.2
    have F := F.A (k := 56) (i := p6.toNatClampNeg) (v := x33) (by decide)
    have hR := hR.A (k := 56) (i := p6.toNatClampNeg) (v := x33) (by decide)
    intro x35 e36
    have h := h x35 e36
    exact xb_X12_keepTurned_203 hQ hL65 p1 p2 p3 x35 p5 _ _ hR F h
def fx_X12_keepTurned_65 (Qx : Xc → Prop) (Lx65 : Int32 × Int32 × Int32 × Int32 × Int32 → Xc → Prop) (t : Int32 × Int32 × Int32 × Int32 × Int32) (X : Xc) : Prop := (vp_in (8 : Int32) 640 ∧ (∀ x2 : Int32, x2 = X.2 15 (8 : Int32).toNatClampNeg → ((x2 ≤ t.2.2.2.2 → (vp_in t.1 7 ∧ (∀ x6 : Int32, x6 = X.2 46 t.1.toNatClampNeg → (∀ x8 : Int32, x8 = x6 ||| ((1 : Int32) <<< (t.2.1 &&& 31)) → (vp_in t.1 7 ∧ Qx (xA X 46 t.1.toNatClampNeg x8)))))) ∧ (¬ x2 ≤ t.2.2.2.2 → (∀ x10 : Int32, x10 = ((100 : Int32) * t.2.2.1) + t.2.2.2.2 → (vp_in t.2.2.2.1 640 ∧ (∀ x14 : Int32, x14 = X.2 15 t.2.2.2.1.toNatClampNeg → ((¬ x14 = (1 : Int32) → bx_X12_keepTurned_108 Lx65 Qx t.1 t.2.1 t.2.2.1 t.2.2.2.1 t.2.2.2.2 x10 (0 : Int32) x10 X) ∧ (x14 = (1 : Int32) → bx_X12_keepTurned_108 Lx65 Qx t.1 t.2.1 t.2.2.1 t.2.2.2.1 t.2.2.2.2 x10 (1 : Int32) x10 X)))))))))
set_option maxHeartbeats 4000000 in
set_option maxRecDepth 100000 in
theorem xf_X12_keepTurned_65 {m : Nat} {ad : Nat → Nat} {σ0 : Sto} {Q : Sto → Prop} {Qx : Xc → Prop} {Lx65 : Int32 × Int32 × Int32 × Int32 × Int32 → Xc → Prop} {L65 : Int32 × Int32 × Int32 × Int32 × Int32 → Sto → Prop} (hQ : ∀ (σ' : Sto) (X' : Xc), Qx X' → RefC m ad σ' X' → Fi m ad σ0 σ' → Q σ') (hL65 : ∀ (t : Int32 × Int32 × Int32 × Int32 × Int32) (σ : Sto) (X : Xc), Lx65 t X → RefC m ad σ X → Fi m ad σ0 σ → L65 t σ) : ∀ (t : Int32 × Int32 × Int32 × Int32 × Int32) (σ : Sto) (X : Xc), RefC m ad σ X → Fi m ad σ0 σ → fx_X12_keepTurned_65  Qx Lx65 t X → f_X12_keepTurned_65 m  Q L65 t σ := by
  intro t σ X hR F h
  unfold fx_X12_keepTurned_65 at h
  unfold f_X12_keepTurned_65
  refine ⟨hR.1.1, ?_⟩
  have a1 : sP σ m 15 = some (ad 15) := hR.P (k := 15) (by decide)
  refine ⟨ad 15, a1, ?_⟩
  refine ⟨hR.K (k := 15) (by decide), ?_⟩
  refine ⟨hR.N (k := 15) (by decide) h.1, ?_⟩
  have h := h.2
  intro x2 e3
  rw [hR.2.2 15 (by decide)] at e3
  have h := h x2 e3
  refine ⟨fun c4 => ?_, fun c4 => ?_⟩
  · have h := h.1 c4
    have a5 : sP σ m 46 = some (ad 46) := hR.P (k := 46) (by decide)
    refine ⟨ad 46, a5, ?_⟩
    refine ⟨hR.K (k := 46) (by decide), ?_⟩
    refine ⟨hR.N (k := 46) (by decide) h.1, ?_⟩
    have h := h.2
    intro x6 e7
    rw [hR.2.2 46 (by decide)] at e7
    have h := h x6 e7
    intro x8 e9
    have h := h x8 e9
    refine ⟨hR.N (k := 46) (by decide) h.1, ?_⟩
    have h := h.2
    have F := F.A (k := 46) (i := t.1.toNatClampNeg) (v := x8) (by decide)
    have hR := hR.A (k := 46) (i := t.1.toNatClampNeg) (v := x8) (by decide)
    exact hQ _ _ h hR F
  · have h := h.2 c4
    intro x10 e11
    have h := h x10 e11
    have a12 : sP σ m 51 = some (ad 51) := hR.P (k := 51) (by decide)
    have a13 : sP σ m 15 = some (ad 15) := hR.P (k := 15) (by decide)
    refine ⟨hR.N (k := 15) (by decide) h.1, ?_⟩
    have h := h.2
    intro x14 e15
    rw [hR.2.2 15 (by decide)] at e15
    have h := h x14 e15
    refine ⟨fun c16 => ?_, fun c16 => ?_⟩
    · have h := h.1 c16
      rw [a12]
      exact xb_X12_keepTurned_108 hQ hL65 t.1 t.2.1 t.2.2.1 t.2.2.2.1 t.2.2.2.2 x10 (0 : Int32) x10 _ _ hR F h
    · have h := h.2 c16
      rw [a12]
      exact xb_X12_keepTurned_108 hQ hL65 t.1 t.2.1 t.2.2.1 t.2.2.2.1 t.2.2.2.2 x10 (1 : Int32) x10 _ _ hR F h
def wx_X12_keepTurned (p1 : Int32) (p2 : Int32) (X : Xc) (Qx : Xc → Prop) : Prop := (∀ x1 : Int32, x1 = ((7 : Int32) * p1) + p2 → (vp_in (5 : Int32) 640 ∧ (∀ x5 : Int32, x5 = X.2 15 (5 : Int32).toNatClampNeg → (vp_in x1 49 ∧ (vp_in (6 : Int32) 640 ∧ (∀ x9 : Int32, x9 = (xA X 47 x1.toNatClampNeg x5).2 15 (6 : Int32).toNatClampNeg → (vp_in x1 49 ∧ (vp_in (7 : Int32) 640 ∧ (∀ x13 : Int32, x13 = (xA (xA X 47 x1.toNatClampNeg x5) 48 x1.toNatClampNeg x9).2 15 (7 : Int32).toNatClampNeg → (vp_in x1 49 ∧ (vp_in (8 : Int32) 640 ∧ (∀ x17 : Int32, x17 = (xA (xA (xA X 47 x1.toNatClampNeg x5) 48 x1.toNatClampNeg x9) 49 x1.toNatClampNeg x13).2 15 (8 : Int32).toNatClampNeg → (vp_in x1 49 ∧ LFx (fx_X12_keepTurned_65  Qx) (p1, p2, x1, (9 : Int32), (0 : Int32)) (xA (xA (xA (xA X 47 x1.toNatClampNeg x5) 48 x1.toNatClampNeg x9) 49 x1.toNatClampNeg x13) 50 x1.toNatClampNeg x17))))))))))))))
set_option maxHeartbeats 4000000 in
set_option maxRecDepth 100000 in
theorem x_X12_keepTurned {m : Nat} {ad : Nat → Nat} {p1 : Int32} {p2 : Int32} {σ : Sto} {X : Xc} {Q : Sto → Prop} {Qx : Xc → Prop} (hR : RefC m ad σ X) (h : wx_X12_keepTurned p1 p2 X Qx) (hQ : ∀ (σ' : Sto) (X' : Xc), Qx X' → RefC m ad σ' X' → Fi m ad σ σ' → Q σ') : wp_X12_keepTurned m p1 p2 σ Q := by
  have F : Fi m ad σ σ := Fi.rf
  unfold wx_X12_keepTurned at h
  unfold wp_X12_keepTurned
  intro x1 e2
  have h := h x1 e2
  refine ⟨hR.1.1, ?_⟩
  have a3 : sP σ m 47 = some (ad 47) := hR.P (k := 47) (by decide)
  have a4 : sP σ m 15 = some (ad 15) := hR.P (k := 15) (by decide)
  refine ⟨ad 15, a4, ?_⟩
  refine ⟨hR.K (k := 15) (by decide), ?_⟩
  refine ⟨hR.N (k := 15) (by decide) h.1, ?_⟩
  have h := h.2
  intro x5 e6
  rw [hR.2.2 15 (by decide)] at e6
  have h := h x5 e6
  refine ⟨ad 47, a3, ?_⟩
  refine ⟨hR.K (k := 47) (by decide), ?_⟩
  refine ⟨hR.N (k := 47) (by decide) h.1, ?_⟩
  have h := h.2
  have F := F.A (k := 47) (i := x1.toNatClampNeg) (v := x5) (by decide)
  have hR := hR.A (k := 47) (i := x1.toNatClampNeg) (v := x5) (by decide)
  have a7 : sP σ m 48 = some (ad 48) := hR.P (k := 48) (by decide)
  have a8 : sP σ m 15 = some (ad 15) := hR.P (k := 15) (by decide)
  refine ⟨hR.N (k := 15) (by decide) h.1, ?_⟩
  have h := h.2
  intro x9 e10
  rw [hR.2.2 15 (by decide)] at e10
  have h := h x9 e10
  refine ⟨ad 48, a7, ?_⟩
  refine ⟨hR.K (k := 48) (by decide), ?_⟩
  refine ⟨hR.N (k := 48) (by decide) h.1, ?_⟩
  have h := h.2
  have F := F.A (k := 48) (i := x1.toNatClampNeg) (v := x9) (by decide)
  have hR := hR.A (k := 48) (i := x1.toNatClampNeg) (v := x9) (by decide)
  have a11 : sP σ m 49 = some (ad 49) := hR.P (k := 49) (by decide)
  have a12 : sP σ m 15 = some (ad 15) := hR.P (k := 15) (by decide)
  refine ⟨hR.N (k := 15) (by decide) h.1, ?_⟩
  have h := h.2
  intro x13 e14
  rw [hR.2.2 15 (by decide)] at e14
  have h := h x13 e14
  refine ⟨ad 49, a11, ?_⟩
  refine ⟨hR.K (k := 49) (by decide), ?_⟩
  refine ⟨hR.N (k := 49) (by decide) h.1, ?_⟩
  have h := h.2
  have F := F.A (k := 49) (i := x1.toNatClampNeg) (v := x13) (by decide)
  have hR := hR.A (k := 49) (i := x1.toNatClampNeg) (v := x13) (by decide)
  have a15 : sP σ m 50 = some (ad 50) := hR.P (k := 50) (by decide)
  have a16 : sP σ m 15 = some (ad 15) := hR.P (k := 15) (by decide)
  refine ⟨hR.N (k := 15) (by decide) h.1, ?_⟩
  have h := h.2
  intro x17 e18
  rw [hR.2.2 15 (by decide)] at e18
  have h := h x17 e18
  refine ⟨ad 50, a15, ?_⟩
  refine ⟨hR.K (k := 50) (by decide), ?_⟩
  refine ⟨hR.N (k := 50) (by decide) h.1, ?_⟩
  have h := h.2
  have F := F.A (k := 50) (i := x1.toNatClampNeg) (v := x17) (by decide)
  have hR := hR.A (k := 50) (i := x1.toNatClampNeg) (v := x17) (by decide)
  exact lfx h hR F (fun Lx L hL t σ X hR F h => xf_X12_keepTurned_65 hQ  hL t σ X hR F h)
