def bx_X12_request_22 (Qx : Int32 → Xc → Prop)  (X : Xc) : Prop := (wx_X12_refuse (1 : Int32) X (fun (x1 : Int32) (X3 : Xc) => Qx x1 X3))
set_option maxHeartbeats 4000000 in
set_option maxRecDepth 100000 in
theorem xb_X12_request_22 {m : Nat} {ad : Nat → Nat} {σ0 : Sto} {Q : Int32 → Sto → Prop} {Qx : Int32 → Xc → Prop} (hQ : ∀ (r : Int32) (σ' : Sto) (X' : Xc), Qx r X' → RefC m ad σ' X' → Fi m ad σ0 σ' → Q r σ')   (σ : Sto) (X : Xc) (hR : RefC m ad σ X) (F : Fi m ad σ0 σ) (h : bx_X12_request_22  Qx  X) : b_X12_request_22 m  Q  σ := by
  unfold bx_X12_request_22 at h
  unfold b_X12_request_22
  refine ⟨hR.1.1, ?_⟩
  refine x_X12_refuse hR h (fun x1 σ2 X3 h hR F4 => ?_)
  have F := F.trans F4
  exact hQ _ _ _ h hR F
def wx_X12_request (p1 : Int32) (p2 : Int32) (p3 : Int32) (p4 : Int32) (X : Xc) (Qx : Int32 → Xc → Prop) : Prop := (wx_X12_isClient p1 (xS X 0 (0 : Int32)) (fun (x1 : Int32) (X3 : Xc) => ((x1 = 0 → bx_X12_request_22  Qx  X3) ∧ (¬ x1 = 0 → (wx_X12_in p3 (0 : Int32) (7 : Int32) X3 (fun (x6 : Int32) (X8 : Xc) => ((¬ x6 = 0 → (wx_X12_in p2 (0 : Int32) (2 : Int32) X8 (fun (x11 : Int32) (X13 : Xc) => ((¬ x11 = 0 → (vp_in p1 4 ∧ (∀ x17 : Int32, x17 = X13.2 66 p1.toNatClampNeg → ((x17 = 0 → (vp_in p1 4 ∧ (∀ x21 : Int32, x21 = X13.2 65 p1.toNatClampNeg → (∀ x23 : Int32, x23 = x21 + (1 : Int32) → (vp_in p1 4 ∧ (vp_in p1 4 ∧ (vp_in p1 4 ∧ (vp_in p1 4 ∧ (vp_in p1 4 ∧ (vp_in p1 4 ∧ (wx_X12_stamp p1 (xA (xA (xA (xA (xA (xA X13 65 p1.toNatClampNeg x23) 66 p1.toNatClampNeg (vp_nar .boolean (1 : Int32))) 67 p1.toNatClampNeg p2) 68 p1.toNatClampNeg p3) 69 p1.toNatClampNeg p4) 75 p1.toNatClampNeg (0 : Int32)) (fun (X32 : Xc) => (vp_in p1 4 ∧ (∀ x35 : Int32, x35 = X32.2 65 p1.toNatClampNeg → Qx x35 X32)))))))))))))) ∧ (¬ x17 = 0 → (wx_X12_refuse (3 : Int32) X13 (fun (x37 : Int32) (X39 : Xc) => Qx x37 X39))))))) ∧ (x11 = 0 → (wx_X12_refuse (2 : Int32) X13 (fun (x41 : Int32) (X43 : Xc) => Qx x41 X43))))))) ∧ (x6 = 0 → bx_X12_request_22  Qx  X8))))))))
set_option maxHeartbeats 4000000 in
set_option maxRecDepth 100000 in
theorem x_X12_request {m : Nat} {ad : Nat → Nat} {p1 : Int32} {p2 : Int32} {p3 : Int32} {p4 : Int32} {σ : Sto} {X : Xc} {Q : Int32 → Sto → Prop} {Qx : Int32 → Xc → Prop} (hR : RefC m ad σ X) (h : wx_X12_request p1 p2 p3 p4 X Qx) (hQ : ∀ (r : Int32) (σ' : Sto) (X' : Xc), Qx r X' → RefC m ad σ' X' → Fi m ad σ σ' → Q r σ') : wp_X12_request m p1 p2 p3 p4 σ Q := by
  have F : Fi m ad σ σ := Fi.rf
  unfold wx_X12_request at h
  unfold wp_X12_request
  refine ⟨hR.1.1, ?_⟩
  have F := F.S (k := 0) (v := (0 : Int32))
  have hR := hR.S (k := 0) (v := (0 : Int32))
  refine x_X12_isClient hR h (fun x1 σ2 X3 h hR F4 => ?_)
  have F := F.trans F4
  refine ⟨fun c5 => ?_, fun c5 => ?_⟩
  · have h := h.1 c5
    exact xb_X12_request_22 hQ   _ _ hR F h
  · have h := h.2 c5
    refine x_X12_in hR h (fun x6 σ7 X8 h hR F9 => ?_)
    have F := F.trans F9
    refine ⟨fun c10 => ?_, fun c10 => ?_⟩
    · have h := h.1 c10
      refine x_X12_in hR h (fun x11 σ12 X13 h hR F14 => ?_)
      have F := F.trans F14
      refine ⟨fun c15 => ?_, fun c15 => ?_⟩
      · have h := h.1 c15
        refine ⟨hR.1.1, ?_⟩
        have a16 : sP σ12 m 66 = some (ad 66) := hR.P (k := 66) (by decide)
        refine ⟨ad 66, a16, ?_⟩
        refine ⟨hR.K (k := 66) (by decide), ?_⟩
        refine ⟨hR.N (k := 66) (by decide) h.1, ?_⟩
        have h := h.2
        intro x17 e18
        rw [hR.2.2 66 (by decide)] at e18
        have h := h x17 e18
        refine ⟨fun c19 => ?_, fun c19 => ?_⟩
        · have h := h.1 c19
          have a20 : sP σ12 m 65 = some (ad 65) := hR.P (k := 65) (by decide)
          refine ⟨ad 65, a20, ?_⟩
          refine ⟨hR.K (k := 65) (by decide), ?_⟩
          refine ⟨hR.N (k := 65) (by decide) h.1, ?_⟩
          have h := h.2
          intro x21 e22
          rw [hR.2.2 65 (by decide)] at e22
          have h := h x21 e22
          intro x23 e24
          have h := h x23 e24
          refine ⟨hR.N (k := 65) (by decide) h.1, ?_⟩
          have h := h.2
          have F := F.A (k := 65) (i := p1.toNatClampNeg) (v := x23) (by decide)
          have hR := hR.A (k := 65) (i := p1.toNatClampNeg) (v := x23) (by decide)
          have a25 : sP σ12 m 66 = some (ad 66) := hR.P (k := 66) (by decide)
          refine ⟨hR.N (k := 66) (by decide) h.1, ?_⟩
          have h := h.2
          have F := F.A (k := 66) (i := p1.toNatClampNeg) (v := (vp_nar .boolean (1 : Int32))) (by decide)
          have hR := hR.A (k := 66) (i := p1.toNatClampNeg) (v := (vp_nar .boolean (1 : Int32))) (by decide)
          have a26 : sP σ12 m 67 = some (ad 67) := hR.P (k := 67) (by decide)
          refine ⟨ad 67, a26, ?_⟩
          refine ⟨hR.K (k := 67) (by decide), ?_⟩
          refine ⟨hR.N (k := 67) (by decide) h.1, ?_⟩
          have h := h.2
          have F := F.A (k := 67) (i := p1.toNatClampNeg) (v := p2) (by decide)
          have hR := hR.A (k := 67) (i := p1.toNatClampNeg) (v := p2) (by decide)
          have a27 : sP σ12 m 68 = some (ad 68) := hR.P (k := 68) (by decide)
          refine ⟨ad 68, a27, ?_⟩
          refine ⟨hR.K (k := 68) (by decide), ?_⟩
          refine ⟨hR.N (k := 68) (by decide) h.1, ?_⟩
          have h := h.2
          have F := F.A (k := 68) (i := p1.toNatClampNeg) (v := p3) (by decide)
          have hR := hR.A (k := 68) (i := p1.toNatClampNeg) (v := p3) (by decide)
          have a28 : sP σ12 m 69 = some (ad 69) := hR.P (k := 69) (by decide)
          refine ⟨ad 69, a28, ?_⟩
          refine ⟨hR.K (k := 69) (by decide), ?_⟩
          refine ⟨hR.N (k := 69) (by decide) h.1, ?_⟩
          have h := h.2
          have F := F.A (k := 69) (i := p1.toNatClampNeg) (v := p4) (by decide)
          have hR := hR.A (k := 69) (i := p1.toNatClampNeg) (v := p4) (by decide)
          have a29 : sP σ12 m 75 = some (ad 75) := hR.P (k := 75) (by decide)
          refine ⟨ad 75, a29, ?_⟩
          refine ⟨hR.K (k := 75) (by decide), ?_⟩
          refine ⟨hR.N (k := 75) (by decide) h.1, ?_⟩
          have h := h.2
          have F := F.A (k := 75) (i := p1.toNatClampNeg) (v := (0 : Int32)) (by decide)
          have hR := hR.A (k := 75) (i := p1.toNatClampNeg) (v := (0 : Int32)) (by decide)
          refine x_X12_stamp hR h (fun σ31 X32 h hR F33 => ?_)
          have F := F.trans F33
          refine ⟨hR.1.1, ?_⟩
          have a34 : sP σ31 m 65 = some (ad 65) := hR.P (k := 65) (by decide)
          refine ⟨ad 65, a34, ?_⟩
          refine ⟨hR.K (k := 65) (by decide), ?_⟩
          refine ⟨hR.N (k := 65) (by decide) h.1, ?_⟩
          have h := h.2
          intro x35 e36
          rw [hR.2.2 65 (by decide)] at e36
          have h := h x35 e36
          exact hQ _ _ _ h hR F
        · have h := h.2 c19
          refine x_X12_refuse hR h (fun x37 σ38 X39 h hR F40 => ?_)
          have F := F.trans F40
          exact hQ _ _ _ h hR F
      · have h := h.2 c15
        refine ⟨hR.1.1, ?_⟩
        refine x_X12_refuse hR h (fun x41 σ42 X43 h hR F44 => ?_)
        have F := F.trans F44
        exact hQ _ _ _ h hR F
    · have h := h.2 c10
      exact xb_X12_request_22 hQ   _ _ hR F h
def bx_X12_again_26 (Qx : Xc → Prop) (p1 : Int32) (s0 : Int32) (X : Xc) : Prop := (∀ x1 : Int32, x1 = (xS X 0 s0).1 0 → ((¬ x1 = 0 → Qx (xS X 0 s0)) ∧ (x1 = 0 → (wx_X12_stamp p1 (xS X 0 s0) (fun (X6 : Xc) => Qx X6)))))
set_option maxHeartbeats 4000000 in
set_option maxRecDepth 100000 in
theorem xb_X12_again_26 {m : Nat} {ad : Nat → Nat} {σ0 : Sto} {Q : Sto → Prop} {Qx : Xc → Prop} (hQ : ∀ (σ' : Sto) (X' : Xc), Qx X' → RefC m ad σ' X' → Fi m ad σ0 σ' → Q σ')  (p1 : Int32) (s0 : Int32) (σ : Sto) (X : Xc) (hR : RefC m ad σ X) (F : Fi m ad σ0 σ) (h : bx_X12_again_26  Qx p1 s0 X) : b_X12_again_26 m  Q p1 s0 m σ := by
  unfold bx_X12_again_26 at h
  unfold b_X12_again_26
  refine ⟨hR.1.1, ?_⟩
  have F := F.S (k := 0) (v := s0)
  have hR := hR.S (k := 0) (v := s0)
  refine ⟨hR.1.1, ?_⟩
  intro x1 e2
  rw [hR.2.1 0] at e2
  have h := h x1 e2
  refine ⟨fun c3 => ?_, fun c3 => ?_⟩
  · have h := h.1 c3
    exact hQ _ _ h hR F
  · have h := h.2 c3
    refine x_X12_stamp hR h (fun σ5 X6 h hR F7 => ?_)
    have F := F.trans F7
    exact hQ _ _ h hR F
def wx_X12_again (p1 : Int32) (X : Xc) (Qx : Xc → Prop) : Prop := (wx_X12_isClient p1 X (fun (x1 : Int32) (X3 : Xc) => ((¬ x1 = 0 → (vp_in p1 4 ∧ (∀ x7 : Int32, x7 = X3.2 66 p1.toNatClampNeg → ((¬ x7 = 0 → bx_X12_again_26  Qx p1 (0 : Int32) X3) ∧ (x7 = 0 → bx_X12_again_26  Qx p1 (2 : Int32) X3))))) ∧ (x1 = 0 → bx_X12_again_26  Qx p1 (1 : Int32) X3))))
set_option maxHeartbeats 4000000 in
set_option maxRecDepth 100000 in
theorem x_X12_again {m : Nat} {ad : Nat → Nat} {p1 : Int32} {σ : Sto} {X : Xc} {Q : Sto → Prop} {Qx : Xc → Prop} (hR : RefC m ad σ X) (h : wx_X12_again p1 X Qx) (hQ : ∀ (σ' : Sto) (X' : Xc), Qx X' → RefC m ad σ' X' → Fi m ad σ σ' → Q σ') : wp_X12_again m p1 σ Q := by
  have F : Fi m ad σ σ := Fi.rf
  unfold wx_X12_again at h
  unfold wp_X12_again
  refine x_X12_isClient hR h (fun x1 σ2 X3 h hR F4 => ?_)
  have F := F.trans F4
  refine ⟨fun c5 => ?_, fun c5 => ?_⟩
  · have h := h.1 c5
    refine ⟨hR.1.1, ?_⟩
    have a6 : sP σ2 m 66 = some (ad 66) := hR.P (k := 66) (by decide)
    refine ⟨ad 66, a6, ?_⟩
    refine ⟨hR.K (k := 66) (by decide), ?_⟩
    refine ⟨hR.N (k := 66) (by decide) h.1, ?_⟩
    have h := h.2
    intro x7 e8
    rw [hR.2.2 66 (by decide)] at e8
    have h := h x7 e8
    refine ⟨fun c9 => ?_, fun c9 => ?_⟩
    · have h := h.1 c9
      exact xb_X12_again_26 hQ  p1 (0 : Int32) _ _ hR F h
    · have h := h.2 c9
      exact xb_X12_again_26 hQ  p1 (2 : Int32) _ _ hR F h
  · have h := h.2 c5
    exact xb_X12_again_26 hQ  p1 (1 : Int32) _ _ hR F h
def bx_X12_deliver_17 (Qx : Xc → Prop) (p2 : Int32) (s0 : Int32) (X : Xc) : Prop := (∀ x1 : Int32, x1 = (xS X 0 s0).1 0 → ((¬ x1 = 0 → Qx (xS X 0 s0)) ∧ (x1 = 0 → (wx_X12_hand p2 (xS X 0 s0) (fun (X6 : Xc) => Qx X6)))))
set_option maxHeartbeats 4000000 in
set_option maxRecDepth 100000 in
theorem xb_X12_deliver_17 {m : Nat} {ad : Nat → Nat} {σ0 : Sto} {Q : Sto → Prop} {Qx : Xc → Prop} (hQ : ∀ (σ' : Sto) (X' : Xc), Qx X' → RefC m ad σ' X' → Fi m ad σ0 σ' → Q σ')  (p2 : Int32) (s0 : Int32) (σ : Sto) (X : Xc) (hR : RefC m ad σ X) (F : Fi m ad σ0 σ) (h : bx_X12_deliver_17  Qx p2 s0 X) : b_X12_deliver_17 m  Q p2 s0 m σ := by
  unfold bx_X12_deliver_17 at h
  unfold b_X12_deliver_17
  refine ⟨hR.1.1, ?_⟩
  have F := F.S (k := 0) (v := s0)
  have hR := hR.S (k := 0) (v := s0)
  refine ⟨hR.1.1, ?_⟩
  intro x1 e2
  rw [hR.2.1 0] at e2
  have h := h x1 e2
  refine ⟨fun c3 => ?_, fun c3 => ?_⟩
  · have h := h.1 c3
    exact hQ _ _ h hR F
  · have h := h.2 c3
    refine x_X12_hand hR h (fun σ5 X6 h hR F7 => ?_)
    have F := F.trans F7
    exact hQ _ _ h hR F
def wx_X12_deliver (p1 : Int32) (X : Xc) (Qx : Xc → Prop) : Prop := (wx_X12_find p1 X (fun (x1 : Int32) (X3 : Xc) => ((¬ x1 = (-1 : Int32) → bx_X12_deliver_17  Qx x1 (0 : Int32) X3) ∧ (x1 = (-1 : Int32) → bx_X12_deliver_17  Qx x1 (1 : Int32) X3))))
set_option maxHeartbeats 4000000 in
set_option maxRecDepth 100000 in
theorem x_X12_deliver {m : Nat} {ad : Nat → Nat} {p1 : Int32} {σ : Sto} {X : Xc} {Q : Sto → Prop} {Qx : Xc → Prop} (hR : RefC m ad σ X) (h : wx_X12_deliver p1 X Qx) (hQ : ∀ (σ' : Sto) (X' : Xc), Qx X' → RefC m ad σ' X' → Fi m ad σ σ' → Q σ') : wp_X12_deliver m p1 σ Q := by
  have F : Fi m ad σ σ := Fi.rf
  unfold wx_X12_deliver at h
  unfold wp_X12_deliver
  refine ⟨hR.1.1, ?_⟩
  refine x_X12_find hR h (fun x1 σ2 X3 h hR F4 => ?_)
  have F := F.trans F4
  refine ⟨fun c5 => ?_, fun c5 => ?_⟩
  · have h := h.1 c5
    exact xb_X12_deliver_17 hQ  x1 (0 : Int32) _ _ hR F h
  · have h := h.2 c5
    exact xb_X12_deliver_17 hQ  x1 (1 : Int32) _ _ hR F h
def bx_X12_lose_17 (Qx : Xc → Prop) (p2 : Int32) (s0 : Int32) (X : Xc) : Prop := (∀ x1 : Int32, x1 = (xS X 0 s0).1 0 → ((x1 ≤ 0 → (wx_X12_remove p2 (xS X 0 s0) (fun (x4 : Int32) (X6 : Xc) => (∀ x8 : Int32, x8 = X6.1 8 → (∀ x10 : Int32, x10 = x8 + (1 : Int32) → Qx (xS X6 8 x10)))))) ∧ (¬ x1 ≤ 0 → Qx (xS X 0 s0))))
set_option maxHeartbeats 4000000 in
set_option maxRecDepth 100000 in
theorem xb_X12_lose_17 {m : Nat} {ad : Nat → Nat} {σ0 : Sto} {Q : Sto → Prop} {Qx : Xc → Prop} (hQ : ∀ (σ' : Sto) (X' : Xc), Qx X' → RefC m ad σ' X' → Fi m ad σ0 σ' → Q σ')  (p2 : Int32) (s0 : Int32) (σ : Sto) (X : Xc) (hR : RefC m ad σ X) (F : Fi m ad σ0 σ) (h : bx_X12_lose_17  Qx p2 s0 X) : b_X12_lose_17 m  Q p2 s0 m σ := by
  unfold bx_X12_lose_17 at h
  unfold b_X12_lose_17
  refine ⟨hR.1.1, ?_⟩
  have F := F.S (k := 0) (v := s0)
  have hR := hR.S (k := 0) (v := s0)
  refine ⟨hR.1.1, ?_⟩
  intro x1 e2
  rw [hR.2.1 0] at e2
  have h := h x1 e2
  refine ⟨fun c3 => ?_, fun c3 => ?_⟩
  · have h := h.1 c3
    refine x_X12_remove hR h (fun x4 σ5 X6 h hR F7 => ?_)
    have F := F.trans F7
    refine ⟨hR.1.1, ?_⟩
    intro x8 e9
    rw [hR.2.1 8] at e9
    have h := h x8 e9
    intro x10 e11
    have h := h x10 e11
    have F := F.S (k := 8) (v := x10)
    have hR := hR.S (k := 8) (v := x10)
    exact hQ _ _ h hR F
  · have h := h.2 c3
    exact hQ _ _ h hR F
def wx_X12_lose (p1 : Int32) (X : Xc) (Qx : Xc → Prop) : Prop := (wx_X12_find p1 X (fun (x1 : Int32) (X3 : Xc) => ((¬ x1 = (-1 : Int32) → bx_X12_lose_17  Qx x1 (0 : Int32) X3) ∧ (x1 = (-1 : Int32) → bx_X12_lose_17  Qx x1 (1 : Int32) X3))))
set_option maxHeartbeats 4000000 in
set_option maxRecDepth 100000 in
theorem x_X12_lose {m : Nat} {ad : Nat → Nat} {p1 : Int32} {σ : Sto} {X : Xc} {Q : Sto → Prop} {Qx : Xc → Prop} (hR : RefC m ad σ X) (h : wx_X12_lose p1 X Qx) (hQ : ∀ (σ' : Sto) (X' : Xc), Qx X' → RefC m ad σ' X' → Fi m ad σ σ' → Q σ') : wp_X12_lose m p1 σ Q := by
  have F : Fi m ad σ σ := Fi.rf
  unfold wx_X12_lose at h
  unfold wp_X12_lose
  refine ⟨hR.1.1, ?_⟩
  refine x_X12_find hR h (fun x1 σ2 X3 h hR F4 => ?_)
  have F := F.trans F4
  refine ⟨fun c5 => ?_, fun c5 => ?_⟩
  · have h := h.1 c5
    exact xb_X12_lose_17 hQ  x1 (0 : Int32) _ _ hR F h
  · have h := h.2 c5
    exact xb_X12_lose_17 hQ  x1 (1 : Int32) _ _ hR F h
def fx_X12_flow_21 (Qx : Int32 → Xc → Prop) (Lx21 : Int32 × Int32 → Xc → Prop) (t : Int32 × Int32) (X : Xc) : Prop := (∀ x1 : Int32, x1 = X.1 0 → ((¬ x1 = 0 → Qx t.2 X) ∧ (x1 = 0 → ((t.1 ≤ t.2 → Qx t.2 X) ∧ (¬ t.1 ≤ t.2 → (∀ x5 : Int32, x5 = X.1 6 → ((x5 ≤ 0 → Qx t.2 X) ∧ (¬ x5 ≤ 0 → (wx_X12_hand (0 : Int32) X (fun (X10 : Xc) => (∀ x12 : Int32, x12 = t.2 + (1 : Int32) → Lx21 (t.1, x12) X10)))))))))))
set_option maxHeartbeats 4000000 in
set_option maxRecDepth 100000 in
theorem xf_X12_flow_21 {m : Nat} {ad : Nat → Nat} {σ0 : Sto} {Q : Int32 → Sto → Prop} {Qx : Int32 → Xc → Prop} {Lx21 : Int32 × Int32 → Xc → Prop} {L21 : Int32 × Int32 → Sto → Prop} (hQ : ∀ (r : Int32) (σ' : Sto) (X' : Xc), Qx r X' → RefC m ad σ' X' → Fi m ad σ0 σ' → Q r σ') (hL21 : ∀ (t : Int32 × Int32) (σ : Sto) (X : Xc), Lx21 t X → RefC m ad σ X → Fi m ad σ0 σ → L21 t σ) : ∀ (t : Int32 × Int32) (σ : Sto) (X : Xc), RefC m ad σ X → Fi m ad σ0 σ → fx_X12_flow_21  Qx Lx21 t X → f_X12_flow_21 m  Q L21 t σ := by
  intro t σ X hR F h
  unfold fx_X12_flow_21 at h
  unfold f_X12_flow_21
  refine ⟨hR.1.1, ?_⟩
  intro x1 e2
  rw [hR.2.1 0] at e2
  have h := h x1 e2
  refine ⟨fun c3 => ?_, fun c3 => ?_⟩
  · have h := h.1 c3
    exact hQ _ _ _ h hR F
  · have h := h.2 c3
    refine ⟨fun c4 => ?_, fun c4 => ?_⟩
    · have h := h.1 c4
      exact hQ _ _ _ h hR F
    · have h := h.2 c4
      intro x5 e6
      rw [hR.2.1 6] at e6
      have h := h x5 e6
      refine ⟨fun c7 => ?_, fun c7 => ?_⟩
      · have h := h.1 c7
        exact hQ _ _ _ h hR F
      · have h := h.2 c7
        refine x_X12_hand hR h (fun σ9 X10 h hR F11 => ?_)
        have F := F.trans F11
        intro x12 e13
        have h := h x12 e13
        exact hL21 _ _ _ h hR F
def bx_X12_flow_16 (Qx : Int32 → Xc → Prop) (p1 : Int32) (s0 : Int32) (X : Xc) : Prop := LFx (fx_X12_flow_21  Qx) (p1, (0 : Int32)) (xS X 0 s0)
set_option maxHeartbeats 4000000 in
set_option maxRecDepth 100000 in
theorem xb_X12_flow_16 {m : Nat} {ad : Nat → Nat} {σ0 : Sto} {Q : Int32 → Sto → Prop} {Qx : Int32 → Xc → Prop} (hQ : ∀ (r : Int32) (σ' : Sto) (X' : Xc), Qx r X' → RefC m ad σ' X' → Fi m ad σ0 σ' → Q r σ')  (p1 : Int32) (s0 : Int32) (σ : Sto) (X : Xc) (hR : RefC m ad σ X) (F : Fi m ad σ0 σ) (h : bx_X12_flow_16  Qx p1 s0 X) : b_X12_flow_16 m  Q p1 s0 m σ := by
  unfold bx_X12_flow_16 at h
  unfold b_X12_flow_16
  refine ⟨hR.1.1, ?_⟩
  have F := F.S (k := 0) (v := s0)
  have hR := hR.S (k := 0) (v := s0)
  exact lfx h hR F (fun Lx L hL t σ X hR F h => xf_X12_flow_21 hQ  hL t σ X hR F h)
def wx_X12_flow (p1 : Int32) (X : Xc) (Qx : Int32 → Xc → Prop) : Prop := (wx_X12_in p1 (0 : Int32) (40 : Int32) X (fun (x1 : Int32) (X3 : Xc) => ((x1 = 0 → bx_X12_flow_16  Qx p1 (1 : Int32) X3) ∧ (¬ x1 = 0 → bx_X12_flow_16  Qx p1 (0 : Int32) X3))))
set_option maxHeartbeats 4000000 in
set_option maxRecDepth 100000 in
theorem x_X12_flow {m : Nat} {ad : Nat → Nat} {p1 : Int32} {σ : Sto} {X : Xc} {Q : Int32 → Sto → Prop} {Qx : Int32 → Xc → Prop} (hR : RefC m ad σ X) (h : wx_X12_flow p1 X Qx) (hQ : ∀ (r : Int32) (σ' : Sto) (X' : Xc), Qx r X' → RefC m ad σ' X' → Fi m ad σ σ' → Q r σ') : wp_X12_flow m p1 σ Q := by
  have F : Fi m ad σ σ := Fi.rf
  unfold wx_X12_flow at h
  unfold wp_X12_flow
  refine x_X12_in hR h (fun x1 σ2 X3 h hR F4 => ?_)
  have F := F.trans F4
  refine ⟨fun c5 => ?_, fun c5 => ?_⟩
  · have h := h.1 c5
    exact xb_X12_flow_16 hQ  p1 (1 : Int32) _ _ hR F h
  · have h := h.2 c5
    exact xb_X12_flow_16 hQ  p1 (0 : Int32) _ _ hR F h
def bx_X12_downs_27 (Lx4 : Int32 × Int32 → Xc → Prop) (Qx : Int32 → Xc → Prop) (p2 : Int32) (s0 : Int32) (s1 : Int32) (X : Xc) : Prop := (∀ x1 : Int32, x1 = s1 + s0 → (∀ x3 : Int32, x3 = p2 + (1 : Int32) → Lx4 (x1, x3) X))
set_option maxHeartbeats 4000000 in
set_option maxRecDepth 100000 in
theorem xb_X12_downs_27 {m : Nat} {ad : Nat → Nat} {σ0 : Sto} {Lx4 : Int32 × Int32 → Xc → Prop} {L4 : Int32 × Int32 → Sto → Prop} {Q : Int32 → Sto → Prop} {Qx : Int32 → Xc → Prop} (hQ : ∀ (r : Int32) (σ' : Sto) (X' : Xc), Qx r X' → RefC m ad σ' X' → Fi m ad σ0 σ' → Q r σ') (hL4 : ∀ (t : Int32 × Int32) (σ : Sto) (X : Xc), Lx4 t X → RefC m ad σ X → Fi m ad σ0 σ → L4 t σ) (p2 : Int32) (s0 : Int32) (s1 : Int32) (σ : Sto) (X : Xc) (hR : RefC m ad σ X) (F : Fi m ad σ0 σ) (h : bx_X12_downs_27 Lx4 Qx p2 s0 s1 X) : b_X12_downs_27 m L4 Q p2 s0 s1 σ := by
  unfold bx_X12_downs_27 at h
  unfold b_X12_downs_27
  intro x1 e2
  have h := h x1 e2
  intro x3 e4
  have h := h x3 e4
  exact hL4 _ _ _ h hR F
def fx_X12_downs_4 (Qx : Int32 → Xc → Prop) (Lx4 : Int32 × Int32 → Xc → Prop) (t : Int32 × Int32) (X : Xc) : Prop := (∀ x1 : Int32, x1 = X.1 1 → ((x1 ≤ t.2 → Qx t.1 X) ∧ (¬ x1 ≤ t.2 → (vp_in t.2 7 ∧ (∀ x5 : Int32, x5 = X.2 20 t.2.toNatClampNeg → ((x5 = 0 → bx_X12_downs_27 Lx4 Qx t.2 (0 : Int32) t.1 X) ∧ (¬ x5 = 0 → bx_X12_downs_27 Lx4 Qx t.2 (1 : Int32) t.1 X)))))))
set_option maxHeartbeats 4000000 in
set_option maxRecDepth 100000 in
theorem xf_X12_downs_4 {m : Nat} {ad : Nat → Nat} {σ0 : Sto} {Q : Int32 → Sto → Prop} {Qx : Int32 → Xc → Prop} {Lx4 : Int32 × Int32 → Xc → Prop} {L4 : Int32 × Int32 → Sto → Prop} (hQ : ∀ (r : Int32) (σ' : Sto) (X' : Xc), Qx r X' → RefC m ad σ' X' → Fi m ad σ0 σ' → Q r σ') (hL4 : ∀ (t : Int32 × Int32) (σ : Sto) (X : Xc), Lx4 t X → RefC m ad σ X → Fi m ad σ0 σ → L4 t σ) : ∀ (t : Int32 × Int32) (σ : Sto) (X : Xc), RefC m ad σ X → Fi m ad σ0 σ → fx_X12_downs_4  Qx Lx4 t X → f_X12_downs_4 m  Q L4 t σ := by
  intro t σ X hR F h
  unfold fx_X12_downs_4 at h
  unfold f_X12_downs_4
  refine ⟨hR.1.1, ?_⟩
  intro x1 e2
  rw [hR.2.1 1] at e2
  have h := h x1 e2
  refine ⟨fun c3 => ?_, fun c3 => ?_⟩
  · have h := h.1 c3
    exact hQ _ _ _ h hR F
  · have h := h.2 c3
    have a4 : sP σ m 20 = some (ad 20) := hR.P (k := 20) (by decide)
    refine ⟨ad 20, a4, ?_⟩
    refine ⟨hR.K (k := 20) (by decide), ?_⟩
    refine ⟨hR.N (k := 20) (by decide) h.1, ?_⟩
    have h := h.2
    intro x5 e6
    rw [hR.2.2 20 (by decide)] at e6
    have h := h x5 e6
    refine ⟨fun c7 => ?_, fun c7 => ?_⟩
    · have h := h.1 c7
      exact xb_X12_downs_27 hQ hL4 t.2 (0 : Int32) t.1 _ _ hR F h
    · have h := h.2 c7
      exact xb_X12_downs_27 hQ hL4 t.2 (1 : Int32) t.1 _ _ hR F h
def wx_X12_downs  (X : Xc) (Qx : Int32 → Xc → Prop) : Prop := LFx (fx_X12_downs_4  Qx) ((0 : Int32), (0 : Int32)) X
set_option maxHeartbeats 4000000 in
set_option maxRecDepth 100000 in
theorem x_X12_downs {m : Nat} {ad : Nat → Nat} {σ : Sto} {X : Xc} {Q : Int32 → Sto → Prop} {Qx : Int32 → Xc → Prop} (hR : RefC m ad σ X) (h : wx_X12_downs  X Qx) (hQ : ∀ (r : Int32) (σ' : Sto) (X' : Xc), Qx r X' → RefC m ad σ' X' → Fi m ad σ σ' → Q r σ') : wp_X12_downs m  σ Q := by
  have F : Fi m ad σ σ := Fi.rf
  unfold wx_X12_downs at h
  unfold wp_X12_downs
  exact lfx h hR F (fun Lx L hL t σ X hR F h => xf_X12_downs_4 hQ  hL t σ X hR F h)
def bx_X12_down_38 (Qx : Xc → Prop) (p1 : Int32) (s0 : Int32) (X : Xc) : Prop := (∀ x1 : Int32, x1 = (xS X 0 s0).1 0 → ((x1 ≤ 0 → (vp_in p1 7 ∧ (wx_X12_forgetCounts p1 (xA (xS X 0 s0) 20 p1.toNatClampNeg (vp_nar .boolean (1 : Int32))) (fun (X7 : Xc) => Qx X7)))) ∧ (¬ x1 ≤ 0 → Qx (xS X 0 s0))))
set_option maxHeartbeats 4000000 in
set_option maxRecDepth 100000 in
theorem xb_X12_down_38 {m : Nat} {ad : Nat → Nat} {σ0 : Sto} {Q : Sto → Prop} {Qx : Xc → Prop} (hQ : ∀ (σ' : Sto) (X' : Xc), Qx X' → RefC m ad σ' X' → Fi m ad σ0 σ' → Q σ')  (p1 : Int32) (s0 : Int32) (σ : Sto) (X : Xc) (hR : RefC m ad σ X) (F : Fi m ad σ0 σ) (h : bx_X12_down_38  Qx p1 s0 X) : b_X12_down_38 m  Q p1 s0 m σ := by
  unfold bx_X12_down_38 at h
  unfold b_X12_down_38
  refine ⟨hR.1.1, ?_⟩
  have F := F.S (k := 0) (v := s0)
  have hR := hR.S (k := 0) (v := s0)
  refine ⟨hR.1.1, ?_⟩
  intro x1 e2
  rw [hR.2.1 0] at e2
  have h := h x1 e2
  refine ⟨fun c3 => ?_, fun c3 => ?_⟩
  · have h := h.1 c3
    have a4 : sP σ m 20 = some (ad 20) := hR.P (k := 20) (by decide)
    refine ⟨ad 20, a4, ?_⟩
    refine ⟨hR.K (k := 20) (by decide), ?_⟩
    refine ⟨hR.N (k := 20) (by decide) h.1, ?_⟩
    have h := h.2
    have F := F.A (k := 20) (i := p1.toNatClampNeg) (v := (vp_nar .boolean (1 : Int32))) (by decide)
    have hR := hR.A (k := 20) (i := p1.toNatClampNeg) (v := (vp_nar .boolean (1 : Int32))) (by decide)
    refine x_X12_forgetCounts hR h (fun σ6 X7 h hR F8 => ?_)
    have F := F.trans F8
    exact hQ _ _ h hR F
  · have h := h.2 c3
    exact hQ _ _ h hR F
def bx_X12_down_33 (Qx : Xc → Prop) (p1 : Int32) (X : Xc) : Prop := bx_X12_down_38  Qx p1 (2 : Int32) X
set_option maxHeartbeats 4000000 in
set_option maxRecDepth 100000 in
theorem xb_X12_down_33 {m : Nat} {ad : Nat → Nat} {σ0 : Sto} {Q : Sto → Prop} {Qx : Xc → Prop} (hQ : ∀ (σ' : Sto) (X' : Xc), Qx X' → RefC m ad σ' X' → Fi m ad σ0 σ' → Q σ')  (p1 : Int32) (σ : Sto) (X : Xc) (hR : RefC m ad σ X) (F : Fi m ad σ0 σ) (h : bx_X12_down_33  Qx p1 X) : b_X12_down_33 m  Q p1 m σ := by
  unfold bx_X12_down_33 at h
  unfold b_X12_down_33
  exact xb_X12_down_38 hQ  p1 (2 : Int32) _ _ hR F h
def wx_X12_down (p1 : Int32) (X : Xc) (Qx : Xc → Prop) : Prop := (wx_X12_isReplica p1 X (fun (x1 : Int32) (X3 : Xc) => ((¬ x1 = 0 → (vp_in p1 7 ∧ (∀ x7 : Int32, x7 = X3.2 20 p1.toNatClampNeg → ((¬ x7 = 0 → bx_X12_down_33  Qx p1 X3) ∧ (x7 = 0 → (wx_X12_downs  X3 (fun (x10 : Int32) (X12 : Xc) => (∀ x14 : Int32, x14 = X12.1 2 → ((x10 < x14 → bx_X12_down_38  Qx p1 (0 : Int32) X12) ∧ (¬ x10 < x14 → bx_X12_down_33  Qx p1 X12)))))))))) ∧ (x1 = 0 → bx_X12_down_38  Qx p1 (1 : Int32) X3))))
set_option maxHeartbeats 4000000 in
set_option maxRecDepth 100000 in
theorem x_X12_down {m : Nat} {ad : Nat → Nat} {p1 : Int32} {σ : Sto} {X : Xc} {Q : Sto → Prop} {Qx : Xc → Prop} (hR : RefC m ad σ X) (h : wx_X12_down p1 X Qx) (hQ : ∀ (σ' : Sto) (X' : Xc), Qx X' → RefC m ad σ' X' → Fi m ad σ σ' → Q σ') : wp_X12_down m p1 σ Q := by
  have F : Fi m ad σ σ := Fi.rf
  unfold wx_X12_down at h
  unfold wp_X12_down
  refine ⟨hR.1.1, ?_⟩
  refine x_X12_isReplica hR h (fun x1 σ2 X3 h hR F4 => ?_)
  have F := F.trans F4
  refine ⟨fun c5 => ?_, fun c5 => ?_⟩
  · have h := h.1 c5
    refine ⟨hR.1.1, ?_⟩
    have a6 : sP σ2 m 20 = some (ad 20) := hR.P (k := 20) (by decide)
    refine ⟨ad 20, a6, ?_⟩
    refine ⟨hR.K (k := 20) (by decide), ?_⟩
    refine ⟨hR.N (k := 20) (by decide) h.1, ?_⟩
    have h := h.2
    intro x7 e8
    rw [hR.2.2 20 (by decide)] at e8
    have h := h x7 e8
    refine ⟨fun c9 => ?_, fun c9 => ?_⟩
    · have h := h.1 c9
      exact xb_X12_down_33 hQ  p1 _ _ hR F h
    · have h := h.2 c9
      refine x_X12_downs hR h (fun x10 σ11 X12 h hR F13 => ?_)
      have F := F.trans F13
      refine ⟨hR.1.1, ?_⟩
      intro x14 e15
      rw [hR.2.1 2] at e15
      have h := h x14 e15
      refine ⟨fun c16 => ?_, fun c16 => ?_⟩
      · have h := h.1 c16
        exact xb_X12_down_38 hQ  p1 (0 : Int32) _ _ hR F h
      · have h := h.2 c16
        exact xb_X12_down_33 hQ  p1 _ _ hR F h
  · have h := h.2 c5
    exact xb_X12_down_38 hQ  p1 (1 : Int32) _ _ hR F h
def bx_X12_up_27 (Qx : Xc → Prop) (p1 : Int32) (s0 : Int32) (X : Xc) : Prop := (∀ x1 : Int32, x1 = (xS X 0 s0).1 0 → ((x1 ≤ 0 → (vp_in p1 7 ∧ (∀ x6 : Int32, x6 = (xA (xS X 0 s0) 20 p1.toNatClampNeg (vp_nar .boolean (0 : Int32))).1 4 → (vp_in p1 7 ∧ Qx (xA (xA (xS X 0 s0) 20 p1.toNatClampNeg (vp_nar .boolean (0 : Int32))) 57 p1.toNatClampNeg x6))))) ∧ (¬ x1 ≤ 0 → Qx (xS X 0 s0))))
set_option maxHeartbeats 4000000 in
set_option maxRecDepth 100000 in
theorem xb_X12_up_27 {m : Nat} {ad : Nat → Nat} {σ0 : Sto} {Q : Sto → Prop} {Qx : Xc → Prop} (hQ : ∀ (σ' : Sto) (X' : Xc), Qx X' → RefC m ad σ' X' → Fi m ad σ0 σ' → Q σ')  (p1 : Int32) (s0 : Int32) (σ : Sto) (X : Xc) (hR : RefC m ad σ X) (F : Fi m ad σ0 σ) (h : bx_X12_up_27  Qx p1 s0 X) : b_X12_up_27 m  Q p1 s0 m σ := by
  unfold bx_X12_up_27 at h
  unfold b_X12_up_27
  refine ⟨hR.1.1, ?_⟩
  have F := F.S (k := 0) (v := s0)
  have hR := hR.S (k := 0) (v := s0)
  refine ⟨hR.1.1, ?_⟩
  intro x1 e2
  rw [hR.2.1 0] at e2
  have h := h x1 e2
  refine ⟨fun c3 => ?_, fun c3 => ?_⟩
  · have h := h.1 c3
    have a4 : sP σ m 20 = some (ad 20) := hR.P (k := 20) (by decide)
    refine ⟨ad 20, a4, ?_⟩
    refine ⟨hR.K (k := 20) (by decide), ?_⟩
    refine ⟨hR.N (k := 20) (by decide) h.1, ?_⟩
    have h := h.2
    have F := F.A (k := 20) (i := p1.toNatClampNeg) (v := (vp_nar .boolean (0 : Int32))) (by decide)
    have hR := hR.A (k := 20) (i := p1.toNatClampNeg) (v := (vp_nar .boolean (0 : Int32))) (by decide)
    have a5 : sP σ m 57 = some (ad 57) := hR.P (k := 57) (by decide)
    intro x6 e7
    rw [hR.2.1 4] at e7
    have h := h x6 e7
    refine ⟨ad 57, a5, ?_⟩
    refine ⟨hR.K (k := 57) (by decide), ?_⟩
    refine ⟨hR.N (k := 57) (by decide) h.1, ?_⟩
    have h := h.2
    have F := F.A (k := 57) (i := p1.toNatClampNeg) (v := x6) (by decide)
    have hR := hR.A (k := 57) (i := p1.toNatClampNeg) (v := x6) (by decide)
    exact hQ _ _ h hR F
  · have h := h.2 c3
    exact hQ _ _ h hR F
def wx_X12_up (p1 : Int32) (X : Xc) (Qx : Xc → Prop) : Prop := (wx_X12_isReplica p1 X (fun (x1 : Int32) (X3 : Xc) => ((¬ x1 = 0 → (vp_in p1 7 ∧ (∀ x7 : Int32, x7 = X3.2 20 p1.toNatClampNeg → ((¬ x7 = 0 → bx_X12_up_27  Qx p1 (0 : Int32) X3) ∧ (x7 = 0 → bx_X12_up_27  Qx p1 (2 : Int32) X3))))) ∧ (x1 = 0 → bx_X12_up_27  Qx p1 (1 : Int32) X3))))
set_option maxHeartbeats 4000000 in
set_option maxRecDepth 100000 in
theorem x_X12_up {m : Nat} {ad : Nat → Nat} {p1 : Int32} {σ : Sto} {X : Xc} {Q : Sto → Prop} {Qx : Xc → Prop} (hR : RefC m ad σ X) (h : wx_X12_up p1 X Qx) (hQ : ∀ (σ' : Sto) (X' : Xc), Qx X' → RefC m ad σ' X' → Fi m ad σ σ' → Q σ') : wp_X12_up m p1 σ Q := by
  have F : Fi m ad σ σ := Fi.rf
  unfold wx_X12_up at h
  unfold wp_X12_up
  refine ⟨hR.1.1, ?_⟩
  refine x_X12_isReplica hR h (fun x1 σ2 X3 h hR F4 => ?_)
  have F := F.trans F4
  refine ⟨fun c5 => ?_, fun c5 => ?_⟩
  · have h := h.1 c5
    refine ⟨hR.1.1, ?_⟩
    have a6 : sP σ2 m 20 = some (ad 20) := hR.P (k := 20) (by decide)
    refine ⟨ad 20, a6, ?_⟩
    refine ⟨hR.K (k := 20) (by decide), ?_⟩
    refine ⟨hR.N (k := 20) (by decide) h.1, ?_⟩
    have h := h.2
    intro x7 e8
    rw [hR.2.2 20 (by decide)] at e8
    have h := h x7 e8
    refine ⟨fun c9 => ?_, fun c9 => ?_⟩
    · have h := h.1 c9
      exact xb_X12_up_27 hQ  p1 (0 : Int32) _ _ hR F h
    · have h := h.2 c9
      exact xb_X12_up_27 hQ  p1 (2 : Int32) _ _ hR F h
  · have h := h.2 c5
    exact xb_X12_up_27 hQ  p1 (1 : Int32) _ _ hR F h
def bx_X12_suspect_27 (Qx : Xc → Prop) (p1 : Int32) (s0 : Int32) (X : Xc) : Prop := (∀ x1 : Int32, x1 = (xS X 0 s0).1 0 → ((¬ x1 = 0 → Qx (xS X 0 s0)) ∧ (x1 = 0 → (vp_in p1 7 ∧ (∀ x5 : Int32, x5 = (xS X 0 s0).2 21 p1.toNatClampNeg → (vp_in p1 7 ∧ (∀ x8 : Int32, x8 = (xS X 0 s0).2 22 p1.toNatClampNeg → (wx_X12_turnsTo p1 (x5 + (1 : Int32)) x8 (xS X 0 s0) (fun (X12 : Xc) => Qx X12)))))))))
set_option maxHeartbeats 4000000 in
set_option maxRecDepth 100000 in
theorem xb_X12_suspect_27 {m : Nat} {ad : Nat → Nat} {σ0 : Sto} {Q : Sto → Prop} {Qx : Xc → Prop} (hQ : ∀ (σ' : Sto) (X' : Xc), Qx X' → RefC m ad σ' X' → Fi m ad σ0 σ' → Q σ')  (p1 : Int32) (s0 : Int32) (σ : Sto) (X : Xc) (hR : RefC m ad σ X) (F : Fi m ad σ0 σ) (h : bx_X12_suspect_27  Qx p1 s0 X) : b_X12_suspect_27 m  Q p1 s0 m σ := by
  unfold bx_X12_suspect_27 at h
  unfold b_X12_suspect_27
  refine ⟨hR.1.1, ?_⟩
  have F := F.S (k := 0) (v := s0)
  have hR := hR.S (k := 0) (v := s0)
  refine ⟨hR.1.1, ?_⟩
  intro x1 e2
  rw [hR.2.1 0] at e2
  have h := h x1 e2
  refine ⟨fun c3 => ?_, fun c3 => ?_⟩
  · have h := h.1 c3
    exact hQ _ _ h hR F
  · have h := h.2 c3
    have a4 : sP σ m 21 = some (ad 21) := hR.P (k := 21) (by decide)
    refine ⟨ad 21, a4, ?_⟩
    refine ⟨hR.K (k := 21) (by decide), ?_⟩
    refine ⟨hR.N (k := 21) (by decide) h.1, ?_⟩
    have h := h.2
    intro x5 e6
    rw [hR.2.2 21 (by decide)] at e6
    have h := h x5 e6
    have a7 : sP σ m 22 = some (ad 22) := hR.P (k := 22) (by decide)
    refine ⟨ad 22, a7, ?_⟩
    refine ⟨hR.K (k := 22) (by decide), ?_⟩
    refine ⟨hR.N (k := 22) (by decide) h.1, ?_⟩
    have h := h.2
    intro x8 e9
    rw [hR.2.2 22 (by decide)] at e9
    have h := h x8 e9
    refine x_X12_turnsTo hR h (fun σ11 X12 h hR F13 => ?_)
    have F := F.trans F13
    exact hQ _ _ h hR F
def wx_X12_suspect (p1 : Int32) (X : Xc) (Qx : Xc → Prop) : Prop := (wx_X12_isReplica p1 X (fun (x1 : Int32) (X3 : Xc) => ((¬ x1 = 0 → (vp_in p1 7 ∧ (∀ x7 : Int32, x7 = X3.2 20 p1.toNatClampNeg → ((x7 = 0 → bx_X12_suspect_27  Qx p1 (0 : Int32) X3) ∧ (¬ x7 = 0 → bx_X12_suspect_27  Qx p1 (2 : Int32) X3))))) ∧ (x1 = 0 → bx_X12_suspect_27  Qx p1 (1 : Int32) X3))))
set_option maxHeartbeats 4000000 in
set_option maxRecDepth 100000 in
theorem x_X12_suspect {m : Nat} {ad : Nat → Nat} {p1 : Int32} {σ : Sto} {X : Xc} {Q : Sto → Prop} {Qx : Xc → Prop} (hR : RefC m ad σ X) (h : wx_X12_suspect p1 X Qx) (hQ : ∀ (σ' : Sto) (X' : Xc), Qx X' → RefC m ad σ' X' → Fi m ad σ σ' → Q σ') : wp_X12_suspect m p1 σ Q := by
  have F : Fi m ad σ σ := Fi.rf
  unfold wx_X12_suspect at h
  unfold wp_X12_suspect
  refine ⟨hR.1.1, ?_⟩
  refine x_X12_isReplica hR h (fun x1 σ2 X3 h hR F4 => ?_)
  have F := F.trans F4
  refine ⟨fun c5 => ?_, fun c5 => ?_⟩
  · have h := h.1 c5
    refine ⟨hR.1.1, ?_⟩
    have a6 : sP σ2 m 20 = some (ad 20) := hR.P (k := 20) (by decide)
    refine ⟨ad 20, a6, ?_⟩
    refine ⟨hR.K (k := 20) (by decide), ?_⟩
    refine ⟨hR.N (k := 20) (by decide) h.1, ?_⟩
    have h := h.2
    intro x7 e8
    rw [hR.2.2 20 (by decide)] at e8
    have h := h x7 e8
    refine ⟨fun c9 => ?_, fun c9 => ?_⟩
    · have h := h.1 c9
      exact xb_X12_suspect_27 hQ  p1 (0 : Int32) _ _ hR F h
    · have h := h.2 c9
      exact xb_X12_suspect_27 hQ  p1 (2 : Int32) _ _ hR F h
  · have h := h.2 c5
    exact xb_X12_suspect_27 hQ  p1 (1 : Int32) _ _ hR F h
def bx_X12_nudge_27 (Qx : Int32 → Xc → Prop) (p1 : Int32) (s0 : Int32) (X : Xc) : Prop := (∀ x1 : Int32, x1 = (xS X 0 s0).1 0 → ((x1 ≤ 0 → (∀ x4 : Int32, x4 = (xS X 0 s0).1 7 → (wx_X12_asks p1 (xS X 0 s0) (fun (X8 : Xc) => (∀ x10 : Int32, x10 = X8.1 7 → Qx (x10 - x4) X8))))) ∧ (¬ x1 ≤ 0 → Qx (0 : Int32) (xS X 0 s0))))
set_option maxHeartbeats 4000000 in
set_option maxRecDepth 100000 in
theorem xb_X12_nudge_27 {m : Nat} {ad : Nat → Nat} {σ0 : Sto} {Q : Int32 → Sto → Prop} {Qx : Int32 → Xc → Prop} (hQ : ∀ (r : Int32) (σ' : Sto) (X' : Xc), Qx r X' → RefC m ad σ' X' → Fi m ad σ0 σ' → Q r σ')  (p1 : Int32) (s0 : Int32) (σ : Sto) (X : Xc) (hR : RefC m ad σ X) (F : Fi m ad σ0 σ) (h : bx_X12_nudge_27  Qx p1 s0 X) : b_X12_nudge_27 m  Q p1 s0 m σ := by
  unfold bx_X12_nudge_27 at h
  unfold b_X12_nudge_27
  refine ⟨hR.1.1, ?_⟩
  have F := F.S (k := 0) (v := s0)
  have hR := hR.S (k := 0) (v := s0)
  refine ⟨hR.1.1, ?_⟩
  intro x1 e2
  rw [hR.2.1 0] at e2
  have h := h x1 e2
  refine ⟨fun c3 => ?_, fun c3 => ?_⟩
  · have h := h.1 c3
    intro x4 e5
    rw [hR.2.1 7] at e5
    have h := h x4 e5
    refine x_X12_asks hR h (fun σ7 X8 h hR F9 => ?_)
    have F := F.trans F9
    refine ⟨hR.1.1, ?_⟩
    intro x10 e11
    rw [hR.2.1 7] at e11
    have h := h x10 e11
    exact hQ _ _ _ h hR F
  · have h := h.2 c3
    exact hQ _ _ _ h hR F
def wx_X12_nudge (p1 : Int32) (X : Xc) (Qx : Int32 → Xc → Prop) : Prop := (wx_X12_isReplica p1 X (fun (x1 : Int32) (X3 : Xc) => ((¬ x1 = 0 → (vp_in p1 7 ∧ (∀ x7 : Int32, x7 = X3.2 20 p1.toNatClampNeg → ((x7 = 0 → bx_X12_nudge_27  Qx p1 (0 : Int32) X3) ∧ (¬ x7 = 0 → bx_X12_nudge_27  Qx p1 (2 : Int32) X3))))) ∧ (x1 = 0 → bx_X12_nudge_27  Qx p1 (1 : Int32) X3))))
set_option maxHeartbeats 4000000 in
set_option maxRecDepth 100000 in
theorem x_X12_nudge {m : Nat} {ad : Nat → Nat} {p1 : Int32} {σ : Sto} {X : Xc} {Q : Int32 → Sto → Prop} {Qx : Int32 → Xc → Prop} (hR : RefC m ad σ X) (h : wx_X12_nudge p1 X Qx) (hQ : ∀ (r : Int32) (σ' : Sto) (X' : Xc), Qx r X' → RefC m ad σ' X' → Fi m ad σ σ' → Q r σ') : wp_X12_nudge m p1 σ Q := by
  have F : Fi m ad σ σ := Fi.rf
  unfold wx_X12_nudge at h
  unfold wp_X12_nudge
  refine ⟨hR.1.1, ?_⟩
  refine x_X12_isReplica hR h (fun x1 σ2 X3 h hR F4 => ?_)
  have F := F.trans F4
  refine ⟨fun c5 => ?_, fun c5 => ?_⟩
  · have h := h.1 c5
    refine ⟨hR.1.1, ?_⟩
    have a6 : sP σ2 m 20 = some (ad 20) := hR.P (k := 20) (by decide)
    refine ⟨ad 20, a6, ?_⟩
    refine ⟨hR.K (k := 20) (by decide), ?_⟩
    refine ⟨hR.N (k := 20) (by decide) h.1, ?_⟩
    have h := h.2
    intro x7 e8
    rw [hR.2.2 20 (by decide)] at e8
    have h := h x7 e8
    refine ⟨fun c9 => ?_, fun c9 => ?_⟩
    · have h := h.1 c9
      exact xb_X12_nudge_27 hQ  p1 (0 : Int32) _ _ hR F h
    · have h := h.2 c9
      exact xb_X12_nudge_27 hQ  p1 (2 : Int32) _ _ hR F h
  · have h := h.2 c5
    exact xb_X12_nudge_27 hQ  p1 (1 : Int32) _ _ hR F h
def bx_X12_sync_44 (Qx : Xc → Prop) (p1 : Int32) (s0 : Int32) (X : Xc) : Prop := (∀ x1 : Int32, x1 = (xS X 0 s0).1 0 → ((¬ x1 = 0 → Qx (xS X 0 s0)) ∧ (x1 = 0 → (wx_X12_syncs p1 (xS X 0 s0) (fun (X6 : Xc) => Qx X6)))))
set_option maxHeartbeats 4000000 in
set_option maxRecDepth 100000 in
theorem xb_X12_sync_44 {m : Nat} {ad : Nat → Nat} {σ0 : Sto} {Q : Sto → Prop} {Qx : Xc → Prop} (hQ : ∀ (σ' : Sto) (X' : Xc), Qx X' → RefC m ad σ' X' → Fi m ad σ0 σ' → Q σ')  (p1 : Int32) (s0 : Int32) (σ : Sto) (X : Xc) (hR : RefC m ad σ X) (F : Fi m ad σ0 σ) (h : bx_X12_sync_44  Qx p1 s0 X) : b_X12_sync_44 m  Q p1 s0 m σ := by
  unfold bx_X12_sync_44 at h
  unfold b_X12_sync_44
  refine ⟨hR.1.1, ?_⟩
  have F := F.S (k := 0) (v := s0)
  have hR := hR.S (k := 0) (v := s0)
  refine ⟨hR.1.1, ?_⟩
  intro x1 e2
  rw [hR.2.1 0] at e2
  have h := h x1 e2
  refine ⟨fun c3 => ?_, fun c3 => ?_⟩
  · have h := h.1 c3
    exact hQ _ _ h hR F
  · have h := h.2 c3
    refine x_X12_syncs hR h (fun σ5 X6 h hR F7 => ?_)
    have F := F.trans F7
    exact hQ _ _ h hR F
def bx_X12_sync_39 (Qx : Xc → Prop) (p1 : Int32) (X : Xc) : Prop := bx_X12_sync_44  Qx p1 (2 : Int32) X
set_option maxHeartbeats 4000000 in
set_option maxRecDepth 100000 in
theorem xb_X12_sync_39 {m : Nat} {ad : Nat → Nat} {σ0 : Sto} {Q : Sto → Prop} {Qx : Xc → Prop} (hQ : ∀ (σ' : Sto) (X' : Xc), Qx X' → RefC m ad σ' X' → Fi m ad σ0 σ' → Q σ')  (p1 : Int32) (σ : Sto) (X : Xc) (hR : RefC m ad σ X) (F : Fi m ad σ0 σ) (h : bx_X12_sync_39  Qx p1 X) : b_X12_sync_39 m  Q p1 m σ := by
  unfold bx_X12_sync_39 at h
  unfold b_X12_sync_39
  exact xb_X12_sync_44 hQ  p1 (2 : Int32) _ _ hR F h
def wx_X12_sync (p1 : Int32) (X : Xc) (Qx : Xc → Prop) : Prop := (wx_X12_isReplica p1 X (fun (x1 : Int32) (X3 : Xc) => ((¬ x1 = 0 → (vp_in p1 7 ∧ (∀ x7 : Int32, x7 = X3.2 20 p1.toNatClampNeg → ((¬ x7 = 0 → bx_X12_sync_39  Qx p1 X3) ∧ (x7 = 0 → (wx_X12_leads p1 X3 (fun (x10 : Int32) (X12 : Xc) => ((x10 = 0 → bx_X12_sync_39  Qx p1 X12) ∧ (¬ x10 = 0 → (vp_in p1 7 ∧ (∀ x16 : Int32, x16 = X12.2 23 p1.toNatClampNeg → ((x16 = 0 → bx_X12_sync_44  Qx p1 (0 : Int32) X12) ∧ (¬ x16 = 0 → bx_X12_sync_39  Qx p1 X12))))))))))))) ∧ (x1 = 0 → bx_X12_sync_44  Qx p1 (1 : Int32) X3))))
set_option maxHeartbeats 4000000 in
set_option maxRecDepth 100000 in
theorem x_X12_sync {m : Nat} {ad : Nat → Nat} {p1 : Int32} {σ : Sto} {X : Xc} {Q : Sto → Prop} {Qx : Xc → Prop} (hR : RefC m ad σ X) (h : wx_X12_sync p1 X Qx) (hQ : ∀ (σ' : Sto) (X' : Xc), Qx X' → RefC m ad σ' X' → Fi m ad σ σ' → Q σ') : wp_X12_sync m p1 σ Q := by
  have F : Fi m ad σ σ := Fi.rf
  unfold wx_X12_sync at h
  unfold wp_X12_sync
  refine ⟨hR.1.1, ?_⟩
  refine x_X12_isReplica hR h (fun x1 σ2 X3 h hR F4 => ?_)
  have F := F.trans F4
  refine ⟨fun c5 => ?_, fun c5 => ?_⟩
  · have h := h.1 c5
    refine ⟨hR.1.1, ?_⟩
    have a6 : sP σ2 m 20 = some (ad 20) := hR.P (k := 20) (by decide)
    refine ⟨ad 20, a6, ?_⟩
    refine ⟨hR.K (k := 20) (by decide), ?_⟩
    refine ⟨hR.N (k := 20) (by decide) h.1, ?_⟩
    have h := h.2
    intro x7 e8
    rw [hR.2.2 20 (by decide)] at e8
    have h := h x7 e8
    refine ⟨fun c9 => ?_, fun c9 => ?_⟩
    · have h := h.1 c9
      exact xb_X12_sync_39 hQ  p1 _ _ hR F h
    · have h := h.2 c9
      refine x_X12_leads hR h (fun x10 σ11 X12 h hR F13 => ?_)
      have F := F.trans F13
      refine ⟨fun c14 => ?_, fun c14 => ?_⟩
      · have h := h.1 c14
        exact xb_X12_sync_39 hQ  p1 _ _ hR F h
      · have h := h.2 c14
        refine ⟨hR.1.1, ?_⟩
        have a15 : sP σ11 m 23 = some (ad 23) := hR.P (k := 23) (by decide)
        refine ⟨ad 23, a15, ?_⟩
        refine ⟨hR.K (k := 23) (by decide), ?_⟩
        refine ⟨hR.N (k := 23) (by decide) h.1, ?_⟩
        have h := h.2
        intro x16 e17
        rw [hR.2.2 23 (by decide)] at e17
        have h := h x16 e17
        refine ⟨fun c18 => ?_, fun c18 => ?_⟩
        · have h := h.1 c18
          exact xb_X12_sync_44 hQ  p1 (0 : Int32) _ _ hR F h
        · have h := h.2 c18
          exact xb_X12_sync_39 hQ  p1 _ _ hR F h
  · have h := h.2 c5
    exact xb_X12_sync_44 hQ  p1 (1 : Int32) _ _ hR F h
def fx_X12_tick_26 (Qx : Int32 → Xc → Prop) (Lx26 : Int32 × Int32 × Int32 → Xc → Prop) (t : Int32 × Int32 × Int32) (X : Xc) : Prop := ((t.1 ≤ t.2.2 → (∀ x2 : Int32, x2 = X.1 7 → Qx (x2 - t.2.1) X)) ∧ (¬ t.1 ≤ t.2.2 → (∀ x4 : Int32, x4 = X.1 0 → ((¬ x4 = 0 → (∀ x7 : Int32, x7 = X.1 7 → Qx (x7 - t.2.1) X)) ∧ (x4 = 0 → (wx_X12_goOn  X (fun (X11 : Xc) => (∀ x13 : Int32, x13 = t.2.2 + (1 : Int32) → Lx26 (t.1, t.2.1, x13) X11))))))))
set_option maxHeartbeats 4000000 in
set_option maxRecDepth 100000 in
theorem xf_X12_tick_26 {m : Nat} {ad : Nat → Nat} {σ0 : Sto} {Q : Int32 → Sto → Prop} {Qx : Int32 → Xc → Prop} {Lx26 : Int32 × Int32 × Int32 → Xc → Prop} {L26 : Int32 × Int32 × Int32 → Sto → Prop} (hQ : ∀ (r : Int32) (σ' : Sto) (X' : Xc), Qx r X' → RefC m ad σ' X' → Fi m ad σ0 σ' → Q r σ') (hL26 : ∀ (t : Int32 × Int32 × Int32) (σ : Sto) (X : Xc), Lx26 t X → RefC m ad σ X → Fi m ad σ0 σ → L26 t σ) : ∀ (t : Int32 × Int32 × Int32) (σ : Sto) (X : Xc), RefC m ad σ X → Fi m ad σ0 σ → fx_X12_tick_26  Qx Lx26 t X → f_X12_tick_26 m  Q L26 t σ := by
  intro t σ X hR F h
  unfold fx_X12_tick_26 at h
  unfold f_X12_tick_26
  refine ⟨fun c1 => ?_, fun c1 => ?_⟩
  · have h := h.1 c1
    refine ⟨hR.1.1, ?_⟩
    intro x2 e3
    rw [hR.2.1 7] at e3
    have h := h x2 e3
    exact hQ _ _ _ h hR F
  · have h := h.2 c1
    refine ⟨hR.1.1, ?_⟩
    intro x4 e5
    rw [hR.2.1 0] at e5
    have h := h x4 e5
    refine ⟨fun c6 => ?_, fun c6 => ?_⟩
    · have h := h.1 c6
      intro x7 e8
      rw [hR.2.1 7] at e8
      have h := h x7 e8
      exact hQ _ _ _ h hR F
    · have h := h.2 c6
      refine x_X12_goOn hR h (fun σ10 X11 h hR F12 => ?_)
      have F := F.trans F12
      intro x13 e14
      have h := h x13 e14
      exact hL26 _ _ _ h hR F
def bx_X12_tick_16 (Qx : Int32 → Xc → Prop) (p1 : Int32) (s0 : Int32) (X : Xc) : Prop := (∀ x1 : Int32, x1 = (xS X 0 s0).1 7 → LFx (fx_X12_tick_26  Qx) (p1, x1, (0 : Int32)) (xS X 0 s0))
set_option maxHeartbeats 4000000 in
set_option maxRecDepth 100000 in
theorem xb_X12_tick_16 {m : Nat} {ad : Nat → Nat} {σ0 : Sto} {Q : Int32 → Sto → Prop} {Qx : Int32 → Xc → Prop} (hQ : ∀ (r : Int32) (σ' : Sto) (X' : Xc), Qx r X' → RefC m ad σ' X' → Fi m ad σ0 σ' → Q r σ')  (p1 : Int32) (s0 : Int32) (σ : Sto) (X : Xc) (hR : RefC m ad σ X) (F : Fi m ad σ0 σ) (h : bx_X12_tick_16  Qx p1 s0 X) : b_X12_tick_16 m  Q p1 s0 m σ := by
  unfold bx_X12_tick_16 at h
  unfold b_X12_tick_16
  refine ⟨hR.1.1, ?_⟩
  have F := F.S (k := 0) (v := s0)
  have hR := hR.S (k := 0) (v := s0)
  refine ⟨hR.1.1, ?_⟩
  intro x1 e2
  rw [hR.2.1 7] at e2
  have h := h x1 e2
  exact lfx h hR F (fun Lx L hL t σ X hR F h => xf_X12_tick_26 hQ  hL t σ X hR F h)
def wx_X12_tick (p1 : Int32) (X : Xc) (Qx : Int32 → Xc → Prop) : Prop := (wx_X12_in p1 (0 : Int32) (40 : Int32) X (fun (x1 : Int32) (X3 : Xc) => ((x1 = 0 → bx_X12_tick_16  Qx p1 (1 : Int32) X3) ∧ (¬ x1 = 0 → bx_X12_tick_16  Qx p1 (0 : Int32) X3))))
set_option maxHeartbeats 4000000 in
set_option maxRecDepth 100000 in
theorem x_X12_tick {m : Nat} {ad : Nat → Nat} {p1 : Int32} {σ : Sto} {X : Xc} {Q : Int32 → Sto → Prop} {Qx : Int32 → Xc → Prop} (hR : RefC m ad σ X) (h : wx_X12_tick p1 X Qx) (hQ : ∀ (r : Int32) (σ' : Sto) (X' : Xc), Qx r X' → RefC m ad σ' X' → Fi m ad σ σ' → Q r σ') : wp_X12_tick m p1 σ Q := by
  have F : Fi m ad σ σ := Fi.rf
  unfold wx_X12_tick at h
  unfold wp_X12_tick
  refine x_X12_in hR h (fun x1 σ2 X3 h hR F4 => ?_)
  have F := F.trans F4
  refine ⟨fun c5 => ?_, fun c5 => ?_⟩
  · have h := h.1 c5
    exact xb_X12_tick_16 hQ  p1 (1 : Int32) _ _ hR F h
  · have h := h.2 c5
    exact xb_X12_tick_16 hQ  p1 (0 : Int32) _ _ hR F h
def fx_X12_calm_51 (Lx26 : Int32 × Int32 × Int32 → Xc → Prop) (Qx : Int32 → Xc → Prop) (Lx51 : Int32 × Int32 × Int32 × Int32 × Int32 → Xc → Prop) (t : Int32 × Int32 × Int32 × Int32 × Int32) (X : Xc) : Prop := ((t.2.2.2.1 ≤ t.2.2.2.2 → (∀ x2 : Int32, x2 = t.2.2.1 + (1 : Int32) → Lx26 (t.1, t.2.1, x2) X)) ∧ (¬ t.2.2.2.1 ≤ t.2.2.2.2 → (wx_X12_hand (0 : Int32) X (fun (X6 : Xc) => (∀ x8 : Int32, x8 = t.2.2.2.2 + (1 : Int32) → Lx51 (t.1, t.2.1, t.2.2.1, t.2.2.2.1, x8) X6)))))
set_option maxHeartbeats 4000000 in
set_option maxRecDepth 100000 in
theorem xf_X12_calm_51 {m : Nat} {ad : Nat → Nat} {σ0 : Sto} {Lx26 : Int32 × Int32 × Int32 → Xc → Prop} {L26 : Int32 × Int32 × Int32 → Sto → Prop} {Q : Int32 → Sto → Prop} {Qx : Int32 → Xc → Prop} {Lx51 : Int32 × Int32 × Int32 × Int32 × Int32 → Xc → Prop} {L51 : Int32 × Int32 × Int32 × Int32 × Int32 → Sto → Prop} (hQ : ∀ (r : Int32) (σ' : Sto) (X' : Xc), Qx r X' → RefC m ad σ' X' → Fi m ad σ0 σ' → Q r σ') (hL26 : ∀ (t : Int32 × Int32 × Int32) (σ : Sto) (X : Xc), Lx26 t X → RefC m ad σ X → Fi m ad σ0 σ → L26 t σ) (hL51 : ∀ (t : Int32 × Int32 × Int32 × Int32 × Int32) (σ : Sto) (X : Xc), Lx51 t X → RefC m ad σ X → Fi m ad σ0 σ → L51 t σ) : ∀ (t : Int32 × Int32 × Int32 × Int32 × Int32) (σ : Sto) (X : Xc), RefC m ad σ X → Fi m ad σ0 σ → fx_X12_calm_51 Lx26 Qx Lx51 t X → f_X12_calm_51 m L26 Q L51 t σ := by
  intro t σ X hR F h
  unfold fx_X12_calm_51 at h
  unfold f_X12_calm_51
  refine ⟨fun c1 => ?_, fun c1 => ?_⟩
  · have h := h.1 c1
    intro x2 e3
    have h := h x2 e3
    exact hL26 _ _ _ h hR F
  · have h := h.2 c1
    refine ⟨hR.1.1, ?_⟩
    refine x_X12_hand hR h (fun σ5 X6 h hR F7 => ?_)
    have F := F.trans F7
    intro x8 e9
    have h := h x8 e9
    exact hL51 _ _ _ h hR F
def fx_X12_calm_26 (Qx : Int32 → Xc → Prop) (Lx26 : Int32 × Int32 × Int32 → Xc → Prop) (t : Int32 × Int32 × Int32) (X : Xc) : Prop := ((t.1 ≤ t.2.2 → (∀ x2 : Int32, x2 = X.1 81 → Qx (x2 - t.2.1) X)) ∧ (¬ t.1 ≤ t.2.2 → (∀ x4 : Int32, x4 = X.1 0 → ((¬ x4 = 0 → (∀ x7 : Int32, x7 = X.1 81 → Qx (x7 - t.2.1) X)) ∧ (x4 = 0 → (wx_X12_goOn  X (fun (X11 : Xc) => (∀ x13 : Int32, x13 = X11.1 6 → LFx (fx_X12_calm_51 Lx26 Qx) (t.1, t.2.1, t.2.2, x13, (0 : Int32)) X11))))))))
set_option maxHeartbeats 4000000 in
set_option maxRecDepth 100000 in
theorem xf_X12_calm_26 {m : Nat} {ad : Nat → Nat} {σ0 : Sto} {Q : Int32 → Sto → Prop} {Qx : Int32 → Xc → Prop} {Lx26 : Int32 × Int32 × Int32 → Xc → Prop} {L26 : Int32 × Int32 × Int32 → Sto → Prop} (hQ : ∀ (r : Int32) (σ' : Sto) (X' : Xc), Qx r X' → RefC m ad σ' X' → Fi m ad σ0 σ' → Q r σ') (hL26 : ∀ (t : Int32 × Int32 × Int32) (σ : Sto) (X : Xc), Lx26 t X → RefC m ad σ X → Fi m ad σ0 σ → L26 t σ) : ∀ (t : Int32 × Int32 × Int32) (σ : Sto) (X : Xc), RefC m ad σ X → Fi m ad σ0 σ → fx_X12_calm_26  Qx Lx26 t X → f_X12_calm_26 m  Q L26 t σ := by
  intro t σ X hR F h
  unfold fx_X12_calm_26 at h
  unfold f_X12_calm_26
  refine ⟨fun c1 => ?_, fun c1 => ?_⟩
  · have h := h.1 c1
    refine ⟨hR.1.1, ?_⟩
    intro x2 e3
    rw [hR.2.1 81] at e3
    have h := h x2 e3
    exact hQ _ _ _ h hR F
  · have h := h.2 c1
    refine ⟨hR.1.1, ?_⟩
    intro x4 e5
    rw [hR.2.1 0] at e5
    have h := h x4 e5
    refine ⟨fun c6 => ?_, fun c6 => ?_⟩
    · have h := h.1 c6
      intro x7 e8
      rw [hR.2.1 81] at e8
      have h := h x7 e8
      exact hQ _ _ _ h hR F
    · have h := h.2 c6
      refine x_X12_goOn hR h (fun σ10 X11 h hR F12 => ?_)
      have F := F.trans F12
      refine ⟨hR.1.1, ?_⟩
      intro x13 e14
      rw [hR.2.1 6] at e14
      have h := h x13 e14
      exact lfx h hR F (fun Lx L hL t σ X hR F h => xf_X12_calm_51 hQ hL26 hL t σ X hR F h)
def bx_X12_calm_16 (Qx : Int32 → Xc → Prop) (p1 : Int32) (s0 : Int32) (X : Xc) : Prop := (∀ x1 : Int32, x1 = (xS X 0 s0).1 81 → LFx (fx_X12_calm_26  Qx) (p1, x1, (0 : Int32)) (xS X 0 s0))
set_option maxHeartbeats 4000000 in
set_option maxRecDepth 100000 in
theorem xb_X12_calm_16 {m : Nat} {ad : Nat → Nat} {σ0 : Sto} {Q : Int32 → Sto → Prop} {Qx : Int32 → Xc → Prop} (hQ : ∀ (r : Int32) (σ' : Sto) (X' : Xc), Qx r X' → RefC m ad σ' X' → Fi m ad σ0 σ' → Q r σ')  (p1 : Int32) (s0 : Int32) (σ : Sto) (X : Xc) (hR : RefC m ad σ X) (F : Fi m ad σ0 σ) (h : bx_X12_calm_16  Qx p1 s0 X) : b_X12_calm_16 m  Q p1 s0 m σ := by
  unfold bx_X12_calm_16 at h
  unfold b_X12_calm_16
  refine ⟨hR.1.1, ?_⟩
  have F := F.S (k := 0) (v := s0)
  have hR := hR.S (k := 0) (v := s0)
  refine ⟨hR.1.1, ?_⟩
  intro x1 e2
  rw [hR.2.1 81] at e2
  have h := h x1 e2
  exact lfx h hR F (fun Lx L hL t σ X hR F h => xf_X12_calm_26 hQ  hL t σ X hR F h)
def wx_X12_calm (p1 : Int32) (X : Xc) (Qx : Int32 → Xc → Prop) : Prop := (wx_X12_in p1 (0 : Int32) (20 : Int32) X (fun (x1 : Int32) (X3 : Xc) => ((x1 = 0 → bx_X12_calm_16  Qx p1 (1 : Int32) X3) ∧ (¬ x1 = 0 → bx_X12_calm_16  Qx p1 (0 : Int32) X3))))
set_option maxHeartbeats 4000000 in
set_option maxRecDepth 100000 in
theorem x_X12_calm {m : Nat} {ad : Nat → Nat} {p1 : Int32} {σ : Sto} {X : Xc} {Q : Int32 → Sto → Prop} {Qx : Int32 → Xc → Prop} (hR : RefC m ad σ X) (h : wx_X12_calm p1 X Qx) (hQ : ∀ (r : Int32) (σ' : Sto) (X' : Xc), Qx r X' → RefC m ad σ' X' → Fi m ad σ σ' → Q r σ') : wp_X12_calm m p1 σ Q := by
  have F : Fi m ad σ σ := Fi.rf
  unfold wx_X12_calm at h
  unfold wp_X12_calm
  refine x_X12_in hR h (fun x1 σ2 X3 h hR F4 => ?_)
  have F := F.trans F4
  refine ⟨fun c5 => ?_, fun c5 => ?_⟩
  · have h := h.1 c5
    exact xb_X12_calm_16 hQ  p1 (1 : Int32) _ _ hR F h
  · have h := h.2 c5
    exact xb_X12_calm_16 hQ  p1 (0 : Int32) _ _ hR F h
def bx_X12_fail_22 (Qx : Int32 → Xc → Prop) (p1 : Int32) (X : Xc) : Prop := ((p1 = 0 ∨ p1 = 1) ∧ Qx p1 (xS X 16 (0 : Int32)))
set_option maxHeartbeats 4000000 in
set_option maxRecDepth 100000 in
theorem xb_X12_fail_22 {m : Nat} {ad : Nat → Nat} {σ0 : Sto} {Q : Int32 → Sto → Prop} {Qx : Int32 → Xc → Prop} (hQ : ∀ (r : Int32) (σ' : Sto) (X' : Xc), Qx r X' → RefC m ad σ' X' → Fi m ad σ0 σ' → Q r σ')  (p1 : Int32) (σ : Sto) (X : Xc) (hR : RefC m ad σ X) (F : Fi m ad σ0 σ) (h : bx_X12_fail_22  Qx p1 X) : b_X12_fail_22 m  Q p1 σ := by
  unfold bx_X12_fail_22 at h
  unfold b_X12_fail_22
  refine ⟨hR.1.1, ?_⟩
  have F := F.S (k := 16) (v := (0 : Int32))
  have hR := hR.S (k := 16) (v := (0 : Int32))
  exact ⟨h.1, hQ _ _ _ h.2 hR F⟩
def wx_X12_fail  (X : Xc) (Qx : Int32 → Xc → Prop) : Prop := (∀ x1 : Int32, x1 = (xS X 0 (0 : Int32)).1 16 → ((x1 = 0 → bx_X12_fail_22  Qx x1 (xS X 0 (0 : Int32))) ∧ (¬ x1 = 0 → (∀ x4 : Int32, x4 = (xS X 0 (0 : Int32)).1 4 → bx_X12_fail_22  Qx x1 (xS (xS X 0 (0 : Int32)) 19 x4)))))
set_option maxHeartbeats 4000000 in
set_option maxRecDepth 100000 in
theorem x_X12_fail {m : Nat} {ad : Nat → Nat} {σ : Sto} {X : Xc} {Q : Int32 → Sto → Prop} {Qx : Int32 → Xc → Prop} (hR : RefC m ad σ X) (h : wx_X12_fail  X Qx) (hQ : ∀ (r : Int32) (σ' : Sto) (X' : Xc), Qx r X' → RefC m ad σ' X' → Fi m ad σ σ' → Q r σ') : wp_X12_fail m  σ Q := by
  have F : Fi m ad σ σ := Fi.rf
  unfold wx_X12_fail at h
  unfold wp_X12_fail
  refine ⟨hR.1.1, ?_⟩
  have F := F.S (k := 0) (v := (0 : Int32))
  have hR := hR.S (k := 0) (v := (0 : Int32))
  intro x1 e2
  rw [hR.2.1 16] at e2
  have h := h x1 e2
  refine ⟨fun c3 => ?_, fun c3 => ?_⟩
  · have h := h.1 c3
    exact xb_X12_fail_22 hQ  x1 _ _ hR F h
  · have h := h.2 c3
    intro x4 e5
    rw [hR.2.1 4] at e5
    have h := h x4 e5
    have F := F.S (k := 19) (v := x4)
    have hR := hR.S (k := 19) (v := x4)
    exact xb_X12_fail_22 hQ  x1 _ _ hR F h
def wx_X12_install  (X : Xc) (Qx : Int32 → Xc → Prop) : Prop := (wx_X12_establish  (xS X 0 (0 : Int32)) (fun (x1 : Int32) (X3 : Xc) => Qx x1 X3))
set_option maxHeartbeats 4000000 in
set_option maxRecDepth 100000 in
theorem x_X12_install {m : Nat} {ad : Nat → Nat} {σ : Sto} {X : Xc} {Q : Int32 → Sto → Prop} {Qx : Int32 → Xc → Prop} (hR : RefC m ad σ X) (h : wx_X12_install  X Qx) (hQ : ∀ (r : Int32) (σ' : Sto) (X' : Xc), Qx r X' → RefC m ad σ' X' → Fi m ad σ σ' → Q r σ') : wp_X12_install m  σ Q := by
  have F : Fi m ad σ σ := Fi.rf
  unfold wx_X12_install at h
  unfold wp_X12_install
  refine ⟨hR.1.1, ?_⟩
  have F := F.S (k := 0) (v := (0 : Int32))
  have hR := hR.S (k := 0) (v := (0 : Int32))
  refine x_X12_establish hR h (fun x1 σ2 X3 h hR F4 => ?_)
  have F := F.trans F4
  exact hQ _ _ _ h hR F
def wx_X12_replica (p1 : Int32) (p2 : Int32) (X : Xc) (Qx : Int32 → Xc → Prop) : Prop := (wx_X12_isReplica p1 (xS X 0 (0 : Int32)) (fun (x1 : Int32) (X3 : Xc) => ((¬ x1 = 0 → ((p2.toInt < 0 ∨ 10 < p2.toInt → Qx (-1 : Int32) X3) ∧ (p2 = (0 : Int32) → (vp_in p1 7 ∧ (∀ x8 : Int32, x8 = X3.2 20 p1.toNatClampNeg → ((x8 = 0 → Qx (0 : Int32) X3) ∧ (¬ x8 = 0 → Qx (1 : Int32) X3))))) ∧ (p2 = (1 : Int32) → (vp_in p1 7 ∧ (∀ x12 : Int32, x12 = X3.2 23 p1.toNatClampNeg → Qx x12 X3))) ∧ (p2 = (2 : Int32) → (vp_in p1 7 ∧ (∀ x15 : Int32, x15 = X3.2 21 p1.toNatClampNeg → Qx x15 X3))) ∧ (p2 = (3 : Int32) → (vp_in p1 7 ∧ (∀ x18 : Int32, x18 = X3.2 22 p1.toNatClampNeg → Qx x18 X3))) ∧ (p2 = (4 : Int32) → (vp_in p1 7 ∧ (∀ x21 : Int32, x21 = X3.2 27 p1.toNatClampNeg → Qx x21 X3))) ∧ (p2 = (5 : Int32) → (vp_in p1 7 ∧ (∀ x24 : Int32, x24 = X3.2 26 p1.toNatClampNeg → Qx x24 X3))) ∧ (p2 = (6 : Int32) → (vp_in p1 7 ∧ (∀ x27 : Int32, x27 = X3.2 28 p1.toNatClampNeg → Qx x27 X3))) ∧ (p2 = (7 : Int32) → (vp_in p1 7 ∧ (∀ x30 : Int32, x30 = X3.2 36 p1.toNatClampNeg → Qx x30 X3))) ∧ (p2 = (8 : Int32) → (vp_in p1 7 ∧ (∀ x33 : Int32, x33 = X3.2 24 p1.toNatClampNeg → Qx x33 X3))) ∧ (p2 = (9 : Int32) → (vp_in p1 7 ∧ (∀ x36 : Int32, x36 = X3.2 25 p1.toNatClampNeg → Qx x36 X3))) ∧ (p2 = (10 : Int32) → (vp_in p1 7 ∧ (∀ x39 : Int32, x39 = X3.2 29 p1.toNatClampNeg → Qx x39 X3))))) ∧ (x1 = 0 → Qx (-1 : Int32) X3))))
set_option maxHeartbeats 4000000 in
set_option maxRecDepth 100000 in
theorem x_X12_replica {m : Nat} {ad : Nat → Nat} {p1 : Int32} {p2 : Int32} {σ : Sto} {X : Xc} {Q : Int32 → Sto → Prop} {Qx : Int32 → Xc → Prop} (hR : RefC m ad σ X) (h : wx_X12_replica p1 p2 X Qx) (hQ : ∀ (r : Int32) (σ' : Sto) (X' : Xc), Qx r X' → RefC m ad σ' X' → Fi m ad σ σ' → Q r σ') : wp_X12_replica m p1 p2 σ Q := by
  have F : Fi m ad σ σ := Fi.rf
  unfold wx_X12_replica at h
  unfold wp_X12_replica
  refine ⟨hR.1.1, ?_⟩
  have F := F.S (k := 0) (v := (0 : Int32))
  have hR := hR.S (k := 0) (v := (0 : Int32))
  refine x_X12_isReplica hR h (fun x1 σ2 X3 h hR F4 => ?_)
  have F := F.trans F4
  refine ⟨fun c5 => ?_, fun c5 => ?_⟩
  · have h := h.1 c5
    refine ⟨fun c6 => ?_, fun c6 => ?_, fun c6 => ?_, fun c6 => ?_, fun c6 => ?_, fun c6 => ?_, fun c6 => ?_, fun c6 => ?_, fun c6 => ?_, fun c6 => ?_, fun c6 => ?_, fun c6 => ?_⟩
    · have h := h.1 c6
      exact hQ _ _ _ h hR F
    · have h := h.2.1 c6
      refine ⟨hR.1.1, ?_⟩
      have a7 : sP σ2 m 20 = some (ad 20) := hR.P (k := 20) (by decide)
      refine ⟨ad 20, a7, ?_⟩
      refine ⟨hR.K (k := 20) (by decide), ?_⟩
      refine ⟨hR.N (k := 20) (by decide) h.1, ?_⟩
      have h := h.2
      intro x8 e9
      rw [hR.2.2 20 (by decide)] at e9
      have h := h x8 e9
      refine ⟨fun c10 => ?_, fun c10 => ?_⟩
      · have h := h.1 c10
        exact hQ _ _ _ h hR F
      · have h := h.2 c10
        exact hQ _ _ _ h hR F
    · have h := h.2.2.1 c6
      refine ⟨hR.1.1, ?_⟩
      have a11 : sP σ2 m 23 = some (ad 23) := hR.P (k := 23) (by decide)
      refine ⟨ad 23, a11, ?_⟩
      refine ⟨hR.K (k := 23) (by decide), ?_⟩
      refine ⟨hR.N (k := 23) (by decide) h.1, ?_⟩
      have h := h.2
      intro x12 e13
      rw [hR.2.2 23 (by decide)] at e13
      have h := h x12 e13
      exact hQ _ _ _ h hR F
    · have h := h.2.2.2.1 c6
      refine ⟨hR.1.1, ?_⟩
      have a14 : sP σ2 m 21 = some (ad 21) := hR.P (k := 21) (by decide)
      refine ⟨ad 21, a14, ?_⟩
      refine ⟨hR.K (k := 21) (by decide), ?_⟩
      refine ⟨hR.N (k := 21) (by decide) h.1, ?_⟩
      have h := h.2
      intro x15 e16
      rw [hR.2.2 21 (by decide)] at e16
      have h := h x15 e16
      exact hQ _ _ _ h hR F
    · have h := h.2.2.2.2.1 c6
      refine ⟨hR.1.1, ?_⟩
      have a17 : sP σ2 m 22 = some (ad 22) := hR.P (k := 22) (by decide)
      refine ⟨ad 22, a17, ?_⟩
      refine ⟨hR.K (k := 22) (by decide), ?_⟩
      refine ⟨hR.N (k := 22) (by decide) h.1, ?_⟩
      have h := h.2
      intro x18 e19
      rw [hR.2.2 22 (by decide)] at e19
      have h := h x18 e19
      exact hQ _ _ _ h hR F
    · have h := h.2.2.2.2.2.1 c6
      refine ⟨hR.1.1, ?_⟩
      have a20 : sP σ2 m 27 = some (ad 27) := hR.P (k := 27) (by decide)
      refine ⟨ad 27, a20, ?_⟩
      refine ⟨hR.K (k := 27) (by decide), ?_⟩
      refine ⟨hR.N (k := 27) (by decide) h.1, ?_⟩
      have h := h.2
      intro x21 e22
      rw [hR.2.2 27 (by decide)] at e22
      have h := h x21 e22
      exact hQ _ _ _ h hR F
    · have h := h.2.2.2.2.2.2.1 c6
      refine ⟨hR.1.1, ?_⟩
      have a23 : sP σ2 m 26 = some (ad 26) := hR.P (k := 26) (by decide)
      refine ⟨ad 26, a23, ?_⟩
      refine ⟨hR.K (k := 26) (by decide), ?_⟩
      refine ⟨hR.N (k := 26) (by decide) h.1, ?_⟩
      have h := h.2
      intro x24 e25
      rw [hR.2.2 26 (by decide)] at e25
      have h := h x24 e25
      exact hQ _ _ _ h hR F
    · have h := h.2.2.2.2.2.2.2.1 c6
      refine ⟨hR.1.1, ?_⟩
      have a26 : sP σ2 m 28 = some (ad 28) := hR.P (k := 28) (by decide)
      refine ⟨ad 28, a26, ?_⟩
      refine ⟨hR.K (k := 28) (by decide), ?_⟩
      refine ⟨hR.N (k := 28) (by decide) h.1, ?_⟩
      have h := h.2
      intro x27 e28
      rw [hR.2.2 28 (by decide)] at e28
      have h := h x27 e28
      exact hQ _ _ _ h hR F
    · have h := h.2.2.2.2.2.2.2.2.1 c6
      refine ⟨hR.1.1, ?_⟩
      have a29 : sP σ2 m 36 = some (ad 36) := hR.P (k := 36) (by decide)
      refine ⟨ad 36, a29, ?_⟩
      refine ⟨hR.K (k := 36) (by decide), ?_⟩
      refine ⟨hR.N (k := 36) (by decide) h.1, ?_⟩
      have h := h.2
      intro x30 e31
      rw [hR.2.2 36 (by decide)] at e31
      have h := h x30 e31
      exact hQ _ _ _ h hR F
    · have h := h.2.2.2.2.2.2.2.2.2.1 c6
      refine ⟨hR.1.1, ?_⟩
      have a32 : sP σ2 m 24 = some (ad 24) := hR.P (k := 24) (by decide)
      refine ⟨ad 24, a32, ?_⟩
      refine ⟨hR.K (k := 24) (by decide), ?_⟩
      refine ⟨hR.N (k := 24) (by decide) h.1, ?_⟩
      have h := h.2
      intro x33 e34
      rw [hR.2.2 24 (by decide)] at e34
      have h := h x33 e34
      exact hQ _ _ _ h hR F
    · have h := h.2.2.2.2.2.2.2.2.2.2.1 c6
      refine ⟨hR.1.1, ?_⟩
      have a35 : sP σ2 m 25 = some (ad 25) := hR.P (k := 25) (by decide)
      refine ⟨ad 25, a35, ?_⟩
      refine ⟨hR.K (k := 25) (by decide), ?_⟩
      refine ⟨hR.N (k := 25) (by decide) h.1, ?_⟩
      have h := h.2
      intro x36 e37
      rw [hR.2.2 25 (by decide)] at e37
      have h := h x36 e37
      exact hQ _ _ _ h hR F
    · have h := h.2.2.2.2.2.2.2.2.2.2.2 c6
      refine ⟨hR.1.1, ?_⟩
      have a38 : sP σ2 m 29 = some (ad 29) := hR.P (k := 29) (by decide)
      refine ⟨ad 29, a38, ?_⟩
      refine ⟨hR.K (k := 29) (by decide), ?_⟩
      refine ⟨hR.N (k := 29) (by decide) h.1, ?_⟩
      have h := h.2
      intro x39 e40
      rw [hR.2.2 29 (by decide)] at e40
      have h := h x39 e40
      exact hQ _ _ _ h hR F
  · have h := h.2 c5
    exact hQ _ _ _ h hR F
def bx_X12_entry_85 (Qx : Int32 → Xc → Prop) (p3 : Int32) (p4 : Int32) (p5 : Int32) (s0 : Int32) (X : Xc) : Prop := ((p3.toInt < 0 ∨ 5 < p3.toInt → Qx (-1 : Int32) X) ∧ (p3 = (0 : Int32) → ((s0 = 0 → ((p4 = 0 → Qx (-1 : Int32) X) ∧ (¬ p4 = 0 → Qx (0 : Int32) X))) ∧ (¬ s0 = 0 → Qx (1 : Int32) X))) ∧ (p3 = (1 : Int32) → ((s0 = 0 → Qx (-1 : Int32) X) ∧ (¬ s0 = 0 → (vp_in p5 700 ∧ (∀ x6 : Int32, x6 = X.2 31 p5.toNatClampNeg → Qx x6 X))))) ∧ (p3 = (2 : Int32) → ((s0 = 0 → Qx (-1 : Int32) X) ∧ (¬ s0 = 0 → (vp_in p5 700 ∧ (∀ x10 : Int32, x10 = X.2 32 p5.toNatClampNeg → Qx x10 X))))) ∧ (p3 = (3 : Int32) → ((s0 = 0 → Qx (-1 : Int32) X) ∧ (¬ s0 = 0 → (vp_in p5 700 ∧ (∀ x14 : Int32, x14 = X.2 33 p5.toNatClampNeg → Qx x14 X))))) ∧ (p3 = (4 : Int32) → ((s0 = 0 → Qx (-1 : Int32) X) ∧ (¬ s0 = 0 → (vp_in p5 700 ∧ (∀ x18 : Int32, x18 = X.2 34 p5.toNatClampNeg → Qx x18 X))))) ∧ (p3 = (5 : Int32) → ((s0 = 0 → Qx (0 : Int32) X) ∧ (¬ s0 = 0 → (vp_in p5 700 ∧ (∀ x22 : Int32, x22 = X.2 35 p5.toNatClampNeg → Qx x22 X))))))
set_option maxHeartbeats 4000000 in
set_option maxRecDepth 100000 in
theorem xb_X12_entry_85 {m : Nat} {ad : Nat → Nat} {σ0 : Sto} {Q : Int32 → Sto → Prop} {Qx : Int32 → Xc → Prop} (hQ : ∀ (r : Int32) (σ' : Sto) (X' : Xc), Qx r X' → RefC m ad σ' X' → Fi m ad σ0 σ' → Q r σ')  (p3 : Int32) (p4 : Int32) (p5 : Int32) (s0 : Int32) (σ : Sto) (X : Xc) (hR : RefC m ad σ X) (F : Fi m ad σ0 σ) (h : bx_X12_entry_85  Qx p3 p4 p5 s0 X) : b_X12_entry_85 m  Q p3 p4 p5 s0 σ := by
  unfold bx_X12_entry_85 at h
  unfold b_X12_entry_85
  refine ⟨fun c1 => ?_, fun c1 => ?_, fun c1 => ?_, fun c1 => ?_, fun c1 => ?_, fun c1 => ?_, fun c1 => ?_⟩
  · have h := h.1 c1
    exact hQ _ _ _ h hR F
  · have h := h.2.1 c1
    refine ⟨fun c2 => ?_, fun c2 => ?_⟩
    · have h := h.1 c2
      refine ⟨fun c3 => ?_, fun c3 => ?_⟩
      · have h := h.1 c3
        exact hQ _ _ _ h hR F
      · have h := h.2 c3
        exact hQ _ _ _ h hR F
    · have h := h.2 c2
      exact hQ _ _ _ h hR F
  · have h := h.2.2.1 c1
    refine ⟨fun c4 => ?_, fun c4 => ?_⟩
    · have h := h.1 c4
      exact hQ _ _ _ h hR F
    · have h := h.2 c4
      refine ⟨hR.1.1, ?_⟩
      have a5 : sP σ m 31 = some (ad 31) := hR.P (k := 31) (by decide)
      refine ⟨ad 31, a5, ?_⟩
      refine ⟨hR.K (k := 31) (by decide), ?_⟩
      refine ⟨hR.N (k := 31) (by decide) h.1, ?_⟩
      have h := h.2
      intro x6 e7
      rw [hR.2.2 31 (by decide)] at e7
      have h := h x6 e7
      exact hQ _ _ _ h hR F
  · have h := h.2.2.2.1 c1
    refine ⟨fun c8 => ?_, fun c8 => ?_⟩
    · have h := h.1 c8
      exact hQ _ _ _ h hR F
    · have h := h.2 c8
      refine ⟨hR.1.1, ?_⟩
      have a9 : sP σ m 32 = some (ad 32) := hR.P (k := 32) (by decide)
      refine ⟨ad 32, a9, ?_⟩
      refine ⟨hR.K (k := 32) (by decide), ?_⟩
      refine ⟨hR.N (k := 32) (by decide) h.1, ?_⟩
      have h := h.2
      intro x10 e11
      rw [hR.2.2 32 (by decide)] at e11
      have h := h x10 e11
      exact hQ _ _ _ h hR F
  · have h := h.2.2.2.2.1 c1
    refine ⟨fun c12 => ?_, fun c12 => ?_⟩
    · have h := h.1 c12
      exact hQ _ _ _ h hR F
    · have h := h.2 c12
      refine ⟨hR.1.1, ?_⟩
      have a13 : sP σ m 33 = some (ad 33) := hR.P (k := 33) (by decide)
      refine ⟨ad 33, a13, ?_⟩
      refine ⟨hR.K (k := 33) (by decide), ?_⟩
      refine ⟨hR.N (k := 33) (by decide) h.1, ?_⟩
      have h := h.2
      intro x14 e15
      rw [hR.2.2 33 (by decide)] at e15
      have h := h x14 e15
      exact hQ _ _ _ h hR F
  · have h := h.2.2.2.2.2.1 c1
    refine ⟨fun c16 => ?_, fun c16 => ?_⟩
    · have h := h.1 c16
      exact hQ _ _ _ h hR F
    · have h := h.2 c16
      refine ⟨hR.1.1, ?_⟩
      have a17 : sP σ m 34 = some (ad 34) := hR.P (k := 34) (by decide)
      refine ⟨ad 34, a17, ?_⟩
      refine ⟨hR.K (k := 34) (by decide), ?_⟩
      refine ⟨hR.N (k := 34) (by decide) h.1, ?_⟩
      have h := h.2
      intro x18 e19
      rw [hR.2.2 34 (by decide)] at e19
      have h := h x18 e19
      exact hQ _ _ _ h hR F
  · have h := h.2.2.2.2.2.2 c1
    refine ⟨fun c20 => ?_, fun c20 => ?_⟩
    · have h := h.1 c20
      exact hQ _ _ _ h hR F
    · have h := h.2 c20
      refine ⟨hR.1.1, ?_⟩
      have a21 : sP σ m 35 = some (ad 35) := hR.P (k := 35) (by decide)
      refine ⟨ad 35, a21, ?_⟩
      refine ⟨hR.K (k := 35) (by decide), ?_⟩
      refine ⟨hR.N (k := 35) (by decide) h.1, ?_⟩
      have h := h.2
      intro x22 e23
      rw [hR.2.2 35 (by decide)] at e23
      have h := h x22 e23
      exact hQ _ _ _ h hR F
def bx_X12_entry_84 (Qx : Int32 → Xc → Prop) (p3 : Int32) (p4 : Int32) (p5 : Int32) (X : Xc) : Prop := bx_X12_entry_85  Qx p3 p4 p5 (0 : Int32) X
set_option maxHeartbeats 4000000 in
set_option maxRecDepth 100000 in
theorem xb_X12_entry_84 {m : Nat} {ad : Nat → Nat} {σ0 : Sto} {Q : Int32 → Sto → Prop} {Qx : Int32 → Xc → Prop} (hQ : ∀ (r : Int32) (σ' : Sto) (X' : Xc), Qx r X' → RefC m ad σ' X' → Fi m ad σ0 σ' → Q r σ')  (p3 : Int32) (p4 : Int32) (p5 : Int32) (σ : Sto) (X : Xc) (hR : RefC m ad σ X) (F : Fi m ad σ0 σ) (h : bx_X12_entry_84  Qx p3 p4 p5 X) : b_X12_entry_84 m  Q p3 p4 p5 σ := by
  unfold bx_X12_entry_84 at h
  unfold b_X12_entry_84
  exact xb_X12_entry_85 hQ  p3 p4 p5 (0 : Int32) _ _ hR F h
def bx_X12_entry_63 (Qx : Int32 → Xc → Prop) (p3 : Int32) (p4 : Int32) (s0 : Int32) (X : Xc) : Prop := ((p4 = 0 → bx_X12_entry_84  Qx p3 p4 s0 X) ∧ (¬ p4 = 0 → (vp_in s0 700 ∧ (∀ x3 : Int32, x3 = X.2 30 s0.toNatClampNeg → ((x3 = 0 → bx_X12_entry_84  Qx p3 p4 s0 X) ∧ (¬ x3 = 0 → bx_X12_entry_85  Qx p3 p4 s0 (1 : Int32) X))))))
set_option maxHeartbeats 4000000 in
set_option maxRecDepth 100000 in
theorem xb_X12_entry_63 {m : Nat} {ad : Nat → Nat} {σ0 : Sto} {Q : Int32 → Sto → Prop} {Qx : Int32 → Xc → Prop} (hQ : ∀ (r : Int32) (σ' : Sto) (X' : Xc), Qx r X' → RefC m ad σ' X' → Fi m ad σ0 σ' → Q r σ')  (p3 : Int32) (p4 : Int32) (s0 : Int32) (σ : Sto) (X : Xc) (hR : RefC m ad σ X) (F : Fi m ad σ0 σ) (h : bx_X12_entry_63  Qx p3 p4 s0 X) : b_X12_entry_63 m  Q p3 p4 s0 σ := by
  unfold bx_X12_entry_63 at h
  unfold b_X12_entry_63
  refine ⟨fun c1 => ?_, fun c1 => ?_⟩
  · have h := h.1 c1
    exact xb_X12_entry_84 hQ  p3 p4 s0 _ _ hR F h
  · have h := h.2 c1
    refine ⟨hR.1.1, ?_⟩
    have a2 : sP σ m 30 = some (ad 30) := hR.P (k := 30) (by decide)
    refine ⟨ad 30, a2, ?_⟩
    refine ⟨hR.K (k := 30) (by decide), ?_⟩
    refine ⟨hR.N (k := 30) (by decide) h.1, ?_⟩
    have h := h.2
    intro x3 e4
    rw [hR.2.2 30 (by decide)] at e4
    have h := h x3 e4
    refine ⟨fun c5 => ?_, fun c5 => ?_⟩
    · have h := h.1 c5
      exact xb_X12_entry_84 hQ  p3 p4 s0 _ _ hR F h
    · have h := h.2 c5
      exact xb_X12_entry_85 hQ  p3 p4 s0 (1 : Int32) _ _ hR F h
def bx_X12_entry_44 (Qx : Int32 → Xc → Prop) (p1 : Int32) (p2 : Int32) (p3 : Int32) (s0 : Int32) (X : Xc) : Prop := ((s0 = 0 → bx_X12_entry_63  Qx p3 s0 (0 : Int32) X) ∧ (¬ s0 = 0 → bx_X12_entry_63  Qx p3 s0 ((((100 : Int32) * p1) + p2) - (1 : Int32)) X))
set_option maxHeartbeats 4000000 in
set_option maxRecDepth 100000 in
theorem xb_X12_entry_44 {m : Nat} {ad : Nat → Nat} {σ0 : Sto} {Q : Int32 → Sto → Prop} {Qx : Int32 → Xc → Prop} (hQ : ∀ (r : Int32) (σ' : Sto) (X' : Xc), Qx r X' → RefC m ad σ' X' → Fi m ad σ0 σ' → Q r σ')  (p1 : Int32) (p2 : Int32) (p3 : Int32) (s0 : Int32) (σ : Sto) (X : Xc) (hR : RefC m ad σ X) (F : Fi m ad σ0 σ) (h : bx_X12_entry_44  Qx p1 p2 p3 s0 X) : b_X12_entry_44 m  Q p1 p2 p3 s0 σ := by
  unfold bx_X12_entry_44 at h
  unfold b_X12_entry_44
  refine ⟨fun c1 => ?_, fun c1 => ?_⟩
  · have h := h.1 c1
    exact xb_X12_entry_63 hQ  p3 s0 (0 : Int32) _ _ hR F h
  · have h := h.2 c1
    exact xb_X12_entry_63 hQ  p3 s0 ((((100 : Int32) * p1) + p2) - (1 : Int32)) _ _ hR F h
def bx_X12_entry_43 (Qx : Int32 → Xc → Prop) (p1 : Int32) (p2 : Int32) (p3 : Int32) (X : Xc) : Prop := bx_X12_entry_44  Qx p1 p2 p3 (0 : Int32) X
set_option maxHeartbeats 4000000 in
set_option maxRecDepth 100000 in
theorem xb_X12_entry_43 {m : Nat} {ad : Nat → Nat} {σ0 : Sto} {Q : Int32 → Sto → Prop} {Qx : Int32 → Xc → Prop} (hQ : ∀ (r : Int32) (σ' : Sto) (X' : Xc), Qx r X' → RefC m ad σ' X' → Fi m ad σ0 σ' → Q r σ')  (p1 : Int32) (p2 : Int32) (p3 : Int32) (σ : Sto) (X : Xc) (hR : RefC m ad σ X) (F : Fi m ad σ0 σ) (h : bx_X12_entry_43  Qx p1 p2 p3 X) : b_X12_entry_43 m  Q p1 p2 p3 σ := by
  unfold bx_X12_entry_43 at h
  unfold b_X12_entry_43
  exact xb_X12_entry_44 hQ  p1 p2 p3 (0 : Int32) _ _ hR F h
def bx_X12_entry_32 (Qx : Int32 → Xc → Prop) (p1 : Int32) (p2 : Int32) (p3 : Int32) (s0 : Int32) (s2 : Int32) (s3 : Int32) (X : Xc) : Prop := (vp_in s0 7 ∧ (∀ x1 : Int32, x1 = X.2 26 s0.toNatClampNeg → (wx_X12_in s3 s2 x1 X (fun (x3 : Int32) (X5 : Xc) => ((x3 = 0 → bx_X12_entry_43  Qx p1 p2 p3 X5) ∧ (¬ x3 = 0 → bx_X12_entry_44  Qx p1 p2 p3 (1 : Int32) X5))))))
set_option maxHeartbeats 4000000 in
set_option maxRecDepth 100000 in
theorem xb_X12_entry_32 {m : Nat} {ad : Nat → Nat} {σ0 : Sto} {Q : Int32 → Sto → Prop} {Qx : Int32 → Xc → Prop} (hQ : ∀ (r : Int32) (σ' : Sto) (X' : Xc), Qx r X' → RefC m ad σ' X' → Fi m ad σ0 σ' → Q r σ')  (p1 : Int32) (p2 : Int32) (p3 : Int32) (s0 : Int32) (s2 : Int32) (s3 : Int32) (σ : Sto) (X : Xc) (hR : RefC m ad σ X) (F : Fi m ad σ0 σ) (h : bx_X12_entry_32  Qx p1 p2 p3 s0 s2 s3 X) : b_X12_entry_32 m  Q p1 p2 p3 s0 (some (ad 26)) s2 s3 σ := by
  unfold bx_X12_entry_32 at h
  unfold b_X12_entry_32
  refine ⟨ad 26, rfl, ?_⟩
  refine ⟨hR.K (k := 26) (by decide), ?_⟩
  refine ⟨hR.N (k := 26) (by decide) h.1, ?_⟩
  have h := h.2
  intro x1 e2
  rw [hR.2.2 26 (by decide)] at e2
  have h := h x1 e2
  refine x_X12_in hR h (fun x3 σ4 X5 h hR F6 => ?_)
  have F := F.trans F6
  refine ⟨fun c7 => ?_, fun c7 => ?_⟩
  · have h := h.1 c7
    exact xb_X12_entry_43 hQ  p1 p2 p3 _ _ hR F h
  · have h := h.2 c7
    exact xb_X12_entry_44 hQ  p1 p2 p3 (1 : Int32) _ _ hR F h
def wx_X12_entry (p1 : Int32) (p2 : Int32) (p3 : Int32) (X : Xc) (Qx : Int32 → Xc → Prop) : Prop := (wx_X12_isReplica p1 (xS X 0 (0 : Int32)) (fun (x1 : Int32) (X3 : Xc) => ((x1 = 0 → bx_X12_entry_43  Qx p1 p2 p3 X3) ∧ (¬ x1 = 0 → (wx_X12_isReplica p1 X3 (fun (x7 : Int32) (X9 : Xc) => ((x7 = 0 → bx_X12_entry_32  Qx p1 p2 p3 (0 : Int32) (1 : Int32) p2 X9) ∧ (¬ x7 = 0 → bx_X12_entry_32  Qx p1 p2 p3 p1 (1 : Int32) p2 X9))))))))
set_option maxHeartbeats 4000000 in
set_option maxRecDepth 100000 in
theorem x_X12_entry {m : Nat} {ad : Nat → Nat} {p1 : Int32} {p2 : Int32} {p3 : Int32} {σ : Sto} {X : Xc} {Q : Int32 → Sto → Prop} {Qx : Int32 → Xc → Prop} (hR : RefC m ad σ X) (h : wx_X12_entry p1 p2 p3 X Qx) (hQ : ∀ (r : Int32) (σ' : Sto) (X' : Xc), Qx r X' → RefC m ad σ' X' → Fi m ad σ σ' → Q r σ') : wp_X12_entry m p1 p2 p3 σ Q := by
  have F : Fi m ad σ σ := Fi.rf
  unfold wx_X12_entry at h
  unfold wp_X12_entry
  refine ⟨hR.1.1, ?_⟩
  have F := F.S (k := 0) (v := (0 : Int32))
  have hR := hR.S (k := 0) (v := (0 : Int32))
  refine x_X12_isReplica hR h (fun x1 σ2 X3 h hR F4 => ?_)
  have F := F.trans F4
  refine ⟨fun c5 => ?_, fun c5 => ?_⟩
  · have h := h.1 c5
    exact xb_X12_entry_43 hQ  p1 p2 p3 _ _ hR F h
  · have h := h.2 c5
    refine ⟨hR.1.1, ?_⟩
    have a6 : sP σ2 m 26 = some (ad 26) := hR.P (k := 26) (by decide)
    refine x_X12_isReplica hR h (fun x7 σ8 X9 h hR F10 => ?_)
    have F := F.trans F10
    refine ⟨fun c11 => ?_, fun c11 => ?_⟩
    · have h := h.1 c11
      rw [a6]
      exact xb_X12_entry_32 hQ  p1 p2 p3 (0 : Int32) (1 : Int32) p2 _ _ hR F h
    · have h := h.2 c11
      rw [a6]
      exact xb_X12_entry_32 hQ  p1 p2 p3 p1 (1 : Int32) p2 _ _ hR F h
def wx_X12_word (p1 : Int32) (p2 : Int32) (X : Xc) (Qx : Int32 → Xc → Prop) : Prop := (wx_X12_isReplica p1 (xS X 0 (0 : Int32)) (fun (x1 : Int32) (X3 : Xc) => ((x1 = 0 → Qx (0 : Int32) X3) ∧ (¬ x1 = 0 → (wx_X12_in p2 (0 : Int32) (7 : Int32) X3 (fun (x6 : Int32) (X8 : Xc) => ((¬ x6 = 0 → (wx_X12_execute p1 X8 (fun (X13 : Xc) => (vp_in p2 8 ∧ (∀ x16 : Int32, x16 = X13.2 62 p2.toNatClampNeg → Qx x16 X13))))) ∧ (x6 = 0 → Qx (0 : Int32) X8))))))))
set_option maxHeartbeats 4000000 in
set_option maxRecDepth 100000 in
theorem x_X12_word {m : Nat} {ad : Nat → Nat} {p1 : Int32} {p2 : Int32} {σ : Sto} {X : Xc} {Q : Int32 → Sto → Prop} {Qx : Int32 → Xc → Prop} (hR : RefC m ad σ X) (h : wx_X12_word p1 p2 X Qx) (hQ : ∀ (r : Int32) (σ' : Sto) (X' : Xc), Qx r X' → RefC m ad σ' X' → Fi m ad σ σ' → Q r σ') : wp_X12_word m p1 p2 σ Q := by
  have F : Fi m ad σ σ := Fi.rf
  unfold wx_X12_word at h
  unfold wp_X12_word
  refine ⟨hR.1.1, ?_⟩
  have F := F.S (k := 0) (v := (0 : Int32))
  have hR := hR.S (k := 0) (v := (0 : Int32))
  refine x_X12_isReplica hR h (fun x1 σ2 X3 h hR F4 => ?_)
  have F := F.trans F4
  refine ⟨fun c5 => ?_, fun c5 => ?_⟩
  · have h := h.1 c5
    exact hQ _ _ _ h hR F
  · have h := h.2 c5
    refine x_X12_in hR h (fun x6 σ7 X8 h hR F9 => ?_)
    have F := F.trans F9
    refine ⟨fun c10 => ?_, fun c10 => ?_⟩
    · have h := h.1 c10
      refine ⟨hR.1.1, ?_⟩
      refine x_X12_execute hR h (fun σ12 X13 h hR F14 => ?_)
      have F := F.trans F14
      refine ⟨hR.1.1, ?_⟩
      have a15 : sP σ12 m 62 = some (ad 62) := hR.P (k := 62) (by decide)
      refine ⟨ad 62, a15, ?_⟩
      refine ⟨hR.K (k := 62) (by decide), ?_⟩
      refine ⟨hR.N (k := 62) (by decide) h.1, ?_⟩
      have h := h.2
      intro x16 e17
      rw [hR.2.2 62 (by decide)] at e17
      have h := h x16 e17
      exact hQ _ _ _ h hR F
    · have h := h.2 c10
      exact hQ _ _ _ h hR F
def bx_X12_client_37 (Qx : Int32 → Xc → Prop) (p1 : Int32) (p2 : Int32) (s0 : Int32) (X : Xc) : Prop := ((p2.toInt < 0 ∨ 4 < p2.toInt → Qx (-1 : Int32) X) ∧ (p2 = (0 : Int32) → (vp_in p1 4 ∧ (∀ x3 : Int32, x3 = X.2 65 p1.toNatClampNeg → Qx x3 X))) ∧ (p2 = (1 : Int32) → ((s0 = 0 → (vp_in p1 4 ∧ (∀ x7 : Int32, x7 = X.2 66 p1.toNatClampNeg → ((x7 = 0 → Qx (0 : Int32) X) ∧ (¬ x7 = 0 → Qx (1 : Int32) X))))) ∧ (¬ s0 = 0 → Qx (2 : Int32) X))) ∧ (p2 = (2 : Int32) → ((s0 = 0 → Qx (-1 : Int32) X) ∧ (¬ s0 = 0 → (vp_in p1 4 ∧ (∀ x12 : Int32, x12 = X.2 72 p1.toNatClampNeg → Qx x12 X))))) ∧ (p2 = (3 : Int32) → ((s0 = 0 → Qx (-1 : Int32) X) ∧ (¬ s0 = 0 → (vp_in p1 4 ∧ (∀ x16 : Int32, x16 = X.2 73 p1.toNatClampNeg → Qx x16 X))))) ∧ (p2 = (4 : Int32) → ((s0 = 0 → Qx (-1 : Int32) X) ∧ (¬ s0 = 0 → (vp_in p1 4 ∧ (∀ x20 : Int32, x20 = X.2 74 p1.toNatClampNeg → Qx x20 X))))))
set_option maxHeartbeats 4000000 in
set_option maxRecDepth 100000 in
theorem xb_X12_client_37 {m : Nat} {ad : Nat → Nat} {σ0 : Sto} {Q : Int32 → Sto → Prop} {Qx : Int32 → Xc → Prop} (hQ : ∀ (r : Int32) (σ' : Sto) (X' : Xc), Qx r X' → RefC m ad σ' X' → Fi m ad σ0 σ' → Q r σ')  (p1 : Int32) (p2 : Int32) (s0 : Int32) (σ : Sto) (X : Xc) (hR : RefC m ad σ X) (F : Fi m ad σ0 σ) (h : bx_X12_client_37  Qx p1 p2 s0 X) : b_X12_client_37 m  Q p1 p2 s0 σ := by
  unfold bx_X12_client_37 at h
  unfold b_X12_client_37
  refine ⟨fun c1 => ?_, fun c1 => ?_, fun c1 => ?_, fun c1 => ?_, fun c1 => ?_, fun c1 => ?_⟩
  · have h := h.1 c1
    exact hQ _ _ _ h hR F
  · have h := h.2.1 c1
    refine ⟨hR.1.1, ?_⟩
    have a2 : sP σ m 65 = some (ad 65) := hR.P (k := 65) (by decide)
    refine ⟨ad 65, a2, ?_⟩
    refine ⟨hR.K (k := 65) (by decide), ?_⟩
    refine ⟨hR.N (k := 65) (by decide) h.1, ?_⟩
    have h := h.2
    intro x3 e4
    rw [hR.2.2 65 (by decide)] at e4
    have h := h x3 e4
    exact hQ _ _ _ h hR F
  · have h := h.2.2.1 c1
    refine ⟨fun c5 => ?_, fun c5 => ?_⟩
    · have h := h.1 c5
      refine ⟨hR.1.1, ?_⟩
      have a6 : sP σ m 66 = some (ad 66) := hR.P (k := 66) (by decide)
      refine ⟨ad 66, a6, ?_⟩
      refine ⟨hR.K (k := 66) (by decide), ?_⟩
      refine ⟨hR.N (k := 66) (by decide) h.1, ?_⟩
      have h := h.2
      intro x7 e8
      rw [hR.2.2 66 (by decide)] at e8
      have h := h x7 e8
      refine ⟨fun c9 => ?_, fun c9 => ?_⟩
      · have h := h.1 c9
        exact hQ _ _ _ h hR F
      · have h := h.2 c9
        exact hQ _ _ _ h hR F
    · have h := h.2 c5
      exact hQ _ _ _ h hR F
  · have h := h.2.2.2.1 c1
    refine ⟨fun c10 => ?_, fun c10 => ?_⟩
    · have h := h.1 c10
      exact hQ _ _ _ h hR F
    · have h := h.2 c10
      refine ⟨hR.1.1, ?_⟩
      have a11 : sP σ m 72 = some (ad 72) := hR.P (k := 72) (by decide)
      refine ⟨ad 72, a11, ?_⟩
      refine ⟨hR.K (k := 72) (by decide), ?_⟩
      refine ⟨hR.N (k := 72) (by decide) h.1, ?_⟩
      have h := h.2
      intro x12 e13
      rw [hR.2.2 72 (by decide)] at e13
      have h := h x12 e13
      exact hQ _ _ _ h hR F
  · have h := h.2.2.2.2.1 c1
    refine ⟨fun c14 => ?_, fun c14 => ?_⟩
    · have h := h.1 c14
      exact hQ _ _ _ h hR F
    · have h := h.2 c14
      refine ⟨hR.1.1, ?_⟩
      have a15 : sP σ m 73 = some (ad 73) := hR.P (k := 73) (by decide)
      refine ⟨ad 73, a15, ?_⟩
      refine ⟨hR.K (k := 73) (by decide), ?_⟩
      refine ⟨hR.N (k := 73) (by decide) h.1, ?_⟩
      have h := h.2
      intro x16 e17
      rw [hR.2.2 73 (by decide)] at e17
      have h := h x16 e17
      exact hQ _ _ _ h hR F
  · have h := h.2.2.2.2.2 c1
    refine ⟨fun c18 => ?_, fun c18 => ?_⟩
    · have h := h.1 c18
      exact hQ _ _ _ h hR F
    · have h := h.2 c18
      refine ⟨hR.1.1, ?_⟩
      have a19 : sP σ m 74 = some (ad 74) := hR.P (k := 74) (by decide)
      refine ⟨ad 74, a19, ?_⟩
      refine ⟨hR.K (k := 74) (by decide), ?_⟩
      refine ⟨hR.N (k := 74) (by decide) h.1, ?_⟩
      have h := h.2
      intro x20 e21
      rw [hR.2.2 74 (by decide)] at e21
      have h := h x20 e21
      exact hQ _ _ _ h hR F
def bx_X12_client_36 (Qx : Int32 → Xc → Prop) (p1 : Int32) (p2 : Int32) (X : Xc) : Prop := bx_X12_client_37  Qx p1 p2 (0 : Int32) X
set_option maxHeartbeats 4000000 in
set_option maxRecDepth 100000 in
theorem xb_X12_client_36 {m : Nat} {ad : Nat → Nat} {σ0 : Sto} {Q : Int32 → Sto → Prop} {Qx : Int32 → Xc → Prop} (hQ : ∀ (r : Int32) (σ' : Sto) (X' : Xc), Qx r X' → RefC m ad σ' X' → Fi m ad σ0 σ' → Q r σ')  (p1 : Int32) (p2 : Int32) (σ : Sto) (X : Xc) (hR : RefC m ad σ X) (F : Fi m ad σ0 σ) (h : bx_X12_client_36  Qx p1 p2 X) : b_X12_client_36 m  Q p1 p2 σ := by
  unfold bx_X12_client_36 at h
  unfold b_X12_client_36
  exact xb_X12_client_37 hQ  p1 p2 (0 : Int32) _ _ hR F h
def wx_X12_client (p1 : Int32) (p2 : Int32) (X : Xc) (Qx : Int32 → Xc → Prop) : Prop := (wx_X12_isClient p1 (xS X 0 (0 : Int32)) (fun (x1 : Int32) (X3 : Xc) => ((¬ x1 = 0 → (vp_in p1 4 ∧ (∀ x7 : Int32, x7 = X3.2 65 p1.toNatClampNeg → ((x7 ≤ 0 → bx_X12_client_36  Qx p1 p2 X3) ∧ (¬ x7 ≤ 0 → (vp_in p1 4 ∧ (∀ x11 : Int32, x11 = X3.2 66 p1.toNatClampNeg → ((¬ x11 = 0 → bx_X12_client_36  Qx p1 p2 X3) ∧ (x11 = 0 → bx_X12_client_37  Qx p1 p2 (1 : Int32) X3))))))))) ∧ (x1 = 0 → Qx (-1 : Int32) X3))))
set_option maxHeartbeats 4000000 in
set_option maxRecDepth 100000 in
theorem x_X12_client {m : Nat} {ad : Nat → Nat} {p1 : Int32} {p2 : Int32} {σ : Sto} {X : Xc} {Q : Int32 → Sto → Prop} {Qx : Int32 → Xc → Prop} (hR : RefC m ad σ X) (h : wx_X12_client p1 p2 X Qx) (hQ : ∀ (r : Int32) (σ' : Sto) (X' : Xc), Qx r X' → RefC m ad σ' X' → Fi m ad σ σ' → Q r σ') : wp_X12_client m p1 p2 σ Q := by
  have F : Fi m ad σ σ := Fi.rf
  unfold wx_X12_client at h
  unfold wp_X12_client
  refine ⟨hR.1.1, ?_⟩
  have F := F.S (k := 0) (v := (0 : Int32))
  have hR := hR.S (k := 0) (v := (0 : Int32))
  refine x_X12_isClient hR h (fun x1 σ2 X3 h hR F4 => ?_)
  have F := F.trans F4
  refine ⟨fun c5 => ?_, fun c5 => ?_⟩
  · have h := h.1 c5
    refine ⟨hR.1.1, ?_⟩
    have a6 : sP σ2 m 65 = some (ad 65) := hR.P (k := 65) (by decide)
    refine ⟨ad 65, a6, ?_⟩
    refine ⟨hR.K (k := 65) (by decide), ?_⟩
    refine ⟨hR.N (k := 65) (by decide) h.1, ?_⟩
    have h := h.2
    intro x7 e8
    rw [hR.2.2 65 (by decide)] at e8
    have h := h x7 e8
    refine ⟨fun c9 => ?_, fun c9 => ?_⟩
    · have h := h.1 c9
      exact xb_X12_client_36 hQ  p1 p2 _ _ hR F h
    · have h := h.2 c9
      have a10 : sP σ2 m 66 = some (ad 66) := hR.P (k := 66) (by decide)
      refine ⟨ad 66, a10, ?_⟩
      refine ⟨hR.K (k := 66) (by decide), ?_⟩
      refine ⟨hR.N (k := 66) (by decide) h.1, ?_⟩
      have h := h.2
      intro x11 e12
      rw [hR.2.2 66 (by decide)] at e12
      have h := h x11 e12
      refine ⟨fun c13 => ?_, fun c13 => ?_⟩
      · have h := h.1 c13
        exact xb_X12_client_36 hQ  p1 p2 _ _ hR F h
      · have h := h.2 c13
        exact xb_X12_client_37 hQ  p1 p2 (1 : Int32) _ _ hR F h
  · have h := h.2 c5
    exact hQ _ _ _ h hR F
def wx_X12_answer (p1 : Int32) (X : Xc) (Qx : Int32 → Xc → Prop) : Prop := (wx_X12_isClient p1 (xS X 0 (0 : Int32)) (fun (x1 : Int32) (X3 : Xc) => ((x1 = 0 → Qx (0 : Int32) X3) ∧ (¬ x1 = 0 → (vp_in p1 4 ∧ (∀ x7 : Int32, x7 = X3.2 71 p1.toNatClampNeg → Qx x7 X3))))))
set_option maxHeartbeats 4000000 in
set_option maxRecDepth 100000 in
theorem x_X12_answer {m : Nat} {ad : Nat → Nat} {p1 : Int32} {σ : Sto} {X : Xc} {Q : Int32 → Sto → Prop} {Qx : Int32 → Xc → Prop} (hR : RefC m ad σ X) (h : wx_X12_answer p1 X Qx) (hQ : ∀ (r : Int32) (σ' : Sto) (X' : Xc), Qx r X' → RefC m ad σ' X' → Fi m ad σ σ' → Q r σ') : wp_X12_answer m p1 σ Q := by
  have F : Fi m ad σ σ := Fi.rf
  unfold wx_X12_answer at h
  unfold wp_X12_answer
  refine ⟨hR.1.1, ?_⟩
  have F := F.S (k := 0) (v := (0 : Int32))
  have hR := hR.S (k := 0) (v := (0 : Int32))
  refine x_X12_isClient hR h (fun x1 σ2 X3 h hR F4 => ?_)
  have F := F.trans F4
  refine ⟨fun c5 => ?_, fun c5 => ?_⟩
  · have h := h.1 c5
    exact hQ _ _ _ h hR F
  · have h := h.2 c5
    refine ⟨hR.1.1, ?_⟩
    have a6 : sP σ2 m 71 = some (ad 71) := hR.P (k := 71) (by decide)
    refine ⟨ad 71, a6, ?_⟩
    refine ⟨hR.K (k := 71) (by decide), ?_⟩
    refine ⟨hR.N (k := 71) (by decide) h.1, ?_⟩
    have h := h.2
    intro x7 e8
    rw [hR.2.2 71 (by decide)] at e8
    have h := h x7 e8
    exact hQ _ _ _ h hR F
def wx_X12_about (p1 : Int32) (X : Xc) (Qx : Int32 → Xc → Prop) : Prop := ((p1.toInt < 0 ∨ 8 < p1.toInt → Qx (-1 : Int32) (xS X 0 (0 : Int32))) ∧ (p1 = (0 : Int32) → (∀ x2 : Int32, x2 = (xS X 0 (0 : Int32)).1 6 → Qx x2 (xS X 0 (0 : Int32)))) ∧ (p1 = (1 : Int32) → (∀ x4 : Int32, x4 = (xS X 0 (0 : Int32)).1 7 → Qx x4 (xS X 0 (0 : Int32)))) ∧ (p1 = (2 : Int32) → (∀ x6 : Int32, x6 = (xS X 0 (0 : Int32)).1 8 → Qx x6 (xS X 0 (0 : Int32)))) ∧ (p1 = (3 : Int32) → (∀ x8 : Int32, x8 = (xS X 0 (0 : Int32)).1 16 → ((x8 = 0 → Qx (0 : Int32) (xS X 0 (0 : Int32))) ∧ (¬ x8 = 0 → Qx (1 : Int32) (xS X 0 (0 : Int32)))))) ∧ (p1 = (4 : Int32) → (∀ x11 : Int32, x11 = (xS X 0 (0 : Int32)).1 17 → Qx x11 (xS X 0 (0 : Int32)))) ∧ (p1 = (5 : Int32) → (∀ x13 : Int32, x13 = (xS X 0 (0 : Int32)).1 18 → Qx x13 (xS X 0 (0 : Int32)))) ∧ (p1 = (6 : Int32) → (∀ x15 : Int32, x15 = (xS X 0 (0 : Int32)).1 81 → Qx x15 (xS X 0 (0 : Int32)))) ∧ (p1 = (7 : Int32) → (∀ x17 : Int32, x17 = (xS X 0 (0 : Int32)).1 4 → Qx x17 (xS X 0 (0 : Int32)))) ∧ (p1 = (8 : Int32) → (∀ x19 : Int32, x19 = (xS X 0 (0 : Int32)).1 3 → Qx x19 (xS X 0 (0 : Int32)))))
set_option maxHeartbeats 4000000 in
set_option maxRecDepth 100000 in
theorem x_X12_about {m : Nat} {ad : Nat → Nat} {p1 : Int32} {σ : Sto} {X : Xc} {Q : Int32 → Sto → Prop} {Qx : Int32 → Xc → Prop} (hR : RefC m ad σ X) (h : wx_X12_about p1 X Qx) (hQ : ∀ (r : Int32) (σ' : Sto) (X' : Xc), Qx r X' → RefC m ad σ' X' → Fi m ad σ σ' → Q r σ') : wp_X12_about m p1 σ Q := by
  have F : Fi m ad σ σ := Fi.rf
  unfold wx_X12_about at h
  unfold wp_X12_about
  refine ⟨hR.1.1, ?_⟩
  have F := F.S (k := 0) (v := (0 : Int32))
  have hR := hR.S (k := 0) (v := (0 : Int32))
  refine ⟨fun c1 => ?_, fun c1 => ?_, fun c1 => ?_, fun c1 => ?_, fun c1 => ?_, fun c1 => ?_, fun c1 => ?_, fun c1 => ?_, fun c1 => ?_, fun c1 => ?_⟩
  · have h := h.1 c1
    exact hQ _ _ _ h hR F
  · have h := h.2.1 c1
    intro x2 e3
    rw [hR.2.1 6] at e3
    have h := h x2 e3
    exact hQ _ _ _ h hR F
  · have h := h.2.2.1 c1
    intro x4 e5
    rw [hR.2.1 7] at e5
    have h := h x4 e5
    exact hQ _ _ _ h hR F
  · have h := h.2.2.2.1 c1
    intro x6 e7
    rw [hR.2.1 8] at e7
    have h := h x6 e7
    exact hQ _ _ _ h hR F
  · have h := h.2.2.2.2.1 c1
    intro x8 e9
    rw [hR.2.1 16] at e9
    have h := h x8 e9
    refine ⟨fun c10 => ?_, fun c10 => ?_⟩
    · have h := h.1 c10
      exact hQ _ _ _ h hR F
    · have h := h.2 c10
      exact hQ _ _ _ h hR F
  · have h := h.2.2.2.2.2.1 c1
    intro x11 e12
    rw [hR.2.1 17] at e12
    have h := h x11 e12
    exact hQ _ _ _ h hR F
  · have h := h.2.2.2.2.2.2.1 c1
    intro x13 e14
    rw [hR.2.1 18] at e14
    have h := h x13 e14
    exact hQ _ _ _ h hR F
  · have h := h.2.2.2.2.2.2.2.1 c1
    intro x15 e16
    rw [hR.2.1 81] at e16
    have h := h x15 e16
    exact hQ _ _ _ h hR F
  · have h := h.2.2.2.2.2.2.2.2.1 c1
    intro x17 e18
    rw [hR.2.1 4] at e18
    have h := h x17 e18
    exact hQ _ _ _ h hR F
  · have h := h.2.2.2.2.2.2.2.2.2 c1
    intro x19 e20
    rw [hR.2.1 3] at e20
    have h := h x19 e20
    exact hQ _ _ _ h hR F
def wx_X12_message (p1 : Int32) (p2 : Int32) (X : Xc) (Qx : Int32 → Xc → Prop) : Prop := (∀ x1 : Int32, x1 = (xS X 0 (0 : Int32)).1 6 → (wx_X12_in p1 (0 : Int32) (x1 - (1 : Int32)) (xS X 0 (0 : Int32)) (fun (x3 : Int32) (X5 : Xc) => ((¬ x3 = 0 → (vp_in p1 200 ∧ (∀ x9 : Int32, x9 = X5.2 5 p1.toNatClampNeg → (∀ x11 : Int32, x11 = (640 : Int32) * x9 → ((p2.toInt < 0 ∨ 3 < p2.toInt → Qx (-1 : Int32) X5) ∧ (p2 = (0 : Int32) → (vp_in x9 200 ∧ (∀ x15 : Int32, x15 = X5.2 12 x9.toNatClampNeg → Qx x15 X5))) ∧ (p2 = (1 : Int32) → (vp_in x11 128000 ∧ (∀ x18 : Int32, x18 = X5.2 10 x11.toNatClampNeg → Qx x18 X5))) ∧ (p2 = (2 : Int32) → (∀ x21 : Int32, x21 = x11 + (1 : Int32) → (vp_in x21 128000 ∧ (∀ x23 : Int32, x23 = X5.2 10 x21.toNatClampNeg → ((¬ x23 = (255 : Int32) → (∀ x27 : Int32, x27 = x11 + (1 : Int32) → (vp_in x27 128000 ∧ (∀ x29 : Int32, x29 = X5.2 10 x27.toNatClampNeg → Qx x29 X5)))) ∧ (x23 = (255 : Int32) → Qx (-1 : Int32) X5)))))) ∧ (p2 = (3 : Int32) → (∀ x32 : Int32, x32 = x11 + (2 : Int32) → (vp_in x32 128000 ∧ (∀ x34 : Int32, x34 = X5.2 10 x32.toNatClampNeg → ((x34 < (16 : Int32) → (∀ x38 : Int32, x38 = x11 + (2 : Int32) → (vp_in x38 128000 ∧ (∀ x40 : Int32, x40 = X5.2 10 x38.toNatClampNeg → Qx x40 X5)))) ∧ (¬ x34 < (16 : Int32) → (∀ x43 : Int32, x43 = x11 + (2 : Int32) → (vp_in x43 128000 ∧ (∀ x45 : Int32, x45 = X5.2 10 x43.toNatClampNeg → Qx (x45 - (16 : Int32)) X5)))))))))))))) ∧ (x3 = 0 → Qx (-1 : Int32) X5)))))
set_option maxHeartbeats 4000000 in
set_option maxRecDepth 100000 in
theorem x_X12_message {m : Nat} {ad : Nat → Nat} {p1 : Int32} {p2 : Int32} {σ : Sto} {X : Xc} {Q : Int32 → Sto → Prop} {Qx : Int32 → Xc → Prop} (hR : RefC m ad σ X) (h : wx_X12_message p1 p2 X Qx) (hQ : ∀ (r : Int32) (σ' : Sto) (X' : Xc), Qx r X' → RefC m ad σ' X' → Fi m ad σ σ' → Q r σ') : wp_X12_message m p1 p2 σ Q := by
  have F : Fi m ad σ σ := Fi.rf
  unfold wx_X12_message at h
  unfold wp_X12_message
  refine ⟨hR.1.1, ?_⟩
  have F := F.S (k := 0) (v := (0 : Int32))
  have hR := hR.S (k := 0) (v := (0 : Int32))
  intro x1 e2
  rw [hR.2.1 6] at e2
  have h := h x1 e2
  refine x_X12_in hR h (fun x3 σ4 X5 h hR F6 => ?_)
  have F := F.trans F6
  refine ⟨fun c7 => ?_, fun c7 => ?_⟩
  · have h := h.1 c7
    refine ⟨hR.1.1, ?_⟩
    have a8 : sP σ4 m 5 = some (ad 5) := hR.P (k := 5) (by decide)
    refine ⟨ad 5, a8, ?_⟩
    refine ⟨hR.K (k := 5) (by decide), ?_⟩
    refine ⟨hR.N (k := 5) (by decide) h.1, ?_⟩
    have h := h.2
    intro x9 e10
    rw [hR.2.2 5 (by decide)] at e10
    have h := h x9 e10
    intro x11 e12
    have h := h x11 e12
    refine ⟨fun c13 => ?_, fun c13 => ?_, fun c13 => ?_, fun c13 => ?_, fun c13 => ?_⟩
    · have h := h.1 c13
      exact hQ _ _ _ h hR F
    · have h := h.2.1 c13
      have a14 : sP σ4 m 12 = some (ad 12) := hR.P (k := 12) (by decide)
      refine ⟨ad 12, a14, ?_⟩
      refine ⟨hR.K (k := 12) (by decide), ?_⟩
      refine ⟨hR.N (k := 12) (by decide) h.1, ?_⟩
      have h := h.2
      intro x15 e16
      rw [hR.2.2 12 (by decide)] at e16
      have h := h x15 e16
      exact hQ _ _ _ h hR F
    · have h := h.2.2.1 c13
      have a17 : sP σ4 m 10 = some (ad 10) := hR.P (k := 10) (by decide)
      refine ⟨ad 10, a17, ?_⟩
      refine ⟨hR.K (k := 10) (by decide), ?_⟩
      refine ⟨hR.N (k := 10) (by decide) h.1, ?_⟩
      have h := h.2
      intro x18 e19
      rw [hR.2.2 10 (by decide)] at e19
      have h := h x18 e19
      exact hQ _ _ _ h hR F
    · have h := h.2.2.2.1 c13
      have a20 : sP σ4 m 10 = some (ad 10) := hR.P (k := 10) (by decide)
      intro x21 e22
      have h := h x21 e22
      refine ⟨ad 10, a20, ?_⟩
      refine ⟨hR.K (k := 10) (by decide), ?_⟩
      refine ⟨hR.N (k := 10) (by decide) h.1, ?_⟩
      have h := h.2
      intro x23 e24
      rw [hR.2.2 10 (by decide)] at e24
      have h := h x23 e24
      refine ⟨fun c25 => ?_, fun c25 => ?_⟩
      · have h := h.1 c25
        have a26 : sP σ4 m 10 = some (ad 10) := hR.P (k := 10) (by decide)
        intro x27 e28
        have h := h x27 e28
        refine ⟨hR.N (k := 10) (by decide) h.1, ?_⟩
        have h := h.2
        intro x29 e30
        rw [hR.2.2 10 (by decide)] at e30
        have h := h x29 e30
        exact hQ _ _ _ h hR F
      · have h := h.2 c25
        exact hQ _ _ _ h hR F
    · have h := h.2.2.2.2 c13
      have a31 : sP σ4 m 10 = some (ad 10) := hR.P (k := 10) (by decide)
      intro x32 e33
      have h := h x32 e33
      refine ⟨ad 10, a31, ?_⟩
      refine ⟨hR.K (k := 10) (by decide), ?_⟩
      refine ⟨hR.N (k := 10) (by decide) h.1, ?_⟩
      have h := h.2
      intro x34 e35
      rw [hR.2.2 10 (by decide)] at e35
      have h := h x34 e35
      refine ⟨fun c36 => ?_, fun c36 => ?_⟩
      · have h := h.1 c36
        have a37 : sP σ4 m 10 = some (ad 10) := hR.P (k := 10) (by decide)
        intro x38 e39
        have h := h x38 e39
        refine ⟨hR.N (k := 10) (by decide) h.1, ?_⟩
        have h := h.2
        intro x40 e41
        rw [hR.2.2 10 (by decide)] at e41
        have h := h x40 e41
        exact hQ _ _ _ h hR F
      · have h := h.2 c36
        have a42 : sP σ4 m 10 = some (ad 10) := hR.P (k := 10) (by decide)
        intro x43 e44
        have h := h x43 e44
        refine ⟨hR.N (k := 10) (by decide) h.1, ?_⟩
        have h := h.2
        intro x45 e46
        rw [hR.2.2 10 (by decide)] at e46
        have h := h x45 e46
        exact hQ _ _ _ h hR F
  · have h := h.2 c7
    exact hQ _ _ _ h hR F
def wx_X12_write (p1 : Int32) (X : Xc) (Qx : Xc → Prop) : Prop := (∀ x2 : Int32, x2 = X.1 89 → (∀ x4 : Int32, x4 = p1 &&& (255 : Int32) → (vp_in x2 2560 ∧ (∀ x6 : Int32, x6 = (xA X 88 x2.toNatClampNeg x4).1 89 → (∀ x8 : Int32, x8 = x6 + (1 : Int32) → Qx (xS (xA X 88 x2.toNatClampNeg x4) 89 x8))))))
set_option maxHeartbeats 4000000 in
set_option maxRecDepth 100000 in
theorem x_X12_write {m : Nat} {ad : Nat → Nat} {p1 : Int32} {σ : Sto} {X : Xc} {Q : Sto → Prop} {Qx : Xc → Prop} (hR : RefC m ad σ X) (h : wx_X12_write p1 X Qx) (hQ : ∀ (σ' : Sto) (X' : Xc), Qx X' → RefC m ad σ' X' → Fi m ad σ σ' → Q σ') : wp_X12_write m p1 σ Q := by
  have F : Fi m ad σ σ := Fi.rf
  unfold wx_X12_write at h
  unfold wp_X12_write
  refine ⟨hR.1.1, ?_⟩
  have a1 : sP σ m 88 = some (ad 88) := hR.P (k := 88) (by decide)
  intro x2 e3
  rw [hR.2.1 89] at e3
  have h := h x2 e3
  intro x4 e5
  have h := h x4 e5
  refine ⟨ad 88, a1, ?_⟩
  refine ⟨hR.K (k := 88) (by decide), ?_⟩
  refine ⟨hR.N (k := 88) (by decide) h.1, ?_⟩
  have h := h.2
  have F := F.A (k := 88) (i := x2.toNatClampNeg) (v := x4) (by decide)
  have hR := hR.A (k := 88) (i := x2.toNatClampNeg) (v := x4) (by decide)
  intro x6 e7
  rw [hR.2.1 89] at e7
  have h := h x6 e7
  intro x8 e9
  have h := h x8 e9
  have F := F.S (k := 89) (v := x8)
  have hR := hR.S (k := 89) (v := x8)
  exact hQ _ _ h hR F
def fx_X12_writeNumber_2 (Qx : Xc → Prop) (Lx2 : Int32 → Xc → Prop) (t : Int32) (X : Xc) : Prop := ((t ≤ (127 : Int32) → (wx_X12_write t X (fun (X4 : Xc) => Qx X4))) ∧ (¬ t ≤ (127 : Int32) → (wx_X12_write ((t &&& (127 : Int32)) ||| (128 : Int32)) X (fun (X8 : Xc) => (∀ x10 : Int32, x10 = t >>> ((7 : Int32) &&& 31) → Lx2 (x10) X8)))))
set_option maxHeartbeats 4000000 in
set_option maxRecDepth 100000 in
theorem xf_X12_writeNumber_2 {m : Nat} {ad : Nat → Nat} {σ0 : Sto} {Q : Sto → Prop} {Qx : Xc → Prop} {Lx2 : Int32 → Xc → Prop} {L2 : Int32 → Sto → Prop} (hQ : ∀ (σ' : Sto) (X' : Xc), Qx X' → RefC m ad σ' X' → Fi m ad σ0 σ' → Q σ') (hL2 : ∀ (t : Int32) (σ : Sto) (X : Xc), Lx2 t X → RefC m ad σ X → Fi m ad σ0 σ → L2 t σ) : ∀ (t : Int32) (σ : Sto) (X : Xc), RefC m ad σ X → Fi m ad σ0 σ → fx_X12_writeNumber_2  Qx Lx2 t X → f_X12_writeNumber_2 m  Q L2 t σ := by
  intro t σ X hR F h
  unfold fx_X12_writeNumber_2 at h
  unfold f_X12_writeNumber_2
  refine ⟨fun c1 => ?_, fun c1 => ?_⟩
  · have h := h.1 c1
    refine ⟨hR.1.1, ?_⟩
    refine x_X12_write hR h (fun σ3 X4 h hR F5 => ?_)
    have F := F.trans F5
    exact hQ _ _ h hR F
  · have h := h.2 c1
    refine ⟨hR.1.1, ?_⟩
    refine x_X12_write hR h (fun σ7 X8 h hR F9 => ?_)
    have F := F.trans F9
    intro x10 e11
    have h := h x10 e11
    exact hL2 _ _ _ h hR F
def wx_X12_writeNumber (p1 : Int32) (X : Xc) (Qx : Xc → Prop) : Prop := LFx (fx_X12_writeNumber_2  Qx) (p1) X
set_option maxHeartbeats 4000000 in
set_option maxRecDepth 100000 in
theorem x_X12_writeNumber {m : Nat} {ad : Nat → Nat} {p1 : Int32} {σ : Sto} {X : Xc} {Q : Sto → Prop} {Qx : Xc → Prop} (hR : RefC m ad σ X) (h : wx_X12_writeNumber p1 X Qx) (hQ : ∀ (σ' : Sto) (X' : Xc), Qx X' → RefC m ad σ' X' → Fi m ad σ σ' → Q σ') : wp_X12_writeNumber m p1 σ Q := by
  have F : Fi m ad σ σ := Fi.rf
  unfold wx_X12_writeNumber at h
  unfold wp_X12_writeNumber
  exact lfx h hR F (fun Lx L hL t σ X hR F h => xf_X12_writeNumber_2 hQ  hL t σ X hR F h)
def fx_X12_writeWord_3 (Qx : Xc → Prop) (Lx3 : Int32 × Int32 → Xc → Prop) (t : Int32 × Int32) (X : Xc) : Prop := ((t.2 < 0 → Qx X) ∧ (¬ t.2 < 0 → (wx_X12_write (t.1 >>> (t.2 &&& 31)) X (fun (X4 : Xc) => (∀ x6 : Int32, x6 = t.2 + (-8 : Int32) → Lx3 (t.1, x6) X4)))))
set_option maxHeartbeats 4000000 in
set_option maxRecDepth 100000 in
theorem xf_X12_writeWord_3 {m : Nat} {ad : Nat → Nat} {σ0 : Sto} {Q : Sto → Prop} {Qx : Xc → Prop} {Lx3 : Int32 × Int32 → Xc → Prop} {L3 : Int32 × Int32 → Sto → Prop} (hQ : ∀ (σ' : Sto) (X' : Xc), Qx X' → RefC m ad σ' X' → Fi m ad σ0 σ' → Q σ') (hL3 : ∀ (t : Int32 × Int32) (σ : Sto) (X : Xc), Lx3 t X → RefC m ad σ X → Fi m ad σ0 σ → L3 t σ) : ∀ (t : Int32 × Int32) (σ : Sto) (X : Xc), RefC m ad σ X → Fi m ad σ0 σ → fx_X12_writeWord_3  Qx Lx3 t X → f_X12_writeWord_3 m  Q L3 t σ := by
  intro t σ X hR F h
  unfold fx_X12_writeWord_3 at h
  unfold f_X12_writeWord_3
  refine ⟨fun c1 => ?_, fun c1 => ?_⟩
  · have h := h.1 c1
    exact hQ _ _ h hR F
  · have h := h.2 c1
    refine ⟨hR.1.1, ?_⟩
    refine x_X12_write hR h (fun σ3 X4 h hR F5 => ?_)
    have F := F.trans F5
    intro x6 e7
    have h := h x6 e7
    exact hL3 _ _ _ h hR F
def wx_X12_writeWord (p1 : Int32) (X : Xc) (Qx : Xc → Prop) : Prop := LFx (fx_X12_writeWord_3  Qx) (p1, (24 : Int32)) X
set_option maxHeartbeats 4000000 in
set_option maxRecDepth 100000 in
theorem x_X12_writeWord {m : Nat} {ad : Nat → Nat} {p1 : Int32} {σ : Sto} {X : Xc} {Q : Sto → Prop} {Qx : Xc → Prop} (hR : RefC m ad σ X) (h : wx_X12_writeWord p1 X Qx) (hQ : ∀ (σ' : Sto) (X' : Xc), Qx X' → RefC m ad σ' X' → Fi m ad σ σ' → Q σ') : wp_X12_writeWord m p1 σ Q := by
  have F : Fi m ad σ σ := Fi.rf
  unfold wx_X12_writeWord at h
  unfold wp_X12_writeWord
  exact lfx h hR F (fun Lx L hL t σ X hR F h => xf_X12_writeWord_3 hQ  hL t σ X hR F h)
