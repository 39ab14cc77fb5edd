def wx_X12_replyGap (p1 : Int32) (X : Xc) (Qx : Xc → Prop) : Prop := (vp_in p1 7 ∧ (∀ x1 : Int32, x1 = X.2 43 p1.toNatClampNeg → (vp_in (1 : Int32) 640 ∧ (∀ x3 : Int32, x3 = X.2 15 (1 : Int32).toNatClampNeg → (∀ x5 : Int32, x5 = x1 ||| ((1 : Int32) <<< (x3 &&& 31)) → (vp_in p1 7 ∧ (vp_in p1 7 ∧ (∀ x7 : Int32, x7 = (xA X 43 p1.toNatClampNeg x5).2 43 p1.toNatClampNeg → (wx_X12_bits x7 (xA X 43 p1.toNatClampNeg x5) (fun (x9 : Int32) (X11 : Xc) => (∀ x13 : Int32, x13 = X11.1 2 → ((x13 ≤ x9 → (vp_in p1 7 ∧ (wx_X12_takes p1 (xA X11 23 p1.toNatClampNeg (0 : Int32)) (fun (X18 : Xc) => Qx X18)))) ∧ (¬ x13 ≤ x9 → Qx X11)))))))))))))
set_option maxHeartbeats 4000000 in
set_option maxRecDepth 100000 in
theorem x_X12_replyGap {m : Nat} {ad : Nat → Nat} {p1 : Int32} {σ : Sto} {X : Xc} {Q : Sto → Prop} {Qx : Xc → Prop} (hR : RefC m ad σ X) (h : wx_X12_replyGap p1 X Qx) (hQ : ∀ (σ' : Sto) (X' : Xc), Qx X' → RefC m ad σ' X' → Fi m ad σ σ' → Q σ') : wp_X12_replyGap m p1 σ Q := by
  have F : Fi m ad σ σ := Fi.rf
  unfold wx_X12_replyGap at h
  unfold wp_X12_replyGap
  refine ⟨hR.1.1, ?_⟩
  refine ⟨ad 43, hR.P (k := 43) (by decide), ?_⟩
  refine ⟨hR.K (k := 43) (by decide), ?_⟩
  refine ⟨hR.N (k := 43) (by decide) h.1, ?_⟩
  have h := h.2
  intro x1 e2
  rw [hR.2.2 43 (by decide)] at e2
  have h := h x1 e2
  refine ⟨ad 15, hR.P (k := 15) (by decide), ?_⟩
  refine ⟨hR.K (k := 15) (by decide), ?_⟩
  refine ⟨hR.N (k := 15) (by decide) h.1, ?_⟩
  have h := h.2
  intro x3 e4
  rw [hR.2.2 15 (by decide)] at e4
  have h := h x3 e4
  intro x5 e6
  have h := h x5 e6
  refine ⟨hR.N (k := 43) (by decide) h.1, ?_⟩
  have h := h.2
  have F := F.A (k := 43) (i := p1.toNatClampNeg) (v := x5) (by decide)
  have hR := hR.A (k := 43) (i := p1.toNatClampNeg) (v := x5) (by decide)
  refine ⟨hR.N (k := 43) (by decide) h.1, ?_⟩
  have h := h.2
  intro x7 e8
  rw [hR.2.2 43 (by decide)] at e8
  have h := h x7 e8
  refine x_X12_bits hR h (fun x9 σ10 X11 h hR F12 => ?_)
  have F := F.trans F12
  refine ⟨hR.1.1, ?_⟩
  intro x13 e14
  rw [hR.2.1 2] at e14
  have h := h x13 e14
  refine ⟨fun c15 => ?_, fun c15 => ?_⟩
  · have h := h.1 c15
    refine ⟨ad 23, hR.P (k := 23) (by decide), ?_⟩
    refine ⟨hR.K (k := 23) (by decide), ?_⟩
    refine ⟨hR.N (k := 23) (by decide) h.1, ?_⟩
    have h := h.2
    have F := F.A (k := 23) (i := p1.toNatClampNeg) (v := (0 : Int32)) (by decide)
    have hR := hR.A (k := 23) (i := p1.toNatClampNeg) (v := (0 : Int32)) (by decide)
    refine x_X12_takes hR h (fun σ17 X18 h hR F19 => ?_)
    have F := F.trans F19
    exact hQ _ _ h hR F
  · have h := h.2 c15
    exact hQ _ _ h hR F
def bx_X12_replySync_17 (Qx : Xc → Prop) (p1 : Int32) (p2 : Int32) (X : Xc) : Prop := (vp_in p1 7 ∧ (vp_in p1 7 ∧ (∀ x1 : Int32, x1 = (xA X 44 p1.toNatClampNeg p2).2 45 p1.toNatClampNeg → (vp_in (1 : Int32) 640 ∧ (∀ x3 : Int32, x3 = (xA X 44 p1.toNatClampNeg p2).2 15 (1 : Int32).toNatClampNeg → (∀ x5 : Int32, x5 = x1 ||| ((1 : Int32) <<< (x3 &&& 31)) → (vp_in p1 7 ∧ (vp_in p1 7 ∧ (∀ x7 : Int32, x7 = (xA (xA X 44 p1.toNatClampNeg p2) 45 p1.toNatClampNeg x5).2 45 p1.toNatClampNeg → (wx_X12_bits x7 (xA (xA X 44 p1.toNatClampNeg p2) 45 p1.toNatClampNeg x5) (fun (x9 : Int32) (X11 : Xc) => (∀ x13 : Int32, x13 = X11.1 2 → ((x13 ≤ x9 → (vp_in p1 7 ∧ (wx_X12_tellOthers (7 : Int32) p1 p2 (xA X11 28 p1.toNatClampNeg p2) (fun (X18 : Xc) => Qx X18)))) ∧ (¬ x13 ≤ x9 → Qx X11))))))))))))))
set_option maxHeartbeats 4000000 in
set_option maxRecDepth 100000 in
theorem xb_X12_replySync_17 {m : Nat} {ad : Nat → Nat} {σ0 : Sto} {Q : Sto → Prop} {Qx : Xc → Prop} (hQ : ∀ (σ' : Sto) (X' : Xc), Qx X' → RefC m ad σ' X' → Fi m ad σ0 σ' → Q σ')  (p1 : Int32) (p2 : Int32) (σ : Sto) (X : Xc) (hR : RefC m ad σ X) (F : Fi m ad σ0 σ) (h : bx_X12_replySync_17  Qx p1 p2 X) : b_X12_replySync_17 m  Q p1 p2 σ := by
  unfold bx_X12_replySync_17 at h
  unfold b_X12_replySync_17
  refine ⟨hR.1.1, ?_⟩
  refine ⟨ad 44, hR.P (k := 44) (by decide), ?_⟩
  refine ⟨hR.K (k := 44) (by decide), ?_⟩
  refine ⟨hR.N (k := 44) (by decide) h.1, ?_⟩
  have h := h.2
  have F := F.A (k := 44) (i := p1.toNatClampNeg) (v := p2) (by decide)
  have hR := hR.A (k := 44) (i := p1.toNatClampNeg) (v := p2) (by decide)
  refine ⟨ad 45, hR.P (k := 45) (by decide), ?_⟩
  refine ⟨hR.K (k := 45) (by decide), ?_⟩
  refine ⟨hR.N (k := 45) (by decide) h.1, ?_⟩
  have h := h.2
  intro x1 e2
  rw [hR.2.2 45 (by decide)] at e2
  have h := h x1 e2
  refine ⟨ad 15, hR.P (k := 15) (by decide), ?_⟩
  refine ⟨hR.K (k := 15) (by decide), ?_⟩
  refine ⟨hR.N (k := 15) (by decide) h.1, ?_⟩
  have h := h.2
  intro x3 e4
  rw [hR.2.2 15 (by decide)] at e4
  have h := h x3 e4
  intro x5 e6
  have h := h x5 e6
  refine ⟨hR.N (k := 45) (by decide) h.1, ?_⟩
  have h := h.2
  have F := F.A (k := 45) (i := p1.toNatClampNeg) (v := x5) (by decide)
  have hR := hR.A (k := 45) (i := p1.toNatClampNeg) (v := x5) (by decide)
  refine ⟨hR.N (k := 45) (by decide) h.1, ?_⟩
  have h := h.2
  intro x7 e8
  rw [hR.2.2 45 (by decide)] at e8
  have h := h x7 e8
  refine x_X12_bits hR h (fun x9 σ10 X11 h hR F12 => ?_)
  have F := F.trans F12
  refine ⟨hR.1.1, ?_⟩
  intro x13 e14
  rw [hR.2.1 2] at e14
  have h := h x13 e14
  refine ⟨fun c15 => ?_, fun c15 => ?_⟩
  · have h := h.1 c15
    refine ⟨ad 28, hR.P (k := 28) (by decide), ?_⟩
    refine ⟨hR.K (k := 28) (by decide), ?_⟩
    refine ⟨hR.N (k := 28) (by decide) h.1, ?_⟩
    have h := h.2
    have F := F.A (k := 28) (i := p1.toNatClampNeg) (v := p2) (by decide)
    have hR := hR.A (k := 28) (i := p1.toNatClampNeg) (v := p2) (by decide)
    refine x_X12_tellOthers hR h (fun σ17 X18 h hR F19 => ?_)
    have F := F.trans F19
    exact hQ _ _ h hR F
  · have h := h.2 c15
    exact hQ _ _ h hR F
def wx_X12_replySync (p1 : Int32) (p2 : Int32) (X : Xc) (Qx : Xc → Prop) : Prop := (vp_in p1 7 ∧ (∀ x1 : Int32, x1 = X.2 44 p1.toNatClampNeg → ((x1 = p2 → bx_X12_replySync_17  Qx p1 p2 X) ∧ (¬ x1 = p2 → (vp_in p1 7 ∧ bx_X12_replySync_17  Qx p1 p2 (xA X 45 p1.toNatClampNeg (0 : Int32)))))))
set_option maxHeartbeats 4000000 in
set_option maxRecDepth 100000 in
theorem x_X12_replySync {m : Nat} {ad : Nat → Nat} {p1 : Int32} {p2 : Int32} {σ : Sto} {X : Xc} {Q : Sto → Prop} {Qx : Xc → Prop} (hR : RefC m ad σ X) (h : wx_X12_replySync p1 p2 X Qx) (hQ : ∀ (σ' : Sto) (X' : Xc), Qx X' → RefC m ad σ' X' → Fi m ad σ σ' → Q σ') : wp_X12_replySync m p1 p2 σ Q := by
  have F : Fi m ad σ σ := Fi.rf
  unfold wx_X12_replySync at h
  unfold wp_X12_replySync
  refine ⟨hR.1.1, ?_⟩
  refine ⟨ad 44, hR.P (k := 44) (by decide), ?_⟩
  refine ⟨hR.K (k := 44) (by decide), ?_⟩
  refine ⟨hR.N (k := 44) (by decide) h.1, ?_⟩
  have h := h.2
  intro x1 e2
  rw [hR.2.2 44 (by decide)] at e2
  have h := h x1 e2
  refine ⟨fun c3 => ?_, fun c3 => ?_⟩
  · have h := h.1 c3
    exact xb_X12_replySync_17 hQ  p1 p2 _ _ hR F h
  · have h := h.2 c3
    refine ⟨ad 45, hR.P (k := 45) (by decide), ?_⟩
    refine ⟨hR.K (k := 45) (by decide), ?_⟩
    refine ⟨hR.N (k := 45) (by decide) h.1, ?_⟩
    have h := h.2
    have F := F.A (k := 45) (i := p1.toNatClampNeg) (v := (0 : Int32)) (by decide)
    have hR := hR.A (k := 45) (i := p1.toNatClampNeg) (v := (0 : Int32)) (by decide)
    exact xb_X12_replySync_17 hQ  p1 p2 _ _ hR F h
def bx_X12_getsInView_241 (Qx : Xc → Prop) (p1 : Int32) (p3 : Int32) (s0 : Int32) (s1 : Int32) (X : Xc) : Prop := (vp_in s1 7 ∧ (wx_X12_leader p1 (xA X 29 s1.toNatClampNeg s0) (fun (x1 : Int32) (X3 : Xc) => (wx_X12_tell (6 : Int32) p1 x1 p3 X3 (fun (X7 : Xc) => Qx X7)))))
set_option maxHeartbeats 4000000 in
set_option maxRecDepth 100000 in
theorem xb_X12_getsInView_241 {m : Nat} {ad : Nat → Nat} {σ0 : Sto} {Q : Sto → Prop} {Qx : Xc → Prop} (hQ : ∀ (σ' : Sto) (X' : Xc), Qx X' → RefC m ad σ' X' → Fi m ad σ0 σ' → Q σ')  (p1 : Int32) (p3 : Int32) (s0 : Int32) (s1 : Int32) (σ : Sto) (X : Xc) (hR : RefC m ad σ X) (F : Fi m ad σ0 σ) (h : bx_X12_getsInView_241  Qx p1 p3 s0 s1 X) : b_X12_getsInView_241 m  Q p1 p3 s0 s1 (some (ad 29)) σ := by
  unfold bx_X12_getsInView_241 at h
  unfold b_X12_getsInView_241
  refine ⟨ad 29, rfl, ?_⟩
  refine ⟨hR.K (k := 29) (by decide), ?_⟩
  refine ⟨hR.N (k := 29) (by decide) h.1, ?_⟩
  have h := h.2
  have F := F.A (k := 29) (i := s1.toNatClampNeg) (v := s0) (by decide)
  have hR := hR.A (k := 29) (i := s1.toNatClampNeg) (v := s0) (by decide)
  refine ⟨hR.1.1, ?_⟩
  refine x_X12_leader hR h (fun x1 σ2 X3 h hR F4 => ?_)
  have F := F.trans F4
  refine ⟨hR.1.1, ?_⟩
  refine x_X12_tell hR h (fun σ6 X7 h hR F8 => ?_)
  have F := F.trans F8
  exact hQ _ _ h hR F
def wx_X12_getsInView (p1 : Int32) (p2 : Int32) (X : Xc) (Qx : Xc → Prop) : Prop := (vp_in (5 : Int32) 640 ∧ (∀ x1 : Int32, x1 = X.2 15 (5 : Int32).toNatClampNeg → ((p2.toInt < 1 ∨ 6 < p2.toInt → (wx_X12_leads p1 X (fun (x4 : Int32) (X6 : Xc) => ((¬ x4 = 0 → Qx X6) ∧ (x4 = 0 → (vp_in p1 7 ∧ (∀ x9 : Int32, x9 = X6.2 23 p1.toNatClampNeg → ((x9 = (2 : Int32) → Qx X6) ∧ (¬ x9 = (2 : Int32) → (vp_in p1 7 ∧ (∀ x12 : Int32, x12 = X6.2 28 p1.toNatClampNeg → ((x1 ≤ x12 → Qx X6) ∧ (¬ x1 ≤ x12 → (vp_in p1 7 ∧ (∀ x15 : Int32, x15 = X6.2 29 p1.toNatClampNeg → ((x15 < x1 → Qx X6) ∧ (¬ x15 < x1 → (vp_in p1 7 ∧ Qx (xA X6 28 p1.toNatClampNeg x1))))))))))))))))))) ∧ (p2 = (1 : Int32) → (wx_X12_leads p1 X (fun (x18 : Int32) (X20 : Xc) => ((x18 = 0 → Qx X20) ∧ (¬ x18 = 0 → (vp_in p1 7 ∧ (∀ x23 : Int32, x23 = X20.2 23 p1.toNatClampNeg → ((x23 = (2 : Int32) → Qx X20) ∧ (¬ x23 = (2 : Int32) → (wx_X12_lookUp p1 x1 X20 (fun (X28 : Xc) => Qx X28))))))))))) ∧ (p2 = (2 : Int32) → (vp_in p1 7 ∧ (∀ x30 : Int32, x30 = X.2 23 p1.toNatClampNeg → ((¬ x30 = 0 → Qx X) ∧ (x30 = 0 → (vp_in p1 7 ∧ (∀ x33 : Int32, x33 = X.2 26 p1.toNatClampNeg → ((¬ x1 = (x33 + (1 : Int32)) → Qx X) ∧ (x1 = (x33 + (1 : Int32)) → (vp_in p1 7 ∧ (∀ x36 : Int32, x36 = X.2 27 p1.toNatClampNeg → (wx_X12_hold p1 (x1 - x36) (6 : Int32) X (fun (X40 : Xc) => (wx_X12_takes p1 X40 (fun (X44 : Xc) => Qx X44))))))))))))))) ∧ (p2 = (3 : Int32) → (wx_X12_leads p1 X (fun (x46 : Int32) (X48 : Xc) => ((¬ x46 = 0 → Qx X48) ∧ (x46 = 0 → (vp_in p1 7 ∧ (∀ x51 : Int32, x51 = X48.2 23 p1.toNatClampNeg → ((¬ x51 = 0 → Qx X48) ∧ (x51 = 0 → (wx_X12_commitGap p1 x1 X48 (fun (X56 : Xc) => Qx X56))))))))))) ∧ (p2 = (4 : Int32) → (wx_X12_leads p1 X (fun (x58 : Int32) (X60 : Xc) => ((x58 = 0 → Qx X60) ∧ (¬ x58 = 0 → (vp_in p1 7 ∧ (∀ x63 : Int32, x63 = X60.2 23 p1.toNatClampNeg → ((¬ x63 = (1 : Int32) → Qx X60) ∧ (x63 = (1 : Int32) → (vp_in p1 7 ∧ (∀ x66 : Int32, x66 = X60.2 26 p1.toNatClampNeg → ((¬ x1 = x66 → Qx X60) ∧ (x1 = x66 → (wx_X12_replyGap p1 X60 (fun (X71 : Xc) => Qx X71))))))))))))))) ∧ (p2 = (5 : Int32) → (wx_X12_leads p1 X (fun (x73 : Int32) (X75 : Xc) => ((¬ x73 = 0 → Qx X75) ∧ (x73 = 0 → (vp_in p1 7 ∧ (∀ x78 : Int32, x78 = X75.2 23 p1.toNatClampNeg → ((¬ x78 = 0 → Qx X75) ∧ (x78 = 0 → (vp_in p1 7 ∧ (∀ x81 : Int32, x81 = X75.2 26 p1.toNatClampNeg → ((x81 < x1 → Qx X75) ∧ (¬ x81 < x1 → (wx_X12_readEntries p1 x1 (6 : Int32) X75 (fun (X86 : Xc) => (vp_in p1 7 ∧ (∀ x88 : Int32, x88 = X86.2 29 p1.toNatClampNeg → ((x1 ≤ x88 → (vp_in p1 7 ∧ (∀ x91 : Int32, x91 = X86.2 29 p1.toNatClampNeg → bx_X12_getsInView_241  Qx p1 x1 x91 p1 X86))) ∧ (¬ x1 ≤ x88 → bx_X12_getsInView_241  Qx p1 x1 x1 p1 X86))))))))))))))))))) ∧ (p2 = (6 : Int32) → (wx_X12_leads p1 X (fun (x93 : Int32) (X95 : Xc) => ((x93 = 0 → Qx X95) ∧ (¬ x93 = 0 → (vp_in p1 7 ∧ (∀ x98 : Int32, x98 = X95.2 23 p1.toNatClampNeg → ((x98 = (2 : Int32) → Qx X95) ∧ (¬ x98 = (2 : Int32) → (vp_in p1 7 ∧ (∀ x101 : Int32, x101 = X95.2 28 p1.toNatClampNeg → ((x1 ≤ x101 → Qx X95) ∧ (¬ x1 ≤ x101 → (wx_X12_replySync p1 x1 X95 (fun (X106 : Xc) => Qx X106))))))))))))))))))
set_option maxHeartbeats 4000000 in
set_option maxRecDepth 100000 in
theorem x_X12_getsInView {m : Nat} {ad : Nat → Nat} {p1 : Int32} {p2 : Int32} {σ : Sto} {X : Xc} {Q : Sto → Prop} {Qx : Xc → Prop} (hR : RefC m ad σ X) (h : wx_X12_getsInView p1 p2 X Qx) (hQ : ∀ (σ' : Sto) (X' : Xc), Qx X' → RefC m ad σ' X' → Fi m ad σ σ' → Q σ') : wp_X12_getsInView m p1 p2 σ Q := by
  have F : Fi m ad σ σ := Fi.rf
  unfold wx_X12_getsInView at h
  unfold wp_X12_getsInView
  refine ⟨hR.1.1, ?_⟩
  refine ⟨ad 15, hR.P (k := 15) (by decide), ?_⟩
  refine ⟨hR.K (k := 15) (by decide), ?_⟩
  refine ⟨hR.N (k := 15) (by decide) h.1, ?_⟩
  have h := h.2
  intro x1 e2
  rw [hR.2.2 15 (by decide)] at e2
  have h := h x1 e2
  refine ⟨fun c3 => ?_, fun c3 => ?_, fun c3 => ?_, fun c3 => ?_, fun c3 => ?_, fun c3 => ?_, fun c3 => ?_⟩
  · have h := h.1 c3
    refine x_X12_leads hR h (fun x4 σ5 X6 h hR F7 => ?_)
    have F := F.trans F7
    refine ⟨fun c8 => ?_, fun c8 => ?_⟩
    · have h := h.1 c8
      exact hQ _ _ h hR F
    · have h := h.2 c8
      refine ⟨hR.1.1, ?_⟩
      refine ⟨ad 23, hR.P (k := 23) (by decide), ?_⟩
      refine ⟨hR.K (k := 23) (by decide), ?_⟩
      refine ⟨hR.N (k := 23) (by decide) h.1, ?_⟩
      have h := h.2
      intro x9 e10
      rw [hR.2.2 23 (by decide)] at e10
      have h := h x9 e10
      refine ⟨fun c11 => ?_, fun c11 => ?_⟩
      · have h := h.1 c11
        exact hQ _ _ h hR F
      · have h := h.2 c11
        refine ⟨ad 28, hR.P (k := 28) (by decide), ?_⟩
        refine ⟨hR.K (k := 28) (by decide), ?_⟩
        refine ⟨hR.N (k := 28) (by decide) h.1, ?_⟩
        have h := h.2
        intro x12 e13
        rw [hR.2.2 28 (by decide)] at e13
        have h := h x12 e13
        refine ⟨fun c14 => ?_, fun c14 => ?_⟩
        · have h := h.1 c14
          exact hQ _ _ h hR F
        · have h := h.2 c14
          refine ⟨ad 29, hR.P (k := 29) (by decide), ?_⟩
          refine ⟨hR.K (k := 29) (by decide), ?_⟩
          refine ⟨hR.N (k := 29) (by decide) h.1, ?_⟩
          have h := h.2
          intro x15 e16
          rw [hR.2.2 29 (by decide)] at e16
          have h := h x15 e16
          refine ⟨fun c17 => ?_, fun c17 => ?_⟩
          · have h := h.1 c17
            exact hQ _ _ h hR F
          · have h := h.2 c17
            refine ⟨hR.N (k := 28) (by decide) h.1, ?_⟩
            have h := h.2
            have F := F.A (k := 28) (i := p1.toNatClampNeg) (v := x1) (by decide)
            have hR := hR.A (k := 28) (i := p1.toNatClampNeg) (v := x1) (by decide)
            exact hQ _ _ h hR F
  · have h := h.2.1 c3
    refine x_X12_leads hR h (fun x18 σ19 X20 h hR F21 => ?_)
    have F := F.trans F21
    refine ⟨fun c22 => ?_, fun c22 => ?_⟩
    · have h := h.1 c22
      exact hQ _ _ h hR F
    · have h := h.2 c22
      refine ⟨hR.1.1, ?_⟩
      refine ⟨ad 23, hR.P (k := 23) (by decide), ?_⟩
      refine ⟨hR.K (k := 23) (by decide), ?_⟩
      refine ⟨hR.N (k := 23) (by decide) h.1, ?_⟩
      have h := h.2
      intro x23 e24
      rw [hR.2.2 23 (by decide)] at e24
      have h := h x23 e24
      refine ⟨fun c25 => ?_, fun c25 => ?_⟩
      · have h := h.1 c25
        exact hQ _ _ h hR F
      · have h := h.2 c25
        refine x_X12_lookUp hR h (fun σ27 X28 h hR F29 => ?_)
        have F := F.trans F29
        exact hQ _ _ h hR F
  · have h := h.2.2.1 c3
    refine ⟨ad 23, hR.P (k := 23) (by decide), ?_⟩
    refine ⟨hR.K (k := 23) (by decide), ?_⟩
    refine ⟨hR.N (k := 23) (by decide) h.1, ?_⟩
    have h := h.2
    intro x30 e31
    rw [hR.2.2 23 (by decide)] at e31
    have h := h x30 e31
    refine ⟨fun c32 => ?_, fun c32 => ?_⟩
    · have h := h.1 c32
      exact hQ _ _ h hR F
    · have h := h.2 c32
      refine ⟨ad 26, hR.P (k := 26) (by decide), ?_⟩
      refine ⟨hR.K (k := 26) (by decide), ?_⟩
      refine ⟨hR.N (k := 26) (by decide) h.1, ?_⟩
      have h := h.2
      intro x33 e34
      rw [hR.2.2 26 (by decide)] at e34
      have h := h x33 e34
      refine ⟨fun c35 => ?_, fun c35 => ?_⟩
      · have h := h.1 c35
        exact hQ _ _ h hR F
      · have h := h.2 c35
        refine ⟨ad 27, hR.P (k := 27) (by decide), ?_⟩
        refine ⟨hR.K (k := 27) (by decide), ?_⟩
        refine ⟨hR.N (k := 27) (by decide) h.1, ?_⟩
        have h := h.2
        intro x36 e37
        rw [hR.2.2 27 (by decide)] at e37
        have h := h x36 e37
        refine x_X12_hold hR h (fun σ39 X40 h hR F41 => ?_)
        have F := F.trans F41
        refine ⟨hR.1.1, ?_⟩
        refine x_X12_takes hR h (fun σ43 X44 h hR F45 => ?_)
        have F := F.trans F45
        exact hQ _ _ h hR F
  · have h := h.2.2.2.1 c3
    refine x_X12_leads hR h (fun x46 σ47 X48 h hR F49 => ?_)
    have F := F.trans F49
    refine ⟨fun c50 => ?_, fun c50 => ?_⟩
    · have h := h.1 c50
      exact hQ _ _ h hR F
    · have h := h.2 c50
      refine ⟨hR.1.1, ?_⟩
      refine ⟨ad 23, hR.P (k := 23) (by decide), ?_⟩
      refine ⟨hR.K (k := 23) (by decide), ?_⟩
      refine ⟨hR.N (k := 23) (by decide) h.1, ?_⟩
      have h := h.2
      intro x51 e52
      rw [hR.2.2 23 (by decide)] at e52
      have h := h x51 e52
      refine ⟨fun c53 => ?_, fun c53 => ?_⟩
      · have h := h.1 c53
        exact hQ _ _ h hR F
      · have h := h.2 c53
        refine x_X12_commitGap hR h (fun σ55 X56 h hR F57 => ?_)
        have F := F.trans F57
        exact hQ _ _ h hR F
  · have h := h.2.2.2.2.1 c3
    refine x_X12_leads hR h (fun x58 σ59 X60 h hR F61 => ?_)
    have F := F.trans F61
    refine ⟨fun c62 => ?_, fun c62 => ?_⟩
    · have h := h.1 c62
      exact hQ _ _ h hR F
    · have h := h.2 c62
      refine ⟨hR.1.1, ?_⟩
      refine ⟨ad 23, hR.P (k := 23) (by decide), ?_⟩
      refine ⟨hR.K (k := 23) (by decide), ?_⟩
      refine ⟨hR.N (k := 23) (by decide) h.1, ?_⟩
      have h := h.2
      intro x63 e64
      rw [hR.2.2 23 (by decide)] at e64
      have h := h x63 e64
      refine ⟨fun c65 => ?_, fun c65 => ?_⟩
      · have h := h.1 c65
        exact hQ _ _ h hR F
      · have h := h.2 c65
        refine ⟨ad 26, hR.P (k := 26) (by decide), ?_⟩
        refine ⟨hR.K (k := 26) (by decide), ?_⟩
        refine ⟨hR.N (k := 26) (by decide) h.1, ?_⟩
        have h := h.2
        intro x66 e67
        rw [hR.2.2 26 (by decide)] at e67
        have h := h x66 e67
        refine ⟨fun c68 => ?_, fun c68 => ?_⟩
        · have h := h.1 c68
          exact hQ _ _ h hR F
        · have h := h.2 c68
          refine x_X12_replyGap hR h (fun σ70 X71 h hR F72 => ?_)
          have F := F.trans F72
          exact hQ _ _ h hR F
  · have h := h.2.2.2.2.2.1 c3
    refine x_X12_leads hR h (fun x73 σ74 X75 h hR F76 => ?_)
    have F := F.trans F76
    refine ⟨fun c77 => ?_, fun c77 => ?_⟩
    · have h := h.1 c77
      exact hQ _ _ h hR F
    · have h := h.2 c77
      refine ⟨hR.1.1, ?_⟩
      refine ⟨ad 23, hR.P (k := 23) (by decide), ?_⟩
      refine ⟨hR.K (k := 23) (by decide), ?_⟩
      refine ⟨hR.N (k := 23) (by decide) h.1, ?_⟩
      have h := h.2
      intro x78 e79
      rw [hR.2.2 23 (by decide)] at e79
      have h := h x78 e79
      refine ⟨fun c80 => ?_, fun c80 => ?_⟩
      · have h := h.1 c80
        exact hQ _ _ h hR F
      · have h := h.2 c80
        refine ⟨ad 26, hR.P (k := 26) (by decide), ?_⟩
        refine ⟨hR.K (k := 26) (by decide), ?_⟩
        refine ⟨hR.N (k := 26) (by decide) h.1, ?_⟩
        have h := h.2
        intro x81 e82
        rw [hR.2.2 26 (by decide)] at e82
        have h := h x81 e82
        refine ⟨fun c83 => ?_, fun c83 => ?_⟩
        · have h := h.1 c83
          exact hQ _ _ h hR F
        · have h := h.2 c83
          refine x_X12_readEntries hR h (fun σ85 X86 h hR F87 => ?_)
          have F := F.trans F87
          refine ⟨hR.1.1, ?_⟩
          refine ⟨ad 29, hR.P (k := 29) (by decide), ?_⟩
          refine ⟨hR.K (k := 29) (by decide), ?_⟩
          refine ⟨hR.N (k := 29) (by decide) h.1, ?_⟩
          have h := h.2
          intro x88 e89
          rw [hR.2.2 29 (by decide)] at e89
          have h := h x88 e89
          refine ⟨fun c90 => ?_, fun c90 => ?_⟩
          · have h := h.1 c90
            refine ⟨hR.N (k := 29) (by decide) h.1, ?_⟩
            have h := h.2
            intro x91 e92
            rw [hR.2.2 29 (by decide)] at e92
            have h := h x91 e92
            rw [hR.P (k := 29) (by decide)]
            exact xb_X12_getsInView_241 hQ  p1 x1 x91 p1 _ _ hR F h
          · have h := h.2 c90
            rw [hR.P (k := 29) (by decide)]
            exact xb_X12_getsInView_241 hQ  p1 x1 x1 p1 _ _ hR F h
  · have h := h.2.2.2.2.2.2 c3
    refine x_X12_leads hR h (fun x93 σ94 X95 h hR F96 => ?_)
    have F := F.trans F96
    refine ⟨fun c97 => ?_, fun c97 => ?_⟩
    · have h := h.1 c97
      exact hQ _ _ h hR F
    · have h := h.2 c97
      refine ⟨hR.1.1, ?_⟩
      refine ⟨ad 23, hR.P (k := 23) (by decide), ?_⟩
      refine ⟨hR.K (k := 23) (by decide), ?_⟩
      refine ⟨hR.N (k := 23) (by decide) h.1, ?_⟩
      have h := h.2
      intro x98 e99
      rw [hR.2.2 23 (by decide)] at e99
      have h := h x98 e99
      refine ⟨fun c100 => ?_, fun c100 => ?_⟩
      · have h := h.1 c100
        exact hQ _ _ h hR F
      · have h := h.2 c100
        refine ⟨ad 28, hR.P (k := 28) (by decide), ?_⟩
        refine ⟨hR.K (k := 28) (by decide), ?_⟩
        refine ⟨hR.N (k := 28) (by decide) h.1, ?_⟩
        have h := h.2
        intro x101 e102
        rw [hR.2.2 28 (by decide)] at e102
        have h := h x101 e102
        refine ⟨fun c103 => ?_, fun c103 => ?_⟩
        · have h := h.1 c103
          exact hQ _ _ h hR F
        · have h := h.2 c103
          refine x_X12_replySync hR h (fun σ105 X106 h hR F107 => ?_)
          have F := F.trans F107
          exact hQ _ _ h hR F
def bx_X12_replicaGets_93 (Qx : Xc → Prop) (p1 : Int32) (X : Xc) : Prop := (vp_in (3 : Int32) 640 ∧ (∀ x1 : Int32, x1 = X.2 15 (3 : Int32).toNatClampNeg → (vp_in (4 : Int32) 640 ∧ (∀ x3 : Int32, x3 = X.2 15 (4 : Int32).toNatClampNeg → (wx_X12_joins p1 x1 x3 X (fun (X7 : Xc) => Qx X7))))))
set_option maxHeartbeats 4000000 in
set_option maxRecDepth 100000 in
theorem xb_X12_replicaGets_93 {m : Nat} {ad : Nat → Nat} {σ0 : Sto} {Q : Sto → Prop} {Qx : Xc → Prop} (hQ : ∀ (σ' : Sto) (X' : Xc), Qx X' → RefC m ad σ' X' → Fi m ad σ0 σ' → Q σ')  (p1 : Int32) (σ : Sto) (X : Xc) (hR : RefC m ad σ X) (F : Fi m ad σ0 σ) (h : bx_X12_replicaGets_93  Qx p1 X) : b_X12_replicaGets_93 m  Q p1 σ := by
  unfold bx_X12_replicaGets_93 at h
  unfold b_X12_replicaGets_93
  refine ⟨hR.1.1, ?_⟩
  refine ⟨ad 15, hR.P (k := 15) (by decide), ?_⟩
  refine ⟨hR.K (k := 15) (by decide), ?_⟩
  refine ⟨hR.N (k := 15) (by decide) h.1, ?_⟩
  have h := h.2
  intro x1 e2
  rw [hR.2.2 15 (by decide)] at e2
  have h := h x1 e2
  refine ⟨hR.N (k := 15) (by decide) h.1, ?_⟩
  have h := h.2
  intro x3 e4
  rw [hR.2.2 15 (by decide)] at e4
  have h := h x3 e4
  refine x_X12_joins hR h (fun σ6 X7 h hR F8 => ?_)
  have F := F.trans F8
  exact hQ _ _ h hR F
def bx_X12_replicaGets_81 (Qx : Xc → Prop) (p1 : Int32) (p2 : Int32) (p3 : Int32) (X : Xc) : Prop := ((p2 = (8 : Int32) → bx_X12_replicaGets_93  Qx p1 X) ∧ (¬ p2 = (8 : Int32) → ((¬ p2 = (12 : Int32) → ((¬ p2 = (9 : Int32) → ((¬ p2 = (10 : Int32) → ((p3 = 0 → Qx X) ∧ (¬ p3 = 0 → (wx_X12_getsInView p1 p2 X (fun (X8 : Xc) => Qx X8))))) ∧ (p2 = (10 : Int32) → (wx_X12_getsStart p1 p3 X (fun (X12 : Xc) => Qx X12))))) ∧ (p2 = (9 : Int32) → (wx_X12_getsTurned p1 X (fun (X16 : Xc) => Qx X16))))) ∧ (p2 = (12 : Int32) → bx_X12_replicaGets_93  Qx p1 X))))
set_option maxHeartbeats 4000000 in
set_option maxRecDepth 100000 in
theorem xb_X12_replicaGets_81 {m : Nat} {ad : Nat → Nat} {σ0 : Sto} {Q : Sto → Prop} {Qx : Xc → Prop} (hQ : ∀ (σ' : Sto) (X' : Xc), Qx X' → RefC m ad σ' X' → Fi m ad σ0 σ' → Q σ')  (p1 : Int32) (p2 : Int32) (p3 : Int32) (σ : Sto) (X : Xc) (hR : RefC m ad σ X) (F : Fi m ad σ0 σ) (h : bx_X12_replicaGets_81  Qx p1 p2 p3 X) : b_X12_replicaGets_81 m  Q p1 p2 p3 σ := by
  unfold bx_X12_replicaGets_81 at h
  unfold b_X12_replicaGets_81
  refine ⟨fun c1 => ?_, fun c1 => ?_⟩
  · have h := h.1 c1
    exact xb_X12_replicaGets_93 hQ  p1 _ _ hR F h
  · have h := h.2 c1
    refine ⟨fun c2 => ?_, fun c2 => ?_⟩
    · have h := h.1 c2
      refine ⟨fun c3 => ?_, fun c3 => ?_⟩
      · have h := h.1 c3
        refine ⟨fun c4 => ?_, fun c4 => ?_⟩
        · have h := h.1 c4
          refine ⟨fun c5 => ?_, fun c5 => ?_⟩
          · have h := h.1 c5
            exact hQ _ _ h hR F
          · have h := h.2 c5
            refine ⟨hR.1.1, ?_⟩
            refine x_X12_getsInView hR h (fun σ7 X8 h hR F9 => ?_)
            have F := F.trans F9
            exact hQ _ _ h hR F
        · have h := h.2 c4
          refine ⟨hR.1.1, ?_⟩
          refine x_X12_getsStart hR h (fun σ11 X12 h hR F13 => ?_)
          have F := F.trans F13
          exact hQ _ _ h hR F
      · have h := h.2 c3
        refine ⟨hR.1.1, ?_⟩
        refine x_X12_getsTurned hR h (fun σ15 X16 h hR F17 => ?_)
        have F := F.trans F17
        exact hQ _ _ h hR F
    · have h := h.2 c2
      exact xb_X12_replicaGets_93 hQ  p1 _ _ hR F h
def bx_X12_replicaGets_52 (Qx : Xc → Prop) (p1 : Int32) (p2 : Int32) (s0 : Int32) (X : Xc) : Prop := ((s0 = 0 → bx_X12_replicaGets_81  Qx p1 p2 s0 X) ∧ (¬ s0 = 0 → (vp_in (1 : Int32) 640 ∧ (∀ x2 : Int32, x2 = X.2 15 (1 : Int32).toNatClampNeg → (wx_X12_leader p1 X (fun (x4 : Int32) (X6 : Xc) => ((¬ x2 = x4 → bx_X12_replicaGets_81  Qx p1 p2 s0 X6) ∧ (x2 = x4 → (∀ x9 : Int32, x9 = X6.1 4 → (vp_in p1 7 ∧ bx_X12_replicaGets_81  Qx p1 p2 s0 (xA X6 57 p1.toNatClampNeg x9)))))))))))
set_option maxHeartbeats 4000000 in
set_option maxRecDepth 100000 in
theorem xb_X12_replicaGets_52 {m : Nat} {ad : Nat → Nat} {σ0 : Sto} {Q : Sto → Prop} {Qx : Xc → Prop} (hQ : ∀ (σ' : Sto) (X' : Xc), Qx X' → RefC m ad σ' X' → Fi m ad σ0 σ' → Q σ')  (p1 : Int32) (p2 : Int32) (s0 : Int32) (σ : Sto) (X : Xc) (hR : RefC m ad σ X) (F : Fi m ad σ0 σ) (h : bx_X12_replicaGets_52  Qx p1 p2 s0 X) : b_X12_replicaGets_52 m  Q p1 p2 s0 σ := by
  unfold bx_X12_replicaGets_52 at h
  unfold b_X12_replicaGets_52
  refine ⟨fun c1 => ?_, fun c1 => ?_⟩
  · have h := h.1 c1
    exact xb_X12_replicaGets_81 hQ  p1 p2 s0 _ _ hR F h
  · have h := h.2 c1
    refine ⟨hR.1.1, ?_⟩
    refine ⟨ad 15, hR.P (k := 15) (by decide), ?_⟩
    refine ⟨hR.K (k := 15) (by decide), ?_⟩
    refine ⟨hR.N (k := 15) (by decide) h.1, ?_⟩
    have h := h.2
    intro x2 e3
    rw [hR.2.2 15 (by decide)] at e3
    have h := h x2 e3
    refine x_X12_leader hR h (fun x4 σ5 X6 h hR F7 => ?_)
    have F := F.trans F7
    refine ⟨fun c8 => ?_, fun c8 => ?_⟩
    · have h := h.1 c8
      exact xb_X12_replicaGets_81 hQ  p1 p2 s0 _ _ hR F h
    · have h := h.2 c8
      refine ⟨hR.1.1, ?_⟩
      intro x9 e10
      rw [hR.2.1 4] at e10
      have h := h x9 e10
      refine ⟨ad 57, hR.P (k := 57) (by decide), ?_⟩
      refine ⟨hR.K (k := 57) (by decide), ?_⟩
      refine ⟨hR.N (k := 57) (by decide) h.1, ?_⟩
      have h := h.2
      have F := F.A (k := 57) (i := p1.toNatClampNeg) (v := x9) (by decide)
      have hR := hR.A (k := 57) (i := p1.toNatClampNeg) (v := x9) (by decide)
      exact xb_X12_replicaGets_81 hQ  p1 p2 s0 _ _ hR F h
def bx_X12_replicaGets_51 (Qx : Xc → Prop) (p1 : Int32) (p2 : Int32) (X : Xc) : Prop := bx_X12_replicaGets_52  Qx p1 p2 (0 : Int32) X
set_option maxHeartbeats 4000000 in
set_option maxRecDepth 100000 in
theorem xb_X12_replicaGets_51 {m : Nat} {ad : Nat → Nat} {σ0 : Sto} {Q : Sto → Prop} {Qx : Xc → Prop} (hQ : ∀ (σ' : Sto) (X' : Xc), Qx X' → RefC m ad σ' X' → Fi m ad σ0 σ' → Q σ')  (p1 : Int32) (p2 : Int32) (σ : Sto) (X : Xc) (hR : RefC m ad σ X) (F : Fi m ad σ0 σ) (h : bx_X12_replicaGets_51  Qx p1 p2 X) : b_X12_replicaGets_51 m  Q p1 p2 σ := by
  unfold bx_X12_replicaGets_51 at h
  unfold b_X12_replicaGets_51
  exact xb_X12_replicaGets_52 hQ  p1 p2 (0 : Int32) _ _ hR F h
def wx_X12_replicaGets (p1 : Int32) (X : Xc) (Qx : Xc → Prop) : Prop := (vp_in (0 : Int32) 640 ∧ (∀ x1 : Int32, x1 = X.2 15 (0 : Int32).toNatClampNeg → ((¬ x1 = 0 → (vp_in (3 : Int32) 640 ∧ (∀ x4 : Int32, x4 = X.2 15 (3 : Int32).toNatClampNeg → (vp_in p1 7 ∧ (∀ x6 : Int32, x6 = X.2 21 p1.toNatClampNeg → ((¬ x4 = x6 → bx_X12_replicaGets_51  Qx p1 x1 X) ∧ (x4 = x6 → (vp_in (4 : Int32) 640 ∧ (∀ x9 : Int32, x9 = X.2 15 (4 : Int32).toNatClampNeg → (vp_in p1 7 ∧ (∀ x11 : Int32, x11 = X.2 22 p1.toNatClampNeg → ((¬ x9 = x11 → bx_X12_replicaGets_51  Qx p1 x1 X) ∧ (x9 = x11 → bx_X12_replicaGets_52  Qx p1 x1 (1 : Int32) X))))))))))))) ∧ (x1 = 0 → (wx_X12_getsStamped p1 X (fun (X16 : Xc) => Qx X16))))))
set_option maxHeartbeats 4000000 in
set_option maxRecDepth 100000 in
theorem x_X12_replicaGets {m : Nat} {ad : Nat → Nat} {p1 : Int32} {σ : Sto} {X : Xc} {Q : Sto → Prop} {Qx : Xc → Prop} (hR : RefC m ad σ X) (h : wx_X12_replicaGets p1 X Qx) (hQ : ∀ (σ' : Sto) (X' : Xc), Qx X' → RefC m ad σ' X' → Fi m ad σ σ' → Q σ') : wp_X12_replicaGets m p1 σ Q := by
  have F : Fi m ad σ σ := Fi.rf
  unfold wx_X12_replicaGets at h
  unfold wp_X12_replicaGets
  refine ⟨hR.1.1, ?_⟩
  refine ⟨ad 15, hR.P (k := 15) (by decide), ?_⟩
  refine ⟨hR.K (k := 15) (by decide), ?_⟩
  refine ⟨hR.N (k := 15) (by decide) h.1, ?_⟩
  have h := h.2
  intro x1 e2
  rw [hR.2.2 15 (by decide)] at e2
  have h := h x1 e2
  refine ⟨fun c3 => ?_, fun c3 => ?_⟩
  · have h := h.1 c3
    refine ⟨hR.N (k := 15) (by decide) h.1, ?_⟩
    have h := h.2
    intro x4 e5
    rw [hR.2.2 15 (by decide)] at e5
    have h := h x4 e5
    refine ⟨ad 21, hR.P (k := 21) (by decide), ?_⟩
    refine ⟨hR.K (k := 21) (by decide), ?_⟩
    refine ⟨hR.N (k := 21) (by decide) h.1, ?_⟩
    have h := h.2
    intro x6 e7
    rw [hR.2.2 21 (by decide)] at e7
    have h := h x6 e7
    refine ⟨fun c8 => ?_, fun c8 => ?_⟩
    · have h := h.1 c8
      exact xb_X12_replicaGets_51 hQ  p1 x1 _ _ hR F h
    · have h := h.2 c8
      refine ⟨hR.N (k := 15) (by decide) h.1, ?_⟩
      have h := h.2
      intro x9 e10
      rw [hR.2.2 15 (by decide)] at e10
      have h := h x9 e10
      refine ⟨ad 22, hR.P (k := 22) (by decide), ?_⟩
      refine ⟨hR.K (k := 22) (by decide), ?_⟩
      refine ⟨hR.N (k := 22) (by decide) h.1, ?_⟩
      have h := h.2
      intro x11 e12
      rw [hR.2.2 22 (by decide)] at e12
      have h := h x11 e12
      refine ⟨fun c13 => ?_, fun c13 => ?_⟩
      · have h := h.1 c13
        exact xb_X12_replicaGets_51 hQ  p1 x1 _ _ hR F h
      · have h := h.2 c13
        exact xb_X12_replicaGets_52 hQ  p1 x1 (1 : Int32) _ _ hR F h
  · have h := h.2 c3
    refine x_X12_getsStamped hR h (fun σ15 X16 h hR F17 => ?_)
    have F := F.trans F17
    exact hQ _ _ h hR F
def fx_X12_hand_8 (Qx : Xc → Prop) (Lx8 : Int32 × Int32 → Xc → Prop) (t : Int32 × Int32) (X : Xc) : Prop := (vp_in t.1 200 ∧ (∀ x1 : Int32, x1 = X.2 11 t.1.toNatClampNeg → ((x1 ≤ t.2 → (vp_in (2 : Int32) 640 ∧ (∀ x4 : Int32, x4 = X.2 15 (2 : Int32).toNatClampNeg → ((x4 < (16 : Int32) → (vp_in (2 : Int32) 640 ∧ (∀ x7 : Int32, x7 = X.2 15 (2 : Int32).toNatClampNeg → (vp_in x7 7 ∧ (∀ x9 : Int32, x9 = X.2 20 x7.toNatClampNeg → ((x9 = 0 → (vp_in (2 : Int32) 640 ∧ (∀ x12 : Int32, x12 = X.2 15 (2 : Int32).toNatClampNeg → (wx_X12_replicaGets x12 X (fun (X16 : Xc) => Qx X16))))) ∧ (¬ x9 = 0 → (∀ x18 : Int32, x18 = X.1 8 → (∀ x20 : Int32, x20 = x18 + (1 : Int32) → Qx (xS X 8 x20)))))))))) ∧ (¬ x4 < (16 : Int32) → (vp_in (2 : Int32) 640 ∧ (∀ x22 : Int32, x22 = X.2 15 (2 : Int32).toNatClampNeg → (wx_X12_clientGets (x22 - (16 : Int32)) X (fun (X26 : Xc) => Qx X26))))))))) ∧ (¬ x1 ≤ t.2 → (∀ x28 : Int32, x28 = ((640 : Int32) * t.1) + t.2 → (vp_in x28 128000 ∧ (∀ x30 : Int32, x30 = X.2 10 x28.toNatClampNeg → (vp_in t.2 640 ∧ (∀ x32 : Int32, x32 = t.2 + (1 : Int32) → Lx8 (t.1, x32) (xA X 15 t.2.toNatClampNeg x30))))))))))
set_option maxHeartbeats 4000000 in
set_option maxRecDepth 100000 in
theorem xf_X12_hand_8 {m : Nat} {ad : Nat → Nat} {σ0 : Sto} {Q : Sto → Prop} {Qx : Xc → Prop} {Lx8 : Int32 × Int32 → Xc → Prop} {L8 : Int32 × Int32 → Sto → Prop} (hQ : ∀ (σ' : Sto) (X' : Xc), Qx X' → RefC m ad σ' X' → Fi m ad σ0 σ' → Q σ') (hL8 : ∀ (t : Int32 × Int32) (σ : Sto) (X : Xc), Lx8 t X → RefC m ad σ X → Fi m ad σ0 σ → L8 t σ) : ∀ (t : Int32 × Int32) (σ : Sto) (X : Xc), RefC m ad σ X → Fi m ad σ0 σ → fx_X12_hand_8  Qx Lx8 t X → f_X12_hand_8 m  Q L8 t σ := by
  intro t σ X hR F h
  unfold fx_X12_hand_8 at h
  unfold f_X12_hand_8
  refine ⟨hR.1.1, ?_⟩
  refine ⟨ad 11, hR.P (k := 11) (by decide), ?_⟩
  refine ⟨hR.K (k := 11) (by decide), ?_⟩
  refine ⟨hR.N (k := 11) (by decide) h.1, ?_⟩
  have h := h.2
  intro x1 e2
  rw [hR.2.2 11 (by decide)] at e2
  have h := h x1 e2
  refine ⟨fun c3 => ?_, fun c3 => ?_⟩
  · have h := h.1 c3
    refine ⟨ad 15, hR.P (k := 15) (by decide), ?_⟩
    refine ⟨hR.K (k := 15) (by decide), ?_⟩
    refine ⟨hR.N (k := 15) (by decide) h.1, ?_⟩
    have h := h.2
    intro x4 e5
    rw [hR.2.2 15 (by decide)] at e5
    have h := h x4 e5
    refine ⟨fun c6 => ?_, fun c6 => ?_⟩
    · have h := h.1 c6
      refine ⟨hR.N (k := 15) (by decide) h.1, ?_⟩
      have h := h.2
      intro x7 e8
      rw [hR.2.2 15 (by decide)] at e8
      have h := h x7 e8
      refine ⟨ad 20, hR.P (k := 20) (by decide), ?_⟩
      refine ⟨hR.K (k := 20) (by decide), ?_⟩
      refine ⟨hR.N (k := 20) (by decide) h.1, ?_⟩
      have h := h.2
      intro x9 e10
      rw [hR.2.2 20 (by decide)] at e10
      have h := h x9 e10
      refine ⟨fun c11 => ?_, fun c11 => ?_⟩
      · have h := h.1 c11
        refine ⟨hR.N (k := 15) (by decide) h.1, ?_⟩
        have h := h.2
        intro x12 e13
        rw [hR.2.2 15 (by decide)] at e13
        have h := h x12 e13
        refine x_X12_replicaGets hR h (fun σ15 X16 h hR F17 => ?_)
        have F := F.trans F17
        exact hQ _ _ h hR F
      · have h := h.2 c11
        intro x18 e19
        rw [hR.2.1 8] at e19
        have h := h x18 e19
        intro x20 e21
        have h := h x20 e21
        have F := F.S (k := 8) (v := x20)
        have hR := hR.S (k := 8) (v := x20)
        exact hQ _ _ h hR F
    · have h := h.2 c6
      refine ⟨hR.N (k := 15) (by decide) h.1, ?_⟩
      have h := h.2
      intro x22 e23
      rw [hR.2.2 15 (by decide)] at e23
      have h := h x22 e23
      refine x_X12_clientGets hR h (fun σ25 X26 h hR F27 => ?_)
      have F := F.trans F27
      exact hQ _ _ h hR F
  · have h := h.2 c3
    intro x28 e29
    have h := h x28 e29
    refine ⟨ad 10, hR.P (k := 10) (by decide), ?_⟩
    refine ⟨hR.K (k := 10) (by decide), ?_⟩
    refine ⟨hR.N (k := 10) (by decide) h.1, ?_⟩
    have h := h.2
    intro x30 e31
    rw [hR.2.2 10 (by decide)] at e31
    have h := h x30 e31
    refine ⟨ad 15, hR.P (k := 15) (by decide), ?_⟩
    refine ⟨hR.K (k := 15) (by decide), ?_⟩
    refine ⟨hR.N (k := 15) (by decide) h.1, ?_⟩
    have h := h.2
    have F := F.A (k := 15) (i := t.2.toNatClampNeg) (v := x30) (by decide)
    have hR := hR.A (k := 15) (i := t.2.toNatClampNeg) (v := x30) (by decide)
    intro x32 e33
    have h := h x32 e33
    exact hL8 _ _ _ h hR F
def wx_X12_hand (p1 : Int32) (X : Xc) (Qx : Xc → Prop) : Prop := (wx_X12_remove p1 X (fun (x1 : Int32) (X3 : Xc) => LFx (fx_X12_hand_8  Qx) (x1, (0 : Int32)) X3))
set_option maxHeartbeats 4000000 in
set_option maxRecDepth 100000 in
theorem x_X12_hand {m : Nat} {ad : Nat → Nat} {p1 : Int32} {σ : Sto} {X : Xc} {Q : Sto → Prop} {Qx : Xc → Prop} (hR : RefC m ad σ X) (h : wx_X12_hand p1 X Qx) (hQ : ∀ (σ' : Sto) (X' : Xc), Qx X' → RefC m ad σ' X' → Fi m ad σ σ' → Q σ') : wp_X12_hand m p1 σ Q := by
  have F : Fi m ad σ σ := Fi.rf
  unfold wx_X12_hand at h
  unfold wp_X12_hand
  refine ⟨hR.1.1, ?_⟩
  refine x_X12_remove hR h (fun x1 σ2 X3 h hR F4 => ?_)
  have F := F.trans F4
  exact lfx h hR F (fun Lx L hL t σ X hR F h => xf_X12_hand_8 hQ  hL t σ X hR F h)
def fx_X12_find_2 (Qx : Int32 → Xc → Prop) (Lx2 : Int32 × Int32 → Xc → Prop) (t : Int32 × Int32) (X : Xc) : Prop := (∀ x1 : Int32, x1 = X.1 6 → ((x1 ≤ t.2 → Qx (-1 : Int32) X) ∧ (¬ x1 ≤ t.2 → (vp_in t.2 200 ∧ (∀ x4 : Int32, x4 = X.2 5 t.2.toNatClampNeg → (vp_in x4 200 ∧ (∀ x6 : Int32, x6 = X.2 12 x4.toNatClampNeg → ((¬ x6 = t.1 → (∀ x9 : Int32, x9 = t.2 + (1 : Int32) → Lx2 (t.1, x9) X)) ∧ (x6 = t.1 → Qx t.2 X)))))))))
set_option maxHeartbeats 4000000 in
set_option maxRecDepth 100000 in
theorem xf_X12_find_2 {m : Nat} {ad : Nat → Nat} {σ0 : Sto} {Q : Int32 → Sto → Prop} {Qx : Int32 → Xc → Prop} {Lx2 : Int32 × Int32 → Xc → Prop} {L2 : Int32 × Int32 → Sto → Prop} (hQ : ∀ (r : Int32) (σ' : Sto) (X' : Xc), Qx r X' → RefC m ad σ' X' → Fi m ad σ0 σ' → Q r σ') (hL2 : ∀ (t : Int32 × Int32) (σ : Sto) (X : Xc), Lx2 t X → RefC m ad σ X → Fi m ad σ0 σ → L2 t σ) : ∀ (t : Int32 × Int32) (σ : Sto) (X : Xc), RefC m ad σ X → Fi m ad σ0 σ → fx_X12_find_2  Qx Lx2 t X → f_X12_find_2 m  Q L2 t σ := by
  intro t σ X hR F h
  unfold fx_X12_find_2 at h
  unfold f_X12_find_2
  refine ⟨hR.1.1, ?_⟩
  intro x1 e2
  rw [hR.2.1 6] at e2
  have h := h x1 e2
  refine ⟨fun c3 => ?_, fun c3 => ?_⟩
  · have h := h.1 c3
    exact hQ _ _ _ h hR F
  · have h := h.2 c3
    refine ⟨ad 5, hR.P (k := 5) (by decide), ?_⟩
    refine ⟨hR.K (k := 5) (by decide), ?_⟩
    refine ⟨hR.N (k := 5) (by decide) h.1, ?_⟩
    have h := h.2
    intro x4 e5
    rw [hR.2.2 5 (by decide)] at e5
    have h := h x4 e5
    refine ⟨ad 12, hR.P (k := 12) (by decide), ?_⟩
    refine ⟨hR.K (k := 12) (by decide), ?_⟩
    refine ⟨hR.N (k := 12) (by decide) h.1, ?_⟩
    have h := h.2
    intro x6 e7
    rw [hR.2.2 12 (by decide)] at e7
    have h := h x6 e7
    refine ⟨fun c8 => ?_, fun c8 => ?_⟩
    · have h := h.1 c8
      intro x9 e10
      have h := h x9 e10
      exact hL2 _ _ _ h hR F
    · have h := h.2 c8
      exact hQ _ _ _ h hR F
def wx_X12_find (p1 : Int32) (X : Xc) (Qx : Int32 → Xc → Prop) : Prop := LFx (fx_X12_find_2  Qx) (p1, (0 : Int32)) X
set_option maxHeartbeats 4000000 in
set_option maxRecDepth 100000 in
theorem x_X12_find {m : Nat} {ad : Nat → Nat} {p1 : Int32} {σ : Sto} {X : Xc} {Q : Int32 → Sto → Prop} {Qx : Int32 → Xc → Prop} (hR : RefC m ad σ X) (h : wx_X12_find p1 X Qx) (hQ : ∀ (r : Int32) (σ' : Sto) (X' : Xc), Qx r X' → RefC m ad σ' X' → Fi m ad σ σ' → Q r σ') : wp_X12_find m p1 σ Q := by
  have F : Fi m ad σ σ := Fi.rf
  unfold wx_X12_find at h
  unfold wp_X12_find
  exact lfx h hR F (fun Lx L hL t σ X hR F h => xf_X12_find_2 hQ  hL t σ X hR F h)
def fx_X12_stamp_30 (Qx : Xc → Prop) (Lx30 : Int32 × Int32 → Xc → Prop) (t : Int32 × Int32) (X : Xc) : Prop := (∀ x1 : Int32, x1 = X.1 1 → ((x1 ≤ t.2 → Qx X) ∧ (¬ x1 ≤ t.2 → (wx_X12_begin (0 : Int32) (255 : Int32) t.2 X (fun (X6 : Xc) => (∀ x8 : Int32, x8 = X6.1 17 → (wx_X12_add x8 X6 (fun (X12 : Xc) => (∀ x14 : Int32, x14 = X12.1 18 → (wx_X12_add x14 X12 (fun (X18 : Xc) => (wx_X12_add t.1 X18 (fun (X22 : Xc) => (vp_in t.1 4 ∧ (∀ x24 : Int32, x24 = X22.2 65 t.1.toNatClampNeg → (wx_X12_add x24 X22 (fun (X28 : Xc) => (vp_in t.1 4 ∧ (∀ x30 : Int32, x30 = X28.2 67 t.1.toNatClampNeg → (wx_X12_add x30 X28 (fun (X34 : Xc) => (vp_in t.1 4 ∧ (∀ x36 : Int32, x36 = X34.2 68 t.1.toNatClampNeg → (wx_X12_add x36 X34 (fun (X40 : Xc) => (vp_in t.1 4 ∧ (∀ x42 : Int32, x42 = X40.2 69 t.1.toNatClampNeg → (wx_X12_add x42 X40 (fun (X46 : Xc) => (wx_X12_post  X46 (fun (X50 : Xc) => (∀ x52 : Int32, x52 = t.2 + (1 : Int32) → Lx30 (t.1, x52) X50))))))))))))))))))))))))))))))))
set_option maxHeartbeats 4000000 in
set_option maxRecDepth 100000 in
theorem xf_X12_stamp_30 {m : Nat} {ad : Nat → Nat} {σ0 : Sto} {Q : Sto → Prop} {Qx : Xc → Prop} {Lx30 : Int32 × Int32 → Xc → Prop} {L30 : Int32 × Int32 → Sto → Prop} (hQ : ∀ (σ' : Sto) (X' : Xc), Qx X' → RefC m ad σ' X' → Fi m ad σ0 σ' → Q σ') (hL30 : ∀ (t : Int32 × Int32) (σ : Sto) (X : Xc), Lx30 t X → RefC m ad σ X → Fi m ad σ0 σ → L30 t σ) : ∀ (t : Int32 × Int32) (σ : Sto) (X : Xc), RefC m ad σ X → Fi m ad σ0 σ → fx_X12_stamp_30  Qx Lx30 t X → f_X12_stamp_30 m  Q L30 t σ := by
  intro t σ X hR F h
  unfold fx_X12_stamp_30 at h
  unfold f_X12_stamp_30
  refine ⟨hR.1.1, ?_⟩
  intro x1 e2
  rw [hR.2.1 1] at e2
  have h := h x1 e2
  refine ⟨fun c3 => ?_, fun c3 => ?_⟩
  · have h := h.1 c3
    exact hQ _ _ h hR F
  · have h := h.2 c3
    refine x_X12_begin hR h (fun σ5 X6 h hR F7 => ?_)
    have F := F.trans F7
    refine ⟨hR.1.1, ?_⟩
    intro x8 e9
    rw [hR.2.1 17] at e9
    have h := h x8 e9
    refine x_X12_add hR h (fun σ11 X12 h hR F13 => ?_)
    have F := F.trans F13
    refine ⟨hR.1.1, ?_⟩
    intro x14 e15
    rw [hR.2.1 18] at e15
    have h := h x14 e15
    refine x_X12_add hR h (fun σ17 X18 h hR F19 => ?_)
    have F := F.trans F19
    refine ⟨hR.1.1, ?_⟩
    refine x_X12_add hR h (fun σ21 X22 h hR F23 => ?_)
    have F := F.trans F23
    refine ⟨hR.1.1, ?_⟩
    refine ⟨ad 65, hR.P (k := 65) (by decide), ?_⟩
    refine ⟨hR.K (k := 65) (by decide), ?_⟩
    refine ⟨hR.N (k := 65) (by decide) h.1, ?_⟩
    have h := h.2
    intro x24 e25
    rw [hR.2.2 65 (by decide)] at e25
    have h := h x24 e25
    refine x_X12_add hR h (fun σ27 X28 h hR F29 => ?_)
    have F := F.trans F29
    refine ⟨hR.1.1, ?_⟩
    refine ⟨ad 67, hR.P (k := 67) (by decide), ?_⟩
    refine ⟨hR.K (k := 67) (by decide), ?_⟩
    refine ⟨hR.N (k := 67) (by decide) h.1, ?_⟩
    have h := h.2
    intro x30 e31
    rw [hR.2.2 67 (by decide)] at e31
    have h := h x30 e31
    refine x_X12_add hR h (fun σ33 X34 h hR F35 => ?_)
    have F := F.trans F35
    refine ⟨hR.1.1, ?_⟩
    refine ⟨ad 68, hR.P (k := 68) (by decide), ?_⟩
    refine ⟨hR.K (k := 68) (by decide), ?_⟩
    refine ⟨hR.N (k := 68) (by decide) h.1, ?_⟩
    have h := h.2
    intro x36 e37
    rw [hR.2.2 68 (by decide)] at e37
    have h := h x36 e37
    refine x_X12_add hR h (fun σ39 X40 h hR F41 => ?_)
    have F := F.trans F41
    refine ⟨hR.1.1, ?_⟩
    refine ⟨ad 69, hR.P (k := 69) (by decide), ?_⟩
    refine ⟨hR.K (k := 69) (by decide), ?_⟩
    refine ⟨hR.N (k := 69) (by decide) h.1, ?_⟩
    have h := h.2
    intro x42 e43
    rw [hR.2.2 69 (by decide)] at e43
    have h := h x42 e43
    refine x_X12_add hR h (fun σ45 X46 h hR F47 => ?_)
    have F := F.trans F47
    refine ⟨hR.1.1, ?_⟩
    refine x_X12_post hR h (fun σ49 X50 h hR F51 => ?_)
    have F := F.trans F51
    intro x52 e53
    have h := h x52 e53
    exact hL30 _ _ _ h hR F
def wx_X12_stamp (p1 : Int32) (X : Xc) (Qx : Xc → Prop) : Prop := (∀ x1 : Int32, x1 = X.1 4 → (vp_in p1 4 ∧ (∀ x3 : Int32, x3 = (xA X 70 p1.toNatClampNeg x1).1 16 → ((¬ x3 = 0 → (∀ x6 : Int32, x6 = (xA X 70 p1.toNatClampNeg x1).1 18 → (∀ x8 : Int32, x8 = x6 + (1 : Int32) → LFx (fx_X12_stamp_30  Qx) (p1, (0 : Int32)) (xS (xA X 70 p1.toNatClampNeg x1) 18 x8)))) ∧ (x3 = 0 → Qx (xA X 70 p1.toNatClampNeg x1))))))
set_option maxHeartbeats 4000000 in
set_option maxRecDepth 100000 in
theorem x_X12_stamp {m : Nat} {ad : Nat → Nat} {p1 : Int32} {σ : Sto} {X : Xc} {Q : Sto → Prop} {Qx : Xc → Prop} (hR : RefC m ad σ X) (h : wx_X12_stamp p1 X Qx) (hQ : ∀ (σ' : Sto) (X' : Xc), Qx X' → RefC m ad σ' X' → Fi m ad σ σ' → Q σ') : wp_X12_stamp m p1 σ Q := by
  have F : Fi m ad σ σ := Fi.rf
  unfold wx_X12_stamp at h
  unfold wp_X12_stamp
  refine ⟨hR.1.1, ?_⟩
  intro x1 e2
  rw [hR.2.1 4] at e2
  have h := h x1 e2
  refine ⟨ad 70, hR.P (k := 70) (by decide), ?_⟩
  refine ⟨hR.K (k := 70) (by decide), ?_⟩
  refine ⟨hR.N (k := 70) (by decide) h.1, ?_⟩
  have h := h.2
  have F := F.A (k := 70) (i := p1.toNatClampNeg) (v := x1) (by decide)
  have hR := hR.A (k := 70) (i := p1.toNatClampNeg) (v := x1) (by decide)
  intro x3 e4
  rw [hR.2.1 16] at e4
  have h := h x3 e4
  refine ⟨fun c5 => ?_, fun c5 => ?_⟩
  · have h := h.1 c5
    intro x6 e7
    rw [hR.2.1 18] at e7
    have h := h x6 e7
    intro x8 e9
    have h := h x8 e9
    have F := F.S (k := 18) (v := x8)
    have hR := hR.S (k := 18) (v := x8)
    exact lfx h hR F (fun Lx L hL t σ X hR F h => xf_X12_stamp_30 hQ  hL t σ X hR F h)
  · have h := h.2 c5
    exact hQ _ _ h hR F
def wx_X12_establish  (X : Xc) (Qx : Int32 → Xc → Prop) : Prop := (∀ x1 : Int32, x1 = (xS X 16 (1 : Int32)).1 17 → (∀ x3 : Int32, x3 = x1 + (1 : Int32) → (∀ x5 : Int32, x5 = (xS (xS (xS X 16 (1 : Int32)) 17 x3) 18 (0 : Int32)).1 17 → Qx x5 (xS (xS (xS X 16 (1 : Int32)) 17 x3) 18 (0 : Int32)))))
set_option maxHeartbeats 4000000 in
set_option maxRecDepth 100000 in
theorem x_X12_establish {m : Nat} {ad : Nat → Nat} {σ : Sto} {X : Xc} {Q : Int32 → Sto → Prop} {Qx : Int32 → Xc → Prop} (hR : RefC m ad σ X) (h : wx_X12_establish  X Qx) (hQ : ∀ (r : Int32) (σ' : Sto) (X' : Xc), Qx r X' → RefC m ad σ' X' → Fi m ad σ σ' → Q r σ') : wp_X12_establish m  σ Q := by
  have F : Fi m ad σ σ := Fi.rf
  unfold wx_X12_establish at h
  unfold wp_X12_establish
  refine ⟨hR.1.1, ?_⟩
  have F := F.S (k := 16) (v := (1 : Int32))
  have hR := hR.S (k := 16) (v := (1 : Int32))
  intro x1 e2
  rw [hR.2.1 17] at e2
  have h := h x1 e2
  intro x3 e4
  have h := h x3 e4
  have F := F.S (k := 17) (v := x3)
  have hR := hR.S (k := 17) (v := x3)
  have F := F.S (k := 18) (v := (0 : Int32))
  have hR := hR.S (k := 18) (v := (0 : Int32))
  intro x5 e6
  rw [hR.2.1 17] at e6
  have h := h x5 e6
  exact hQ _ _ _ h hR F
def wx_X12_asks (p1 : Int32) (X : Xc) (Qx : Xc → Prop) : Prop := (vp_in p1 7 ∧ (∀ x1 : Int32, x1 = X.2 23 p1.toNatClampNeg → ((¬ x1 = (1 : Int32) → (vp_in p1 7 ∧ (∀ x4 : Int32, x4 = X.2 23 p1.toNatClampNeg → ((¬ x4 = (2 : Int32) → (wx_X12_leads p1 X (fun (x7 : Int32) (X9 : Xc) => ((¬ x7 = 0 → Qx X9) ∧ (x7 = 0 → (vp_in p1 7 ∧ (∀ x12 : Int32, x12 = X9.2 36 p1.toNatClampNeg → ((x12 ≤ 0 → Qx X9) ∧ (¬ x12 ≤ 0 → (∀ x15 : Int32, x15 = X9.1 4 → (vp_in p1 7 ∧ (wx_X12_leader p1 (xA X9 58 p1.toNatClampNeg x15) (fun (x17 : Int32) (X19 : Xc) => (vp_in p1 7 ∧ (∀ x21 : Int32, x21 = X19.2 26 p1.toNatClampNeg → (wx_X12_tell (1 : Int32) p1 x17 (x21 + (1 : Int32)) X19 (fun (X25 : Xc) => Qx X25))))))))))))))))) ∧ (x4 = (2 : Int32) → (∀ x27 : Int32, x27 = X.1 4 → (vp_in p1 7 ∧ (wx_X12_tellOthers (8 : Int32) p1 (-1 : Int32) (xA X 58 p1.toNatClampNeg x27) (fun (X31 : Xc) => (wx_X12_sendTurned p1 X31 (fun (X35 : Xc) => Qx X35))))))))))) ∧ (x1 = (1 : Int32) → (∀ x37 : Int32, x37 = X.1 4 → (vp_in p1 7 ∧ (vp_in p1 7 ∧ (∀ x39 : Int32, x39 = (xA X 58 p1.toNatClampNeg x37).2 26 p1.toNatClampNeg → (wx_X12_tellOthers (3 : Int32) p1 x39 (xA X 58 p1.toNatClampNeg x37) (fun (X43 : Xc) => Qx X43))))))))))
set_option maxHeartbeats 4000000 in
set_option maxRecDepth 100000 in
theorem x_X12_asks {m : Nat} {ad : Nat → Nat} {p1 : Int32} {σ : Sto} {X : Xc} {Q : Sto → Prop} {Qx : Xc → Prop} (hR : RefC m ad σ X) (h : wx_X12_asks p1 X Qx) (hQ : ∀ (σ' : Sto) (X' : Xc), Qx X' → RefC m ad σ' X' → Fi m ad σ σ' → Q σ') : wp_X12_asks m p1 σ Q := by
  have F : Fi m ad σ σ := Fi.rf
  unfold wx_X12_asks at h
  unfold wp_X12_asks
  refine ⟨hR.1.1, ?_⟩
  refine ⟨ad 23, hR.P (k := 23) (by decide), ?_⟩
  refine ⟨hR.K (k := 23) (by decide), ?_⟩
  refine ⟨hR.N (k := 23) (by decide) h.1, ?_⟩
  have h := h.2
  intro x1 e2
  rw [hR.2.2 23 (by decide)] at e2
  have h := h x1 e2
  refine ⟨fun c3 => ?_, fun c3 => ?_⟩
  · have h := h.1 c3
    refine ⟨hR.N (k := 23) (by decide) h.1, ?_⟩
    have h := h.2
    intro x4 e5
    rw [hR.2.2 23 (by decide)] at e5
    have h := h x4 e5
    refine ⟨fun c6 => ?_, fun c6 => ?_⟩
    · have h := h.1 c6
      refine x_X12_leads hR h (fun x7 σ8 X9 h hR F10 => ?_)
      have F := F.trans F10
      refine ⟨fun c11 => ?_, fun c11 => ?_⟩
      · have h := h.1 c11
        exact hQ _ _ h hR F
      · have h := h.2 c11
        refine ⟨hR.1.1, ?_⟩
        refine ⟨ad 36, hR.P (k := 36) (by decide), ?_⟩
        refine ⟨hR.K (k := 36) (by decide), ?_⟩
        refine ⟨hR.N (k := 36) (by decide) h.1, ?_⟩
        have h := h.2
        intro x12 e13
        rw [hR.2.2 36 (by decide)] at e13
        have h := h x12 e13
        refine ⟨fun c14 => ?_, fun c14 => ?_⟩
        · have h := h.1 c14
          exact hQ _ _ h hR F
        · have h := h.2 c14
          intro x15 e16
          rw [hR.2.1 4] at e16
          have h := h x15 e16
          refine ⟨ad 58, hR.P (k := 58) (by decide), ?_⟩
          refine ⟨hR.K (k := 58) (by decide), ?_⟩
          refine ⟨hR.N (k := 58) (by decide) h.1, ?_⟩
          have h := h.2
          have F := F.A (k := 58) (i := p1.toNatClampNeg) (v := x15) (by decide)
          have hR := hR.A (k := 58) (i := p1.toNatClampNeg) (v := x15) (by decide)
          refine x_X12_leader hR h (fun x17 σ18 X19 h hR F20 => ?_)
          have F := F.trans F20
          refine ⟨hR.1.1, ?_⟩
          refine ⟨ad 26, hR.P (k := 26) (by decide), ?_⟩
          refine ⟨hR.K (k := 26) (by decide), ?_⟩
          refine ⟨hR.N (k := 26) (by decide) h.1, ?_⟩
          have h := h.2
          intro x21 e22
          rw [hR.2.2 26 (by decide)] at e22
          have h := h x21 e22
          refine x_X12_tell hR h (fun σ24 X25 h hR F26 => ?_)
          have F := F.trans F26
          exact hQ _ _ h hR F
    · have h := h.2 c6
      intro x27 e28
      rw [hR.2.1 4] at e28
      have h := h x27 e28
      refine ⟨ad 58, hR.P (k := 58) (by decide), ?_⟩
      refine ⟨hR.K (k := 58) (by decide), ?_⟩
      refine ⟨hR.N (k := 58) (by decide) h.1, ?_⟩
      have h := h.2
      have F := F.A (k := 58) (i := p1.toNatClampNeg) (v := x27) (by decide)
      have hR := hR.A (k := 58) (i := p1.toNatClampNeg) (v := x27) (by decide)
      refine x_X12_tellOthers hR h (fun σ30 X31 h hR F32 => ?_)
      have F := F.trans F32
      refine ⟨hR.1.1, ?_⟩
      refine x_X12_sendTurned hR h (fun σ34 X35 h hR F36 => ?_)
      have F := F.trans F36
      exact hQ _ _ h hR F
  · have h := h.2 c3
    intro x37 e38
    rw [hR.2.1 4] at e38
    have h := h x37 e38
    refine ⟨ad 58, hR.P (k := 58) (by decide), ?_⟩
    refine ⟨hR.K (k := 58) (by decide), ?_⟩
    refine ⟨hR.N (k := 58) (by decide) h.1, ?_⟩
    have h := h.2
    have F := F.A (k := 58) (i := p1.toNatClampNeg) (v := x37) (by decide)
    have hR := hR.A (k := 58) (i := p1.toNatClampNeg) (v := x37) (by decide)
    refine ⟨ad 26, hR.P (k := 26) (by decide), ?_⟩
    refine ⟨hR.K (k := 26) (by decide), ?_⟩
    refine ⟨hR.N (k := 26) (by decide) h.1, ?_⟩
    have h := h.2
    intro x39 e40
    rw [hR.2.2 26 (by decide)] at e40
    have h := h x39 e40
    refine x_X12_tellOthers hR h (fun σ42 X43 h hR F44 => ?_)
    have F := F.trans F44
    exact hQ _ _ h hR F
def bx_X12_syncs_52 (Lx12 : Int32 × Int32 → Xc → Prop) (Qx : Xc → Prop) (p1 : Int32) (p2 : Int32) (X : Xc) : Prop := (∀ x1 : Int32, x1 = p2 + (1 : Int32) → Lx12 (p1, x1) X)
set_option maxHeartbeats 4000000 in
set_option maxRecDepth 100000 in
theorem xb_X12_syncs_52 {m : Nat} {ad : Nat → Nat} {σ0 : Sto} {Lx12 : Int32 × Int32 → Xc → Prop} {L12 : Int32 × Int32 → Sto → Prop} {Q : Sto → Prop} {Qx : Xc → Prop} (hQ : ∀ (σ' : Sto) (X' : Xc), Qx X' → RefC m ad σ' X' → Fi m ad σ0 σ' → Q σ') (hL12 : ∀ (t : Int32 × Int32) (σ : Sto) (X : Xc), Lx12 t X → RefC m ad σ X → Fi m ad σ0 σ → L12 t σ) (p1 : Int32) (p2 : Int32) (σ : Sto) (X : Xc) (hR : RefC m ad σ X) (F : Fi m ad σ0 σ) (h : bx_X12_syncs_52 Lx12 Qx p1 p2 X) : b_X12_syncs_52 m L12 Q p1 p2 σ := by
  unfold bx_X12_syncs_52 at h
  unfold b_X12_syncs_52
  intro x1 e2
  have h := h x1 e2
  exact hL12 _ _ _ h hR F
def fx_X12_syncs_12 (Qx : Xc → Prop) (Lx12 : Int32 × Int32 → Xc → Prop) (t : Int32 × Int32) (X : Xc) : Prop := (∀ x1 : Int32, x1 = X.1 1 → ((x1 ≤ t.2 → Qx X) ∧ (¬ x1 ≤ t.2 → ((t.2 = t.1 → bx_X12_syncs_52 Lx12 Qx t.1 t.2 X) ∧ (¬ t.2 = t.1 → (wx_X12_begin (5 : Int32) t.1 t.2 X (fun (X7 : Xc) => (wx_X12_addView t.1 X7 (fun (X11 : Xc) => (vp_in t.1 7 ∧ (∀ x13 : Int32, x13 = X11.2 26 t.1.toNatClampNeg → (wx_X12_addLog t.1 x13 X11 (fun (X17 : Xc) => (wx_X12_post  X17 (fun (X21 : Xc) => bx_X12_syncs_52 Lx12 Qx t.1 t.2 X21)))))))))))))))
set_option maxHeartbeats 4000000 in
set_option maxRecDepth 100000 in
theorem xf_X12_syncs_12 {m : Nat} {ad : Nat → Nat} {σ0 : Sto} {Q : Sto → Prop} {Qx : Xc → Prop} {Lx12 : Int32 × Int32 → Xc → Prop} {L12 : Int32 × Int32 → Sto → Prop} (hQ : ∀ (σ' : Sto) (X' : Xc), Qx X' → RefC m ad σ' X' → Fi m ad σ0 σ' → Q σ') (hL12 : ∀ (t : Int32 × Int32) (σ : Sto) (X : Xc), Lx12 t X → RefC m ad σ X → Fi m ad σ0 σ → L12 t σ) : ∀ (t : Int32 × Int32) (σ : Sto) (X : Xc), RefC m ad σ X → Fi m ad σ0 σ → fx_X12_syncs_12  Qx Lx12 t X → f_X12_syncs_12 m  Q L12 t σ := by
  intro t σ X hR F h
  unfold fx_X12_syncs_12 at h
  unfold f_X12_syncs_12
  refine ⟨hR.1.1, ?_⟩
  intro x1 e2
  rw [hR.2.1 1] at e2
  have h := h x1 e2
  refine ⟨fun c3 => ?_, fun c3 => ?_⟩
  · have h := h.1 c3
    exact hQ _ _ h hR F
  · have h := h.2 c3
    refine ⟨fun c4 => ?_, fun c4 => ?_⟩
    · have h := h.1 c4
      exact xb_X12_syncs_52 hQ hL12 t.1 t.2 _ _ hR F h
    · have h := h.2 c4
      refine x_X12_begin hR h (fun σ6 X7 h hR F8 => ?_)
      have F := F.trans F8
      refine ⟨hR.1.1, ?_⟩
      refine x_X12_addView hR h (fun σ10 X11 h hR F12 => ?_)
      have F := F.trans F12
      refine ⟨hR.1.1, ?_⟩
      refine ⟨ad 26, hR.P (k := 26) (by decide), ?_⟩
      refine ⟨hR.K (k := 26) (by decide), ?_⟩
      refine ⟨hR.N (k := 26) (by decide) h.1, ?_⟩
      have h := h.2
      intro x13 e14
      rw [hR.2.2 26 (by decide)] at e14
      have h := h x13 e14
      refine x_X12_addLog hR h (fun σ16 X17 h hR F18 => ?_)
      have F := F.trans F18
      refine ⟨hR.1.1, ?_⟩
      refine x_X12_post hR h (fun σ20 X21 h hR F22 => ?_)
      have F := F.trans F22
      exact xb_X12_syncs_52 hQ hL12 t.1 t.2 _ _ hR F h
def wx_X12_syncs (p1 : Int32) (X : Xc) (Qx : Xc → Prop) : Prop := (∀ x1 : Int32, x1 = X.1 4 → (vp_in p1 7 ∧ LFx (fx_X12_syncs_12  Qx) (p1, (0 : Int32)) (xA X 61 p1.toNatClampNeg x1)))
set_option maxHeartbeats 4000000 in
set_option maxRecDepth 100000 in
theorem x_X12_syncs {m : Nat} {ad : Nat → Nat} {p1 : Int32} {σ : Sto} {X : Xc} {Q : Sto → Prop} {Qx : Xc → Prop} (hR : RefC m ad σ X) (h : wx_X12_syncs p1 X Qx) (hQ : ∀ (σ' : Sto) (X' : Xc), Qx X' → RefC m ad σ' X' → Fi m ad σ σ' → Q σ') : wp_X12_syncs m p1 σ Q := by
  have F : Fi m ad σ σ := Fi.rf
  unfold wx_X12_syncs at h
  unfold wp_X12_syncs
  refine ⟨hR.1.1, ?_⟩
  intro x1 e2
  rw [hR.2.1 4] at e2
  have h := h x1 e2
  refine ⟨ad 61, hR.P (k := 61) (by decide), ?_⟩
  refine ⟨hR.K (k := 61) (by decide), ?_⟩
  refine ⟨hR.N (k := 61) (by decide) h.1, ?_⟩
  have h := h.2
  have F := F.A (k := 61) (i := p1.toNatClampNeg) (v := x1) (by decide)
  have hR := hR.A (k := 61) (i := p1.toNatClampNeg) (v := x1) (by decide)
  exact lfx h hR F (fun Lx L hL t σ X hR F h => xf_X12_syncs_12 hQ  hL t σ X hR F h)
def bx_X12_acts_239 (Qx : Xc → Prop) (p1 : Int32) (p2 : Int32) (p3 : Int32) (X : Xc) : Prop := ((¬ p2 = 0 → Qx X) ∧ (p2 = 0 → ((¬ p3 = 0 → Qx X) ∧ (p3 = 0 → (vp_in p1 7 ∧ (∀ x3 : Int32, x3 = X.2 36 p1.toNatClampNeg → ((x3 ≤ 0 → Qx X) ∧ (¬ x3 ≤ 0 → (∀ x6 : Int32, x6 = X.1 4 → (vp_in p1 7 ∧ (∀ x8 : Int32, x8 = X.2 58 p1.toNatClampNeg → (∀ x10 : Int32, x10 = X.1 3 → (((x6 - x8) < x10 → Qx X) ∧ (¬ (x6 - x8) < x10 → (wx_X12_asks p1 X (fun (X15 : Xc) => Qx X15))))))))))))))))
set_option maxHeartbeats 4000000 in
set_option maxRecDepth 100000 in
theorem xb_X12_acts_239 {m : Nat} {ad : Nat → Nat} {σ0 : Sto} {Q : Sto → Prop} {Qx : Xc → Prop} (hQ : ∀ (σ' : Sto) (X' : Xc), Qx X' → RefC m ad σ' X' → Fi m ad σ0 σ' → Q σ')  (p1 : Int32) (p2 : Int32) (p3 : Int32) (σ : Sto) (X : Xc) (hR : RefC m ad σ X) (F : Fi m ad σ0 σ) (h : bx_X12_acts_239  Qx p1 p2 p3 X) : b_X12_acts_239 m  Q p1 p2 p3 σ := by
  unfold bx_X12_acts_239 at h
  unfold b_X12_acts_239
  refine ⟨fun c1 => ?_, fun c1 => ?_⟩
  · have h := h.1 c1
    exact hQ _ _ h hR F
  · have h := h.2 c1
    refine ⟨fun c2 => ?_, fun c2 => ?_⟩
    · have h := h.1 c2
      exact hQ _ _ h hR F
    · have h := h.2 c2
      refine ⟨hR.1.1, ?_⟩
      refine ⟨ad 36, hR.P (k := 36) (by decide), ?_⟩
      refine ⟨hR.K (k := 36) (by decide), ?_⟩
      refine ⟨hR.N (k := 36) (by decide) h.1, ?_⟩
      have h := h.2
      intro x3 e4
      rw [hR.2.2 36 (by decide)] at e4
      have h := h x3 e4
      refine ⟨fun c5 => ?_, fun c5 => ?_⟩
      · have h := h.1 c5
        exact hQ _ _ h hR F
      · have h := h.2 c5
        intro x6 e7
        rw [hR.2.1 4] at e7
        have h := h x6 e7
        refine ⟨ad 58, hR.P (k := 58) (by decide), ?_⟩
        refine ⟨hR.K (k := 58) (by decide), ?_⟩
        refine ⟨hR.N (k := 58) (by decide) h.1, ?_⟩
        have h := h.2
        intro x8 e9
        rw [hR.2.2 58 (by decide)] at e9
        have h := h x8 e9
        intro x10 e11
        rw [hR.2.1 3] at e11
        have h := h x10 e11
        refine ⟨fun c12 => ?_, fun c12 => ?_⟩
        · have h := h.1 c12
          exact hQ _ _ h hR F
        · have h := h.2 c12
          refine x_X12_asks hR h (fun σ14 X15 h hR F16 => ?_)
          have F := F.trans F16
          exact hQ _ _ h hR F
def bx_X12_acts_189 (Qx : Xc → Prop) (p1 : Int32) (p2 : Int32) (p3 : Int32) (X : Xc) : Prop := ((¬ p2 = 0 → bx_X12_acts_239  Qx p1 p2 p3 X) ∧ (p2 = 0 → ((¬ p3 = 0 → bx_X12_acts_239  Qx p1 p2 p3 X) ∧ (p3 = 0 → (∀ x3 : Int32, x3 = X.1 4 → (vp_in p1 7 ∧ (∀ x5 : Int32, x5 = X.2 57 p1.toNatClampNeg → (∀ x7 : Int32, x7 = X.1 3 → (((x3 - x5) < ((3 : Int32) * x7) → bx_X12_acts_239  Qx p1 p2 p3 X) ∧ (¬ (x3 - x5) < ((3 : Int32) * x7) → (vp_in p1 7 ∧ (∀ x10 : Int32, x10 = X.2 21 p1.toNatClampNeg → (vp_in p1 7 ∧ (∀ x12 : Int32, x12 = X.2 22 p1.toNatClampNeg → (wx_X12_turnsTo p1 (x10 + (1 : Int32)) x12 X (fun (X16 : Xc) => Qx X16))))))))))))))))
set_option maxHeartbeats 4000000 in
set_option maxRecDepth 100000 in
theorem xb_X12_acts_189 {m : Nat} {ad : Nat → Nat} {σ0 : Sto} {Q : Sto → Prop} {Qx : Xc → Prop} (hQ : ∀ (σ' : Sto) (X' : Xc), Qx X' → RefC m ad σ' X' → Fi m ad σ0 σ' → Q σ')  (p1 : Int32) (p2 : Int32) (p3 : Int32) (σ : Sto) (X : Xc) (hR : RefC m ad σ X) (F : Fi m ad σ0 σ) (h : bx_X12_acts_189  Qx p1 p2 p3 X) : b_X12_acts_189 m  Q p1 p2 p3 σ := by
  unfold bx_X12_acts_189 at h
  unfold b_X12_acts_189
  refine ⟨fun c1 => ?_, fun c1 => ?_⟩
  · have h := h.1 c1
    exact xb_X12_acts_239 hQ  p1 p2 p3 _ _ hR F h
  · have h := h.2 c1
    refine ⟨fun c2 => ?_, fun c2 => ?_⟩
    · have h := h.1 c2
      exact xb_X12_acts_239 hQ  p1 p2 p3 _ _ hR F h
    · have h := h.2 c2
      refine ⟨hR.1.1, ?_⟩
      intro x3 e4
      rw [hR.2.1 4] at e4
      have h := h x3 e4
      refine ⟨ad 57, hR.P (k := 57) (by decide), ?_⟩
      refine ⟨hR.K (k := 57) (by decide), ?_⟩
      refine ⟨hR.N (k := 57) (by decide) h.1, ?_⟩
      have h := h.2
      intro x5 e6
      rw [hR.2.2 57 (by decide)] at e6
      have h := h x5 e6
      intro x7 e8
      rw [hR.2.1 3] at e8
      have h := h x7 e8
      refine ⟨fun c9 => ?_, fun c9 => ?_⟩
      · have h := h.1 c9
        exact xb_X12_acts_239 hQ  p1 p2 p3 _ _ hR F h
      · have h := h.2 c9
        refine ⟨ad 21, hR.P (k := 21) (by decide), ?_⟩
        refine ⟨hR.K (k := 21) (by decide), ?_⟩
        refine ⟨hR.N (k := 21) (by decide) h.1, ?_⟩
        have h := h.2
        intro x10 e11
        rw [hR.2.2 21 (by decide)] at e11
        have h := h x10 e11
        refine ⟨ad 22, hR.P (k := 22) (by decide), ?_⟩
        refine ⟨hR.K (k := 22) (by decide), ?_⟩
        refine ⟨hR.N (k := 22) (by decide) h.1, ?_⟩
        have h := h.2
        intro x12 e13
        rw [hR.2.2 22 (by decide)] at e13
        have h := h x12 e13
        refine x_X12_turnsTo hR h (fun σ15 X16 h hR F17 => ?_)
        have F := F.trans F17
        exact hQ _ _ h hR F
def bx_X12_acts_138 (Qx : Xc → Prop) (p1 : Int32) (p2 : Int32) (p3 : Int32) (X : Xc) : Prop := ((p2 = 0 → bx_X12_acts_189  Qx p1 p2 p3 X) ∧ (¬ p2 = 0 → ((¬ p3 = 0 → bx_X12_acts_189  Qx p1 p2 p3 X) ∧ (p3 = 0 → (vp_in p1 7 ∧ (∀ x3 : Int32, x3 = X.2 26 p1.toNatClampNeg → (vp_in p1 7 ∧ (∀ x5 : Int32, x5 = X.2 28 p1.toNatClampNeg → ((x3 ≤ x5 → bx_X12_acts_189  Qx p1 p2 p3 X) ∧ (¬ x3 ≤ x5 → (∀ x8 : Int32, x8 = X.1 4 → (vp_in p1 7 ∧ (∀ x10 : Int32, x10 = X.2 61 p1.toNatClampNeg → (∀ x12 : Int32, x12 = X.1 3 → (((x8 - x10) < ((4 : Int32) * x12) → bx_X12_acts_189  Qx p1 p2 p3 X) ∧ (¬ (x8 - x10) < ((4 : Int32) * x12) → (wx_X12_syncs p1 X (fun (X17 : Xc) => Qx X17))))))))))))))))))
set_option maxHeartbeats 4000000 in
set_option maxRecDepth 100000 in
theorem xb_X12_acts_138 {m : Nat} {ad : Nat → Nat} {σ0 : Sto} {Q : Sto → Prop} {Qx : Xc → Prop} (hQ : ∀ (σ' : Sto) (X' : Xc), Qx X' → RefC m ad σ' X' → Fi m ad σ0 σ' → Q σ')  (p1 : Int32) (p2 : Int32) (p3 : Int32) (σ : Sto) (X : Xc) (hR : RefC m ad σ X) (F : Fi m ad σ0 σ) (h : bx_X12_acts_138  Qx p1 p2 p3 X) : b_X12_acts_138 m  Q p1 p2 p3 σ := by
  unfold bx_X12_acts_138 at h
  unfold b_X12_acts_138
  refine ⟨fun c1 => ?_, fun c1 => ?_⟩
  · have h := h.1 c1
    exact xb_X12_acts_189 hQ  p1 p2 p3 _ _ hR F h
  · have h := h.2 c1
    refine ⟨fun c2 => ?_, fun c2 => ?_⟩
    · have h := h.1 c2
      exact xb_X12_acts_189 hQ  p1 p2 p3 _ _ hR F h
    · have h := h.2 c2
      refine ⟨hR.1.1, ?_⟩
      refine ⟨ad 26, hR.P (k := 26) (by decide), ?_⟩
      refine ⟨hR.K (k := 26) (by decide), ?_⟩
      refine ⟨hR.N (k := 26) (by decide) h.1, ?_⟩
      have h := h.2
      intro x3 e4
      rw [hR.2.2 26 (by decide)] at e4
      have h := h x3 e4
      refine ⟨ad 28, hR.P (k := 28) (by decide), ?_⟩
      refine ⟨hR.K (k := 28) (by decide), ?_⟩
      refine ⟨hR.N (k := 28) (by decide) h.1, ?_⟩
      have h := h.2
      intro x5 e6
      rw [hR.2.2 28 (by decide)] at e6
      have h := h x5 e6
      refine ⟨fun c7 => ?_, fun c7 => ?_⟩
      · have h := h.1 c7
        exact xb_X12_acts_189 hQ  p1 p2 p3 _ _ hR F h
      · have h := h.2 c7
        intro x8 e9
        rw [hR.2.1 4] at e9
        have h := h x8 e9
        refine ⟨ad 61, hR.P (k := 61) (by decide), ?_⟩
        refine ⟨hR.K (k := 61) (by decide), ?_⟩
        refine ⟨hR.N (k := 61) (by decide) h.1, ?_⟩
        have h := h.2
        intro x10 e11
        rw [hR.2.2 61 (by decide)] at e11
        have h := h x10 e11
        intro x12 e13
        rw [hR.2.1 3] at e13
        have h := h x12 e13
        refine ⟨fun c14 => ?_, fun c14 => ?_⟩
        · have h := h.1 c14
          exact xb_X12_acts_189 hQ  p1 p2 p3 _ _ hR F h
        · have h := h.2 c14
          refine x_X12_syncs hR h (fun σ16 X17 h hR F18 => ?_)
          have F := F.trans F18
          exact hQ _ _ h hR F
def bx_X12_acts_90 (Qx : Xc → Prop) (p1 : Int32) (p2 : Int32) (p3 : Int32) (X : Xc) : Prop := ((p2 = 0 → bx_X12_acts_138  Qx p1 p2 p3 X) ∧ (¬ p2 = 0 → ((p3 = (2 : Int32) → bx_X12_acts_138  Qx p1 p2 p3 X) ∧ (¬ p3 = (2 : Int32) → (∀ x3 : Int32, x3 = X.1 4 → (vp_in p1 7 ∧ (∀ x5 : Int32, x5 = X.2 60 p1.toNatClampNeg → (∀ x7 : Int32, x7 = X.1 3 → (((x3 - x5) < x7 → bx_X12_acts_138  Qx p1 p2 p3 X) ∧ (¬ (x3 - x5) < x7 → (∀ x10 : Int32, x10 = X.1 4 → (vp_in p1 7 ∧ (wx_X12_tellOthers (12 : Int32) p1 (-1 : Int32) (xA X 60 p1.toNatClampNeg x10) (fun (X14 : Xc) => Qx X14))))))))))))))
set_option maxHeartbeats 4000000 in
set_option maxRecDepth 100000 in
theorem xb_X12_acts_90 {m : Nat} {ad : Nat → Nat} {σ0 : Sto} {Q : Sto → Prop} {Qx : Xc → Prop} (hQ : ∀ (σ' : Sto) (X' : Xc), Qx X' → RefC m ad σ' X' → Fi m ad σ0 σ' → Q σ')  (p1 : Int32) (p2 : Int32) (p3 : Int32) (σ : Sto) (X : Xc) (hR : RefC m ad σ X) (F : Fi m ad σ0 σ) (h : bx_X12_acts_90  Qx p1 p2 p3 X) : b_X12_acts_90 m  Q p1 p2 p3 σ := by
  unfold bx_X12_acts_90 at h
  unfold b_X12_acts_90
  refine ⟨fun c1 => ?_, fun c1 => ?_⟩
  · have h := h.1 c1
    exact xb_X12_acts_138 hQ  p1 p2 p3 _ _ hR F h
  · have h := h.2 c1
    refine ⟨fun c2 => ?_, fun c2 => ?_⟩
    · have h := h.1 c2
      exact xb_X12_acts_138 hQ  p1 p2 p3 _ _ hR F h
    · have h := h.2 c2
      refine ⟨hR.1.1, ?_⟩
      intro x3 e4
      rw [hR.2.1 4] at e4
      have h := h x3 e4
      refine ⟨ad 60, hR.P (k := 60) (by decide), ?_⟩
      refine ⟨hR.K (k := 60) (by decide), ?_⟩
      refine ⟨hR.N (k := 60) (by decide) h.1, ?_⟩
      have h := h.2
      intro x5 e6
      rw [hR.2.2 60 (by decide)] at e6
      have h := h x5 e6
      intro x7 e8
      rw [hR.2.1 3] at e8
      have h := h x7 e8
      refine ⟨fun c9 => ?_, fun c9 => ?_⟩
      · have h := h.1 c9
        exact xb_X12_acts_138 hQ  p1 p2 p3 _ _ hR F h
      · have h := h.2 c9
        intro x10 e11
        rw [hR.2.1 4] at e11
        have h := h x10 e11
        refine ⟨hR.N (k := 60) (by decide) h.1, ?_⟩
        have h := h.2
        have F := F.A (k := 60) (i := p1.toNatClampNeg) (v := x10) (by decide)
        have hR := hR.A (k := 60) (i := p1.toNatClampNeg) (v := x10) (by decide)
        refine x_X12_tellOthers hR h (fun σ13 X14 h hR F15 => ?_)
        have F := F.trans F15
        exact hQ _ _ h hR F
def bx_X12_acts_60 (Qx : Xc → Prop) (p1 : Int32) (p2 : Int32) (p3 : Int32) (X : Xc) : Prop := ((p3 = 0 → bx_X12_acts_90  Qx p1 p2 p3 X) ∧ (¬ p3 = 0 → (∀ x2 : Int32, x2 = X.1 4 → (vp_in p1 7 ∧ (∀ x4 : Int32, x4 = X.2 58 p1.toNatClampNeg → (∀ x6 : Int32, x6 = X.1 3 → (((x2 - x4) < x6 → bx_X12_acts_90  Qx p1 p2 p3 X) ∧ (¬ (x2 - x4) < x6 → (wx_X12_asks p1 X (fun (X11 : Xc) => Qx X11))))))))))
set_option maxHeartbeats 4000000 in
set_option maxRecDepth 100000 in
theorem xb_X12_acts_60 {m : Nat} {ad : Nat → Nat} {σ0 : Sto} {Q : Sto → Prop} {Qx : Xc → Prop} (hQ : ∀ (σ' : Sto) (X' : Xc), Qx X' → RefC m ad σ' X' → Fi m ad σ0 σ' → Q σ')  (p1 : Int32) (p2 : Int32) (p3 : Int32) (σ : Sto) (X : Xc) (hR : RefC m ad σ X) (F : Fi m ad σ0 σ) (h : bx_X12_acts_60  Qx p1 p2 p3 X) : b_X12_acts_60 m  Q p1 p2 p3 σ := by
  unfold bx_X12_acts_60 at h
  unfold b_X12_acts_60
  refine ⟨fun c1 => ?_, fun c1 => ?_⟩
  · have h := h.1 c1
    exact xb_X12_acts_90 hQ  p1 p2 p3 _ _ hR F h
  · have h := h.2 c1
    refine ⟨hR.1.1, ?_⟩
    intro x2 e3
    rw [hR.2.1 4] at e3
    have h := h x2 e3
    refine ⟨ad 58, hR.P (k := 58) (by decide), ?_⟩
    refine ⟨hR.K (k := 58) (by decide), ?_⟩
    refine ⟨hR.N (k := 58) (by decide) h.1, ?_⟩
    have h := h.2
    intro x4 e5
    rw [hR.2.2 58 (by decide)] at e5
    have h := h x4 e5
    intro x6 e7
    rw [hR.2.1 3] at e7
    have h := h x6 e7
    refine ⟨fun c8 => ?_, fun c8 => ?_⟩
    · have h := h.1 c8
      exact xb_X12_acts_90 hQ  p1 p2 p3 _ _ hR F h
    · have h := h.2 c8
      refine x_X12_asks hR h (fun σ10 X11 h hR F12 => ?_)
      have F := F.trans F12
      exact hQ _ _ h hR F
def wx_X12_acts (p1 : Int32) (X : Xc) (Qx : Xc → Prop) : Prop := (wx_X12_leads p1 X (fun (x1 : Int32) (X3 : Xc) => (vp_in p1 7 ∧ (∀ x5 : Int32, x5 = X3.2 23 p1.toNatClampNeg → ((¬ x5 = (2 : Int32) → bx_X12_acts_60  Qx p1 x1 x5 X3) ∧ (x5 = (2 : Int32) → (∀ x8 : Int32, x8 = X3.1 4 → (vp_in p1 7 ∧ (∀ x10 : Int32, x10 = X3.2 59 p1.toNatClampNeg → (∀ x12 : Int32, x12 = X3.1 3 → (((x8 - x10) < ((4 : Int32) * x12) → bx_X12_acts_60  Qx p1 x1 x5 X3) ∧ (¬ (x8 - x10) < ((4 : Int32) * x12) → (vp_in p1 7 ∧ (∀ x15 : Int32, x15 = X3.2 21 p1.toNatClampNeg → (vp_in p1 7 ∧ (∀ x17 : Int32, x17 = X3.2 22 p1.toNatClampNeg → (wx_X12_turnsTo p1 (x15 + (1 : Int32)) x17 X3 (fun (X21 : Xc) => Qx X21))))))))))))))))))
set_option maxHeartbeats 4000000 in
set_option maxRecDepth 100000 in
theorem x_X12_acts {m : Nat} {ad : Nat → Nat} {p1 : Int32} {σ : Sto} {X : Xc} {Q : Sto → Prop} {Qx : Xc → Prop} (hR : RefC m ad σ X) (h : wx_X12_acts p1 X Qx) (hQ : ∀ (σ' : Sto) (X' : Xc), Qx X' → RefC m ad σ' X' → Fi m ad σ σ' → Q σ') : wp_X12_acts m p1 σ Q := by
  have F : Fi m ad σ σ := Fi.rf
  unfold wx_X12_acts at h
  unfold wp_X12_acts
  refine ⟨hR.1.1, ?_⟩
  refine x_X12_leads hR h (fun x1 σ2 X3 h hR F4 => ?_)
  have F := F.trans F4
  refine ⟨hR.1.1, ?_⟩
  refine ⟨ad 23, hR.P (k := 23) (by decide), ?_⟩
  refine ⟨hR.K (k := 23) (by decide), ?_⟩
  refine ⟨hR.N (k := 23) (by decide) h.1, ?_⟩
  have h := h.2
  intro x5 e6
  rw [hR.2.2 23 (by decide)] at e6
  have h := h x5 e6
  refine ⟨fun c7 => ?_, fun c7 => ?_⟩
  · have h := h.1 c7
    exact xb_X12_acts_60 hQ  p1 x1 x5 _ _ hR F h
  · have h := h.2 c7
    intro x8 e9
    rw [hR.2.1 4] at e9
    have h := h x8 e9
    refine ⟨ad 59, hR.P (k := 59) (by decide), ?_⟩
    refine ⟨hR.K (k := 59) (by decide), ?_⟩
    refine ⟨hR.N (k := 59) (by decide) h.1, ?_⟩
    have h := h.2
    intro x10 e11
    rw [hR.2.2 59 (by decide)] at e11
    have h := h x10 e11
    intro x12 e13
    rw [hR.2.1 3] at e13
    have h := h x12 e13
    refine ⟨fun c14 => ?_, fun c14 => ?_⟩
    · have h := h.1 c14
      exact xb_X12_acts_60 hQ  p1 x1 x5 _ _ hR F h
    · have h := h.2 c14
      refine ⟨ad 21, hR.P (k := 21) (by decide), ?_⟩
      refine ⟨hR.K (k := 21) (by decide), ?_⟩
      refine ⟨hR.N (k := 21) (by decide) h.1, ?_⟩
      have h := h.2
      intro x15 e16
      rw [hR.2.2 21 (by decide)] at e16
      have h := h x15 e16
      refine ⟨ad 22, hR.P (k := 22) (by decide), ?_⟩
      refine ⟨hR.K (k := 22) (by decide), ?_⟩
      refine ⟨hR.N (k := 22) (by decide) h.1, ?_⟩
      have h := h.2
      intro x17 e18
      rw [hR.2.2 22 (by decide)] at e18
      have h := h x17 e18
      refine x_X12_turnsTo hR h (fun σ20 X21 h hR F22 => ?_)
      have F := F.trans F22
      exact hQ _ _ h hR F
def bx_X12_goOn_109 (Lx70 : Int32 → Xc → Prop) (Qx : Xc → Prop) (p1 : Int32) (X : Xc) : Prop := (∀ x1 : Int32, x1 = p1 + (1 : Int32) → Lx70 (x1) X)
set_option maxHeartbeats 4000000 in
set_option maxRecDepth 100000 in
theorem xb_X12_goOn_109 {m : Nat} {ad : Nat → Nat} {σ0 : Sto} {Lx70 : Int32 → Xc → Prop} {L70 : Int32 → Sto → Prop} {Q : Sto → Prop} {Qx : Xc → Prop} (hQ : ∀ (σ' : Sto) (X' : Xc), Qx X' → RefC m ad σ' X' → Fi m ad σ0 σ' → Q σ') (hL70 : ∀ (t : Int32) (σ : Sto) (X : Xc), Lx70 t X → RefC m ad σ X → Fi m ad σ0 σ → L70 t σ) (p1 : Int32) (σ : Sto) (X : Xc) (hR : RefC m ad σ X) (F : Fi m ad σ0 σ) (h : bx_X12_goOn_109 Lx70 Qx p1 X) : b_X12_goOn_109 m L70 Q p1 σ := by
  unfold bx_X12_goOn_109 at h
  unfold b_X12_goOn_109
  intro x1 e2
  have h := h x1 e2
  exact hL70 _ _ _ h hR F
def fx_X12_goOn_70 (Qx : Xc → Prop) (Lx70 : Int32 → Xc → Prop) (t : Int32) (X : Xc) : Prop := (((4 : Int32) ≤ t → Qx X) ∧ (¬ (4 : Int32) ≤ t → (vp_in t 4 ∧ (∀ x2 : Int32, x2 = X.2 66 t.toNatClampNeg → ((x2 = 0 → bx_X12_goOn_109 Lx70 Qx t X) ∧ (¬ x2 = 0 → (∀ x5 : Int32, x5 = X.1 4 → (vp_in t 4 ∧ (∀ x7 : Int32, x7 = X.2 70 t.toNatClampNeg → (∀ x9 : Int32, x9 = X.1 3 → (((x5 - x7) < ((2 : Int32) * x9) → bx_X12_goOn_109 Lx70 Qx t X) ∧ (¬ (x5 - x7) < ((2 : Int32) * x9) → (wx_X12_stamp t X (fun (X14 : Xc) => bx_X12_goOn_109 Lx70 Qx t X14))))))))))))))
set_option maxHeartbeats 4000000 in
set_option maxRecDepth 100000 in
theorem xf_X12_goOn_70 {m : Nat} {ad : Nat → Nat} {σ0 : Sto} {Q : Sto → Prop} {Qx : Xc → Prop} {Lx70 : Int32 → Xc → Prop} {L70 : Int32 → Sto → Prop} (hQ : ∀ (σ' : Sto) (X' : Xc), Qx X' → RefC m ad σ' X' → Fi m ad σ0 σ' → Q σ') (hL70 : ∀ (t : Int32) (σ : Sto) (X : Xc), Lx70 t X → RefC m ad σ X → Fi m ad σ0 σ → L70 t σ) : ∀ (t : Int32) (σ : Sto) (X : Xc), RefC m ad σ X → Fi m ad σ0 σ → fx_X12_goOn_70  Qx Lx70 t X → f_X12_goOn_70 m  Q L70 t σ := by
  intro t σ X hR F h
  unfold fx_X12_goOn_70 at h
  unfold f_X12_goOn_70
  refine ⟨fun c1 => ?_, fun c1 => ?_⟩
  · have h := h.1 c1
    exact hQ _ _ h hR F
  · have h := h.2 c1
    refine ⟨hR.1.1, ?_⟩
    refine ⟨ad 66, hR.P (k := 66) (by decide), ?_⟩
    refine ⟨hR.K (k := 66) (by decide), ?_⟩
    refine ⟨hR.N (k := 66) (by decide) h.1, ?_⟩
    have h := h.2
    intro x2 e3
    rw [hR.2.2 66 (by decide)] at e3
    have h := h x2 e3
    refine ⟨fun c4 => ?_, fun c4 => ?_⟩
    · have h := h.1 c4
      exact xb_X12_goOn_109 hQ hL70 t _ _ hR F h
    · have h := h.2 c4
      intro x5 e6
      rw [hR.2.1 4] at e6
      have h := h x5 e6
      refine ⟨ad 70, hR.P (k := 70) (by decide), ?_⟩
      refine ⟨hR.K (k := 70) (by decide), ?_⟩
      refine ⟨hR.N (k := 70) (by decide) h.1, ?_⟩
      have h := h.2
      intro x7 e8
      rw [hR.2.2 70 (by decide)] at e8
      have h := h x7 e8
      intro x9 e10
      rw [hR.2.1 3] at e10
      have h := h x9 e10
      refine ⟨fun c11 => ?_, fun c11 => ?_⟩
      · have h := h.1 c11
        exact xb_X12_goOn_109 hQ hL70 t _ _ hR F h
      · have h := h.2 c11
        refine x_X12_stamp hR h (fun σ13 X14 h hR F15 => ?_)
        have F := F.trans F15
        exact xb_X12_goOn_109 hQ hL70 t _ _ hR F h
def bx_X12_goOn_62 (Lx40 : Int32 → Xc → Prop) (Qx : Xc → Prop) (p1 : Int32) (X : Xc) : Prop := (∀ x1 : Int32, x1 = p1 + (1 : Int32) → Lx40 (x1) X)
set_option maxHeartbeats 4000000 in
set_option maxRecDepth 100000 in
theorem xb_X12_goOn_62 {m : Nat} {ad : Nat → Nat} {σ0 : Sto} {Lx40 : Int32 → Xc → Prop} {L40 : Int32 → Sto → Prop} {Q : Sto → Prop} {Qx : Xc → Prop} (hQ : ∀ (σ' : Sto) (X' : Xc), Qx X' → RefC m ad σ' X' → Fi m ad σ0 σ' → Q σ') (hL40 : ∀ (t : Int32) (σ : Sto) (X : Xc), Lx40 t X → RefC m ad σ X → Fi m ad σ0 σ → L40 t σ) (p1 : Int32) (σ : Sto) (X : Xc) (hR : RefC m ad σ X) (F : Fi m ad σ0 σ) (h : bx_X12_goOn_62 Lx40 Qx p1 X) : b_X12_goOn_62 m L40 Q p1 σ := by
  unfold bx_X12_goOn_62 at h
  unfold b_X12_goOn_62
  intro x1 e2
  have h := h x1 e2
  exact hL40 _ _ _ h hR F
def fx_X12_goOn_40 (Qx : Xc → Prop) (Lx40 : Int32 → Xc → Prop) (t : Int32) (X : Xc) : Prop := (∀ x1 : Int32, x1 = X.1 1 → ((x1 ≤ t → LFx (fx_X12_goOn_70  Qx) ((0 : Int32)) X) ∧ (¬ x1 ≤ t → (vp_in t 7 ∧ (∀ x4 : Int32, x4 = X.2 20 t.toNatClampNeg → ((¬ x4 = 0 → bx_X12_goOn_62 Lx40 Qx t X) ∧ (x4 = 0 → (wx_X12_acts t X (fun (X9 : Xc) => bx_X12_goOn_62 Lx40 Qx t X9)))))))))
set_option maxHeartbeats 4000000 in
set_option maxRecDepth 100000 in
theorem xf_X12_goOn_40 {m : Nat} {ad : Nat → Nat} {σ0 : Sto} {Q : Sto → Prop} {Qx : Xc → Prop} {Lx40 : Int32 → Xc → Prop} {L40 : Int32 → Sto → Prop} (hQ : ∀ (σ' : Sto) (X' : Xc), Qx X' → RefC m ad σ' X' → Fi m ad σ0 σ' → Q σ') (hL40 : ∀ (t : Int32) (σ : Sto) (X : Xc), Lx40 t X → RefC m ad σ X → Fi m ad σ0 σ → L40 t σ) : ∀ (t : Int32) (σ : Sto) (X : Xc), RefC m ad σ X → Fi m ad σ0 σ → fx_X12_goOn_40  Qx Lx40 t X → f_X12_goOn_40 m  Q L40 t σ := by
  intro t σ X hR F h
  unfold fx_X12_goOn_40 at h
  unfold f_X12_goOn_40
  refine ⟨hR.1.1, ?_⟩
  intro x1 e2
  rw [hR.2.1 1] at e2
  have h := h x1 e2
  refine ⟨fun c3 => ?_, fun c3 => ?_⟩
  · have h := h.1 c3
    exact lfx h hR F (fun Lx L hL t σ X hR F h => xf_X12_goOn_70 hQ  hL t σ X hR F h)
  · have h := h.2 c3
    refine ⟨ad 20, hR.P (k := 20) (by decide), ?_⟩
    refine ⟨hR.K (k := 20) (by decide), ?_⟩
    refine ⟨hR.N (k := 20) (by decide) h.1, ?_⟩
    have h := h.2
    intro x4 e5
    rw [hR.2.2 20 (by decide)] at e5
    have h := h x4 e5
    refine ⟨fun c6 => ?_, fun c6 => ?_⟩
    · have h := h.1 c6
      exact xb_X12_goOn_62 hQ hL40 t _ _ hR F h
    · have h := h.2 c6
      refine x_X12_acts hR h (fun σ8 X9 h hR F10 => ?_)
      have F := F.trans F10
      exact xb_X12_goOn_62 hQ hL40 t _ _ hR F h
def bx_X12_goOn_38 (Qx : Xc → Prop)  (X : Xc) : Prop := LFx (fx_X12_goOn_40  Qx) ((0 : Int32)) X
set_option maxHeartbeats 4000000 in
set_option maxRecDepth 100000 in
theorem xb_X12_goOn_38 {m : Nat} {ad : Nat → Nat} {σ0 : Sto} {Q : Sto → Prop} {Qx : Xc → Prop} (hQ : ∀ (σ' : Sto) (X' : Xc), Qx X' → RefC m ad σ' X' → Fi m ad σ0 σ' → Q σ')   (σ : Sto) (X : Xc) (hR : RefC m ad σ X) (F : Fi m ad σ0 σ) (h : bx_X12_goOn_38  Qx  X) : b_X12_goOn_38 m  Q  σ := by
  unfold bx_X12_goOn_38 at h
  unfold b_X12_goOn_38
  exact lfx h hR F (fun Lx L hL t σ X hR F h => xf_X12_goOn_40 hQ  hL t σ X hR F h)
def wx_X12_goOn  (X : Xc) (Qx : Xc → Prop) : Prop := (∀ x1 : Int32, x1 = X.1 4 → (∀ x3 : Int32, x3 = x1 + (1 : Int32) → (∀ x5 : Int32, x5 = (xS X 4 x3).1 16 → ((¬ x5 = 0 → bx_X12_goOn_38  Qx  (xS X 4 x3)) ∧ (x5 = 0 → (∀ x8 : Int32, x8 = (xS X 4 x3).1 4 → (∀ x10 : Int32, x10 = (xS X 4 x3).1 19 → (∀ x12 : Int32, x12 = (xS X 4 x3).1 3 → (((x8 - x10) < x12 → bx_X12_goOn_38  Qx  (xS X 4 x3)) ∧ (¬ (x8 - x10) < x12 → (wx_X12_establish  (xS X 4 x3) (fun (x15 : Int32) (X17 : Xc) => bx_X12_goOn_38  Qx  X17))))))))))))
set_option maxHeartbeats 4000000 in
set_option maxRecDepth 100000 in
theorem x_X12_goOn {m : Nat} {ad : Nat → Nat} {σ : Sto} {X : Xc} {Q : Sto → Prop} {Qx : Xc → Prop} (hR : RefC m ad σ X) (h : wx_X12_goOn  X Qx) (hQ : ∀ (σ' : Sto) (X' : Xc), Qx X' → RefC m ad σ' X' → Fi m ad σ σ' → Q σ') : wp_X12_goOn m  σ Q := by
  have F : Fi m ad σ σ := Fi.rf
  unfold wx_X12_goOn at h
  unfold wp_X12_goOn
  refine ⟨hR.1.1, ?_⟩
  intro x1 e2
  rw [hR.2.1 4] at e2
  have h := h x1 e2
  intro x3 e4
  have h := h x3 e4
  have F := F.S (k := 4) (v := x3)
  have hR := hR.S (k := 4) (v := x3)
  intro x5 e6
  rw [hR.2.1 16] at e6
  have h := h x5 e6
  refine ⟨fun c7 => ?_, fun c7 => ?_⟩
  · have h := h.1 c7
    exact xb_X12_goOn_38 hQ   _ _ hR F h
  · have h := h.2 c7
    intro x8 e9
    rw [hR.2.1 4] at e9
    have h := h x8 e9
    intro x10 e11
    rw [hR.2.1 19] at e11
    have h := h x10 e11
    intro x12 e13
    rw [hR.2.1 3] at e13
    have h := h x12 e13
    refine ⟨fun c14 => ?_, fun c14 => ?_⟩
    · have h := h.1 c14
      exact xb_X12_goOn_38 hQ   _ _ hR F h
    · have h := h.2 c14
      refine x_X12_establish hR h (fun x15 σ16 X17 h hR F18 => ?_)
      have F := F.trans F18
      exact xb_X12_goOn_38 hQ   _ _ hR F h
