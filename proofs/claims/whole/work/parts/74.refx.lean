def wx_X12_replyGap (p1 : Int32) (X : Xc) (Qx : Xc → Prop) : Prop := (vp_in p1 7 ∧ (∀ x2 : Int32, x2 = X.2 43 p1.toNatClampNeg → (vp_in (1 : Int32) 640 ∧ (∀ x5 : Int32, x5 = X.2 15 (1 : Int32).toNatClampNeg → (∀ x7 : Int32, x7 = x2 ||| ((1 : Int32) <<< (x5 &&& 31)) → (vp_in p1 7 ∧ (vp_in p1 7 ∧ (∀ x10 : Int32, x10 = (xA X 43 p1.toNatClampNeg x7).2 43 p1.toNatClampNeg → (wx_X12_bits x10 (xA X 43 p1.toNatClampNeg x7) (fun (x12 : Int32) (X14 : Xc) => (∀ x16 : Int32, x16 = X14.1 2 → ((x16 ≤ x12 → (vp_in p1 7 ∧ (wx_X12_takes p1 (xA X14 23 p1.toNatClampNeg (0 : Int32)) (fun (X22 : Xc) => Qx X22)))) ∧ (¬ x16 ≤ x12 → Qx X14)))))))))))))
set_option maxHeartbeats 4000000 in
set_option maxRecDepth 100000 in
theorem x_X12_replyGap {m : Nat} {ad : Nat → Nat} {p1 : Int32} {σ : Sto} {X : Xc} {Q : Sto → Prop} {Qx : Xc → Prop} (hR : RefC m ad σ X) (h : wx_X12_replyGap p1 X Qx) (hQ : ∀ (σ' : Sto) (X' : Xc), Qx X' → RefC m ad σ' X' → Fi m ad σ σ' → Q σ') : wp_X12_replyGap m p1 σ Q := by
  have F : Fi m ad σ σ := Fi.rf
  unfold wx_X12_replyGap at h
  unfold wp_X12_replyGap
  refine ⟨hR.1.1, ?_⟩
  have a1 : sP σ m 43 = some (ad 43) := hR.P (k := 43) (by decide)
  refine ⟨ad 43, a1, ?_⟩
  refine ⟨hR.K (k := 43) (by decide), ?_⟩
  refine ⟨hR.N (k := 43) (by decide) h.1, ?_⟩
  have h := h.2
  intro x2 e3
  rw [hR.2.2 43 (by decide)] at e3
  have h := h x2 e3
  have a4 : sP σ m 15 = some (ad 15) := hR.P (k := 15) (by decide)
  refine ⟨ad 15, a4, ?_⟩
  refine ⟨hR.K (k := 15) (by decide), ?_⟩
  refine ⟨hR.N (k := 15) (by decide) h.1, ?_⟩
  have h := h.2
  intro x5 e6
  rw [hR.2.2 15 (by decide)] at e6
  have h := h x5 e6
  intro x7 e8
  have h := h x7 e8
  refine ⟨hR.N (k := 43) (by decide) h.1, ?_⟩
  have h := h.2
  have F := F.A (k := 43) (i := p1.toNatClampNeg) (v := x7) (by decide)
  have hR := hR.A (k := 43) (i := p1.toNatClampNeg) (v := x7) (by decide)
  have a9 : sP σ m 43 = some (ad 43) := hR.P (k := 43) (by decide)
  refine ⟨hR.N (k := 43) (by decide) h.1, ?_⟩
  have h := h.2
  intro x10 e11
  rw [hR.2.2 43 (by decide)] at e11
  have h := h x10 e11
  refine x_X12_bits hR h (fun x12 σ13 X14 h hR F15 => ?_)
  have F := F.trans F15
  refine ⟨hR.1.1, ?_⟩
  intro x16 e17
  rw [hR.2.1 2] at e17
  have h := h x16 e17
  refine ⟨fun c18 => ?_, fun c18 => ?_⟩
  · have h := h.1 c18
    have a19 : sP σ13 m 23 = some (ad 23) := hR.P (k := 23) (by decide)
    refine ⟨ad 23, a19, ?_⟩
    refine ⟨hR.K (k := 23) (by decide), ?_⟩
    refine ⟨hR.N (k := 23) (by decide) h.1, ?_⟩
    have h := h.2
    have F := F.A (k := 23) (i := p1.toNatClampNeg) (v := (0 : Int32)) (by decide)
    have hR := hR.A (k := 23) (i := p1.toNatClampNeg) (v := (0 : Int32)) (by decide)
    refine x_X12_takes hR h (fun σ21 X22 h hR F23 => ?_)
    have F := F.trans F23
    exact hQ _ _ h hR F
  · have h := h.2 c18
    exact hQ _ _ h hR F
def bx_X12_replySync_17 (Qx : Xc → Prop) (p1 : Int32) (p2 : Int32) (X : Xc) : Prop := (vp_in p1 7 ∧ (vp_in p1 7 ∧ (∀ x3 : Int32, x3 = (xA X 44 p1.toNatClampNeg p2).2 45 p1.toNatClampNeg → (vp_in (1 : Int32) 640 ∧ (∀ x6 : Int32, x6 = (xA X 44 p1.toNatClampNeg p2).2 15 (1 : Int32).toNatClampNeg → (∀ x8 : Int32, x8 = x3 ||| ((1 : Int32) <<< (x6 &&& 31)) → (vp_in p1 7 ∧ (vp_in p1 7 ∧ (∀ x11 : Int32, x11 = (xA (xA X 44 p1.toNatClampNeg p2) 45 p1.toNatClampNeg x8).2 45 p1.toNatClampNeg → (wx_X12_bits x11 (xA (xA X 44 p1.toNatClampNeg p2) 45 p1.toNatClampNeg x8) (fun (x13 : Int32) (X15 : Xc) => (∀ x17 : Int32, x17 = X15.1 2 → ((x17 ≤ x13 → (vp_in p1 7 ∧ (wx_X12_tellOthers (7 : Int32) p1 p2 (xA X15 28 p1.toNatClampNeg p2) (fun (X23 : Xc) => Qx X23)))) ∧ (¬ x17 ≤ x13 → Qx X15))))))))))))))
set_option maxHeartbeats 4000000 in
set_option maxRecDepth 100000 in
theorem xb_X12_replySync_17 {m : Nat} {ad : Nat → Nat} {σ0 : Sto} {Q : Sto → Prop} {Qx : Xc → Prop} (hQ : ∀ (σ' : Sto) (X' : Xc), Qx X' → RefC m ad σ' X' → Fi m ad σ0 σ' → Q σ')  (p1 : Int32) (p2 : Int32) (σ : Sto) (X : Xc) (hR : RefC m ad σ X) (F : Fi m ad σ0 σ) (h : bx_X12_replySync_17  Qx p1 p2 X) : b_X12_replySync_17 m  Q p1 p2 σ := by
  unfold bx_X12_replySync_17 at h
  unfold b_X12_replySync_17
  refine ⟨hR.1.1, ?_⟩
  have a1 : sP σ m 44 = some (ad 44) := hR.P (k := 44) (by decide)
  refine ⟨ad 44, a1, ?_⟩
  refine ⟨hR.K (k := 44) (by decide), ?_⟩
  refine ⟨hR.N (k := 44) (by decide) h.1, ?_⟩
  have h := h.2
  have F := F.A (k := 44) (i := p1.toNatClampNeg) (v := p2) (by decide)
  have hR := hR.A (k := 44) (i := p1.toNatClampNeg) (v := p2) (by decide)
  have a2 : sP σ m 45 = some (ad 45) := hR.P (k := 45) (by decide)
  refine ⟨ad 45, a2, ?_⟩
  refine ⟨hR.K (k := 45) (by decide), ?_⟩
  refine ⟨hR.N (k := 45) (by decide) h.1, ?_⟩
  have h := h.2
  intro x3 e4
  rw [hR.2.2 45 (by decide)] at e4
  have h := h x3 e4
  have a5 : sP σ m 15 = some (ad 15) := hR.P (k := 15) (by decide)
  refine ⟨ad 15, a5, ?_⟩
  refine ⟨hR.K (k := 15) (by decide), ?_⟩
  refine ⟨hR.N (k := 15) (by decide) h.1, ?_⟩
  have h := h.2
  intro x6 e7
  rw [hR.2.2 15 (by decide)] at e7
  have h := h x6 e7
  intro x8 e9
  have h := h x8 e9
  refine ⟨hR.N (k := 45) (by decide) h.1, ?_⟩
  have h := h.2
  have F := F.A (k := 45) (i := p1.toNatClampNeg) (v := x8) (by decide)
  have hR := hR.A (k := 45) (i := p1.toNatClampNeg) (v := x8) (by decide)
  have a10 : sP σ m 45 = some (ad 45) := hR.P (k := 45) (by decide)
  refine ⟨hR.N (k := 45) (by decide) h.1, ?_⟩
  have h := h.2
  intro x11 e12
  rw [hR.2.2 45 (by decide)] at e12
  have h := h x11 e12
  refine x_X12_bits hR h (fun x13 σ14 X15 h hR F16 => ?_)
  have F := F.trans F16
  refine ⟨hR.1.1, ?_⟩
  intro x17 e18
  rw [hR.2.1 2] at e18
  have h := h x17 e18
  refine ⟨fun c19 => ?_, fun c19 => ?_⟩
  · have h := h.1 c19
    have a20 : sP σ14 m 28 = some (ad 28) := hR.P (k := 28) (by decide)
    refine ⟨ad 28, a20, ?_⟩
    refine ⟨hR.K (k := 28) (by decide), ?_⟩
    refine ⟨hR.N (k := 28) (by decide) h.1, ?_⟩
    have h := h.2
    have F := F.A (k := 28) (i := p1.toNatClampNeg) (v := p2) (by decide)
    have hR := hR.A (k := 28) (i := p1.toNatClampNeg) (v := p2) (by decide)
    refine x_X12_tellOthers hR h (fun σ22 X23 h hR F24 => ?_)
    have F := F.trans F24
    exact hQ _ _ h hR F
  · have h := h.2 c19
    exact hQ _ _ h hR F
def wx_X12_replySync (p1 : Int32) (p2 : Int32) (X : Xc) (Qx : Xc → Prop) : Prop := (vp_in p1 7 ∧ (∀ x2 : Int32, x2 = X.2 44 p1.toNatClampNeg → ((x2 = p2 → bx_X12_replySync_17  Qx p1 p2 X) ∧ (¬ x2 = p2 → (vp_in p1 7 ∧ bx_X12_replySync_17  Qx p1 p2 (xA X 45 p1.toNatClampNeg (0 : Int32)))))))
set_option maxHeartbeats 4000000 in
set_option maxRecDepth 100000 in
theorem x_X12_replySync {m : Nat} {ad : Nat → Nat} {p1 : Int32} {p2 : Int32} {σ : Sto} {X : Xc} {Q : Sto → Prop} {Qx : Xc → Prop} (hR : RefC m ad σ X) (h : wx_X12_replySync p1 p2 X Qx) (hQ : ∀ (σ' : Sto) (X' : Xc), Qx X' → RefC m ad σ' X' → Fi m ad σ σ' → Q σ') : wp_X12_replySync m p1 p2 σ Q := by
  have F : Fi m ad σ σ := Fi.rf
  unfold wx_X12_replySync at h
  unfold wp_X12_replySync
  refine ⟨hR.1.1, ?_⟩
  have a1 : sP σ m 44 = some (ad 44) := hR.P (k := 44) (by decide)
  refine ⟨ad 44, a1, ?_⟩
  refine ⟨hR.K (k := 44) (by decide), ?_⟩
  refine ⟨hR.N (k := 44) (by decide) h.1, ?_⟩
  have h := h.2
  intro x2 e3
  rw [hR.2.2 44 (by decide)] at e3
  have h := h x2 e3
  refine ⟨fun c4 => ?_, fun c4 => ?_⟩
  · have h := h.1 c4
    exact xb_X12_replySync_17 hQ  p1 p2 _ _ hR F h
  · have h := h.2 c4
    have a5 : sP σ m 45 = some (ad 45) := hR.P (k := 45) (by decide)
    refine ⟨ad 45, a5, ?_⟩
    refine ⟨hR.K (k := 45) (by decide), ?_⟩
    refine ⟨hR.N (k := 45) (by decide) h.1, ?_⟩
    have h := h.2
    have F := F.A (k := 45) (i := p1.toNatClampNeg) (v := (0 : Int32)) (by decide)
    have hR := hR.A (k := 45) (i := p1.toNatClampNeg) (v := (0 : Int32)) (by decide)
    exact xb_X12_replySync_17 hQ  p1 p2 _ _ hR F h
def bx_X12_getsInView_241 (Qx : Xc → Prop) (p1 : Int32) (p3 : Int32) (s0 : Int32) (s1 : Int32) (X : Xc) : Prop := (vp_in s1 7 ∧ (wx_X12_leader p1 (xA X 29 s1.toNatClampNeg s0) (fun (x1 : Int32) (X3 : Xc) => (wx_X12_tell (6 : Int32) p1 x1 p3 X3 (fun (X7 : Xc) => Qx X7)))))
set_option maxHeartbeats 4000000 in
set_option maxRecDepth 100000 in
theorem xb_X12_getsInView_241 {m : Nat} {ad : Nat → Nat} {σ0 : Sto} {Q : Sto → Prop} {Qx : Xc → Prop} (hQ : ∀ (σ' : Sto) (X' : Xc), Qx X' → RefC m ad σ' X' → Fi m ad σ0 σ' → Q σ')  (p1 : Int32) (p3 : Int32) (s0 : Int32) (s1 : Int32) (σ : Sto) (X : Xc) (hR : RefC m ad σ X) (F : Fi m ad σ0 σ) (h : bx_X12_getsInView_241  Qx p1 p3 s0 s1 X) : b_X12_getsInView_241 m  Q p1 p3 s0 s1 (some (ad 29)) σ := by
  unfold bx_X12_getsInView_241 at h
  unfold b_X12_getsInView_241
  refine ⟨ad 29, rfl, ?_⟩
  refine ⟨hR.K (k := 29) (by decide), ?_⟩
  refine ⟨hR.N (k := 29) (by decide) h.1, ?_⟩
  have h := h.2
  have F := F.A (k := 29) (i := s1.toNatClampNeg) (v := s0) (by decide)
  have hR := hR.A (k := 29) (i := s1.toNatClampNeg) (v := s0) (by decide)
  refine ⟨hR.1.1, ?_⟩
  refine x_X12_leader hR h (fun x1 σ2 X3 h hR F4 => ?_)
  have F := F.trans F4
  refine ⟨hR.1.1, ?_⟩
  refine x_X12_tell hR h (fun σ6 X7 h hR F8 => ?_)
  have F := F.trans F8
  exact hQ _ _ h hR F
def wx_X12_getsInView (p1 : Int32) (p2 : Int32) (X : Xc) (Qx : Xc → Prop) : Prop := (vp_in (5 : Int32) 640 ∧ (∀ x2 : Int32, x2 = X.2 15 (5 : Int32).toNatClampNeg → ((p2.toInt < 1 ∨ 6 < p2.toInt → (wx_X12_leads p1 X (fun (x5 : Int32) (X7 : Xc) => ((¬ x5 = 0 → Qx X7) ∧ (x5 = 0 → (vp_in p1 7 ∧ (∀ x11 : Int32, x11 = X7.2 23 p1.toNatClampNeg → ((x11 = (2 : Int32) → Qx X7) ∧ (¬ x11 = (2 : Int32) → (vp_in p1 7 ∧ (∀ x15 : Int32, x15 = X7.2 28 p1.toNatClampNeg → ((x2 ≤ x15 → Qx X7) ∧ (¬ x2 ≤ x15 → (vp_in p1 7 ∧ (∀ x19 : Int32, x19 = X7.2 29 p1.toNatClampNeg → ((x19 < x2 → Qx X7) ∧ (¬ x19 < x2 → (vp_in p1 7 ∧ Qx (xA X7 28 p1.toNatClampNeg x2))))))))))))))))))) ∧ (p2 = (1 : Int32) → (wx_X12_leads p1 X (fun (x23 : Int32) (X25 : Xc) => ((x23 = 0 → Qx X25) ∧ (¬ x23 = 0 → (vp_in p1 7 ∧ (∀ x29 : Int32, x29 = X25.2 23 p1.toNatClampNeg → ((x29 = (2 : Int32) → Qx X25) ∧ (¬ x29 = (2 : Int32) → (wx_X12_lookUp p1 x2 X25 (fun (X34 : Xc) => Qx X34))))))))))) ∧ (p2 = (2 : Int32) → (vp_in p1 7 ∧ (∀ x37 : Int32, x37 = X.2 23 p1.toNatClampNeg → ((¬ x37 = 0 → Qx X) ∧ (x37 = 0 → (vp_in p1 7 ∧ (∀ x41 : Int32, x41 = X.2 26 p1.toNatClampNeg → ((¬ x2 = (x41 + (1 : Int32)) → Qx X) ∧ (x2 = (x41 + (1 : Int32)) → (vp_in p1 7 ∧ (∀ x45 : Int32, x45 = X.2 27 p1.toNatClampNeg → (wx_X12_hold p1 (x2 - x45) (6 : Int32) X (fun (X49 : Xc) => (wx_X12_takes p1 X49 (fun (X53 : Xc) => Qx X53))))))))))))))) ∧ (p2 = (3 : Int32) → (wx_X12_leads p1 X (fun (x55 : Int32) (X57 : Xc) => ((¬ x55 = 0 → Qx X57) ∧ (x55 = 0 → (vp_in p1 7 ∧ (∀ x61 : Int32, x61 = X57.2 23 p1.toNatClampNeg → ((¬ x61 = 0 → Qx X57) ∧ (x61 = 0 → (wx_X12_commitGap p1 x2 X57 (fun (X66 : Xc) => Qx X66))))))))))) ∧ (p2 = (4 : Int32) → (wx_X12_leads p1 X (fun (x68 : Int32) (X70 : Xc) => ((x68 = 0 → Qx X70) ∧ (¬ x68 = 0 → (vp_in p1 7 ∧ (∀ x74 : Int32, x74 = X70.2 23 p1.toNatClampNeg → ((¬ x74 = (1 : Int32) → Qx X70) ∧ (x74 = (1 : Int32) → (vp_in p1 7 ∧ (∀ x78 : Int32, x78 = X70.2 26 p1.toNatClampNeg → ((¬ x2 = x78 → Qx X70) ∧ (x2 = x78 → (wx_X12_replyGap p1 X70 (fun (X83 : Xc) => Qx X83))))))))))))))) ∧ (p2 = (5 : Int32) → (wx_X12_leads p1 X (fun (x85 : Int32) (X87 : Xc) => ((¬ x85 = 0 → Qx X87) ∧ (x85 = 0 → (vp_in p1 7 ∧ (∀ x91 : Int32, x91 = X87.2 23 p1.toNatClampNeg → ((¬ x91 = 0 → Qx X87) ∧ (x91 = 0 → (vp_in p1 7 ∧ (∀ x95 : Int32, x95 = X87.2 26 p1.toNatClampNeg → ((x95 < x2 → Qx X87) ∧ (¬ x95 < x2 → (wx_X12_readEntries p1 x2 (6 : Int32) X87 (fun (X100 : Xc) => (vp_in p1 7 ∧ (∀ x104 : Int32, x104 = X100.2 29 p1.toNatClampNeg → ((x2 ≤ x104 → (vp_in p1 7 ∧ (∀ x108 : Int32, x108 = X100.2 29 p1.toNatClampNeg → bx_X12_getsInView_241  Qx p1 x2 x108 p1 X100))) ∧ (¬ x2 ≤ x104 → bx_X12_getsInView_241  Qx p1 x2 x2 p1 X100))))))))))))))))))) ∧ (p2 = (6 : Int32) → (wx_X12_leads p1 X (fun (x110 : Int32) (X112 : Xc) => ((x110 = 0 → Qx X112) ∧ (¬ x110 = 0 → (vp_in p1 7 ∧ (∀ x116 : Int32, x116 = X112.2 23 p1.toNatClampNeg → ((x116 = (2 : Int32) → Qx X112) ∧ (¬ x116 = (2 : Int32) → (vp_in p1 7 ∧ (∀ x120 : Int32, x120 = X112.2 28 p1.toNatClampNeg → ((x2 ≤ x120 → Qx X112) ∧ (¬ x2 ≤ x120 → (wx_X12_replySync p1 x2 X112 (fun (X125 : Xc) => Qx X125))))))))))))))))))
set_option maxHeartbeats 4000000 in
set_option maxRecDepth 100000 in
theorem x_X12_getsInView {m : Nat} {ad : Nat → Nat} {p1 : Int32} {p2 : Int32} {σ : Sto} {X : Xc} {Q : Sto → Prop} {Qx : Xc → Prop} (hR : RefC m ad σ X) (h : wx_X12_getsInView p1 p2 X Qx) (hQ : ∀ (σ' : Sto) (X' : Xc), Qx X' → RefC m ad σ' X' → Fi m ad σ σ' → Q σ') : wp_X12_getsInView m p1 p2 σ Q := by
  have F : Fi m ad σ σ := Fi.rf
  unfold wx_X12_getsInView at h
  unfold wp_X12_getsInView
  refine ⟨hR.1.1, ?_⟩
  have a1 : sP σ m 15 = some (ad 15) := hR.P (k := 15) (by decide)
  refine ⟨ad 15, a1, ?_⟩
  refine ⟨hR.K (k := 15) (by decide), ?_⟩
  refine ⟨hR.N (k := 15) (by decide) h.1, ?_⟩
  have h := h.2
  intro x2 e3
  rw [hR.2.2 15 (by decide)] at e3
  have h := h x2 e3
  refine ⟨fun c4 => ?_, fun c4 => ?_, fun c4 => ?_, fun c4 => ?_, fun c4 => ?_, fun c4 => ?_, fun c4 => ?_⟩
  · have h := h.1 c4
    refine x_X12_leads hR h (fun x5 σ6 X7 h hR F8 => ?_)
    have F := F.trans F8
    refine ⟨fun c9 => ?_, fun c9 => ?_⟩
    · have h := h.1 c9
      exact hQ _ _ h hR F
    · have h := h.2 c9
      refine ⟨hR.1.1, ?_⟩
      have a10 : sP σ6 m 23 = some (ad 23) := hR.P (k := 23) (by decide)
      refine ⟨ad 23, a10, ?_⟩
      refine ⟨hR.K (k := 23) (by decide), ?_⟩
      refine ⟨hR.N (k := 23) (by decide) h.1, ?_⟩
      have h := h.2
      intro x11 e12
      rw [hR.2.2 23 (by decide)] at e12
      have h := h x11 e12
      refine ⟨fun c13 => ?_, fun c13 => ?_⟩
      · have h := h.1 c13
        exact hQ _ _ h hR F
      · have h := h.2 c13
        have a14 : sP σ6 m 28 = some (ad 28) := hR.P (k := 28) (by decide)
        refine ⟨ad 28, a14, ?_⟩
        refine ⟨hR.K (k := 28) (by decide), ?_⟩
        refine ⟨hR.N (k := 28) (by decide) h.1, ?_⟩
        have h := h.2
        intro x15 e16
        rw [hR.2.2 28 (by decide)] at e16
        have h := h x15 e16
        refine ⟨fun c17 => ?_, fun c17 => ?_⟩
        · have h := h.1 c17
          exact hQ _ _ h hR F
        · have h := h.2 c17
          have a18 : sP σ6 m 29 = some (ad 29) := hR.P (k := 29) (by decide)
          refine ⟨ad 29, a18, ?_⟩
          refine ⟨hR.K (k := 29) (by decide), ?_⟩
          refine ⟨hR.N (k := 29) (by decide) h.1, ?_⟩
          have h := h.2
          intro x19 e20
          rw [hR.2.2 29 (by decide)] at e20
          have h := h x19 e20
          refine ⟨fun c21 => ?_, fun c21 => ?_⟩
          · have h := h.1 c21
            exact hQ _ _ h hR F
          · have h := h.2 c21
            have a22 : sP σ6 m 28 = some (ad 28) := hR.P (k := 28) (by decide)
            refine ⟨hR.N (k := 28) (by decide) h.1, ?_⟩
            have h := h.2
            have F := F.A (k := 28) (i := p1.toNatClampNeg) (v := x2) (by decide)
            have hR := hR.A (k := 28) (i := p1.toNatClampNeg) (v := x2) (by decide)
            exact hQ _ _ h hR F
  · have h := h.2.1 c4
    refine x_X12_leads hR h (fun x23 σ24 X25 h hR F26 => ?_)
    have F := F.trans F26
    refine ⟨fun c27 => ?_, fun c27 => ?_⟩
    · have h := h.1 c27
      exact hQ _ _ h hR F
    · have h := h.2 c27
      refine ⟨hR.1.1, ?_⟩
      have a28 : sP σ24 m 23 = some (ad 23) := hR.P (k := 23) (by decide)
      refine ⟨ad 23, a28, ?_⟩
      refine ⟨hR.K (k := 23) (by decide), ?_⟩
      refine ⟨hR.N (k := 23) (by decide) h.1, ?_⟩
      have h := h.2
      intro x29 e30
      rw [hR.2.2 23 (by decide)] at e30
      have h := h x29 e30
      refine ⟨fun c31 => ?_, fun c31 => ?_⟩
      · have h := h.1 c31
        exact hQ _ _ h hR F
      · have h := h.2 c31
        refine x_X12_lookUp hR h (fun σ33 X34 h hR F35 => ?_)
        have F := F.trans F35
        exact hQ _ _ h hR F
  · have h := h.2.2.1 c4
    have a36 : sP σ m 23 = some (ad 23) := hR.P (k := 23) (by decide)
    refine ⟨ad 23, a36, ?_⟩
    refine ⟨hR.K (k := 23) (by decide), ?_⟩
    refine ⟨hR.N (k := 23) (by decide) h.1, ?_⟩
    have h := h.2
    intro x37 e38
    rw [hR.2.2 23 (by decide)] at e38
    have h := h x37 e38
    refine ⟨fun c39 => ?_, fun c39 => ?_⟩
    · have h := h.1 c39
      exact hQ _ _ h hR F
    · have h := h.2 c39
      have a40 : sP σ m 26 = some (ad 26) := hR.P (k := 26) (by decide)
      refine ⟨ad 26, a40, ?_⟩
      refine ⟨hR.K (k := 26) (by decide), ?_⟩
      refine ⟨hR.N (k := 26) (by decide) h.1, ?_⟩
      have h := h.2
      intro x41 e42
      rw [hR.2.2 26 (by decide)] at e42
      have h := h x41 e42
      refine ⟨fun c43 => ?_, fun c43 => ?_⟩
      · have h := h.1 c43
        exact hQ _ _ h hR F
      · have h := h.2 c43
        have a44 : sP σ m 27 = some (ad 27) := hR.P (k := 27) (by decide)
        refine ⟨ad 27, a44, ?_⟩
        refine ⟨hR.K (k := 27) (by decide), ?_⟩
        refine ⟨hR.N (k := 27) (by decide) h.1, ?_⟩
        have h := h.2
        intro x45 e46
        rw [hR.2.2 27 (by decide)] at e46
        have h := h x45 e46
        refine x_X12_hold hR h (fun σ48 X49 h hR F50 => ?_)
        have F := F.trans F50
        refine ⟨hR.1.1, ?_⟩
        refine x_X12_takes hR h (fun σ52 X53 h hR F54 => ?_)
        have F := F.trans F54
        exact hQ _ _ h hR F
  · have h := h.2.2.2.1 c4
    refine x_X12_leads hR h (fun x55 σ56 X57 h hR F58 => ?_)
    have F := F.trans F58
    refine ⟨fun c59 => ?_, fun c59 => ?_⟩
    · have h := h.1 c59
      exact hQ _ _ h hR F
    · have h := h.2 c59
      refine ⟨hR.1.1, ?_⟩
      have a60 : sP σ56 m 23 = some (ad 23) := hR.P (k := 23) (by decide)
      refine ⟨ad 23, a60, ?_⟩
      refine ⟨hR.K (k := 23) (by decide), ?_⟩
      refine ⟨hR.N (k := 23) (by decide) h.1, ?_⟩
      have h := h.2
      intro x61 e62
      rw [hR.2.2 23 (by decide)] at e62
      have h := h x61 e62
      refine ⟨fun c63 => ?_, fun c63 => ?_⟩
      · have h := h.1 c63
        exact hQ _ _ h hR F
      · have h := h.2 c63
        refine x_X12_commitGap hR h (fun σ65 X66 h hR F67 => ?_)
        have F := F.trans F67
        exact hQ _ _ h hR F
  · have h := h.2.2.2.2.1 c4
    refine x_X12_leads hR h (fun x68 σ69 X70 h hR F71 => ?_)
    have F := F.trans F71
    refine ⟨fun c72 => ?_, fun c72 => ?_⟩
    · have h := h.1 c72
      exact hQ _ _ h hR F
    · have h := h.2 c72
      refine ⟨hR.1.1, ?_⟩
      have a73 : sP σ69 m 23 = some (ad 23) := hR.P (k := 23) (by decide)
      refine ⟨ad 23, a73, ?_⟩
      refine ⟨hR.K (k := 23) (by decide), ?_⟩
      refine ⟨hR.N (k := 23) (by decide) h.1, ?_⟩
      have h := h.2
      intro x74 e75
      rw [hR.2.2 23 (by decide)] at e75
      have h := h x74 e75
      refine ⟨fun c76 => ?_, fun c76 => ?_⟩
      · have h := h.1 c76
        exact hQ _ _ h hR F
      · have h := h.2 c76
        have a77 : sP σ69 m 26 = some (ad 26) := hR.P (k := 26) (by decide)
        refine ⟨ad 26, a77, ?_⟩
        refine ⟨hR.K (k := 26) (by decide), ?_⟩
        refine ⟨hR.N (k := 26) (by decide) h.1, ?_⟩
        have h := h.2
        intro x78 e79
        rw [hR.2.2 26 (by decide)] at e79
        have h := h x78 e79
        refine ⟨fun c80 => ?_, fun c80 => ?_⟩
        · have h := h.1 c80
          exact hQ _ _ h hR F
        · have h := h.2 c80
          refine x_X12_replyGap hR h (fun σ82 X83 h hR F84 => ?_)
          have F := F.trans F84
          exact hQ _ _ h hR F
  · have h := h.2.2.2.2.2.1 c4
    refine x_X12_leads hR h (fun x85 σ86 X87 h hR F88 => ?_)
    have F := F.trans F88
    refine ⟨fun c89 => ?_, fun c89 => ?_⟩
    · have h := h.1 c89
      exact hQ _ _ h hR F
    · have h := h.2 c89
      refine ⟨hR.1.1, ?_⟩
      have a90 : sP σ86 m 23 = some (ad 23) := hR.P (k := 23) (by decide)
      refine ⟨ad 23, a90, ?_⟩
      refine ⟨hR.K (k := 23) (by decide), ?_⟩
      refine ⟨hR.N (k := 23) (by decide) h.1, ?_⟩
      have h := h.2
      intro x91 e92
      rw [hR.2.2 23 (by decide)] at e92
      have h := h x91 e92
      refine ⟨fun c93 => ?_, fun c93 => ?_⟩
      · have h := h.1 c93
        exact hQ _ _ h hR F
      · have h := h.2 c93
        have a94 : sP σ86 m 26 = some (ad 26) := hR.P (k := 26) (by decide)
        refine ⟨ad 26, a94, ?_⟩
        refine ⟨hR.K (k := 26) (by decide), ?_⟩
        refine ⟨hR.N (k := 26) (by decide) h.1, ?_⟩
        have h := h.2
        intro x95 e96
        rw [hR.2.2 26 (by decide)] at e96
        have h := h x95 e96
        refine ⟨fun c97 => ?_, fun c97 => ?_⟩
        · have h := h.1 c97
          exact hQ _ _ h hR F
        · have h := h.2 c97
          refine x_X12_readEntries hR h (fun σ99 X100 h hR F101 => ?_)
          have F := F.trans F101
          refine ⟨hR.1.1, ?_⟩
          have a102 : sP σ99 m 29 = some (ad 29) := hR.P (k := 29) (by decide)
          have a103 : sP σ99 m 29 = some (ad 29) := hR.P (k := 29) (by decide)
          refine ⟨ad 29, a103, ?_⟩
          refine ⟨hR.K (k := 29) (by decide), ?_⟩
          refine ⟨hR.N (k := 29) (by decide) h.1, ?_⟩
          have h := h.2
          intro x104 e105
          rw [hR.2.2 29 (by decide)] at e105
          have h := h x104 e105
          refine ⟨fun c106 => ?_, fun c106 => ?_⟩
          · have h := h.1 c106
            have a107 : sP σ99 m 29 = some (ad 29) := hR.P (k := 29) (by decide)
            refine ⟨hR.N (k := 29) (by decide) h.1, ?_⟩
            have h := h.2
            intro x108 e109
            rw [hR.2.2 29 (by decide)] at e109
            have h := h x108 e109
            rw [a102]
            exact xb_X12_getsInView_241 hQ  p1 x2 x108 p1 _ _ hR F h
          · have h := h.2 c106
            rw [a102]
            exact xb_X12_getsInView_241 hQ  p1 x2 x2 p1 _ _ hR F h
  · have h := h.2.2.2.2.2.2 c4
    refine x_X12_leads hR h (fun x110 σ111 X112 h hR F113 => ?_)
    have F := F.trans F113
    refine ⟨fun c114 => ?_, fun c114 => ?_⟩
    · have h := h.1 c114
      exact hQ _ _ h hR F
    · have h := h.2 c114
      refine ⟨hR.1.1, ?_⟩
      have a115 : sP σ111 m 23 = some (ad 23) := hR.P (k := 23) (by decide)
      refine ⟨ad 23, a115, ?_⟩
      refine ⟨hR.K (k := 23) (by decide), ?_⟩
      refine ⟨hR.N (k := 23) (by decide) h.1, ?_⟩
      have h := h.2
      intro x116 e117
      rw [hR.2.2 23 (by decide)] at e117
      have h := h x116 e117
      refine ⟨fun c118 => ?_, fun c118 => ?_⟩
      · have h := h.1 c118
        exact hQ _ _ h hR F
      · have h := h.2 c118
        have a119 : sP σ111 m 28 = some (ad 28) := hR.P (k := 28) (by decide)
        refine ⟨ad 28, a119, ?_⟩
        refine ⟨hR.K (k := 28) (by decide), ?_⟩
        refine ⟨hR.N (k := 28) (by decide) h.1, ?_⟩
        have h := h.2
        intro x120 e121
        rw [hR.2.2 28 (by decide)] at e121
        have h := h x120 e121
        refine ⟨fun c122 => ?_, fun c122 => ?_⟩
        · have h := h.1 c122
          exact hQ _ _ h hR F
        · have h := h.2 c122
          refine x_X12_replySync hR h (fun σ124 X125 h hR F126 => ?_)
          have F := F.trans F126
          exact hQ _ _ h hR F
def bx_X12_replicaGets_93 (Qx : Xc → Prop) (p1 : Int32) (X : Xc) : Prop := (vp_in (3 : Int32) 640 ∧ (∀ x2 : Int32, x2 = X.2 15 (3 : Int32).toNatClampNeg → (vp_in (4 : Int32) 640 ∧ (∀ x5 : Int32, x5 = X.2 15 (4 : Int32).toNatClampNeg → (wx_X12_joins p1 x2 x5 X (fun (X9 : Xc) => Qx X9))))))
set_option maxHeartbeats 4000000 in
set_option maxRecDepth 100000 in
theorem xb_X12_replicaGets_93 {m : Nat} {ad : Nat → Nat} {σ0 : Sto} {Q : Sto → Prop} {Qx : Xc → Prop} (hQ : ∀ (σ' : Sto) (X' : Xc), Qx X' → RefC m ad σ' X' → Fi m ad σ0 σ' → Q σ')  (p1 : Int32) (σ : Sto) (X : Xc) (hR : RefC m ad σ X) (F : Fi m ad σ0 σ) (h : bx_X12_replicaGets_93  Qx p1 X) : b_X12_replicaGets_93 m  Q p1 σ := by
  unfold bx_X12_replicaGets_93 at h
  unfold b_X12_replicaGets_93
  refine ⟨hR.1.1, ?_⟩
  have a1 : sP σ m 15 = some (ad 15) := hR.P (k := 15) (by decide)
  refine ⟨ad 15, a1, ?_⟩
  refine ⟨hR.K (k := 15) (by decide), ?_⟩
  refine ⟨hR.N (k := 15) (by decide) h.1, ?_⟩
  have h := h.2
  intro x2 e3
  rw [hR.2.2 15 (by decide)] at e3
  have h := h x2 e3
  have a4 : sP σ m 15 = some (ad 15) := hR.P (k := 15) (by decide)
  refine ⟨hR.N (k := 15) (by decide) h.1, ?_⟩
  have h := h.2
  intro x5 e6
  rw [hR.2.2 15 (by decide)] at e6
  have h := h x5 e6
  refine x_X12_joins hR h (fun σ8 X9 h hR F10 => ?_)
  have F := F.trans F10
  exact hQ _ _ h hR F
def bx_X12_replicaGets_81 (Qx : Xc → Prop) (p1 : Int32) (p2 : Int32) (p3 : Int32) (X : Xc) : Prop := ((p2 = (8 : Int32) → bx_X12_replicaGets_93  Qx p1 X) ∧ (¬ p2 = (8 : Int32) → ((¬ p2 = (12 : Int32) → ((¬ p2 = (9 : Int32) → ((¬ p2 = (10 : Int32) → ((p3 = 0 → Qx X) ∧ (¬ p3 = 0 → (wx_X12_getsInView p1 p2 X (fun (X8 : Xc) => Qx X8))))) ∧ (p2 = (10 : Int32) → (wx_X12_getsStart p1 p3 X (fun (X12 : Xc) => Qx X12))))) ∧ (p2 = (9 : Int32) → (wx_X12_getsTurned p1 X (fun (X16 : Xc) => Qx X16))))) ∧ (p2 = (12 : Int32) → bx_X12_replicaGets_93  Qx p1 X))))
set_option maxHeartbeats 4000000 in
set_option maxRecDepth 100000 in
theorem xb_X12_replicaGets_81 {m : Nat} {ad : Nat → Nat} {σ0 : Sto} {Q : Sto → Prop} {Qx : Xc → Prop} (hQ : ∀ (σ' : Sto) (X' : Xc), Qx X' → RefC m ad σ' X' → Fi m ad σ0 σ' → Q σ')  (p1 : Int32) (p2 : Int32) (p3 : Int32) (σ : Sto) (X : Xc) (hR : RefC m ad σ X) (F : Fi m ad σ0 σ) (h : bx_X12_replicaGets_81  Qx p1 p2 p3 X) : b_X12_replicaGets_81 m  Q p1 p2 p3 σ := by
  unfold bx_X12_replicaGets_81 at h
  unfold b_X12_replicaGets_81
  refine ⟨fun c1 => ?_, fun c1 => ?_⟩
  · have h := h.1 c1
    exact xb_X12_replicaGets_93 hQ  p1 _ _ hR F h
  · have h := h.2 c1
    refine ⟨fun c2 => ?_, fun c2 => ?_⟩
    · have h := h.1 c2
      refine ⟨fun c3 => ?_, fun c3 => ?_⟩
      · have h := h.1 c3
        refine ⟨fun c4 => ?_, fun c4 => ?_⟩
        · have h := h.1 c4
          refine ⟨fun c5 => ?_, fun c5 => ?_⟩
          · have h := h.1 c5
            exact hQ _ _ h hR F
          · have h := h.2 c5
            refine ⟨hR.1.1, ?_⟩
            refine x_X12_getsInView hR h (fun σ7 X8 h hR F9 => ?_)
            have F := F.trans F9
            exact hQ _ _ h hR F
        · have h := h.2 c4
          refine ⟨hR.1.1, ?_⟩
          refine x_X12_getsStart hR h (fun σ11 X12 h hR F13 => ?_)
          have F := F.trans F13
          exact hQ _ _ h hR F
      · have h := h.2 c3
        refine ⟨hR.1.1, ?_⟩
        refine x_X12_getsTurned hR h (fun σ15 X16 h hR F17 => ?_)
        have F := F.trans F17
        exact hQ _ _ h hR F
    · have h := h.2 c2
      exact xb_X12_replicaGets_93 hQ  p1 _ _ hR F h
def bx_X12_replicaGets_52 (Qx : Xc → Prop) (p1 : Int32) (p2 : Int32) (s0 : Int32) (X : Xc) : Prop := ((s0 = 0 → bx_X12_replicaGets_81  Qx p1 p2 s0 X) ∧ (¬ s0 = 0 → (vp_in (1 : Int32) 640 ∧ (∀ x3 : Int32, x3 = X.2 15 (1 : Int32).toNatClampNeg → (wx_X12_leader p1 X (fun (x5 : Int32) (X7 : Xc) => ((¬ x3 = x5 → bx_X12_replicaGets_81  Qx p1 p2 s0 X7) ∧ (x3 = x5 → (∀ x11 : Int32, x11 = X7.1 4 → (vp_in p1 7 ∧ bx_X12_replicaGets_81  Qx p1 p2 s0 (xA X7 57 p1.toNatClampNeg x11)))))))))))
set_option maxHeartbeats 4000000 in
set_option maxRecDepth 100000 in
theorem xb_X12_replicaGets_52 {m : Nat} {ad : Nat → Nat} {σ0 : Sto} {Q : Sto → Prop} {Qx : Xc → Prop} (hQ : ∀ (σ' : Sto) (X' : Xc), Qx X' → RefC m ad σ' X' → Fi m ad σ0 σ' → Q σ')  (p1 : Int32) (p2 : Int32) (s0 : Int32) (σ : Sto) (X : Xc) (hR : RefC m ad σ X) (F : Fi m ad σ0 σ) (h : bx_X12_replicaGets_52  Qx p1 p2 s0 X) : b_X12_replicaGets_52 m  Q p1 p2 s0 σ := by
  unfold bx_X12_replicaGets_52 at h
  unfold b_X12_replicaGets_52
  refine ⟨fun c1 => ?_, fun c1 => ?_⟩
  · have h := h.1 c1
    exact xb_X12_replicaGets_81 hQ  p1 p2 s0 _ _ hR F h
  · have h := h.2 c1
    refine ⟨hR.1.1, ?_⟩
    have a2 : sP σ m 15 = some (ad 15) := hR.P (k := 15) (by decide)
    refine ⟨ad 15, a2, ?_⟩
    refine ⟨hR.K (k := 15) (by decide), ?_⟩
    refine ⟨hR.N (k := 15) (by decide) h.1, ?_⟩
    have h := h.2
    intro x3 e4
    rw [hR.2.2 15 (by decide)] at e4
    have h := h x3 e4
    refine x_X12_leader hR h (fun x5 σ6 X7 h hR F8 => ?_)
    have F := F.trans F8
    refine ⟨fun c9 => ?_, fun c9 => ?_⟩
    · have h := h.1 c9
      exact xb_X12_replicaGets_81 hQ  p1 p2 s0 _ _ hR F h
    · have h := h.2 c9
      refine ⟨hR.1.1, ?_⟩
      have a10 : sP σ6 m 57 = some (ad 57) := hR.P (k := 57) (by decide)
      intro x11 e12
      rw [hR.2.1 4] at e12
      have h := h x11 e12
      refine ⟨ad 57, a10, ?_⟩
      refine ⟨hR.K (k := 57) (by decide), ?_⟩
      refine ⟨hR.N (k := 57) (by decide) h.1, ?_⟩
      have h := h.2
      have F := F.A (k := 57) (i := p1.toNatClampNeg) (v := x11) (by decide)
      have hR := hR.A (k := 57) (i := p1.toNatClampNeg) (v := x11) (by decide)
      exact xb_X12_replicaGets_81 hQ  p1 p2 s0 _ _ hR F h
def bx_X12_replicaGets_51 (Qx : Xc → Prop) (p1 : Int32) (p2 : Int32) (X : Xc) : Prop := bx_X12_replicaGets_52  Qx p1 p2 (0 : Int32) X
set_option maxHeartbeats 4000000 in
set_option maxRecDepth 100000 in
theorem xb_X12_replicaGets_51 {m : Nat} {ad : Nat → Nat} {σ0 : Sto} {Q : Sto → Prop} {Qx : Xc → Prop} (hQ : ∀ (σ' : Sto) (X' : Xc), Qx X' → RefC m ad σ' X' → Fi m ad σ0 σ' → Q σ')  (p1 : Int32) (p2 : Int32) (σ : Sto) (X : Xc) (hR : RefC m ad σ X) (F : Fi m ad σ0 σ) (h : bx_X12_replicaGets_51  Qx p1 p2 X) : b_X12_replicaGets_51 m  Q p1 p2 σ := by
  unfold bx_X12_replicaGets_51 at h
  unfold b_X12_replicaGets_51
  exact xb_X12_replicaGets_52 hQ  p1 p2 (0 : Int32) _ _ hR F h
def wx_X12_replicaGets (p1 : Int32) (X : Xc) (Qx : Xc → Prop) : Prop := (vp_in (0 : Int32) 640 ∧ (∀ x2 : Int32, x2 = X.2 15 (0 : Int32).toNatClampNeg → ((¬ x2 = 0 → (vp_in (3 : Int32) 640 ∧ (∀ x6 : Int32, x6 = X.2 15 (3 : Int32).toNatClampNeg → (vp_in p1 7 ∧ (∀ x9 : Int32, x9 = X.2 21 p1.toNatClampNeg → ((¬ x6 = x9 → bx_X12_replicaGets_51  Qx p1 x2 X) ∧ (x6 = x9 → (vp_in (4 : Int32) 640 ∧ (∀ x13 : Int32, x13 = X.2 15 (4 : Int32).toNatClampNeg → (vp_in p1 7 ∧ (∀ x16 : Int32, x16 = X.2 22 p1.toNatClampNeg → ((¬ x13 = x16 → bx_X12_replicaGets_51  Qx p1 x2 X) ∧ (x13 = x16 → bx_X12_replicaGets_52  Qx p1 x2 (1 : Int32) X))))))))))))) ∧ (x2 = 0 → (wx_X12_getsStamped p1 X (fun (X21 : Xc) => Qx X21))))))
set_option maxHeartbeats 4000000 in
set_option maxRecDepth 100000 in
theorem x_X12_replicaGets {m : Nat} {ad : Nat → Nat} {p1 : Int32} {σ : Sto} {X : Xc} {Q : Sto → Prop} {Qx : Xc → Prop} (hR : RefC m ad σ X) (h : wx_X12_replicaGets p1 X Qx) (hQ : ∀ (σ' : Sto) (X' : Xc), Qx X' → RefC m ad σ' X' → Fi m ad σ σ' → Q σ') : wp_X12_replicaGets m p1 σ Q := by
  have F : Fi m ad σ σ := Fi.rf
  unfold wx_X12_replicaGets at h
  unfold wp_X12_replicaGets
  refine ⟨hR.1.1, ?_⟩
  have a1 : sP σ m 15 = some (ad 15) := hR.P (k := 15) (by decide)
  refine ⟨ad 15, a1, ?_⟩
  refine ⟨hR.K (k := 15) (by decide), ?_⟩
  refine ⟨hR.N (k := 15) (by decide) h.1, ?_⟩
  have h := h.2
  intro x2 e3
  rw [hR.2.2 15 (by decide)] at e3
  have h := h x2 e3
  refine ⟨fun c4 => ?_, fun c4 => ?_⟩
  · have h := h.1 c4
    have a5 : sP σ m 15 = some (ad 15) := hR.P (k := 15) (by decide)
    refine ⟨hR.N (k := 15) (by decide) h.1, ?_⟩
    have h := h.2
    intro x6 e7
    rw [hR.2.2 15 (by decide)] at e7
    have h := h x6 e7
    have a8 : sP σ m 21 = some (ad 21) := hR.P (k := 21) (by decide)
    refine ⟨ad 21, a8, ?_⟩
    refine ⟨hR.K (k := 21) (by decide), ?_⟩
    refine ⟨hR.N (k := 21) (by decide) h.1, ?_⟩
    have h := h.2
    intro x9 e10
    rw [hR.2.2 21 (by decide)] at e10
    have h := h x9 e10
    refine ⟨fun c11 => ?_, fun c11 => ?_⟩
    · have h := h.1 c11
      exact xb_X12_replicaGets_51 hQ  p1 x2 _ _ hR F h
    · have h := h.2 c11
      have a12 : sP σ m 15 = some (ad 15) := hR.P (k := 15) (by decide)
      refine ⟨hR.N (k := 15) (by decide) h.1, ?_⟩
      have h := h.2
      intro x13 e14
      rw [hR.2.2 15 (by decide)] at e14
      have h := h x13 e14
      have a15 : sP σ m 22 = some (ad 22) := hR.P (k := 22) (by decide)
      refine ⟨ad 22, a15, ?_⟩
      refine ⟨hR.K (k := 22) (by decide), ?_⟩
      refine ⟨hR.N (k := 22) (by decide) h.1, ?_⟩
      have h := h.2
      intro x16 e17
      rw [hR.2.2 22 (by decide)] at e17
      have h := h x16 e17
      refine ⟨fun c18 => ?_, fun c18 => ?_⟩
      · have h := h.1 c18
        exact xb_X12_replicaGets_51 hQ  p1 x2 _ _ hR F h
      · have h := h.2 c18
        exact xb_X12_replicaGets_52 hQ  p1 x2 (1 : Int32) _ _ hR F h
  · have h := h.2 c4
    refine x_X12_getsStamped hR h (fun σ20 X21 h hR F22 => ?_)
    have F := F.trans F22
    exact hQ _ _ h hR F
def fx_X12_hand_8 (Qx : Xc → Prop) (Lx8 : Int32 × Int32 → Xc → Prop) (t : Int32 × Int32) (X : Xc) : Prop := (vp_in t.1 200 ∧ (∀ x2 : Int32, x2 = X.2 11 t.1.toNatClampNeg → ((x2 ≤ t.2 → (vp_in (2 : Int32) 640 ∧ (∀ x6 : Int32, x6 = X.2 15 (2 : Int32).toNatClampNeg → ((x6 < (16 : Int32) → (vp_in (2 : Int32) 640 ∧ (∀ x11 : Int32, x11 = X.2 15 (2 : Int32).toNatClampNeg → (vp_in x11 7 ∧ (∀ x13 : Int32, x13 = X.2 20 x11.toNatClampNeg → ((x13 = 0 → (vp_in (2 : Int32) 640 ∧ (∀ x17 : Int32, x17 = X.2 15 (2 : Int32).toNatClampNeg → (wx_X12_replicaGets x17 X (fun (X21 : Xc) => Qx X21))))) ∧ (¬ x13 = 0 → (∀ x23 : Int32, x23 = X.1 8 → (∀ x25 : Int32, x25 = x23 + (1 : Int32) → Qx (xS X 8 x25)))))))))) ∧ (¬ x6 < (16 : Int32) → (vp_in (2 : Int32) 640 ∧ (∀ x28 : Int32, x28 = X.2 15 (2 : Int32).toNatClampNeg → (wx_X12_clientGets (x28 - (16 : Int32)) X (fun (X32 : Xc) => Qx X32))))))))) ∧ (¬ x2 ≤ t.2 → (∀ x36 : Int32, x36 = ((640 : Int32) * t.1) + t.2 → (vp_in x36 128000 ∧ (∀ x38 : Int32, x38 = X.2 10 x36.toNatClampNeg → (vp_in t.2 640 ∧ (∀ x40 : Int32, x40 = t.2 + (1 : Int32) → Lx8 (t.1, x40) (xA X 15 t.2.toNatClampNeg x38))))))))))
set_option maxHeartbeats 4000000 in
set_option maxRecDepth 100000 in
theorem xf_X12_hand_8 {m : Nat} {ad : Nat → Nat} {σ0 : Sto} {Q : Sto → Prop} {Qx : Xc → Prop} {Lx8 : Int32 × Int32 → Xc → Prop} {L8 : Int32 × Int32 → Sto → Prop} (hQ : ∀ (σ' : Sto) (X' : Xc), Qx X' → RefC m ad σ' X' → Fi m ad σ0 σ' → Q σ') (hL8 : ∀ (t : Int32 × Int32) (σ : Sto) (X : Xc), Lx8 t X → RefC m ad σ X → Fi m ad σ0 σ → L8 t σ) : ∀ (t : Int32 × Int32) (σ : Sto) (X : Xc), RefC m ad σ X → Fi m ad σ0 σ → fx_X12_hand_8  Qx Lx8 t X → f_X12_hand_8 m  Q L8 t σ := by
  intro t σ X hR F h
  unfold fx_X12_hand_8 at h
  unfold f_X12_hand_8
  refine ⟨hR.1.1, ?_⟩
  have a1 : sP σ m 11 = some (ad 11) := hR.P (k := 11) (by decide)
  refine ⟨ad 11, a1, ?_⟩
  refine ⟨hR.K (k := 11) (by decide), ?_⟩
  refine ⟨hR.N (k := 11) (by decide) h.1, ?_⟩
  have h := h.2
  intro x2 e3
  rw [hR.2.2 11 (by decide)] at e3
  have h := h x2 e3
  refine ⟨fun c4 => ?_, fun c4 => ?_⟩
  · have h := h.1 c4
    have a5 : sP σ m 15 = some (ad 15) := hR.P (k := 15) (by decide)
    refine ⟨ad 15, a5, ?_⟩
    refine ⟨hR.K (k := 15) (by decide), ?_⟩
    refine ⟨hR.N (k := 15) (by decide) h.1, ?_⟩
    have h := h.2
    intro x6 e7
    rw [hR.2.2 15 (by decide)] at e7
    have h := h x6 e7
    refine ⟨fun c8 => ?_, fun c8 => ?_⟩
    · have h := h.1 c8
      have a9 : sP σ m 20 = some (ad 20) := hR.P (k := 20) (by decide)
      have a10 : sP σ m 15 = some (ad 15) := hR.P (k := 15) (by decide)
      refine ⟨hR.N (k := 15) (by decide) h.1, ?_⟩
      have h := h.2
      intro x11 e12
      rw [hR.2.2 15 (by decide)] at e12
      have h := h x11 e12
      refine ⟨ad 20, a9, ?_⟩
      refine ⟨hR.K (k := 20) (by decide), ?_⟩
      refine ⟨hR.N (k := 20) (by decide) h.1, ?_⟩
      have h := h.2
      intro x13 e14
      rw [hR.2.2 20 (by decide)] at e14
      have h := h x13 e14
      refine ⟨fun c15 => ?_, fun c15 => ?_⟩
      · have h := h.1 c15
        have a16 : sP σ m 15 = some (ad 15) := hR.P (k := 15) (by decide)
        refine ⟨hR.N (k := 15) (by decide) h.1, ?_⟩
        have h := h.2
        intro x17 e18
        rw [hR.2.2 15 (by decide)] at e18
        have h := h x17 e18
        refine x_X12_replicaGets hR h (fun σ20 X21 h hR F22 => ?_)
        have F := F.trans F22
        exact hQ _ _ h hR F
      · have h := h.2 c15
        intro x23 e24
        rw [hR.2.1 8] at e24
        have h := h x23 e24
        intro x25 e26
        have h := h x25 e26
        have F := F.S (k := 8) (v := x25)
        have hR := hR.S (k := 8) (v := x25)
        exact hQ _ _ h hR F
    · have h := h.2 c8
      have a27 : sP σ m 15 = some (ad 15) := hR.P (k := 15) (by decide)
      refine ⟨hR.N (k := 15) (by decide) h.1, ?_⟩
      have h := h.2
      intro x28 e29
      rw [hR.2.2 15 (by decide)] at e29
      have h := h x28 e29
      refine x_X12_clientGets hR h (fun σ31 X32 h hR F33 => ?_)
      have F := F.trans F33
      exact hQ _ _ h hR F
  · have h := h.2 c4
    have a34 : sP σ m 15 = some (ad 15) := hR.P (k := 15) (by decide)
    have a35 : sP σ m 10 = some (ad 10) := hR.P (k := 10) (by decide)
    intro x36 e37
    have h := h x36 e37
    refine ⟨ad 10, a35, ?_⟩
    refine ⟨hR.K (k := 10) (by decide), ?_⟩
    refine ⟨hR.N (k := 10) (by decide) h.1, ?_⟩
    have h := h.2
    intro x38 e39
    rw [hR.2.2 10 (by decide)] at e39
    have h := h x38 e39
    refine ⟨ad 15, a34, ?_⟩
    refine ⟨hR.K (k := 15) (by decide), ?_⟩
    refine ⟨hR.N (k := 15) (by decide) h.1, ?_⟩
    have h := h.2
    have F := F.A (k := 15) (i := t.2.toNatClampNeg) (v := x38) (by decide)
    have hR := hR.A (k := 15) (i := t.2.toNatClampNeg) (v := x38) (by decide)
    intro x40 e41
    have h := h x40 e41
    exact hL8 _ _ _ h hR F
def wx_X12_hand (p1 : Int32) (X : Xc) (Qx : Xc → Prop) : Prop := (wx_X12_remove p1 X (fun (x1 : Int32) (X3 : Xc) => LFx (fx_X12_hand_8  Qx) (x1, (0 : Int32)) X3))
set_option maxHeartbeats 4000000 in
set_option maxRecDepth 100000 in
theorem x_X12_hand {m : Nat} {ad : Nat → Nat} {p1 : Int32} {σ : Sto} {X : Xc} {Q : Sto → Prop} {Qx : Xc → Prop} (hR : RefC m ad σ X) (h : wx_X12_hand p1 X Qx) (hQ : ∀ (σ' : Sto) (X' : Xc), Qx X' → RefC m ad σ' X' → Fi m ad σ σ' → Q σ') : wp_X12_hand m p1 σ Q := by
  have F : Fi m ad σ σ := Fi.rf
  unfold wx_X12_hand at h
  unfold wp_X12_hand
  refine ⟨hR.1.1, ?_⟩
  refine x_X12_remove hR h (fun x1 σ2 X3 h hR F4 => ?_)
  have F := F.trans F4
  exact lfx h hR F (fun Lx L hL t σ X hR F h => xf_X12_hand_8 hQ  hL t σ X hR F h)
def fx_X12_find_2 (Qx : Int32 → Xc → Prop) (Lx2 : Int32 × Int32 → Xc → Prop) (t : Int32 × Int32) (X : Xc) : Prop := (∀ x1 : Int32, x1 = X.1 6 → ((x1 ≤ t.2 → Qx (-1 : Int32) X) ∧ (¬ x1 ≤ t.2 → (vp_in t.2 200 ∧ (∀ x6 : Int32, x6 = X.2 5 t.2.toNatClampNeg → (vp_in x6 200 ∧ (∀ x8 : Int32, x8 = X.2 12 x6.toNatClampNeg → ((¬ x8 = t.1 → (∀ x11 : Int32, x11 = t.2 + (1 : Int32) → Lx2 (t.1, x11) X)) ∧ (x8 = t.1 → Qx t.2 X)))))))))
set_option maxHeartbeats 4000000 in
set_option maxRecDepth 100000 in
theorem xf_X12_find_2 {m : Nat} {ad : Nat → Nat} {σ0 : Sto} {Q : Int32 → Sto → Prop} {Qx : Int32 → Xc → Prop} {Lx2 : Int32 × Int32 → Xc → Prop} {L2 : Int32 × Int32 → Sto → Prop} (hQ : ∀ (r : Int32) (σ' : Sto) (X' : Xc), Qx r X' → RefC m ad σ' X' → Fi m ad σ0 σ' → Q r σ') (hL2 : ∀ (t : Int32 × Int32) (σ : Sto) (X : Xc), Lx2 t X → RefC m ad σ X → Fi m ad σ0 σ → L2 t σ) : ∀ (t : Int32 × Int32) (σ : Sto) (X : Xc), RefC m ad σ X → Fi m ad σ0 σ → fx_X12_find_2  Qx Lx2 t X → f_X12_find_2 m  Q L2 t σ := by
  intro t σ X hR F h
  unfold fx_X12_find_2 at h
  unfold f_X12_find_2
  refine ⟨hR.1.1, ?_⟩
  intro x1 e2
  rw [hR.2.1 6] at e2
  have h := h x1 e2
  refine ⟨fun c3 => ?_, fun c3 => ?_⟩
  · have h := h.1 c3
    exact hQ _ _ _ h hR F
  · have h := h.2 c3
    have a4 : sP σ m 12 = some (ad 12) := hR.P (k := 12) (by decide)
    have a5 : sP σ m 5 = some (ad 5) := hR.P (k := 5) (by decide)
    refine ⟨ad 5, a5, ?_⟩
    refine ⟨hR.K (k := 5) (by decide), ?_⟩
    refine ⟨hR.N (k := 5) (by decide) h.1, ?_⟩
    have h := h.2
    intro x6 e7
    rw [hR.2.2 5 (by decide)] at e7
    have h := h x6 e7
    refine ⟨ad 12, a4, ?_⟩
    refine ⟨hR.K (k := 12) (by decide), ?_⟩
    refine ⟨hR.N (k := 12) (by decide) h.1, ?_⟩
    have h := h.2
    intro x8 e9
    rw [hR.2.2 12 (by decide)] at e9
    have h := h x8 e9
    refine ⟨fun c10 => ?_, fun c10 => ?_⟩
    · have h := h.1 c10
      intro x11 e12
      have h := h x11 e12
      exact hL2 _ _ _ h hR F
    · have h := h.2 c10
      exact hQ _ _ _ h hR F
def wx_X12_find (p1 : Int32) (X : Xc) (Qx : Int32 → Xc → Prop) : Prop := LFx (fx_X12_find_2  Qx) (p1, (0 : Int32)) X
set_option maxHeartbeats 4000000 in
set_option maxRecDepth 100000 in
theorem x_X12_find {m : Nat} {ad : Nat → Nat} {p1 : Int32} {σ : Sto} {X : Xc} {Q : Int32 → Sto → Prop} {Qx : Int32 → Xc → Prop} (hR : RefC m ad σ X) (h : wx_X12_find p1 X Qx) (hQ : ∀ (r : Int32) (σ' : Sto) (X' : Xc), Qx r X' → RefC m ad σ' X' → Fi m ad σ σ' → Q r σ') : wp_X12_find m p1 σ Q := by
  have F : Fi m ad σ σ := Fi.rf
  unfold wx_X12_find at h
  unfold wp_X12_find
  exact lfx h hR F (fun Lx L hL t σ X hR F h => xf_X12_find_2 hQ  hL t σ X hR F h)
def fx_X12_stamp_30 (Qx : Xc → Prop) (Lx30 : Int32 × Int32 → Xc → Prop) (t : Int32 × Int32) (X : Xc) : Prop := (∀ x1 : Int32, x1 = X.1 1 → ((x1 ≤ t.2 → Qx X) ∧ (¬ x1 ≤ t.2 → (wx_X12_begin (0 : Int32) (255 : Int32) t.2 X (fun (X6 : Xc) => (∀ x8 : Int32, x8 = X6.1 17 → (wx_X12_add x8 X6 (fun (X12 : Xc) => (∀ x14 : Int32, x14 = X12.1 18 → (wx_X12_add x14 X12 (fun (X18 : Xc) => (wx_X12_add t.1 X18 (fun (X22 : Xc) => (vp_in t.1 4 ∧ (∀ x25 : Int32, x25 = X22.2 65 t.1.toNatClampNeg → (wx_X12_add x25 X22 (fun (X29 : Xc) => (vp_in t.1 4 ∧ (∀ x32 : Int32, x32 = X29.2 67 t.1.toNatClampNeg → (wx_X12_add x32 X29 (fun (X36 : Xc) => (vp_in t.1 4 ∧ (∀ x39 : Int32, x39 = X36.2 68 t.1.toNatClampNeg → (wx_X12_add x39 X36 (fun (X43 : Xc) => (vp_in t.1 4 ∧ (∀ x46 : Int32, x46 = X43.2 69 t.1.toNatClampNeg → (wx_X12_add x46 X43 (fun (X50 : Xc) => (wx_X12_post  X50 (fun (X54 : Xc) => (∀ x56 : Int32, x56 = t.2 + (1 : Int32) → Lx30 (t.1, x56) X54))))))))))))))))))))))))))))))))
set_option maxHeartbeats 4000000 in
set_option maxRecDepth 100000 in
theorem xf_X12_stamp_30 {m : Nat} {ad : Nat → Nat} {σ0 : Sto} {Q : Sto → Prop} {Qx : Xc → Prop} {Lx30 : Int32 × Int32 → Xc → Prop} {L30 : Int32 × Int32 → Sto → Prop} (hQ : ∀ (σ' : Sto) (X' : Xc), Qx X' → RefC m ad σ' X' → Fi m ad σ0 σ' → Q σ') (hL30 : ∀ (t : Int32 × Int32) (σ : Sto) (X : Xc), Lx30 t X → RefC m ad σ X → Fi m ad σ0 σ → L30 t σ) : ∀ (t : Int32 × Int32) (σ : Sto) (X : Xc), RefC m ad σ X → Fi m ad σ0 σ → fx_X12_stamp_30  Qx Lx30 t X → f_X12_stamp_30 m  Q L30 t σ := by
  intro t σ X hR F h
  unfold fx_X12_stamp_30 at h
  unfold f_X12_stamp_30
  refine ⟨hR.1.1, ?_⟩
  intro x1 e2
  rw [hR.2.1 1] at e2
  have h := h x1 e2
  refine ⟨fun c3 => ?_, fun c3 => ?_⟩
  · have h := h.1 c3
    exact hQ _ _ h hR F
  · have h := h.2 c3
    refine x_X12_begin hR h (fun σ5 X6 h hR F7 => ?_)
    have F := F.trans F7
    refine ⟨hR.1.1, ?_⟩
    intro x8 e9
    rw [hR.2.1 17] at e9
    have h := h x8 e9
    refine x_X12_add hR h (fun σ11 X12 h hR F13 => ?_)
    have F := F.trans F13
    refine ⟨hR.1.1, ?_⟩
    intro x14 e15
    rw [hR.2.1 18] at e15
    have h := h x14 e15
    refine x_X12_add hR h (fun σ17 X18 h hR F19 => ?_)
    have F := F.trans F19
    refine ⟨hR.1.1, ?_⟩
    refine x_X12_add hR h (fun σ21 X22 h hR F23 => ?_)
    have F := F.trans F23
    refine ⟨hR.1.1, ?_⟩
    have a24 : sP σ21 m 65 = some (ad 65) := hR.P (k := 65) (by decide)
    refine ⟨ad 65, a24, ?_⟩
    refine ⟨hR.K (k := 65) (by decide), ?_⟩
    refine ⟨hR.N (k := 65) (by decide) h.1, ?_⟩
    have h := h.2
    intro x25 e26
    rw [hR.2.2 65 (by decide)] at e26
    have h := h x25 e26
    refine x_X12_add hR h (fun σ28 X29 h hR F30 => ?_)
    have F := F.trans F30
    refine ⟨hR.1.1, ?_⟩
    have a31 : sP σ28 m 67 = some (ad 67) := hR.P (k := 67) (by decide)
    refine ⟨ad 67, a31, ?_⟩
    refine ⟨hR.K (k := 67) (by decide), ?_⟩
    refine ⟨hR.N (k := 67) (by decide) h.1, ?_⟩
    have h := h.2
    intro x32 e33
    rw [hR.2.2 67 (by decide)] at e33
    have h := h x32 e33
    refine x_X12_add hR h (fun σ35 X36 h hR F37 => ?_)
    have F := F.trans F37
    refine ⟨hR.1.1, ?_⟩
    have a38 : sP σ35 m 68 = some (ad 68) := hR.P (k := 68) (by decide)
    refine ⟨ad 68, a38, ?_⟩
    refine ⟨hR.K (k := 68) (by decide), ?_⟩
    refine ⟨hR.N (k := 68) (by decide) h.1, ?_⟩
    have h := h.2
    intro x39 e40
    rw [hR.2.2 68 (by decide)] at e40
    have h := h x39 e40
    refine x_X12_add hR h (fun σ42 X43 h hR F44 => ?_)
    have F := F.trans F44
    refine ⟨hR.1.1, ?_⟩
    have a45 : sP σ42 m 69 = some (ad 69) := hR.P (k := 69) (by decide)
    refine ⟨ad 69, a45, ?_⟩
    refine ⟨hR.K (k := 69) (by decide), ?_⟩
    refine ⟨hR.N (k := 69) (by decide) h.1, ?_⟩
    have h := h.2
    intro x46 e47
    rw [hR.2.2 69 (by decide)] at e47
    have h := h x46 e47
    refine x_X12_add hR h (fun σ49 X50 h hR F51 => ?_)
    have F := F.trans F51
    refine ⟨hR.1.1, ?_⟩
    refine x_X12_post hR h (fun σ53 X54 h hR F55 => ?_)
    have F := F.trans F55
    intro x56 e57
    have h := h x56 e57
    exact hL30 _ _ _ h hR F
def wx_X12_stamp (p1 : Int32) (X : Xc) (Qx : Xc → Prop) : Prop := (∀ x2 : Int32, x2 = X.1 4 → (vp_in p1 4 ∧ (∀ x4 : Int32, x4 = (xA X 70 p1.toNatClampNeg x2).1 16 → ((¬ x4 = 0 → (∀ x7 : Int32, x7 = (xA X 70 p1.toNatClampNeg x2).1 18 → (∀ x9 : Int32, x9 = x7 + (1 : Int32) → LFx (fx_X12_stamp_30  Qx) (p1, (0 : Int32)) (xS (xA X 70 p1.toNatClampNeg x2) 18 x9)))) ∧ (x4 = 0 → Qx (xA X 70 p1.toNatClampNeg x2))))))
set_option maxHeartbeats 4000000 in
set_option maxRecDepth 100000 in
theorem x_X12_stamp {m : Nat} {ad : Nat → Nat} {p1 : Int32} {σ : Sto} {X : Xc} {Q : Sto → Prop} {Qx : Xc → Prop} (hR : RefC m ad σ X) (h : wx_X12_stamp p1 X Qx) (hQ : ∀ (σ' : Sto) (X' : Xc), Qx X' → RefC m ad σ' X' → Fi m ad σ σ' → Q σ') : wp_X12_stamp m p1 σ Q := by
  have F : Fi m ad σ σ := Fi.rf
  unfold wx_X12_stamp at h
  unfold wp_X12_stamp
  refine ⟨hR.1.1, ?_⟩
  have a1 : sP σ m 70 = some (ad 70) := hR.P (k := 70) (by decide)
  intro x2 e3
  rw [hR.2.1 4] at e3
  have h := h x2 e3
  refine ⟨ad 70, a1, ?_⟩
  refine ⟨hR.K (k := 70) (by decide), ?_⟩
  refine ⟨hR.N (k := 70) (by decide) h.1, ?_⟩
  have h := h.2
  have F := F.A (k := 70) (i := p1.toNatClampNeg) (v := x2) (by decide)
  have hR := hR.A (k := 70) (i := p1.toNatClampNeg) (v := x2) (by decide)
  intro x4 e5
  rw [hR.2.1 16] at e5
  have h := h x4 e5
  refine ⟨fun c6 => ?_, fun c6 => ?_⟩
  · have h := h.1 c6
    intro x7 e8
    rw [hR.2.1 18] at e8
    have h := h x7 e8
    intro x9 e10
    have h := h x9 e10
    have F := F.S (k := 18) (v := x9)
    have hR := hR.S (k := 18) (v := x9)
    exact lfx h hR F (fun Lx L hL t σ X hR F h => xf_X12_stamp_30 hQ  hL t σ X hR F h)
  · have h := h.2 c6
    exact hQ _ _ h hR F
def wx_X12_establish  (X : Xc) (Qx : Int32 → Xc → Prop) : Prop := (∀ x1 : Int32, x1 = (xS X 16 (1 : Int32)).1 17 → (∀ x3 : Int32, x3 = x1 + (1 : Int32) → (∀ x5 : Int32, x5 = (xS (xS (xS X 16 (1 : Int32)) 17 x3) 18 (0 : Int32)).1 17 → Qx x5 (xS (xS (xS X 16 (1 : Int32)) 17 x3) 18 (0 : Int32)))))
set_option maxHeartbeats 4000000 in
set_option maxRecDepth 100000 in
theorem x_X12_establish {m : Nat} {ad : Nat → Nat} {σ : Sto} {X : Xc} {Q : Int32 → Sto → Prop} {Qx : Int32 → Xc → Prop} (hR : RefC m ad σ X) (h : wx_X12_establish  X Qx) (hQ : ∀ (r : Int32) (σ' : Sto) (X' : Xc), Qx r X' → RefC m ad σ' X' → Fi m ad σ σ' → Q r σ') : wp_X12_establish m  σ Q := by
  have F : Fi m ad σ σ := Fi.rf
  unfold wx_X12_establish at h
  unfold wp_X12_establish
  refine ⟨hR.1.1, ?_⟩
  have F := F.S (k := 16) (v := (1 : Int32))
  have hR := hR.S (k := 16) (v := (1 : Int32))
  intro x1 e2
  rw [hR.2.1 17] at e2
  have h := h x1 e2
  intro x3 e4
  have h := h x3 e4
  have F := F.S (k := 17) (v := x3)
  have hR := hR.S (k := 17) (v := x3)
  have F := F.S (k := 18) (v := (0 : Int32))
  have hR := hR.S (k := 18) (v := (0 : Int32))
  intro x5 e6
  rw [hR.2.1 17] at e6
  have h := h x5 e6
  exact hQ _ _ _ h hR F
def wx_X12_asks (p1 : Int32) (X : Xc) (Qx : Xc → Prop) : Prop := (vp_in p1 7 ∧ (∀ x2 : Int32, x2 = X.2 23 p1.toNatClampNeg → ((¬ x2 = (1 : Int32) → (vp_in p1 7 ∧ (∀ x6 : Int32, x6 = X.2 23 p1.toNatClampNeg → ((¬ x6 = (2 : Int32) → (wx_X12_leads p1 X (fun (x9 : Int32) (X11 : Xc) => ((¬ x9 = 0 → Qx X11) ∧ (x9 = 0 → (vp_in p1 7 ∧ (∀ x15 : Int32, x15 = X11.2 36 p1.toNatClampNeg → ((x15 ≤ 0 → Qx X11) ∧ (¬ x15 ≤ 0 → (∀ x19 : Int32, x19 = X11.1 4 → (vp_in p1 7 ∧ (wx_X12_leader p1 (xA X11 58 p1.toNatClampNeg x19) (fun (x21 : Int32) (X23 : Xc) => (vp_in p1 7 ∧ (∀ x26 : Int32, x26 = X23.2 26 p1.toNatClampNeg → (wx_X12_tell (1 : Int32) p1 x21 (x26 + (1 : Int32)) X23 (fun (X30 : Xc) => Qx X30))))))))))))))))) ∧ (x6 = (2 : Int32) → (∀ x33 : Int32, x33 = X.1 4 → (vp_in p1 7 ∧ (wx_X12_tellOthers (8 : Int32) p1 (-1 : Int32) (xA X 58 p1.toNatClampNeg x33) (fun (X37 : Xc) => (wx_X12_sendTurned p1 X37 (fun (X41 : Xc) => Qx X41))))))))))) ∧ (x2 = (1 : Int32) → (∀ x44 : Int32, x44 = X.1 4 → (vp_in p1 7 ∧ (vp_in p1 7 ∧ (∀ x47 : Int32, x47 = (xA X 58 p1.toNatClampNeg x44).2 26 p1.toNatClampNeg → (wx_X12_tellOthers (3 : Int32) p1 x47 (xA X 58 p1.toNatClampNeg x44) (fun (X51 : Xc) => Qx X51))))))))))
set_option maxHeartbeats 4000000 in
set_option maxRecDepth 100000 in
theorem x_X12_asks {m : Nat} {ad : Nat → Nat} {p1 : Int32} {σ : Sto} {X : Xc} {Q : Sto → Prop} {Qx : Xc → Prop} (hR : RefC m ad σ X) (h : wx_X12_asks p1 X Qx) (hQ : ∀ (σ' : Sto) (X' : Xc), Qx X' → RefC m ad σ' X' → Fi m ad σ σ' → Q σ') : wp_X12_asks m p1 σ Q := by
  have F : Fi m ad σ σ := Fi.rf
  unfold wx_X12_asks at h
  unfold wp_X12_asks
  refine ⟨hR.1.1, ?_⟩
  have a1 : sP σ m 23 = some (ad 23) := hR.P (k := 23) (by decide)
  refine ⟨ad 23, a1, ?_⟩
  refine ⟨hR.K (k := 23) (by decide), ?_⟩
  refine ⟨hR.N (k := 23) (by decide) h.1, ?_⟩
  have h := h.2
  intro x2 e3
  rw [hR.2.2 23 (by decide)] at e3
  have h := h x2 e3
  refine ⟨fun c4 => ?_, fun c4 => ?_⟩
  · have h := h.1 c4
    have a5 : sP σ m 23 = some (ad 23) := hR.P (k := 23) (by decide)
    refine ⟨hR.N (k := 23) (by decide) h.1, ?_⟩
    have h := h.2
    intro x6 e7
    rw [hR.2.2 23 (by decide)] at e7
    have h := h x6 e7
    refine ⟨fun c8 => ?_, fun c8 => ?_⟩
    · have h := h.1 c8
      refine x_X12_leads hR h (fun x9 σ10 X11 h hR F12 => ?_)
      have F := F.trans F12
      refine ⟨fun c13 => ?_, fun c13 => ?_⟩
      · have h := h.1 c13
        exact hQ _ _ h hR F
      · have h := h.2 c13
        refine ⟨hR.1.1, ?_⟩
        have a14 : sP σ10 m 36 = some (ad 36) := hR.P (k := 36) (by decide)
        refine ⟨ad 36, a14, ?_⟩
        refine ⟨hR.K (k := 36) (by decide), ?_⟩
        refine ⟨hR.N (k := 36) (by decide) h.1, ?_⟩
        have h := h.2
        intro x15 e16
        rw [hR.2.2 36 (by decide)] at e16
        have h := h x15 e16
        refine ⟨fun c17 => ?_, fun c17 => ?_⟩
        · have h := h.1 c17
          exact hQ _ _ h hR F
        · have h := h.2 c17
          have a18 : sP σ10 m 58 = some (ad 58) := hR.P (k := 58) (by decide)
          intro x19 e20
          rw [hR.2.1 4] at e20
          have h := h x19 e20
          refine ⟨ad 58, a18, ?_⟩
          refine ⟨hR.K (k := 58) (by decide), ?_⟩
          refine ⟨hR.N (k := 58) (by decide) h.1, ?_⟩
          have h := h.2
          have F := F.A (k := 58) (i := p1.toNatClampNeg) (v := x19) (by decide)
          have hR := hR.A (k := 58) (i := p1.toNatClampNeg) (v := x19) (by decide)
          refine x_X12_leader hR h (fun x21 σ22 X23 h hR F24 => ?_)
          have F := F.trans F24
          refine ⟨hR.1.1, ?_⟩
          have a25 : sP σ22 m 26 = some (ad 26) := hR.P (k := 26) (by decide)
          refine ⟨ad 26, a25, ?_⟩
          refine ⟨hR.K (k := 26) (by decide), ?_⟩
          refine ⟨hR.N (k := 26) (by decide) h.1, ?_⟩
          have h := h.2
          intro x26 e27
          rw [hR.2.2 26 (by decide)] at e27
          have h := h x26 e27
          refine x_X12_tell hR h (fun σ29 X30 h hR F31 => ?_)
          have F := F.trans F31
          exact hQ _ _ h hR F
    · have h := h.2 c8
      have a32 : sP σ m 58 = some (ad 58) := hR.P (k := 58) (by decide)
      intro x33 e34
      rw [hR.2.1 4] at e34
      have h := h x33 e34
      refine ⟨ad 58, a32, ?_⟩
      refine ⟨hR.K (k := 58) (by decide), ?_⟩
      refine ⟨hR.N (k := 58) (by decide) h.1, ?_⟩
      have h := h.2
      have F := F.A (k := 58) (i := p1.toNatClampNeg) (v := x33) (by decide)
      have hR := hR.A (k := 58) (i := p1.toNatClampNeg) (v := x33) (by decide)
      refine x_X12_tellOthers hR h (fun σ36 X37 h hR F38 => ?_)
      have F := F.trans F38
      refine ⟨hR.1.1, ?_⟩
      refine x_X12_sendTurned hR h (fun σ40 X41 h hR F42 => ?_)
      have F := F.trans F42
      exact hQ _ _ h hR F
  · have h := h.2 c4
    have a43 : sP σ m 58 = some (ad 58) := hR.P (k := 58) (by decide)
    intro x44 e45
    rw [hR.2.1 4] at e45
    have h := h x44 e45
    refine ⟨ad 58, a43, ?_⟩
    refine ⟨hR.K (k := 58) (by decide), ?_⟩
    refine ⟨hR.N (k := 58) (by decide) h.1, ?_⟩
    have h := h.2
    have F := F.A (k := 58) (i := p1.toNatClampNeg) (v := x44) (by decide)
    have hR := hR.A (k := 58) (i := p1.toNatClampNeg) (v := x44) (by decide)
    have a46 : sP σ m 26 = some (ad 26) := hR.P (k := 26) (by decide)
    refine ⟨ad 26, a46, ?_⟩
    refine ⟨hR.K (k := 26) (by decide), ?_⟩
    refine ⟨hR.N (k := 26) (by decide) h.1, ?_⟩
    have h := h.2
    intro x47 e48
    rw [hR.2.2 26 (by decide)] at e48
    have h := h x47 e48
    refine x_X12_tellOthers hR h (fun σ50 X51 h hR F52 => ?_)
    have F := F.trans F52
    exact hQ _ _ h hR F
def bx_X12_syncs_52 (Lx12 : Int32 × Int32 → Xc → Prop) (Qx : Xc → Prop) (p1 : Int32) (p2 : Int32) (X : Xc) : Prop := (∀ x1 : Int32, x1 = p2 + (1 : Int32) → Lx12 (p1, x1) X)
set_option maxHeartbeats 4000000 in
set_option maxRecDepth 100000 in
theorem xb_X12_syncs_52 {m : Nat} {ad : Nat → Nat} {σ0 : Sto} {Lx12 : Int32 × Int32 → Xc → Prop} {L12 : Int32 × Int32 → Sto → Prop} {Q : Sto → Prop} {Qx : Xc → Prop} (hQ : ∀ (σ' : Sto) (X' : Xc), Qx X' → RefC m ad σ' X' → Fi m ad σ0 σ' → Q σ') (hL12 : ∀ (t : Int32 × Int32) (σ : Sto) (X : Xc), Lx12 t X → RefC m ad σ X → Fi m ad σ0 σ → L12 t σ) (p1 : Int32) (p2 : Int32) (σ : Sto) (X : Xc) (hR : RefC m ad σ X) (F : Fi m ad σ0 σ) (h : bx_X12_syncs_52 Lx12 Qx p1 p2 X) : b_X12_syncs_52 m L12 Q p1 p2 σ := by
  unfold bx_X12_syncs_52 at h
  unfold b_X12_syncs_52
  intro x1 e2
  have h := h x1 e2
  exact hL12 _ _ _ h hR F
def fx_X12_syncs_12 (Qx : Xc → Prop) (Lx12 : Int32 × Int32 → Xc → Prop) (t : Int32 × Int32) (X : Xc) : Prop := (∀ x1 : Int32, x1 = X.1 1 → ((x1 ≤ t.2 → Qx X) ∧ (¬ x1 ≤ t.2 → ((t.2 = t.1 → bx_X12_syncs_52 Lx12 Qx t.1 t.2 X) ∧ (¬ t.2 = t.1 → (wx_X12_begin (5 : Int32) t.1 t.2 X (fun (X7 : Xc) => (wx_X12_addView t.1 X7 (fun (X11 : Xc) => (vp_in t.1 7 ∧ (∀ x14 : Int32, x14 = X11.2 26 t.1.toNatClampNeg → (wx_X12_addLog t.1 x14 X11 (fun (X18 : Xc) => (wx_X12_post  X18 (fun (X22 : Xc) => bx_X12_syncs_52 Lx12 Qx t.1 t.2 X22)))))))))))))))
set_option maxHeartbeats 4000000 in
set_option maxRecDepth 100000 in
theorem xf_X12_syncs_12 {m : Nat} {ad : Nat → Nat} {σ0 : Sto} {Q : Sto → Prop} {Qx : Xc → Prop} {Lx12 : Int32 × Int32 → Xc → Prop} {L12 : Int32 × Int32 → Sto → Prop} (hQ : ∀ (σ' : Sto) (X' : Xc), Qx X' → RefC m ad σ' X' → Fi m ad σ0 σ' → Q σ') (hL12 : ∀ (t : Int32 × Int32) (σ : Sto) (X : Xc), Lx12 t X → RefC m ad σ X → Fi m ad σ0 σ → L12 t σ) : ∀ (t : Int32 × Int32) (σ : Sto) (X : Xc), RefC m ad σ X → Fi m ad σ0 σ → fx_X12_syncs_12  Qx Lx12 t X → f_X12_syncs_12 m  Q L12 t σ := by
  intro t σ X hR F h
  unfold fx_X12_syncs_12 at h
  unfold f_X12_syncs_12
  refine ⟨hR.1.1, ?_⟩
  intro x1 e2
  rw [hR.2.1 1] at e2
  have h := h x1 e2
  refine ⟨fun c3 => ?_, fun c3 => ?_⟩
  · have h := h.1 c3
    exact hQ _ _ h hR F
  · have h := h.2 c3
    refine ⟨fun c4 => ?_, fun c4 => ?_⟩
    · have h := h.1 c4
      exact xb_X12_syncs_52 hQ hL12 t.1 t.2 _ _ hR F h
    · have h := h.2 c4
      refine x_X12_begin hR h (fun σ6 X7 h hR F8 => ?_)
      have F := F.trans F8
      refine ⟨hR.1.1, ?_⟩
      refine x_X12_addView hR h (fun σ10 X11 h hR F12 => ?_)
      have F := F.trans F12
      refine ⟨hR.1.1, ?_⟩
      have a13 : sP σ10 m 26 = some (ad 26) := hR.P (k := 26) (by decide)
      refine ⟨ad 26, a13, ?_⟩
      refine ⟨hR.K (k := 26) (by decide), ?_⟩
      refine ⟨hR.N (k := 26) (by decide) h.1, ?_⟩
      have h := h.2
      intro x14 e15
      rw [hR.2.2 26 (by decide)] at e15
      have h := h x14 e15
      refine x_X12_addLog hR h (fun σ17 X18 h hR F19 => ?_)
      have F := F.trans F19
      refine ⟨hR.1.1, ?_⟩
      refine x_X12_post hR h (fun σ21 X22 h hR F23 => ?_)
      have F := F.trans F23
      exact xb_X12_syncs_52 hQ hL12 t.1 t.2 _ _ hR F h
def wx_X12_syncs (p1 : Int32) (X : Xc) (Qx : Xc → Prop) : Prop := (∀ x2 : Int32, x2 = X.1 4 → (vp_in p1 7 ∧ LFx (fx_X12_syncs_12  Qx) (p1, (0 : Int32)) (xA X 61 p1.toNatClampNeg x2)))
set_option maxHeartbeats 4000000 in
set_option maxRecDepth 100000 in
theorem x_X12_syncs {m : Nat} {ad : Nat → Nat} {p1 : Int32} {σ : Sto} {X : Xc} {Q : Sto → Prop} {Qx : Xc → Prop} (hR : RefC m ad σ X) (h : wx_X12_syncs p1 X Qx) (hQ : ∀ (σ' : Sto) (X' : Xc), Qx X' → RefC m ad σ' X' → Fi m ad σ σ' → Q σ') : wp_X12_syncs m p1 σ Q := by
  have F : Fi m ad σ σ := Fi.rf
  unfold wx_X12_syncs at h
  unfold wp_X12_syncs
  refine ⟨hR.1.1, ?_⟩
  have a1 : sP σ m 61 = some (ad 61) := hR.P (k := 61) (by decide)
  intro x2 e3
  rw [hR.2.1 4] at e3
  have h := h x2 e3
  refine ⟨ad 61, a1, ?_⟩
  refine ⟨hR.K (k := 61) (by decide), ?_⟩
  refine ⟨hR.N (k := 61) (by decide) h.1, ?_⟩
  have h := h.2
  have F := F.A (k := 61) (i := p1.toNatClampNeg) (v := x2) (by decide)
  have hR := hR.A (k := 61) (i := p1.toNatClampNeg) (v := x2) (by decide)
  exact lfx h hR F (fun Lx L hL t σ X hR F h => xf_X12_syncs_12 hQ  hL t σ X hR F h)
def bx_X12_acts_239 (Qx : Xc → Prop) (p1 : Int32) (p2 : Int32) (p3 : Int32) (X : Xc) : Prop := ((¬ p2 = 0 → Qx X) ∧ (p2 = 0 → ((¬ p3 = 0 → Qx X) ∧ (p3 = 0 → (vp_in p1 7 ∧ (∀ x4 : Int32, x4 = X.2 36 p1.toNatClampNeg → ((x4 ≤ 0 → Qx X) ∧ (¬ x4 ≤ 0 → (∀ x7 : Int32, x7 = X.1 4 → (vp_in p1 7 ∧ (∀ x10 : Int32, x10 = X.2 58 p1.toNatClampNeg → (∀ x12 : Int32, x12 = X.1 3 → (((x7 - x10) < x12 → Qx X) ∧ (¬ (x7 - x10) < x12 → (wx_X12_asks p1 X (fun (X17 : Xc) => Qx X17))))))))))))))))
set_option maxHeartbeats 4000000 in
set_option maxRecDepth 100000 in
theorem xb_X12_acts_239 {m : Nat} {ad : Nat → Nat} {σ0 : Sto} {Q : Sto → Prop} {Qx : Xc → Prop} (hQ : ∀ (σ' : Sto) (X' : Xc), Qx X' → RefC m ad σ' X' → Fi m ad σ0 σ' → Q σ')  (p1 : Int32) (p2 : Int32) (p3 : Int32) (σ : Sto) (X : Xc) (hR : RefC m ad σ X) (F : Fi m ad σ0 σ) (h : bx_X12_acts_239  Qx p1 p2 p3 X) : b_X12_acts_239 m  Q p1 p2 p3 σ := by
  unfold bx_X12_acts_239 at h
  unfold b_X12_acts_239
  refine ⟨fun c1 => ?_, fun c1 => ?_⟩
  · have h := h.1 c1
    exact hQ _ _ h hR F
  · have h := h.2 c1
    refine ⟨fun c2 => ?_, fun c2 => ?_⟩
    · have h := h.1 c2
      exact hQ _ _ h hR F
    · have h := h.2 c2
      refine ⟨hR.1.1, ?_⟩
      have a3 : sP σ m 36 = some (ad 36) := hR.P (k := 36) (by decide)
      refine ⟨ad 36, a3, ?_⟩
      refine ⟨hR.K (k := 36) (by decide), ?_⟩
      refine ⟨hR.N (k := 36) (by decide) h.1, ?_⟩
      have h := h.2
      intro x4 e5
      rw [hR.2.2 36 (by decide)] at e5
      have h := h x4 e5
      refine ⟨fun c6 => ?_, fun c6 => ?_⟩
      · have h := h.1 c6
        exact hQ _ _ h hR F
      · have h := h.2 c6
        intro x7 e8
        rw [hR.2.1 4] at e8
        have h := h x7 e8
        have a9 : sP σ m 58 = some (ad 58) := hR.P (k := 58) (by decide)
        refine ⟨ad 58, a9, ?_⟩
        refine ⟨hR.K (k := 58) (by decide), ?_⟩
        refine ⟨hR.N (k := 58) (by decide) h.1, ?_⟩
        have h := h.2
        intro x10 e11
        rw [hR.2.2 58 (by decide)] at e11
        have h := h x10 e11
        intro x12 e13
        rw [hR.2.1 3] at e13
        have h := h x12 e13
        refine ⟨fun c14 => ?_, fun c14 => ?_⟩
        · have h := h.1 c14
          exact hQ _ _ h hR F
        · have h := h.2 c14
          refine x_X12_asks hR h (fun σ16 X17 h hR F18 => ?_)
          have F := F.trans F18
          exact hQ _ _ h hR F
def bx_X12_acts_189 (Qx : Xc → Prop) (p1 : Int32) (p2 : Int32) (p3 : Int32) (X : Xc) : Prop := ((¬ p2 = 0 → bx_X12_acts_239  Qx p1 p2 p3 X) ∧ (p2 = 0 → ((¬ p3 = 0 → bx_X12_acts_239  Qx p1 p2 p3 X) ∧ (p3 = 0 → (∀ x3 : Int32, x3 = X.1 4 → (vp_in p1 7 ∧ (∀ x6 : Int32, x6 = X.2 57 p1.toNatClampNeg → (∀ x8 : Int32, x8 = X.1 3 → (((x3 - x6) < ((3 : Int32) * x8) → bx_X12_acts_239  Qx p1 p2 p3 X) ∧ (¬ (x3 - x6) < ((3 : Int32) * x8) → (vp_in p1 7 ∧ (∀ x12 : Int32, x12 = X.2 21 p1.toNatClampNeg → (vp_in p1 7 ∧ (∀ x15 : Int32, x15 = X.2 22 p1.toNatClampNeg → (wx_X12_turnsTo p1 (x12 + (1 : Int32)) x15 X (fun (X19 : Xc) => Qx X19))))))))))))))))
set_option maxHeartbeats 4000000 in
set_option maxRecDepth 100000 in
theorem xb_X12_acts_189 {m : Nat} {ad : Nat → Nat} {σ0 : Sto} {Q : Sto → Prop} {Qx : Xc → Prop} (hQ : ∀ (σ' : Sto) (X' : Xc), Qx X' → RefC m ad σ' X' → Fi m ad σ0 σ' → Q σ')  (p1 : Int32) (p2 : Int32) (p3 : Int32) (σ : Sto) (X : Xc) (hR : RefC m ad σ X) (F : Fi m ad σ0 σ) (h : bx_X12_acts_189  Qx p1 p2 p3 X) : b_X12_acts_189 m  Q p1 p2 p3 σ := by
  unfold bx_X12_acts_189 at h
  unfold b_X12_acts_189
  refine ⟨fun c1 => ?_, fun c1 => ?_⟩
  · have h := h.1 c1
    exact xb_X12_acts_239 hQ  p1 p2 p3 _ _ hR F h
  · have h := h.2 c1
    refine ⟨fun c2 => ?_, fun c2 => ?_⟩
    · have h := h.1 c2
      exact xb_X12_acts_239 hQ  p1 p2 p3 _ _ hR F h
    · have h := h.2 c2
      refine ⟨hR.1.1, ?_⟩
      intro x3 e4
      rw [hR.2.1 4] at e4
      have h := h x3 e4
      have a5 : sP σ m 57 = some (ad 57) := hR.P (k := 57) (by decide)
      refine ⟨ad 57, a5, ?_⟩
      refine ⟨hR.K (k := 57) (by decide), ?_⟩
      refine ⟨hR.N (k := 57) (by decide) h.1, ?_⟩
      have h := h.2
      intro x6 e7
      rw [hR.2.2 57 (by decide)] at e7
      have h := h x6 e7
      intro x8 e9
      rw [hR.2.1 3] at e9
      have h := h x8 e9
      refine ⟨fun c10 => ?_, fun c10 => ?_⟩
      · have h := h.1 c10
        exact xb_X12_acts_239 hQ  p1 p2 p3 _ _ hR F h
      · have h := h.2 c10
        have a11 : sP σ m 21 = some (ad 21) := hR.P (k := 21) (by decide)
        refine ⟨ad 21, a11, ?_⟩
        refine ⟨hR.K (k := 21) (by decide), ?_⟩
        refine ⟨hR.N (k := 21) (by decide) h.1, ?_⟩
        have h := h.2
        intro x12 e13
        rw [hR.2.2 21 (by decide)] at e13
        have h := h x12 e13
        have a14 : sP σ m 22 = some (ad 22) := hR.P (k := 22) (by decide)
        refine ⟨ad 22, a14, ?_⟩
        refine ⟨hR.K (k := 22) (by decide), ?_⟩
        refine ⟨hR.N (k := 22) (by decide) h.1, ?_⟩
        have h := h.2
        intro x15 e16
        rw [hR.2.2 22 (by decide)] at e16
        have h := h x15 e16
        refine x_X12_turnsTo hR h (fun σ18 X19 h hR F20 => ?_)
        have F := F.trans F20
        exact hQ _ _ h hR F
def bx_X12_acts_138 (Qx : Xc → Prop) (p1 : Int32) (p2 : Int32) (p3 : Int32) (X : Xc) : Prop := ((p2 = 0 → bx_X12_acts_189  Qx p1 p2 p3 X) ∧ (¬ p2 = 0 → ((¬ p3 = 0 → bx_X12_acts_189  Qx p1 p2 p3 X) ∧ (p3 = 0 → (vp_in p1 7 ∧ (∀ x4 : Int32, x4 = X.2 26 p1.toNatClampNeg → (vp_in p1 7 ∧ (∀ x7 : Int32, x7 = X.2 28 p1.toNatClampNeg → ((x4 ≤ x7 → bx_X12_acts_189  Qx p1 p2 p3 X) ∧ (¬ x4 ≤ x7 → (∀ x10 : Int32, x10 = X.1 4 → (vp_in p1 7 ∧ (∀ x13 : Int32, x13 = X.2 61 p1.toNatClampNeg → (∀ x15 : Int32, x15 = X.1 3 → (((x10 - x13) < ((4 : Int32) * x15) → bx_X12_acts_189  Qx p1 p2 p3 X) ∧ (¬ (x10 - x13) < ((4 : Int32) * x15) → (wx_X12_syncs p1 X (fun (X20 : Xc) => Qx X20))))))))))))))))))
set_option maxHeartbeats 4000000 in
set_option maxRecDepth 100000 in
theorem xb_X12_acts_138 {m : Nat} {ad : Nat → Nat} {σ0 : Sto} {Q : Sto → Prop} {Qx : Xc → Prop} (hQ : ∀ (σ' : Sto) (X' : Xc), Qx X' → RefC m ad σ' X' → Fi m ad σ0 σ' → Q σ')  (p1 : Int32) (p2 : Int32) (p3 : Int32) (σ : Sto) (X : Xc) (hR : RefC m ad σ X) (F : Fi m ad σ0 σ) (h : bx_X12_acts_138  Qx p1 p2 p3 X) : b_X12_acts_138 m  Q p1 p2 p3 σ := by
  unfold bx_X12_acts_138 at h
  unfold b_X12_acts_138
  refine ⟨fun c1 => ?_, fun c1 => ?_⟩
  · have h := h.1 c1
    exact xb_X12_acts_189 hQ  p1 p2 p3 _ _ hR F h
  · have h := h.2 c1
    refine ⟨fun c2 => ?_, fun c2 => ?_⟩
    · have h := h.1 c2
      exact xb_X12_acts_189 hQ  p1 p2 p3 _ _ hR F h
    · have h := h.2 c2
      refine ⟨hR.1.1, ?_⟩
      have a3 : sP σ m 26 = some (ad 26) := hR.P (k := 26) (by decide)
      refine ⟨ad 26, a3, ?_⟩
      refine ⟨hR.K (k := 26) (by decide), ?_⟩
      refine ⟨hR.N (k := 26) (by decide) h.1, ?_⟩
      have h := h.2
      intro x4 e5
      rw [hR.2.2 26 (by decide)] at e5
      have h := h x4 e5
      have a6 : sP σ m 28 = some (ad 28) := hR.P (k := 28) (by decide)
      refine ⟨ad 28, a6, ?_⟩
      refine ⟨hR.K (k := 28) (by decide), ?_⟩
      refine ⟨hR.N (k := 28) (by decide) h.1, ?_⟩
      have h := h.2
      intro x7 e8
      rw [hR.2.2 28 (by decide)] at e8
      have h := h x7 e8
      refine ⟨fun c9 => ?_, fun c9 => ?_⟩
      · have h := h.1 c9
        exact xb_X12_acts_189 hQ  p1 p2 p3 _ _ hR F h
      · have h := h.2 c9
        intro x10 e11
        rw [hR.2.1 4] at e11
        have h := h x10 e11
        have a12 : sP σ m 61 = some (ad 61) := hR.P (k := 61) (by decide)
        refine ⟨ad 61, a12, ?_⟩
        refine ⟨hR.K (k := 61) (by decide), ?_⟩
        refine ⟨hR.N (k := 61) (by decide) h.1, ?_⟩
        have h := h.2
        intro x13 e14
        rw [hR.2.2 61 (by decide)] at e14
        have h := h x13 e14
        intro x15 e16
        rw [hR.2.1 3] at e16
        have h := h x15 e16
        refine ⟨fun c17 => ?_, fun c17 => ?_⟩
        · have h := h.1 c17
          exact xb_X12_acts_189 hQ  p1 p2 p3 _ _ hR F h
        · have h := h.2 c17
          refine x_X12_syncs hR h (fun σ19 X20 h hR F21 => ?_)
          have F := F.trans F21
          exact hQ _ _ h hR F
def bx_X12_acts_90 (Qx : Xc → Prop) (p1 : Int32) (p2 : Int32) (p3 : Int32) (X : Xc) : Prop := ((p2 = 0 → bx_X12_acts_138  Qx p1 p2 p3 X) ∧ (¬ p2 = 0 → ((p3 = (2 : Int32) → bx_X12_acts_138  Qx p1 p2 p3 X) ∧ (¬ p3 = (2 : Int32) → (∀ x3 : Int32, x3 = X.1 4 → (vp_in p1 7 ∧ (∀ x6 : Int32, x6 = X.2 60 p1.toNatClampNeg → (∀ x8 : Int32, x8 = X.1 3 → (((x3 - x6) < x8 → bx_X12_acts_138  Qx p1 p2 p3 X) ∧ (¬ (x3 - x6) < x8 → (∀ x12 : Int32, x12 = X.1 4 → (vp_in p1 7 ∧ (wx_X12_tellOthers (12 : Int32) p1 (-1 : Int32) (xA X 60 p1.toNatClampNeg x12) (fun (X16 : Xc) => Qx X16))))))))))))))
set_option maxHeartbeats 4000000 in
set_option maxRecDepth 100000 in
theorem xb_X12_acts_90 {m : Nat} {ad : Nat → Nat} {σ0 : Sto} {Q : Sto → Prop} {Qx : Xc → Prop} (hQ : ∀ (σ' : Sto) (X' : Xc), Qx X' → RefC m ad σ' X' → Fi m ad σ0 σ' → Q σ')  (p1 : Int32) (p2 : Int32) (p3 : Int32) (σ : Sto) (X : Xc) (hR : RefC m ad σ X) (F : Fi m ad σ0 σ) (h : bx_X12_acts_90  Qx p1 p2 p3 X) : b_X12_acts_90 m  Q p1 p2 p3 σ := by
  unfold bx_X12_acts_90 at h
  unfold b_X12_acts_90
  refine ⟨fun c1 => ?_, fun c1 => ?_⟩
  · have h := h.1 c1
    exact xb_X12_acts_138 hQ  p1 p2 p3 _ _ hR F h
  · have h := h.2 c1
    refine ⟨fun c2 => ?_, fun c2 => ?_⟩
    · have h := h.1 c2
      exact xb_X12_acts_138 hQ  p1 p2 p3 _ _ hR F h
    · have h := h.2 c2
      refine ⟨hR.1.1, ?_⟩
      intro x3 e4
      rw [hR.2.1 4] at e4
      have h := h x3 e4
      have a5 : sP σ m 60 = some (ad 60) := hR.P (k := 60) (by decide)
      refine ⟨ad 60, a5, ?_⟩
      refine ⟨hR.K (k := 60) (by decide), ?_⟩
      refine ⟨hR.N (k := 60) (by decide) h.1, ?_⟩
      have h := h.2
      intro x6 e7
      rw [hR.2.2 60 (by decide)] at e7
      have h := h x6 e7
      intro x8 e9
      rw [hR.2.1 3] at e9
      have h := h x8 e9
      refine ⟨fun c10 => ?_, fun c10 => ?_⟩
      · have h := h.1 c10
        exact xb_X12_acts_138 hQ  p1 p2 p3 _ _ hR F h
      · have h := h.2 c10
        have a11 : sP σ m 60 = some (ad 60) := hR.P (k := 60) (by decide)
        intro x12 e13
        rw [hR.2.1 4] at e13
        have h := h x12 e13
        refine ⟨hR.N (k := 60) (by decide) h.1, ?_⟩
        have h := h.2
        have F := F.A (k := 60) (i := p1.toNatClampNeg) (v := x12) (by decide)
        have hR := hR.A (k := 60) (i := p1.toNatClampNeg) (v := x12) (by decide)
        refine x_X12_tellOthers hR h (fun σ15 X16 h hR F17 => ?_)
        have F := F.trans F17
        exact hQ _ _ h hR F
def bx_X12_acts_60 (Qx : Xc → Prop) (p1 : Int32) (p2 : Int32) (p3 : Int32) (X : Xc) : Prop := ((p3 = 0 → bx_X12_acts_90  Qx p1 p2 p3 X) ∧ (¬ p3 = 0 → (∀ x2 : Int32, x2 = X.1 4 → (vp_in p1 7 ∧ (∀ x5 : Int32, x5 = X.2 58 p1.toNatClampNeg → (∀ x7 : Int32, x7 = X.1 3 → (((x2 - x5) < x7 → bx_X12_acts_90  Qx p1 p2 p3 X) ∧ (¬ (x2 - x5) < x7 → (wx_X12_asks p1 X (fun (X12 : Xc) => Qx X12))))))))))
set_option maxHeartbeats 4000000 in
set_option maxRecDepth 100000 in
theorem xb_X12_acts_60 {m : Nat} {ad : Nat → Nat} {σ0 : Sto} {Q : Sto → Prop} {Qx : Xc → Prop} (hQ : ∀ (σ' : Sto) (X' : Xc), Qx X' → RefC m ad σ' X' → Fi m ad σ0 σ' → Q σ')  (p1 : Int32) (p2 : Int32) (p3 : Int32) (σ : Sto) (X : Xc) (hR : RefC m ad σ X) (F : Fi m ad σ0 σ) (h : bx_X12_acts_60  Qx p1 p2 p3 X) : b_X12_acts_60 m  Q p1 p2 p3 σ := by
  unfold bx_X12_acts_60 at h
  unfold b_X12_acts_60
  refine ⟨fun c1 => ?_, fun c1 => ?_⟩
  · have h := h.1 c1
    exact xb_X12_acts_90 hQ  p1 p2 p3 _ _ hR F h
  · have h := h.2 c1
    refine ⟨hR.1.1, ?_⟩
    intro x2 e3
    rw [hR.2.1 4] at e3
    have h := h x2 e3
    have a4 : sP σ m 58 = some (ad 58) := hR.P (k := 58) (by decide)
    refine ⟨ad 58, a4, ?_⟩
    refine ⟨hR.K (k := 58) (by decide), ?_⟩
    refine ⟨hR.N (k := 58) (by decide) h.1, ?_⟩
    have h := h.2
    intro x5 e6
    rw [hR.2.2 58 (by decide)] at e6
    have h := h x5 e6
    intro x7 e8
    rw [hR.2.1 3] at e8
    have h := h x7 e8
    refine ⟨fun c9 => ?_, fun c9 => ?_⟩
    · have h := h.1 c9
      exact xb_X12_acts_90 hQ  p1 p2 p3 _ _ hR F h
    · have h := h.2 c9
      refine x_X12_asks hR h (fun σ11 X12 h hR F13 => ?_)
      have F := F.trans F13
      exact hQ _ _ h hR F
def wx_X12_acts (p1 : Int32) (X : Xc) (Qx : Xc → Prop) : Prop := (wx_X12_leads p1 X (fun (x1 : Int32) (X3 : Xc) => (vp_in p1 7 ∧ (∀ x6 : Int32, x6 = X3.2 23 p1.toNatClampNeg → ((¬ x6 = (2 : Int32) → bx_X12_acts_60  Qx p1 x1 x6 X3) ∧ (x6 = (2 : Int32) → (∀ x9 : Int32, x9 = X3.1 4 → (vp_in p1 7 ∧ (∀ x12 : Int32, x12 = X3.2 59 p1.toNatClampNeg → (∀ x14 : Int32, x14 = X3.1 3 → (((x9 - x12) < ((4 : Int32) * x14) → bx_X12_acts_60  Qx p1 x1 x6 X3) ∧ (¬ (x9 - x12) < ((4 : Int32) * x14) → (vp_in p1 7 ∧ (∀ x18 : Int32, x18 = X3.2 21 p1.toNatClampNeg → (vp_in p1 7 ∧ (∀ x21 : Int32, x21 = X3.2 22 p1.toNatClampNeg → (wx_X12_turnsTo p1 (x18 + (1 : Int32)) x21 X3 (fun (X25 : Xc) => Qx X25))))))))))))))))))
set_option maxHeartbeats 4000000 in
set_option maxRecDepth 100000 in
theorem x_X12_acts {m : Nat} {ad : Nat → Nat} {p1 : Int32} {σ : Sto} {X : Xc} {Q : Sto → Prop} {Qx : Xc → Prop} (hR : RefC m ad σ X) (h : wx_X12_acts p1 X Qx) (hQ : ∀ (σ' : Sto) (X' : Xc), Qx X' → RefC m ad σ' X' → Fi m ad σ σ' → Q σ') : wp_X12_acts m p1 σ Q := by
  have F : Fi m ad σ σ := Fi.rf
  unfold wx_X12_acts at h
  unfold wp_X12_acts
  refine ⟨hR.1.1, ?_⟩
  refine x_X12_leads hR h (fun x1 σ2 X3 h hR F4 => ?_)
  have F := F.trans F4
  refine ⟨hR.1.1, ?_⟩
  have a5 : sP σ2 m 23 = some (ad 23) := hR.P (k := 23) (by decide)
  refine ⟨ad 23, a5, ?_⟩
  refine ⟨hR.K (k := 23) (by decide), ?_⟩
  refine ⟨hR.N (k := 23) (by decide) h.1, ?_⟩
  have h := h.2
  intro x6 e7
  rw [hR.2.2 23 (by decide)] at e7
  have h := h x6 e7
  refine ⟨fun c8 => ?_, fun c8 => ?_⟩
  · have h := h.1 c8
    exact xb_X12_acts_60 hQ  p1 x1 x6 _ _ hR F h
  · have h := h.2 c8
    intro x9 e10
    rw [hR.2.1 4] at e10
    have h := h x9 e10
    have a11 : sP σ2 m 59 = some (ad 59) := hR.P (k := 59) (by decide)
    refine ⟨ad 59, a11, ?_⟩
    refine ⟨hR.K (k := 59) (by decide), ?_⟩
    refine ⟨hR.N (k := 59) (by decide) h.1, ?_⟩
    have h := h.2
    intro x12 e13
    rw [hR.2.2 59 (by decide)] at e13
    have h := h x12 e13
    intro x14 e15
    rw [hR.2.1 3] at e15
    have h := h x14 e15
    refine ⟨fun c16 => ?_, fun c16 => ?_⟩
    · have h := h.1 c16
      exact xb_X12_acts_60 hQ  p1 x1 x6 _ _ hR F h
    · have h := h.2 c16
      have a17 : sP σ2 m 21 = some (ad 21) := hR.P (k := 21) (by decide)
      refine ⟨ad 21, a17, ?_⟩
      refine ⟨hR.K (k := 21) (by decide), ?_⟩
      refine ⟨hR.N (k := 21) (by decide) h.1, ?_⟩
      have h := h.2
      intro x18 e19
      rw [hR.2.2 21 (by decide)] at e19
      have h := h x18 e19
      have a20 : sP σ2 m 22 = some (ad 22) := hR.P (k := 22) (by decide)
      refine ⟨ad 22, a20, ?_⟩
      refine ⟨hR.K (k := 22) (by decide), ?_⟩
      refine ⟨hR.N (k := 22) (by decide) h.1, ?_⟩
      have h := h.2
      intro x21 e22
      rw [hR.2.2 22 (by decide)] at e22
      have h := h x21 e22
      refine x_X12_turnsTo hR h (fun σ24 X25 h hR F26 => ?_)
      have F := F.trans F26
      exact hQ _ _ h hR F
def bx_X12_goOn_109 (Lx70 : Int32 → Xc → Prop) (Qx : Xc → Prop) (p1 : Int32) (X : Xc) : Prop := (∀ x1 : Int32, x1 = p1 + (1 : Int32) → Lx70 (x1) X)
set_option maxHeartbeats 4000000 in
set_option maxRecDepth 100000 in
theorem xb_X12_goOn_109 {m : Nat} {ad : Nat → Nat} {σ0 : Sto} {Lx70 : Int32 → Xc → Prop} {L70 : Int32 → Sto → Prop} {Q : Sto → Prop} {Qx : Xc → Prop} (hQ : ∀ (σ' : Sto) (X' : Xc), Qx X' → RefC m ad σ' X' → Fi m ad σ0 σ' → Q σ') (hL70 : ∀ (t : Int32) (σ : Sto) (X : Xc), Lx70 t X → RefC m ad σ X → Fi m ad σ0 σ → L70 t σ) (p1 : Int32) (σ : Sto) (X : Xc) (hR : RefC m ad σ X) (F : Fi m ad σ0 σ) (h : bx_X12_goOn_109 Lx70 Qx p1 X) : b_X12_goOn_109 m L70 Q p1 σ := by
  unfold bx_X12_goOn_109 at h
  unfold b_X12_goOn_109
  intro x1 e2
  have h := h x1 e2
  exact hL70 _ _ _ h hR F
def fx_X12_goOn_70 (Qx : Xc → Prop) (Lx70 : Int32 → Xc → Prop) (t : Int32) (X : Xc) : Prop := (((4 : Int32) ≤ t → Qx X) ∧ (¬ (4 : Int32) ≤ t → (vp_in t 4 ∧ (∀ x3 : Int32, x3 = X.2 66 t.toNatClampNeg → ((x3 = 0 → bx_X12_goOn_109 Lx70 Qx t X) ∧ (¬ x3 = 0 → (∀ x6 : Int32, x6 = X.1 4 → (vp_in t 4 ∧ (∀ x9 : Int32, x9 = X.2 70 t.toNatClampNeg → (∀ x11 : Int32, x11 = X.1 3 → (((x6 - x9) < ((2 : Int32) * x11) → bx_X12_goOn_109 Lx70 Qx t X) ∧ (¬ (x6 - x9) < ((2 : Int32) * x11) → (wx_X12_stamp t X (fun (X16 : Xc) => bx_X12_goOn_109 Lx70 Qx t X16))))))))))))))
set_option maxHeartbeats 4000000 in
set_option maxRecDepth 100000 in
theorem xf_X12_goOn_70 {m : Nat} {ad : Nat → Nat} {σ0 : Sto} {Q : Sto → Prop} {Qx : Xc → Prop} {Lx70 : Int32 → Xc → Prop} {L70 : Int32 → Sto → Prop} (hQ : ∀ (σ' : Sto) (X' : Xc), Qx X' → RefC m ad σ' X' → Fi m ad σ0 σ' → Q σ') (hL70 : ∀ (t : Int32) (σ : Sto) (X : Xc), Lx70 t X → RefC m ad σ X → Fi m ad σ0 σ → L70 t σ) : ∀ (t : Int32) (σ : Sto) (X : Xc), RefC m ad σ X → Fi m ad σ0 σ → fx_X12_goOn_70  Qx Lx70 t X → f_X12_goOn_70 m  Q L70 t σ := by
  intro t σ X hR F h
  unfold fx_X12_goOn_70 at h
  unfold f_X12_goOn_70
  refine ⟨fun c1 => ?_, fun c1 => ?_⟩
  · have h := h.1 c1
    exact hQ _ _ h hR F
  · have h := h.2 c1
    refine ⟨hR.1.1, ?_⟩
    have a2 : sP σ m 66 = some (ad 66) := hR.P (k := 66) (by decide)
    refine ⟨ad 66, a2, ?_⟩
    refine ⟨hR.K (k := 66) (by decide), ?_⟩
    refine ⟨hR.N (k := 66) (by decide) h.1, ?_⟩
    have h := h.2
    intro x3 e4
    rw [hR.2.2 66 (by decide)] at e4
    have h := h x3 e4
    refine ⟨fun c5 => ?_, fun c5 => ?_⟩
    · have h := h.1 c5
      exact xb_X12_goOn_109 hQ hL70 t _ _ hR F h
    · have h := h.2 c5
      intro x6 e7
      rw [hR.2.1 4] at e7
      have h := h x6 e7
      have a8 : sP σ m 70 = some (ad 70) := hR.P (k := 70) (by decide)
      refine ⟨ad 70, a8, ?_⟩
      refine ⟨hR.K (k := 70) (by decide), ?_⟩
      refine ⟨hR.N (k := 70) (by decide) h.1, ?_⟩
      have h := h.2
      intro x9 e10
      rw [hR.2.2 70 (by decide)] at e10
      have h := h x9 e10
      intro x11 e12
      rw [hR.2.1 3] at e12
      have h := h x11 e12
      refine ⟨fun c13 => ?_, fun c13 => ?_⟩
      · have h := h.1 c13
        exact xb_X12_goOn_109 hQ hL70 t _ _ hR F h
      · have h := h.2 c13
        refine x_X12_stamp hR h (fun σ15 X16 h hR F17 => ?_)
        have F := F.trans F17
        exact xb_X12_goOn_109 hQ hL70 t _ _ hR F h
def bx_X12_goOn_62 (Lx40 : Int32 → Xc → Prop) (Qx : Xc → Prop) (p1 : Int32) (X : Xc) : Prop := (∀ x1 : Int32, x1 = p1 + (1 : Int32) → Lx40 (x1) X)
set_option maxHeartbeats 4000000 in
set_option maxRecDepth 100000 in
theorem xb_X12_goOn_62 {m : Nat} {ad : Nat → Nat} {σ0 : Sto} {Lx40 : Int32 → Xc → Prop} {L40 : Int32 → Sto → Prop} {Q : Sto → Prop} {Qx : Xc → Prop} (hQ : ∀ (σ' : Sto) (X' : Xc), Qx X' → RefC m ad σ' X' → Fi m ad σ0 σ' → Q σ') (hL40 : ∀ (t : Int32) (σ : Sto) (X : Xc), Lx40 t X → RefC m ad σ X → Fi m ad σ0 σ → L40 t σ) (p1 : Int32) (σ : Sto) (X : Xc) (hR : RefC m ad σ X) (F : Fi m ad σ0 σ) (h : bx_X12_goOn_62 Lx40 Qx p1 X) : b_X12_goOn_62 m L40 Q p1 σ := by
  unfold bx_X12_goOn_62 at h
  unfold b_X12_goOn_62
  intro x1 e2
  have h := h x1 e2
  exact hL40 _ _ _ h hR F
def fx_X12_goOn_40 (Qx : Xc → Prop) (Lx40 : Int32 → Xc → Prop) (t : Int32) (X : Xc) : Prop := (∀ x1 : Int32, x1 = X.1 1 → ((x1 ≤ t → LFx (fx_X12_goOn_70  Qx) ((0 : Int32)) X) ∧ (¬ x1 ≤ t → (vp_in t 7 ∧ (∀ x5 : Int32, x5 = X.2 20 t.toNatClampNeg → ((¬ x5 = 0 → bx_X12_goOn_62 Lx40 Qx t X) ∧ (x5 = 0 → (wx_X12_acts t X (fun (X10 : Xc) => bx_X12_goOn_62 Lx40 Qx t X10)))))))))
set_option maxHeartbeats 4000000 in
set_option maxRecDepth 100000 in
theorem xf_X12_goOn_40 {m : Nat} {ad : Nat → Nat} {σ0 : Sto} {Q : Sto → Prop} {Qx : Xc → Prop} {Lx40 : Int32 → Xc → Prop} {L40 : Int32 → Sto → Prop} (hQ : ∀ (σ' : Sto) (X' : Xc), Qx X' → RefC m ad σ' X' → Fi m ad σ0 σ' → Q σ') (hL40 : ∀ (t : Int32) (σ : Sto) (X : Xc), Lx40 t X → RefC m ad σ X → Fi m ad σ0 σ → L40 t σ) : ∀ (t : Int32) (σ : Sto) (X : Xc), RefC m ad σ X → Fi m ad σ0 σ → fx_X12_goOn_40  Qx Lx40 t X → f_X12_goOn_40 m  Q L40 t σ := by
  intro t σ X hR F h
  unfold fx_X12_goOn_40 at h
  unfold f_X12_goOn_40
  refine ⟨hR.1.1, ?_⟩
  intro x1 e2
  rw [hR.2.1 1] at e2
  have h := h x1 e2
  refine ⟨fun c3 => ?_, fun c3 => ?_⟩
  · have h := h.1 c3
    exact lfx h hR F (fun Lx L hL t σ X hR F h => xf_X12_goOn_70 hQ  hL t σ X hR F h)
  · have h := h.2 c3
    have a4 : sP σ m 20 = some (ad 20) := hR.P (k := 20) (by decide)
    refine ⟨ad 20, a4, ?_⟩
    refine ⟨hR.K (k := 20) (by decide), ?_⟩
    refine ⟨hR.N (k := 20) (by decide) h.1, ?_⟩
    have h := h.2
    intro x5 e6
    rw [hR.2.2 20 (by decide)] at e6
    have h := h x5 e6
    refine ⟨fun c7 => ?_, fun c7 => ?_⟩
    · have h := h.1 c7
      exact xb_X12_goOn_62 hQ hL40 t _ _ hR F h
    · have h := h.2 c7
      refine x_X12_acts hR h (fun σ9 X10 h hR F11 => ?_)
      have F := F.trans F11
      exact xb_X12_goOn_62 hQ hL40 t _ _ hR F h
def bx_X12_goOn_38 (Qx : Xc → Prop)  (X : Xc) : Prop := LFx (fx_X12_goOn_40  Qx) ((0 : Int32)) X
set_option maxHeartbeats 4000000 in
set_option maxRecDepth 100000 in
theorem xb_X12_goOn_38 {m : Nat} {ad : Nat → Nat} {σ0 : Sto} {Q : Sto → Prop} {Qx : Xc → Prop} (hQ : ∀ (σ' : Sto) (X' : Xc), Qx X' → RefC m ad σ' X' → Fi m ad σ0 σ' → Q σ')   (σ : Sto) (X : Xc) (hR : RefC m ad σ X) (F : Fi m ad σ0 σ) (h : bx_X12_goOn_38  Qx  X) : b_X12_goOn_38 m  Q  σ := by
  unfold bx_X12_goOn_38 at h
  unfold b_X12_goOn_38
  exact lfx h hR F (fun Lx L hL t σ X hR F h => xf_X12_goOn_40 hQ  hL t σ X hR F h)
def wx_X12_goOn  (X : Xc) (Qx : Xc → Prop) : Prop := (∀ x1 : Int32, x1 = X.1 4 → (∀ x3 : Int32, x3 = x1 + (1 : Int32) → (∀ x5 : Int32, x5 = (xS X 4 x3).1 16 → ((¬ x5 = 0 → bx_X12_goOn_38  Qx  (xS X 4 x3)) ∧ (x5 = 0 → (∀ x8 : Int32, x8 = (xS X 4 x3).1 4 → (∀ x10 : Int32, x10 = (xS X 4 x3).1 19 → (∀ x12 : Int32, x12 = (xS X 4 x3).1 3 → (((x8 - x10) < x12 → bx_X12_goOn_38  Qx  (xS X 4 x3)) ∧ (¬ (x8 - x10) < x12 → (wx_X12_establish  (xS X 4 x3) (fun (x15 : Int32) (X17 : Xc) => bx_X12_goOn_38  Qx  X17))))))))))))
set_option maxHeartbeats 4000000 in
set_option maxRecDepth 100000 in
theorem x_X12_goOn {m : Nat} {ad : Nat → Nat} {σ : Sto} {X : Xc} {Q : Sto → Prop} {Qx : Xc → Prop} (hR : RefC m ad σ X) (h : wx_X12_goOn  X Qx) (hQ : ∀ (σ' : Sto) (X' : Xc), Qx X' → RefC m ad σ' X' → Fi m ad σ σ' → Q σ') : wp_X12_goOn m  σ Q := by
  have F : Fi m ad σ σ := Fi.rf
  unfold wx_X12_goOn at h
  unfold wp_X12_goOn
  refine ⟨hR.1.1, ?_⟩
  intro x1 e2
  rw [hR.2.1 4] at e2
  have h := h x1 e2
  intro x3 e4
  have h := h x3 e4
  have F := F.S (k := 4) (v := x3)
  have hR := hR.S (k := 4) (v := x3)
  intro x5 e6
  rw [hR.2.1 16] at e6
  have h := h x5 e6
  refine ⟨fun c7 => ?_, fun c7 => ?_⟩
  · have h := h.1 c7
    exact xb_X12_goOn_38 hQ   _ _ hR F h
  · have h := h.2 c7
    intro x8 e9
    rw [hR.2.1 4] at e9
    have h := h x8 e9
    intro x10 e11
    rw [hR.2.1 19] at e11
    have h := h x10 e11
    intro x12 e13
    rw [hR.2.1 3] at e13
    have h := h x12 e13
    refine ⟨fun c14 => ?_, fun c14 => ?_⟩
    · have h := h.1 c14
      exact xb_X12_goOn_38 hQ   _ _ hR F h
    · have h := h.2 c14
      refine x_X12_establish hR h (fun x15 σ16 X17 h hR F18 => ?_)
      have F := F.trans F18
      exact xb_X12_goOn_38 hQ   _ _ hR F h
