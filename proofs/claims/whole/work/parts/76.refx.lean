def wx_X12_writeRequest (p1 : Int32) (X : Xc) (Qx : Xc → Prop) : Prop := (vp_in p1 128000 ∧ (∀ x2 : Int32, x2 = X.2 10 p1.toNatClampNeg → (wx_X12_write x2 X (fun (X6 : Xc) => (∀ x9 : Int32, x9 = p1 + (1 : Int32) → (vp_in x9 128000 ∧ (∀ x11 : Int32, x11 = X6.2 10 x9.toNatClampNeg → (wx_X12_writeNumber x11 X6 (fun (X15 : Xc) => (∀ x18 : Int32, x18 = p1 + (2 : Int32) → (vp_in x18 128000 ∧ (∀ x20 : Int32, x20 = X15.2 10 x18.toNatClampNeg → (wx_X12_write x20 X15 (fun (X24 : Xc) => (∀ x27 : Int32, x27 = p1 + (3 : Int32) → (vp_in x27 128000 ∧ (∀ x29 : Int32, x29 = X24.2 10 x27.toNatClampNeg → (wx_X12_write x29 X24 (fun (X33 : Xc) => (∀ x36 : Int32, x36 = p1 + (4 : Int32) → (vp_in x36 128000 ∧ (∀ x38 : Int32, x38 = X33.2 10 x36.toNatClampNeg → (wx_X12_writeWord x38 X33 (fun (X42 : Xc) => Qx X42))))))))))))))))))))))))
set_option maxHeartbeats 4000000 in
set_option maxRecDepth 100000 in
theorem x_X12_writeRequest {m : Nat} {ad : Nat → Nat} {p1 : Int32} {σ : Sto} {X : Xc} {Q : Sto → Prop} {Qx : Xc → Prop} (hR : RefC m ad σ X) (h : wx_X12_writeRequest p1 X Qx) (hQ : ∀ (σ' : Sto) (X' : Xc), Qx X' → RefC m ad σ' X' → Fi m ad σ σ' → Q σ') : wp_X12_writeRequest m p1 σ Q := by
  have F : Fi m ad σ σ := Fi.rf
  unfold wx_X12_writeRequest at h
  unfold wp_X12_writeRequest
  refine ⟨hR.1.1, ?_⟩
  have a1 : sP σ m 10 = some (ad 10) := hR.P (k := 10) (by decide)
  refine ⟨ad 10, a1, ?_⟩
  refine ⟨hR.K (k := 10) (by decide), ?_⟩
  refine ⟨hR.N (k := 10) (by decide) h.1, ?_⟩
  have h := h.2
  intro x2 e3
  rw [hR.2.2 10 (by decide)] at e3
  have h := h x2 e3
  refine x_X12_write hR h (fun σ5 X6 h hR F7 => ?_)
  have F := F.trans F7
  refine ⟨hR.1.1, ?_⟩
  have a8 : sP σ5 m 10 = some (ad 10) := hR.P (k := 10) (by decide)
  intro x9 e10
  have h := h x9 e10
  refine ⟨ad 10, a8, ?_⟩
  refine ⟨hR.K (k := 10) (by decide), ?_⟩
  refine ⟨hR.N (k := 10) (by decide) h.1, ?_⟩
  have h := h.2
  intro x11 e12
  rw [hR.2.2 10 (by decide)] at e12
  have h := h x11 e12
  refine x_X12_writeNumber hR h (fun σ14 X15 h hR F16 => ?_)
  have F := F.trans F16
  refine ⟨hR.1.1, ?_⟩
  have a17 : sP σ14 m 10 = some (ad 10) := hR.P (k := 10) (by decide)
  intro x18 e19
  have h := h x18 e19
  refine ⟨ad 10, a17, ?_⟩
  refine ⟨hR.K (k := 10) (by decide), ?_⟩
  refine ⟨hR.N (k := 10) (by decide) h.1, ?_⟩
  have h := h.2
  intro x20 e21
  rw [hR.2.2 10 (by decide)] at e21
  have h := h x20 e21
  refine x_X12_write hR h (fun σ23 X24 h hR F25 => ?_)
  have F := F.trans F25
  refine ⟨hR.1.1, ?_⟩
  have a26 : sP σ23 m 10 = some (ad 10) := hR.P (k := 10) (by decide)
  intro x27 e28
  have h := h x27 e28
  refine ⟨ad 10, a26, ?_⟩
  refine ⟨hR.K (k := 10) (by decide), ?_⟩
  refine ⟨hR.N (k := 10) (by decide) h.1, ?_⟩
  have h := h.2
  intro x29 e30
  rw [hR.2.2 10 (by decide)] at e30
  have h := h x29 e30
  refine x_X12_write hR h (fun σ32 X33 h hR F34 => ?_)
  have F := F.trans F34
  refine ⟨hR.1.1, ?_⟩
  have a35 : sP σ32 m 10 = some (ad 10) := hR.P (k := 10) (by decide)
  intro x36 e37
  have h := h x36 e37
  refine ⟨ad 10, a35, ?_⟩
  refine ⟨hR.K (k := 10) (by decide), ?_⟩
  refine ⟨hR.N (k := 10) (by decide) h.1, ?_⟩
  have h := h.2
  intro x38 e39
  rw [hR.2.2 10 (by decide)] at e39
  have h := h x38 e39
  refine x_X12_writeWord hR h (fun σ41 X42 h hR F43 => ?_)
  have F := F.trans F43
  exact hQ _ _ h hR F
def bx_X12_writeLog_56 (Lx19 : Int32 × Int32 × Int32 → Xc → Prop) (Qx : Xc → Prop) (p2 : Int32) (p3 : Int32) (p4 : Int32) (X : Xc) : Prop := (∀ x1 : Int32, x1 = p4 + (1 : Int32) → Lx19 (p2, p3, x1) X)
set_option maxHeartbeats 4000000 in
set_option maxRecDepth 100000 in
theorem xb_X12_writeLog_56 {m : Nat} {ad : Nat → Nat} {σ0 : Sto} {Lx19 : Int32 × Int32 × Int32 → Xc → Prop} {L19 : Int32 × Int32 × Int32 → Sto → Prop} {Q : Sto → Prop} {Qx : Xc → Prop} (hQ : ∀ (σ' : Sto) (X' : Xc), Qx X' → RefC m ad σ' X' → Fi m ad σ0 σ' → Q σ') (hL19 : ∀ (t : Int32 × Int32 × Int32) (σ : Sto) (X : Xc), Lx19 t X → RefC m ad σ X → Fi m ad σ0 σ → L19 t σ) (p2 : Int32) (p3 : Int32) (p4 : Int32) (σ : Sto) (X : Xc) (hR : RefC m ad σ X) (F : Fi m ad σ0 σ) (h : bx_X12_writeLog_56 Lx19 Qx p2 p3 p4 X) : b_X12_writeLog_56 m L19 Q p2 p3 p4 σ := by
  unfold bx_X12_writeLog_56 at h
  unfold b_X12_writeLog_56
  intro x1 e2
  have h := h x1 e2
  exact hL19 _ _ _ h hR F
def fx_X12_writeLog_19 (Qx : Xc → Prop) (Lx19 : Int32 × Int32 × Int32 → Xc → Prop) (t : Int32 × Int32 × Int32) (X : Xc) : Prop := ((t.1 ≤ t.2.2 → Qx X) ∧ (¬ t.1 ≤ t.2.2 → (vp_in t.2.1 128000 ∧ (∀ x3 : Int32, x3 = X.2 10 t.2.1.toNatClampNeg → (∀ x5 : Int32, x5 = t.2.1 + (1 : Int32) → (wx_X12_write x3 X (fun (X9 : Xc) => ((¬ x3 = (1 : Int32) → bx_X12_writeLog_56 Lx19 Qx t.1 x5 t.2.2 X9) ∧ (x3 = (1 : Int32) → (wx_X12_writeRequest x5 X9 (fun (X14 : Xc) => (∀ x16 : Int32, x16 = x5 + (5 : Int32) → bx_X12_writeLog_56 Lx19 Qx t.1 x16 t.2.2 X14))))))))))))
set_option maxHeartbeats 4000000 in
set_option maxRecDepth 100000 in
theorem xf_X12_writeLog_19 {m : Nat} {ad : Nat → Nat} {σ0 : Sto} {Q : Sto → Prop} {Qx : Xc → Prop} {Lx19 : Int32 × Int32 × Int32 → Xc → Prop} {L19 : Int32 × Int32 × Int32 → Sto → Prop} (hQ : ∀ (σ' : Sto) (X' : Xc), Qx X' → RefC m ad σ' X' → Fi m ad σ0 σ' → Q σ') (hL19 : ∀ (t : Int32 × Int32 × Int32) (σ : Sto) (X : Xc), Lx19 t X → RefC m ad σ X → Fi m ad σ0 σ → L19 t σ) : ∀ (t : Int32 × Int32 × Int32) (σ : Sto) (X : Xc), RefC m ad σ X → Fi m ad σ0 σ → fx_X12_writeLog_19  Qx Lx19 t X → f_X12_writeLog_19 m  Q L19 t σ := by
  intro t σ X hR F h
  unfold fx_X12_writeLog_19 at h
  unfold f_X12_writeLog_19
  refine ⟨fun c1 => ?_, fun c1 => ?_⟩
  · have h := h.1 c1
    exact hQ _ _ h hR F
  · have h := h.2 c1
    refine ⟨hR.1.1, ?_⟩
    have a2 : sP σ m 10 = some (ad 10) := hR.P (k := 10) (by decide)
    refine ⟨ad 10, a2, ?_⟩
    refine ⟨hR.K (k := 10) (by decide), ?_⟩
    refine ⟨hR.N (k := 10) (by decide) h.1, ?_⟩
    have h := h.2
    intro x3 e4
    rw [hR.2.2 10 (by decide)] at e4
    have h := h x3 e4
    intro x5 e6
    have h := h x5 e6
    refine x_X12_write hR h (fun σ8 X9 h hR F10 => ?_)
    have F := F.trans F10
    refine ⟨fun c11 => ?_, fun c11 => ?_⟩
    · have h := h.1 c11
      exact xb_X12_writeLog_56 hQ hL19 t.1 x5 t.2.2 _ _ hR F h
    · have h := h.2 c11
      refine ⟨hR.1.1, ?_⟩
      refine x_X12_writeRequest hR h (fun σ13 X14 h hR F15 => ?_)
      have F := F.trans F15
      intro x16 e17
      have h := h x16 e17
      exact xb_X12_writeLog_56 hQ hL19 t.1 x16 t.2.2 _ _ hR F h
def wx_X12_writeLog (p1 : Int32) (X : Xc) (Qx : Xc → Prop) : Prop := (vp_in p1 128000 ∧ (∀ x2 : Int32, x2 = X.2 10 p1.toNatClampNeg → (∀ x4 : Int32, x4 = p1 + (1 : Int32) → (wx_X12_writeNumber x2 X (fun (X8 : Xc) => LFx (fx_X12_writeLog_19  Qx) (x2, x4, (0 : Int32)) X8)))))
set_option maxHeartbeats 4000000 in
set_option maxRecDepth 100000 in
theorem x_X12_writeLog {m : Nat} {ad : Nat → Nat} {p1 : Int32} {σ : Sto} {X : Xc} {Q : Sto → Prop} {Qx : Xc → Prop} (hR : RefC m ad σ X) (h : wx_X12_writeLog p1 X Qx) (hQ : ∀ (σ' : Sto) (X' : Xc), Qx X' → RefC m ad σ' X' → Fi m ad σ σ' → Q σ') : wp_X12_writeLog m p1 σ Q := by
  have F : Fi m ad σ σ := Fi.rf
  unfold wx_X12_writeLog at h
  unfold wp_X12_writeLog
  refine ⟨hR.1.1, ?_⟩
  have a1 : sP σ m 10 = some (ad 10) := hR.P (k := 10) (by decide)
  refine ⟨ad 10, a1, ?_⟩
  refine ⟨hR.K (k := 10) (by decide), ?_⟩
  refine ⟨hR.N (k := 10) (by decide) h.1, ?_⟩
  have h := h.2
  intro x2 e3
  rw [hR.2.2 10 (by decide)] at e3
  have h := h x2 e3
  intro x4 e5
  have h := h x4 e5
  refine x_X12_writeNumber hR h (fun σ7 X8 h hR F9 => ?_)
  have F := F.trans F9
  exact lfx h hR F (fun Lx L hL t σ X hR F h => xf_X12_writeLog_19 hQ  hL t σ X hR F h)
def wx_X12_numbers (p0 : Int32) (X : Xc) (Qx : Int32 → Xc → Prop) : Prop := ((p0.toInt < 0 ∨ 12 < p0.toInt → Qx (3 : Int32) X) ∧ (p0 = (0 : Int32) → Qx (2 : Int32) X) ∧ (p0 = (1 : Int32) → Qx (3 : Int32) X) ∧ (p0 = (2 : Int32) → Qx (3 : Int32) X) ∧ (p0 = (3 : Int32) → Qx (3 : Int32) X) ∧ (p0 = (4 : Int32) → Qx (3 : Int32) X) ∧ (p0 = (5 : Int32) → Qx (2 : Int32) X) ∧ (p0 = (6 : Int32) → Qx (3 : Int32) X) ∧ (p0 = (7 : Int32) → Qx (3 : Int32) X) ∧ (p0 = (8 : Int32) → Qx (2 : Int32) X) ∧ (p0 = (9 : Int32) → Qx (5 : Int32) X) ∧ (p0 = (10 : Int32) → Qx (3 : Int32) X) ∧ (p0 = (11 : Int32) → Qx (4 : Int32) X) ∧ (p0 = (12 : Int32) → Qx (2 : Int32) X))
set_option maxHeartbeats 4000000 in
set_option maxRecDepth 100000 in
theorem x_X12_numbers {m : Nat} {ad : Nat → Nat} {p0 : Int32} {σ : Sto} {X : Xc} {Q : Int32 → Sto → Prop} {Qx : Int32 → Xc → Prop} (hR : RefC m ad σ X) (h : wx_X12_numbers p0 X Qx) (hQ : ∀ (r : Int32) (σ' : Sto) (X' : Xc), Qx r X' → RefC m ad σ' X' → Fi m ad σ σ' → Q r σ') : wp_X12_numbers p0 σ Q := by
  have F : Fi m ad σ σ := Fi.rf
  unfold wx_X12_numbers at h
  unfold wp_X12_numbers
  refine ⟨fun c1 => ?_, fun c1 => ?_, fun c1 => ?_, fun c1 => ?_, fun c1 => ?_, fun c1 => ?_, fun c1 => ?_, fun c1 => ?_, fun c1 => ?_, fun c1 => ?_, fun c1 => ?_, fun c1 => ?_, fun c1 => ?_, fun c1 => ?_⟩
  · have h := h.1 c1
    exact hQ _ _ _ h hR F
  · have h := h.2.1 c1
    exact hQ _ _ _ h hR F
  · have h := h.2.2.1 c1
    exact hQ _ _ _ h hR F
  · have h := h.2.2.2.1 c1
    exact hQ _ _ _ h hR F
  · have h := h.2.2.2.2.1 c1
    exact hQ _ _ _ h hR F
  · have h := h.2.2.2.2.2.1 c1
    exact hQ _ _ _ h hR F
  · have h := h.2.2.2.2.2.2.1 c1
    exact hQ _ _ _ h hR F
  · have h := h.2.2.2.2.2.2.2.1 c1
    exact hQ _ _ _ h hR F
  · have h := h.2.2.2.2.2.2.2.2.1 c1
    exact hQ _ _ _ h hR F
  · have h := h.2.2.2.2.2.2.2.2.2.1 c1
    exact hQ _ _ _ h hR F
  · have h := h.2.2.2.2.2.2.2.2.2.2.1 c1
    exact hQ _ _ _ h hR F
  · have h := h.2.2.2.2.2.2.2.2.2.2.2.1 c1
    exact hQ _ _ _ h hR F
  · have h := h.2.2.2.2.2.2.2.2.2.2.2.2.1 c1
    exact hQ _ _ _ h hR F
  · have h := h.2.2.2.2.2.2.2.2.2.2.2.2.2 c1
    exact hQ _ _ _ h hR F
def bx_X12_hasRequest_9 (Qx : Int32 → Xc → Prop)  (X : Xc) : Prop := Qx (1 : Int32) X
set_option maxHeartbeats 4000000 in
set_option maxRecDepth 100000 in
theorem xb_X12_hasRequest_9 {m : Nat} {ad : Nat → Nat} {σ0 : Sto} {Q : Int32 → Sto → Prop} {Qx : Int32 → Xc → Prop} (hQ : ∀ (r : Int32) (σ' : Sto) (X' : Xc), Qx r X' → RefC m ad σ' X' → Fi m ad σ0 σ' → Q r σ')   (σ : Sto) (X : Xc) (hR : RefC m ad σ X) (F : Fi m ad σ0 σ) (h : bx_X12_hasRequest_9  Qx  X) : b_X12_hasRequest_9  Q  σ := by
  unfold bx_X12_hasRequest_9 at h
  unfold b_X12_hasRequest_9
  exact hQ _ _ _ h hR F
def wx_X12_hasRequest (p0 : Int32) (X : Xc) (Qx : Int32 → Xc → Prop) : Prop := ((p0 = 0 → bx_X12_hasRequest_9  Qx  X) ∧ (¬ p0 = 0 → ((¬ p0 = (2 : Int32) → Qx (0 : Int32) X) ∧ (p0 = (2 : Int32) → bx_X12_hasRequest_9  Qx  X))))
set_option maxHeartbeats 4000000 in
set_option maxRecDepth 100000 in
theorem x_X12_hasRequest {m : Nat} {ad : Nat → Nat} {p0 : Int32} {σ : Sto} {X : Xc} {Q : Int32 → Sto → Prop} {Qx : Int32 → Xc → Prop} (hR : RefC m ad σ X) (h : wx_X12_hasRequest p0 X Qx) (hQ : ∀ (r : Int32) (σ' : Sto) (X' : Xc), Qx r X' → RefC m ad σ' X' → Fi m ad σ σ' → Q r σ') : wp_X12_hasRequest p0 σ Q := by
  have F : Fi m ad σ σ := Fi.rf
  unfold wx_X12_hasRequest at h
  unfold wp_X12_hasRequest
  refine ⟨fun c1 => ?_, fun c1 => ?_⟩
  · have h := h.1 c1
    exact xb_X12_hasRequest_9 hQ   _ _ hR F h
  · have h := h.2 c1
    refine ⟨fun c2 => ?_, fun c2 => ?_⟩
    · have h := h.1 c2
      exact hQ _ _ _ h hR F
    · have h := h.2 c2
      exact xb_X12_hasRequest_9 hQ   _ _ hR F h
def bx_X12_hasLog_17 (Qx : Int32 → Xc → Prop)  (X : Xc) : Prop := Qx (1 : Int32) X
set_option maxHeartbeats 4000000 in
set_option maxRecDepth 100000 in
theorem xb_X12_hasLog_17 {m : Nat} {ad : Nat → Nat} {σ0 : Sto} {Q : Int32 → Sto → Prop} {Qx : Int32 → Xc → Prop} (hQ : ∀ (r : Int32) (σ' : Sto) (X' : Xc), Qx r X' → RefC m ad σ' X' → Fi m ad σ0 σ' → Q r σ')   (σ : Sto) (X : Xc) (hR : RefC m ad σ X) (F : Fi m ad σ0 σ) (h : bx_X12_hasLog_17  Qx  X) : b_X12_hasLog_17  Q  σ := by
  unfold bx_X12_hasLog_17 at h
  unfold b_X12_hasLog_17
  exact hQ _ _ _ h hR F
def wx_X12_hasLog (p0 : Int32) (X : Xc) (Qx : Int32 → Xc → Prop) : Prop := ((p0 = (5 : Int32) → bx_X12_hasLog_17  Qx  X) ∧ (¬ p0 = (5 : Int32) → ((p0 = (9 : Int32) → bx_X12_hasLog_17  Qx  X) ∧ (¬ p0 = (9 : Int32) → ((¬ p0 = (10 : Int32) → Qx (0 : Int32) X) ∧ (p0 = (10 : Int32) → bx_X12_hasLog_17  Qx  X))))))
set_option maxHeartbeats 4000000 in
set_option maxRecDepth 100000 in
theorem x_X12_hasLog {m : Nat} {ad : Nat → Nat} {p0 : Int32} {σ : Sto} {X : Xc} {Q : Int32 → Sto → Prop} {Qx : Int32 → Xc → Prop} (hR : RefC m ad σ X) (h : wx_X12_hasLog p0 X Qx) (hQ : ∀ (r : Int32) (σ' : Sto) (X' : Xc), Qx r X' → RefC m ad σ' X' → Fi m ad σ σ' → Q r σ') : wp_X12_hasLog p0 σ Q := by
  have F : Fi m ad σ σ := Fi.rf
  unfold wx_X12_hasLog at h
  unfold wp_X12_hasLog
  refine ⟨fun c1 => ?_, fun c1 => ?_⟩
  · have h := h.1 c1
    exact xb_X12_hasLog_17 hQ   _ _ hR F h
  · have h := h.2 c1
    refine ⟨fun c2 => ?_, fun c2 => ?_⟩
    · have h := h.1 c2
      exact xb_X12_hasLog_17 hQ   _ _ hR F h
    · have h := h.2 c2
      refine ⟨fun c3 => ?_, fun c3 => ?_⟩
      · have h := h.1 c3
        exact hQ _ _ _ h hR F
      · have h := h.2 c3
        exact xb_X12_hasLog_17 hQ   _ _ hR F h
def bx_X12_wire_185 (Qx : Int32 → Xc → Prop)  (X : Xc) : Prop := (∀ x2 : Int32, x2 = X.1 89 → (wx_X12_sumOf 88 (0 : Int32) x2 X (fun (x4 : Int32) (X6 : Xc) => (wx_X12_writeWord x4 X6 (fun (X10 : Xc) => (∀ x12 : Int32, x12 = X10.1 89 → Qx x12 X10))))))
set_option maxHeartbeats 4000000 in
set_option maxRecDepth 100000 in
theorem xb_X12_wire_185 {m : Nat} {ad : Nat → Nat} {σ0 : Sto} {Q : Int32 → Sto → Prop} {Qx : Int32 → Xc → Prop} (hQ : ∀ (r : Int32) (σ' : Sto) (X' : Xc), Qx r X' → RefC m ad σ' X' → Fi m ad σ0 σ' → Q r σ')   (σ : Sto) (X : Xc) (hR : RefC m ad σ X) (F : Fi m ad σ0 σ) (h : bx_X12_wire_185  Qx  X) : b_X12_wire_185 m  Q  σ := by
  unfold bx_X12_wire_185 at h
  unfold b_X12_wire_185
  refine ⟨hR.1.1, ?_⟩
  have a1 : sP σ m 88 = some (ad 88) := hR.P (k := 88) (by decide)
  intro x2 e3
  rw [hR.2.1 89] at e3
  have h := h x2 e3
  rw [a1]
  refine x_X12_sumOf hR h (fun x4 σ5 X6 h hR F7 => ?_)
  have F := F.trans F7
  refine ⟨hR.1.1, ?_⟩
  refine x_X12_writeWord hR h (fun σ9 X10 h hR F11 => ?_)
  have F := F.trans F11
  refine ⟨hR.1.1, ?_⟩
  intro x12 e13
  rw [hR.2.1 89] at e13
  have h := h x12 e13
  exact hQ _ _ _ h hR F
def bx_X12_wire_144 (Qx : Int32 → Xc → Prop) (p3 : Int32) (p4 : Int32) (X : Xc) : Prop := ((¬ p3 = (11 : Int32) → bx_X12_wire_185  Qx  X) ∧ (p3 = (11 : Int32) → (vp_in p4 128000 ∧ (∀ x3 : Int32, x3 = X.2 10 p4.toNatClampNeg → (wx_X12_write x3 X (fun (X7 : Xc) => (vp_in p4 128000 ∧ (∀ x10 : Int32, x10 = X7.2 10 p4.toNatClampNeg → ((¬ x10 = (1 : Int32) → bx_X12_wire_185  Qx  X7) ∧ (x10 = (1 : Int32) → (∀ x14 : Int32, x14 = p4 + (1 : Int32) → (vp_in x14 128000 ∧ (∀ x16 : Int32, x16 = X7.2 10 x14.toNatClampNeg → (wx_X12_writeWord x16 X7 (fun (X20 : Xc) => bx_X12_wire_185  Qx  X20)))))))))))))))
set_option maxHeartbeats 4000000 in
set_option maxRecDepth 100000 in
theorem xb_X12_wire_144 {m : Nat} {ad : Nat → Nat} {σ0 : Sto} {Q : Int32 → Sto → Prop} {Qx : Int32 → Xc → Prop} (hQ : ∀ (r : Int32) (σ' : Sto) (X' : Xc), Qx r X' → RefC m ad σ' X' → Fi m ad σ0 σ' → Q r σ')  (p3 : Int32) (p4 : Int32) (σ : Sto) (X : Xc) (hR : RefC m ad σ X) (F : Fi m ad σ0 σ) (h : bx_X12_wire_144  Qx p3 p4 X) : b_X12_wire_144 m  Q p3 p4 σ := by
  unfold bx_X12_wire_144 at h
  unfold b_X12_wire_144
  refine ⟨fun c1 => ?_, fun c1 => ?_⟩
  · have h := h.1 c1
    exact xb_X12_wire_185 hQ   _ _ hR F h
  · have h := h.2 c1
    refine ⟨hR.1.1, ?_⟩
    have a2 : sP σ m 10 = some (ad 10) := hR.P (k := 10) (by decide)
    refine ⟨ad 10, a2, ?_⟩
    refine ⟨hR.K (k := 10) (by decide), ?_⟩
    refine ⟨hR.N (k := 10) (by decide) h.1, ?_⟩
    have h := h.2
    intro x3 e4
    rw [hR.2.2 10 (by decide)] at e4
    have h := h x3 e4
    refine x_X12_write hR h (fun σ6 X7 h hR F8 => ?_)
    have F := F.trans F8
    refine ⟨hR.1.1, ?_⟩
    have a9 : sP σ6 m 10 = some (ad 10) := hR.P (k := 10) (by decide)
    refine ⟨ad 10, a9, ?_⟩
    refine ⟨hR.K (k := 10) (by decide), ?_⟩
    refine ⟨hR.N (k := 10) (by decide) h.1, ?_⟩
    have h := h.2
    intro x10 e11
    rw [hR.2.2 10 (by decide)] at e11
    have h := h x10 e11
    refine ⟨fun c12 => ?_, fun c12 => ?_⟩
    · have h := h.1 c12
      exact xb_X12_wire_185 hQ   _ _ hR F h
    · have h := h.2 c12
      have a13 : sP σ6 m 10 = some (ad 10) := hR.P (k := 10) (by decide)
      intro x14 e15
      have h := h x14 e15
      refine ⟨hR.N (k := 10) (by decide) h.1, ?_⟩
      have h := h.2
      intro x16 e17
      rw [hR.2.2 10 (by decide)] at e17
      have h := h x16 e17
      refine x_X12_writeWord hR h (fun σ19 X20 h hR F21 => ?_)
      have F := F.trans F21
      exact xb_X12_wire_185 hQ   _ _ hR F h
def bx_X12_wire_131 (Qx : Int32 → Xc → Prop) (p3 : Int32) (p4 : Int32) (X : Xc) : Prop := (wx_X12_hasLog p3 X (fun (x1 : Int32) (X3 : Xc) => ((x1 = 0 → bx_X12_wire_144  Qx p3 p4 X3) ∧ (¬ x1 = 0 → (wx_X12_writeLog p4 X3 (fun (X8 : Xc) => bx_X12_wire_144  Qx p3 p4 X8))))))
set_option maxHeartbeats 4000000 in
set_option maxRecDepth 100000 in
theorem xb_X12_wire_131 {m : Nat} {ad : Nat → Nat} {σ0 : Sto} {Q : Int32 → Sto → Prop} {Qx : Int32 → Xc → Prop} (hQ : ∀ (r : Int32) (σ' : Sto) (X' : Xc), Qx r X' → RefC m ad σ' X' → Fi m ad σ0 σ' → Q r σ')  (p3 : Int32) (p4 : Int32) (σ : Sto) (X : Xc) (hR : RefC m ad σ X) (F : Fi m ad σ0 σ) (h : bx_X12_wire_131  Qx p3 p4 X) : b_X12_wire_131 m  Q p3 p4 σ := by
  unfold bx_X12_wire_131 at h
  unfold b_X12_wire_131
  refine x_X12_hasLog hR h (fun x1 σ2 X3 h hR F4 => ?_)
  have F := F.trans F4
  refine ⟨fun c5 => ?_, fun c5 => ?_⟩
  · have h := h.1 c5
    exact xb_X12_wire_144 hQ  p3 p4 _ _ hR F h
  · have h := h.2 c5
    refine ⟨hR.1.1, ?_⟩
    refine x_X12_writeLog hR h (fun σ7 X8 h hR F9 => ?_)
    have F := F.trans F9
    exact xb_X12_wire_144 hQ  p3 p4 _ _ hR F h
def fx_X12_wire_80 (Qx : Int32 → Xc → Prop) (Lx80 : Int32 × Int32 × Int32 → Xc → Prop) (t : Int32 × Int32 × Int32) (X : Xc) : Prop := (wx_X12_numbers t.1 X (fun (x1 : Int32) (X3 : Xc) => ((x1 ≤ t.2.2 → (wx_X12_numbers t.1 X3 (fun (x6 : Int32) (X8 : Xc) => (∀ x10 : Int32, x10 = t.2.1 + x6 → (wx_X12_hasRequest t.1 X8 (fun (x12 : Int32) (X14 : Xc) => ((x12 = 0 → bx_X12_wire_131  Qx t.1 x10 X14) ∧ (¬ x12 = 0 → (wx_X12_writeRequest x10 X14 (fun (X19 : Xc) => bx_X12_wire_131  Qx t.1 x10 X19)))))))))) ∧ (¬ x1 ≤ t.2.2 → (∀ x22 : Int32, x22 = t.2.1 + t.2.2 → (vp_in x22 128000 ∧ (∀ x24 : Int32, x24 = X3.2 10 x22.toNatClampNeg → (wx_X12_writeNumber x24 X3 (fun (X28 : Xc) => (∀ x30 : Int32, x30 = t.2.2 + (1 : Int32) → Lx80 (t.1, t.2.1, x30) X28))))))))))
set_option maxHeartbeats 4000000 in
set_option maxRecDepth 100000 in
theorem xf_X12_wire_80 {m : Nat} {ad : Nat → Nat} {σ0 : Sto} {Q : Int32 → Sto → Prop} {Qx : Int32 → Xc → Prop} {Lx80 : Int32 × Int32 × Int32 → Xc → Prop} {L80 : Int32 × Int32 × Int32 → Sto → Prop} (hQ : ∀ (r : Int32) (σ' : Sto) (X' : Xc), Qx r X' → RefC m ad σ' X' → Fi m ad σ0 σ' → Q r σ') (hL80 : ∀ (t : Int32 × Int32 × Int32) (σ : Sto) (X : Xc), Lx80 t X → RefC m ad σ X → Fi m ad σ0 σ → L80 t σ) : ∀ (t : Int32 × Int32 × Int32) (σ : Sto) (X : Xc), RefC m ad σ X → Fi m ad σ0 σ → fx_X12_wire_80  Qx Lx80 t X → f_X12_wire_80 m  Q L80 t σ := by
  intro t σ X hR F h
  unfold fx_X12_wire_80 at h
  unfold f_X12_wire_80
  refine x_X12_numbers hR h (fun x1 σ2 X3 h hR F4 => ?_)
  have F := F.trans F4
  refine ⟨fun c5 => ?_, fun c5 => ?_⟩
  · have h := h.1 c5
    refine x_X12_numbers hR h (fun x6 σ7 X8 h hR F9 => ?_)
    have F := F.trans F9
    intro x10 e11
    have h := h x10 e11
    refine x_X12_hasRequest hR h (fun x12 σ13 X14 h hR F15 => ?_)
    have F := F.trans F15
    refine ⟨fun c16 => ?_, fun c16 => ?_⟩
    · have h := h.1 c16
      exact xb_X12_wire_131 hQ  t.1 x10 _ _ hR F h
    · have h := h.2 c16
      refine ⟨hR.1.1, ?_⟩
      refine x_X12_writeRequest hR h (fun σ18 X19 h hR F20 => ?_)
      have F := F.trans F20
      exact xb_X12_wire_131 hQ  t.1 x10 _ _ hR F h
  · have h := h.2 c5
    refine ⟨hR.1.1, ?_⟩
    have a21 : sP σ2 m 10 = some (ad 10) := hR.P (k := 10) (by decide)
    intro x22 e23
    have h := h x22 e23
    refine ⟨ad 10, a21, ?_⟩
    refine ⟨hR.K (k := 10) (by decide), ?_⟩
    refine ⟨hR.N (k := 10) (by decide) h.1, ?_⟩
    have h := h.2
    intro x24 e25
    rw [hR.2.2 10 (by decide)] at e25
    have h := h x24 e25
    refine x_X12_writeNumber hR h (fun σ27 X28 h hR F29 => ?_)
    have F := F.trans F29
    intro x30 e31
    have h := h x30 e31
    exact hL80 _ _ _ h hR F
def fx_X12_wire_47 (Qx : Int32 → Xc → Prop) (Lx47 : Int32 × Int32 × Int32 → Xc → Prop) (t : Int32 × Int32 × Int32) (X : Xc) : Prop := (((3 : Int32) ≤ t.2.2 → (∀ x2 : Int32, x2 = t.1 + (3 : Int32) → LFx (fx_X12_wire_80  Qx) (t.2.1, x2, (0 : Int32)) X)) ∧ (¬ (3 : Int32) ≤ t.2.2 → (∀ x5 : Int32, x5 = t.1 + t.2.2 → (vp_in x5 128000 ∧ (∀ x7 : Int32, x7 = X.2 10 x5.toNatClampNeg → (wx_X12_write x7 X (fun (X11 : Xc) => (∀ x13 : Int32, x13 = t.2.2 + (1 : Int32) → Lx47 (t.1, t.2.1, x13) X11))))))))
set_option maxHeartbeats 4000000 in
set_option maxRecDepth 100000 in
theorem xf_X12_wire_47 {m : Nat} {ad : Nat → Nat} {σ0 : Sto} {Q : Int32 → Sto → Prop} {Qx : Int32 → Xc → Prop} {Lx47 : Int32 × Int32 × Int32 → Xc → Prop} {L47 : Int32 × Int32 × Int32 → Sto → Prop} (hQ : ∀ (r : Int32) (σ' : Sto) (X' : Xc), Qx r X' → RefC m ad σ' X' → Fi m ad σ0 σ' → Q r σ') (hL47 : ∀ (t : Int32 × Int32 × Int32) (σ : Sto) (X : Xc), Lx47 t X → RefC m ad σ X → Fi m ad σ0 σ → L47 t σ) : ∀ (t : Int32 × Int32 × Int32) (σ : Sto) (X : Xc), RefC m ad σ X → Fi m ad σ0 σ → fx_X12_wire_47  Qx Lx47 t X → f_X12_wire_47 m  Q L47 t σ := by
  intro t σ X hR F h
  unfold fx_X12_wire_47 at h
  unfold f_X12_wire_47
  refine ⟨fun c1 => ?_, fun c1 => ?_⟩
  · have h := h.1 c1
    intro x2 e3
    have h := h x2 e3
    exact lfx h hR F (fun Lx L hL t σ X hR F h => xf_X12_wire_80 hQ  hL t σ X hR F h)
  · have h := h.2 c1
    refine ⟨hR.1.1, ?_⟩
    have a4 : sP σ m 10 = some (ad 10) := hR.P (k := 10) (by decide)
    intro x5 e6
    have h := h x5 e6
    refine ⟨ad 10, a4, ?_⟩
    refine ⟨hR.K (k := 10) (by decide), ?_⟩
    refine ⟨hR.N (k := 10) (by decide) h.1, ?_⟩
    have h := h.2
    intro x7 e8
    rw [hR.2.2 10 (by decide)] at e8
    have h := h x7 e8
    refine x_X12_write hR h (fun σ10 X11 h hR F12 => ?_)
    have F := F.trans F12
    intro x13 e14
    have h := h x13 e14
    exact hL47 _ _ _ h hR F
def wx_X12_wire (p1 : Int32) (X : Xc) (Qx : Int32 → Xc → Prop) : Prop := (∀ x1 : Int32, x1 = (xS X 0 (0 : Int32)).1 6 → (wx_X12_in p1 (0 : Int32) (x1 - (1 : Int32)) (xS X 0 (0 : Int32)) (fun (x3 : Int32) (X5 : Xc) => ((¬ x3 = 0 → (vp_in p1 200 ∧ (∀ x9 : Int32, x9 = X5.2 5 p1.toNatClampNeg → (∀ x11 : Int32, x11 = (640 : Int32) * x9 → (vp_in x11 128000 ∧ (∀ x14 : Int32, x14 = X5.2 10 x11.toNatClampNeg → LFx (fx_X12_wire_47  Qx) (x11, x14, (0 : Int32)) (xS X5 89 (0 : Int32)))))))) ∧ (x3 = 0 → Qx (-1 : Int32) X5)))))
set_option maxHeartbeats 4000000 in
set_option maxRecDepth 100000 in
theorem x_X12_wire {m : Nat} {ad : Nat → Nat} {p1 : Int32} {σ : Sto} {X : Xc} {Q : Int32 → Sto → Prop} {Qx : Int32 → Xc → Prop} (hR : RefC m ad σ X) (h : wx_X12_wire p1 X Qx) (hQ : ∀ (r : Int32) (σ' : Sto) (X' : Xc), Qx r X' → RefC m ad σ' X' → Fi m ad σ σ' → Q r σ') : wp_X12_wire m p1 σ Q := by
  have F : Fi m ad σ σ := Fi.rf
  unfold wx_X12_wire at h
  unfold wp_X12_wire
  refine ⟨hR.1.1, ?_⟩
  have F := F.S (k := 0) (v := (0 : Int32))
  have hR := hR.S (k := 0) (v := (0 : Int32))
  intro x1 e2
  rw [hR.2.1 6] at e2
  have h := h x1 e2
  refine x_X12_in hR h (fun x3 σ4 X5 h hR F6 => ?_)
  have F := F.trans F6
  refine ⟨fun c7 => ?_, fun c7 => ?_⟩
  · have h := h.1 c7
    refine ⟨hR.1.1, ?_⟩
    have a8 : sP σ4 m 5 = some (ad 5) := hR.P (k := 5) (by decide)
    refine ⟨ad 5, a8, ?_⟩
    refine ⟨hR.K (k := 5) (by decide), ?_⟩
    refine ⟨hR.N (k := 5) (by decide) h.1, ?_⟩
    have h := h.2
    intro x9 e10
    rw [hR.2.2 5 (by decide)] at e10
    have h := h x9 e10
    intro x11 e12
    have h := h x11 e12
    have a13 : sP σ4 m 10 = some (ad 10) := hR.P (k := 10) (by decide)
    refine ⟨ad 10, a13, ?_⟩
    refine ⟨hR.K (k := 10) (by decide), ?_⟩
    refine ⟨hR.N (k := 10) (by decide) h.1, ?_⟩
    have h := h.2
    intro x14 e15
    rw [hR.2.2 10 (by decide)] at e15
    have h := h x14 e15
    have F := F.S (k := 89) (v := (0 : Int32))
    have hR := hR.S (k := 89) (v := (0 : Int32))
    exact lfx h hR F (fun Lx L hL t σ X hR F h => xf_X12_wire_47 hQ  hL t σ X hR F h)
  · have h := h.2 c7
    exact hQ _ _ _ h hR F
def fx_X12_endBlock_0 (Qx : Xc → Prop) (Lx0 : Int32 → Xc → Prop) (t : Int32) (X : Xc) : Prop := (∀ x1 : Int32, x1 = X.1 89 → (((((512 : Int32) * (t + (1 : Int32))) - (4 : Int32)) ≤ x1 → (∀ x5 : Int32, x5 = X.1 89 → (wx_X12_sumOf 88 ((512 : Int32) * t) x5 X (fun (x7 : Int32) (X9 : Xc) => (wx_X12_writeWord x7 X9 (fun (X13 : Xc) => Qx X13)))))) ∧ (¬ (((512 : Int32) * (t + (1 : Int32))) - (4 : Int32)) ≤ x1 → (wx_X12_write (0 : Int32) X (fun (X17 : Xc) => Lx0 (t) X17)))))
set_option maxHeartbeats 4000000 in
set_option maxRecDepth 100000 in
theorem xf_X12_endBlock_0 {m : Nat} {ad : Nat → Nat} {σ0 : Sto} {Q : Sto → Prop} {Qx : Xc → Prop} {Lx0 : Int32 → Xc → Prop} {L0 : Int32 → Sto → Prop} (hQ : ∀ (σ' : Sto) (X' : Xc), Qx X' → RefC m ad σ' X' → Fi m ad σ0 σ' → Q σ') (hL0 : ∀ (t : Int32) (σ : Sto) (X : Xc), Lx0 t X → RefC m ad σ X → Fi m ad σ0 σ → L0 t σ) : ∀ (t : Int32) (σ : Sto) (X : Xc), RefC m ad σ X → Fi m ad σ0 σ → fx_X12_endBlock_0  Qx Lx0 t X → f_X12_endBlock_0 m  Q L0 t σ := by
  intro t σ X hR F h
  unfold fx_X12_endBlock_0 at h
  unfold f_X12_endBlock_0
  refine ⟨hR.1.1, ?_⟩
  intro x1 e2
  rw [hR.2.1 89] at e2
  have h := h x1 e2
  refine ⟨fun c3 => ?_, fun c3 => ?_⟩
  · have h := h.1 c3
    have a4 : sP σ m 88 = some (ad 88) := hR.P (k := 88) (by decide)
    intro x5 e6
    rw [hR.2.1 89] at e6
    have h := h x5 e6
    rw [a4]
    refine x_X12_sumOf hR h (fun x7 σ8 X9 h hR F10 => ?_)
    have F := F.trans F10
    refine ⟨hR.1.1, ?_⟩
    refine x_X12_writeWord hR h (fun σ12 X13 h hR F14 => ?_)
    have F := F.trans F14
    exact hQ _ _ h hR F
  · have h := h.2 c3
    refine x_X12_write hR h (fun σ16 X17 h hR F18 => ?_)
    have F := F.trans F18
    exact hL0 _ _ _ h hR F
def wx_X12_endBlock (p1 : Int32) (X : Xc) (Qx : Xc → Prop) : Prop := LFx (fx_X12_endBlock_0  Qx) (p1) X
set_option maxHeartbeats 4000000 in
set_option maxRecDepth 100000 in
theorem x_X12_endBlock {m : Nat} {ad : Nat → Nat} {p1 : Int32} {σ : Sto} {X : Xc} {Q : Sto → Prop} {Qx : Xc → Prop} (hR : RefC m ad σ X) (h : wx_X12_endBlock p1 X Qx) (hQ : ∀ (σ' : Sto) (X' : Xc), Qx X' → RefC m ad σ' X' → Fi m ad σ σ' → Q σ') : wp_X12_endBlock m p1 σ Q := by
  have F : Fi m ad σ σ := Fi.rf
  unfold wx_X12_endBlock at h
  unfold wp_X12_endBlock
  exact lfx h hR F (fun Lx L hL t σ X hR F h => xf_X12_endBlock_0 hQ  hL t σ X hR F h)
def bx_X12_writeEntry_119 (Qx : Xc → Prop) (s0 : Int32) (X : Xc) : Prop := (wx_X12_writeWord s0 X (fun (X3 : Xc) => (wx_X12_writeWord (0 : Int32) X3 (fun (X7 : Xc) => Qx X7))))
set_option maxHeartbeats 4000000 in
set_option maxRecDepth 100000 in
theorem xb_X12_writeEntry_119 {m : Nat} {ad : Nat → Nat} {σ0 : Sto} {Q : Sto → Prop} {Qx : Xc → Prop} (hQ : ∀ (σ' : Sto) (X' : Xc), Qx X' → RefC m ad σ' X' → Fi m ad σ0 σ' → Q σ')  (s0 : Int32) (σ : Sto) (X : Xc) (hR : RefC m ad σ X) (F : Fi m ad σ0 σ) (h : bx_X12_writeEntry_119  Qx s0 X) : b_X12_writeEntry_119 m  Q s0 m σ := by
  unfold bx_X12_writeEntry_119 at h
  unfold b_X12_writeEntry_119
  refine ⟨hR.1.1, ?_⟩
  refine x_X12_writeWord hR h (fun σ2 X3 h hR F4 => ?_)
  have F := F.trans F4
  refine ⟨hR.1.1, ?_⟩
  refine x_X12_writeWord hR h (fun σ6 X7 h hR F8 => ?_)
  have F := F.trans F8
  exact hQ _ _ h hR F
def bx_X12_writeEntry_101 (Qx : Xc → Prop) (p1 : Int32) (p3 : Int32) (s0 : Int32) (X : Xc) : Prop := (wx_X12_writeWord s0 X (fun (X3 : Xc) => ((p3 = 0 → bx_X12_writeEntry_119  Qx (0 : Int32) X3) ∧ (¬ p3 = 0 → (vp_in p1 700 ∧ (∀ x7 : Int32, x7 = X3.2 35 p1.toNatClampNeg → bx_X12_writeEntry_119  Qx x7 X3))))))
set_option maxHeartbeats 4000000 in
set_option maxRecDepth 100000 in
theorem xb_X12_writeEntry_101 {m : Nat} {ad : Nat → Nat} {σ0 : Sto} {Q : Sto → Prop} {Qx : Xc → Prop} (hQ : ∀ (σ' : Sto) (X' : Xc), Qx X' → RefC m ad σ' X' → Fi m ad σ0 σ' → Q σ')  (p1 : Int32) (p3 : Int32) (s0 : Int32) (σ : Sto) (X : Xc) (hR : RefC m ad σ X) (F : Fi m ad σ0 σ) (h : bx_X12_writeEntry_101  Qx p1 p3 s0 X) : b_X12_writeEntry_101 m  Q p1 p3 s0 m σ := by
  unfold bx_X12_writeEntry_101 at h
  unfold b_X12_writeEntry_101
  refine ⟨hR.1.1, ?_⟩
  refine x_X12_writeWord hR h (fun σ2 X3 h hR F4 => ?_)
  have F := F.trans F4
  refine ⟨fun c5 => ?_, fun c5 => ?_⟩
  · have h := h.1 c5
    exact xb_X12_writeEntry_119 hQ  (0 : Int32) _ _ hR F h
  · have h := h.2 c5
    refine ⟨hR.1.1, ?_⟩
    have a6 : sP σ2 m 35 = some (ad 35) := hR.P (k := 35) (by decide)
    refine ⟨ad 35, a6, ?_⟩
    refine ⟨hR.K (k := 35) (by decide), ?_⟩
    refine ⟨hR.N (k := 35) (by decide) h.1, ?_⟩
    have h := h.2
    intro x7 e8
    rw [hR.2.2 35 (by decide)] at e8
    have h := h x7 e8
    exact xb_X12_writeEntry_119 hQ  x7 _ _ hR F h
def bx_X12_writeEntry_83 (Qx : Xc → Prop) (p1 : Int32) (p3 : Int32) (s0 : Int32) (X : Xc) : Prop := (wx_X12_write s0 X (fun (X3 : Xc) => ((p3 = 0 → bx_X12_writeEntry_101  Qx p1 p3 (0 : Int32) X3) ∧ (¬ p3 = 0 → (vp_in p1 700 ∧ (∀ x7 : Int32, x7 = X3.2 32 p1.toNatClampNeg → bx_X12_writeEntry_101  Qx p1 p3 x7 X3))))))
set_option maxHeartbeats 4000000 in
set_option maxRecDepth 100000 in
theorem xb_X12_writeEntry_83 {m : Nat} {ad : Nat → Nat} {σ0 : Sto} {Q : Sto → Prop} {Qx : Xc → Prop} (hQ : ∀ (σ' : Sto) (X' : Xc), Qx X' → RefC m ad σ' X' → Fi m ad σ0 σ' → Q σ')  (p1 : Int32) (p3 : Int32) (s0 : Int32) (σ : Sto) (X : Xc) (hR : RefC m ad σ X) (F : Fi m ad σ0 σ) (h : bx_X12_writeEntry_83  Qx p1 p3 s0 X) : b_X12_writeEntry_83 m  Q p1 p3 s0 m σ := by
  unfold bx_X12_writeEntry_83 at h
  unfold b_X12_writeEntry_83
  refine ⟨hR.1.1, ?_⟩
  refine x_X12_write hR h (fun σ2 X3 h hR F4 => ?_)
  have F := F.trans F4
  refine ⟨fun c5 => ?_, fun c5 => ?_⟩
  · have h := h.1 c5
    exact xb_X12_writeEntry_101 hQ  p1 p3 (0 : Int32) _ _ hR F h
  · have h := h.2 c5
    refine ⟨hR.1.1, ?_⟩
    have a6 : sP σ2 m 32 = some (ad 32) := hR.P (k := 32) (by decide)
    refine ⟨ad 32, a6, ?_⟩
    refine ⟨hR.K (k := 32) (by decide), ?_⟩
    refine ⟨hR.N (k := 32) (by decide) h.1, ?_⟩
    have h := h.2
    intro x7 e8
    rw [hR.2.2 32 (by decide)] at e8
    have h := h x7 e8
    exact xb_X12_writeEntry_101 hQ  p1 p3 x7 _ _ hR F h
def bx_X12_writeEntry_65 (Qx : Xc → Prop) (p1 : Int32) (p3 : Int32) (s0 : Int32) (X : Xc) : Prop := (wx_X12_write s0 X (fun (X3 : Xc) => ((p3 = 0 → bx_X12_writeEntry_83  Qx p1 p3 (0 : Int32) X3) ∧ (¬ p3 = 0 → (vp_in p1 700 ∧ (∀ x7 : Int32, x7 = X3.2 34 p1.toNatClampNeg → bx_X12_writeEntry_83  Qx p1 p3 x7 X3))))))
set_option maxHeartbeats 4000000 in
set_option maxRecDepth 100000 in
theorem xb_X12_writeEntry_65 {m : Nat} {ad : Nat → Nat} {σ0 : Sto} {Q : Sto → Prop} {Qx : Xc → Prop} (hQ : ∀ (σ' : Sto) (X' : Xc), Qx X' → RefC m ad σ' X' → Fi m ad σ0 σ' → Q σ')  (p1 : Int32) (p3 : Int32) (s0 : Int32) (σ : Sto) (X : Xc) (hR : RefC m ad σ X) (F : Fi m ad σ0 σ) (h : bx_X12_writeEntry_65  Qx p1 p3 s0 X) : b_X12_writeEntry_65 m  Q p1 p3 s0 m σ := by
  unfold bx_X12_writeEntry_65 at h
  unfold b_X12_writeEntry_65
  refine ⟨hR.1.1, ?_⟩
  refine x_X12_write hR h (fun σ2 X3 h hR F4 => ?_)
  have F := F.trans F4
  refine ⟨fun c5 => ?_, fun c5 => ?_⟩
  · have h := h.1 c5
    exact xb_X12_writeEntry_83 hQ  p1 p3 (0 : Int32) _ _ hR F h
  · have h := h.2 c5
    refine ⟨hR.1.1, ?_⟩
    have a6 : sP σ2 m 34 = some (ad 34) := hR.P (k := 34) (by decide)
    refine ⟨ad 34, a6, ?_⟩
    refine ⟨hR.K (k := 34) (by decide), ?_⟩
    refine ⟨hR.N (k := 34) (by decide) h.1, ?_⟩
    have h := h.2
    intro x7 e8
    rw [hR.2.2 34 (by decide)] at e8
    have h := h x7 e8
    exact xb_X12_writeEntry_83 hQ  p1 p3 x7 _ _ hR F h
def bx_X12_writeEntry_47 (Qx : Xc → Prop) (p1 : Int32) (p3 : Int32) (s0 : Int32) (X : Xc) : Prop := (wx_X12_write s0 X (fun (X3 : Xc) => ((p3 = 0 → bx_X12_writeEntry_65  Qx p1 p3 (0 : Int32) X3) ∧ (¬ p3 = 0 → (vp_in p1 700 ∧ (∀ x7 : Int32, x7 = X3.2 33 p1.toNatClampNeg → bx_X12_writeEntry_65  Qx p1 p3 x7 X3))))))
set_option maxHeartbeats 4000000 in
set_option maxRecDepth 100000 in
theorem xb_X12_writeEntry_47 {m : Nat} {ad : Nat → Nat} {σ0 : Sto} {Q : Sto → Prop} {Qx : Xc → Prop} (hQ : ∀ (σ' : Sto) (X' : Xc), Qx X' → RefC m ad σ' X' → Fi m ad σ0 σ' → Q σ')  (p1 : Int32) (p3 : Int32) (s0 : Int32) (σ : Sto) (X : Xc) (hR : RefC m ad σ X) (F : Fi m ad σ0 σ) (h : bx_X12_writeEntry_47  Qx p1 p3 s0 X) : b_X12_writeEntry_47 m  Q p1 p3 s0 m σ := by
  unfold bx_X12_writeEntry_47 at h
  unfold b_X12_writeEntry_47
  refine ⟨hR.1.1, ?_⟩
  refine x_X12_write hR h (fun σ2 X3 h hR F4 => ?_)
  have F := F.trans F4
  refine ⟨fun c5 => ?_, fun c5 => ?_⟩
  · have h := h.1 c5
    exact xb_X12_writeEntry_65 hQ  p1 p3 (0 : Int32) _ _ hR F h
  · have h := h.2 c5
    refine ⟨hR.1.1, ?_⟩
    have a6 : sP σ2 m 33 = some (ad 33) := hR.P (k := 33) (by decide)
    refine ⟨ad 33, a6, ?_⟩
    refine ⟨hR.K (k := 33) (by decide), ?_⟩
    refine ⟨hR.N (k := 33) (by decide) h.1, ?_⟩
    have h := h.2
    intro x7 e8
    rw [hR.2.2 33 (by decide)] at e8
    have h := h x7 e8
    exact xb_X12_writeEntry_65 hQ  p1 p3 x7 _ _ hR F h
def bx_X12_writeEntry_29 (Qx : Xc → Prop) (p1 : Int32) (p3 : Int32) (s0 : Int32) (X : Xc) : Prop := (wx_X12_write s0 X (fun (X3 : Xc) => ((p3 = 0 → bx_X12_writeEntry_47  Qx p1 p3 (0 : Int32) X3) ∧ (¬ p3 = 0 → (vp_in p1 700 ∧ (∀ x7 : Int32, x7 = X3.2 31 p1.toNatClampNeg → bx_X12_writeEntry_47  Qx p1 p3 x7 X3))))))
set_option maxHeartbeats 4000000 in
set_option maxRecDepth 100000 in
theorem xb_X12_writeEntry_29 {m : Nat} {ad : Nat → Nat} {σ0 : Sto} {Q : Sto → Prop} {Qx : Xc → Prop} (hQ : ∀ (σ' : Sto) (X' : Xc), Qx X' → RefC m ad σ' X' → Fi m ad σ0 σ' → Q σ')  (p1 : Int32) (p3 : Int32) (s0 : Int32) (σ : Sto) (X : Xc) (hR : RefC m ad σ X) (F : Fi m ad σ0 σ) (h : bx_X12_writeEntry_29  Qx p1 p3 s0 X) : b_X12_writeEntry_29 m  Q p1 p3 s0 m σ := by
  unfold bx_X12_writeEntry_29 at h
  unfold b_X12_writeEntry_29
  refine ⟨hR.1.1, ?_⟩
  refine x_X12_write hR h (fun σ2 X3 h hR F4 => ?_)
  have F := F.trans F4
  refine ⟨fun c5 => ?_, fun c5 => ?_⟩
  · have h := h.1 c5
    exact xb_X12_writeEntry_47 hQ  p1 p3 (0 : Int32) _ _ hR F h
  · have h := h.2 c5
    refine ⟨hR.1.1, ?_⟩
    have a6 : sP σ2 m 31 = some (ad 31) := hR.P (k := 31) (by decide)
    refine ⟨ad 31, a6, ?_⟩
    refine ⟨hR.K (k := 31) (by decide), ?_⟩
    refine ⟨hR.N (k := 31) (by decide) h.1, ?_⟩
    have h := h.2
    intro x7 e8
    rw [hR.2.2 31 (by decide)] at e8
    have h := h x7 e8
    exact xb_X12_writeEntry_47 hQ  p1 p3 x7 _ _ hR F h
def bx_X12_writeEntry_18 (Qx : Xc → Prop) (p1 : Int32) (s0 : Int32) (X : Xc) : Prop := ((s0 = 0 → bx_X12_writeEntry_29  Qx p1 s0 (0 : Int32) X) ∧ (¬ s0 = 0 → bx_X12_writeEntry_29  Qx p1 s0 (1 : Int32) X))
set_option maxHeartbeats 4000000 in
set_option maxRecDepth 100000 in
theorem xb_X12_writeEntry_18 {m : Nat} {ad : Nat → Nat} {σ0 : Sto} {Q : Sto → Prop} {Qx : Xc → Prop} (hQ : ∀ (σ' : Sto) (X' : Xc), Qx X' → RefC m ad σ' X' → Fi m ad σ0 σ' → Q σ')  (p1 : Int32) (s0 : Int32) (σ : Sto) (X : Xc) (hR : RefC m ad σ X) (F : Fi m ad σ0 σ) (h : bx_X12_writeEntry_18  Qx p1 s0 X) : b_X12_writeEntry_18 m  Q p1 s0 σ := by
  unfold bx_X12_writeEntry_18 at h
  unfold b_X12_writeEntry_18
  refine ⟨fun c1 => ?_, fun c1 => ?_⟩
  · have h := h.1 c1
    exact xb_X12_writeEntry_29 hQ  p1 s0 (0 : Int32) _ _ hR F h
  · have h := h.2 c1
    exact xb_X12_writeEntry_29 hQ  p1 s0 (1 : Int32) _ _ hR F h
def bx_X12_writeEntry_17 (Qx : Xc → Prop) (p1 : Int32) (X : Xc) : Prop := bx_X12_writeEntry_18  Qx p1 (0 : Int32) X
set_option maxHeartbeats 4000000 in
set_option maxRecDepth 100000 in
theorem xb_X12_writeEntry_17 {m : Nat} {ad : Nat → Nat} {σ0 : Sto} {Q : Sto → Prop} {Qx : Xc → Prop} (hQ : ∀ (σ' : Sto) (X' : Xc), Qx X' → RefC m ad σ' X' → Fi m ad σ0 σ' → Q σ')  (p1 : Int32) (σ : Sto) (X : Xc) (hR : RefC m ad σ X) (F : Fi m ad σ0 σ) (h : bx_X12_writeEntry_17  Qx p1 X) : b_X12_writeEntry_17 m  Q p1 σ := by
  unfold bx_X12_writeEntry_17 at h
  unfold b_X12_writeEntry_17
  exact xb_X12_writeEntry_18 hQ  p1 (0 : Int32) _ _ hR F h
def wx_X12_writeEntry (p1 : Int32) (p2 : Int32) (X : Xc) (Qx : Xc → Prop) : Prop := ((p2 = 0 → bx_X12_writeEntry_17  Qx p1 X) ∧ (¬ p2 = 0 → (vp_in p1 700 ∧ (∀ x3 : Int32, x3 = X.2 30 p1.toNatClampNeg → ((x3 = 0 → bx_X12_writeEntry_17  Qx p1 X) ∧ (¬ x3 = 0 → bx_X12_writeEntry_18  Qx p1 (1 : Int32) X))))))
set_option maxHeartbeats 4000000 in
set_option maxRecDepth 100000 in
theorem x_X12_writeEntry {m : Nat} {ad : Nat → Nat} {p1 : Int32} {p2 : Int32} {σ : Sto} {X : Xc} {Q : Sto → Prop} {Qx : Xc → Prop} (hR : RefC m ad σ X) (h : wx_X12_writeEntry p1 p2 X Qx) (hQ : ∀ (σ' : Sto) (X' : Xc), Qx X' → RefC m ad σ' X' → Fi m ad σ σ' → Q σ') : wp_X12_writeEntry m p1 p2 σ Q := by
  have F : Fi m ad σ σ := Fi.rf
  unfold wx_X12_writeEntry at h
  unfold wp_X12_writeEntry
  refine ⟨fun c1 => ?_, fun c1 => ?_⟩
  · have h := h.1 c1
    exact xb_X12_writeEntry_17 hQ  p1 _ _ hR F h
  · have h := h.2 c1
    refine ⟨hR.1.1, ?_⟩
    have a2 : sP σ m 30 = some (ad 30) := hR.P (k := 30) (by decide)
    refine ⟨ad 30, a2, ?_⟩
    refine ⟨hR.K (k := 30) (by decide), ?_⟩
    refine ⟨hR.N (k := 30) (by decide) h.1, ?_⟩
    have h := h.2
    intro x3 e4
    rw [hR.2.2 30 (by decide)] at e4
    have h := h x3 e4
    refine ⟨fun c5 => ?_, fun c5 => ?_⟩
    · have h := h.1 c5
      exact xb_X12_writeEntry_17 hQ  p1 _ _ hR F h
    · have h := h.2 c5
      exact xb_X12_writeEntry_18 hQ  p1 (1 : Int32) _ _ hR F h
def bx_X12_image_209 (Lx167 : Int32 × Int32 → Xc → Prop) (Lx179 : Int32 × Int32 × Int32 → Xc → Prop) (Qx : Int32 → Xc → Prop) (p1 : Int32) (p2 : Int32) (p3 : Int32) (s0 : Int32) (s1 : Int32) (X : Xc) : Prop := (wx_X12_writeEntry s1 s0 X (fun (X3 : Xc) => (∀ x5 : Int32, x5 = p3 + (1 : Int32) → Lx179 (p1, p2, x5) X3)))
set_option maxHeartbeats 4000000 in
set_option maxRecDepth 100000 in
theorem xb_X12_image_209 {m : Nat} {ad : Nat → Nat} {σ0 : Sto} {Lx167 : Int32 × Int32 → Xc → Prop} {L167 : Int32 × Int32 → Sto → Prop} {Lx179 : Int32 × Int32 × Int32 → Xc → Prop} {L179 : Int32 × Int32 × Int32 → Sto → Prop} {Q : Int32 → Sto → Prop} {Qx : Int32 → Xc → Prop} (hQ : ∀ (r : Int32) (σ' : Sto) (X' : Xc), Qx r X' → RefC m ad σ' X' → Fi m ad σ0 σ' → Q r σ') (hL167 : ∀ (t : Int32 × Int32) (σ : Sto) (X : Xc), Lx167 t X → RefC m ad σ X → Fi m ad σ0 σ → L167 t σ) (hL179 : ∀ (t : Int32 × Int32 × Int32) (σ : Sto) (X : Xc), Lx179 t X → RefC m ad σ X → Fi m ad σ0 σ → L179 t σ) (p1 : Int32) (p2 : Int32) (p3 : Int32) (s0 : Int32) (s1 : Int32) (σ : Sto) (X : Xc) (hR : RefC m ad σ X) (F : Fi m ad σ0 σ) (h : bx_X12_image_209 Lx167 Lx179 Qx p1 p2 p3 s0 s1 X) : b_X12_image_209 m L167 L179 Q p1 p2 p3 s0 s1 m σ := by
  unfold bx_X12_image_209 at h
  unfold b_X12_image_209
  refine ⟨hR.1.1, ?_⟩
  refine x_X12_writeEntry hR h (fun σ2 X3 h hR F4 => ?_)
  have F := F.trans F4
  intro x5 e6
  have h := h x5 e6
  exact hL179 _ _ _ h hR F
def fx_X12_image_179 (Lx167 : Int32 × Int32 → Xc → Prop) (Qx : Int32 → Xc → Prop) (Lx179 : Int32 × Int32 × Int32 → Xc → Prop) (t : Int32 × Int32 × Int32) (X : Xc) : Prop := ((((25 : Int32) * t.2.1) ≤ t.2.2 → (wx_X12_endBlock t.2.1 X (fun (X4 : Xc) => (∀ x6 : Int32, x6 = t.2.1 + (1 : Int32) → Lx167 (t.1, x6) X4)))) ∧ (¬ ((25 : Int32) * t.2.1) ≤ t.2.2 → (vp_in t.1 7 ∧ (∀ x9 : Int32, x9 = X.2 26 t.1.toNatClampNeg → ((x9 ≤ t.2.2 → bx_X12_image_209 Lx167 Lx179 Qx t.1 t.2.1 t.2.2 (0 : Int32) (((100 : Int32) * t.1) + t.2.2) X) ∧ (¬ x9 ≤ t.2.2 → bx_X12_image_209 Lx167 Lx179 Qx t.1 t.2.1 t.2.2 (1 : Int32) (((100 : Int32) * t.1) + t.2.2) X))))))
set_option maxHeartbeats 4000000 in
set_option maxRecDepth 100000 in
theorem xf_X12_image_179 {m : Nat} {ad : Nat → Nat} {σ0 : Sto} {Lx167 : Int32 × Int32 → Xc → Prop} {L167 : Int32 × Int32 → Sto → Prop} {Q : Int32 → Sto → Prop} {Qx : Int32 → Xc → Prop} {Lx179 : Int32 × Int32 × Int32 → Xc → Prop} {L179 : Int32 × Int32 × Int32 → Sto → Prop} (hQ : ∀ (r : Int32) (σ' : Sto) (X' : Xc), Qx r X' → RefC m ad σ' X' → Fi m ad σ0 σ' → Q r σ') (hL167 : ∀ (t : Int32 × Int32) (σ : Sto) (X : Xc), Lx167 t X → RefC m ad σ X → Fi m ad σ0 σ → L167 t σ) (hL179 : ∀ (t : Int32 × Int32 × Int32) (σ : Sto) (X : Xc), Lx179 t X → RefC m ad σ X → Fi m ad σ0 σ → L179 t σ) : ∀ (t : Int32 × Int32 × Int32) (σ : Sto) (X : Xc), RefC m ad σ X → Fi m ad σ0 σ → fx_X12_image_179 Lx167 Qx Lx179 t X → f_X12_image_179 m L167 Q L179 t σ := by
  intro t σ X hR F h
  unfold fx_X12_image_179 at h
  unfold f_X12_image_179
  refine ⟨fun c1 => ?_, fun c1 => ?_⟩
  · have h := h.1 c1
    refine ⟨hR.1.1, ?_⟩
    refine x_X12_endBlock hR h (fun σ3 X4 h hR F5 => ?_)
    have F := F.trans F5
    intro x6 e7
    have h := h x6 e7
    exact hL167 _ _ _ h hR F
  · have h := h.2 c1
    refine ⟨hR.1.1, ?_⟩
    have a8 : sP σ m 26 = some (ad 26) := hR.P (k := 26) (by decide)
    refine ⟨ad 26, a8, ?_⟩
    refine ⟨hR.K (k := 26) (by decide), ?_⟩
    refine ⟨hR.N (k := 26) (by decide) h.1, ?_⟩
    have h := h.2
    intro x9 e10
    rw [hR.2.2 26 (by decide)] at e10
    have h := h x9 e10
    refine ⟨fun c11 => ?_, fun c11 => ?_⟩
    · have h := h.1 c11
      exact xb_X12_image_209 hQ hL167 hL179 t.1 t.2.1 t.2.2 (0 : Int32) (((100 : Int32) * t.1) + t.2.2) _ _ hR F h
    · have h := h.2 c11
      exact xb_X12_image_209 hQ hL167 hL179 t.1 t.2.1 t.2.2 (1 : Int32) (((100 : Int32) * t.1) + t.2.2) _ _ hR F h
def fx_X12_image_167 (Qx : Int32 → Xc → Prop) (Lx167 : Int32 × Int32 → Xc → Prop) (t : Int32 × Int32) (X : Xc) : Prop := (((5 : Int32) ≤ t.2 → (∀ x2 : Int32, x2 = X.1 89 → Qx x2 X)) ∧ (¬ (5 : Int32) ≤ t.2 → (∀ x4 : Int32, x4 = (25 : Int32) * (t.2 - (1 : Int32)) → LFx (fx_X12_image_179 Lx167 Qx) (t.1, t.2, x4) X)))
set_option maxHeartbeats 4000000 in
set_option maxRecDepth 100000 in
theorem xf_X12_image_167 {m : Nat} {ad : Nat → Nat} {σ0 : Sto} {Q : Int32 → Sto → Prop} {Qx : Int32 → Xc → Prop} {Lx167 : Int32 × Int32 → Xc → Prop} {L167 : Int32 × Int32 → Sto → Prop} (hQ : ∀ (r : Int32) (σ' : Sto) (X' : Xc), Qx r X' → RefC m ad σ' X' → Fi m ad σ0 σ' → Q r σ') (hL167 : ∀ (t : Int32 × Int32) (σ : Sto) (X : Xc), Lx167 t X → RefC m ad σ X → Fi m ad σ0 σ → L167 t σ) : ∀ (t : Int32 × Int32) (σ : Sto) (X : Xc), RefC m ad σ X → Fi m ad σ0 σ → fx_X12_image_167  Qx Lx167 t X → f_X12_image_167 m  Q L167 t σ := by
  intro t σ X hR F h
  unfold fx_X12_image_167 at h
  unfold f_X12_image_167
  refine ⟨fun c1 => ?_, fun c1 => ?_⟩
  · have h := h.1 c1
    refine ⟨hR.1.1, ?_⟩
    intro x2 e3
    rw [hR.2.1 89] at e3
    have h := h x2 e3
    exact hQ _ _ _ h hR F
  · have h := h.2 c1
    intro x4 e5
    have h := h x4 e5
    exact lfx h hR F (fun Lx L hL t σ X hR F h => xf_X12_image_179 hQ hL167 hL t σ X hR F h)
def bx_X12_image_14 (Qx : Int32 → Xc → Prop) (p1 : Int32) (s0 : Int32) (X : Xc) : Prop := (∀ x1 : Int32, x1 = (xS X 0 s0).1 0 → ((x1 ≤ 0 → (wx_X12_write (79 : Int32) (xS (xS X 0 s0) 89 (0 : Int32)) (fun (X6 : Xc) => (wx_X12_write (82 : Int32) X6 (fun (X10 : Xc) => (wx_X12_write (87 : Int32) X10 (fun (X14 : Xc) => (wx_X12_write (75 : Int32) X14 (fun (X18 : Xc) => (wx_X12_write p1 X18 (fun (X22 : Xc) => (vp_in p1 7 ∧ (∀ x25 : Int32, x25 = X22.2 23 p1.toNatClampNeg → (wx_X12_write x25 X22 (fun (X29 : Xc) => (wx_X12_write (0 : Int32) X29 (fun (X33 : Xc) => (wx_X12_write (0 : Int32) X33 (fun (X37 : Xc) => (vp_in p1 7 ∧ (∀ x40 : Int32, x40 = X37.2 21 p1.toNatClampNeg → (wx_X12_writeWord x40 X37 (fun (X44 : Xc) => (vp_in p1 7 ∧ (∀ x47 : Int32, x47 = X44.2 22 p1.toNatClampNeg → (wx_X12_writeWord x47 X44 (fun (X51 : Xc) => (vp_in p1 7 ∧ (∀ x54 : Int32, x54 = X51.2 24 p1.toNatClampNeg → (wx_X12_writeWord x54 X51 (fun (X58 : Xc) => (vp_in p1 7 ∧ (∀ x61 : Int32, x61 = X58.2 25 p1.toNatClampNeg → (wx_X12_writeWord x61 X58 (fun (X65 : Xc) => (vp_in p1 7 ∧ (∀ x68 : Int32, x68 = X65.2 27 p1.toNatClampNeg → (wx_X12_writeWord x68 X65 (fun (X72 : Xc) => (vp_in p1 7 ∧ (∀ x75 : Int32, x75 = X72.2 28 p1.toNatClampNeg → (wx_X12_writeWord x75 X72 (fun (X79 : Xc) => (vp_in p1 7 ∧ (∀ x82 : Int32, x82 = X79.2 29 p1.toNatClampNeg → (wx_X12_writeWord x82 X79 (fun (X86 : Xc) => (vp_in p1 7 ∧ (∀ x89 : Int32, x89 = X86.2 26 p1.toNatClampNeg → (wx_X12_writeWord x89 X86 (fun (X93 : Xc) => (wx_X12_endBlock (0 : Int32) X93 (fun (X97 : Xc) => LFx (fx_X12_image_167  Qx) (p1, (1 : Int32)) X97))))))))))))))))))))))))))))))))))))))))))))))))))))) ∧ (¬ x1 ≤ 0 → Qx (0 : Int32) (xS X 0 s0))))
set_option maxHeartbeats 4000000 in
set_option maxRecDepth 100000 in
theorem xb_X12_image_14 {m : Nat} {ad : Nat → Nat} {σ0 : Sto} {Q : Int32 → Sto → Prop} {Qx : Int32 → Xc → Prop} (hQ : ∀ (r : Int32) (σ' : Sto) (X' : Xc), Qx r X' → RefC m ad σ' X' → Fi m ad σ0 σ' → Q r σ')  (p1 : Int32) (s0 : Int32) (σ : Sto) (X : Xc) (hR : RefC m ad σ X) (F : Fi m ad σ0 σ) (h : bx_X12_image_14  Qx p1 s0 X) : b_X12_image_14 m  Q p1 s0 m σ := by
  unfold bx_X12_image_14 at h
  unfold b_X12_image_14
  refine ⟨hR.1.1, ?_⟩
  have F := F.S (k := 0) (v := s0)
  have hR := hR.S (k := 0) (v := s0)
  refine ⟨hR.1.1, ?_⟩
  intro x1 e2
  rw [hR.2.1 0] at e2
  have h := h x1 e2
  refine ⟨fun c3 => ?_, fun c3 => ?_⟩
  · have h := h.1 c3
    have F := F.S (k := 89) (v := (0 : Int32))
    have hR := hR.S (k := 89) (v := (0 : Int32))
    refine x_X12_write hR h (fun σ5 X6 h hR F7 => ?_)
    have F := F.trans F7
    refine ⟨hR.1.1, ?_⟩
    refine x_X12_write hR h (fun σ9 X10 h hR F11 => ?_)
    have F := F.trans F11
    refine ⟨hR.1.1, ?_⟩
    refine x_X12_write hR h (fun σ13 X14 h hR F15 => ?_)
    have F := F.trans F15
    refine ⟨hR.1.1, ?_⟩
    refine x_X12_write hR h (fun σ17 X18 h hR F19 => ?_)
    have F := F.trans F19
    refine ⟨hR.1.1, ?_⟩
    refine x_X12_write hR h (fun σ21 X22 h hR F23 => ?_)
    have F := F.trans F23
    refine ⟨hR.1.1, ?_⟩
    have a24 : sP σ21 m 23 = some (ad 23) := hR.P (k := 23) (by decide)
    refine ⟨ad 23, a24, ?_⟩
    refine ⟨hR.K (k := 23) (by decide), ?_⟩
    refine ⟨hR.N (k := 23) (by decide) h.1, ?_⟩
    have h := h.2
    intro x25 e26
    rw [hR.2.2 23 (by decide)] at e26
    have h := h x25 e26
    refine x_X12_write hR h (fun σ28 X29 h hR F30 => ?_)
    have F := F.trans F30
    refine ⟨hR.1.1, ?_⟩
    refine x_X12_write hR h (fun σ32 X33 h hR F34 => ?_)
    have F := F.trans F34
    refine ⟨hR.1.1, ?_⟩
    refine x_X12_write hR h (fun σ36 X37 h hR F38 => ?_)
    have F := F.trans F38
    refine ⟨hR.1.1, ?_⟩
    have a39 : sP σ36 m 21 = some (ad 21) := hR.P (k := 21) (by decide)
    refine ⟨ad 21, a39, ?_⟩
    refine ⟨hR.K (k := 21) (by decide), ?_⟩
    refine ⟨hR.N (k := 21) (by decide) h.1, ?_⟩
    have h := h.2
    intro x40 e41
    rw [hR.2.2 21 (by decide)] at e41
    have h := h x40 e41
    refine x_X12_writeWord hR h (fun σ43 X44 h hR F45 => ?_)
    have F := F.trans F45
    refine ⟨hR.1.1, ?_⟩
    have a46 : sP σ43 m 22 = some (ad 22) := hR.P (k := 22) (by decide)
    refine ⟨ad 22, a46, ?_⟩
    refine ⟨hR.K (k := 22) (by decide), ?_⟩
    refine ⟨hR.N (k := 22) (by decide) h.1, ?_⟩
    have h := h.2
    intro x47 e48
    rw [hR.2.2 22 (by decide)] at e48
    have h := h x47 e48
    refine x_X12_writeWord hR h (fun σ50 X51 h hR F52 => ?_)
    have F := F.trans F52
    refine ⟨hR.1.1, ?_⟩
    have a53 : sP σ50 m 24 = some (ad 24) := hR.P (k := 24) (by decide)
    refine ⟨ad 24, a53, ?_⟩
    refine ⟨hR.K (k := 24) (by decide), ?_⟩
    refine ⟨hR.N (k := 24) (by decide) h.1, ?_⟩
    have h := h.2
    intro x54 e55
    rw [hR.2.2 24 (by decide)] at e55
    have h := h x54 e55
    refine x_X12_writeWord hR h (fun σ57 X58 h hR F59 => ?_)
    have F := F.trans F59
    refine ⟨hR.1.1, ?_⟩
    have a60 : sP σ57 m 25 = some (ad 25) := hR.P (k := 25) (by decide)
    refine ⟨ad 25, a60, ?_⟩
    refine ⟨hR.K (k := 25) (by decide), ?_⟩
    refine ⟨hR.N (k := 25) (by decide) h.1, ?_⟩
    have h := h.2
    intro x61 e62
    rw [hR.2.2 25 (by decide)] at e62
    have h := h x61 e62
    refine x_X12_writeWord hR h (fun σ64 X65 h hR F66 => ?_)
    have F := F.trans F66
    refine ⟨hR.1.1, ?_⟩
    have a67 : sP σ64 m 27 = some (ad 27) := hR.P (k := 27) (by decide)
    refine ⟨ad 27, a67, ?_⟩
    refine ⟨hR.K (k := 27) (by decide), ?_⟩
    refine ⟨hR.N (k := 27) (by decide) h.1, ?_⟩
    have h := h.2
    intro x68 e69
    rw [hR.2.2 27 (by decide)] at e69
    have h := h x68 e69
    refine x_X12_writeWord hR h (fun σ71 X72 h hR F73 => ?_)
    have F := F.trans F73
    refine ⟨hR.1.1, ?_⟩
    have a74 : sP σ71 m 28 = some (ad 28) := hR.P (k := 28) (by decide)
    refine ⟨ad 28, a74, ?_⟩
    refine ⟨hR.K (k := 28) (by decide), ?_⟩
    refine ⟨hR.N (k := 28) (by decide) h.1, ?_⟩
    have h := h.2
    intro x75 e76
    rw [hR.2.2 28 (by decide)] at e76
    have h := h x75 e76
    refine x_X12_writeWord hR h (fun σ78 X79 h hR F80 => ?_)
    have F := F.trans F80
    refine ⟨hR.1.1, ?_⟩
    have a81 : sP σ78 m 29 = some (ad 29) := hR.P (k := 29) (by decide)
    refine ⟨ad 29, a81, ?_⟩
    refine ⟨hR.K (k := 29) (by decide), ?_⟩
    refine ⟨hR.N (k := 29) (by decide) h.1, ?_⟩
    have h := h.2
    intro x82 e83
    rw [hR.2.2 29 (by decide)] at e83
    have h := h x82 e83
    refine x_X12_writeWord hR h (fun σ85 X86 h hR F87 => ?_)
    have F := F.trans F87
    refine ⟨hR.1.1, ?_⟩
    have a88 : sP σ85 m 26 = some (ad 26) := hR.P (k := 26) (by decide)
    refine ⟨ad 26, a88, ?_⟩
    refine ⟨hR.K (k := 26) (by decide), ?_⟩
    refine ⟨hR.N (k := 26) (by decide) h.1, ?_⟩
    have h := h.2
    intro x89 e90
    rw [hR.2.2 26 (by decide)] at e90
    have h := h x89 e90
    refine x_X12_writeWord hR h (fun σ92 X93 h hR F94 => ?_)
    have F := F.trans F94
    refine ⟨hR.1.1, ?_⟩
    refine x_X12_endBlock hR h (fun σ96 X97 h hR F98 => ?_)
    have F := F.trans F98
    exact lfx h hR F (fun Lx L hL t σ X hR F h => xf_X12_image_167 hQ  hL t σ X hR F h)
  · have h := h.2 c3
    exact hQ _ _ _ h hR F
def wx_X12_image (p1 : Int32) (X : Xc) (Qx : Int32 → Xc → Prop) : Prop := (wx_X12_isReplica p1 X (fun (x1 : Int32) (X3 : Xc) => ((x1 = 0 → bx_X12_image_14  Qx p1 (1 : Int32) X3) ∧ (¬ x1 = 0 → bx_X12_image_14  Qx p1 (0 : Int32) X3))))
set_option maxHeartbeats 4000000 in
set_option maxRecDepth 100000 in
theorem x_X12_image {m : Nat} {ad : Nat → Nat} {p1 : Int32} {σ : Sto} {X : Xc} {Q : Int32 → Sto → Prop} {Qx : Int32 → Xc → Prop} (hR : RefC m ad σ X) (h : wx_X12_image p1 X Qx) (hQ : ∀ (r : Int32) (σ' : Sto) (X' : Xc), Qx r X' → RefC m ad σ' X' → Fi m ad σ σ' → Q r σ') : wp_X12_image m p1 σ Q := by
  have F : Fi m ad σ σ := Fi.rf
  unfold wx_X12_image at h
  unfold wp_X12_image
  refine ⟨hR.1.1, ?_⟩
  refine x_X12_isReplica hR h (fun x1 σ2 X3 h hR F4 => ?_)
  have F := F.trans F4
  refine ⟨fun c5 => ?_, fun c5 => ?_⟩
  · have h := h.1 c5
    exact xb_X12_image_14 hQ  p1 (1 : Int32) _ _ hR F h
  · have h := h.2 c5
    exact xb_X12_image_14 hQ  p1 (0 : Int32) _ _ hR F h
def wx_X12_output (p1 : Int32) (X : Xc) (Qx : Int32 → Xc → Prop) : Prop := (∀ x1 : Int32, x1 = (xS X 0 (0 : Int32)).1 89 → (wx_X12_in p1 (0 : Int32) (x1 - (1 : Int32)) (xS X 0 (0 : Int32)) (fun (x3 : Int32) (X5 : Xc) => ((x3 = 0 → Qx (-1 : Int32) X5) ∧ (¬ x3 = 0 → (vp_in p1 2560 ∧ (∀ x9 : Int32, x9 = X5.2 88 p1.toNatClampNeg → Qx x9 X5)))))))
set_option maxHeartbeats 4000000 in
set_option maxRecDepth 100000 in
theorem x_X12_output {m : Nat} {ad : Nat → Nat} {p1 : Int32} {σ : Sto} {X : Xc} {Q : Int32 → Sto → Prop} {Qx : Int32 → Xc → Prop} (hR : RefC m ad σ X) (h : wx_X12_output p1 X Qx) (hQ : ∀ (r : Int32) (σ' : Sto) (X' : Xc), Qx r X' → RefC m ad σ' X' → Fi m ad σ σ' → Q r σ') : wp_X12_output m p1 σ Q := by
  have F : Fi m ad σ σ := Fi.rf
  unfold wx_X12_output at h
  unfold wp_X12_output
  refine ⟨hR.1.1, ?_⟩
  have F := F.S (k := 0) (v := (0 : Int32))
  have hR := hR.S (k := 0) (v := (0 : Int32))
  intro x1 e2
  rw [hR.2.1 89] at e2
  have h := h x1 e2
  refine x_X12_in hR h (fun x3 σ4 X5 h hR F6 => ?_)
  have F := F.trans F6
  refine ⟨fun c7 => ?_, fun c7 => ?_⟩
  · have h := h.1 c7
    exact hQ _ _ _ h hR F
  · have h := h.2 c7
    refine ⟨hR.1.1, ?_⟩
    have a8 : sP σ4 m 88 = some (ad 88) := hR.P (k := 88) (by decide)
    refine ⟨ad 88, a8, ?_⟩
    refine ⟨hR.K (k := 88) (by decide), ?_⟩
    refine ⟨hR.N (k := 88) (by decide) h.1, ?_⟩
    have h := h.2
    intro x9 e10
    rw [hR.2.2 88 (by decide)] at e10
    have h := h x9 e10
    exact hQ _ _ _ h hR F
def fx_X12_put_34 (Qx : Int32 → Xc → Prop) (Lx34 : Int64 × Int32 → Xc → Prop) (t : Int64 × Int32) (X : Xc) : Prop := ((t.2 < 0 → Qx (1 : Int32) X) ∧ (¬ t.2 < 0 → (∀ x3 : Int32, x3 = X.1 91 → (∀ x5 : Int32, x5 = ((t.1 >>> (((8 : Int32) * t.2).toInt64 &&& 63)) &&& (255 : Int64)).toInt32 → (vp_in x3 1500 ∧ (∀ x7 : Int32, x7 = (xA X 90 x3.toNatClampNeg x5).1 91 → (∀ x9 : Int32, x9 = x7 + (1 : Int32) → (∀ x11 : Int32, x11 = t.2 + (-1 : Int32) → Lx34 (t.1, x11) (xS (xA X 90 x3.toNatClampNeg x5) 91 x9)))))))))
set_option maxHeartbeats 4000000 in
set_option maxRecDepth 100000 in
theorem xf_X12_put_34 {m : Nat} {ad : Nat → Nat} {σ0 : Sto} {Q : Int32 → Sto → Prop} {Qx : Int32 → Xc → Prop} {Lx34 : Int64 × Int32 → Xc → Prop} {L34 : Int64 × Int32 → Sto → Prop} (hQ : ∀ (r : Int32) (σ' : Sto) (X' : Xc), Qx r X' → RefC m ad σ' X' → Fi m ad σ0 σ' → Q r σ') (hL34 : ∀ (t : Int64 × Int32) (σ : Sto) (X : Xc), Lx34 t X → RefC m ad σ X → Fi m ad σ0 σ → L34 t σ) : ∀ (t : Int64 × Int32) (σ : Sto) (X : Xc), RefC m ad σ X → Fi m ad σ0 σ → fx_X12_put_34  Qx Lx34 t X → f_X12_put_34 m  Q L34 t σ := by
  intro t σ X hR F h
  unfold fx_X12_put_34 at h
  unfold f_X12_put_34
  refine ⟨fun c1 => ?_, fun c1 => ?_⟩
  · have h := h.1 c1
    exact hQ _ _ _ h hR F
  · have h := h.2 c1
    refine ⟨hR.1.1, ?_⟩
    have a2 : sP σ m 90 = some (ad 90) := hR.P (k := 90) (by decide)
    intro x3 e4
    rw [hR.2.1 91] at e4
    have h := h x3 e4
    intro x5 e6
    have h := h x5 e6
    refine ⟨ad 90, a2, ?_⟩
    refine ⟨hR.K (k := 90) (by decide), ?_⟩
    refine ⟨hR.N (k := 90) (by decide) h.1, ?_⟩
    have h := h.2
    have F := F.A (k := 90) (i := x3.toNatClampNeg) (v := x5) (by decide)
    have hR := hR.A (k := 90) (i := x3.toNatClampNeg) (v := x5) (by decide)
    intro x7 e8
    rw [hR.2.1 91] at e8
    have h := h x7 e8
    intro x9 e10
    have h := h x9 e10
    have F := F.S (k := 91) (v := x9)
    have hR := hR.S (k := 91) (v := x9)
    intro x11 e12
    have h := h x11 e12
    exact hL34 _ _ _ h hR F
def wx_X12_put (p1 : Int64) (p3 : Int32) (X : Xc) (Qx : Int32 → Xc → Prop) : Prop := (wx_X12_in p3 (0 : Int32) (8 : Int32) (xS X 0 (0 : Int32)) (fun (x1 : Int32) (X3 : Xc) => ((x1 = 0 → Qx (0 : Int32) X3) ∧ (¬ x1 = 0 → (∀ x6 : Int32, x6 = X3.1 91 → (((x6 + p3) ≤ (1500 : Int32) → (∀ x9 : Int32, x9 = p3 - (1 : Int32) → LFx (fx_X12_put_34  Qx) (p1, x9) X3)) ∧ (¬ (x6 + p3) ≤ (1500 : Int32) → Qx (0 : Int32) X3)))))))
set_option maxHeartbeats 4000000 in
set_option maxRecDepth 100000 in
theorem x_X12_put {m : Nat} {ad : Nat → Nat} {p1 : Int64} {p3 : Int32} {σ : Sto} {X : Xc} {Q : Int32 → Sto → Prop} {Qx : Int32 → Xc → Prop} (hR : RefC m ad σ X) (h : wx_X12_put p1 p3 X Qx) (hQ : ∀ (r : Int32) (σ' : Sto) (X' : Xc), Qx r X' → RefC m ad σ' X' → Fi m ad σ σ' → Q r σ') : wp_X12_put m p1 p3 σ Q := by
  have F : Fi m ad σ σ := Fi.rf
  unfold wx_X12_put at h
  unfold wp_X12_put
  refine ⟨hR.1.1, ?_⟩
  have F := F.S (k := 0) (v := (0 : Int32))
  have hR := hR.S (k := 0) (v := (0 : Int32))
  refine x_X12_in hR h (fun x1 σ2 X3 h hR F4 => ?_)
  have F := F.trans F4
  refine ⟨fun c5 => ?_, fun c5 => ?_⟩
  · have h := h.1 c5
    exact hQ _ _ _ h hR F
  · have h := h.2 c5
    refine ⟨hR.1.1, ?_⟩
    intro x6 e7
    rw [hR.2.1 91] at e7
    have h := h x6 e7
    refine ⟨fun c8 => ?_, fun c8 => ?_⟩
    · have h := h.1 c8
      intro x9 e10
      have h := h x9 e10
      exact lfx h hR F (fun Lx L hL t σ X hR F h => xf_X12_put_34 hQ  hL t σ X hR F h)
    · have h := h.2 c8
      exact hQ _ _ _ h hR F
def fx_X12_take_31 (Qx : Int32 → Xc → Prop) (Lx31 : Int32 × Int32 × Int32 → Xc → Prop) (t : Int32 × Int32 × Int32) (X : Xc) : Prop := (∀ x1 : Int32, x1 = X.1 91 → ((x1 ≤ t.2.2 → (∀ x4 : Int32, x4 = X.1 91 → (wx_X12_in t.1 (0 : Int32) (x4 - (1 : Int32)) X (fun (x6 : Int32) (X8 : Xc) => ((x6 = 0 → (∀ x11 : Int32, x11 = X8.1 91 → Qx x11 X8)) ∧ (¬ x6 = 0 → (wx_X12_in t.2.1 (0 : Int32) (7 : Int32) X8 (fun (x13 : Int32) (X15 : Xc) => ((x13 = 0 → (∀ x18 : Int32, x18 = X15.1 91 → Qx x18 X15)) ∧ (¬ x13 = 0 → (vp_in t.1 1500 ∧ (∀ x22 : Int32, x22 = X15.2 90 t.1.toNatClampNeg → (∀ x24 : Int32, x24 = x22 ^^^ ((1 : Int32) <<< (t.2.1 &&& 31)) → (vp_in t.1 1500 ∧ (∀ x26 : Int32, x26 = (xA X15 90 t.1.toNatClampNeg x24).1 91 → Qx x26 (xA X15 90 t.1.toNatClampNeg x24)))))))))))))))) ∧ (¬ x1 ≤ t.2.2 → (vp_in t.2.2 2560 ∧ (∀ x30 : Int32, x30 = X.2 88 t.2.2.toNatClampNeg → (vp_in t.2.2 1500 ∧ (∀ x32 : Int32, x32 = t.2.2 + (1 : Int32) → Lx31 (t.1, t.2.1, x32) (xA X 90 t.2.2.toNatClampNeg x30))))))))
set_option maxHeartbeats 4000000 in
set_option maxRecDepth 100000 in
theorem xf_X12_take_31 {m : Nat} {ad : Nat → Nat} {σ0 : Sto} {Q : Int32 → Sto → Prop} {Qx : Int32 → Xc → Prop} {Lx31 : Int32 × Int32 × Int32 → Xc → Prop} {L31 : Int32 × Int32 × Int32 → Sto → Prop} (hQ : ∀ (r : Int32) (σ' : Sto) (X' : Xc), Qx r X' → RefC m ad σ' X' → Fi m ad σ0 σ' → Q r σ') (hL31 : ∀ (t : Int32 × Int32 × Int32) (σ : Sto) (X : Xc), Lx31 t X → RefC m ad σ X → Fi m ad σ0 σ → L31 t σ) : ∀ (t : Int32 × Int32 × Int32) (σ : Sto) (X : Xc), RefC m ad σ X → Fi m ad σ0 σ → fx_X12_take_31  Qx Lx31 t X → f_X12_take_31 m  Q L31 t σ := by
  intro t σ X hR F h
  unfold fx_X12_take_31 at h
  unfold f_X12_take_31
  refine ⟨hR.1.1, ?_⟩
  intro x1 e2
  rw [hR.2.1 91] at e2
  have h := h x1 e2
  refine ⟨fun c3 => ?_, fun c3 => ?_⟩
  · have h := h.1 c3
    intro x4 e5
    rw [hR.2.1 91] at e5
    have h := h x4 e5
    refine x_X12_in hR h (fun x6 σ7 X8 h hR F9 => ?_)
    have F := F.trans F9
    refine ⟨fun c10 => ?_, fun c10 => ?_⟩
    · have h := h.1 c10
      refine ⟨hR.1.1, ?_⟩
      intro x11 e12
      rw [hR.2.1 91] at e12
      have h := h x11 e12
      exact hQ _ _ _ h hR F
    · have h := h.2 c10
      refine x_X12_in hR h (fun x13 σ14 X15 h hR F16 => ?_)
      have F := F.trans F16
      refine ⟨fun c17 => ?_, fun c17 => ?_⟩
      · have h := h.1 c17
        refine ⟨hR.1.1, ?_⟩
        intro x18 e19
        rw [hR.2.1 91] at e19
        have h := h x18 e19
        exact hQ _ _ _ h hR F
      · have h := h.2 c17
        refine ⟨hR.1.1, ?_⟩
        have a20 : sP σ14 m 90 = some (ad 90) := hR.P (k := 90) (by decide)
        have a21 : sP σ14 m 90 = some (ad 90) := hR.P (k := 90) (by decide)
        refine ⟨ad 90, a21, ?_⟩
        refine ⟨hR.K (k := 90) (by decide), ?_⟩
        refine ⟨hR.N (k := 90) (by decide) h.1, ?_⟩
        have h := h.2
        intro x22 e23
        rw [hR.2.2 90 (by decide)] at e23
        have h := h x22 e23
        intro x24 e25
        have h := h x24 e25
        refine ⟨hR.N (k := 90) (by decide) h.1, ?_⟩
        have h := h.2
        have F := F.A (k := 90) (i := t.1.toNatClampNeg) (v := x24) (by decide)
        have hR := hR.A (k := 90) (i := t.1.toNatClampNeg) (v := x24) (by decide)
        intro x26 e27
        rw [hR.2.1 91] at e27
        have h := h x26 e27
        exact hQ _ _ _ h hR F
  · have h := h.2 c3
    have a28 : sP σ m 90 = some (ad 90) := hR.P (k := 90) (by decide)
    have a29 : sP σ m 88 = some (ad 88) := hR.P (k := 88) (by decide)
    refine ⟨ad 88, a29, ?_⟩
    refine ⟨hR.K (k := 88) (by decide), ?_⟩
    refine ⟨hR.N (k := 88) (by decide) h.1, ?_⟩
    have h := h.2
    intro x30 e31
    rw [hR.2.2 88 (by decide)] at e31
    have h := h x30 e31
    refine ⟨ad 90, a28, ?_⟩
    refine ⟨hR.K (k := 90) (by decide), ?_⟩
    refine ⟨hR.N (k := 90) (by decide) h.1, ?_⟩
    have h := h.2
    have F := F.A (k := 90) (i := t.2.2.toNatClampNeg) (v := x30) (by decide)
    have hR := hR.A (k := 90) (i := t.2.2.toNatClampNeg) (v := x30) (by decide)
    intro x32 e33
    have h := h x32 e33
    exact hL31 _ _ _ h hR F
def bx_X12_take_26 (Qx : Int32 → Xc → Prop) (p1 : Int32) (p2 : Int32) (s0 : Int32) (X : Xc) : Prop := LFx (fx_X12_take_31  Qx) (p1, p2, (0 : Int32)) (xS X 91 s0)
set_option maxHeartbeats 4000000 in
set_option maxRecDepth 100000 in
theorem xb_X12_take_26 {m : Nat} {ad : Nat → Nat} {σ0 : Sto} {Q : Int32 → Sto → Prop} {Qx : Int32 → Xc → Prop} (hQ : ∀ (r : Int32) (σ' : Sto) (X' : Xc), Qx r X' → RefC m ad σ' X' → Fi m ad σ0 σ' → Q r σ')  (p1 : Int32) (p2 : Int32) (s0 : Int32) (σ : Sto) (X : Xc) (hR : RefC m ad σ X) (F : Fi m ad σ0 σ) (h : bx_X12_take_26  Qx p1 p2 s0 X) : b_X12_take_26 m  Q p1 p2 s0 m σ := by
  unfold bx_X12_take_26 at h
  unfold b_X12_take_26
  refine ⟨hR.1.1, ?_⟩
  have F := F.S (k := 91) (v := s0)
  have hR := hR.S (k := 91) (v := s0)
  exact lfx h hR F (fun Lx L hL t σ X hR F h => xf_X12_take_31 hQ  hL t σ X hR F h)
def wx_X12_take (p1 : Int32) (p2 : Int32) (X : Xc) (Qx : Int32 → Xc → Prop) : Prop := (∀ x1 : Int32, x1 = (xS X 0 (0 : Int32)).1 89 → (((1500 : Int32) ≤ x1 → bx_X12_take_26  Qx p1 p2 (1500 : Int32) (xS X 0 (0 : Int32))) ∧ (¬ (1500 : Int32) ≤ x1 → (∀ x4 : Int32, x4 = (xS X 0 (0 : Int32)).1 89 → bx_X12_take_26  Qx p1 p2 x4 (xS X 0 (0 : Int32))))))
set_option maxHeartbeats 4000000 in
set_option maxRecDepth 100000 in
theorem x_X12_take {m : Nat} {ad : Nat → Nat} {p1 : Int32} {p2 : Int32} {σ : Sto} {X : Xc} {Q : Int32 → Sto → Prop} {Qx : Int32 → Xc → Prop} (hR : RefC m ad σ X) (h : wx_X12_take p1 p2 X Qx) (hQ : ∀ (r : Int32) (σ' : Sto) (X' : Xc), Qx r X' → RefC m ad σ' X' → Fi m ad σ σ' → Q r σ') : wp_X12_take m p1 p2 σ Q := by
  have F : Fi m ad σ σ := Fi.rf
  unfold wx_X12_take at h
  unfold wp_X12_take
  refine ⟨hR.1.1, ?_⟩
  have F := F.S (k := 0) (v := (0 : Int32))
  have hR := hR.S (k := 0) (v := (0 : Int32))
  intro x1 e2
  rw [hR.2.1 89] at e2
  have h := h x1 e2
  refine ⟨fun c3 => ?_, fun c3 => ?_⟩
  · have h := h.1 c3
    exact xb_X12_take_26 hQ  p1 p2 (1500 : Int32) _ _ hR F h
  · have h := h.2 c3
    intro x4 e5
    rw [hR.2.1 89] at e5
    have h := h x4 e5
    exact xb_X12_take_26 hQ  p1 p2 x4 _ _ hR F h
def wx_X12_wrongs (p1 : Int32) (p2 : Int32) (X : Xc) (Qx : Xc → Prop) : Prop := (∀ x1 : Int32, x1 = X.1 95 → ((x1 ≤ 0 → Qx (xS (xS X 95 p1) 96 p2)) ∧ (¬ x1 ≤ 0 → Qx X)))
set_option maxHeartbeats 4000000 in
set_option maxRecDepth 100000 in
theorem x_X12_wrongs {m : Nat} {ad : Nat → Nat} {p1 : Int32} {p2 : Int32} {σ : Sto} {X : Xc} {Q : Sto → Prop} {Qx : Xc → Prop} (hR : RefC m ad σ X) (h : wx_X12_wrongs p1 p2 X Qx) (hQ : ∀ (σ' : Sto) (X' : Xc), Qx X' → RefC m ad σ' X' → Fi m ad σ σ' → Q σ') : wp_X12_wrongs m p1 p2 σ Q := by
  have F : Fi m ad σ σ := Fi.rf
  unfold wx_X12_wrongs at h
  unfold wp_X12_wrongs
  refine ⟨hR.1.1, ?_⟩
  intro x1 e2
  rw [hR.2.1 95] at e2
  have h := h x1 e2
  refine ⟨fun c3 => ?_, fun c3 => ?_⟩
  · have h := h.1 c3
    have F := F.S (k := 95) (v := p1)
    have hR := hR.S (k := 95) (v := p1)
    have F := F.S (k := 96) (v := p2)
    have hR := hR.S (k := 96) (v := p2)
    exact hQ _ _ h hR F
  · have h := h.2 c3
    exact hQ _ _ h hR F
def wx_X12_next  (X : Xc) (Qx : Int32 → Xc → Prop) : Prop := (∀ x1 : Int32, x1 = X.1 95 → ((x1 ≤ 0 → (∀ x4 : Int32, x4 = X.1 94 → (∀ x6 : Int32, x6 = X.1 91 → ((¬ x4 = x6 → (∀ x9 : Int32, x9 = X.1 94 → (∀ x11 : Int32, x11 = x9 + (1 : Int32) → (∀ x14 : Int32, x14 = (xS X 94 x11).1 94 → (∀ x16 : Int32, x16 = x14 - (1 : Int32) → (vp_in x16 1500 ∧ (∀ x18 : Int32, x18 = (xS X 94 x11).2 90 x16.toNatClampNeg → Qx x18 (xS X 94 x11)))))))) ∧ (x4 = x6 → (∀ x20 : Int32, x20 = X.1 91 → (wx_X12_wrongs (1 : Int32) x20 X (fun (X24 : Xc) => Qx (0 : Int32) X24)))))))) ∧ (¬ x1 ≤ 0 → Qx (0 : Int32) X)))
set_option maxHeartbeats 4000000 in
set_option maxRecDepth 100000 in
theorem x_X12_next {m : Nat} {ad : Nat → Nat} {σ : Sto} {X : Xc} {Q : Int32 → Sto → Prop} {Qx : Int32 → Xc → Prop} (hR : RefC m ad σ X) (h : wx_X12_next  X Qx) (hQ : ∀ (r : Int32) (σ' : Sto) (X' : Xc), Qx r X' → RefC m ad σ' X' → Fi m ad σ σ' → Q r σ') : wp_X12_next m  σ Q := by
  have F : Fi m ad σ σ := Fi.rf
  unfold wx_X12_next at h
  unfold wp_X12_next
  refine ⟨hR.1.1, ?_⟩
  intro x1 e2
  rw [hR.2.1 95] at e2
  have h := h x1 e2
  refine ⟨fun c3 => ?_, fun c3 => ?_⟩
  · have h := h.1 c3
    intro x4 e5
    rw [hR.2.1 94] at e5
    have h := h x4 e5
    intro x6 e7
    rw [hR.2.1 91] at e7
    have h := h x6 e7
    refine ⟨fun c8 => ?_, fun c8 => ?_⟩
    · have h := h.1 c8
      intro x9 e10
      rw [hR.2.1 94] at e10
      have h := h x9 e10
      intro x11 e12
      have h := h x11 e12
      have F := F.S (k := 94) (v := x11)
      have hR := hR.S (k := 94) (v := x11)
      have a13 : sP σ m 90 = some (ad 90) := hR.P (k := 90) (by decide)
      intro x14 e15
      rw [hR.2.1 94] at e15
      have h := h x14 e15
      intro x16 e17
      have h := h x16 e17
      refine ⟨ad 90, a13, ?_⟩
      refine ⟨hR.K (k := 90) (by decide), ?_⟩
      refine ⟨hR.N (k := 90) (by decide) h.1, ?_⟩
      have h := h.2
      intro x18 e19
      rw [hR.2.2 90 (by decide)] at e19
      have h := h x18 e19
      exact hQ _ _ _ h hR F
    · have h := h.2 c8
      intro x20 e21
      rw [hR.2.1 91] at e21
      have h := h x20 e21
      refine x_X12_wrongs hR h (fun σ23 X24 h hR F25 => ?_)
      have F := F.trans F25
      exact hQ _ _ _ h hR F
  · have h := h.2 c3
    exact hQ _ _ _ h hR F
def wx_X12_keep (p1 : Int32) (X : Xc) (Qx : Xc → Prop) : Prop := (∀ x1 : Int32, x1 = X.1 95 → ((x1 ≤ 0 → (∀ x5 : Int32, x5 = X.1 93 → (vp_in x5 640 ∧ (∀ x7 : Int32, x7 = (xA X 92 x5.toNatClampNeg p1).1 93 → (∀ x9 : Int32, x9 = x7 + (1 : Int32) → Qx (xS (xA X 92 x5.toNatClampNeg p1) 93 x9)))))) ∧ (¬ x1 ≤ 0 → Qx X)))
set_option maxHeartbeats 4000000 in
set_option maxRecDepth 100000 in
theorem x_X12_keep {m : Nat} {ad : Nat → Nat} {p1 : Int32} {σ : Sto} {X : Xc} {Q : Sto → Prop} {Qx : Xc → Prop} (hR : RefC m ad σ X) (h : wx_X12_keep p1 X Qx) (hQ : ∀ (σ' : Sto) (X' : Xc), Qx X' → RefC m ad σ' X' → Fi m ad σ σ' → Q σ') : wp_X12_keep m p1 σ Q := by
  have F : Fi m ad σ σ := Fi.rf
  unfold wx_X12_keep at h
  unfold wp_X12_keep
  refine ⟨hR.1.1, ?_⟩
  intro x1 e2
  rw [hR.2.1 95] at e2
  have h := h x1 e2
  refine ⟨fun c3 => ?_, fun c3 => ?_⟩
  · have h := h.1 c3
    have a4 : sP σ m 92 = some (ad 92) := hR.P (k := 92) (by decide)
    intro x5 e6
    rw [hR.2.1 93] at e6
    have h := h x5 e6
    refine ⟨ad 92, a4, ?_⟩
    refine ⟨hR.K (k := 92) (by decide), ?_⟩
    refine ⟨hR.N (k := 92) (by decide) h.1, ?_⟩
    have h := h.2
    have F := F.A (k := 92) (i := x5.toNatClampNeg) (v := p1) (by decide)
    have hR := hR.A (k := 92) (i := x5.toNatClampNeg) (v := p1) (by decide)
    intro x7 e8
    rw [hR.2.1 93] at e8
    have h := h x7 e8
    intro x9 e10
    have h := h x9 e10
    have F := F.S (k := 93) (v := x9)
    have hR := hR.S (k := 93) (v := x9)
    exact hQ _ _ h hR F
  · have h := h.2 c3
    exact hQ _ _ h hR F
def bx_X12_readByte_21 (Qx : Int32 → Xc → Prop) (p3 : Int32) (X : Xc) : Prop := (wx_X12_keep p3 X (fun (X3 : Xc) => Qx p3 X3))
set_option maxHeartbeats 4000000 in
set_option maxRecDepth 100000 in
theorem xb_X12_readByte_21 {m : Nat} {ad : Nat → Nat} {σ0 : Sto} {Q : Int32 → Sto → Prop} {Qx : Int32 → Xc → Prop} (hQ : ∀ (r : Int32) (σ' : Sto) (X' : Xc), Qx r X' → RefC m ad σ' X' → Fi m ad σ0 σ' → Q r σ')  (p3 : Int32) (σ : Sto) (X : Xc) (hR : RefC m ad σ X) (F : Fi m ad σ0 σ) (h : bx_X12_readByte_21  Qx p3 X) : b_X12_readByte_21 m  Q p3 σ := by
  unfold bx_X12_readByte_21 at h
  unfold b_X12_readByte_21
  refine ⟨hR.1.1, ?_⟩
  refine x_X12_keep hR h (fun σ2 X3 h hR F4 => ?_)
  have F := F.trans F4
  exact hQ _ _ _ h hR F
def wx_X12_readByte (p1 : Int32) (X : Xc) (Qx : Int32 → Xc → Prop) : Prop := (∀ x1 : Int32, x1 = X.1 94 → (wx_X12_next  X (fun (x3 : Int32) (X5 : Xc) => ((x3 ≤ p1 → bx_X12_readByte_21  Qx x3 X5) ∧ (¬ x3 ≤ p1 → (wx_X12_wrongs (2 : Int32) x1 X5 (fun (X10 : Xc) => bx_X12_readByte_21  Qx x3 X10)))))))
set_option maxHeartbeats 4000000 in
set_option maxRecDepth 100000 in
theorem x_X12_readByte {m : Nat} {ad : Nat → Nat} {p1 : Int32} {σ : Sto} {X : Xc} {Q : Int32 → Sto → Prop} {Qx : Int32 → Xc → Prop} (hR : RefC m ad σ X) (h : wx_X12_readByte p1 X Qx) (hQ : ∀ (r : Int32) (σ' : Sto) (X' : Xc), Qx r X' → RefC m ad σ' X' → Fi m ad σ σ' → Q r σ') : wp_X12_readByte m p1 σ Q := by
  have F : Fi m ad σ σ := Fi.rf
  unfold wx_X12_readByte at h
  unfold wp_X12_readByte
  refine ⟨hR.1.1, ?_⟩
  intro x1 e2
  rw [hR.2.1 94] at e2
  have h := h x1 e2
  refine x_X12_next hR h (fun x3 σ4 X5 h hR F6 => ?_)
  have F := F.trans F6
  refine ⟨fun c7 => ?_, fun c7 => ?_⟩
  · have h := h.1 c7
    exact xb_X12_readByte_21 hQ  x3 _ _ hR F h
  · have h := h.2 c7
    refine ⟨hR.1.1, ?_⟩
    refine x_X12_wrongs hR h (fun σ9 X10 h hR F11 => ?_)
    have F := F.trans F11
    exact xb_X12_readByte_21 hQ  x3 _ _ hR F h
def bx_X12_readNumber_131 (Qx : Int32 → Xc → Prop) (p2 : Int64) (X : Xc) : Prop := (wx_X12_keep p2.toInt32 X (fun (X3 : Xc) => Qx p2.toInt32 X3))
set_option maxHeartbeats 4000000 in
set_option maxRecDepth 100000 in
theorem xb_X12_readNumber_131 {m : Nat} {ad : Nat → Nat} {σ0 : Sto} {Q : Int32 → Sto → Prop} {Qx : Int32 → Xc → Prop} (hQ : ∀ (r : Int32) (σ' : Sto) (X' : Xc), Qx r X' → RefC m ad σ' X' → Fi m ad σ0 σ' → Q r σ')  (p2 : Int64) (σ : Sto) (X : Xc) (hR : RefC m ad σ X) (F : Fi m ad σ0 σ) (h : bx_X12_readNumber_131  Qx p2 X) : b_X12_readNumber_131 m  Q p2 σ := by
  unfold bx_X12_readNumber_131 at h
  unfold b_X12_readNumber_131
  refine ⟨hR.1.1, ?_⟩
  refine x_X12_keep hR h (fun σ2 X3 h hR F4 => ?_)
  have F := F.trans F4
  exact hQ _ _ _ h hR F
def bx_X12_readNumber_128 (Lx13 : Int32 × Int64 × Int32 × Int32 → Xc → Prop) (Qx : Int32 → Xc → Prop) (p1 : Int32) (p2 : Int64) (p4 : Int32) (p5 : Int32) (X : Xc) : Prop := Lx13 (p1, p2, p4, p5) X
set_option maxHeartbeats 4000000 in
set_option maxRecDepth 100000 in
theorem xb_X12_readNumber_128 {m : Nat} {ad : Nat → Nat} {σ0 : Sto} {Lx13 : Int32 × Int64 × Int32 × Int32 → Xc → Prop} {L13 : Int32 × Int64 × Int32 × Int32 → Sto → Prop} {Q : Int32 → Sto → Prop} {Qx : Int32 → Xc → Prop} (hQ : ∀ (r : Int32) (σ' : Sto) (X' : Xc), Qx r X' → RefC m ad σ' X' → Fi m ad σ0 σ' → Q r σ') (hL13 : ∀ (t : Int32 × Int64 × Int32 × Int32) (σ : Sto) (X : Xc), Lx13 t X → RefC m ad σ X → Fi m ad σ0 σ → L13 t σ) (p1 : Int32) (p2 : Int64) (p4 : Int32) (p5 : Int32) (σ : Sto) (X : Xc) (hR : RefC m ad σ X) (F : Fi m ad σ0 σ) (h : bx_X12_readNumber_128 Lx13 Qx p1 p2 p4 p5 X) : b_X12_readNumber_128 m L13 Q p1 p2 p4 p5 σ := by
  unfold bx_X12_readNumber_128 at h
  unfold b_X12_readNumber_128
  exact hL13 _ _ _ h hR F
def bx_X12_readNumber_122 (Lx13 : Int32 × Int64 × Int32 × Int32 → Xc → Prop) (Qx : Int32 → Xc → Prop) (p1 : Int32) (p2 : Int64) (p4 : Int32) (p5 : Int32) (X : Xc) : Prop := (wx_X12_wrongs (3 : Int32) p1 X (fun (X3 : Xc) => bx_X12_readNumber_128 Lx13 Qx p1 p2 p4 p5 X3))
set_option maxHeartbeats 4000000 in
set_option maxRecDepth 100000 in
theorem xb_X12_readNumber_122 {m : Nat} {ad : Nat → Nat} {σ0 : Sto} {Lx13 : Int32 × Int64 × Int32 × Int32 → Xc → Prop} {L13 : Int32 × Int64 × Int32 × Int32 → Sto → Prop} {Q : Int32 → Sto → Prop} {Qx : Int32 → Xc → Prop} (hQ : ∀ (r : Int32) (σ' : Sto) (X' : Xc), Qx r X' → RefC m ad σ' X' → Fi m ad σ0 σ' → Q r σ') (hL13 : ∀ (t : Int32 × Int64 × Int32 × Int32) (σ : Sto) (X : Xc), Lx13 t X → RefC m ad σ X → Fi m ad σ0 σ → L13 t σ) (p1 : Int32) (p2 : Int64) (p4 : Int32) (p5 : Int32) (σ : Sto) (X : Xc) (hR : RefC m ad σ X) (F : Fi m ad σ0 σ) (h : bx_X12_readNumber_122 Lx13 Qx p1 p2 p4 p5 X) : b_X12_readNumber_122 m L13 Q p1 p2 p4 p5 σ := by
  unfold bx_X12_readNumber_122 at h
  unfold b_X12_readNumber_122
  refine ⟨hR.1.1, ?_⟩
  refine x_X12_wrongs hR h (fun σ2 X3 h hR F4 => ?_)
  have F := F.trans F4
  exact xb_X12_readNumber_128 hQ hL13 p1 p2 p4 p5 _ _ hR F h
def bx_X12_readNumber_109 (Lx13 : Int32 × Int64 × Int32 × Int32 → Xc → Prop) (Qx : Int32 → Xc → Prop) (p1 : Int32) (p2 : Int64) (p4 : Int32) (p5 : Int32) (p7 : Int32) (X : Xc) : Prop := ((p7 = 0 → bx_X12_readNumber_128 Lx13 Qx p1 p2 p4 p5 X) ∧ (¬ p7 = 0 → (((lg_cmp p2 (2147483647 : Int64)) ≤ 0 → bx_X12_readNumber_128 Lx13 Qx p1 p2 p4 p5 X) ∧ (¬ (lg_cmp p2 (2147483647 : Int64)) ≤ 0 → bx_X12_readNumber_122 Lx13 Qx p1 p2 p4 p5 X))))
set_option maxHeartbeats 4000000 in
set_option maxRecDepth 100000 in
theorem xb_X12_readNumber_109 {m : Nat} {ad : Nat → Nat} {σ0 : Sto} {Lx13 : Int32 × Int64 × Int32 × Int32 → Xc → Prop} {L13 : Int32 × Int64 × Int32 × Int32 → Sto → Prop} {Q : Int32 → Sto → Prop} {Qx : Int32 → Xc → Prop} (hQ : ∀ (r : Int32) (σ' : Sto) (X' : Xc), Qx r X' → RefC m ad σ' X' → Fi m ad σ0 σ' → Q r σ') (hL13 : ∀ (t : Int32 × Int64 × Int32 × Int32) (σ : Sto) (X : Xc), Lx13 t X → RefC m ad σ X → Fi m ad σ0 σ → L13 t σ) (p1 : Int32) (p2 : Int64) (p4 : Int32) (p5 : Int32) (p7 : Int32) (σ : Sto) (X : Xc) (hR : RefC m ad σ X) (F : Fi m ad σ0 σ) (h : bx_X12_readNumber_109 Lx13 Qx p1 p2 p4 p5 p7 X) : b_X12_readNumber_109 m L13 Q p1 p2 p4 p5 p7 σ := by
  unfold bx_X12_readNumber_109 at h
  unfold b_X12_readNumber_109
  refine ⟨fun c1 => ?_, fun c1 => ?_⟩
  · have h := h.1 c1
    exact xb_X12_readNumber_128 hQ hL13 p1 p2 p4 p5 _ _ hR F h
  · have h := h.2 c1
    refine ⟨fun c2 => ?_, fun c2 => ?_⟩
    · have h := h.1 c2
      exact xb_X12_readNumber_128 hQ hL13 p1 p2 p4 p5 _ _ hR F h
    · have h := h.2 c2
      exact xb_X12_readNumber_122 hQ hL13 p1 p2 p4 p5 _ _ hR F h
def bx_X12_readNumber_93 (Lx13 : Int32 × Int64 × Int32 × Int32 → Xc → Prop) (Qx : Int32 → Xc → Prop) (p1 : Int32) (p2 : Int64) (p4 : Int32) (p5 : Int32) (p6 : Int32) (p7 : Int32) (X : Xc) : Prop := ((p7 = 0 → bx_X12_readNumber_109 Lx13 Qx p1 p2 p4 p5 p7 X) ∧ (¬ p7 = 0 → ((p4 ≤ (1 : Int32) → bx_X12_readNumber_109 Lx13 Qx p1 p2 p4 p5 p7 X) ∧ (¬ p4 ≤ (1 : Int32) → ((p6 = 0 → bx_X12_readNumber_122 Lx13 Qx p1 p2 p4 p5 X) ∧ (¬ p6 = 0 → bx_X12_readNumber_109 Lx13 Qx p1 p2 p4 p5 p7 X))))))
set_option maxHeartbeats 4000000 in
set_option maxRecDepth 100000 in
theorem xb_X12_readNumber_93 {m : Nat} {ad : Nat → Nat} {σ0 : Sto} {Lx13 : Int32 × Int64 × Int32 × Int32 → Xc → Prop} {L13 : Int32 × Int64 × Int32 × Int32 → Sto → Prop} {Q : Int32 → Sto → Prop} {Qx : Int32 → Xc → Prop} (hQ : ∀ (r : Int32) (σ' : Sto) (X' : Xc), Qx r X' → RefC m ad σ' X' → Fi m ad σ0 σ' → Q r σ') (hL13 : ∀ (t : Int32 × Int64 × Int32 × Int32) (σ : Sto) (X : Xc), Lx13 t X → RefC m ad σ X → Fi m ad σ0 σ → L13 t σ) (p1 : Int32) (p2 : Int64) (p4 : Int32) (p5 : Int32) (p6 : Int32) (p7 : Int32) (σ : Sto) (X : Xc) (hR : RefC m ad σ X) (F : Fi m ad σ0 σ) (h : bx_X12_readNumber_93 Lx13 Qx p1 p2 p4 p5 p6 p7 X) : b_X12_readNumber_93 m L13 Q p1 p2 p4 p5 p6 p7 σ := by
  unfold bx_X12_readNumber_93 at h
  unfold b_X12_readNumber_93
  refine ⟨fun c1 => ?_, fun c1 => ?_⟩
  · have h := h.1 c1
    exact xb_X12_readNumber_109 hQ hL13 p1 p2 p4 p5 p7 _ _ hR F h
  · have h := h.2 c1
    refine ⟨fun c2 => ?_, fun c2 => ?_⟩
    · have h := h.1 c2
      exact xb_X12_readNumber_109 hQ hL13 p1 p2 p4 p5 p7 _ _ hR F h
    · have h := h.2 c2
      refine ⟨fun c3 => ?_, fun c3 => ?_⟩
      · have h := h.1 c3
        exact xb_X12_readNumber_122 hQ hL13 p1 p2 p4 p5 _ _ hR F h
      · have h := h.2 c3
        exact xb_X12_readNumber_109 hQ hL13 p1 p2 p4 p5 p7 _ _ hR F h
def bx_X12_readNumber_80 (Lx13 : Int32 × Int64 × Int32 × Int32 → Xc → Prop) (Qx : Int32 → Xc → Prop) (p1 : Int32) (p2 : Int64) (p4 : Int32) (p5 : Int32) (p6 : Int32) (s0 : Int32) (X : Xc) : Prop := ((p5 = 0 → bx_X12_readNumber_93 Lx13 Qx p1 p2 p4 p5 p6 s0 X) ∧ (¬ p5 = 0 → ((p4 = (5 : Int32) → bx_X12_readNumber_122 Lx13 Qx p1 p2 p4 p5 X) ∧ (¬ p4 = (5 : Int32) → bx_X12_readNumber_93 Lx13 Qx p1 p2 p4 p5 p6 s0 X))))
set_option maxHeartbeats 4000000 in
set_option maxRecDepth 100000 in
theorem xb_X12_readNumber_80 {m : Nat} {ad : Nat → Nat} {σ0 : Sto} {Lx13 : Int32 × Int64 × Int32 × Int32 → Xc → Prop} {L13 : Int32 × Int64 × Int32 × Int32 → Sto → Prop} {Q : Int32 → Sto → Prop} {Qx : Int32 → Xc → Prop} (hQ : ∀ (r : Int32) (σ' : Sto) (X' : Xc), Qx r X' → RefC m ad σ' X' → Fi m ad σ0 σ' → Q r σ') (hL13 : ∀ (t : Int32 × Int64 × Int32 × Int32) (σ : Sto) (X : Xc), Lx13 t X → RefC m ad σ X → Fi m ad σ0 σ → L13 t σ) (p1 : Int32) (p2 : Int64) (p4 : Int32) (p5 : Int32) (p6 : Int32) (s0 : Int32) (σ : Sto) (X : Xc) (hR : RefC m ad σ X) (F : Fi m ad σ0 σ) (h : bx_X12_readNumber_80 Lx13 Qx p1 p2 p4 p5 p6 s0 X) : b_X12_readNumber_80 m L13 Q p1 p2 p4 p5 p6 s0 σ := by
  unfold bx_X12_readNumber_80 at h
  unfold b_X12_readNumber_80
  refine ⟨fun c1 => ?_, fun c1 => ?_⟩
  · have h := h.1 c1
    exact xb_X12_readNumber_93 hQ hL13 p1 p2 p4 p5 p6 s0 _ _ hR F h
  · have h := h.2 c1
    refine ⟨fun c2 => ?_, fun c2 => ?_⟩
    · have h := h.1 c2
      exact xb_X12_readNumber_122 hQ hL13 p1 p2 p4 p5 _ _ hR F h
    · have h := h.2 c2
      exact xb_X12_readNumber_93 hQ hL13 p1 p2 p4 p5 p6 s0 _ _ hR F h
def bx_X12_readNumber_79 (Lx13 : Int32 × Int64 × Int32 × Int32 → Xc → Prop) (Qx : Int32 → Xc → Prop) (p1 : Int32) (p2 : Int64) (p4 : Int32) (p5 : Int32) (p6 : Int32) (X : Xc) : Prop := bx_X12_readNumber_80 Lx13 Qx p1 p2 p4 p5 p6 (0 : Int32) X
set_option maxHeartbeats 4000000 in
set_option maxRecDepth 100000 in
theorem xb_X12_readNumber_79 {m : Nat} {ad : Nat → Nat} {σ0 : Sto} {Lx13 : Int32 × Int64 × Int32 × Int32 → Xc → Prop} {L13 : Int32 × Int64 × Int32 × Int32 → Sto → Prop} {Q : Int32 → Sto → Prop} {Qx : Int32 → Xc → Prop} (hQ : ∀ (r : Int32) (σ' : Sto) (X' : Xc), Qx r X' → RefC m ad σ' X' → Fi m ad σ0 σ' → Q r σ') (hL13 : ∀ (t : Int32 × Int64 × Int32 × Int32) (σ : Sto) (X : Xc), Lx13 t X → RefC m ad σ X → Fi m ad σ0 σ → L13 t σ) (p1 : Int32) (p2 : Int64) (p4 : Int32) (p5 : Int32) (p6 : Int32) (σ : Sto) (X : Xc) (hR : RefC m ad σ X) (F : Fi m ad σ0 σ) (h : bx_X12_readNumber_79 Lx13 Qx p1 p2 p4 p5 p6 X) : b_X12_readNumber_79 m L13 Q p1 p2 p4 p5 p6 σ := by
  unfold bx_X12_readNumber_79 at h
  unfold b_X12_readNumber_79
  exact xb_X12_readNumber_80 hQ hL13 p1 p2 p4 p5 p6 (0 : Int32) _ _ hR F h
def bx_X12_readNumber_61 (Lx13 : Int32 × Int64 × Int32 × Int32 → Xc → Prop) (Qx : Int32 → Xc → Prop) (p1 : Int32) (p2 : Int64) (p4 : Int32) (p6 : Int32) (s0 : Int32) (X : Xc) : Prop := (∀ x1 : Int32, x1 = X.1 95 → ((¬ x1 = 0 → bx_X12_readNumber_79 Lx13 Qx p1 p2 p4 s0 p6 X) ∧ (x1 = 0 → ((¬ s0 = 0 → bx_X12_readNumber_79 Lx13 Qx p1 p2 p4 s0 p6 X) ∧ (s0 = 0 → bx_X12_readNumber_80 Lx13 Qx p1 p2 p4 s0 p6 (1 : Int32) X)))))
set_option maxHeartbeats 4000000 in
set_option maxRecDepth 100000 in
theorem xb_X12_readNumber_61 {m : Nat} {ad : Nat → Nat} {σ0 : Sto} {Lx13 : Int32 × Int64 × Int32 × Int32 → Xc → Prop} {L13 : Int32 × Int64 × Int32 × Int32 → Sto → Prop} {Q : Int32 → Sto → Prop} {Qx : Int32 → Xc → Prop} (hQ : ∀ (r : Int32) (σ' : Sto) (X' : Xc), Qx r X' → RefC m ad σ' X' → Fi m ad σ0 σ' → Q r σ') (hL13 : ∀ (t : Int32 × Int64 × Int32 × Int32) (σ : Sto) (X : Xc), Lx13 t X → RefC m ad σ X → Fi m ad σ0 σ → L13 t σ) (p1 : Int32) (p2 : Int64) (p4 : Int32) (p6 : Int32) (s0 : Int32) (σ : Sto) (X : Xc) (hR : RefC m ad σ X) (F : Fi m ad σ0 σ) (h : bx_X12_readNumber_61 Lx13 Qx p1 p2 p4 p6 s0 X) : b_X12_readNumber_61 m L13 Q p1 p2 p4 p6 s0 σ := by
  unfold bx_X12_readNumber_61 at h
  unfold b_X12_readNumber_61
  refine ⟨hR.1.1, ?_⟩
  intro x1 e2
  rw [hR.2.1 95] at e2
  have h := h x1 e2
  refine ⟨fun c3 => ?_, fun c3 => ?_⟩
  · have h := h.1 c3
    exact xb_X12_readNumber_79 hQ hL13 p1 p2 p4 s0 p6 _ _ hR F h
  · have h := h.2 c3
    refine ⟨fun c4 => ?_, fun c4 => ?_⟩
    · have h := h.1 c4
      exact xb_X12_readNumber_79 hQ hL13 p1 p2 p4 s0 p6 _ _ hR F h
    · have h := h.2 c4
      exact xb_X12_readNumber_80 hQ hL13 p1 p2 p4 s0 p6 (1 : Int32) _ _ hR F h
def fx_X12_readNumber_13 (Qx : Int32 → Xc → Prop) (Lx13 : Int32 × Int64 × Int32 × Int32 → Xc → Prop) (t : Int32 × Int64 × Int32 × Int32) (X : Xc) : Prop := ((t.2.2.2 = 0 → bx_X12_readNumber_131  Qx t.2.1 X) ∧ (¬ t.2.2.2 = 0 → (∀ x2 : Int32, x2 = X.1 95 → ((¬ x2 = 0 → bx_X12_readNumber_131  Qx t.2.1 X) ∧ (x2 = 0 → (wx_X12_next  X (fun (x5 : Int32) (X7 : Xc) => (∀ y9 : Int64, y9 = t.2.1 ||| (((x5 &&& (127 : Int32)).toInt64) <<< (((7 : Int32) * t.2.2.1).toInt64 &&& 63)) → (∀ x11 : Int32, x11 = t.2.2.1 + (1 : Int32) → ((x5 ≤ (127 : Int32) → bx_X12_readNumber_61 Lx13 Qx t.1 y9 x11 x5 (0 : Int32) X7) ∧ (¬ x5 ≤ (127 : Int32) → bx_X12_readNumber_61 Lx13 Qx t.1 y9 x11 x5 (1 : Int32) X7)))))))))))
set_option maxHeartbeats 4000000 in
set_option maxRecDepth 100000 in
theorem xf_X12_readNumber_13 {m : Nat} {ad : Nat → Nat} {σ0 : Sto} {Q : Int32 → Sto → Prop} {Qx : Int32 → Xc → Prop} {Lx13 : Int32 × Int64 × Int32 × Int32 → Xc → Prop} {L13 : Int32 × Int64 × Int32 × Int32 → Sto → Prop} (hQ : ∀ (r : Int32) (σ' : Sto) (X' : Xc), Qx r X' → RefC m ad σ' X' → Fi m ad σ0 σ' → Q r σ') (hL13 : ∀ (t : Int32 × Int64 × Int32 × Int32) (σ : Sto) (X : Xc), Lx13 t X → RefC m ad σ X → Fi m ad σ0 σ → L13 t σ) : ∀ (t : Int32 × Int64 × Int32 × Int32) (σ : Sto) (X : Xc), RefC m ad σ X → Fi m ad σ0 σ → fx_X12_readNumber_13  Qx Lx13 t X → f_X12_readNumber_13 m  Q L13 t σ := by
  intro t σ X hR F h
  unfold fx_X12_readNumber_13 at h
  unfold f_X12_readNumber_13
  refine ⟨fun c1 => ?_, fun c1 => ?_⟩
  · have h := h.1 c1
    exact xb_X12_readNumber_131 hQ  t.2.1 _ _ hR F h
  · have h := h.2 c1
    refine ⟨hR.1.1, ?_⟩
    intro x2 e3
    rw [hR.2.1 95] at e3
    have h := h x2 e3
    refine ⟨fun c4 => ?_, fun c4 => ?_⟩
    · have h := h.1 c4
      exact xb_X12_readNumber_131 hQ  t.2.1 _ _ hR F h
    · have h := h.2 c4
      refine x_X12_next hR h (fun x5 σ6 X7 h hR F8 => ?_)
      have F := F.trans F8
      intro y9 e10
      have h := h y9 e10
      intro x11 e12
      have h := h x11 e12
      refine ⟨fun c13 => ?_, fun c13 => ?_⟩
      · have h := h.1 c13
        exact xb_X12_readNumber_61 hQ hL13 t.1 y9 x11 x5 (0 : Int32) _ _ hR F h
      · have h := h.2 c13
        exact xb_X12_readNumber_61 hQ hL13 t.1 y9 x11 x5 (1 : Int32) _ _ hR F h
def wx_X12_readNumber  (X : Xc) (Qx : Int32 → Xc → Prop) : Prop := (∀ x1 : Int32, x1 = X.1 94 → LFx (fx_X12_readNumber_13  Qx) (x1, (0 : Int64), (0 : Int32), (1 : Int32)) X)
set_option maxHeartbeats 4000000 in
set_option maxRecDepth 100000 in
theorem x_X12_readNumber {m : Nat} {ad : Nat → Nat} {σ : Sto} {X : Xc} {Q : Int32 → Sto → Prop} {Qx : Int32 → Xc → Prop} (hR : RefC m ad σ X) (h : wx_X12_readNumber  X Qx) (hQ : ∀ (r : Int32) (σ' : Sto) (X' : Xc), Qx r X' → RefC m ad σ' X' → Fi m ad σ σ' → Q r σ') : wp_X12_readNumber m  σ Q := by
  have F : Fi m ad σ σ := Fi.rf
  unfold wx_X12_readNumber at h
  unfold wp_X12_readNumber
  refine ⟨hR.1.1, ?_⟩
  intro x1 e2
  rw [hR.2.1 94] at e2
  have h := h x1 e2
  exact lfx h hR F (fun Lx L hL t σ X hR F h => xf_X12_readNumber_13 hQ  hL t σ X hR F h)
def fx_X12_nextWord_4 (Qx : Int32 → Xc → Prop) (Lx4 : Int32 × Int32 → Xc → Prop) (t : Int32 × Int32) (X : Xc) : Prop := (((4 : Int32) ≤ t.2 → Qx t.1 X) ∧ (¬ (4 : Int32) ≤ t.2 → (wx_X12_next  X (fun (x2 : Int32) (X4 : Xc) => (∀ x6 : Int32, x6 = (t.1 <<< ((8 : Int32) &&& 31)) ||| x2 → (∀ x8 : Int32, x8 = t.2 + (1 : Int32) → Lx4 (x6, x8) X4))))))
set_option maxHeartbeats 4000000 in
set_option maxRecDepth 100000 in
theorem xf_X12_nextWord_4 {m : Nat} {ad : Nat → Nat} {σ0 : Sto} {Q : Int32 → Sto → Prop} {Qx : Int32 → Xc → Prop} {Lx4 : Int32 × Int32 → Xc → Prop} {L4 : Int32 × Int32 → Sto → Prop} (hQ : ∀ (r : Int32) (σ' : Sto) (X' : Xc), Qx r X' → RefC m ad σ' X' → Fi m ad σ0 σ' → Q r σ') (hL4 : ∀ (t : Int32 × Int32) (σ : Sto) (X : Xc), Lx4 t X → RefC m ad σ X → Fi m ad σ0 σ → L4 t σ) : ∀ (t : Int32 × Int32) (σ : Sto) (X : Xc), RefC m ad σ X → Fi m ad σ0 σ → fx_X12_nextWord_4  Qx Lx4 t X → f_X12_nextWord_4 m  Q L4 t σ := by
  intro t σ X hR F h
  unfold fx_X12_nextWord_4 at h
  unfold f_X12_nextWord_4
  refine ⟨fun c1 => ?_, fun c1 => ?_⟩
  · have h := h.1 c1
    exact hQ _ _ _ h hR F
  · have h := h.2 c1
    refine ⟨hR.1.1, ?_⟩
    refine x_X12_next hR h (fun x2 σ3 X4 h hR F5 => ?_)
    have F := F.trans F5
    intro x6 e7
    have h := h x6 e7
    intro x8 e9
    have h := h x8 e9
    exact hL4 _ _ _ h hR F
def wx_X12_nextWord  (X : Xc) (Qx : Int32 → Xc → Prop) : Prop := LFx (fx_X12_nextWord_4  Qx) ((0 : Int32), (0 : Int32)) X
set_option maxHeartbeats 4000000 in
set_option maxRecDepth 100000 in
theorem x_X12_nextWord {m : Nat} {ad : Nat → Nat} {σ : Sto} {X : Xc} {Q : Int32 → Sto → Prop} {Qx : Int32 → Xc → Prop} (hR : RefC m ad σ X) (h : wx_X12_nextWord  X Qx) (hQ : ∀ (r : Int32) (σ' : Sto) (X' : Xc), Qx r X' → RefC m ad σ' X' → Fi m ad σ σ' → Q r σ') : wp_X12_nextWord m  σ Q := by
  have F : Fi m ad σ σ := Fi.rf
  unfold wx_X12_nextWord at h
  unfold wp_X12_nextWord
  exact lfx h hR F (fun Lx L hL t σ X hR F h => xf_X12_nextWord_4 hQ  hL t σ X hR F h)
def wx_X12_readRequest  (X : Xc) (Qx : Xc → Prop) : Prop := (wx_X12_readByte (3 : Int32) X (fun (x1 : Int32) (X3 : Xc) => (wx_X12_readNumber  X3 (fun (x5 : Int32) (X7 : Xc) => (wx_X12_readByte (2 : Int32) X7 (fun (x9 : Int32) (X11 : Xc) => (wx_X12_readByte (7 : Int32) X11 (fun (x13 : Int32) (X15 : Xc) => (wx_X12_nextWord  X15 (fun (x17 : Int32) (X19 : Xc) => (wx_X12_keep x17 X19 (fun (X23 : Xc) => Qx X23))))))))))))
set_option maxHeartbeats 4000000 in
set_option maxRecDepth 100000 in
theorem x_X12_readRequest {m : Nat} {ad : Nat → Nat} {σ : Sto} {X : Xc} {Q : Sto → Prop} {Qx : Xc → Prop} (hR : RefC m ad σ X) (h : wx_X12_readRequest  X Qx) (hQ : ∀ (σ' : Sto) (X' : Xc), Qx X' → RefC m ad σ' X' → Fi m ad σ σ' → Q σ') : wp_X12_readRequest m  σ Q := by
  have F : Fi m ad σ σ := Fi.rf
  unfold wx_X12_readRequest at h
  unfold wp_X12_readRequest
  refine ⟨hR.1.1, ?_⟩
  refine x_X12_readByte hR h (fun x1 σ2 X3 h hR F4 => ?_)
  have F := F.trans F4
  refine ⟨hR.1.1, ?_⟩
  refine x_X12_readNumber hR h (fun x5 σ6 X7 h hR F8 => ?_)
  have F := F.trans F8
  refine ⟨hR.1.1, ?_⟩
  refine x_X12_readByte hR h (fun x9 σ10 X11 h hR F12 => ?_)
  have F := F.trans F12
  refine ⟨hR.1.1, ?_⟩
  refine x_X12_readByte hR h (fun x13 σ14 X15 h hR F16 => ?_)
  have F := F.trans F16
  refine ⟨hR.1.1, ?_⟩
  refine x_X12_nextWord hR h (fun x17 σ18 X19 h hR F20 => ?_)
  have F := F.trans F20
  refine ⟨hR.1.1, ?_⟩
  refine x_X12_keep hR h (fun σ22 X23 h hR F24 => ?_)
  have F := F.trans F24
  exact hQ _ _ h hR F
def bx_X12_readLog_49 (Lx24 : Int32 × Int32 → Xc → Prop) (Qx : Xc → Prop) (p2 : Int32) (p3 : Int32) (X : Xc) : Prop := (∀ x1 : Int32, x1 = p3 + (1 : Int32) → Lx24 (p2, x1) X)
set_option maxHeartbeats 4000000 in
set_option maxRecDepth 100000 in
theorem xb_X12_readLog_49 {m : Nat} {ad : Nat → Nat} {σ0 : Sto} {Lx24 : Int32 × Int32 → Xc → Prop} {L24 : Int32 × Int32 → Sto → Prop} {Q : Sto → Prop} {Qx : Xc → Prop} (hQ : ∀ (σ' : Sto) (X' : Xc), Qx X' → RefC m ad σ' X' → Fi m ad σ0 σ' → Q σ') (hL24 : ∀ (t : Int32 × Int32) (σ : Sto) (X : Xc), Lx24 t X → RefC m ad σ X → Fi m ad σ0 σ → L24 t σ) (p2 : Int32) (p3 : Int32) (σ : Sto) (X : Xc) (hR : RefC m ad σ X) (F : Fi m ad σ0 σ) (h : bx_X12_readLog_49 Lx24 Qx p2 p3 X) : b_X12_readLog_49 m L24 Q p2 p3 σ := by
  unfold bx_X12_readLog_49 at h
  unfold b_X12_readLog_49
  intro x1 e2
  have h := h x1 e2
  exact hL24 _ _ _ h hR F
def fx_X12_readLog_24 (Qx : Xc → Prop) (Lx24 : Int32 × Int32 → Xc → Prop) (t : Int32 × Int32) (X : Xc) : Prop := ((t.1 ≤ t.2 → Qx X) ∧ (¬ t.1 ≤ t.2 → (∀ x2 : Int32, x2 = X.1 95 → ((¬ x2 = 0 → Qx X) ∧ (x2 = 0 → (wx_X12_readByte (1 : Int32) X (fun (x5 : Int32) (X7 : Xc) => ((¬ x5 = (1 : Int32) → bx_X12_readLog_49 Lx24 Qx t.1 t.2 X7) ∧ (x5 = (1 : Int32) → (wx_X12_readRequest  X7 (fun (X12 : Xc) => bx_X12_readLog_49 Lx24 Qx t.1 t.2 X12)))))))))))
set_option maxHeartbeats 4000000 in
set_option maxRecDepth 100000 in
theorem xf_X12_readLog_24 {m : Nat} {ad : Nat → Nat} {σ0 : Sto} {Q : Sto → Prop} {Qx : Xc → Prop} {Lx24 : Int32 × Int32 → Xc → Prop} {L24 : Int32 × Int32 → Sto → Prop} (hQ : ∀ (σ' : Sto) (X' : Xc), Qx X' → RefC m ad σ' X' → Fi m ad σ0 σ' → Q σ') (hL24 : ∀ (t : Int32 × Int32) (σ : Sto) (X : Xc), Lx24 t X → RefC m ad σ X → Fi m ad σ0 σ → L24 t σ) : ∀ (t : Int32 × Int32) (σ : Sto) (X : Xc), RefC m ad σ X → Fi m ad σ0 σ → fx_X12_readLog_24  Qx Lx24 t X → f_X12_readLog_24 m  Q L24 t σ := by
  intro t σ X hR F h
  unfold fx_X12_readLog_24 at h
  unfold f_X12_readLog_24
  refine ⟨fun c1 => ?_, fun c1 => ?_⟩
  · have h := h.1 c1
    exact hQ _ _ h hR F
  · have h := h.2 c1
    refine ⟨hR.1.1, ?_⟩
    intro x2 e3
    rw [hR.2.1 95] at e3
    have h := h x2 e3
    refine ⟨fun c4 => ?_, fun c4 => ?_⟩
    · have h := h.1 c4
      exact hQ _ _ h hR F
    · have h := h.2 c4
      refine x_X12_readByte hR h (fun x5 σ6 X7 h hR F8 => ?_)
      have F := F.trans F8
      refine ⟨fun c9 => ?_, fun c9 => ?_⟩
      · have h := h.1 c9
        exact xb_X12_readLog_49 hQ hL24 t.1 t.2 _ _ hR F h
      · have h := h.2 c9
        refine ⟨hR.1.1, ?_⟩
        refine x_X12_readRequest hR h (fun σ11 X12 h hR F13 => ?_)
        have F := F.trans F13
        exact xb_X12_readLog_49 hQ hL24 t.1 t.2 _ _ hR F h
def bx_X12_readLog_22 (Qx : Xc → Prop) (p2 : Int32) (X : Xc) : Prop := LFx (fx_X12_readLog_24  Qx) (p2, (0 : Int32)) X
set_option maxHeartbeats 4000000 in
set_option maxRecDepth 100000 in
theorem xb_X12_readLog_22 {m : Nat} {ad : Nat → Nat} {σ0 : Sto} {Q : Sto → Prop} {Qx : Xc → Prop} (hQ : ∀ (σ' : Sto) (X' : Xc), Qx X' → RefC m ad σ' X' → Fi m ad σ0 σ' → Q σ')  (p2 : Int32) (σ : Sto) (X : Xc) (hR : RefC m ad σ X) (F : Fi m ad σ0 σ) (h : bx_X12_readLog_22  Qx p2 X) : b_X12_readLog_22 m  Q p2 σ := by
  unfold bx_X12_readLog_22 at h
  unfold b_X12_readLog_22
  exact lfx h hR F (fun Lx L hL t σ X hR F h => xf_X12_readLog_24 hQ  hL t σ X hR F h)
def wx_X12_readLog  (X : Xc) (Qx : Xc → Prop) : Prop := (∀ x1 : Int32, x1 = X.1 94 → (wx_X12_readNumber  X (fun (x3 : Int32) (X5 : Xc) => ((x3 ≤ (100 : Int32) → bx_X12_readLog_22  Qx x3 X5) ∧ (¬ x3 ≤ (100 : Int32) → (wx_X12_wrongs (4 : Int32) x1 X5 (fun (X10 : Xc) => bx_X12_readLog_22  Qx x3 X10)))))))
set_option maxHeartbeats 4000000 in
set_option maxRecDepth 100000 in
theorem x_X12_readLog {m : Nat} {ad : Nat → Nat} {σ : Sto} {X : Xc} {Q : Sto → Prop} {Qx : Xc → Prop} (hR : RefC m ad σ X) (h : wx_X12_readLog  X Qx) (hQ : ∀ (σ' : Sto) (X' : Xc), Qx X' → RefC m ad σ' X' → Fi m ad σ σ' → Q σ') : wp_X12_readLog m  σ Q := by
  have F : Fi m ad σ σ := Fi.rf
  unfold wx_X12_readLog at h
  unfold wp_X12_readLog
  refine ⟨hR.1.1, ?_⟩
  intro x1 e2
  rw [hR.2.1 94] at e2
  have h := h x1 e2
  refine x_X12_readNumber hR h (fun x3 σ4 X5 h hR F6 => ?_)
  have F := F.trans F6
  refine ⟨fun c7 => ?_, fun c7 => ?_⟩
  · have h := h.1 c7
    exact xb_X12_readLog_22 hQ  x3 _ _ hR F h
  · have h := h.2 c7
    refine ⟨hR.1.1, ?_⟩
    refine x_X12_wrongs hR h (fun σ9 X10 h hR F11 => ?_)
    have F := F.trans F11
    exact xb_X12_readLog_22 hQ  x3 _ _ hR F h
def bx_X12_readEnd_59 (Qx : Xc → Prop) (p3 : Int32) (X : Xc) : Prop := (wx_X12_keep p3 X (fun (X3 : Xc) => Qx X3))
set_option maxHeartbeats 4000000 in
set_option maxRecDepth 100000 in
theorem xb_X12_readEnd_59 {m : Nat} {ad : Nat → Nat} {σ0 : Sto} {Q : Sto → Prop} {Qx : Xc → Prop} (hQ : ∀ (σ' : Sto) (X' : Xc), Qx X' → RefC m ad σ' X' → Fi m ad σ0 σ' → Q σ')  (p3 : Int32) (σ : Sto) (X : Xc) (hR : RefC m ad σ X) (F : Fi m ad σ0 σ) (h : bx_X12_readEnd_59  Qx p3 X) : b_X12_readEnd_59 m  Q p3 σ := by
  unfold bx_X12_readEnd_59 at h
  unfold b_X12_readEnd_59
  refine ⟨hR.1.1, ?_⟩
  refine x_X12_keep hR h (fun σ2 X3 h hR F4 => ?_)
  have F := F.trans F4
  exact hQ _ _ h hR F
def bx_X12_readEnd_46 (Qx : Xc → Prop) (p2 : Int32) (p3 : Int32) (s0 : Int32) (X : Xc) : Prop := ((¬ s0 = 0 → bx_X12_readEnd_59  Qx p3 X) ∧ (s0 = 0 → (wx_X12_wrongs (2 : Int32) p2 X (fun (X4 : Xc) => bx_X12_readEnd_59  Qx p3 X4))))
set_option maxHeartbeats 4000000 in
set_option maxRecDepth 100000 in
theorem xb_X12_readEnd_46 {m : Nat} {ad : Nat → Nat} {σ0 : Sto} {Q : Sto → Prop} {Qx : Xc → Prop} (hQ : ∀ (σ' : Sto) (X' : Xc), Qx X' → RefC m ad σ' X' → Fi m ad σ0 σ' → Q σ')  (p2 : Int32) (p3 : Int32) (s0 : Int32) (σ : Sto) (X : Xc) (hR : RefC m ad σ X) (F : Fi m ad σ0 σ) (h : bx_X12_readEnd_46  Qx p2 p3 s0 X) : b_X12_readEnd_46 m  Q p2 p3 s0 σ := by
  unfold bx_X12_readEnd_46 at h
  unfold b_X12_readEnd_46
  refine ⟨fun c1 => ?_, fun c1 => ?_⟩
  · have h := h.1 c1
    exact xb_X12_readEnd_59 hQ  p3 _ _ hR F h
  · have h := h.2 c1
    refine ⟨hR.1.1, ?_⟩
    refine x_X12_wrongs hR h (fun σ3 X4 h hR F5 => ?_)
    have F := F.trans F5
    exact xb_X12_readEnd_59 hQ  p3 _ _ hR F h
def bx_X12_readEnd_45 (Qx : Xc → Prop) (p2 : Int32) (p3 : Int32) (X : Xc) : Prop := bx_X12_readEnd_46  Qx p2 p3 (0 : Int32) X
set_option maxHeartbeats 4000000 in
set_option maxRecDepth 100000 in
theorem xb_X12_readEnd_45 {m : Nat} {ad : Nat → Nat} {σ0 : Sto} {Q : Sto → Prop} {Qx : Xc → Prop} (hQ : ∀ (σ' : Sto) (X' : Xc), Qx X' → RefC m ad σ' X' → Fi m ad σ0 σ' → Q σ')  (p2 : Int32) (p3 : Int32) (σ : Sto) (X : Xc) (hR : RefC m ad σ X) (F : Fi m ad σ0 σ) (h : bx_X12_readEnd_45  Qx p2 p3 X) : b_X12_readEnd_45 m  Q p2 p3 σ := by
  unfold bx_X12_readEnd_45 at h
  unfold b_X12_readEnd_45
  exact xb_X12_readEnd_46 hQ  p2 p3 (0 : Int32) _ _ hR F h
def bx_X12_readEnd_41 (Qx : Xc → Prop) (p2 : Int32) (p3 : Int32) (X : Xc) : Prop := bx_X12_readEnd_46  Qx p2 p3 (1 : Int32) X
set_option maxHeartbeats 4000000 in
set_option maxRecDepth 100000 in
theorem xb_X12_readEnd_41 {m : Nat} {ad : Nat → Nat} {σ0 : Sto} {Q : Sto → Prop} {Qx : Xc → Prop} (hQ : ∀ (σ' : Sto) (X' : Xc), Qx X' → RefC m ad σ' X' → Fi m ad σ0 σ' → Q σ')  (p2 : Int32) (p3 : Int32) (σ : Sto) (X : Xc) (hR : RefC m ad σ X) (F : Fi m ad σ0 σ) (h : bx_X12_readEnd_41  Qx p2 p3 X) : b_X12_readEnd_41 m  Q p2 p3 σ := by
  unfold bx_X12_readEnd_41 at h
  unfold b_X12_readEnd_41
  exact xb_X12_readEnd_46 hQ  p2 p3 (1 : Int32) _ _ hR F h
def wx_X12_readEnd (p1 : Int32) (X : Xc) (Qx : Xc → Prop) : Prop := (∀ x1 : Int32, x1 = X.1 94 → (wx_X12_next  X (fun (x3 : Int32) (X5 : Xc) => ((x3 ≤ (6 : Int32) → bx_X12_readEnd_41  Qx x1 x3 X5) ∧ (¬ x3 ≤ (6 : Int32) → ((p1 = 0 → (wx_X12_in x3 (16 : Int32) (19 : Int32) X5 (fun (x9 : Int32) (X11 : Xc) => ((x9 = 0 → bx_X12_readEnd_45  Qx x1 x3 X11) ∧ (¬ x9 = 0 → bx_X12_readEnd_41  Qx x1 x3 X11))))) ∧ (¬ p1 = 0 → ((¬ x3 = (255 : Int32) → bx_X12_readEnd_45  Qx x1 x3 X5) ∧ (x3 = (255 : Int32) → bx_X12_readEnd_41  Qx x1 x3 X5)))))))))
set_option maxHeartbeats 4000000 in
set_option maxRecDepth 100000 in
theorem x_X12_readEnd {m : Nat} {ad : Nat → Nat} {p1 : Int32} {σ : Sto} {X : Xc} {Q : Sto → Prop} {Qx : Xc → Prop} (hR : RefC m ad σ X) (h : wx_X12_readEnd p1 X Qx) (hQ : ∀ (σ' : Sto) (X' : Xc), Qx X' → RefC m ad σ' X' → Fi m ad σ σ' → Q σ') : wp_X12_readEnd m p1 σ Q := by
  have F : Fi m ad σ σ := Fi.rf
  unfold wx_X12_readEnd at h
  unfold wp_X12_readEnd
  refine ⟨hR.1.1, ?_⟩
  intro x1 e2
  rw [hR.2.1 94] at e2
  have h := h x1 e2
  refine x_X12_next hR h (fun x3 σ4 X5 h hR F6 => ?_)
  have F := F.trans F6
  refine ⟨fun c7 => ?_, fun c7 => ?_⟩
  · have h := h.1 c7
    exact xb_X12_readEnd_41 hQ  x1 x3 _ _ hR F h
  · have h := h.2 c7
    refine ⟨fun c8 => ?_, fun c8 => ?_⟩
    · have h := h.1 c8
      refine x_X12_in hR h (fun x9 σ10 X11 h hR F12 => ?_)
      have F := F.trans F12
      refine ⟨fun c13 => ?_, fun c13 => ?_⟩
      · have h := h.1 c13
        exact xb_X12_readEnd_45 hQ  x1 x3 _ _ hR F h
      · have h := h.2 c13
        exact xb_X12_readEnd_41 hQ  x1 x3 _ _ hR F h
    · have h := h.2 c8
      refine ⟨fun c14 => ?_, fun c14 => ?_⟩
      · have h := h.1 c14
        exact xb_X12_readEnd_45 hQ  x1 x3 _ _ hR F h
      · have h := h.2 c14
        exact xb_X12_readEnd_41 hQ  x1 x3 _ _ hR F h
