def wx_X12_modulo (p0 : Int32) (p1 : Int32) (X : Xc) (Qx : Int32 → Xc → Prop) : Prop := (¬ p1 = 0 ∧ (∀ x1 : Int32, x1 = p0 - p0 / p1 * p1 → ((0 ≤ x1 → Qx x1 X) ∧ (¬ 0 ≤ x1 → Qx (x1 + p1) X))))
set_option maxHeartbeats 4000000 in
set_option maxRecDepth 100000 in
theorem x_X12_modulo {m : Nat} {ad : Nat → Nat} {p0 : Int32} {p1 : Int32} {σ : Sto} {X : Xc} {Q : Int32 → Sto → Prop} {Qx : Int32 → Xc → Prop} (hR : RefC m ad σ X) (h : wx_X12_modulo p0 p1 X Qx) (hQ : ∀ (r : Int32) (σ' : Sto) (X' : Xc), Qx r X' → RefC m ad σ' X' → Fi m ad σ σ' → Q r σ') : wp_X12_modulo p0 p1 σ Q := by
  have F : Fi m ad σ σ := Fi.rf
  unfold wx_X12_modulo at h
  unfold wp_X12_modulo
  refine ⟨h.1, ?_⟩
  have h := h.2
  intro x1 e2
  have h := h x1 e2
  refine ⟨fun c3 => ?_, fun c3 => ?_⟩
  · have h := h.1 c3
    exact hQ _ _ _ h hR F
  · have h := h.2 c3
    exact hQ _ _ _ h hR F
def wx_X12_thrown  (X : Xc) (Qx : Int32 → Xc → Prop) : Prop := (∀ x1 : Int32, x1 = X.1 0 → Qx x1 X)
set_option maxHeartbeats 4000000 in
set_option maxRecDepth 100000 in
theorem x_X12_thrown {m : Nat} {ad : Nat → Nat} {σ : Sto} {X : Xc} {Q : Int32 → Sto → Prop} {Qx : Int32 → Xc → Prop} (hR : RefC m ad σ X) (h : wx_X12_thrown  X Qx) (hQ : ∀ (r : Int32) (σ' : Sto) (X' : Xc), Qx r X' → RefC m ad σ' X' → Fi m ad σ σ' → Q r σ') : wp_X12_thrown m  σ Q := by
  have F : Fi m ad σ σ := Fi.rf
  unfold wx_X12_thrown at h
  unfold wp_X12_thrown
  refine ⟨hR.1.1, ?_⟩
  intro x1 e2
  rw [hR.2.1 0] at e2
  have h := h x1 e2
  exact hQ _ _ _ h hR F
def wx_X12_refuse (p1 : Int32) (X : Xc) (Qx : Int32 → Xc → Prop) : Prop := Qx (0 : Int32) (xS X 0 p1)
set_option maxHeartbeats 4000000 in
set_option maxRecDepth 100000 in
theorem x_X12_refuse {m : Nat} {ad : Nat → Nat} {p1 : Int32} {σ : Sto} {X : Xc} {Q : Int32 → Sto → Prop} {Qx : Int32 → Xc → Prop} (hR : RefC m ad σ X) (h : wx_X12_refuse p1 X Qx) (hQ : ∀ (r : Int32) (σ' : Sto) (X' : Xc), Qx r X' → RefC m ad σ' X' → Fi m ad σ σ' → Q r σ') : wp_X12_refuse m p1 σ Q := by
  have F : Fi m ad σ σ := Fi.rf
  unfold wx_X12_refuse at h
  unfold wp_X12_refuse
  refine ⟨hR.1.1, ?_⟩
  have F := F.S (k := 0) (v := p1)
  have hR := hR.S (k := 0) (v := p1)
  exact hQ _ _ _ h hR F
def wx_X12_in (p0 : Int32) (p1 : Int32) (p2 : Int32) (X : Xc) (Qx : Int32 → Xc → Prop) : Prop := ((p0 < p1 → Qx (0 : Int32) X) ∧ (¬ p0 < p1 → ((p2 < p0 → Qx (0 : Int32) X) ∧ (¬ p2 < p0 → Qx (1 : Int32) X))))
set_option maxHeartbeats 4000000 in
set_option maxRecDepth 100000 in
theorem x_X12_in {m : Nat} {ad : Nat → Nat} {p0 : Int32} {p1 : Int32} {p2 : Int32} {σ : Sto} {X : Xc} {Q : Int32 → Sto → Prop} {Qx : Int32 → Xc → Prop} (hR : RefC m ad σ X) (h : wx_X12_in p0 p1 p2 X Qx) (hQ : ∀ (r : Int32) (σ' : Sto) (X' : Xc), Qx r X' → RefC m ad σ' X' → Fi m ad σ σ' → Q r σ') : wp_X12_in p0 p1 p2 σ Q := by
  have F : Fi m ad σ σ := Fi.rf
  unfold wx_X12_in at h
  unfold wp_X12_in
  refine ⟨fun c1 => ?_, fun c1 => ?_⟩
  · have h := h.1 c1
    exact hQ _ _ _ h hR F
  · have h := h.2 c1
    refine ⟨fun c2 => ?_, fun c2 => ?_⟩
    · have h := h.1 c2
      exact hQ _ _ _ h hR F
    · have h := h.2 c2
      exact hQ _ _ _ h hR F
def wx_X12_isReplica (p1 : Int32) (X : Xc) (Qx : Int32 → Xc → Prop) : Prop := (∀ x1 : Int32, x1 = X.1 1 → (wx_X12_in p1 (0 : Int32) (x1 - (1 : Int32)) X (fun (x3 : Int32) (X5 : Xc) => ((x3 = 0 ∨ x3 = 1) ∧ Qx x3 X5))))
set_option maxHeartbeats 4000000 in
set_option maxRecDepth 100000 in
theorem x_X12_isReplica {m : Nat} {ad : Nat → Nat} {p1 : Int32} {σ : Sto} {X : Xc} {Q : Int32 → Sto → Prop} {Qx : Int32 → Xc → Prop} (hR : RefC m ad σ X) (h : wx_X12_isReplica p1 X Qx) (hQ : ∀ (r : Int32) (σ' : Sto) (X' : Xc), Qx r X' → RefC m ad σ' X' → Fi m ad σ σ' → Q r σ') : wp_X12_isReplica m p1 σ Q := by
  have F : Fi m ad σ σ := Fi.rf
  unfold wx_X12_isReplica at h
  unfold wp_X12_isReplica
  refine ⟨hR.1.1, ?_⟩
  intro x1 e2
  rw [hR.2.1 1] at e2
  have h := h x1 e2
  refine x_X12_in hR h (fun x3 σ4 X5 h hR F6 => ?_)
  have F := F.trans F6
  exact ⟨h.1, hQ _ _ _ h.2 hR F⟩
def wx_X12_isClient (p0 : Int32) (X : Xc) (Qx : Int32 → Xc → Prop) : Prop := (wx_X12_in p0 (0 : Int32) (3 : Int32) X (fun (x1 : Int32) (X3 : Xc) => ((x1 = 0 ∨ x1 = 1) ∧ Qx x1 X3)))
set_option maxHeartbeats 4000000 in
set_option maxRecDepth 100000 in
theorem x_X12_isClient {m : Nat} {ad : Nat → Nat} {p0 : Int32} {σ : Sto} {X : Xc} {Q : Int32 → Sto → Prop} {Qx : Int32 → Xc → Prop} (hR : RefC m ad σ X) (h : wx_X12_isClient p0 X Qx) (hQ : ∀ (r : Int32) (σ' : Sto) (X' : Xc), Qx r X' → RefC m ad σ' X' → Fi m ad σ σ' → Q r σ') : wp_X12_isClient p0 σ Q := by
  have F : Fi m ad σ σ := Fi.rf
  unfold wx_X12_isClient at h
  unfold wp_X12_isClient
  refine x_X12_in hR h (fun x1 σ2 X3 h hR F4 => ?_)
  have F := F.trans F4
  exact ⟨h.1, hQ _ _ _ h.2 hR F⟩
def fx_X12_bits_4 (Qx : Int32 → Xc → Prop) (Lx4 : Int32 × Int32 × Int32 → Xc → Prop) (t : Int32 × Int32 × Int32) (X : Xc) : Prop := (((7 : Int32) ≤ t.2.2 → Qx t.2.1 X) ∧ (¬ (7 : Int32) ≤ t.2.2 → (∀ x2 : Int32, x2 = t.2.1 + ((t.1 >>> (t.2.2 &&& 31)) &&& (1 : Int32)) → (∀ x4 : Int32, x4 = t.2.2 + (1 : Int32) → Lx4 (t.1, x2, x4) X))))
set_option maxHeartbeats 4000000 in
set_option maxRecDepth 100000 in
theorem xf_X12_bits_4 {m : Nat} {ad : Nat → Nat} {σ0 : Sto} {Q : Int32 → Sto → Prop} {Qx : Int32 → Xc → Prop} {Lx4 : Int32 × Int32 × Int32 → Xc → Prop} {L4 : Int32 × Int32 × Int32 → Sto → Prop} (hQ : ∀ (r : Int32) (σ' : Sto) (X' : Xc), Qx r X' → RefC m ad σ' X' → Fi m ad σ0 σ' → Q r σ') (hL4 : ∀ (t : Int32 × Int32 × Int32) (σ : Sto) (X : Xc), Lx4 t X → RefC m ad σ X → Fi m ad σ0 σ → L4 t σ) : ∀ (t : Int32 × Int32 × Int32) (σ : Sto) (X : Xc), RefC m ad σ X → Fi m ad σ0 σ → fx_X12_bits_4  Qx Lx4 t X → f_X12_bits_4  Q L4 t σ := by
  intro t σ X hR F h
  unfold fx_X12_bits_4 at h
  unfold f_X12_bits_4
  refine ⟨fun c1 => ?_, fun c1 => ?_⟩
  · have h := h.1 c1
    exact hQ _ _ _ h hR F
  · have h := h.2 c1
    intro x2 e3
    have h := h x2 e3
    intro x4 e5
    have h := h x4 e5
    exact hL4 _ _ _ h hR F
def wx_X12_bits (p0 : Int32) (X : Xc) (Qx : Int32 → Xc → Prop) : Prop := LFx (fx_X12_bits_4  Qx) (p0, (0 : Int32), (0 : Int32)) X
set_option maxHeartbeats 4000000 in
set_option maxRecDepth 100000 in
theorem x_X12_bits {m : Nat} {ad : Nat → Nat} {p0 : Int32} {σ : Sto} {X : Xc} {Q : Int32 → Sto → Prop} {Qx : Int32 → Xc → Prop} (hR : RefC m ad σ X) (h : wx_X12_bits p0 X Qx) (hQ : ∀ (r : Int32) (σ' : Sto) (X' : Xc), Qx r X' → RefC m ad σ' X' → Fi m ad σ σ' → Q r σ') : wp_X12_bits p0 σ Q := by
  have F : Fi m ad σ σ := Fi.rf
  unfold wx_X12_bits at h
  unfold wp_X12_bits
  exact lfx h hR F (fun Lx L hL t σ X hR F h => xf_X12_bits_4 hQ  hL t σ X hR F h)
def wx_X12_begin (p1 : Int32) (p2 : Int32) (p3 : Int32) (X : Xc) (Qx : Xc → Prop) : Prop := (vp_in (0 : Int32) 640 ∧ (vp_in (1 : Int32) 640 ∧ (vp_in (2 : Int32) 640 ∧ Qx (xS (xA (xA (xA X 13 (0 : Int32).toNatClampNeg p1) 13 (1 : Int32).toNatClampNeg p2) 13 (2 : Int32).toNatClampNeg p3) 14 (3 : Int32)))))
set_option maxHeartbeats 4000000 in
set_option maxRecDepth 100000 in
theorem x_X12_begin {m : Nat} {ad : Nat → Nat} {p1 : Int32} {p2 : Int32} {p3 : Int32} {σ : Sto} {X : Xc} {Q : Sto → Prop} {Qx : Xc → Prop} (hR : RefC m ad σ X) (h : wx_X12_begin p1 p2 p3 X Qx) (hQ : ∀ (σ' : Sto) (X' : Xc), Qx X' → RefC m ad σ' X' → Fi m ad σ σ' → Q σ') : wp_X12_begin m p1 p2 p3 σ Q := by
  have F : Fi m ad σ σ := Fi.rf
  unfold wx_X12_begin at h
  unfold wp_X12_begin
  refine ⟨hR.1.1, ?_⟩
  have a1 : sP σ m 13 = some (ad 13) := hR.P (k := 13) (by decide)
  refine ⟨ad 13, a1, ?_⟩
  refine ⟨hR.K (k := 13) (by decide), ?_⟩
  refine ⟨hR.N (k := 13) (by decide) h.1, ?_⟩
  have h := h.2
  have F := F.A (k := 13) (i := (0 : Int32).toNatClampNeg) (v := p1) (by decide)
  have hR := hR.A (k := 13) (i := (0 : Int32).toNatClampNeg) (v := p1) (by decide)
  have a2 : sP σ m 13 = some (ad 13) := hR.P (k := 13) (by decide)
  refine ⟨hR.N (k := 13) (by decide) h.1, ?_⟩
  have h := h.2
  have F := F.A (k := 13) (i := (1 : Int32).toNatClampNeg) (v := p2) (by decide)
  have hR := hR.A (k := 13) (i := (1 : Int32).toNatClampNeg) (v := p2) (by decide)
  have a3 : sP σ m 13 = some (ad 13) := hR.P (k := 13) (by decide)
  refine ⟨hR.N (k := 13) (by decide) h.1, ?_⟩
  have h := h.2
  have F := F.A (k := 13) (i := (2 : Int32).toNatClampNeg) (v := p3) (by decide)
  have hR := hR.A (k := 13) (i := (2 : Int32).toNatClampNeg) (v := p3) (by decide)
  have F := F.S (k := 14) (v := (3 : Int32))
  have hR := hR.S (k := 14) (v := (3 : Int32))
  exact hQ _ _ h hR F
def wx_X12_add (p1 : Int32) (X : Xc) (Qx : Xc → Prop) : Prop := (∀ x2 : Int32, x2 = X.1 14 → (vp_in x2 640 ∧ (∀ x4 : Int32, x4 = (xA X 13 x2.toNatClampNeg p1).1 14 → (∀ x6 : Int32, x6 = x4 + (1 : Int32) → Qx (xS (xA X 13 x2.toNatClampNeg p1) 14 x6)))))
set_option maxHeartbeats 4000000 in
set_option maxRecDepth 100000 in
theorem x_X12_add {m : Nat} {ad : Nat → Nat} {p1 : Int32} {σ : Sto} {X : Xc} {Q : Sto → Prop} {Qx : Xc → Prop} (hR : RefC m ad σ X) (h : wx_X12_add p1 X Qx) (hQ : ∀ (σ' : Sto) (X' : Xc), Qx X' → RefC m ad σ' X' → Fi m ad σ σ' → Q σ') : wp_X12_add m p1 σ Q := by
  have F : Fi m ad σ σ := Fi.rf
  unfold wx_X12_add at h
  unfold wp_X12_add
  refine ⟨hR.1.1, ?_⟩
  have a1 : sP σ m 13 = some (ad 13) := hR.P (k := 13) (by decide)
  intro x2 e3
  rw [hR.2.1 14] at e3
  have h := h x2 e3
  refine ⟨ad 13, a1, ?_⟩
  refine ⟨hR.K (k := 13) (by decide), ?_⟩
  refine ⟨hR.N (k := 13) (by decide) h.1, ?_⟩
  have h := h.2
  have F := F.A (k := 13) (i := x2.toNatClampNeg) (v := p1) (by decide)
  have hR := hR.A (k := 13) (i := x2.toNatClampNeg) (v := p1) (by decide)
  intro x4 e5
  rw [hR.2.1 14] at e5
  have h := h x4 e5
  intro x6 e7
  have h := h x6 e7
  have F := F.S (k := 14) (v := x6)
  have hR := hR.S (k := 14) (v := x6)
  exact hQ _ _ h hR F
def wx_X12_addView (p1 : Int32) (X : Xc) (Qx : Xc → Prop) : Prop := (vp_in p1 7 ∧ (∀ x2 : Int32, x2 = X.2 21 p1.toNatClampNeg → (wx_X12_add x2 X (fun (X6 : Xc) => (vp_in p1 7 ∧ (∀ x9 : Int32, x9 = X6.2 22 p1.toNatClampNeg → (wx_X12_add x9 X6 (fun (X13 : Xc) => Qx X13))))))))
set_option maxHeartbeats 4000000 in
set_option maxRecDepth 100000 in
theorem x_X12_addView {m : Nat} {ad : Nat → Nat} {p1 : Int32} {σ : Sto} {X : Xc} {Q : Sto → Prop} {Qx : Xc → Prop} (hR : RefC m ad σ X) (h : wx_X12_addView p1 X Qx) (hQ : ∀ (σ' : Sto) (X' : Xc), Qx X' → RefC m ad σ' X' → Fi m ad σ σ' → Q σ') : wp_X12_addView m p1 σ Q := by
  have F : Fi m ad σ σ := Fi.rf
  unfold wx_X12_addView at h
  unfold wp_X12_addView
  refine ⟨hR.1.1, ?_⟩
  have a1 : sP σ m 21 = some (ad 21) := hR.P (k := 21) (by decide)
  refine ⟨ad 21, a1, ?_⟩
  refine ⟨hR.K (k := 21) (by decide), ?_⟩
  refine ⟨hR.N (k := 21) (by decide) h.1, ?_⟩
  have h := h.2
  intro x2 e3
  rw [hR.2.2 21 (by decide)] at e3
  have h := h x2 e3
  refine x_X12_add hR h (fun σ5 X6 h hR F7 => ?_)
  have F := F.trans F7
  refine ⟨hR.1.1, ?_⟩
  have a8 : sP σ5 m 22 = some (ad 22) := hR.P (k := 22) (by decide)
  refine ⟨ad 22, a8, ?_⟩
  refine ⟨hR.K (k := 22) (by decide), ?_⟩
  refine ⟨hR.N (k := 22) (by decide) h.1, ?_⟩
  have h := h.2
  intro x9 e10
  rw [hR.2.2 22 (by decide)] at e10
  have h := h x9 e10
  refine x_X12_add hR h (fun σ12 X13 h hR F14 => ?_)
  have F := F.trans F14
  exact hQ _ _ h hR F
def bx_X12_addLog_104 (Lx7 : Int32 × Int32 × Int32 → Xc → Prop) (Qx : Xc → Prop) (p1 : Int32) (p2 : Int32) (p3 : Int32) (X : Xc) : Prop := (∀ x1 : Int32, x1 = p3 + (1 : Int32) → Lx7 (p1, p2, x1) X)
set_option maxHeartbeats 4000000 in
set_option maxRecDepth 100000 in
theorem xb_X12_addLog_104 {m : Nat} {ad : Nat → Nat} {σ0 : Sto} {Lx7 : Int32 × Int32 × Int32 → Xc → Prop} {L7 : Int32 × Int32 × Int32 → Sto → Prop} {Q : Sto → Prop} {Qx : Xc → Prop} (hQ : ∀ (σ' : Sto) (X' : Xc), Qx X' → RefC m ad σ' X' → Fi m ad σ0 σ' → Q σ') (hL7 : ∀ (t : Int32 × Int32 × Int32) (σ : Sto) (X : Xc), Lx7 t X → RefC m ad σ X → Fi m ad σ0 σ → L7 t σ) (p1 : Int32) (p2 : Int32) (p3 : Int32) (σ : Sto) (X : Xc) (hR : RefC m ad σ X) (F : Fi m ad σ0 σ) (h : bx_X12_addLog_104 Lx7 Qx p1 p2 p3 X) : b_X12_addLog_104 m L7 Q p1 p2 p3 σ := by
  unfold bx_X12_addLog_104 at h
  unfold b_X12_addLog_104
  intro x1 e2
  have h := h x1 e2
  exact hL7 _ _ _ h hR F
def bx_X12_addLog_36 (Lx7 : Int32 × Int32 × Int32 → Xc → Prop) (Qx : Xc → Prop) (p1 : Int32) (p2 : Int32) (p3 : Int32) (p4 : Int32) (s0 : Int32) (X : Xc) : Prop := (wx_X12_add s0 X (fun (X3 : Xc) => (vp_in p4 700 ∧ (∀ x6 : Int32, x6 = X3.2 30 p4.toNatClampNeg → ((x6 = 0 → bx_X12_addLog_104 Lx7 Qx p1 p2 p3 X3) ∧ (¬ x6 = 0 → (vp_in p4 700 ∧ (∀ x10 : Int32, x10 = X3.2 31 p4.toNatClampNeg → (wx_X12_add x10 X3 (fun (X14 : Xc) => (vp_in p4 700 ∧ (∀ x17 : Int32, x17 = X14.2 32 p4.toNatClampNeg → (wx_X12_add x17 X14 (fun (X21 : Xc) => (vp_in p4 700 ∧ (∀ x24 : Int32, x24 = X21.2 33 p4.toNatClampNeg → (wx_X12_add x24 X21 (fun (X28 : Xc) => (vp_in p4 700 ∧ (∀ x31 : Int32, x31 = X28.2 34 p4.toNatClampNeg → (wx_X12_add x31 X28 (fun (X35 : Xc) => (vp_in p4 700 ∧ (∀ x38 : Int32, x38 = X35.2 35 p4.toNatClampNeg → (wx_X12_add x38 X35 (fun (X42 : Xc) => bx_X12_addLog_104 Lx7 Qx p1 p2 p3 X42))))))))))))))))))))))))))
set_option maxHeartbeats 4000000 in
set_option maxRecDepth 100000 in
theorem xb_X12_addLog_36 {m : Nat} {ad : Nat → Nat} {σ0 : Sto} {Lx7 : Int32 × Int32 × Int32 → Xc → Prop} {L7 : Int32 × Int32 × Int32 → Sto → Prop} {Q : Sto → Prop} {Qx : Xc → Prop} (hQ : ∀ (σ' : Sto) (X' : Xc), Qx X' → RefC m ad σ' X' → Fi m ad σ0 σ' → Q σ') (hL7 : ∀ (t : Int32 × Int32 × Int32) (σ : Sto) (X : Xc), Lx7 t X → RefC m ad σ X → Fi m ad σ0 σ → L7 t σ) (p1 : Int32) (p2 : Int32) (p3 : Int32) (p4 : Int32) (s0 : Int32) (σ : Sto) (X : Xc) (hR : RefC m ad σ X) (F : Fi m ad σ0 σ) (h : bx_X12_addLog_36 Lx7 Qx p1 p2 p3 p4 s0 X) : b_X12_addLog_36 m L7 Q p1 p2 p3 p4 s0 m σ := by
  unfold bx_X12_addLog_36 at h
  unfold b_X12_addLog_36
  refine ⟨hR.1.1, ?_⟩
  refine x_X12_add hR h (fun σ2 X3 h hR F4 => ?_)
  have F := F.trans F4
  refine ⟨hR.1.1, ?_⟩
  have a5 : sP σ2 m 30 = some (ad 30) := hR.P (k := 30) (by decide)
  refine ⟨ad 30, a5, ?_⟩
  refine ⟨hR.K (k := 30) (by decide), ?_⟩
  refine ⟨hR.N (k := 30) (by decide) h.1, ?_⟩
  have h := h.2
  intro x6 e7
  rw [hR.2.2 30 (by decide)] at e7
  have h := h x6 e7
  refine ⟨fun c8 => ?_, fun c8 => ?_⟩
  · have h := h.1 c8
    exact xb_X12_addLog_104 hQ hL7 p1 p2 p3 _ _ hR F h
  · have h := h.2 c8
    have a9 : sP σ2 m 31 = some (ad 31) := hR.P (k := 31) (by decide)
    refine ⟨ad 31, a9, ?_⟩
    refine ⟨hR.K (k := 31) (by decide), ?_⟩
    refine ⟨hR.N (k := 31) (by decide) h.1, ?_⟩
    have h := h.2
    intro x10 e11
    rw [hR.2.2 31 (by decide)] at e11
    have h := h x10 e11
    refine x_X12_add hR h (fun σ13 X14 h hR F15 => ?_)
    have F := F.trans F15
    refine ⟨hR.1.1, ?_⟩
    have a16 : sP σ13 m 32 = some (ad 32) := hR.P (k := 32) (by decide)
    refine ⟨ad 32, a16, ?_⟩
    refine ⟨hR.K (k := 32) (by decide), ?_⟩
    refine ⟨hR.N (k := 32) (by decide) h.1, ?_⟩
    have h := h.2
    intro x17 e18
    rw [hR.2.2 32 (by decide)] at e18
    have h := h x17 e18
    refine x_X12_add hR h (fun σ20 X21 h hR F22 => ?_)
    have F := F.trans F22
    refine ⟨hR.1.1, ?_⟩
    have a23 : sP σ20 m 33 = some (ad 33) := hR.P (k := 33) (by decide)
    refine ⟨ad 33, a23, ?_⟩
    refine ⟨hR.K (k := 33) (by decide), ?_⟩
    refine ⟨hR.N (k := 33) (by decide) h.1, ?_⟩
    have h := h.2
    intro x24 e25
    rw [hR.2.2 33 (by decide)] at e25
    have h := h x24 e25
    refine x_X12_add hR h (fun σ27 X28 h hR F29 => ?_)
    have F := F.trans F29
    refine ⟨hR.1.1, ?_⟩
    have a30 : sP σ27 m 34 = some (ad 34) := hR.P (k := 34) (by decide)
    refine ⟨ad 34, a30, ?_⟩
    refine ⟨hR.K (k := 34) (by decide), ?_⟩
    refine ⟨hR.N (k := 34) (by decide) h.1, ?_⟩
    have h := h.2
    intro x31 e32
    rw [hR.2.2 34 (by decide)] at e32
    have h := h x31 e32
    refine x_X12_add hR h (fun σ34 X35 h hR F36 => ?_)
    have F := F.trans F36
    refine ⟨hR.1.1, ?_⟩
    have a37 : sP σ34 m 35 = some (ad 35) := hR.P (k := 35) (by decide)
    refine ⟨ad 35, a37, ?_⟩
    refine ⟨hR.K (k := 35) (by decide), ?_⟩
    refine ⟨hR.N (k := 35) (by decide) h.1, ?_⟩
    have h := h.2
    intro x38 e39
    rw [hR.2.2 35 (by decide)] at e39
    have h := h x38 e39
    refine x_X12_add hR h (fun σ41 X42 h hR F43 => ?_)
    have F := F.trans F43
    exact xb_X12_addLog_104 hQ hL7 p1 p2 p3 _ _ hR F h
def fx_X12_addLog_7 (Qx : Xc → Prop) (Lx7 : Int32 × Int32 × Int32 → Xc → Prop) (t : Int32 × Int32 × Int32) (X : Xc) : Prop := ((t.2.1 ≤ t.2.2 → Qx X) ∧ (¬ t.2.1 ≤ t.2.2 → (∀ x2 : Int32, x2 = ((100 : Int32) * t.1) + t.2.2 → (vp_in x2 700 ∧ (∀ x5 : Int32, x5 = X.2 30 x2.toNatClampNeg → ((x5 = 0 → bx_X12_addLog_36 Lx7 Qx t.1 t.2.1 t.2.2 x2 (0 : Int32) X) ∧ (¬ x5 = 0 → bx_X12_addLog_36 Lx7 Qx t.1 t.2.1 t.2.2 x2 (1 : Int32) X)))))))
set_option maxHeartbeats 4000000 in
set_option maxRecDepth 100000 in
theorem xf_X12_addLog_7 {m : Nat} {ad : Nat → Nat} {σ0 : Sto} {Q : Sto → Prop} {Qx : Xc → Prop} {Lx7 : Int32 × Int32 × Int32 → Xc → Prop} {L7 : Int32 × Int32 × Int32 → Sto → Prop} (hQ : ∀ (σ' : Sto) (X' : Xc), Qx X' → RefC m ad σ' X' → Fi m ad σ0 σ' → Q σ') (hL7 : ∀ (t : Int32 × Int32 × Int32) (σ : Sto) (X : Xc), Lx7 t X → RefC m ad σ X → Fi m ad σ0 σ → L7 t σ) : ∀ (t : Int32 × Int32 × Int32) (σ : Sto) (X : Xc), RefC m ad σ X → Fi m ad σ0 σ → fx_X12_addLog_7  Qx Lx7 t X → f_X12_addLog_7 m  Q L7 t σ := by
  intro t σ X hR F h
  unfold fx_X12_addLog_7 at h
  unfold f_X12_addLog_7
  refine ⟨fun c1 => ?_, fun c1 => ?_⟩
  · have h := h.1 c1
    exact hQ _ _ h hR F
  · have h := h.2 c1
    intro x2 e3
    have h := h x2 e3
    refine ⟨hR.1.1, ?_⟩
    have a4 : sP σ m 30 = some (ad 30) := hR.P (k := 30) (by decide)
    refine ⟨ad 30, a4, ?_⟩
    refine ⟨hR.K (k := 30) (by decide), ?_⟩
    refine ⟨hR.N (k := 30) (by decide) h.1, ?_⟩
    have h := h.2
    intro x5 e6
    rw [hR.2.2 30 (by decide)] at e6
    have h := h x5 e6
    refine ⟨fun c7 => ?_, fun c7 => ?_⟩
    · have h := h.1 c7
      exact xb_X12_addLog_36 hQ hL7 t.1 t.2.1 t.2.2 x2 (0 : Int32) _ _ hR F h
    · have h := h.2 c7
      exact xb_X12_addLog_36 hQ hL7 t.1 t.2.1 t.2.2 x2 (1 : Int32) _ _ hR F h
def wx_X12_addLog (p1 : Int32) (p2 : Int32) (X : Xc) (Qx : Xc → Prop) : Prop := (wx_X12_add p2 X (fun (X3 : Xc) => LFx (fx_X12_addLog_7  Qx) (p1, p2, (0 : Int32)) X3))
set_option maxHeartbeats 4000000 in
set_option maxRecDepth 100000 in
theorem x_X12_addLog {m : Nat} {ad : Nat → Nat} {p1 : Int32} {p2 : Int32} {σ : Sto} {X : Xc} {Q : Sto → Prop} {Qx : Xc → Prop} (hR : RefC m ad σ X) (h : wx_X12_addLog p1 p2 X Qx) (hQ : ∀ (σ' : Sto) (X' : Xc), Qx X' → RefC m ad σ' X' → Fi m ad σ σ' → Q σ') : wp_X12_addLog m p1 p2 σ Q := by
  have F : Fi m ad σ σ := Fi.rf
  unfold wx_X12_addLog at h
  unfold wp_X12_addLog
  refine ⟨hR.1.1, ?_⟩
  refine x_X12_add hR h (fun σ2 X3 h hR F4 => ?_)
  have F := F.trans F4
  exact lfx h hR F (fun Lx L hL t σ X hR F h => xf_X12_addLog_7 hQ  hL t σ X hR F h)
def bx_X12_post_121 (Qx : Xc → Prop)  (X : Xc) : Prop := (∀ x1 : Int32, x1 = X.1 7 → (∀ x3 : Int32, x3 = x1 + (1 : Int32) → Qx (xS X 7 x3)))
set_option maxHeartbeats 4000000 in
set_option maxRecDepth 100000 in
theorem xb_X12_post_121 {m : Nat} {ad : Nat → Nat} {σ0 : Sto} {Q : Sto → Prop} {Qx : Xc → Prop} (hQ : ∀ (σ' : Sto) (X' : Xc), Qx X' → RefC m ad σ' X' → Fi m ad σ0 σ' → Q σ')   (σ : Sto) (X : Xc) (hR : RefC m ad σ X) (F : Fi m ad σ0 σ) (h : bx_X12_post_121  Qx  X) : b_X12_post_121 m  Q  σ := by
  unfold bx_X12_post_121 at h
  unfold b_X12_post_121
  refine ⟨hR.1.1, ?_⟩
  intro x1 e2
  rw [hR.2.1 7] at e2
  have h := h x1 e2
  intro x3 e4
  have h := h x3 e4
  have F := F.S (k := 7) (v := x3)
  have hR := hR.S (k := 7) (v := x3)
  exact hQ _ _ h hR F
def fx_X12_post_69 (Qx : Xc → Prop) (Lx69 : Int32 × Int32 → Xc → Prop) (t : Int32 × Int32) (X : Xc) : Prop := (∀ x1 : Int32, x1 = X.1 14 → ((x1 ≤ t.2 → (∀ x5 : Int32, x5 = X.1 6 → (vp_in x5 200 ∧ (∀ x7 : Int32, x7 = (xA X 5 x5.toNatClampNeg t.1).1 6 → (∀ x9 : Int32, x9 = x7 + (1 : Int32) → bx_X12_post_121  Qx  (xS (xA X 5 x5.toNatClampNeg t.1) 6 x9)))))) ∧ (¬ x1 ≤ t.2 → (vp_in t.2 640 ∧ (∀ x13 : Int32, x13 = X.2 13 t.2.toNatClampNeg → (vp_in (((640 : Int32) * t.1) + t.2) 128000 ∧ (∀ x15 : Int32, x15 = t.2 + (1 : Int32) → Lx69 (t.1, x15) (xA X 10 (((640 : Int32) * t.1) + t.2).toNatClampNeg x13))))))))
set_option maxHeartbeats 4000000 in
set_option maxRecDepth 100000 in
theorem xf_X12_post_69 {m : Nat} {ad : Nat → Nat} {σ0 : Sto} {Q : Sto → Prop} {Qx : Xc → Prop} {Lx69 : Int32 × Int32 → Xc → Prop} {L69 : Int32 × Int32 → Sto → Prop} (hQ : ∀ (σ' : Sto) (X' : Xc), Qx X' → RefC m ad σ' X' → Fi m ad σ0 σ' → Q σ') (hL69 : ∀ (t : Int32 × Int32) (σ : Sto) (X : Xc), Lx69 t X → RefC m ad σ X → Fi m ad σ0 σ → L69 t σ) : ∀ (t : Int32 × Int32) (σ : Sto) (X : Xc), RefC m ad σ X → Fi m ad σ0 σ → fx_X12_post_69  Qx Lx69 t X → f_X12_post_69 m  Q L69 t σ := by
  intro t σ X hR F h
  unfold fx_X12_post_69 at h
  unfold f_X12_post_69
  refine ⟨hR.1.1, ?_⟩
  intro x1 e2
  rw [hR.2.1 14] at e2
  have h := h x1 e2
  refine ⟨fun c3 => ?_, fun c3 => ?_⟩
  · have h := h.1 c3
    have a4 : sP σ m 5 = some (ad 5) := hR.P (k := 5) (by decide)
    intro x5 e6
    rw [hR.2.1 6] at e6
    have h := h x5 e6
    refine ⟨ad 5, a4, ?_⟩
    refine ⟨hR.K (k := 5) (by decide), ?_⟩
    refine ⟨hR.N (k := 5) (by decide) h.1, ?_⟩
    have h := h.2
    have F := F.A (k := 5) (i := x5.toNatClampNeg) (v := t.1) (by decide)
    have hR := hR.A (k := 5) (i := x5.toNatClampNeg) (v := t.1) (by decide)
    intro x7 e8
    rw [hR.2.1 6] at e8
    have h := h x7 e8
    intro x9 e10
    have h := h x9 e10
    have F := F.S (k := 6) (v := x9)
    have hR := hR.S (k := 6) (v := x9)
    exact xb_X12_post_121 hQ   _ _ hR F h
  · have h := h.2 c3
    have a11 : sP σ m 10 = some (ad 10) := hR.P (k := 10) (by decide)
    have a12 : sP σ m 13 = some (ad 13) := hR.P (k := 13) (by decide)
    refine ⟨ad 13, a12, ?_⟩
    refine ⟨hR.K (k := 13) (by decide), ?_⟩
    refine ⟨hR.N (k := 13) (by decide) h.1, ?_⟩
    have h := h.2
    intro x13 e14
    rw [hR.2.2 13 (by decide)] at e14
    have h := h x13 e14
    refine ⟨ad 10, a11, ?_⟩
    refine ⟨hR.K (k := 10) (by decide), ?_⟩
    refine ⟨hR.N (k := 10) (by decide) h.1, ?_⟩
    have h := h.2
    have F := F.A (k := 10) (i := (((640 : Int32) * t.1) + t.2).toNatClampNeg) (v := x13) (by decide)
    have hR := hR.A (k := 10) (i := (((640 : Int32) * t.1) + t.2).toNatClampNeg) (v := x13) (by decide)
    intro x15 e16
    have h := h x15 e16
    exact hL69 _ _ _ h hR F
def fx_X12_post_25 (Qx : Xc → Prop) (Lx25 : Int32 → Xc → Prop) (t : Int32) (X : Xc) : Prop := (vp_in t 200 ∧ (∀ x2 : Int32, x2 = X.2 9 t.toNatClampNeg → ((x2 = 0 → (vp_in t 200 ∧ (∀ x7 : Int32, x7 = (xA X 9 t.toNatClampNeg (vp_nar .boolean (1 : Int32))).1 7 → (vp_in t 200 ∧ (∀ x10 : Int32, x10 = (xA (xA X 9 t.toNatClampNeg (vp_nar .boolean (1 : Int32))) 12 t.toNatClampNeg x7).1 14 → (vp_in t 200 ∧ LFx (fx_X12_post_69  Qx) (t, (0 : Int32)) (xA (xA (xA X 9 t.toNatClampNeg (vp_nar .boolean (1 : Int32))) 12 t.toNatClampNeg x7) 11 t.toNatClampNeg x10))))))) ∧ (¬ x2 = 0 → (∀ x12 : Int32, x12 = t + (1 : Int32) → Lx25 (x12) X)))))
set_option maxHeartbeats 4000000 in
set_option maxRecDepth 100000 in
theorem xf_X12_post_25 {m : Nat} {ad : Nat → Nat} {σ0 : Sto} {Q : Sto → Prop} {Qx : Xc → Prop} {Lx25 : Int32 → Xc → Prop} {L25 : Int32 → Sto → Prop} (hQ : ∀ (σ' : Sto) (X' : Xc), Qx X' → RefC m ad σ' X' → Fi m ad σ0 σ' → Q σ') (hL25 : ∀ (t : Int32) (σ : Sto) (X : Xc), Lx25 t X → RefC m ad σ X → Fi m ad σ0 σ → L25 t σ) : ∀ (t : Int32) (σ : Sto) (X : Xc), RefC m ad σ X → Fi m ad σ0 σ → fx_X12_post_25  Qx Lx25 t X → f_X12_post_25 m  Q L25 t σ := by
  intro t σ X hR F h
  unfold fx_X12_post_25 at h
  unfold f_X12_post_25
  refine ⟨hR.1.1, ?_⟩
  have a1 : sP σ m 9 = some (ad 9) := hR.P (k := 9) (by decide)
  refine ⟨ad 9, a1, ?_⟩
  refine ⟨hR.K (k := 9) (by decide), ?_⟩
  refine ⟨hR.N (k := 9) (by decide) h.1, ?_⟩
  have h := h.2
  intro x2 e3
  rw [hR.2.2 9 (by decide)] at e3
  have h := h x2 e3
  refine ⟨fun c4 => ?_, fun c4 => ?_⟩
  · have h := h.1 c4
    have a5 : sP σ m 9 = some (ad 9) := hR.P (k := 9) (by decide)
    refine ⟨hR.N (k := 9) (by decide) h.1, ?_⟩
    have h := h.2
    have F := F.A (k := 9) (i := t.toNatClampNeg) (v := (vp_nar .boolean (1 : Int32))) (by decide)
    have hR := hR.A (k := 9) (i := t.toNatClampNeg) (v := (vp_nar .boolean (1 : Int32))) (by decide)
    have a6 : sP σ m 12 = some (ad 12) := hR.P (k := 12) (by decide)
    intro x7 e8
    rw [hR.2.1 7] at e8
    have h := h x7 e8
    refine ⟨ad 12, a6, ?_⟩
    refine ⟨hR.K (k := 12) (by decide), ?_⟩
    refine ⟨hR.N (k := 12) (by decide) h.1, ?_⟩
    have h := h.2
    have F := F.A (k := 12) (i := t.toNatClampNeg) (v := x7) (by decide)
    have hR := hR.A (k := 12) (i := t.toNatClampNeg) (v := x7) (by decide)
    have a9 : sP σ m 11 = some (ad 11) := hR.P (k := 11) (by decide)
    intro x10 e11
    rw [hR.2.1 14] at e11
    have h := h x10 e11
    refine ⟨ad 11, a9, ?_⟩
    refine ⟨hR.K (k := 11) (by decide), ?_⟩
    refine ⟨hR.N (k := 11) (by decide) h.1, ?_⟩
    have h := h.2
    have F := F.A (k := 11) (i := t.toNatClampNeg) (v := x10) (by decide)
    have hR := hR.A (k := 11) (i := t.toNatClampNeg) (v := x10) (by decide)
    exact lfx h hR F (fun Lx L hL t σ X hR F h => xf_X12_post_69 hQ  hL t σ X hR F h)
  · have h := h.2 c4
    intro x12 e13
    have h := h x12 e13
    exact hL25 _ _ _ h hR F
def wx_X12_post  (X : Xc) (Qx : Xc → Prop) : Prop := (∀ x1 : Int32, x1 = X.1 6 → ((¬ x1 = (200 : Int32) → LFx (fx_X12_post_25  Qx) ((0 : Int32)) X) ∧ (x1 = (200 : Int32) → (∀ x4 : Int32, x4 = X.1 8 → (∀ x6 : Int32, x6 = x4 + (1 : Int32) → bx_X12_post_121  Qx  (xS X 8 x6))))))
set_option maxHeartbeats 4000000 in
set_option maxRecDepth 100000 in
theorem x_X12_post {m : Nat} {ad : Nat → Nat} {σ : Sto} {X : Xc} {Q : Sto → Prop} {Qx : Xc → Prop} (hR : RefC m ad σ X) (h : wx_X12_post  X Qx) (hQ : ∀ (σ' : Sto) (X' : Xc), Qx X' → RefC m ad σ' X' → Fi m ad σ σ' → Q σ') : wp_X12_post m  σ Q := by
  have F : Fi m ad σ σ := Fi.rf
  unfold wx_X12_post at h
  unfold wp_X12_post
  refine ⟨hR.1.1, ?_⟩
  intro x1 e2
  rw [hR.2.1 6] at e2
  have h := h x1 e2
  refine ⟨fun c3 => ?_, fun c3 => ?_⟩
  · have h := h.1 c3
    exact lfx h hR F (fun Lx L hL t σ X hR F h => xf_X12_post_25 hQ  hL t σ X hR F h)
  · have h := h.2 c3
    intro x4 e5
    rw [hR.2.1 8] at e5
    have h := h x4 e5
    intro x6 e7
    have h := h x6 e7
    have F := F.S (k := 8) (v := x6)
    have hR := hR.S (k := 8) (v := x6)
    exact xb_X12_post_121 hQ   _ _ hR F h
def bx_X12_tell_23 (Qx : Xc → Prop)  (X : Xc) : Prop := (wx_X12_post  X (fun (X3 : Xc) => Qx X3))
set_option maxHeartbeats 4000000 in
set_option maxRecDepth 100000 in
theorem xb_X12_tell_23 {m : Nat} {ad : Nat → Nat} {σ0 : Sto} {Q : Sto → Prop} {Qx : Xc → Prop} (hQ : ∀ (σ' : Sto) (X' : Xc), Qx X' → RefC m ad σ' X' → Fi m ad σ0 σ' → Q σ')   (σ : Sto) (X : Xc) (hR : RefC m ad σ X) (F : Fi m ad σ0 σ) (h : bx_X12_tell_23  Qx  X) : b_X12_tell_23 m  Q  σ := by
  unfold bx_X12_tell_23 at h
  unfold b_X12_tell_23
  refine ⟨hR.1.1, ?_⟩
  refine x_X12_post hR h (fun σ2 X3 h hR F4 => ?_)
  have F := F.trans F4
  exact hQ _ _ h hR F
def wx_X12_tell (p1 : Int32) (p2 : Int32) (p3 : Int32) (p4 : Int32) (X : Xc) (Qx : Xc → Prop) : Prop := (wx_X12_begin p1 p2 p3 X (fun (X3 : Xc) => (wx_X12_addView p2 X3 (fun (X7 : Xc) => ((p4 < 0 → bx_X12_tell_23  Qx  X7) ∧ (¬ p4 < 0 → (wx_X12_add p4 X7 (fun (X12 : Xc) => bx_X12_tell_23  Qx  X12))))))))
set_option maxHeartbeats 4000000 in
set_option maxRecDepth 100000 in
theorem x_X12_tell {m : Nat} {ad : Nat → Nat} {p1 : Int32} {p2 : Int32} {p3 : Int32} {p4 : Int32} {σ : Sto} {X : Xc} {Q : Sto → Prop} {Qx : Xc → Prop} (hR : RefC m ad σ X) (h : wx_X12_tell p1 p2 p3 p4 X Qx) (hQ : ∀ (σ' : Sto) (X' : Xc), Qx X' → RefC m ad σ' X' → Fi m ad σ σ' → Q σ') : wp_X12_tell m p1 p2 p3 p4 σ Q := by
  have F : Fi m ad σ σ := Fi.rf
  unfold wx_X12_tell at h
  unfold wp_X12_tell
  refine ⟨hR.1.1, ?_⟩
  refine x_X12_begin hR h (fun σ2 X3 h hR F4 => ?_)
  have F := F.trans F4
  refine ⟨hR.1.1, ?_⟩
  refine x_X12_addView hR h (fun σ6 X7 h hR F8 => ?_)
  have F := F.trans F8
  refine ⟨fun c9 => ?_, fun c9 => ?_⟩
  · have h := h.1 c9
    exact xb_X12_tell_23 hQ   _ _ hR F h
  · have h := h.2 c9
    refine ⟨hR.1.1, ?_⟩
    refine x_X12_add hR h (fun σ11 X12 h hR F13 => ?_)
    have F := F.trans F13
    exact xb_X12_tell_23 hQ   _ _ hR F h
def bx_X12_tellOthers_27 (Lx3 : Int32 × Int32 × Int32 × Int32 → Xc → Prop) (Qx : Xc → Prop) (p1 : Int32) (p2 : Int32) (p3 : Int32) (p4 : Int32) (X : Xc) : Prop := (∀ x1 : Int32, x1 = p4 + (1 : Int32) → Lx3 (p1, p2, p3, x1) X)
set_option maxHeartbeats 4000000 in
set_option maxRecDepth 100000 in
theorem xb_X12_tellOthers_27 {m : Nat} {ad : Nat → Nat} {σ0 : Sto} {Lx3 : Int32 × Int32 × Int32 × Int32 → Xc → Prop} {L3 : Int32 × Int32 × Int32 × Int32 → Sto → Prop} {Q : Sto → Prop} {Qx : Xc → Prop} (hQ : ∀ (σ' : Sto) (X' : Xc), Qx X' → RefC m ad σ' X' → Fi m ad σ0 σ' → Q σ') (hL3 : ∀ (t : Int32 × Int32 × Int32 × Int32) (σ : Sto) (X : Xc), Lx3 t X → RefC m ad σ X → Fi m ad σ0 σ → L3 t σ) (p1 : Int32) (p2 : Int32) (p3 : Int32) (p4 : Int32) (σ : Sto) (X : Xc) (hR : RefC m ad σ X) (F : Fi m ad σ0 σ) (h : bx_X12_tellOthers_27 Lx3 Qx p1 p2 p3 p4 X) : b_X12_tellOthers_27 m L3 Q p1 p2 p3 p4 σ := by
  unfold bx_X12_tellOthers_27 at h
  unfold b_X12_tellOthers_27
  intro x1 e2
  have h := h x1 e2
  exact hL3 _ _ _ h hR F
def fx_X12_tellOthers_3 (Qx : Xc → Prop) (Lx3 : Int32 × Int32 × Int32 × Int32 → Xc → Prop) (t : Int32 × Int32 × Int32 × Int32) (X : Xc) : Prop := (∀ x1 : Int32, x1 = X.1 1 → ((x1 ≤ t.2.2.2 → Qx X) ∧ (¬ x1 ≤ t.2.2.2 → ((t.2.2.2 = t.2.1 → bx_X12_tellOthers_27 Lx3 Qx t.1 t.2.1 t.2.2.1 t.2.2.2 X) ∧ (¬ t.2.2.2 = t.2.1 → (wx_X12_tell t.1 t.2.1 t.2.2.2 t.2.2.1 X (fun (X7 : Xc) => bx_X12_tellOthers_27 Lx3 Qx t.1 t.2.1 t.2.2.1 t.2.2.2 X7)))))))
set_option maxHeartbeats 4000000 in
set_option maxRecDepth 100000 in
theorem xf_X12_tellOthers_3 {m : Nat} {ad : Nat → Nat} {σ0 : Sto} {Q : Sto → Prop} {Qx : Xc → Prop} {Lx3 : Int32 × Int32 × Int32 × Int32 → Xc → Prop} {L3 : Int32 × Int32 × Int32 × Int32 → Sto → Prop} (hQ : ∀ (σ' : Sto) (X' : Xc), Qx X' → RefC m ad σ' X' → Fi m ad σ0 σ' → Q σ') (hL3 : ∀ (t : Int32 × Int32 × Int32 × Int32) (σ : Sto) (X : Xc), Lx3 t X → RefC m ad σ X → Fi m ad σ0 σ → L3 t σ) : ∀ (t : Int32 × Int32 × Int32 × Int32) (σ : Sto) (X : Xc), RefC m ad σ X → Fi m ad σ0 σ → fx_X12_tellOthers_3  Qx Lx3 t X → f_X12_tellOthers_3 m  Q L3 t σ := by
  intro t σ X hR F h
  unfold fx_X12_tellOthers_3 at h
  unfold f_X12_tellOthers_3
  refine ⟨hR.1.1, ?_⟩
  intro x1 e2
  rw [hR.2.1 1] at e2
  have h := h x1 e2
  refine ⟨fun c3 => ?_, fun c3 => ?_⟩
  · have h := h.1 c3
    exact hQ _ _ h hR F
  · have h := h.2 c3
    refine ⟨fun c4 => ?_, fun c4 => ?_⟩
    · have h := h.1 c4
      exact xb_X12_tellOthers_27 hQ hL3 t.1 t.2.1 t.2.2.1 t.2.2.2 _ _ hR F h
    · have h := h.2 c4
      refine x_X12_tell hR h (fun σ6 X7 h hR F8 => ?_)
      have F := F.trans F8
      exact xb_X12_tellOthers_27 hQ hL3 t.1 t.2.1 t.2.2.1 t.2.2.2 _ _ hR F h
def wx_X12_tellOthers (p1 : Int32) (p2 : Int32) (p3 : Int32) (X : Xc) (Qx : Xc → Prop) : Prop := LFx (fx_X12_tellOthers_3  Qx) (p1, p2, p3, (0 : Int32)) X
set_option maxHeartbeats 4000000 in
set_option maxRecDepth 100000 in
theorem x_X12_tellOthers {m : Nat} {ad : Nat → Nat} {p1 : Int32} {p2 : Int32} {p3 : Int32} {σ : Sto} {X : Xc} {Q : Sto → Prop} {Qx : Xc → Prop} (hR : RefC m ad σ X) (h : wx_X12_tellOthers p1 p2 p3 X Qx) (hQ : ∀ (σ' : Sto) (X' : Xc), Qx X' → RefC m ad σ' X' → Fi m ad σ σ' → Q σ') : wp_X12_tellOthers m p1 p2 p3 σ Q := by
  have F : Fi m ad σ σ := Fi.rf
  unfold wx_X12_tellOthers at h
  unfold wp_X12_tellOthers
  exact lfx h hR F (fun Lx L hL t σ X hR F h => xf_X12_tellOthers_3 hQ  hL t σ X hR F h)
def wx_X12_sendStart (p1 : Int32) (p2 : Int32) (X : Xc) (Qx : Xc → Prop) : Prop := (wx_X12_begin (10 : Int32) p1 p2 X (fun (X3 : Xc) => (wx_X12_addView p1 X3 (fun (X7 : Xc) => (vp_in p1 7 ∧ (∀ x10 : Int32, x10 = X7.2 27 p1.toNatClampNeg → (wx_X12_add x10 X7 (fun (X14 : Xc) => (vp_in p1 7 ∧ (∀ x17 : Int32, x17 = X14.2 26 p1.toNatClampNeg → (wx_X12_addLog p1 x17 X14 (fun (X21 : Xc) => (wx_X12_post  X21 (fun (X25 : Xc) => Qx X25))))))))))))))
set_option maxHeartbeats 4000000 in
set_option maxRecDepth 100000 in
theorem x_X12_sendStart {m : Nat} {ad : Nat → Nat} {p1 : Int32} {p2 : Int32} {σ : Sto} {X : Xc} {Q : Sto → Prop} {Qx : Xc → Prop} (hR : RefC m ad σ X) (h : wx_X12_sendStart p1 p2 X Qx) (hQ : ∀ (σ' : Sto) (X' : Xc), Qx X' → RefC m ad σ' X' → Fi m ad σ σ' → Q σ') : wp_X12_sendStart m p1 p2 σ Q := by
  have F : Fi m ad σ σ := Fi.rf
  unfold wx_X12_sendStart at h
  unfold wp_X12_sendStart
  refine ⟨hR.1.1, ?_⟩
  refine x_X12_begin hR h (fun σ2 X3 h hR F4 => ?_)
  have F := F.trans F4
  refine ⟨hR.1.1, ?_⟩
  refine x_X12_addView hR h (fun σ6 X7 h hR F8 => ?_)
  have F := F.trans F8
  refine ⟨hR.1.1, ?_⟩
  have a9 : sP σ6 m 27 = some (ad 27) := hR.P (k := 27) (by decide)
  refine ⟨ad 27, a9, ?_⟩
  refine ⟨hR.K (k := 27) (by decide), ?_⟩
  refine ⟨hR.N (k := 27) (by decide) h.1, ?_⟩
  have h := h.2
  intro x10 e11
  rw [hR.2.2 27 (by decide)] at e11
  have h := h x10 e11
  refine x_X12_add hR h (fun σ13 X14 h hR F15 => ?_)
  have F := F.trans F15
  refine ⟨hR.1.1, ?_⟩
  have a16 : sP σ13 m 26 = some (ad 26) := hR.P (k := 26) (by decide)
  refine ⟨ad 26, a16, ?_⟩
  refine ⟨hR.K (k := 26) (by decide), ?_⟩
  refine ⟨hR.N (k := 26) (by decide) h.1, ?_⟩
  have h := h.2
  intro x17 e18
  rw [hR.2.2 26 (by decide)] at e18
  have h := h x17 e18
  refine x_X12_addLog hR h (fun σ20 X21 h hR F22 => ?_)
  have F := F.trans F22
  refine ⟨hR.1.1, ?_⟩
  refine x_X12_post hR h (fun σ24 X25 h hR F26 => ?_)
  have F := F.trans F26
  exact hQ _ _ h hR F
def fx_X12_remove_9 (Qx : Int32 → Xc → Prop) (Lx9 : Int32 × Int32 → Xc → Prop) (t : Int32 × Int32) (X : Xc) : Prop := (∀ x1 : Int32, x1 = X.1 6 → ((x1 ≤ (t.2 + (1 : Int32)) → (∀ x4 : Int32, x4 = X.1 6 → (∀ x6 : Int32, x6 = x4 - (1 : Int32) → (vp_in t.1 200 ∧ Qx t.1 (xA (xS X 6 x6) 9 t.1.toNatClampNeg (vp_nar .boolean (0 : Int32))))))) ∧ (¬ x1 ≤ (t.2 + (1 : Int32)) → (∀ x11 : Int32, x11 = t.2 + (1 : Int32) → (vp_in x11 200 ∧ (∀ x13 : Int32, x13 = X.2 5 x11.toNatClampNeg → (vp_in t.2 200 ∧ (∀ x15 : Int32, x15 = t.2 + (1 : Int32) → Lx9 (t.1, x15) (xA X 5 t.2.toNatClampNeg x13)))))))))
set_option maxHeartbeats 4000000 in
set_option maxRecDepth 100000 in
theorem xf_X12_remove_9 {m : Nat} {ad : Nat → Nat} {σ0 : Sto} {Q : Int32 → Sto → Prop} {Qx : Int32 → Xc → Prop} {Lx9 : Int32 × Int32 → Xc → Prop} {L9 : Int32 × Int32 → Sto → Prop} (hQ : ∀ (r : Int32) (σ' : Sto) (X' : Xc), Qx r X' → RefC m ad σ' X' → Fi m ad σ0 σ' → Q r σ') (hL9 : ∀ (t : Int32 × Int32) (σ : Sto) (X : Xc), Lx9 t X → RefC m ad σ X → Fi m ad σ0 σ → L9 t σ) : ∀ (t : Int32 × Int32) (σ : Sto) (X : Xc), RefC m ad σ X → Fi m ad σ0 σ → fx_X12_remove_9  Qx Lx9 t X → f_X12_remove_9 m  Q L9 t σ := by
  intro t σ X hR F h
  unfold fx_X12_remove_9 at h
  unfold f_X12_remove_9
  refine ⟨hR.1.1, ?_⟩
  intro x1 e2
  rw [hR.2.1 6] at e2
  have h := h x1 e2
  refine ⟨fun c3 => ?_, fun c3 => ?_⟩
  · have h := h.1 c3
    intro x4 e5
    rw [hR.2.1 6] at e5
    have h := h x4 e5
    intro x6 e7
    have h := h x6 e7
    have F := F.S (k := 6) (v := x6)
    have hR := hR.S (k := 6) (v := x6)
    have a8 : sP σ m 9 = some (ad 9) := hR.P (k := 9) (by decide)
    refine ⟨ad 9, a8, ?_⟩
    refine ⟨hR.K (k := 9) (by decide), ?_⟩
    refine ⟨hR.N (k := 9) (by decide) h.1, ?_⟩
    have h := h.2
    have F := F.A (k := 9) (i := t.1.toNatClampNeg) (v := (vp_nar .boolean (0 : Int32))) (by decide)
    have hR := hR.A (k := 9) (i := t.1.toNatClampNeg) (v := (vp_nar .boolean (0 : Int32))) (by decide)
    exact hQ _ _ _ h hR F
  · have h := h.2 c3
    have a9 : sP σ m 5 = some (ad 5) := hR.P (k := 5) (by decide)
    have a10 : sP σ m 5 = some (ad 5) := hR.P (k := 5) (by decide)
    intro x11 e12
    have h := h x11 e12
    refine ⟨ad 5, a10, ?_⟩
    refine ⟨hR.K (k := 5) (by decide), ?_⟩
    refine ⟨hR.N (k := 5) (by decide) h.1, ?_⟩
    have h := h.2
    intro x13 e14
    rw [hR.2.2 5 (by decide)] at e14
    have h := h x13 e14
    refine ⟨hR.N (k := 5) (by decide) h.1, ?_⟩
    have h := h.2
    have F := F.A (k := 5) (i := t.2.toNatClampNeg) (v := x13) (by decide)
    have hR := hR.A (k := 5) (i := t.2.toNatClampNeg) (v := x13) (by decide)
    intro x15 e16
    have h := h x15 e16
    exact hL9 _ _ _ h hR F
def wx_X12_remove (p1 : Int32) (X : Xc) (Qx : Int32 → Xc → Prop) : Prop := (vp_in p1 200 ∧ (∀ x2 : Int32, x2 = X.2 5 p1.toNatClampNeg → LFx (fx_X12_remove_9  Qx) (x2, p1) X))
set_option maxHeartbeats 4000000 in
set_option maxRecDepth 100000 in
theorem x_X12_remove {m : Nat} {ad : Nat → Nat} {p1 : Int32} {σ : Sto} {X : Xc} {Q : Int32 → Sto → Prop} {Qx : Int32 → Xc → Prop} (hR : RefC m ad σ X) (h : wx_X12_remove p1 X Qx) (hQ : ∀ (r : Int32) (σ' : Sto) (X' : Xc), Qx r X' → RefC m ad σ' X' → Fi m ad σ σ' → Q r σ') : wp_X12_remove m p1 σ Q := by
  have F : Fi m ad σ σ := Fi.rf
  unfold wx_X12_remove at h
  unfold wp_X12_remove
  refine ⟨hR.1.1, ?_⟩
  have a1 : sP σ m 5 = some (ad 5) := hR.P (k := 5) (by decide)
  refine ⟨ad 5, a1, ?_⟩
  refine ⟨hR.K (k := 5) (by decide), ?_⟩
  refine ⟨hR.N (k := 5) (by decide) h.1, ?_⟩
  have h := h.2
  intro x2 e3
  rw [hR.2.2 5 (by decide)] at e3
  have h := h x2 e3
  exact lfx h hR F (fun Lx L hL t σ X hR F h => xf_X12_remove_9 hQ  hL t σ X hR F h)
def bx_X12_placeOf_191 (Qx : Int32 → Xc → Prop) (p1 : Int32) (p2 : Int32) (p3 : Int32) (p4 : Int32) (X : Xc) : Prop := (vp_in p1 4 ∧ (∀ x2 : Int32, x2 = X.2 75 p1.toNatClampNeg → (∀ x4 : Int32, x4 = ((64 : Int32) * p1) + x2 → (vp_in p1 4 ∧ (∀ x7 : Int32, x7 = X.2 75 p1.toNatClampNeg → (∀ x9 : Int32, x9 = x7 + (1 : Int32) → (vp_in p1 4 ∧ (vp_in x4 256 ∧ (vp_in x4 256 ∧ (vp_in x4 256 ∧ (vp_in x4 256 ∧ (vp_in x4 256 ∧ Qx x4 (xA (xA (xA (xA (xA (xA X 75 p1.toNatClampNeg x9) 76 x4.toNatClampNeg p2) 77 x4.toNatClampNeg p3) 78 x4.toNatClampNeg p4) 79 x4.toNatClampNeg (0 : Int32)) 80 x4.toNatClampNeg (0 : Int32))))))))))))))
set_option maxHeartbeats 4000000 in
set_option maxRecDepth 100000 in
theorem xb_X12_placeOf_191 {m : Nat} {ad : Nat → Nat} {σ0 : Sto} {Q : Int32 → Sto → Prop} {Qx : Int32 → Xc → Prop} (hQ : ∀ (r : Int32) (σ' : Sto) (X' : Xc), Qx r X' → RefC m ad σ' X' → Fi m ad σ0 σ' → Q r σ')  (p1 : Int32) (p2 : Int32) (p3 : Int32) (p4 : Int32) (σ : Sto) (X : Xc) (hR : RefC m ad σ X) (F : Fi m ad σ0 σ) (h : bx_X12_placeOf_191  Qx p1 p2 p3 p4 X) : b_X12_placeOf_191 m  Q p1 p2 p3 p4 σ := by
  unfold bx_X12_placeOf_191 at h
  unfold b_X12_placeOf_191
  refine ⟨hR.1.1, ?_⟩
  have a1 : sP σ m 75 = some (ad 75) := hR.P (k := 75) (by decide)
  refine ⟨ad 75, a1, ?_⟩
  refine ⟨hR.K (k := 75) (by decide), ?_⟩
  refine ⟨hR.N (k := 75) (by decide) h.1, ?_⟩
  have h := h.2
  intro x2 e3
  rw [hR.2.2 75 (by decide)] at e3
  have h := h x2 e3
  intro x4 e5
  have h := h x4 e5
  have a6 : sP σ m 75 = some (ad 75) := hR.P (k := 75) (by decide)
  refine ⟨hR.N (k := 75) (by decide) h.1, ?_⟩
  have h := h.2
  intro x7 e8
  rw [hR.2.2 75 (by decide)] at e8
  have h := h x7 e8
  intro x9 e10
  have h := h x9 e10
  refine ⟨hR.N (k := 75) (by decide) h.1, ?_⟩
  have h := h.2
  have F := F.A (k := 75) (i := p1.toNatClampNeg) (v := x9) (by decide)
  have hR := hR.A (k := 75) (i := p1.toNatClampNeg) (v := x9) (by decide)
  have a11 : sP σ m 76 = some (ad 76) := hR.P (k := 76) (by decide)
  refine ⟨ad 76, a11, ?_⟩
  refine ⟨hR.K (k := 76) (by decide), ?_⟩
  refine ⟨hR.N (k := 76) (by decide) h.1, ?_⟩
  have h := h.2
  have F := F.A (k := 76) (i := x4.toNatClampNeg) (v := p2) (by decide)
  have hR := hR.A (k := 76) (i := x4.toNatClampNeg) (v := p2) (by decide)
  have a12 : sP σ m 77 = some (ad 77) := hR.P (k := 77) (by decide)
  refine ⟨ad 77, a12, ?_⟩
  refine ⟨hR.K (k := 77) (by decide), ?_⟩
  refine ⟨hR.N (k := 77) (by decide) h.1, ?_⟩
  have h := h.2
  have F := F.A (k := 77) (i := x4.toNatClampNeg) (v := p3) (by decide)
  have hR := hR.A (k := 77) (i := x4.toNatClampNeg) (v := p3) (by decide)
  have a13 : sP σ m 78 = some (ad 78) := hR.P (k := 78) (by decide)
  refine ⟨ad 78, a13, ?_⟩
  refine ⟨hR.K (k := 78) (by decide), ?_⟩
  refine ⟨hR.N (k := 78) (by decide) h.1, ?_⟩
  have h := h.2
  have F := F.A (k := 78) (i := x4.toNatClampNeg) (v := p4) (by decide)
  have hR := hR.A (k := 78) (i := x4.toNatClampNeg) (v := p4) (by decide)
  have a14 : sP σ m 79 = some (ad 79) := hR.P (k := 79) (by decide)
  refine ⟨ad 79, a14, ?_⟩
  refine ⟨hR.K (k := 79) (by decide), ?_⟩
  refine ⟨hR.N (k := 79) (by decide) h.1, ?_⟩
  have h := h.2
  have F := F.A (k := 79) (i := x4.toNatClampNeg) (v := (0 : Int32)) (by decide)
  have hR := hR.A (k := 79) (i := x4.toNatClampNeg) (v := (0 : Int32)) (by decide)
  have a15 : sP σ m 80 = some (ad 80) := hR.P (k := 80) (by decide)
  refine ⟨ad 80, a15, ?_⟩
  refine ⟨hR.K (k := 80) (by decide), ?_⟩
  refine ⟨hR.N (k := 80) (by decide) h.1, ?_⟩
  have h := h.2
  have F := F.A (k := 80) (i := x4.toNatClampNeg) (v := (0 : Int32)) (by decide)
  have hR := hR.A (k := 80) (i := x4.toNatClampNeg) (v := (0 : Int32)) (by decide)
  exact hQ _ _ _ h hR F
def fx_X12_placeOf_82 (Qx : Int32 → Xc → Prop) (Lx82 : Int32 × Int32 × Int32 × Int32 × Int32 → Xc → Prop) (t : Int32 × Int32 × Int32 × Int32 × Int32) (X : Xc) : Prop := ((((64 : Int32) * (t.1 + (1 : Int32))) ≤ (t.2.2.2.2 + (1 : Int32)) → (vp_in t.1 4 ∧ (∀ x3 : Int32, x3 = X.2 75 t.1.toNatClampNeg → (∀ x5 : Int32, x5 = x3 - (1 : Int32) → (vp_in t.1 4 ∧ bx_X12_placeOf_191  Qx t.1 t.2.1 t.2.2.1 t.2.2.2.1 (xA X 75 t.1.toNatClampNeg x5)))))) ∧ (¬ ((64 : Int32) * (t.1 + (1 : Int32))) ≤ (t.2.2.2.2 + (1 : Int32)) → (∀ x9 : Int32, x9 = t.2.2.2.2 + (1 : Int32) → (vp_in x9 256 ∧ (∀ x11 : Int32, x11 = X.2 76 x9.toNatClampNeg → (vp_in t.2.2.2.2 256 ∧ (∀ x15 : Int32, x15 = t.2.2.2.2 + (1 : Int32) → (vp_in x15 256 ∧ (∀ x17 : Int32, x17 = (xA X 76 t.2.2.2.2.toNatClampNeg x11).2 77 x15.toNatClampNeg → (vp_in t.2.2.2.2 256 ∧ (∀ x21 : Int32, x21 = t.2.2.2.2 + (1 : Int32) → (vp_in x21 256 ∧ (∀ x23 : Int32, x23 = (xA (xA X 76 t.2.2.2.2.toNatClampNeg x11) 77 t.2.2.2.2.toNatClampNeg x17).2 78 x21.toNatClampNeg → (vp_in t.2.2.2.2 256 ∧ (∀ x27 : Int32, x27 = t.2.2.2.2 + (1 : Int32) → (vp_in x27 256 ∧ (∀ x29 : Int32, x29 = (xA (xA (xA X 76 t.2.2.2.2.toNatClampNeg x11) 77 t.2.2.2.2.toNatClampNeg x17) 78 t.2.2.2.2.toNatClampNeg x23).2 79 x27.toNatClampNeg → (vp_in t.2.2.2.2 256 ∧ (∀ x33 : Int32, x33 = t.2.2.2.2 + (1 : Int32) → (vp_in x33 256 ∧ (∀ x35 : Int32, x35 = (xA (xA (xA (xA X 76 t.2.2.2.2.toNatClampNeg x11) 77 t.2.2.2.2.toNatClampNeg x17) 78 t.2.2.2.2.toNatClampNeg x23) 79 t.2.2.2.2.toNatClampNeg x29).2 80 x33.toNatClampNeg → (vp_in t.2.2.2.2 256 ∧ (∀ x37 : Int32, x37 = t.2.2.2.2 + (1 : Int32) → Lx82 (t.1, t.2.1, t.2.2.1, t.2.2.2.1, x37) (xA (xA (xA (xA (xA X 76 t.2.2.2.2.toNatClampNeg x11) 77 t.2.2.2.2.toNatClampNeg x17) 78 t.2.2.2.2.toNatClampNeg x23) 79 t.2.2.2.2.toNatClampNeg x29) 80 t.2.2.2.2.toNatClampNeg x35))))))))))))))))))))))))
set_option maxHeartbeats 4000000 in
set_option maxRecDepth 100000 in
theorem xf_X12_placeOf_82 {m : Nat} {ad : Nat → Nat} {σ0 : Sto} {Q : Int32 → Sto → Prop} {Qx : Int32 → Xc → Prop} {Lx82 : Int32 × Int32 × Int32 × Int32 × Int32 → Xc → Prop} {L82 : Int32 × Int32 × Int32 × Int32 × Int32 → Sto → Prop} (hQ : ∀ (r : Int32) (σ' : Sto) (X' : Xc), Qx r X' → RefC m ad σ' X' → Fi m ad σ0 σ' → Q r σ') (hL82 : ∀ (t : Int32 × Int32 × Int32 × Int32 × Int32) (σ : Sto) (X : Xc), Lx82 t X → RefC m ad σ X → Fi m ad σ0 σ → L82 t σ) : ∀ (t : Int32 × Int32 × Int32 × Int32 × Int32) (σ : Sto) (X : Xc), RefC m ad σ X → Fi m ad σ0 σ → fx_X12_placeOf_82  Qx Lx82 t X → f_X12_placeOf_82 m  Q L82 t σ := by
  intro t σ X hR F h
  unfold fx_X12_placeOf_82 at h
  unfold f_X12_placeOf_82
  refine ⟨fun c1 => ?_, fun c1 => ?_⟩
  · have h := h.1 c1
    refine ⟨hR.1.1, ?_⟩
    have a2 : sP σ m 75 = some (ad 75) := hR.P (k := 75) (by decide)
    refine ⟨ad 75, a2, ?_⟩
    refine ⟨hR.K (k := 75) (by decide), ?_⟩
    refine ⟨hR.N (k := 75) (by decide) h.1, ?_⟩
    have h := h.2
    intro x3 e4
    rw [hR.2.2 75 (by decide)] at e4
    have h := h x3 e4
    intro x5 e6
    have h := h x5 e6
    refine ⟨hR.N (k := 75) (by decide) h.1, ?_⟩
    have h := h.2
    have F := F.A (k := 75) (i := t.1.toNatClampNeg) (v := x5) (by decide)
    have hR := hR.A (k := 75) (i := t.1.toNatClampNeg) (v := x5) (by decide)
    exact xb_X12_placeOf_191 hQ  t.1 t.2.1 t.2.2.1 t.2.2.2.1 _ _ hR F h
  · have h := h.2 c1
    refine ⟨hR.1.1, ?_⟩
    have a7 : sP σ m 76 = some (ad 76) := hR.P (k := 76) (by decide)
    have a8 : sP σ m 76 = some (ad 76) := hR.P (k := 76) (by decide)
    intro x9 e10
    have h := h x9 e10
    refine ⟨ad 76, a8, ?_⟩
    refine ⟨hR.K (k := 76) (by decide), ?_⟩
    refine ⟨hR.N (k := 76) (by decide) h.1, ?_⟩
    have h := h.2
    intro x11 e12
    rw [hR.2.2 76 (by decide)] at e12
    have h := h x11 e12
    refine ⟨hR.N (k := 76) (by decide) h.1, ?_⟩
    have h := h.2
    have F := F.A (k := 76) (i := t.2.2.2.2.toNatClampNeg) (v := x11) (by decide)
    have hR := hR.A (k := 76) (i := t.2.2.2.2.toNatClampNeg) (v := x11) (by decide)
    have a13 : sP σ m 77 = some (ad 77) := hR.P (k := 77) (by decide)
    have a14 : sP σ m 77 = some (ad 77) := hR.P (k := 77) (by decide)
    intro x15 e16
    have h := h x15 e16
    refine ⟨ad 77, a14, ?_⟩
    refine ⟨hR.K (k := 77) (by decide), ?_⟩
    refine ⟨hR.N (k := 77) (by decide) h.1, ?_⟩
    have h := h.2
    intro x17 e18
    rw [hR.2.2 77 (by decide)] at e18
    have h := h x17 e18
    refine ⟨hR.N (k := 77) (by decide) h.1, ?_⟩
    have h := h.2
    have F := F.A (k := 77) (i := t.2.2.2.2.toNatClampNeg) (v := x17) (by decide)
    have hR := hR.A (k := 77) (i := t.2.2.2.2.toNatClampNeg) (v := x17) (by decide)
    have a19 : sP σ m 78 = some (ad 78) := hR.P (k := 78) (by decide)
    have a20 : sP σ m 78 = some (ad 78) := hR.P (k := 78) (by decide)
    intro x21 e22
    have h := h x21 e22
    refine ⟨ad 78, a20, ?_⟩
    refine ⟨hR.K (k := 78) (by decide), ?_⟩
    refine ⟨hR.N (k := 78) (by decide) h.1, ?_⟩
    have h := h.2
    intro x23 e24
    rw [hR.2.2 78 (by decide)] at e24
    have h := h x23 e24
    refine ⟨hR.N (k := 78) (by decide) h.1, ?_⟩
    have h := h.2
    have F := F.A (k := 78) (i := t.2.2.2.2.toNatClampNeg) (v := x23) (by decide)
    have hR := hR.A (k := 78) (i := t.2.2.2.2.toNatClampNeg) (v := x23) (by decide)
    have a25 : sP σ m 79 = some (ad 79) := hR.P (k := 79) (by decide)
    have a26 : sP σ m 79 = some (ad 79) := hR.P (k := 79) (by decide)
    intro x27 e28
    have h := h x27 e28
    refine ⟨ad 79, a26, ?_⟩
    refine ⟨hR.K (k := 79) (by decide), ?_⟩
    refine ⟨hR.N (k := 79) (by decide) h.1, ?_⟩
    have h := h.2
    intro x29 e30
    rw [hR.2.2 79 (by decide)] at e30
    have h := h x29 e30
    refine ⟨hR.N (k := 79) (by decide) h.1, ?_⟩
    have h := h.2
    have F := F.A (k := 79) (i := t.2.2.2.2.toNatClampNeg) (v := x29) (by decide)
    have hR := hR.A (k := 79) (i := t.2.2.2.2.toNatClampNeg) (v := x29) (by decide)
    have a31 : sP σ m 80 = some (ad 80) := hR.P (k := 80) (by decide)
    have a32 : sP σ m 80 = some (ad 80) := hR.P (k := 80) (by decide)
    intro x33 e34
    have h := h x33 e34
    refine ⟨ad 80, a32, ?_⟩
    refine ⟨hR.K (k := 80) (by decide), ?_⟩
    refine ⟨hR.N (k := 80) (by decide) h.1, ?_⟩
    have h := h.2
    intro x35 e36
    rw [hR.2.2 80 (by decide)] at e36
    have h := h x35 e36
    refine ⟨hR.N (k := 80) (by decide) h.1, ?_⟩
    have h := h.2
    have F := F.A (k := 80) (i := t.2.2.2.2.toNatClampNeg) (v := x35) (by decide)
    have hR := hR.A (k := 80) (i := t.2.2.2.2.toNatClampNeg) (v := x35) (by decide)
    intro x37 e38
    have h := h x37 e38
    exact hL82 _ _ _ h hR F
def bx_X12_placeOf_59 (Lx6 : Int32 × Int32 × Int32 × Int32 × Int32 → Xc → Prop) (Qx : Int32 → Xc → Prop) (p1 : Int32) (p2 : Int32) (p3 : Int32) (p4 : Int32) (p5 : Int32) (X : Xc) : Prop := (∀ x1 : Int32, x1 = p5 + (1 : Int32) → Lx6 (p1, p2, p3, p4, x1) X)
set_option maxHeartbeats 4000000 in
set_option maxRecDepth 100000 in
theorem xb_X12_placeOf_59 {m : Nat} {ad : Nat → Nat} {σ0 : Sto} {Lx6 : Int32 × Int32 × Int32 × Int32 × Int32 → Xc → Prop} {L6 : Int32 × Int32 × Int32 × Int32 × Int32 → Sto → Prop} {Q : Int32 → Sto → Prop} {Qx : Int32 → Xc → Prop} (hQ : ∀ (r : Int32) (σ' : Sto) (X' : Xc), Qx r X' → RefC m ad σ' X' → Fi m ad σ0 σ' → Q r σ') (hL6 : ∀ (t : Int32 × Int32 × Int32 × Int32 × Int32) (σ : Sto) (X : Xc), Lx6 t X → RefC m ad σ X → Fi m ad σ0 σ → L6 t σ) (p1 : Int32) (p2 : Int32) (p3 : Int32) (p4 : Int32) (p5 : Int32) (σ : Sto) (X : Xc) (hR : RefC m ad σ X) (F : Fi m ad σ0 σ) (h : bx_X12_placeOf_59 Lx6 Qx p1 p2 p3 p4 p5 X) : b_X12_placeOf_59 m L6 Q p1 p2 p3 p4 p5 σ := by
  unfold bx_X12_placeOf_59 at h
  unfold b_X12_placeOf_59
  intro x1 e2
  have h := h x1 e2
  exact hL6 _ _ _ h hR F
def fx_X12_placeOf_6 (Qx : Int32 → Xc → Prop) (Lx6 : Int32 × Int32 × Int32 × Int32 × Int32 → Xc → Prop) (t : Int32 × Int32 × Int32 × Int32 × Int32) (X : Xc) : Prop := (vp_in t.1 4 ∧ (∀ x2 : Int32, x2 = X.2 75 t.1.toNatClampNeg → (((((64 : Int32) * t.1) + x2) ≤ t.2.2.2.2 → (vp_in t.1 4 ∧ (∀ x6 : Int32, x6 = X.2 75 t.1.toNatClampNeg → ((¬ x6 = (64 : Int32) → bx_X12_placeOf_191  Qx t.1 t.2.1 t.2.2.1 t.2.2.2.1 X) ∧ (x6 = (64 : Int32) → (∀ x9 : Int32, x9 = (64 : Int32) * t.1 → LFx (fx_X12_placeOf_82  Qx) (t.1, t.2.1, t.2.2.1, t.2.2.2.1, x9) X)))))) ∧ (¬ (((64 : Int32) * t.1) + x2) ≤ t.2.2.2.2 → (vp_in t.2.2.2.2 256 ∧ (∀ x12 : Int32, x12 = X.2 76 t.2.2.2.2.toNatClampNeg → ((¬ x12 = t.2.1 → bx_X12_placeOf_59 Lx6 Qx t.1 t.2.1 t.2.2.1 t.2.2.2.1 t.2.2.2.2 X) ∧ (x12 = t.2.1 → (vp_in t.2.2.2.2 256 ∧ (∀ x16 : Int32, x16 = X.2 77 t.2.2.2.2.toNatClampNeg → ((¬ x16 = t.2.2.1 → bx_X12_placeOf_59 Lx6 Qx t.1 t.2.1 t.2.2.1 t.2.2.2.1 t.2.2.2.2 X) ∧ (x16 = t.2.2.1 → (vp_in t.2.2.2.2 256 ∧ (∀ x20 : Int32, x20 = X.2 78 t.2.2.2.2.toNatClampNeg → ((¬ x20 = t.2.2.2.1 → bx_X12_placeOf_59 Lx6 Qx t.1 t.2.1 t.2.2.1 t.2.2.2.1 t.2.2.2.2 X) ∧ (x20 = t.2.2.2.1 → Qx t.2.2.2.2 X))))))))))))))))
set_option maxHeartbeats 4000000 in
set_option maxRecDepth 100000 in
theorem xf_X12_placeOf_6 {m : Nat} {ad : Nat → Nat} {σ0 : Sto} {Q : Int32 → Sto → Prop} {Qx : Int32 → Xc → Prop} {Lx6 : Int32 × Int32 × Int32 × Int32 × Int32 → Xc → Prop} {L6 : Int32 × Int32 × Int32 × Int32 × Int32 → Sto → Prop} (hQ : ∀ (r : Int32) (σ' : Sto) (X' : Xc), Qx r X' → RefC m ad σ' X' → Fi m ad σ0 σ' → Q r σ') (hL6 : ∀ (t : Int32 × Int32 × Int32 × Int32 × Int32) (σ : Sto) (X : Xc), Lx6 t X → RefC m ad σ X → Fi m ad σ0 σ → L6 t σ) : ∀ (t : Int32 × Int32 × Int32 × Int32 × Int32) (σ : Sto) (X : Xc), RefC m ad σ X → Fi m ad σ0 σ → fx_X12_placeOf_6  Qx Lx6 t X → f_X12_placeOf_6 m  Q L6 t σ := by
  intro t σ X hR F h
  unfold fx_X12_placeOf_6 at h
  unfold f_X12_placeOf_6
  refine ⟨hR.1.1, ?_⟩
  have a1 : sP σ m 75 = some (ad 75) := hR.P (k := 75) (by decide)
  refine ⟨ad 75, a1, ?_⟩
  refine ⟨hR.K (k := 75) (by decide), ?_⟩
  refine ⟨hR.N (k := 75) (by decide) h.1, ?_⟩
  have h := h.2
  intro x2 e3
  rw [hR.2.2 75 (by decide)] at e3
  have h := h x2 e3
  refine ⟨fun c4 => ?_, fun c4 => ?_⟩
  · have h := h.1 c4
    have a5 : sP σ m 75 = some (ad 75) := hR.P (k := 75) (by decide)
    refine ⟨hR.N (k := 75) (by decide) h.1, ?_⟩
    have h := h.2
    intro x6 e7
    rw [hR.2.2 75 (by decide)] at e7
    have h := h x6 e7
    refine ⟨fun c8 => ?_, fun c8 => ?_⟩
    · have h := h.1 c8
      exact xb_X12_placeOf_191 hQ  t.1 t.2.1 t.2.2.1 t.2.2.2.1 _ _ hR F h
    · have h := h.2 c8
      intro x9 e10
      have h := h x9 e10
      exact lfx h hR F (fun Lx L hL t σ X hR F h => xf_X12_placeOf_82 hQ  hL t σ X hR F h)
  · have h := h.2 c4
    have a11 : sP σ m 76 = some (ad 76) := hR.P (k := 76) (by decide)
    refine ⟨ad 76, a11, ?_⟩
    refine ⟨hR.K (k := 76) (by decide), ?_⟩
    refine ⟨hR.N (k := 76) (by decide) h.1, ?_⟩
    have h := h.2
    intro x12 e13
    rw [hR.2.2 76 (by decide)] at e13
    have h := h x12 e13
    refine ⟨fun c14 => ?_, fun c14 => ?_⟩
    · have h := h.1 c14
      exact xb_X12_placeOf_59 hQ hL6 t.1 t.2.1 t.2.2.1 t.2.2.2.1 t.2.2.2.2 _ _ hR F h
    · have h := h.2 c14
      have a15 : sP σ m 77 = some (ad 77) := hR.P (k := 77) (by decide)
      refine ⟨ad 77, a15, ?_⟩
      refine ⟨hR.K (k := 77) (by decide), ?_⟩
      refine ⟨hR.N (k := 77) (by decide) h.1, ?_⟩
      have h := h.2
      intro x16 e17
      rw [hR.2.2 77 (by decide)] at e17
      have h := h x16 e17
      refine ⟨fun c18 => ?_, fun c18 => ?_⟩
      · have h := h.1 c18
        exact xb_X12_placeOf_59 hQ hL6 t.1 t.2.1 t.2.2.1 t.2.2.2.1 t.2.2.2.2 _ _ hR F h
      · have h := h.2 c18
        have a19 : sP σ m 78 = some (ad 78) := hR.P (k := 78) (by decide)
        refine ⟨ad 78, a19, ?_⟩
        refine ⟨hR.K (k := 78) (by decide), ?_⟩
        refine ⟨hR.N (k := 78) (by decide) h.1, ?_⟩
        have h := h.2
        intro x20 e21
        rw [hR.2.2 78 (by decide)] at e21
        have h := h x20 e21
        refine ⟨fun c22 => ?_, fun c22 => ?_⟩
        · have h := h.1 c22
          exact xb_X12_placeOf_59 hQ hL6 t.1 t.2.1 t.2.2.1 t.2.2.2.1 t.2.2.2.2 _ _ hR F h
        · have h := h.2 c22
          exact hQ _ _ _ h hR F
def wx_X12_placeOf (p1 : Int32) (p2 : Int32) (p3 : Int32) (p4 : Int32) (X : Xc) (Qx : Int32 → Xc → Prop) : Prop := (∀ x1 : Int32, x1 = (64 : Int32) * p1 → LFx (fx_X12_placeOf_6  Qx) (p1, p2, p3, p4, x1) X)
set_option maxHeartbeats 4000000 in
set_option maxRecDepth 100000 in
theorem x_X12_placeOf {m : Nat} {ad : Nat → Nat} {p1 : Int32} {p2 : Int32} {p3 : Int32} {p4 : Int32} {σ : Sto} {X : Xc} {Q : Int32 → Sto → Prop} {Qx : Int32 → Xc → Prop} (hR : RefC m ad σ X) (h : wx_X12_placeOf p1 p2 p3 p4 X Qx) (hQ : ∀ (r : Int32) (σ' : Sto) (X' : Xc), Qx r X' → RefC m ad σ' X' → Fi m ad σ σ' → Q r σ') : wp_X12_placeOf m p1 p2 p3 p4 σ Q := by
  have F : Fi m ad σ σ := Fi.rf
  unfold wx_X12_placeOf at h
  unfold wp_X12_placeOf
  intro x1 e2
  have h := h x1 e2
  exact lfx h hR F (fun Lx L hL t σ X hR F h => xf_X12_placeOf_6 hQ  hL t σ X hR F h)
def wx_X12_accept (p1 : Int32) (p2 : Int32) (X : Xc) (Qx : Xc → Prop) : Prop := (vp_in p1 4 ∧ (vp_in p2 256 ∧ (∀ x4 : Int32, x4 = (xA X 66 p1.toNatClampNeg (vp_nar .boolean (0 : Int32))).2 80 p2.toNatClampNeg → (vp_in p1 4 ∧ (vp_in p2 256 ∧ (∀ x8 : Int32, x8 = (xA (xA X 66 p1.toNatClampNeg (vp_nar .boolean (0 : Int32))) 71 p1.toNatClampNeg x4).2 78 p2.toNatClampNeg → (vp_in p1 4 ∧ (vp_in p2 256 ∧ (∀ x12 : Int32, x12 = (xA (xA (xA X 66 p1.toNatClampNeg (vp_nar .boolean (0 : Int32))) 71 p1.toNatClampNeg x4) 72 p1.toNatClampNeg x8).2 76 p2.toNatClampNeg → (vp_in p1 4 ∧ (vp_in p2 256 ∧ (∀ x16 : Int32, x16 = (xA (xA (xA (xA X 66 p1.toNatClampNeg (vp_nar .boolean (0 : Int32))) 71 p1.toNatClampNeg x4) 72 p1.toNatClampNeg x8) 73 p1.toNatClampNeg x12).2 77 p2.toNatClampNeg → (vp_in p1 4 ∧ (∀ x18 : Int32, x18 = (xA (xA (xA (xA (xA X 66 p1.toNatClampNeg (vp_nar .boolean (0 : Int32))) 71 p1.toNatClampNeg x4) 72 p1.toNatClampNeg x8) 73 p1.toNatClampNeg x12) 74 p1.toNatClampNeg x16).1 81 → (∀ x20 : Int32, x20 = x18 - x18 / (200 : Int32) * (200 : Int32) → (∀ x22 : Int32, x22 = (xA (xA (xA (xA (xA X 66 p1.toNatClampNeg (vp_nar .boolean (0 : Int32))) 71 p1.toNatClampNeg x4) 72 p1.toNatClampNeg x8) 73 p1.toNatClampNeg x12) 74 p1.toNatClampNeg x16).1 81 → (∀ x24 : Int32, x24 = x22 + (1 : Int32) → (vp_in x20 200 ∧ (vp_in p1 4 ∧ (∀ x29 : Int32, x29 = (xA (xS (xA (xA (xA (xA (xA X 66 p1.toNatClampNeg (vp_nar .boolean (0 : Int32))) 71 p1.toNatClampNeg x4) 72 p1.toNatClampNeg x8) 73 p1.toNatClampNeg x12) 74 p1.toNatClampNeg x16) 81 x24) 82 x20.toNatClampNeg p1).2 65 p1.toNatClampNeg → (vp_in x20 200 ∧ (vp_in p1 4 ∧ (∀ x33 : Int32, x33 = (xA (xA (xS (xA (xA (xA (xA (xA X 66 p1.toNatClampNeg (vp_nar .boolean (0 : Int32))) 71 p1.toNatClampNeg x4) 72 p1.toNatClampNeg x8) 73 p1.toNatClampNeg x12) 74 p1.toNatClampNeg x16) 81 x24) 82 x20.toNatClampNeg p1) 83 x20.toNatClampNeg x29).2 72 p1.toNatClampNeg → (vp_in x20 200 ∧ (vp_in p1 4 ∧ (∀ x37 : Int32, x37 = (xA (xA (xA (xS (xA (xA (xA (xA (xA X 66 p1.toNatClampNeg (vp_nar .boolean (0 : Int32))) 71 p1.toNatClampNeg x4) 72 p1.toNatClampNeg x8) 73 p1.toNatClampNeg x12) 74 p1.toNatClampNeg x16) 81 x24) 82 x20.toNatClampNeg p1) 83 x20.toNatClampNeg x29) 84 x20.toNatClampNeg x33).2 73 p1.toNatClampNeg → (vp_in x20 200 ∧ (vp_in p1 4 ∧ (∀ x41 : Int32, x41 = (xA (xA (xA (xA (xS (xA (xA (xA (xA (xA X 66 p1.toNatClampNeg (vp_nar .boolean (0 : Int32))) 71 p1.toNatClampNeg x4) 72 p1.toNatClampNeg x8) 73 p1.toNatClampNeg x12) 74 p1.toNatClampNeg x16) 81 x24) 82 x20.toNatClampNeg p1) 83 x20.toNatClampNeg x29) 84 x20.toNatClampNeg x33) 85 x20.toNatClampNeg x37).2 74 p1.toNatClampNeg → (vp_in x20 200 ∧ (vp_in p1 4 ∧ (∀ x45 : Int32, x45 = (xA (xA (xA (xA (xA (xS (xA (xA (xA (xA (xA X 66 p1.toNatClampNeg (vp_nar .boolean (0 : Int32))) 71 p1.toNatClampNeg x4) 72 p1.toNatClampNeg x8) 73 p1.toNatClampNeg x12) 74 p1.toNatClampNeg x16) 81 x24) 82 x20.toNatClampNeg p1) 83 x20.toNatClampNeg x29) 84 x20.toNatClampNeg x33) 85 x20.toNatClampNeg x37) 86 x20.toNatClampNeg x41).2 71 p1.toNatClampNeg → (vp_in x20 200 ∧ Qx (xA (xA (xA (xA (xA (xA (xS (xA (xA (xA (xA (xA X 66 p1.toNatClampNeg (vp_nar .boolean (0 : Int32))) 71 p1.toNatClampNeg x4) 72 p1.toNatClampNeg x8) 73 p1.toNatClampNeg x12) 74 p1.toNatClampNeg x16) 81 x24) 82 x20.toNatClampNeg p1) 83 x20.toNatClampNeg x29) 84 x20.toNatClampNeg x33) 85 x20.toNatClampNeg x37) 86 x20.toNatClampNeg x41) 87 x20.toNatClampNeg x45))))))))))))))))))))))))))))))))))
set_option maxHeartbeats 4000000 in
set_option maxRecDepth 100000 in
theorem x_X12_accept {m : Nat} {ad : Nat → Nat} {p1 : Int32} {p2 : Int32} {σ : Sto} {X : Xc} {Q : Sto → Prop} {Qx : Xc → Prop} (hR : RefC m ad σ X) (h : wx_X12_accept p1 p2 X Qx) (hQ : ∀ (σ' : Sto) (X' : Xc), Qx X' → RefC m ad σ' X' → Fi m ad σ σ' → Q σ') : wp_X12_accept m p1 p2 σ Q := by
  have F : Fi m ad σ σ := Fi.rf
  unfold wx_X12_accept at h
  unfold wp_X12_accept
  refine ⟨hR.1.1, ?_⟩
  have a1 : sP σ m 66 = some (ad 66) := hR.P (k := 66) (by decide)
  refine ⟨ad 66, a1, ?_⟩
  refine ⟨hR.K (k := 66) (by decide), ?_⟩
  refine ⟨hR.N (k := 66) (by decide) h.1, ?_⟩
  have h := h.2
  have F := F.A (k := 66) (i := p1.toNatClampNeg) (v := (vp_nar .boolean (0 : Int32))) (by decide)
  have hR := hR.A (k := 66) (i := p1.toNatClampNeg) (v := (vp_nar .boolean (0 : Int32))) (by decide)
  have a2 : sP σ m 71 = some (ad 71) := hR.P (k := 71) (by decide)
  have a3 : sP σ m 80 = some (ad 80) := hR.P (k := 80) (by decide)
  refine ⟨ad 80, a3, ?_⟩
  refine ⟨hR.K (k := 80) (by decide), ?_⟩
  refine ⟨hR.N (k := 80) (by decide) h.1, ?_⟩
  have h := h.2
  intro x4 e5
  rw [hR.2.2 80 (by decide)] at e5
  have h := h x4 e5
  refine ⟨ad 71, a2, ?_⟩
  refine ⟨hR.K (k := 71) (by decide), ?_⟩
  refine ⟨hR.N (k := 71) (by decide) h.1, ?_⟩
  have h := h.2
  have F := F.A (k := 71) (i := p1.toNatClampNeg) (v := x4) (by decide)
  have hR := hR.A (k := 71) (i := p1.toNatClampNeg) (v := x4) (by decide)
  have a6 : sP σ m 72 = some (ad 72) := hR.P (k := 72) (by decide)
  have a7 : sP σ m 78 = some (ad 78) := hR.P (k := 78) (by decide)
  refine ⟨ad 78, a7, ?_⟩
  refine ⟨hR.K (k := 78) (by decide), ?_⟩
  refine ⟨hR.N (k := 78) (by decide) h.1, ?_⟩
  have h := h.2
  intro x8 e9
  rw [hR.2.2 78 (by decide)] at e9
  have h := h x8 e9
  refine ⟨ad 72, a6, ?_⟩
  refine ⟨hR.K (k := 72) (by decide), ?_⟩
  refine ⟨hR.N (k := 72) (by decide) h.1, ?_⟩
  have h := h.2
  have F := F.A (k := 72) (i := p1.toNatClampNeg) (v := x8) (by decide)
  have hR := hR.A (k := 72) (i := p1.toNatClampNeg) (v := x8) (by decide)
  have a10 : sP σ m 73 = some (ad 73) := hR.P (k := 73) (by decide)
  have a11 : sP σ m 76 = some (ad 76) := hR.P (k := 76) (by decide)
  refine ⟨ad 76, a11, ?_⟩
  refine ⟨hR.K (k := 76) (by decide), ?_⟩
  refine ⟨hR.N (k := 76) (by decide) h.1, ?_⟩
  have h := h.2
  intro x12 e13
  rw [hR.2.2 76 (by decide)] at e13
  have h := h x12 e13
  refine ⟨ad 73, a10, ?_⟩
  refine ⟨hR.K (k := 73) (by decide), ?_⟩
  refine ⟨hR.N (k := 73) (by decide) h.1, ?_⟩
  have h := h.2
  have F := F.A (k := 73) (i := p1.toNatClampNeg) (v := x12) (by decide)
  have hR := hR.A (k := 73) (i := p1.toNatClampNeg) (v := x12) (by decide)
  have a14 : sP σ m 74 = some (ad 74) := hR.P (k := 74) (by decide)
  have a15 : sP σ m 77 = some (ad 77) := hR.P (k := 77) (by decide)
  refine ⟨ad 77, a15, ?_⟩
  refine ⟨hR.K (k := 77) (by decide), ?_⟩
  refine ⟨hR.N (k := 77) (by decide) h.1, ?_⟩
  have h := h.2
  intro x16 e17
  rw [hR.2.2 77 (by decide)] at e17
  have h := h x16 e17
  refine ⟨ad 74, a14, ?_⟩
  refine ⟨hR.K (k := 74) (by decide), ?_⟩
  refine ⟨hR.N (k := 74) (by decide) h.1, ?_⟩
  have h := h.2
  have F := F.A (k := 74) (i := p1.toNatClampNeg) (v := x16) (by decide)
  have hR := hR.A (k := 74) (i := p1.toNatClampNeg) (v := x16) (by decide)
  intro x18 e19
  rw [hR.2.1 81] at e19
  have h := h x18 e19
  intro x20 e21
  have h := h x20 e21
  intro x22 e23
  rw [hR.2.1 81] at e23
  have h := h x22 e23
  intro x24 e25
  have h := h x24 e25
  have F := F.S (k := 81) (v := x24)
  have hR := hR.S (k := 81) (v := x24)
  have a26 : sP σ m 82 = some (ad 82) := hR.P (k := 82) (by decide)
  refine ⟨ad 82, a26, ?_⟩
  refine ⟨hR.K (k := 82) (by decide), ?_⟩
  refine ⟨hR.N (k := 82) (by decide) h.1, ?_⟩
  have h := h.2
  have F := F.A (k := 82) (i := x20.toNatClampNeg) (v := p1) (by decide)
  have hR := hR.A (k := 82) (i := x20.toNatClampNeg) (v := p1) (by decide)
  have a27 : sP σ m 83 = some (ad 83) := hR.P (k := 83) (by decide)
  have a28 : sP σ m 65 = some (ad 65) := hR.P (k := 65) (by decide)
  refine ⟨ad 65, a28, ?_⟩
  refine ⟨hR.K (k := 65) (by decide), ?_⟩
  refine ⟨hR.N (k := 65) (by decide) h.1, ?_⟩
  have h := h.2
  intro x29 e30
  rw [hR.2.2 65 (by decide)] at e30
  have h := h x29 e30
  refine ⟨ad 83, a27, ?_⟩
  refine ⟨hR.K (k := 83) (by decide), ?_⟩
  refine ⟨hR.N (k := 83) (by decide) h.1, ?_⟩
  have h := h.2
  have F := F.A (k := 83) (i := x20.toNatClampNeg) (v := x29) (by decide)
  have hR := hR.A (k := 83) (i := x20.toNatClampNeg) (v := x29) (by decide)
  have a31 : sP σ m 84 = some (ad 84) := hR.P (k := 84) (by decide)
  have a32 : sP σ m 72 = some (ad 72) := hR.P (k := 72) (by decide)
  refine ⟨hR.N (k := 72) (by decide) h.1, ?_⟩
  have h := h.2
  intro x33 e34
  rw [hR.2.2 72 (by decide)] at e34
  have h := h x33 e34
  refine ⟨ad 84, a31, ?_⟩
  refine ⟨hR.K (k := 84) (by decide), ?_⟩
  refine ⟨hR.N (k := 84) (by decide) h.1, ?_⟩
  have h := h.2
  have F := F.A (k := 84) (i := x20.toNatClampNeg) (v := x33) (by decide)
  have hR := hR.A (k := 84) (i := x20.toNatClampNeg) (v := x33) (by decide)
  have a35 : sP σ m 85 = some (ad 85) := hR.P (k := 85) (by decide)
  have a36 : sP σ m 73 = some (ad 73) := hR.P (k := 73) (by decide)
  refine ⟨hR.N (k := 73) (by decide) h.1, ?_⟩
  have h := h.2
  intro x37 e38
  rw [hR.2.2 73 (by decide)] at e38
  have h := h x37 e38
  refine ⟨ad 85, a35, ?_⟩
  refine ⟨hR.K (k := 85) (by decide), ?_⟩
  refine ⟨hR.N (k := 85) (by decide) h.1, ?_⟩
  have h := h.2
  have F := F.A (k := 85) (i := x20.toNatClampNeg) (v := x37) (by decide)
  have hR := hR.A (k := 85) (i := x20.toNatClampNeg) (v := x37) (by decide)
  have a39 : sP σ m 86 = some (ad 86) := hR.P (k := 86) (by decide)
  have a40 : sP σ m 74 = some (ad 74) := hR.P (k := 74) (by decide)
  refine ⟨hR.N (k := 74) (by decide) h.1, ?_⟩
  have h := h.2
  intro x41 e42
  rw [hR.2.2 74 (by decide)] at e42
  have h := h x41 e42
  refine ⟨ad 86, a39, ?_⟩
  refine ⟨hR.K (k := 86) (by decide), ?_⟩
  refine ⟨hR.N (k := 86) (by decide) h.1, ?_⟩
  have h := h.2
  have F := F.A (k := 86) (i := x20.toNatClampNeg) (v := x41) (by decide)
  have hR := hR.A (k := 86) (i := x20.toNatClampNeg) (v := x41) (by decide)
  have a43 : sP σ m 87 = some (ad 87) := hR.P (k := 87) (by decide)
  have a44 : sP σ m 71 = some (ad 71) := hR.P (k := 71) (by decide)
  refine ⟨hR.N (k := 71) (by decide) h.1, ?_⟩
  have h := h.2
  intro x45 e46
  rw [hR.2.2 71 (by decide)] at e46
  have h := h x45 e46
  refine ⟨ad 87, a43, ?_⟩
  refine ⟨hR.K (k := 87) (by decide), ?_⟩
  refine ⟨hR.N (k := 87) (by decide) h.1, ?_⟩
  have h := h.2
  have F := F.A (k := 87) (i := x20.toNatClampNeg) (v := x45) (by decide)
  have hR := hR.A (k := 87) (i := x20.toNatClampNeg) (v := x45) (by decide)
  exact hQ _ _ h hR F
def bx_X12_clientGets_113 (Qx : Xc → Prop) (p1 : Int32) (p2 : Int32) (p3 : Int32) (X : Xc) : Prop := (vp_in p2 256 ∧ (∀ x2 : Int32, x2 = X.2 79 p2.toNatClampNeg → (wx_X12_bits x2 X (fun (x4 : Int32) (X6 : Xc) => (∀ x8 : Int32, x8 = X6.1 2 → ((x4 ≤ x8 → Qx X6) ∧ (¬ x4 ≤ x8 → (vp_in p2 256 ∧ (∀ x12 : Int32, x12 = X6.2 79 p2.toNatClampNeg → ((¬ ((x12 >>> (p3 &&& 31)) &&& (1 : Int32)) = (1 : Int32) → Qx X6) ∧ (((x12 >>> (p3 &&& 31)) &&& (1 : Int32)) = (1 : Int32) → (wx_X12_accept p1 p2 X6 (fun (X17 : Xc) => Qx X17)))))))))))))
set_option maxHeartbeats 4000000 in
set_option maxRecDepth 100000 in
theorem xb_X12_clientGets_113 {m : Nat} {ad : Nat → Nat} {σ0 : Sto} {Q : Sto → Prop} {Qx : Xc → Prop} (hQ : ∀ (σ' : Sto) (X' : Xc), Qx X' → RefC m ad σ' X' → Fi m ad σ0 σ' → Q σ')  (p1 : Int32) (p2 : Int32) (p3 : Int32) (σ : Sto) (X : Xc) (hR : RefC m ad σ X) (F : Fi m ad σ0 σ) (h : bx_X12_clientGets_113  Qx p1 p2 p3 X) : b_X12_clientGets_113 m  Q p1 p2 p3 σ := by
  unfold bx_X12_clientGets_113 at h
  unfold b_X12_clientGets_113
  refine ⟨hR.1.1, ?_⟩
  have a1 : sP σ m 79 = some (ad 79) := hR.P (k := 79) (by decide)
  refine ⟨ad 79, a1, ?_⟩
  refine ⟨hR.K (k := 79) (by decide), ?_⟩
  refine ⟨hR.N (k := 79) (by decide) h.1, ?_⟩
  have h := h.2
  intro x2 e3
  rw [hR.2.2 79 (by decide)] at e3
  have h := h x2 e3
  refine x_X12_bits hR h (fun x4 σ5 X6 h hR F7 => ?_)
  have F := F.trans F7
  refine ⟨hR.1.1, ?_⟩
  intro x8 e9
  rw [hR.2.1 2] at e9
  have h := h x8 e9
  refine ⟨fun c10 => ?_, fun c10 => ?_⟩
  · have h := h.1 c10
    exact hQ _ _ h hR F
  · have h := h.2 c10
    have a11 : sP σ5 m 79 = some (ad 79) := hR.P (k := 79) (by decide)
    refine ⟨ad 79, a11, ?_⟩
    refine ⟨hR.K (k := 79) (by decide), ?_⟩
    refine ⟨hR.N (k := 79) (by decide) h.1, ?_⟩
    have h := h.2
    intro x12 e13
    rw [hR.2.2 79 (by decide)] at e13
    have h := h x12 e13
    refine ⟨fun c14 => ?_, fun c14 => ?_⟩
    · have h := h.1 c14
      exact hQ _ _ h hR F
    · have h := h.2 c14
      refine x_X12_accept hR h (fun σ16 X17 h hR F18 => ?_)
      have F := F.trans F18
      exact hQ _ _ h hR F
def wx_X12_clientGets (p1 : Int32) (X : Xc) (Qx : Xc → Prop) : Prop := (vp_in p1 4 ∧ (∀ x2 : Int32, x2 = X.2 66 p1.toNatClampNeg → ((x2 = 0 → Qx X) ∧ (¬ x2 = 0 → (vp_in (6 : Int32) 640 ∧ (∀ x6 : Int32, x6 = X.2 15 (6 : Int32).toNatClampNeg → (vp_in p1 4 ∧ (∀ x9 : Int32, x9 = X.2 65 p1.toNatClampNeg → ((x6 = x9 → (vp_in (3 : Int32) 640 ∧ (∀ x13 : Int32, x13 = X.2 15 (3 : Int32).toNatClampNeg → (vp_in (4 : Int32) 640 ∧ (∀ x16 : Int32, x16 = X.2 15 (4 : Int32).toNatClampNeg → (vp_in (5 : Int32) 640 ∧ (∀ x19 : Int32, x19 = X.2 15 (5 : Int32).toNatClampNeg → (wx_X12_placeOf p1 x13 x16 x19 X (fun (x21 : Int32) (X23 : Xc) => (vp_in (3 : Int32) 640 ∧ (∀ x26 : Int32, x26 = X23.2 15 (3 : Int32).toNatClampNeg → (∀ x28 : Int32, x28 = X23.1 1 → (¬ x28 = 0 ∧ (∀ x30 : Int32, x30 = x26 - x26 / x28 * x28 → (vp_in x21 256 ∧ (∀ x33 : Int32, x33 = X23.2 79 x21.toNatClampNeg → (vp_in (1 : Int32) 640 ∧ (∀ x36 : Int32, x36 = X23.2 15 (1 : Int32).toNatClampNeg → (∀ x38 : Int32, x38 = x33 ||| ((1 : Int32) <<< (x36 &&& 31)) → (vp_in x21 256 ∧ (vp_in (1 : Int32) 640 ∧ (∀ x41 : Int32, x41 = (xA X23 79 x21.toNatClampNeg x38).2 15 (1 : Int32).toNatClampNeg → ((¬ x41 = x30 → bx_X12_clientGets_113  Qx p1 x21 x30 (xA X23 79 x21.toNatClampNeg x38)) ∧ (x41 = x30 → (vp_in (7 : Int32) 640 ∧ (∀ x45 : Int32, x45 = (xA X23 79 x21.toNatClampNeg x38).2 15 (7 : Int32).toNatClampNeg → ((¬ x45 = (1 : Int32) → bx_X12_clientGets_113  Qx p1 x21 x30 (xA X23 79 x21.toNatClampNeg x38)) ∧ (x45 = (1 : Int32) → (vp_in (8 : Int32) 640 ∧ (∀ x50 : Int32, x50 = (xA X23 79 x21.toNatClampNeg x38).2 15 (8 : Int32).toNatClampNeg → (vp_in x21 256 ∧ bx_X12_clientGets_113  Qx p1 x21 x30 (xA (xA X23 79 x21.toNatClampNeg x38) 80 x21.toNatClampNeg x50)))))))))))))))))))))))))))))))) ∧ (¬ x6 = x9 → Qx X))))))))))
set_option maxHeartbeats 4000000 in
set_option maxRecDepth 100000 in
theorem x_X12_clientGets {m : Nat} {ad : Nat → Nat} {p1 : Int32} {σ : Sto} {X : Xc} {Q : Sto → Prop} {Qx : Xc → Prop} (hR : RefC m ad σ X) (h : wx_X12_clientGets p1 X Qx) (hQ : ∀ (σ' : Sto) (X' : Xc), Qx X' → RefC m ad σ' X' → Fi m ad σ σ' → Q σ') : wp_X12_clientGets m p1 σ Q := by
  have F : Fi m ad σ σ := Fi.rf
  unfold wx_X12_clientGets at h
  unfold wp_X12_clientGets
  refine ⟨hR.1.1, ?_⟩
  have a1 : sP σ m 66 = some (ad 66) := hR.P (k := 66) (by decide)
  refine ⟨ad 66, a1, ?_⟩
  refine ⟨hR.K (k := 66) (by decide), ?_⟩
  refine ⟨hR.N (k := 66) (by decide) h.1, ?_⟩
  have h := h.2
  intro x2 e3
  rw [hR.2.2 66 (by decide)] at e3
  have h := h x2 e3
  refine ⟨fun c4 => ?_, fun c4 => ?_⟩
  · have h := h.1 c4
    exact hQ _ _ h hR F
  · have h := h.2 c4
    have a5 : sP σ m 15 = some (ad 15) := hR.P (k := 15) (by decide)
    refine ⟨ad 15, a5, ?_⟩
    refine ⟨hR.K (k := 15) (by decide), ?_⟩
    refine ⟨hR.N (k := 15) (by decide) h.1, ?_⟩
    have h := h.2
    intro x6 e7
    rw [hR.2.2 15 (by decide)] at e7
    have h := h x6 e7
    have a8 : sP σ m 65 = some (ad 65) := hR.P (k := 65) (by decide)
    refine ⟨ad 65, a8, ?_⟩
    refine ⟨hR.K (k := 65) (by decide), ?_⟩
    refine ⟨hR.N (k := 65) (by decide) h.1, ?_⟩
    have h := h.2
    intro x9 e10
    rw [hR.2.2 65 (by decide)] at e10
    have h := h x9 e10
    refine ⟨fun c11 => ?_, fun c11 => ?_⟩
    · have h := h.1 c11
      have a12 : sP σ m 15 = some (ad 15) := hR.P (k := 15) (by decide)
      refine ⟨hR.N (k := 15) (by decide) h.1, ?_⟩
      have h := h.2
      intro x13 e14
      rw [hR.2.2 15 (by decide)] at e14
      have h := h x13 e14
      have a15 : sP σ m 15 = some (ad 15) := hR.P (k := 15) (by decide)
      refine ⟨hR.N (k := 15) (by decide) h.1, ?_⟩
      have h := h.2
      intro x16 e17
      rw [hR.2.2 15 (by decide)] at e17
      have h := h x16 e17
      have a18 : sP σ m 15 = some (ad 15) := hR.P (k := 15) (by decide)
      refine ⟨hR.N (k := 15) (by decide) h.1, ?_⟩
      have h := h.2
      intro x19 e20
      rw [hR.2.2 15 (by decide)] at e20
      have h := h x19 e20
      refine x_X12_placeOf hR h (fun x21 σ22 X23 h hR F24 => ?_)
      have F := F.trans F24
      refine ⟨hR.1.1, ?_⟩
      have a25 : sP σ22 m 15 = some (ad 15) := hR.P (k := 15) (by decide)
      refine ⟨ad 15, a25, ?_⟩
      refine ⟨hR.K (k := 15) (by decide), ?_⟩
      refine ⟨hR.N (k := 15) (by decide) h.1, ?_⟩
      have h := h.2
      intro x26 e27
      rw [hR.2.2 15 (by decide)] at e27
      have h := h x26 e27
      intro x28 e29
      rw [hR.2.1 1] at e29
      have h := h x28 e29
      refine ⟨h.1, ?_⟩
      have h := h.2
      intro x30 e31
      have h := h x30 e31
      have a32 : sP σ22 m 79 = some (ad 79) := hR.P (k := 79) (by decide)
      refine ⟨ad 79, a32, ?_⟩
      refine ⟨hR.K (k := 79) (by decide), ?_⟩
      refine ⟨hR.N (k := 79) (by decide) h.1, ?_⟩
      have h := h.2
      intro x33 e34
      rw [hR.2.2 79 (by decide)] at e34
      have h := h x33 e34
      have a35 : sP σ22 m 15 = some (ad 15) := hR.P (k := 15) (by decide)
      refine ⟨hR.N (k := 15) (by decide) h.1, ?_⟩
      have h := h.2
      intro x36 e37
      rw [hR.2.2 15 (by decide)] at e37
      have h := h x36 e37
      intro x38 e39
      have h := h x38 e39
      refine ⟨hR.N (k := 79) (by decide) h.1, ?_⟩
      have h := h.2
      have F := F.A (k := 79) (i := x21.toNatClampNeg) (v := x38) (by decide)
      have hR := hR.A (k := 79) (i := x21.toNatClampNeg) (v := x38) (by decide)
      have a40 : sP σ22 m 15 = some (ad 15) := hR.P (k := 15) (by decide)
      refine ⟨hR.N (k := 15) (by decide) h.1, ?_⟩
      have h := h.2
      intro x41 e42
      rw [hR.2.2 15 (by decide)] at e42
      have h := h x41 e42
      refine ⟨fun c43 => ?_, fun c43 => ?_⟩
      · have h := h.1 c43
        exact xb_X12_clientGets_113 hQ  p1 x21 x30 _ _ hR F h
      · have h := h.2 c43
        have a44 : sP σ22 m 15 = some (ad 15) := hR.P (k := 15) (by decide)
        refine ⟨hR.N (k := 15) (by decide) h.1, ?_⟩
        have h := h.2
        intro x45 e46
        rw [hR.2.2 15 (by decide)] at e46
        have h := h x45 e46
        refine ⟨fun c47 => ?_, fun c47 => ?_⟩
        · have h := h.1 c47
          exact xb_X12_clientGets_113 hQ  p1 x21 x30 _ _ hR F h
        · have h := h.2 c47
          have a48 : sP σ22 m 80 = some (ad 80) := hR.P (k := 80) (by decide)
          have a49 : sP σ22 m 15 = some (ad 15) := hR.P (k := 15) (by decide)
          refine ⟨hR.N (k := 15) (by decide) h.1, ?_⟩
          have h := h.2
          intro x50 e51
          rw [hR.2.2 15 (by decide)] at e51
          have h := h x50 e51
          refine ⟨ad 80, a48, ?_⟩
          refine ⟨hR.K (k := 80) (by decide), ?_⟩
          refine ⟨hR.N (k := 80) (by decide) h.1, ?_⟩
          have h := h.2
          have F := F.A (k := 80) (i := x21.toNatClampNeg) (v := x50) (by decide)
          have hR := hR.A (k := 80) (i := x21.toNatClampNeg) (v := x50) (by decide)
          exact xb_X12_clientGets_113 hQ  p1 x21 x30 _ _ hR F h
    · have h := h.2 c11
      exact hQ _ _ h hR F
def wx_X12_forgetCounts (p1 : Int32) (X : Xc) (Qx : Xc → Prop) : Prop := (vp_in p1 7 ∧ (vp_in p1 7 ∧ (vp_in p1 7 ∧ (vp_in p1 7 ∧ (vp_in p1 7 ∧ Qx (xA (xA (xA (xA (xA X 36 p1.toNatClampNeg (0 : Int32)) 43 p1.toNatClampNeg (0 : Int32)) 44 p1.toNatClampNeg (0 : Int32)) 45 p1.toNatClampNeg (0 : Int32)) 46 p1.toNatClampNeg (0 : Int32)))))))
set_option maxHeartbeats 4000000 in
set_option maxRecDepth 100000 in
theorem x_X12_forgetCounts {m : Nat} {ad : Nat → Nat} {p1 : Int32} {σ : Sto} {X : Xc} {Q : Sto → Prop} {Qx : Xc → Prop} (hR : RefC m ad σ X) (h : wx_X12_forgetCounts p1 X Qx) (hQ : ∀ (σ' : Sto) (X' : Xc), Qx X' → RefC m ad σ' X' → Fi m ad σ σ' → Q σ') : wp_X12_forgetCounts m p1 σ Q := by
  have F : Fi m ad σ σ := Fi.rf
  unfold wx_X12_forgetCounts at h
  unfold wp_X12_forgetCounts
  refine ⟨hR.1.1, ?_⟩
  have a1 : sP σ m 36 = some (ad 36) := hR.P (k := 36) (by decide)
  refine ⟨ad 36, a1, ?_⟩
  refine ⟨hR.K (k := 36) (by decide), ?_⟩
  refine ⟨hR.N (k := 36) (by decide) h.1, ?_⟩
  have h := h.2
  have F := F.A (k := 36) (i := p1.toNatClampNeg) (v := (0 : Int32)) (by decide)
  have hR := hR.A (k := 36) (i := p1.toNatClampNeg) (v := (0 : Int32)) (by decide)
  have a2 : sP σ m 43 = some (ad 43) := hR.P (k := 43) (by decide)
  refine ⟨ad 43, a2, ?_⟩
  refine ⟨hR.K (k := 43) (by decide), ?_⟩
  refine ⟨hR.N (k := 43) (by decide) h.1, ?_⟩
  have h := h.2
  have F := F.A (k := 43) (i := p1.toNatClampNeg) (v := (0 : Int32)) (by decide)
  have hR := hR.A (k := 43) (i := p1.toNatClampNeg) (v := (0 : Int32)) (by decide)
  have a3 : sP σ m 44 = some (ad 44) := hR.P (k := 44) (by decide)
  refine ⟨ad 44, a3, ?_⟩
  refine ⟨hR.K (k := 44) (by decide), ?_⟩
  refine ⟨hR.N (k := 44) (by decide) h.1, ?_⟩
  have h := h.2
  have F := F.A (k := 44) (i := p1.toNatClampNeg) (v := (0 : Int32)) (by decide)
  have hR := hR.A (k := 44) (i := p1.toNatClampNeg) (v := (0 : Int32)) (by decide)
  have a4 : sP σ m 45 = some (ad 45) := hR.P (k := 45) (by decide)
  refine ⟨ad 45, a4, ?_⟩
  refine ⟨hR.K (k := 45) (by decide), ?_⟩
  refine ⟨hR.N (k := 45) (by decide) h.1, ?_⟩
  have h := h.2
  have F := F.A (k := 45) (i := p1.toNatClampNeg) (v := (0 : Int32)) (by decide)
  have hR := hR.A (k := 45) (i := p1.toNatClampNeg) (v := (0 : Int32)) (by decide)
  have a5 : sP σ m 46 = some (ad 46) := hR.P (k := 46) (by decide)
  refine ⟨ad 46, a5, ?_⟩
  refine ⟨hR.K (k := 46) (by decide), ?_⟩
  refine ⟨hR.N (k := 46) (by decide) h.1, ?_⟩
  have h := h.2
  have F := F.A (k := 46) (i := p1.toNatClampNeg) (v := (0 : Int32)) (by decide)
  have hR := hR.A (k := 46) (i := p1.toNatClampNeg) (v := (0 : Int32)) (by decide)
  exact hQ _ _ h hR F
def wx_X12_leader (p1 : Int32) (X : Xc) (Qx : Int32 → Xc → Prop) : Prop := (vp_in p1 7 ∧ (∀ x2 : Int32, x2 = X.2 21 p1.toNatClampNeg → (∀ x4 : Int32, x4 = X.1 1 → (¬ x4 = 0 ∧ Qx (x2 - x2 / x4 * x4) X))))
set_option maxHeartbeats 4000000 in
set_option maxRecDepth 100000 in
theorem x_X12_leader {m : Nat} {ad : Nat → Nat} {p1 : Int32} {σ : Sto} {X : Xc} {Q : Int32 → Sto → Prop} {Qx : Int32 → Xc → Prop} (hR : RefC m ad σ X) (h : wx_X12_leader p1 X Qx) (hQ : ∀ (r : Int32) (σ' : Sto) (X' : Xc), Qx r X' → RefC m ad σ' X' → Fi m ad σ σ' → Q r σ') : wp_X12_leader m p1 σ Q := by
  have F : Fi m ad σ σ := Fi.rf
  unfold wx_X12_leader at h
  unfold wp_X12_leader
  refine ⟨hR.1.1, ?_⟩
  have a1 : sP σ m 21 = some (ad 21) := hR.P (k := 21) (by decide)
  refine ⟨ad 21, a1, ?_⟩
  refine ⟨hR.K (k := 21) (by decide), ?_⟩
  refine ⟨hR.N (k := 21) (by decide) h.1, ?_⟩
  have h := h.2
  intro x2 e3
  rw [hR.2.2 21 (by decide)] at e3
  have h := h x2 e3
  intro x4 e5
  rw [hR.2.1 1] at e5
  have h := h x4 e5
  refine ⟨h.1, ?_⟩
  have h := h.2
  exact hQ _ _ _ h hR F
def wx_X12_leads (p1 : Int32) (X : Xc) (Qx : Int32 → Xc → Prop) : Prop := (wx_X12_leader p1 X (fun (x1 : Int32) (X3 : Xc) => ((¬ x1 = p1 → Qx (0 : Int32) X3) ∧ (x1 = p1 → Qx (1 : Int32) X3))))
set_option maxHeartbeats 4000000 in
set_option maxRecDepth 100000 in
theorem x_X12_leads {m : Nat} {ad : Nat → Nat} {p1 : Int32} {σ : Sto} {X : Xc} {Q : Int32 → Sto → Prop} {Qx : Int32 → Xc → Prop} (hR : RefC m ad σ X) (h : wx_X12_leads p1 X Qx) (hQ : ∀ (r : Int32) (σ' : Sto) (X' : Xc), Qx r X' → RefC m ad σ' X' → Fi m ad σ σ' → Q r σ') : wp_X12_leads m p1 σ Q := by
  have F : Fi m ad σ σ := Fi.rf
  unfold wx_X12_leads at h
  unfold wp_X12_leads
  refine ⟨hR.1.1, ?_⟩
  refine x_X12_leader hR h (fun x1 σ2 X3 h hR F4 => ?_)
  have F := F.trans F4
  refine ⟨fun c5 => ?_, fun c5 => ?_⟩
  · have h := h.1 c5
    exact hQ _ _ _ h hR F
  · have h := h.2 c5
    exact hQ _ _ _ h hR F
def wx_X12_sendTurned (p1 : Int32) (X : Xc) (Qx : Xc → Prop) : Prop := (wx_X12_leads p1 X (fun (x1 : Int32) (X3 : Xc) => ((x1 = 0 → (wx_X12_leader p1 X3 (fun (x6 : Int32) (X8 : Xc) => (wx_X12_begin (9 : Int32) p1 x6 X8 (fun (X12 : Xc) => (wx_X12_addView p1 X12 (fun (X16 : Xc) => (vp_in p1 7 ∧ (∀ x19 : Int32, x19 = X16.2 24 p1.toNatClampNeg → (wx_X12_add x19 X16 (fun (X23 : Xc) => (vp_in p1 7 ∧ (∀ x26 : Int32, x26 = X23.2 25 p1.toNatClampNeg → (wx_X12_add x26 X23 (fun (X30 : Xc) => (vp_in p1 7 ∧ (∀ x33 : Int32, x33 = X30.2 27 p1.toNatClampNeg → (wx_X12_add x33 X30 (fun (X37 : Xc) => (vp_in p1 7 ∧ (∀ x40 : Int32, x40 = X37.2 26 p1.toNatClampNeg → (wx_X12_addLog p1 x40 X37 (fun (X44 : Xc) => (wx_X12_post  X44 (fun (X48 : Xc) => Qx X48))))))))))))))))))))))))) ∧ (¬ x1 = 0 → Qx X3))))
set_option maxHeartbeats 4000000 in
set_option maxRecDepth 100000 in
theorem x_X12_sendTurned {m : Nat} {ad : Nat → Nat} {p1 : Int32} {σ : Sto} {X : Xc} {Q : Sto → Prop} {Qx : Xc → Prop} (hR : RefC m ad σ X) (h : wx_X12_sendTurned p1 X Qx) (hQ : ∀ (σ' : Sto) (X' : Xc), Qx X' → RefC m ad σ' X' → Fi m ad σ σ' → Q σ') : wp_X12_sendTurned m p1 σ Q := by
  have F : Fi m ad σ σ := Fi.rf
  unfold wx_X12_sendTurned at h
  unfold wp_X12_sendTurned
  refine ⟨hR.1.1, ?_⟩
  refine x_X12_leads hR h (fun x1 σ2 X3 h hR F4 => ?_)
  have F := F.trans F4
  refine ⟨fun c5 => ?_, fun c5 => ?_⟩
  · have h := h.1 c5
    refine ⟨hR.1.1, ?_⟩
    refine x_X12_leader hR h (fun x6 σ7 X8 h hR F9 => ?_)
    have F := F.trans F9
    refine ⟨hR.1.1, ?_⟩
    refine x_X12_begin hR h (fun σ11 X12 h hR F13 => ?_)
    have F := F.trans F13
    refine ⟨hR.1.1, ?_⟩
    refine x_X12_addView hR h (fun σ15 X16 h hR F17 => ?_)
    have F := F.trans F17
    refine ⟨hR.1.1, ?_⟩
    have a18 : sP σ15 m 24 = some (ad 24) := hR.P (k := 24) (by decide)
    refine ⟨ad 24, a18, ?_⟩
    refine ⟨hR.K (k := 24) (by decide), ?_⟩
    refine ⟨hR.N (k := 24) (by decide) h.1, ?_⟩
    have h := h.2
    intro x19 e20
    rw [hR.2.2 24 (by decide)] at e20
    have h := h x19 e20
    refine x_X12_add hR h (fun σ22 X23 h hR F24 => ?_)
    have F := F.trans F24
    refine ⟨hR.1.1, ?_⟩
    have a25 : sP σ22 m 25 = some (ad 25) := hR.P (k := 25) (by decide)
    refine ⟨ad 25, a25, ?_⟩
    refine ⟨hR.K (k := 25) (by decide), ?_⟩
    refine ⟨hR.N (k := 25) (by decide) h.1, ?_⟩
    have h := h.2
    intro x26 e27
    rw [hR.2.2 25 (by decide)] at e27
    have h := h x26 e27
    refine x_X12_add hR h (fun σ29 X30 h hR F31 => ?_)
    have F := F.trans F31
    refine ⟨hR.1.1, ?_⟩
    have a32 : sP σ29 m 27 = some (ad 27) := hR.P (k := 27) (by decide)
    refine ⟨ad 27, a32, ?_⟩
    refine ⟨hR.K (k := 27) (by decide), ?_⟩
    refine ⟨hR.N (k := 27) (by decide) h.1, ?_⟩
    have h := h.2
    intro x33 e34
    rw [hR.2.2 27 (by decide)] at e34
    have h := h x33 e34
    refine x_X12_add hR h (fun σ36 X37 h hR F38 => ?_)
    have F := F.trans F38
    refine ⟨hR.1.1, ?_⟩
    have a39 : sP σ36 m 26 = some (ad 26) := hR.P (k := 26) (by decide)
    refine ⟨ad 26, a39, ?_⟩
    refine ⟨hR.K (k := 26) (by decide), ?_⟩
    refine ⟨hR.N (k := 26) (by decide) h.1, ?_⟩
    have h := h.2
    intro x40 e41
    rw [hR.2.2 26 (by decide)] at e41
    have h := h x40 e41
    refine x_X12_addLog hR h (fun σ43 X44 h hR F45 => ?_)
    have F := F.trans F45
    refine ⟨hR.1.1, ?_⟩
    refine x_X12_post hR h (fun σ47 X48 h hR F49 => ?_)
    have F := F.trans F49
    exact hQ _ _ h hR F
  · have h := h.2 c5
    exact hQ _ _ h hR F
def wx_X12_turnsTo (p1 : Int32) (p2 : Int32) (p3 : Int32) (X : Xc) (Qx : Xc → Prop) : Prop := (vp_in p1 7 ∧ (vp_in p1 7 ∧ (vp_in p1 7 ∧ (wx_X12_forgetCounts p1 (xA (xA (xA X 21 p1.toNatClampNeg p2) 22 p1.toNatClampNeg p3) 23 p1.toNatClampNeg (2 : Int32)) (fun (X6 : Xc) => (vp_in p1 7 ∧ (∀ x10 : Int32, x10 = (xA X6 29 p1.toNatClampNeg (0 : Int32)).1 4 → (vp_in p1 7 ∧ (∀ x13 : Int32, x13 = (xA (xA X6 29 p1.toNatClampNeg (0 : Int32)) 59 p1.toNatClampNeg x10).1 4 → (vp_in p1 7 ∧ (wx_X12_tellOthers (8 : Int32) p1 (-1 : Int32) (xA (xA (xA X6 29 p1.toNatClampNeg (0 : Int32)) 59 p1.toNatClampNeg x10) 58 p1.toNatClampNeg x13) (fun (X17 : Xc) => (wx_X12_sendTurned p1 X17 (fun (X21 : Xc) => Qx X21))))))))))))))
set_option maxHeartbeats 4000000 in
set_option maxRecDepth 100000 in
theorem x_X12_turnsTo {m : Nat} {ad : Nat → Nat} {p1 : Int32} {p2 : Int32} {p3 : Int32} {σ : Sto} {X : Xc} {Q : Sto → Prop} {Qx : Xc → Prop} (hR : RefC m ad σ X) (h : wx_X12_turnsTo p1 p2 p3 X Qx) (hQ : ∀ (σ' : Sto) (X' : Xc), Qx X' → RefC m ad σ' X' → Fi m ad σ σ' → Q σ') : wp_X12_turnsTo m p1 p2 p3 σ Q := by
  have F : Fi m ad σ σ := Fi.rf
  unfold wx_X12_turnsTo at h
  unfold wp_X12_turnsTo
  refine ⟨hR.1.1, ?_⟩
  have a1 : sP σ m 21 = some (ad 21) := hR.P (k := 21) (by decide)
  refine ⟨ad 21, a1, ?_⟩
  refine ⟨hR.K (k := 21) (by decide), ?_⟩
  refine ⟨hR.N (k := 21) (by decide) h.1, ?_⟩
  have h := h.2
  have F := F.A (k := 21) (i := p1.toNatClampNeg) (v := p2) (by decide)
  have hR := hR.A (k := 21) (i := p1.toNatClampNeg) (v := p2) (by decide)
  have a2 : sP σ m 22 = some (ad 22) := hR.P (k := 22) (by decide)
  refine ⟨ad 22, a2, ?_⟩
  refine ⟨hR.K (k := 22) (by decide), ?_⟩
  refine ⟨hR.N (k := 22) (by decide) h.1, ?_⟩
  have h := h.2
  have F := F.A (k := 22) (i := p1.toNatClampNeg) (v := p3) (by decide)
  have hR := hR.A (k := 22) (i := p1.toNatClampNeg) (v := p3) (by decide)
  have a3 : sP σ m 23 = some (ad 23) := hR.P (k := 23) (by decide)
  refine ⟨ad 23, a3, ?_⟩
  refine ⟨hR.K (k := 23) (by decide), ?_⟩
  refine ⟨hR.N (k := 23) (by decide) h.1, ?_⟩
  have h := h.2
  have F := F.A (k := 23) (i := p1.toNatClampNeg) (v := (2 : Int32)) (by decide)
  have hR := hR.A (k := 23) (i := p1.toNatClampNeg) (v := (2 : Int32)) (by decide)
  refine x_X12_forgetCounts hR h (fun σ5 X6 h hR F7 => ?_)
  have F := F.trans F7
  refine ⟨hR.1.1, ?_⟩
  have a8 : sP σ5 m 29 = some (ad 29) := hR.P (k := 29) (by decide)
  refine ⟨ad 29, a8, ?_⟩
  refine ⟨hR.K (k := 29) (by decide), ?_⟩
  refine ⟨hR.N (k := 29) (by decide) h.1, ?_⟩
  have h := h.2
  have F := F.A (k := 29) (i := p1.toNatClampNeg) (v := (0 : Int32)) (by decide)
  have hR := hR.A (k := 29) (i := p1.toNatClampNeg) (v := (0 : Int32)) (by decide)
  have a9 : sP σ5 m 59 = some (ad 59) := hR.P (k := 59) (by decide)
  intro x10 e11
  rw [hR.2.1 4] at e11
  have h := h x10 e11
  refine ⟨ad 59, a9, ?_⟩
  refine ⟨hR.K (k := 59) (by decide), ?_⟩
  refine ⟨hR.N (k := 59) (by decide) h.1, ?_⟩
  have h := h.2
  have F := F.A (k := 59) (i := p1.toNatClampNeg) (v := x10) (by decide)
  have hR := hR.A (k := 59) (i := p1.toNatClampNeg) (v := x10) (by decide)
  have a12 : sP σ5 m 58 = some (ad 58) := hR.P (k := 58) (by decide)
  intro x13 e14
  rw [hR.2.1 4] at e14
  have h := h x13 e14
  refine ⟨ad 58, a12, ?_⟩
  refine ⟨hR.K (k := 58) (by decide), ?_⟩
  refine ⟨hR.N (k := 58) (by decide) h.1, ?_⟩
  have h := h.2
  have F := F.A (k := 58) (i := p1.toNatClampNeg) (v := x13) (by decide)
  have hR := hR.A (k := 58) (i := p1.toNatClampNeg) (v := x13) (by decide)
  refine x_X12_tellOthers hR h (fun σ16 X17 h hR F18 => ?_)
  have F := F.trans F18
  refine ⟨hR.1.1, ?_⟩
  refine x_X12_sendTurned hR h (fun σ20 X21 h hR F22 => ?_)
  have F := F.trans F22
  exact hQ _ _ h hR F
def fx_X12_heldAt_5 (Qx : Int32 → Xc → Prop) (Lx5 : Int32 × Int32 × Int32 → Xc → Prop) (t : Int32 × Int32 × Int32) (X : Xc) : Prop := (vp_in t.1 7 ∧ (∀ x2 : Int32, x2 = X.2 36 t.1.toNatClampNeg → (((((16 : Int32) * t.1) + x2) ≤ t.2.2 → Qx (-1 : Int32) X) ∧ (¬ (((16 : Int32) * t.1) + x2) ≤ t.2.2 → (vp_in t.2.2 112 ∧ (∀ x6 : Int32, x6 = X.2 37 t.2.2.toNatClampNeg → ((¬ x6 = t.2.1 → (∀ x9 : Int32, x9 = t.2.2 + (1 : Int32) → Lx5 (t.1, t.2.1, x9) X)) ∧ (x6 = t.2.1 → Qx t.2.2 X))))))))
set_option maxHeartbeats 4000000 in
set_option maxRecDepth 100000 in
theorem xf_X12_heldAt_5 {m : Nat} {ad : Nat → Nat} {σ0 : Sto} {Q : Int32 → Sto → Prop} {Qx : Int32 → Xc → Prop} {Lx5 : Int32 × Int32 × Int32 → Xc → Prop} {L5 : Int32 × Int32 × Int32 → Sto → Prop} (hQ : ∀ (r : Int32) (σ' : Sto) (X' : Xc), Qx r X' → RefC m ad σ' X' → Fi m ad σ0 σ' → Q r σ') (hL5 : ∀ (t : Int32 × Int32 × Int32) (σ : Sto) (X : Xc), Lx5 t X → RefC m ad σ X → Fi m ad σ0 σ → L5 t σ) : ∀ (t : Int32 × Int32 × Int32) (σ : Sto) (X : Xc), RefC m ad σ X → Fi m ad σ0 σ → fx_X12_heldAt_5  Qx Lx5 t X → f_X12_heldAt_5 m  Q L5 t σ := by
  intro t σ X hR F h
  unfold fx_X12_heldAt_5 at h
  unfold f_X12_heldAt_5
  refine ⟨hR.1.1, ?_⟩
  have a1 : sP σ m 36 = some (ad 36) := hR.P (k := 36) (by decide)
  refine ⟨ad 36, a1, ?_⟩
  refine ⟨hR.K (k := 36) (by decide), ?_⟩
  refine ⟨hR.N (k := 36) (by decide) h.1, ?_⟩
  have h := h.2
  intro x2 e3
  rw [hR.2.2 36 (by decide)] at e3
  have h := h x2 e3
  refine ⟨fun c4 => ?_, fun c4 => ?_⟩
  · have h := h.1 c4
    exact hQ _ _ _ h hR F
  · have h := h.2 c4
    have a5 : sP σ m 37 = some (ad 37) := hR.P (k := 37) (by decide)
    refine ⟨ad 37, a5, ?_⟩
    refine ⟨hR.K (k := 37) (by decide), ?_⟩
    refine ⟨hR.N (k := 37) (by decide) h.1, ?_⟩
    have h := h.2
    intro x6 e7
    rw [hR.2.2 37 (by decide)] at e7
    have h := h x6 e7
    refine ⟨fun c8 => ?_, fun c8 => ?_⟩
    · have h := h.1 c8
      intro x9 e10
      have h := h x9 e10
      exact hL5 _ _ _ h hR F
    · have h := h.2 c8
      exact hQ _ _ _ h hR F
def wx_X12_heldAt (p1 : Int32) (p2 : Int32) (X : Xc) (Qx : Int32 → Xc → Prop) : Prop := (∀ x1 : Int32, x1 = (16 : Int32) * p1 → LFx (fx_X12_heldAt_5  Qx) (p1, p2, x1) X)
set_option maxHeartbeats 4000000 in
set_option maxRecDepth 100000 in
theorem x_X12_heldAt {m : Nat} {ad : Nat → Nat} {p1 : Int32} {p2 : Int32} {σ : Sto} {X : Xc} {Q : Int32 → Sto → Prop} {Qx : Int32 → Xc → Prop} (hR : RefC m ad σ X) (h : wx_X12_heldAt p1 p2 X Qx) (hQ : ∀ (r : Int32) (σ' : Sto) (X' : Xc), Qx r X' → RefC m ad σ' X' → Fi m ad σ σ' → Q r σ') : wp_X12_heldAt m p1 p2 σ Q := by
  have F : Fi m ad σ σ := Fi.rf
  unfold wx_X12_heldAt at h
  unfold wp_X12_heldAt
  intro x1 e2
  have h := h x1 e2
  exact lfx h hR F (fun Lx L hL t σ X hR F h => xf_X12_heldAt_5 hQ  hL t σ X hR F h)
