def bx_X12_untake_232 (Qx : Int32 → Xc → Prop) (p1 : Int32) (s0 : Int32) (X : Xc) : Prop := (∀ x1 : Int32, x1 = (xS X 93 s0).1 95 → ((x1 ≤ 0 → Qx p1 (xS X 93 s0)) ∧ (¬ x1 ≤ 0 → Qx (0 : Int32) (xS X 93 s0))))
set_option maxHeartbeats 4000000 in
set_option maxRecDepth 100000 in
theorem xb_X12_untake_232 {m : Nat} {ad : Nat → Nat} {σ0 : Sto} {Q : Int32 → Sto → Prop} {Qx : Int32 → Xc → Prop} (hQ : ∀ (r : Int32) (σ' : Sto) (X' : Xc), Qx r X' → RefC m ad σ' X' → Fi m ad σ0 σ' → Q r σ')  (p1 : Int32) (s0 : Int32) (σ : Sto) (X : Xc) (hR : RefC m ad σ X) (F : Fi m ad σ0 σ) (h : bx_X12_untake_232  Qx p1 s0 X) : b_X12_untake_232 m  Q p1 s0 m σ := by
  unfold bx_X12_untake_232 at h
  unfold b_X12_untake_232
  refine ⟨hR.1.1, ?_⟩
  have F := F.S (k := 93) (v := s0)
  have hR := hR.S (k := 93) (v := s0)
  refine ⟨hR.1.1, ?_⟩
  intro x1 e2
  rw [hR.2.1 95] at e2
  have h := h x1 e2
  refine ⟨fun c3 => ?_, fun c3 => ?_⟩
  · have h := h.1 c3
    exact hQ _ _ _ h hR F
  · have h := h.2 c3
    exact hQ _ _ _ h hR F
def bx_X12_untake_213 (Qx : Int32 → Xc → Prop) (p1 : Int32) (s0 : Int32) (X : Xc) : Prop := (∀ x1 : Int32, x1 = (xS X 0 s0).1 95 → ((x1 ≤ 0 → (∀ x4 : Int32, x4 = (xS X 0 s0).1 93 → bx_X12_untake_232  Qx p1 x4 (xS X 0 s0))) ∧ (¬ x1 ≤ 0 → bx_X12_untake_232  Qx p1 (0 : Int32) (xS X 0 s0))))
set_option maxHeartbeats 4000000 in
set_option maxRecDepth 100000 in
theorem xb_X12_untake_213 {m : Nat} {ad : Nat → Nat} {σ0 : Sto} {Q : Int32 → Sto → Prop} {Qx : Int32 → Xc → Prop} (hQ : ∀ (r : Int32) (σ' : Sto) (X' : Xc), Qx r X' → RefC m ad σ' X' → Fi m ad σ0 σ' → Q r σ')  (p1 : Int32) (s0 : Int32) (σ : Sto) (X : Xc) (hR : RefC m ad σ X) (F : Fi m ad σ0 σ) (h : bx_X12_untake_213  Qx p1 s0 X) : b_X12_untake_213 m  Q p1 s0 m σ := by
  unfold bx_X12_untake_213 at h
  unfold b_X12_untake_213
  refine ⟨hR.1.1, ?_⟩
  have F := F.S (k := 0) (v := s0)
  have hR := hR.S (k := 0) (v := s0)
  refine ⟨hR.1.1, ?_⟩
  intro x1 e2
  rw [hR.2.1 95] at e2
  have h := h x1 e2
  refine ⟨fun c3 => ?_, fun c3 => ?_⟩
  · have h := h.1 c3
    intro x4 e5
    rw [hR.2.1 93] at e5
    have h := h x4 e5
    exact xb_X12_untake_232 hQ  p1 x4 _ _ hR F h
  · have h := h.2 c3
    exact xb_X12_untake_232 hQ  p1 (0 : Int32) _ _ hR F h
def bx_X12_untake_195 (Qx : Int32 → Xc → Prop) (p1 : Int32) (X : Xc) : Prop := (∀ x1 : Int32, x1 = (xS X 91 (0 : Int32)).1 95 → ((x1 ≤ 0 → bx_X12_untake_213  Qx p1 (0 : Int32) (xS X 91 (0 : Int32))) ∧ (¬ x1 ≤ 0 → bx_X12_untake_213  Qx p1 (1 : Int32) (xS X 91 (0 : Int32)))))
set_option maxHeartbeats 4000000 in
set_option maxRecDepth 100000 in
theorem xb_X12_untake_195 {m : Nat} {ad : Nat → Nat} {σ0 : Sto} {Q : Int32 → Sto → Prop} {Qx : Int32 → Xc → Prop} (hQ : ∀ (r : Int32) (σ' : Sto) (X' : Xc), Qx r X' → RefC m ad σ' X' → Fi m ad σ0 σ' → Q r σ')  (p1 : Int32) (σ : Sto) (X : Xc) (hR : RefC m ad σ X) (F : Fi m ad σ0 σ) (h : bx_X12_untake_195  Qx p1 X) : b_X12_untake_195 m  Q p1 σ := by
  unfold bx_X12_untake_195 at h
  unfold b_X12_untake_195
  refine ⟨hR.1.1, ?_⟩
  have F := F.S (k := 91) (v := (0 : Int32))
  have hR := hR.S (k := 91) (v := (0 : Int32))
  intro x1 e2
  rw [hR.2.1 95] at e2
  have h := h x1 e2
  refine ⟨fun c3 => ?_, fun c3 => ?_⟩
  · have h := h.1 c3
    exact xb_X12_untake_213 hQ  p1 (0 : Int32) _ _ hR F h
  · have h := h.2 c3
    exact xb_X12_untake_213 hQ  p1 (1 : Int32) _ _ hR F h
def bx_X12_untake_167 (Qx : Int32 → Xc → Prop) (p1 : Int32) (X : Xc) : Prop := (∀ x1 : Int32, x1 = X.1 95 → ((¬ x1 = 0 → bx_X12_untake_195  Qx p1 X) ∧ (x1 = 0 → (∀ x4 : Int32, x4 = X.1 94 → (∀ x6 : Int32, x6 = X.1 91 → ((x6 ≤ x4 → bx_X12_untake_195  Qx p1 X) ∧ (¬ x6 ≤ x4 → (∀ x9 : Int32, x9 = X.1 94 → (wx_X12_wrongs (6 : Int32) x9 X (fun (X13 : Xc) => bx_X12_untake_195  Qx p1 X13))))))))))
set_option maxHeartbeats 4000000 in
set_option maxRecDepth 100000 in
theorem xb_X12_untake_167 {m : Nat} {ad : Nat → Nat} {σ0 : Sto} {Q : Int32 → Sto → Prop} {Qx : Int32 → Xc → Prop} (hQ : ∀ (r : Int32) (σ' : Sto) (X' : Xc), Qx r X' → RefC m ad σ' X' → Fi m ad σ0 σ' → Q r σ')  (p1 : Int32) (σ : Sto) (X : Xc) (hR : RefC m ad σ X) (F : Fi m ad σ0 σ) (h : bx_X12_untake_167  Qx p1 X) : b_X12_untake_167 m  Q p1 σ := by
  unfold bx_X12_untake_167 at h
  unfold b_X12_untake_167
  refine ⟨hR.1.1, ?_⟩
  intro x1 e2
  rw [hR.2.1 95] at e2
  have h := h x1 e2
  refine ⟨fun c3 => ?_, fun c3 => ?_⟩
  · have h := h.1 c3
    exact xb_X12_untake_195 hQ  p1 _ _ hR F h
  · have h := h.2 c3
    intro x4 e5
    rw [hR.2.1 94] at e5
    have h := h x4 e5
    intro x6 e7
    rw [hR.2.1 91] at e7
    have h := h x6 e7
    refine ⟨fun c8 => ?_, fun c8 => ?_⟩
    · have h := h.1 c8
      exact xb_X12_untake_195 hQ  p1 _ _ hR F h
    · have h := h.2 c8
      intro x9 e10
      rw [hR.2.1 94] at e10
      have h := h x9 e10
      refine x_X12_wrongs hR h (fun σ12 X13 h hR F14 => ?_)
      have F := F.trans F14
      exact xb_X12_untake_195 hQ  p1 _ _ hR F h
def bx_X12_untake_131 (Qx : Int32 → Xc → Prop) (p1 : Int32) (X : Xc) : Prop := (∀ x1 : Int32, x1 = X.1 94 → (wx_X12_nextWord  X (fun (x3 : Int32) (X5 : Xc) => (∀ x7 : Int32, x7 = X5.1 95 → ((¬ x7 = 0 → bx_X12_untake_167  Qx p1 X5) ∧ (x7 = 0 → (wx_X12_sumOf 90 (0 : Int32) x1 X5 (fun (x11 : Int32) (X13 : Xc) => ((x3 = x11 → bx_X12_untake_167  Qx p1 X13) ∧ (¬ x3 = x11 → (wx_X12_wrongs (5 : Int32) x1 X13 (fun (X18 : Xc) => bx_X12_untake_167  Qx p1 X18))))))))))))
set_option maxHeartbeats 4000000 in
set_option maxRecDepth 100000 in
theorem xb_X12_untake_131 {m : Nat} {ad : Nat → Nat} {σ0 : Sto} {Q : Int32 → Sto → Prop} {Qx : Int32 → Xc → Prop} (hQ : ∀ (r : Int32) (σ' : Sto) (X' : Xc), Qx r X' → RefC m ad σ' X' → Fi m ad σ0 σ' → Q r σ')  (p1 : Int32) (σ : Sto) (X : Xc) (hR : RefC m ad σ X) (F : Fi m ad σ0 σ) (h : bx_X12_untake_131  Qx p1 X) : b_X12_untake_131 m  Q p1 σ := by
  unfold bx_X12_untake_131 at h
  unfold b_X12_untake_131
  refine ⟨hR.1.1, ?_⟩
  intro x1 e2
  rw [hR.2.1 94] at e2
  have h := h x1 e2
  refine x_X12_nextWord hR h (fun x3 σ4 X5 h hR F6 => ?_)
  have F := F.trans F6
  refine ⟨hR.1.1, ?_⟩
  intro x7 e8
  rw [hR.2.1 95] at e8
  have h := h x7 e8
  refine ⟨fun c9 => ?_, fun c9 => ?_⟩
  · have h := h.1 c9
    exact xb_X12_untake_167 hQ  p1 _ _ hR F h
  · have h := h.2 c9
    have a10 : sP σ4 m 90 = some (ad 90) := hR.P (k := 90) (by decide)
    rw [a10]
    refine x_X12_sumOf hR h (fun x11 σ12 X13 h hR F14 => ?_)
    have F := F.trans F14
    refine ⟨fun c15 => ?_, fun c15 => ?_⟩
    · have h := h.1 c15
      exact xb_X12_untake_167 hQ  p1 _ _ hR F h
    · have h := h.2 c15
      refine ⟨hR.1.1, ?_⟩
      refine x_X12_wrongs hR h (fun σ17 X18 h hR F19 => ?_)
      have F := F.trans F19
      exact xb_X12_untake_167 hQ  p1 _ _ hR F h
def bx_X12_untake_101 (Qx : Int32 → Xc → Prop) (p1 : Int32) (X : Xc) : Prop := (∀ x1 : Int32, x1 = X.1 95 → ((¬ x1 = 0 → bx_X12_untake_131  Qx p1 X) ∧ (x1 = 0 → ((¬ p1 = (11 : Int32) → bx_X12_untake_131  Qx p1 X) ∧ (p1 = (11 : Int32) → (wx_X12_readByte (1 : Int32) X (fun (x5 : Int32) (X7 : Xc) => ((¬ x5 = (1 : Int32) → bx_X12_untake_131  Qx p1 X7) ∧ (x5 = (1 : Int32) → (wx_X12_nextWord  X7 (fun (x10 : Int32) (X12 : Xc) => (wx_X12_keep x10 X12 (fun (X16 : Xc) => bx_X12_untake_131  Qx p1 X16)))))))))))))
set_option maxHeartbeats 4000000 in
set_option maxRecDepth 100000 in
theorem xb_X12_untake_101 {m : Nat} {ad : Nat → Nat} {σ0 : Sto} {Q : Int32 → Sto → Prop} {Qx : Int32 → Xc → Prop} (hQ : ∀ (r : Int32) (σ' : Sto) (X' : Xc), Qx r X' → RefC m ad σ' X' → Fi m ad σ0 σ' → Q r σ')  (p1 : Int32) (σ : Sto) (X : Xc) (hR : RefC m ad σ X) (F : Fi m ad σ0 σ) (h : bx_X12_untake_101  Qx p1 X) : b_X12_untake_101 m  Q p1 σ := by
  unfold bx_X12_untake_101 at h
  unfold b_X12_untake_101
  refine ⟨hR.1.1, ?_⟩
  intro x1 e2
  rw [hR.2.1 95] at e2
  have h := h x1 e2
  refine ⟨fun c3 => ?_, fun c3 => ?_⟩
  · have h := h.1 c3
    exact xb_X12_untake_131 hQ  p1 _ _ hR F h
  · have h := h.2 c3
    refine ⟨fun c4 => ?_, fun c4 => ?_⟩
    · have h := h.1 c4
      exact xb_X12_untake_131 hQ  p1 _ _ hR F h
    · have h := h.2 c4
      refine x_X12_readByte hR h (fun x5 σ6 X7 h hR F8 => ?_)
      have F := F.trans F8
      refine ⟨fun c9 => ?_, fun c9 => ?_⟩
      · have h := h.1 c9
        exact xb_X12_untake_131 hQ  p1 _ _ hR F h
      · have h := h.2 c9
        refine ⟨hR.1.1, ?_⟩
        refine x_X12_nextWord hR h (fun x10 σ11 X12 h hR F13 => ?_)
        have F := F.trans F13
        refine ⟨hR.1.1, ?_⟩
        refine x_X12_keep hR h (fun σ15 X16 h hR F17 => ?_)
        have F := F.trans F17
        exact xb_X12_untake_131 hQ  p1 _ _ hR F h
def bx_X12_untake_83 (Qx : Int32 → Xc → Prop) (p1 : Int32) (X : Xc) : Prop := (∀ x1 : Int32, x1 = X.1 95 → ((¬ x1 = 0 → bx_X12_untake_101  Qx p1 X) ∧ (x1 = 0 → (wx_X12_hasLog p1 X (fun (x4 : Int32) (X6 : Xc) => ((x4 = 0 → bx_X12_untake_101  Qx p1 X6) ∧ (¬ x4 = 0 → (wx_X12_readLog  X6 (fun (X11 : Xc) => bx_X12_untake_101  Qx p1 X11)))))))))
set_option maxHeartbeats 4000000 in
set_option maxRecDepth 100000 in
theorem xb_X12_untake_83 {m : Nat} {ad : Nat → Nat} {σ0 : Sto} {Q : Int32 → Sto → Prop} {Qx : Int32 → Xc → Prop} (hQ : ∀ (r : Int32) (σ' : Sto) (X' : Xc), Qx r X' → RefC m ad σ' X' → Fi m ad σ0 σ' → Q r σ')  (p1 : Int32) (σ : Sto) (X : Xc) (hR : RefC m ad σ X) (F : Fi m ad σ0 σ) (h : bx_X12_untake_83  Qx p1 X) : b_X12_untake_83 m  Q p1 σ := by
  unfold bx_X12_untake_83 at h
  unfold b_X12_untake_83
  refine ⟨hR.1.1, ?_⟩
  intro x1 e2
  rw [hR.2.1 95] at e2
  have h := h x1 e2
  refine ⟨fun c3 => ?_, fun c3 => ?_⟩
  · have h := h.1 c3
    exact xb_X12_untake_101 hQ  p1 _ _ hR F h
  · have h := h.2 c3
    refine x_X12_hasLog hR h (fun x4 σ5 X6 h hR F7 => ?_)
    have F := F.trans F7
    refine ⟨fun c8 => ?_, fun c8 => ?_⟩
    · have h := h.1 c8
      exact xb_X12_untake_101 hQ  p1 _ _ hR F h
    · have h := h.2 c8
      refine ⟨hR.1.1, ?_⟩
      refine x_X12_readLog hR h (fun σ10 X11 h hR F12 => ?_)
      have F := F.trans F12
      exact xb_X12_untake_101 hQ  p1 _ _ hR F h
def bx_X12_untake_65 (Qx : Int32 → Xc → Prop) (p1 : Int32) (X : Xc) : Prop := (∀ x1 : Int32, x1 = X.1 95 → ((¬ x1 = 0 → bx_X12_untake_83  Qx p1 X) ∧ (x1 = 0 → (wx_X12_hasRequest p1 X (fun (x4 : Int32) (X6 : Xc) => ((x4 = 0 → bx_X12_untake_83  Qx p1 X6) ∧ (¬ x4 = 0 → (wx_X12_readRequest  X6 (fun (X11 : Xc) => bx_X12_untake_83  Qx p1 X11)))))))))
set_option maxHeartbeats 4000000 in
set_option maxRecDepth 100000 in
theorem xb_X12_untake_65 {m : Nat} {ad : Nat → Nat} {σ0 : Sto} {Q : Int32 → Sto → Prop} {Qx : Int32 → Xc → Prop} (hQ : ∀ (r : Int32) (σ' : Sto) (X' : Xc), Qx r X' → RefC m ad σ' X' → Fi m ad σ0 σ' → Q r σ')  (p1 : Int32) (σ : Sto) (X : Xc) (hR : RefC m ad σ X) (F : Fi m ad σ0 σ) (h : bx_X12_untake_65  Qx p1 X) : b_X12_untake_65 m  Q p1 σ := by
  unfold bx_X12_untake_65 at h
  unfold b_X12_untake_65
  refine ⟨hR.1.1, ?_⟩
  intro x1 e2
  rw [hR.2.1 95] at e2
  have h := h x1 e2
  refine ⟨fun c3 => ?_, fun c3 => ?_⟩
  · have h := h.1 c3
    exact xb_X12_untake_83 hQ  p1 _ _ hR F h
  · have h := h.2 c3
    refine x_X12_hasRequest hR h (fun x4 σ5 X6 h hR F7 => ?_)
    have F := F.trans F7
    refine ⟨fun c8 => ?_, fun c8 => ?_⟩
    · have h := h.1 c8
      exact xb_X12_untake_83 hQ  p1 _ _ hR F h
    · have h := h.2 c8
      refine ⟨hR.1.1, ?_⟩
      refine x_X12_readRequest hR h (fun σ10 X11 h hR F12 => ?_)
      have F := F.trans F12
      exact xb_X12_untake_83 hQ  p1 _ _ hR F h
def fx_X12_untake_39 (Qx : Int32 → Xc → Prop) (Lx39 : Int32 × Int32 → Xc → Prop) (t : Int32 × Int32) (X : Xc) : Prop := (wx_X12_numbers t.1 X (fun (x1 : Int32) (X3 : Xc) => ((x1 ≤ t.2 → bx_X12_untake_65  Qx t.1 X3) ∧ (¬ x1 ≤ t.2 → (∀ x6 : Int32, x6 = X3.1 95 → ((¬ x6 = 0 → bx_X12_untake_65  Qx t.1 X3) ∧ (x6 = 0 → (wx_X12_readNumber  X3 (fun (x9 : Int32) (X11 : Xc) => (∀ x13 : Int32, x13 = t.2 + (1 : Int32) → Lx39 (t.1, x13) X11))))))))))
set_option maxHeartbeats 4000000 in
set_option maxRecDepth 100000 in
theorem xf_X12_untake_39 {m : Nat} {ad : Nat → Nat} {σ0 : Sto} {Q : Int32 → Sto → Prop} {Qx : Int32 → Xc → Prop} {Lx39 : Int32 × Int32 → Xc → Prop} {L39 : Int32 × Int32 → Sto → Prop} (hQ : ∀ (r : Int32) (σ' : Sto) (X' : Xc), Qx r X' → RefC m ad σ' X' → Fi m ad σ0 σ' → Q r σ') (hL39 : ∀ (t : Int32 × Int32) (σ : Sto) (X : Xc), Lx39 t X → RefC m ad σ X → Fi m ad σ0 σ → L39 t σ) : ∀ (t : Int32 × Int32) (σ : Sto) (X : Xc), RefC m ad σ X → Fi m ad σ0 σ → fx_X12_untake_39  Qx Lx39 t X → f_X12_untake_39 m  Q L39 t σ := by
  intro t σ X hR F h
  unfold fx_X12_untake_39 at h
  unfold f_X12_untake_39
  refine x_X12_numbers hR h (fun x1 σ2 X3 h hR F4 => ?_)
  have F := F.trans F4
  refine ⟨fun c5 => ?_, fun c5 => ?_⟩
  · have h := h.1 c5
    exact xb_X12_untake_65 hQ  t.1 _ _ hR F h
  · have h := h.2 c5
    refine ⟨hR.1.1, ?_⟩
    intro x6 e7
    rw [hR.2.1 95] at e7
    have h := h x6 e7
    refine ⟨fun c8 => ?_, fun c8 => ?_⟩
    · have h := h.1 c8
      exact xb_X12_untake_65 hQ  t.1 _ _ hR F h
    · have h := h.2 c8
      refine x_X12_readNumber hR h (fun x9 σ10 X11 h hR F12 => ?_)
      have F := F.trans F12
      intro x13 e14
      have h := h x13 e14
      exact hL39 _ _ _ h hR F
def wx_X12_untake  (X : Xc) (Qx : Int32 → Xc → Prop) : Prop := (wx_X12_readByte (12 : Int32) (xS (xS (xS (xS X 94 (0 : Int32)) 93 (0 : Int32)) 95 (0 : Int32)) 96 (-1 : Int32)) (fun (x1 : Int32) (X3 : Xc) => (wx_X12_readEnd (1 : Int32) X3 (fun (X7 : Xc) => (wx_X12_readEnd (0 : Int32) X7 (fun (X11 : Xc) => LFx (fx_X12_untake_39  Qx) (x1, (0 : Int32)) X11))))))
set_option maxHeartbeats 4000000 in
set_option maxRecDepth 100000 in
theorem x_X12_untake {m : Nat} {ad : Nat → Nat} {σ : Sto} {X : Xc} {Q : Int32 → Sto → Prop} {Qx : Int32 → Xc → Prop} (hR : RefC m ad σ X) (h : wx_X12_untake  X Qx) (hQ : ∀ (r : Int32) (σ' : Sto) (X' : Xc), Qx r X' → RefC m ad σ' X' → Fi m ad σ σ' → Q r σ') : wp_X12_untake m  σ Q := by
  have F : Fi m ad σ σ := Fi.rf
  unfold wx_X12_untake at h
  unfold wp_X12_untake
  refine ⟨hR.1.1, ?_⟩
  have F := F.S (k := 94) (v := (0 : Int32))
  have hR := hR.S (k := 94) (v := (0 : Int32))
  have F := F.S (k := 93) (v := (0 : Int32))
  have hR := hR.S (k := 93) (v := (0 : Int32))
  have F := F.S (k := 95) (v := (0 : Int32))
  have hR := hR.S (k := 95) (v := (0 : Int32))
  have F := F.S (k := 96) (v := (-1 : Int32))
  have hR := hR.S (k := 96) (v := (-1 : Int32))
  refine x_X12_readByte hR h (fun x1 σ2 X3 h hR F4 => ?_)
  have F := F.trans F4
  refine ⟨hR.1.1, ?_⟩
  refine x_X12_readEnd hR h (fun σ6 X7 h hR F8 => ?_)
  have F := F.trans F8
  refine ⟨hR.1.1, ?_⟩
  refine x_X12_readEnd hR h (fun σ10 X11 h hR F12 => ?_)
  have F := F.trans F12
  exact lfx h hR F (fun Lx L hL t σ X hR F h => xf_X12_untake_39 hQ  hL t σ X hR F h)
def wx_X12_fault (p1 : Int32) (X : Xc) (Qx : Int32 → Xc → Prop) : Prop := ((¬ p1 = 0 → ((¬ p1 = (1 : Int32) → Qx (-1 : Int32) (xS X 0 (0 : Int32))) ∧ (p1 = (1 : Int32) → (∀ x3 : Int32, x3 = (xS X 0 (0 : Int32)).1 96 → Qx x3 (xS X 0 (0 : Int32)))))) ∧ (p1 = 0 → (∀ x5 : Int32, x5 = (xS X 0 (0 : Int32)).1 95 → Qx x5 (xS X 0 (0 : Int32)))))
set_option maxHeartbeats 4000000 in
set_option maxRecDepth 100000 in
theorem x_X12_fault {m : Nat} {ad : Nat → Nat} {p1 : Int32} {σ : Sto} {X : Xc} {Q : Int32 → Sto → Prop} {Qx : Int32 → Xc → Prop} (hR : RefC m ad σ X) (h : wx_X12_fault p1 X Qx) (hQ : ∀ (r : Int32) (σ' : Sto) (X' : Xc), Qx r X' → RefC m ad σ' X' → Fi m ad σ σ' → Q r σ') : wp_X12_fault m p1 σ Q := by
  have F : Fi m ad σ σ := Fi.rf
  unfold wx_X12_fault at h
  unfold wp_X12_fault
  refine ⟨hR.1.1, ?_⟩
  have F := F.S (k := 0) (v := (0 : Int32))
  have hR := hR.S (k := 0) (v := (0 : Int32))
  refine ⟨fun c1 => ?_, fun c1 => ?_⟩
  · have h := h.1 c1
    refine ⟨fun c2 => ?_, fun c2 => ?_⟩
    · have h := h.1 c2
      exact hQ _ _ _ h hR F
    · have h := h.2 c2
      intro x3 e4
      rw [hR.2.1 96] at e4
      have h := h x3 e4
      exact hQ _ _ _ h hR F
  · have h := h.2 c1
    intro x5 e6
    rw [hR.2.1 95] at e6
    have h := h x5 e6
    exact hQ _ _ _ h hR F
def wx_X12_told (p1 : Int32) (X : Xc) (Qx : Int32 → Xc → Prop) : Prop := (∀ x1 : Int32, x1 = (xS X 0 (0 : Int32)).1 93 → (wx_X12_in p1 (0 : Int32) (x1 - (1 : Int32)) (xS X 0 (0 : Int32)) (fun (x3 : Int32) (X5 : Xc) => ((x3 = 0 → Qx (0 : Int32) X5) ∧ (¬ x3 = 0 → (vp_in p1 640 ∧ (∀ x9 : Int32, x9 = X5.2 92 p1.toNatClampNeg → Qx x9 X5)))))))
set_option maxHeartbeats 4000000 in
set_option maxRecDepth 100000 in
theorem x_X12_told {m : Nat} {ad : Nat → Nat} {p1 : Int32} {σ : Sto} {X : Xc} {Q : Int32 → Sto → Prop} {Qx : Int32 → Xc → Prop} (hR : RefC m ad σ X) (h : wx_X12_told p1 X Qx) (hQ : ∀ (r : Int32) (σ' : Sto) (X' : Xc), Qx r X' → RefC m ad σ' X' → Fi m ad σ σ' → Q r σ') : wp_X12_told m p1 σ Q := by
  have F : Fi m ad σ σ := Fi.rf
  unfold wx_X12_told at h
  unfold wp_X12_told
  refine ⟨hR.1.1, ?_⟩
  have F := F.S (k := 0) (v := (0 : Int32))
  have hR := hR.S (k := 0) (v := (0 : Int32))
  intro x1 e2
  rw [hR.2.1 93] at e2
  have h := h x1 e2
  refine x_X12_in hR h (fun x3 σ4 X5 h hR F6 => ?_)
  have F := F.trans F6
  refine ⟨fun c7 => ?_, fun c7 => ?_⟩
  · have h := h.1 c7
    exact hQ _ _ _ h hR F
  · have h := h.2 c7
    refine ⟨hR.1.1, ?_⟩
    have a8 : sP σ4 m 92 = some (ad 92) := hR.P (k := 92) (by decide)
    refine ⟨ad 92, a8, ?_⟩
    refine ⟨hR.K (k := 92) (by decide), ?_⟩
    refine ⟨hR.N (k := 92) (by decide) h.1, ?_⟩
    have h := h.2
    intro x9 e10
    rw [hR.2.2 92 (by decide)] at e10
    have h := h x9 e10
    exact hQ _ _ _ h hR F
def wx_X12_tolds  (X : Xc) (Qx : Int32 → Xc → Prop) : Prop := (∀ x1 : Int32, x1 = (xS X 0 (0 : Int32)).1 93 → Qx x1 (xS X 0 (0 : Int32)))
set_option maxHeartbeats 4000000 in
set_option maxRecDepth 100000 in
theorem x_X12_tolds {m : Nat} {ad : Nat → Nat} {σ : Sto} {X : Xc} {Q : Int32 → Sto → Prop} {Qx : Int32 → Xc → Prop} (hR : RefC m ad σ X) (h : wx_X12_tolds  X Qx) (hQ : ∀ (r : Int32) (σ' : Sto) (X' : Xc), Qx r X' → RefC m ad σ' X' → Fi m ad σ σ' → Q r σ') : wp_X12_tolds m  σ Q := by
  have F : Fi m ad σ σ := Fi.rf
  unfold wx_X12_tolds at h
  unfold wp_X12_tolds
  refine ⟨hR.1.1, ?_⟩
  have F := F.S (k := 0) (v := (0 : Int32))
  have hR := hR.S (k := 0) (v := (0 : Int32))
  intro x1 e2
  rw [hR.2.1 93] at e2
  have h := h x1 e2
  exact hQ _ _ _ h hR F
def wx_X12_isKept (p1 : Int32) (p2 : Int32) (X : Xc) (Qx : Int32 → Xc → Prop) : Prop := (vp_in p1 700 ∧ (∀ x2 : Int32, x2 = X.2 30 p1.toNatClampNeg → ((x2 = 0 → Qx (0 : Int32) X) ∧ (¬ x2 = 0 → (vp_in p1 700 ∧ (∀ x6 : Int32, x6 = X.2 31 p1.toNatClampNeg → (vp_in p2 200 ∧ (∀ x9 : Int32, x9 = X.2 82 p2.toNatClampNeg → ((¬ x6 = x9 → Qx (0 : Int32) X) ∧ (x6 = x9 → (vp_in p1 700 ∧ (∀ x13 : Int32, x13 = X.2 32 p1.toNatClampNeg → (vp_in p2 200 ∧ (∀ x16 : Int32, x16 = X.2 83 p2.toNatClampNeg → ((¬ x13 = x16 → Qx (0 : Int32) X) ∧ (x13 = x16 → Qx (1 : Int32) X))))))))))))))))
set_option maxHeartbeats 4000000 in
set_option maxRecDepth 100000 in
theorem x_X12_isKept {m : Nat} {ad : Nat → Nat} {p1 : Int32} {p2 : Int32} {σ : Sto} {X : Xc} {Q : Int32 → Sto → Prop} {Qx : Int32 → Xc → Prop} (hR : RefC m ad σ X) (h : wx_X12_isKept p1 p2 X Qx) (hQ : ∀ (r : Int32) (σ' : Sto) (X' : Xc), Qx r X' → RefC m ad σ' X' → Fi m ad σ σ' → Q r σ') : wp_X12_isKept m p1 p2 σ Q := by
  have F : Fi m ad σ σ := Fi.rf
  unfold wx_X12_isKept at h
  unfold wp_X12_isKept
  refine ⟨hR.1.1, ?_⟩
  have a1 : sP σ m 30 = some (ad 30) := hR.P (k := 30) (by decide)
  refine ⟨ad 30, a1, ?_⟩
  refine ⟨hR.K (k := 30) (by decide), ?_⟩
  refine ⟨hR.N (k := 30) (by decide) h.1, ?_⟩
  have h := h.2
  intro x2 e3
  rw [hR.2.2 30 (by decide)] at e3
  have h := h x2 e3
  refine ⟨fun c4 => ?_, fun c4 => ?_⟩
  · have h := h.1 c4
    exact hQ _ _ _ h hR F
  · have h := h.2 c4
    have a5 : sP σ m 31 = some (ad 31) := hR.P (k := 31) (by decide)
    refine ⟨ad 31, a5, ?_⟩
    refine ⟨hR.K (k := 31) (by decide), ?_⟩
    refine ⟨hR.N (k := 31) (by decide) h.1, ?_⟩
    have h := h.2
    intro x6 e7
    rw [hR.2.2 31 (by decide)] at e7
    have h := h x6 e7
    have a8 : sP σ m 82 = some (ad 82) := hR.P (k := 82) (by decide)
    refine ⟨ad 82, a8, ?_⟩
    refine ⟨hR.K (k := 82) (by decide), ?_⟩
    refine ⟨hR.N (k := 82) (by decide) h.1, ?_⟩
    have h := h.2
    intro x9 e10
    rw [hR.2.2 82 (by decide)] at e10
    have h := h x9 e10
    refine ⟨fun c11 => ?_, fun c11 => ?_⟩
    · have h := h.1 c11
      exact hQ _ _ _ h hR F
    · have h := h.2 c11
      have a12 : sP σ m 32 = some (ad 32) := hR.P (k := 32) (by decide)
      refine ⟨ad 32, a12, ?_⟩
      refine ⟨hR.K (k := 32) (by decide), ?_⟩
      refine ⟨hR.N (k := 32) (by decide) h.1, ?_⟩
      have h := h.2
      intro x13 e14
      rw [hR.2.2 32 (by decide)] at e14
      have h := h x13 e14
      have a15 : sP σ m 83 = some (ad 83) := hR.P (k := 83) (by decide)
      refine ⟨ad 83, a15, ?_⟩
      refine ⟨hR.K (k := 83) (by decide), ?_⟩
      refine ⟨hR.N (k := 83) (by decide) h.1, ?_⟩
      have h := h.2
      intro x16 e17
      rw [hR.2.2 83 (by decide)] at e17
      have h := h x16 e17
      refine ⟨fun c18 => ?_, fun c18 => ?_⟩
      · have h := h.1 c18
        exact hQ _ _ _ h hR F
      · have h := h.2 c18
        exact hQ _ _ _ h hR F
def bx_X12_speaksAgainst_202 (Lx137 : Int32 × Int32 × Int32 → Xc → Prop) (Qx : Int32 → Xc → Prop) (p1 : Int32) (p2 : Int32) (p4 : Int32) (X : Xc) : Prop := (∀ x1 : Int32, x1 = p4 + (1 : Int32) → Lx137 (p1, p2, x1) X)
set_option maxHeartbeats 4000000 in
set_option maxRecDepth 100000 in
theorem xb_X12_speaksAgainst_202 {m : Nat} {ad : Nat → Nat} {σ0 : Sto} {Lx137 : Int32 × Int32 × Int32 → Xc → Prop} {L137 : Int32 × Int32 × Int32 → Sto → Prop} {Q : Int32 → Sto → Prop} {Qx : Int32 → Xc → Prop} (hQ : ∀ (r : Int32) (σ' : Sto) (X' : Xc), Qx r X' → RefC m ad σ' X' → Fi m ad σ0 σ' → Q r σ') (hL137 : ∀ (t : Int32 × Int32 × Int32) (σ : Sto) (X : Xc), Lx137 t X → RefC m ad σ X → Fi m ad σ0 σ → L137 t σ) (p1 : Int32) (p2 : Int32) (p4 : Int32) (σ : Sto) (X : Xc) (hR : RefC m ad σ X) (F : Fi m ad σ0 σ) (h : bx_X12_speaksAgainst_202 Lx137 Qx p1 p2 p4 X) : b_X12_speaksAgainst_202 m L137 Q p1 p2 p4 σ := by
  unfold bx_X12_speaksAgainst_202 at h
  unfold b_X12_speaksAgainst_202
  intro x1 e2
  have h := h x1 e2
  exact hL137 _ _ _ h hR F
def fx_X12_speaksAgainst_137 (Qx : Int32 → Xc → Prop) (Lx137 : Int32 × Int32 × Int32 → Xc → Prop) (t : Int32 × Int32 × Int32) (X : Xc) : Prop := (vp_in t.1 7 ∧ (∀ x2 : Int32, x2 = X.2 26 t.1.toNatClampNeg → ((x2 ≤ t.2.2 → Qx (0 : Int32) X) ∧ (¬ x2 ≤ t.2.2 → (∀ x5 : Int32, x5 = ((100 : Int32) * t.1) + t.2.2 → (wx_X12_doEntry x5 X (fun (x7 : Int32) (X9 : Xc) => ((x7 = 0 → bx_X12_speaksAgainst_202 Lx137 Qx t.1 t.2.1 t.2.2 X9) ∧ (¬ x7 = 0 → (wx_X12_isKept x5 t.2.1 X9 (fun (x12 : Int32) (X14 : Xc) => ((x12 = 0 → bx_X12_speaksAgainst_202 Lx137 Qx t.1 t.2.1 t.2.2 X14) ∧ (¬ x12 = 0 → (vp_in t.2.1 200 ∧ (∀ x19 : Int32, x19 = X14.2 82 t.2.1.toNatClampNeg → (vp_in x19 4 ∧ (∀ x21 : Int32, x21 = X14.2 64 x19.toNatClampNeg → (vp_in t.2.1 200 ∧ (∀ x24 : Int32, x24 = X14.2 87 t.2.1.toNatClampNeg → ((x21 = x24 → Qx (0 : Int32) X14) ∧ (¬ x21 = x24 → Qx (1 : Int32) X14)))))))))))))))))))))
set_option maxHeartbeats 4000000 in
set_option maxRecDepth 100000 in
theorem xf_X12_speaksAgainst_137 {m : Nat} {ad : Nat → Nat} {σ0 : Sto} {Q : Int32 → Sto → Prop} {Qx : Int32 → Xc → Prop} {Lx137 : Int32 × Int32 × Int32 → Xc → Prop} {L137 : Int32 × Int32 × Int32 → Sto → Prop} (hQ : ∀ (r : Int32) (σ' : Sto) (X' : Xc), Qx r X' → RefC m ad σ' X' → Fi m ad σ0 σ' → Q r σ') (hL137 : ∀ (t : Int32 × Int32 × Int32) (σ : Sto) (X : Xc), Lx137 t X → RefC m ad σ X → Fi m ad σ0 σ → L137 t σ) : ∀ (t : Int32 × Int32 × Int32) (σ : Sto) (X : Xc), RefC m ad σ X → Fi m ad σ0 σ → fx_X12_speaksAgainst_137  Qx Lx137 t X → f_X12_speaksAgainst_137 m  Q L137 t σ := by
  intro t σ X hR F h
  unfold fx_X12_speaksAgainst_137 at h
  unfold f_X12_speaksAgainst_137
  refine ⟨hR.1.1, ?_⟩
  have a1 : sP σ m 26 = some (ad 26) := hR.P (k := 26) (by decide)
  refine ⟨ad 26, a1, ?_⟩
  refine ⟨hR.K (k := 26) (by decide), ?_⟩
  refine ⟨hR.N (k := 26) (by decide) h.1, ?_⟩
  have h := h.2
  intro x2 e3
  rw [hR.2.2 26 (by decide)] at e3
  have h := h x2 e3
  refine ⟨fun c4 => ?_, fun c4 => ?_⟩
  · have h := h.1 c4
    exact hQ _ _ _ h hR F
  · have h := h.2 c4
    intro x5 e6
    have h := h x5 e6
    refine x_X12_doEntry hR h (fun x7 σ8 X9 h hR F10 => ?_)
    have F := F.trans F10
    refine ⟨fun c11 => ?_, fun c11 => ?_⟩
    · have h := h.1 c11
      exact xb_X12_speaksAgainst_202 hQ hL137 t.1 t.2.1 t.2.2 _ _ hR F h
    · have h := h.2 c11
      refine ⟨hR.1.1, ?_⟩
      refine x_X12_isKept hR h (fun x12 σ13 X14 h hR F15 => ?_)
      have F := F.trans F15
      refine ⟨fun c16 => ?_, fun c16 => ?_⟩
      · have h := h.1 c16
        exact xb_X12_speaksAgainst_202 hQ hL137 t.1 t.2.1 t.2.2 _ _ hR F h
      · have h := h.2 c16
        refine ⟨hR.1.1, ?_⟩
        have a17 : sP σ13 m 64 = some (ad 64) := hR.P (k := 64) (by decide)
        have a18 : sP σ13 m 82 = some (ad 82) := hR.P (k := 82) (by decide)
        refine ⟨ad 82, a18, ?_⟩
        refine ⟨hR.K (k := 82) (by decide), ?_⟩
        refine ⟨hR.N (k := 82) (by decide) h.1, ?_⟩
        have h := h.2
        intro x19 e20
        rw [hR.2.2 82 (by decide)] at e20
        have h := h x19 e20
        refine ⟨ad 64, a17, ?_⟩
        refine ⟨hR.K (k := 64) (by decide), ?_⟩
        refine ⟨hR.N (k := 64) (by decide) h.1, ?_⟩
        have h := h.2
        intro x21 e22
        rw [hR.2.2 64 (by decide)] at e22
        have h := h x21 e22
        have a23 : sP σ13 m 87 = some (ad 87) := hR.P (k := 87) (by decide)
        refine ⟨ad 87, a23, ?_⟩
        refine ⟨hR.K (k := 87) (by decide), ?_⟩
        refine ⟨hR.N (k := 87) (by decide) h.1, ?_⟩
        have h := h.2
        intro x24 e25
        rw [hR.2.2 87 (by decide)] at e25
        have h := h x24 e25
        refine ⟨fun c26 => ?_, fun c26 => ?_⟩
        · have h := h.1 c26
          exact hQ _ _ _ h hR F
        · have h := h.2 c26
          exact hQ _ _ _ h hR F
def bx_X12_speaksAgainst_92 (Qx : Int32 → Xc → Prop) (p1 : Int32) (p2 : Int32) (X : Xc) : Prop := (vp_in p2 200 ∧ (∀ x2 : Int32, x2 = X.2 84 p2.toNatClampNeg → (vp_in p1 7 ∧ (∀ x5 : Int32, x5 = X.2 26 p1.toNatClampNeg → ((x5 < x2 → Qx (1 : Int32) X) ∧ (¬ x5 < x2 → (vp_in p2 200 ∧ (∀ x9 : Int32, x9 = X.2 84 p2.toNatClampNeg → (wx_X12_isKept ((((100 : Int32) * p1) + x9) - (1 : Int32)) p2 X (fun (x11 : Int32) (X13 : Xc) => ((¬ x11 = 0 → (wx_X12_restart  X13 (fun (X18 : Xc) => LFx (fx_X12_speaksAgainst_137  Qx) (p1, p2, (0 : Int32)) X18))) ∧ (x11 = 0 → Qx (1 : Int32) X13))))))))))))
set_option maxHeartbeats 4000000 in
set_option maxRecDepth 100000 in
theorem xb_X12_speaksAgainst_92 {m : Nat} {ad : Nat → Nat} {σ0 : Sto} {Q : Int32 → Sto → Prop} {Qx : Int32 → Xc → Prop} (hQ : ∀ (r : Int32) (σ' : Sto) (X' : Xc), Qx r X' → RefC m ad σ' X' → Fi m ad σ0 σ' → Q r σ')  (p1 : Int32) (p2 : Int32) (σ : Sto) (X : Xc) (hR : RefC m ad σ X) (F : Fi m ad σ0 σ) (h : bx_X12_speaksAgainst_92  Qx p1 p2 X) : b_X12_speaksAgainst_92 m  Q p1 p2 σ := by
  unfold bx_X12_speaksAgainst_92 at h
  unfold b_X12_speaksAgainst_92
  refine ⟨hR.1.1, ?_⟩
  have a1 : sP σ m 84 = some (ad 84) := hR.P (k := 84) (by decide)
  refine ⟨ad 84, a1, ?_⟩
  refine ⟨hR.K (k := 84) (by decide), ?_⟩
  refine ⟨hR.N (k := 84) (by decide) h.1, ?_⟩
  have h := h.2
  intro x2 e3
  rw [hR.2.2 84 (by decide)] at e3
  have h := h x2 e3
  have a4 : sP σ m 26 = some (ad 26) := hR.P (k := 26) (by decide)
  refine ⟨ad 26, a4, ?_⟩
  refine ⟨hR.K (k := 26) (by decide), ?_⟩
  refine ⟨hR.N (k := 26) (by decide) h.1, ?_⟩
  have h := h.2
  intro x5 e6
  rw [hR.2.2 26 (by decide)] at e6
  have h := h x5 e6
  refine ⟨fun c7 => ?_, fun c7 => ?_⟩
  · have h := h.1 c7
    exact hQ _ _ _ h hR F
  · have h := h.2 c7
    have a8 : sP σ m 84 = some (ad 84) := hR.P (k := 84) (by decide)
    refine ⟨hR.N (k := 84) (by decide) h.1, ?_⟩
    have h := h.2
    intro x9 e10
    rw [hR.2.2 84 (by decide)] at e10
    have h := h x9 e10
    refine x_X12_isKept hR h (fun x11 σ12 X13 h hR F14 => ?_)
    have F := F.trans F14
    refine ⟨fun c15 => ?_, fun c15 => ?_⟩
    · have h := h.1 c15
      refine ⟨hR.1.1, ?_⟩
      refine x_X12_restart hR h (fun σ17 X18 h hR F19 => ?_)
      have F := F.trans F19
      exact lfx h hR F (fun Lx L hL t σ X hR F h => xf_X12_speaksAgainst_137 hQ  hL t σ X hR F h)
    · have h := h.2 c15
      exact hQ _ _ _ h hR F
def bx_X12_speaksAgainst_55 (Qx : Int32 → Xc → Prop) (p1 : Int32) (p2 : Int32) (s0 : Int32) (X : Xc) : Prop := ((¬ s0 = 0 → bx_X12_speaksAgainst_92  Qx p1 p2 X) ∧ (s0 = 0 → (vp_in p2 200 ∧ (∀ x3 : Int32, x3 = X.2 85 p2.toNatClampNeg → (vp_in p2 200 ∧ (∀ x6 : Int32, x6 = X.2 86 p2.toNatClampNeg → (vp_in p1 7 ∧ (∀ x9 : Int32, x9 = X.2 21 p1.toNatClampNeg → (vp_in p1 7 ∧ (∀ x12 : Int32, x12 = X.2 22 p1.toNatClampNeg → (wx_X12_isBehind x3 x6 x9 x12 X (fun (x14 : Int32) (X16 : Xc) => ((¬ x14 = 0 → bx_X12_speaksAgainst_92  Qx p1 p2 X16) ∧ (x14 = 0 → Qx (0 : Int32) X16))))))))))))))
set_option maxHeartbeats 4000000 in
set_option maxRecDepth 100000 in
theorem xb_X12_speaksAgainst_55 {m : Nat} {ad : Nat → Nat} {σ0 : Sto} {Q : Int32 → Sto → Prop} {Qx : Int32 → Xc → Prop} (hQ : ∀ (r : Int32) (σ' : Sto) (X' : Xc), Qx r X' → RefC m ad σ' X' → Fi m ad σ0 σ' → Q r σ')  (p1 : Int32) (p2 : Int32) (s0 : Int32) (σ : Sto) (X : Xc) (hR : RefC m ad σ X) (F : Fi m ad σ0 σ) (h : bx_X12_speaksAgainst_55  Qx p1 p2 s0 X) : b_X12_speaksAgainst_55 m  Q p1 p2 s0 σ := by
  unfold bx_X12_speaksAgainst_55 at h
  unfold b_X12_speaksAgainst_55
  refine ⟨fun c1 => ?_, fun c1 => ?_⟩
  · have h := h.1 c1
    exact xb_X12_speaksAgainst_92 hQ  p1 p2 _ _ hR F h
  · have h := h.2 c1
    refine ⟨hR.1.1, ?_⟩
    have a2 : sP σ m 85 = some (ad 85) := hR.P (k := 85) (by decide)
    refine ⟨ad 85, a2, ?_⟩
    refine ⟨hR.K (k := 85) (by decide), ?_⟩
    refine ⟨hR.N (k := 85) (by decide) h.1, ?_⟩
    have h := h.2
    intro x3 e4
    rw [hR.2.2 85 (by decide)] at e4
    have h := h x3 e4
    have a5 : sP σ m 86 = some (ad 86) := hR.P (k := 86) (by decide)
    refine ⟨ad 86, a5, ?_⟩
    refine ⟨hR.K (k := 86) (by decide), ?_⟩
    refine ⟨hR.N (k := 86) (by decide) h.1, ?_⟩
    have h := h.2
    intro x6 e7
    rw [hR.2.2 86 (by decide)] at e7
    have h := h x6 e7
    have a8 : sP σ m 21 = some (ad 21) := hR.P (k := 21) (by decide)
    refine ⟨ad 21, a8, ?_⟩
    refine ⟨hR.K (k := 21) (by decide), ?_⟩
    refine ⟨hR.N (k := 21) (by decide) h.1, ?_⟩
    have h := h.2
    intro x9 e10
    rw [hR.2.2 21 (by decide)] at e10
    have h := h x9 e10
    have a11 : sP σ m 22 = some (ad 22) := hR.P (k := 22) (by decide)
    refine ⟨ad 22, a11, ?_⟩
    refine ⟨hR.K (k := 22) (by decide), ?_⟩
    refine ⟨hR.N (k := 22) (by decide) h.1, ?_⟩
    have h := h.2
    intro x12 e13
    rw [hR.2.2 22 (by decide)] at e13
    have h := h x12 e13
    refine x_X12_isBehind hR h (fun x14 σ15 X16 h hR F17 => ?_)
    have F := F.trans F17
    refine ⟨fun c18 => ?_, fun c18 => ?_⟩
    · have h := h.1 c18
      exact xb_X12_speaksAgainst_92 hQ  p1 p2 _ _ hR F h
    · have h := h.2 c18
      exact hQ _ _ _ h hR F
def bx_X12_speaksAgainst_54 (Qx : Int32 → Xc → Prop) (p1 : Int32) (p2 : Int32) (X : Xc) : Prop := bx_X12_speaksAgainst_55  Qx p1 p2 (0 : Int32) X
set_option maxHeartbeats 4000000 in
set_option maxRecDepth 100000 in
theorem xb_X12_speaksAgainst_54 {m : Nat} {ad : Nat → Nat} {σ0 : Sto} {Q : Int32 → Sto → Prop} {Qx : Int32 → Xc → Prop} (hQ : ∀ (r : Int32) (σ' : Sto) (X' : Xc), Qx r X' → RefC m ad σ' X' → Fi m ad σ0 σ' → Q r σ')  (p1 : Int32) (p2 : Int32) (σ : Sto) (X : Xc) (hR : RefC m ad σ X) (F : Fi m ad σ0 σ) (h : bx_X12_speaksAgainst_54  Qx p1 p2 X) : b_X12_speaksAgainst_54 m  Q p1 p2 σ := by
  unfold bx_X12_speaksAgainst_54 at h
  unfold b_X12_speaksAgainst_54
  exact xb_X12_speaksAgainst_55 hQ  p1 p2 (0 : Int32) _ _ hR F h
def wx_X12_speaksAgainst (p1 : Int32) (p2 : Int32) (X : Xc) (Qx : Int32 → Xc → Prop) : Prop := (wx_X12_leads p1 X (fun (x1 : Int32) (X3 : Xc) => ((x1 = 0 → Qx (0 : Int32) X3) ∧ (¬ x1 = 0 → (vp_in p1 7 ∧ (∀ x7 : Int32, x7 = X3.2 23 p1.toNatClampNeg → ((¬ x7 = (2 : Int32) → (vp_in p2 200 ∧ (∀ x11 : Int32, x11 = X3.2 85 p2.toNatClampNeg → (vp_in p1 7 ∧ (∀ x14 : Int32, x14 = X3.2 21 p1.toNatClampNeg → ((¬ x11 = x14 → bx_X12_speaksAgainst_54  Qx p1 p2 X3) ∧ (x11 = x14 → (vp_in p2 200 ∧ (∀ x18 : Int32, x18 = X3.2 86 p2.toNatClampNeg → (vp_in p1 7 ∧ (∀ x21 : Int32, x21 = X3.2 22 p1.toNatClampNeg → ((¬ x18 = x21 → bx_X12_speaksAgainst_54  Qx p1 p2 X3) ∧ (x18 = x21 → bx_X12_speaksAgainst_55  Qx p1 p2 (1 : Int32) X3))))))))))))) ∧ (x7 = (2 : Int32) → Qx (0 : Int32) X3))))))))
set_option maxHeartbeats 4000000 in
set_option maxRecDepth 100000 in
theorem x_X12_speaksAgainst {m : Nat} {ad : Nat → Nat} {p1 : Int32} {p2 : Int32} {σ : Sto} {X : Xc} {Q : Int32 → Sto → Prop} {Qx : Int32 → Xc → Prop} (hR : RefC m ad σ X) (h : wx_X12_speaksAgainst p1 p2 X Qx) (hQ : ∀ (r : Int32) (σ' : Sto) (X' : Xc), Qx r X' → RefC m ad σ' X' → Fi m ad σ σ' → Q r σ') : wp_X12_speaksAgainst m p1 p2 σ Q := by
  have F : Fi m ad σ σ := Fi.rf
  unfold wx_X12_speaksAgainst at h
  unfold wp_X12_speaksAgainst
  refine ⟨hR.1.1, ?_⟩
  refine x_X12_leads hR h (fun x1 σ2 X3 h hR F4 => ?_)
  have F := F.trans F4
  refine ⟨fun c5 => ?_, fun c5 => ?_⟩
  · have h := h.1 c5
    exact hQ _ _ _ h hR F
  · have h := h.2 c5
    refine ⟨hR.1.1, ?_⟩
    have a6 : sP σ2 m 23 = some (ad 23) := hR.P (k := 23) (by decide)
    refine ⟨ad 23, a6, ?_⟩
    refine ⟨hR.K (k := 23) (by decide), ?_⟩
    refine ⟨hR.N (k := 23) (by decide) h.1, ?_⟩
    have h := h.2
    intro x7 e8
    rw [hR.2.2 23 (by decide)] at e8
    have h := h x7 e8
    refine ⟨fun c9 => ?_, fun c9 => ?_⟩
    · have h := h.1 c9
      have a10 : sP σ2 m 85 = some (ad 85) := hR.P (k := 85) (by decide)
      refine ⟨ad 85, a10, ?_⟩
      refine ⟨hR.K (k := 85) (by decide), ?_⟩
      refine ⟨hR.N (k := 85) (by decide) h.1, ?_⟩
      have h := h.2
      intro x11 e12
      rw [hR.2.2 85 (by decide)] at e12
      have h := h x11 e12
      have a13 : sP σ2 m 21 = some (ad 21) := hR.P (k := 21) (by decide)
      refine ⟨ad 21, a13, ?_⟩
      refine ⟨hR.K (k := 21) (by decide), ?_⟩
      refine ⟨hR.N (k := 21) (by decide) h.1, ?_⟩
      have h := h.2
      intro x14 e15
      rw [hR.2.2 21 (by decide)] at e15
      have h := h x14 e15
      refine ⟨fun c16 => ?_, fun c16 => ?_⟩
      · have h := h.1 c16
        exact xb_X12_speaksAgainst_54 hQ  p1 p2 _ _ hR F h
      · have h := h.2 c16
        have a17 : sP σ2 m 86 = some (ad 86) := hR.P (k := 86) (by decide)
        refine ⟨ad 86, a17, ?_⟩
        refine ⟨hR.K (k := 86) (by decide), ?_⟩
        refine ⟨hR.N (k := 86) (by decide) h.1, ?_⟩
        have h := h.2
        intro x18 e19
        rw [hR.2.2 86 (by decide)] at e19
        have h := h x18 e19
        have a20 : sP σ2 m 22 = some (ad 22) := hR.P (k := 22) (by decide)
        refine ⟨ad 22, a20, ?_⟩
        refine ⟨hR.K (k := 22) (by decide), ?_⟩
        refine ⟨hR.N (k := 22) (by decide) h.1, ?_⟩
        have h := h.2
        intro x21 e22
        rw [hR.2.2 22 (by decide)] at e22
        have h := h x21 e22
        refine ⟨fun c23 => ?_, fun c23 => ?_⟩
        · have h := h.1 c23
          exact xb_X12_speaksAgainst_54 hQ  p1 p2 _ _ hR F h
        · have h := h.2 c23
          exact xb_X12_speaksAgainst_55 hQ  p1 p2 (1 : Int32) _ _ hR F h
    · have h := h.2 c9
      exact hQ _ _ _ h hR F
def bx_X12_broken_74 (Lx9 : Int32 × Int32 → Xc → Prop) (Qx : Int32 → Xc → Prop) (p2 : Int32) (s0 : Int32) (s1 : Int32) (X : Xc) : Prop := (∀ x1 : Int32, x1 = s1 + s0 → (∀ x3 : Int32, x3 = p2 + (1 : Int32) → Lx9 (x1, x3) X))
set_option maxHeartbeats 4000000 in
set_option maxRecDepth 100000 in
theorem xb_X12_broken_74 {m : Nat} {ad : Nat → Nat} {σ0 : Sto} {Lx9 : Int32 × Int32 → Xc → Prop} {L9 : Int32 × Int32 → Sto → Prop} {Q : Int32 → Sto → Prop} {Qx : Int32 → Xc → Prop} (hQ : ∀ (r : Int32) (σ' : Sto) (X' : Xc), Qx r X' → RefC m ad σ' X' → Fi m ad σ0 σ' → Q r σ') (hL9 : ∀ (t : Int32 × Int32) (σ : Sto) (X : Xc), Lx9 t X → RefC m ad σ X → Fi m ad σ0 σ → L9 t σ) (p2 : Int32) (s0 : Int32) (s1 : Int32) (σ : Sto) (X : Xc) (hR : RefC m ad σ X) (F : Fi m ad σ0 σ) (h : bx_X12_broken_74 Lx9 Qx p2 s0 s1 X) : b_X12_broken_74 m L9 Q p2 s0 s1 σ := by
  unfold bx_X12_broken_74 at h
  unfold b_X12_broken_74
  intro x1 e2
  have h := h x1 e2
  intro x3 e4
  have h := h x3 e4
  exact hL9 _ _ _ h hR F
def bx_X12_broken_57 (Lx9 : Int32 × Int32 → Xc → Prop) (Lx29 : Int32 × Int32 × Int32 × Int32 → Xc → Prop) (Qx : Int32 → Xc → Prop) (p1 : Int32) (p2 : Int32) (p4 : Int32) (s0 : Int32) (X : Xc) : Prop := (∀ x1 : Int32, x1 = p4 + (1 : Int32) → Lx29 (p1, p2, s0, x1) X)
set_option maxHeartbeats 4000000 in
set_option maxRecDepth 100000 in
theorem xb_X12_broken_57 {m : Nat} {ad : Nat → Nat} {σ0 : Sto} {Lx9 : Int32 × Int32 → Xc → Prop} {L9 : Int32 × Int32 → Sto → Prop} {Lx29 : Int32 × Int32 × Int32 × Int32 → Xc → Prop} {L29 : Int32 × Int32 × Int32 × Int32 → Sto → Prop} {Q : Int32 → Sto → Prop} {Qx : Int32 → Xc → Prop} (hQ : ∀ (r : Int32) (σ' : Sto) (X' : Xc), Qx r X' → RefC m ad σ' X' → Fi m ad σ0 σ' → Q r σ') (hL9 : ∀ (t : Int32 × Int32) (σ : Sto) (X : Xc), Lx9 t X → RefC m ad σ X → Fi m ad σ0 σ → L9 t σ) (hL29 : ∀ (t : Int32 × Int32 × Int32 × Int32) (σ : Sto) (X : Xc), Lx29 t X → RefC m ad σ X → Fi m ad σ0 σ → L29 t σ) (p1 : Int32) (p2 : Int32) (p4 : Int32) (s0 : Int32) (σ : Sto) (X : Xc) (hR : RefC m ad σ X) (F : Fi m ad σ0 σ) (h : bx_X12_broken_57 Lx9 Lx29 Qx p1 p2 p4 s0 X) : b_X12_broken_57 m L9 L29 Q p1 p2 p4 s0 σ := by
  unfold bx_X12_broken_57 at h
  unfold b_X12_broken_57
  intro x1 e2
  have h := h x1 e2
  exact hL29 _ _ _ h hR F
def bx_X12_broken_52 (Lx9 : Int32 × Int32 → Xc → Prop) (Lx29 : Int32 × Int32 × Int32 × Int32 → Xc → Prop) (Qx : Int32 → Xc → Prop) (p1 : Int32) (p2 : Int32) (p4 : Int32) (X : Xc) : Prop := bx_X12_broken_57 Lx9 Lx29 Qx p1 p2 p4 (1 : Int32) X
set_option maxHeartbeats 4000000 in
set_option maxRecDepth 100000 in
theorem xb_X12_broken_52 {m : Nat} {ad : Nat → Nat} {σ0 : Sto} {Lx9 : Int32 × Int32 → Xc → Prop} {L9 : Int32 × Int32 → Sto → Prop} {Lx29 : Int32 × Int32 × Int32 × Int32 → Xc → Prop} {L29 : Int32 × Int32 × Int32 × Int32 → Sto → Prop} {Q : Int32 → Sto → Prop} {Qx : Int32 → Xc → Prop} (hQ : ∀ (r : Int32) (σ' : Sto) (X' : Xc), Qx r X' → RefC m ad σ' X' → Fi m ad σ0 σ' → Q r σ') (hL9 : ∀ (t : Int32 × Int32) (σ : Sto) (X : Xc), Lx9 t X → RefC m ad σ X → Fi m ad σ0 σ → L9 t σ) (hL29 : ∀ (t : Int32 × Int32 × Int32 × Int32) (σ : Sto) (X : Xc), Lx29 t X → RefC m ad σ X → Fi m ad σ0 σ → L29 t σ) (p1 : Int32) (p2 : Int32) (p4 : Int32) (σ : Sto) (X : Xc) (hR : RefC m ad σ X) (F : Fi m ad σ0 σ) (h : bx_X12_broken_52 Lx9 Lx29 Qx p1 p2 p4 X) : b_X12_broken_52 m L9 L29 Q p1 p2 p4 σ := by
  unfold bx_X12_broken_52 at h
  unfold b_X12_broken_52
  exact xb_X12_broken_57 hQ hL9 hL29 p1 p2 p4 (1 : Int32) _ _ hR F h
def fx_X12_broken_29 (Lx9 : Int32 × Int32 → Xc → Prop) (Qx : Int32 → Xc → Prop) (Lx29 : Int32 × Int32 × Int32 × Int32 → Xc → Prop) (t : Int32 × Int32 × Int32 × Int32) (X : Xc) : Prop := (∀ x1 : Int32, x1 = X.1 1 → ((x1 ≤ t.2.2.2 → ((t.2.2.1 = 0 → bx_X12_broken_74 Lx9 Qx t.2.1 (0 : Int32) t.1 X) ∧ (¬ t.2.2.1 = 0 → bx_X12_broken_74 Lx9 Qx t.2.1 (1 : Int32) t.1 X))) ∧ (¬ x1 ≤ t.2.2.2 → ((¬ t.2.2.1 = 0 → bx_X12_broken_52 Lx9 Lx29 Qx t.1 t.2.1 t.2.2.2 X) ∧ (t.2.2.1 = 0 → (wx_X12_speaksAgainst t.2.2.2 t.2.1 X (fun (x6 : Int32) (X8 : Xc) => ((x6 = 0 → bx_X12_broken_57 Lx9 Lx29 Qx t.1 t.2.1 t.2.2.2 (0 : Int32) X8) ∧ (¬ x6 = 0 → bx_X12_broken_52 Lx9 Lx29 Qx t.1 t.2.1 t.2.2.2 X8)))))))))
set_option maxHeartbeats 4000000 in
set_option maxRecDepth 100000 in
theorem xf_X12_broken_29 {m : Nat} {ad : Nat → Nat} {σ0 : Sto} {Lx9 : Int32 × Int32 → Xc → Prop} {L9 : Int32 × Int32 → Sto → Prop} {Q : Int32 → Sto → Prop} {Qx : Int32 → Xc → Prop} {Lx29 : Int32 × Int32 × Int32 × Int32 → Xc → Prop} {L29 : Int32 × Int32 × Int32 × Int32 → Sto → Prop} (hQ : ∀ (r : Int32) (σ' : Sto) (X' : Xc), Qx r X' → RefC m ad σ' X' → Fi m ad σ0 σ' → Q r σ') (hL9 : ∀ (t : Int32 × Int32) (σ : Sto) (X : Xc), Lx9 t X → RefC m ad σ X → Fi m ad σ0 σ → L9 t σ) (hL29 : ∀ (t : Int32 × Int32 × Int32 × Int32) (σ : Sto) (X : Xc), Lx29 t X → RefC m ad σ X → Fi m ad σ0 σ → L29 t σ) : ∀ (t : Int32 × Int32 × Int32 × Int32) (σ : Sto) (X : Xc), RefC m ad σ X → Fi m ad σ0 σ → fx_X12_broken_29 Lx9 Qx Lx29 t X → f_X12_broken_29 m L9 Q L29 t σ := by
  intro t σ X hR F h
  unfold fx_X12_broken_29 at h
  unfold f_X12_broken_29
  refine ⟨hR.1.1, ?_⟩
  intro x1 e2
  rw [hR.2.1 1] at e2
  have h := h x1 e2
  refine ⟨fun c3 => ?_, fun c3 => ?_⟩
  · have h := h.1 c3
    refine ⟨fun c4 => ?_, fun c4 => ?_⟩
    · have h := h.1 c4
      exact xb_X12_broken_74 hQ hL9 t.2.1 (0 : Int32) t.1 _ _ hR F h
    · have h := h.2 c4
      exact xb_X12_broken_74 hQ hL9 t.2.1 (1 : Int32) t.1 _ _ hR F h
  · have h := h.2 c3
    refine ⟨fun c5 => ?_, fun c5 => ?_⟩
    · have h := h.1 c5
      exact xb_X12_broken_52 hQ hL9 hL29 t.1 t.2.1 t.2.2.2 _ _ hR F h
    · have h := h.2 c5
      refine x_X12_speaksAgainst hR h (fun x6 σ7 X8 h hR F9 => ?_)
      have F := F.trans F9
      refine ⟨fun c10 => ?_, fun c10 => ?_⟩
      · have h := h.1 c10
        exact xb_X12_broken_57 hQ hL9 hL29 t.1 t.2.1 t.2.2.2 (0 : Int32) _ _ hR F h
      · have h := h.2 c10
        exact xb_X12_broken_52 hQ hL9 hL29 t.1 t.2.1 t.2.2.2 _ _ hR F h
def fx_X12_broken_9 (Qx : Int32 → Xc → Prop) (Lx9 : Int32 × Int32 → Xc → Prop) (t : Int32 × Int32) (X : Xc) : Prop := (((200 : Int32) ≤ t.2 → Qx t.1 X) ∧ (¬ (200 : Int32) ≤ t.2 → (∀ x2 : Int32, x2 = X.1 81 → ((x2 ≤ t.2 → Qx t.1 X) ∧ (¬ x2 ≤ t.2 → LFx (fx_X12_broken_29 Lx9 Qx) (t.1, t.2, (0 : Int32), (0 : Int32)) X)))))
set_option maxHeartbeats 4000000 in
set_option maxRecDepth 100000 in
theorem xf_X12_broken_9 {m : Nat} {ad : Nat → Nat} {σ0 : Sto} {Q : Int32 → Sto → Prop} {Qx : Int32 → Xc → Prop} {Lx9 : Int32 × Int32 → Xc → Prop} {L9 : Int32 × Int32 → Sto → Prop} (hQ : ∀ (r : Int32) (σ' : Sto) (X' : Xc), Qx r X' → RefC m ad σ' X' → Fi m ad σ0 σ' → Q r σ') (hL9 : ∀ (t : Int32 × Int32) (σ : Sto) (X : Xc), Lx9 t X → RefC m ad σ X → Fi m ad σ0 σ → L9 t σ) : ∀ (t : Int32 × Int32) (σ : Sto) (X : Xc), RefC m ad σ X → Fi m ad σ0 σ → fx_X12_broken_9  Qx Lx9 t X → f_X12_broken_9 m  Q L9 t σ := by
  intro t σ X hR F h
  unfold fx_X12_broken_9 at h
  unfold f_X12_broken_9
  refine ⟨fun c1 => ?_, fun c1 => ?_⟩
  · have h := h.1 c1
    exact hQ _ _ _ h hR F
  · have h := h.2 c1
    refine ⟨hR.1.1, ?_⟩
    intro x2 e3
    rw [hR.2.1 81] at e3
    have h := h x2 e3
    refine ⟨fun c4 => ?_, fun c4 => ?_⟩
    · have h := h.1 c4
      exact hQ _ _ _ h hR F
    · have h := h.2 c4
      exact lfx h hR F (fun Lx L hL t σ X hR F h => xf_X12_broken_29 hQ hL9 hL t σ X hR F h)
def wx_X12_broken  (X : Xc) (Qx : Int32 → Xc → Prop) : Prop := LFx (fx_X12_broken_9  Qx) ((0 : Int32), (0 : Int32)) (xS X 0 (0 : Int32))
set_option maxHeartbeats 4000000 in
set_option maxRecDepth 100000 in
theorem x_X12_broken {m : Nat} {ad : Nat → Nat} {σ : Sto} {X : Xc} {Q : Int32 → Sto → Prop} {Qx : Int32 → Xc → Prop} (hR : RefC m ad σ X) (h : wx_X12_broken  X Qx) (hQ : ∀ (r : Int32) (σ' : Sto) (X' : Xc), Qx r X' → RefC m ad σ' X' → Fi m ad σ σ' → Q r σ') : wp_X12_broken m  σ Q := by
  have F : Fi m ad σ σ := Fi.rf
  unfold wx_X12_broken at h
  unfold wp_X12_broken
  refine ⟨hR.1.1, ?_⟩
  have F := F.S (k := 0) (v := (0 : Int32))
  have hR := hR.S (k := 0) (v := (0 : Int32))
  exact lfx h hR F (fun Lx L hL t σ X hR F h => xf_X12_broken_9 hQ  hL t σ X hR F h)
