def wy_X2_at (n : Nat) (o0 : Nat) (p1 : Int32) (Y : Yc) (Qy : Option Rq → Yc → Prop) : Prop := (wy_X2_has n o0 p1 Y (fun (x5 : Int32) (Y2 : Yc) => ((x5 = 0 → Qy none Y2) ∧ (¬ x5 = 0 → (∀ x10 : Int32, x10 = p1 - (1 : Int32) → (vp_in x10 100 ∧ (∀ q15 : Option Rq, q15 = yS Y2 200 o0 x10.toNatClampNeg → Qy q15 Y2)))))))
set_option maxHeartbeats 4000000 in
set_option maxRecDepth 100000 in
theorem y_X2_at {n : Nat} {ad aa : Nat → Nat → Nat} {o0 : Nat} {p1 : Int32} {σ : Sto} {Y : Yc} {Q : Option Nat → Sto → Prop} {Qy : Option Rq → Yc → Prop} (hR : HY n ad aa σ Y) (ho0 : Ob n 2 o0) (h : wy_X2_at n o0 p1 Y Qy) (hQ : ∀ (p : Option Nat) (q : Option Rq) (σ' : Sto) (Y' : Yc), Qy q Y' → rq σ' p q → HY n ad aa σ' Y' → Fy n ad aa σ σ' → Q p σ') : wp_X2_at (ad 2 o0) p1 σ Q := by
  have F : Fy n ad aa σ σ := Fy.rf
  unfold wy_X2_at at h
  unfold wp_X2_at
  refine ⟨hR.K ho0, ?_⟩
  refine y_X2_has hR ho0  h (fun x5 σ1 Y2 h hR4 f3 => ?_)
  have F := F.trans f3
  have hR := hR4
  refine ⟨fun c8 => ?_, fun c8 => ?_⟩
  · have h := h.1 c8
    exact hQ _ _ _ _ h rq_nn hR F
  · have h := h.2 c8
    refine ⟨hR.K ho0, ?_⟩
    have a9 : sP σ1 (ad 2 o0) 0 = some (aa 200 o0) := hR.ar (x := 200) ho0 0 (by decide) rfl (by decide)
    intro x10 e11
    have h := h x10 e11
    refine ⟨_, a9, ?_⟩
    refine ⟨hR.arK (x := 200) ho0 0 (by decide) rfl (by decide), ?_⟩
    have hz := h.1
    refine ⟨by first | exact hR.arV (x := 200) ho0 0 (by decide) rfl (by decide) hz | exact hz, ?_⟩
    have h := h.2
    obtain ⟨q15, e16⟩ : ∃ z, z = yS Y2 200 o0 x10.toNatClampNeg := ⟨_, rfl⟩
    have h := h q15 e16
    intro r13 e14
    have hr17 := rq_of (hR.S (x := 200) ho0 0 (by decide) rfl (by decide) (x10.toNatClampNeg)) e14 e16
    exact hQ _ _ _ _ h hr17 hR F
def wy_X2_isFull (n : Nat) (o0 : Nat)  (Y : Yc) (Qy : Int32 → Yc → Prop) : Prop := (∀ x1 : Int32, x1 = yI Y 201 o0 → ((x1 < (nI 100) → Qy (0 : Int32) Y) ∧ (¬ x1 < (nI 100) → Qy (1 : Int32) Y)))
set_option maxHeartbeats 4000000 in
set_option maxRecDepth 100000 in
theorem y_X2_isFull {n : Nat} {ad aa : Nat → Nat → Nat} {o0 : Nat} {σ : Sto} {Y : Yc} {Q : Int32 → Sto → Prop} {Qy : Int32 → Yc → Prop} (hR : HY n ad aa σ Y) (ho0 : Ob n 2 o0) (h : wy_X2_isFull n o0  Y Qy) (hQ : ∀ (r : Int32) (σ' : Sto) (Y' : Yc), Qy r Y' → HY n ad aa σ' Y' → Fy n ad aa σ σ' → Q r σ') : wp_X2_isFull (ad 2 o0)  σ Q := by
  have F : Fy n ad aa σ σ := Fy.rf
  unfold wy_X2_isFull at h
  unfold wp_X2_isFull
  refine ⟨hR.K ho0, ?_⟩
  intro x1 e2
  have e2 : x1 = yI Y 201 o0 := e2.trans (hR.I (x := 201) ho0 1 (by decide) rfl)
  have h := h x1 e2
  have a3 : sP σ (ad 2 o0) 0 = some (aa 200 o0) := hR.ar (x := 200) ho0 0 (by decide) rfl (by decide)
  refine ⟨_, a3, ?_⟩
  refine ⟨hR.arK (x := 200) ho0 0 (by decide) rfl (by decide), ?_⟩
  rw [show sN σ (aa 200 o0) = 100 from hR.arN (x := 200) ho0 0 (by decide) rfl (by decide)]
  refine ⟨fun c5 => ?_, fun c5 => ?_⟩
  · have h := h.1 c5
    exact hQ _ _ _ h hR F
  · have h := h.2 c5
    exact hQ _ _ _ h hR F
def wy_X2_add (n : Nat) (o0 : Nat) (p1 : Option Rq) (Y : Yc) (Qy : Yc → Prop) : Prop := (∀ x1 : Int32, x1 = yI Y 201 o0 → ((x1 < 0 → Qy Y) ∧ (¬ x1 < 0 → (∀ x4 : Int32, x4 = yI Y 201 o0 → (((nI 100) ≤ x4 → Qy Y) ∧ (¬ (nI 100) ≤ x4 → (∀ x10 : Int32, x10 = yI Y 201 o0 → (vp_in x10 100 ∧ (∀ x13 : Int32, x13 = yI (uS Y 200 o0 x10.toNatClampNeg p1) 201 o0 → (∀ x15 : Int32, x15 = x13 + (1 : Int32) → Qy (uI (uS Y 200 o0 x10.toNatClampNeg p1) 201 o0 x15)))))))))))
set_option maxHeartbeats 4000000 in
set_option maxRecDepth 100000 in
theorem y_X2_add {n : Nat} {ad aa : Nat → Nat → Nat} {o0 : Nat} {p1 : Option Rq} {σ : Sto} {Y : Yc} {Q : Sto → Prop} {Qy : Yc → Prop} (hR : HY n ad aa σ Y) (ho0 : Ob n 2 o0) {ap1 : Option Nat} (hp1 : rq σ ap1 p1) (h : wy_X2_add n o0 p1 Y Qy) (hQ : ∀ (σ' : Sto) (Y' : Yc), Qy Y' → HY n ad aa σ' Y' → Fy n ad aa σ σ' → Q σ') : wp_X2_add (ad 2 o0) ap1 σ Q := by
  have F : Fy n ad aa σ σ := Fy.rf
  unfold wy_X2_add at h
  unfold wp_X2_add
  refine ⟨hR.K ho0, ?_⟩
  intro x1 e2
  have e2 : x1 = yI Y 201 o0 := e2.trans (hR.I (x := 201) ho0 1 (by decide) rfl)
  have h := h x1 e2
  refine ⟨fun c3 => ?_, fun c3 => ?_⟩
  · have h := h.1 c3
    exact hQ _ _ h hR F
  · have h := h.2 c3
    intro x4 e5
    have e5 : x4 = yI Y 201 o0 := e5.trans (hR.I (x := 201) ho0 1 (by decide) rfl)
    have h := h x4 e5
    have a6 : sP σ (ad 2 o0) 0 = some (aa 200 o0) := hR.ar (x := 200) ho0 0 (by decide) rfl (by decide)
    refine ⟨_, a6, ?_⟩
    refine ⟨hR.arK (x := 200) ho0 0 (by decide) rfl (by decide), ?_⟩
    rw [show sN σ (aa 200 o0) = 100 from hR.arN (x := 200) ho0 0 (by decide) rfl (by decide)]
    refine ⟨fun c8 => ?_, fun c8 => ?_⟩
    · have h := h.1 c8
      exact hQ _ _ h hR F
    · have h := h.2 c8
      have a9 : sP σ (ad 2 o0) 0 = some (aa 200 o0) := hR.ar (x := 200) ho0 0 (by decide) rfl (by decide)
      intro x10 e11
      have e11 : x10 = yI Y 201 o0 := e11.trans (hR.I (x := 201) ho0 1 (by decide) rfl)
      have h := h x10 e11
      have hz := h.1
      refine ⟨by first | exact hR.arV (x := 200) ho0 0 (by decide) rfl (by decide) hz | exact hz, ?_⟩
      have h := h.2
      refine ⟨fun b hb => by have hb := rq_K hp1 hb; exact hb, ?_⟩
      have w12 := hR.wS (x := 200) ho0 0 (by decide) rfl (by decide) (x10.toNatClampNeg) hp1
      have hp1 := rq.mv hR w12.2 hp1
      have F := F.trans w12.2
      have hR := w12.1
      intro x13 e14
      have e14 : x13 = yI (uS Y 200 o0 x10.toNatClampNeg p1) 201 o0 := e14.trans (hR.I (x := 201) ho0 1 (by decide) rfl)
      have h := h x13 e14
      intro x15 e16
      have h := h x15 e16
      have w17 := hR.wI (x := 201) ho0 1 (by decide) rfl x15
      have hp1 := rq.mv hR w17.2 hp1
      have F := F.trans w17.2
      have hR := w17.1
      exact hQ _ _ h hR F
def wy_X2_replace (n : Nat) (o0 : Nat) (p1 : Int32) (p2 : Option Rq) (Y : Yc) (Qy : Yc → Prop) : Prop := (wy_X2_has n o0 p1 Y (fun (x5 : Int32) (Y2 : Yc) => ((x5 = 0 → Qy Y2) ∧ (¬ x5 = 0 → (vp_in (p1 - (1 : Int32)) 100 ∧ Qy (uS Y2 200 o0 (p1 - (1 : Int32)).toNatClampNeg p2))))))
set_option maxHeartbeats 4000000 in
set_option maxRecDepth 100000 in
theorem y_X2_replace {n : Nat} {ad aa : Nat → Nat → Nat} {o0 : Nat} {p1 : Int32} {p2 : Option Rq} {σ : Sto} {Y : Yc} {Q : Sto → Prop} {Qy : Yc → Prop} (hR : HY n ad aa σ Y) (ho0 : Ob n 2 o0) {ap2 : Option Nat} (hp2 : rq σ ap2 p2) (h : wy_X2_replace n o0 p1 p2 Y Qy) (hQ : ∀ (σ' : Sto) (Y' : Yc), Qy Y' → HY n ad aa σ' Y' → Fy n ad aa σ σ' → Q σ') : wp_X2_replace (ad 2 o0) p1 ap2 σ Q := by
  have F : Fy n ad aa σ σ := Fy.rf
  unfold wy_X2_replace at h
  unfold wp_X2_replace
  refine ⟨hR.K ho0, ?_⟩
  refine y_X2_has hR ho0  h (fun x5 σ1 Y2 h hR4 f3 => ?_)
  have hp2 := rq.mv hR f3 hp2
  have F := F.trans f3
  have hR := hR4
  refine ⟨fun c8 => ?_, fun c8 => ?_⟩
  · have h := h.1 c8
    exact hQ _ _ h hR F
  · have h := h.2 c8
    refine ⟨hR.K ho0, ?_⟩
    have a9 : sP σ1 (ad 2 o0) 0 = some (aa 200 o0) := hR.ar (x := 200) ho0 0 (by decide) rfl (by decide)
    refine ⟨_, a9, ?_⟩
    refine ⟨hR.arK (x := 200) ho0 0 (by decide) rfl (by decide), ?_⟩
    have hz := h.1
    refine ⟨by first | exact hR.arV (x := 200) ho0 0 (by decide) rfl (by decide) hz | exact hz, ?_⟩
    have h := h.2
    refine ⟨fun b hb => by have hb := rq_K hp2 hb; exact hb, ?_⟩
    have w11 := hR.wS (x := 200) ho0 0 (by decide) rfl (by decide) ((p1 - (1 : Int32)).toNatClampNeg) hp2
    have hp2 := rq.mv hR w11.2 hp2
    have F := F.trans w11.2
    have hR := w11.1
    exact hQ _ _ h hR F
def fy_X2_copyFirst_2 (n : Nat) (o0 : Nat)  (Qy : Yc → Prop) (Ly2 : Nat × Int32 → Yc → Prop) (t : Nat × Int32) (Y : Yc) : Prop := (∀ x2 : Int32, x2 = yI Y 201 t.1 → ((x2 ≤ t.2 → Qy Y) ∧ (¬ x2 ≤ t.2 → (((nI 100) ≤ t.2 → Qy Y) ∧ (¬ (nI 100) ≤ t.2 → (vp_in t.2 100 ∧ (∀ q13 : Option Rq, q13 = yS Y 200 t.1 t.2.toNatClampNeg → (vp_in t.2 100 ∧ (∀ x17 : Int32, x17 = t.2 + (1 : Int32) → Ly2 (t.1, x17) (uS Y 200 o0 t.2.toNatClampNeg q13))))))))))
set_option maxHeartbeats 4000000 in
set_option maxRecDepth 100000 in
theorem yf_X2_copyFirst_2 {n : Nat} {ad aa : Nat → Nat → Nat} {σ0 : Sto} {o0 : Nat} (ho0 : Ob n 2 o0) {Q : Sto → Prop} {Qy : Yc → Prop} {Ly2 : Nat × Int32 → Yc → Prop} {L2 : Option Nat × Int32 → Sto → Prop} (hQ : ∀ (σ' : Sto) (Y' : Yc), Qy Y' → HY n ad aa σ' Y' → Fy n ad aa σ0 σ' → Q σ') (hL2 : ∀ (t9 : Option Nat × Int32) (t : Nat × Int32) (σ : Sto) (Y : Yc), Ly2 t Y → HY n ad aa σ Y → Fy n ad aa σ0 σ → (((some (ad 2 t.1)), t.2) = t9 ∧ Ob n 2 t.1 ∧ True) → L2 t9 σ) : ∀ (t9 : Option Nat × Int32) (t : Nat × Int32) (σ : Sto) (Y : Yc), HY n ad aa σ Y → Fy n ad aa σ0 σ → (((some (ad 2 t.1)), t.2) = t9 ∧ Ob n 2 t.1 ∧ True) → fy_X2_copyFirst_2 n o0  Qy Ly2 t Y → f_X2_copyFirst_2 (ad 2 o0)  Q L2 t9 σ := by
  intro t9 t σ Y hR F hT h
  obtain ⟨rfl, hL_1, _⟩ := hT
  unfold fy_X2_copyFirst_2 at h
  unfold f_X2_copyFirst_2
  dsimp only
  refine ⟨_, rfl, ?_⟩
  refine ⟨hR.K hL_1, ?_⟩
  intro x2 e3
  have e3 : x2 = yI Y 201 t.1 := e3.trans (hR.I (x := 201) hL_1 1 (by decide) rfl)
  have h := h x2 e3
  refine ⟨fun c4 => ?_, fun c4 => ?_⟩
  · have h := h.1 c4
    exact hQ _ _ h hR F
  · have h := h.2 c4
    refine ⟨hR.K ho0, ?_⟩
    have a5 : sP σ (ad 2 o0) 0 = some (aa 200 o0) := hR.ar (x := 200) ho0 0 (by decide) rfl (by decide)
    refine ⟨_, a5, ?_⟩
    refine ⟨hR.arK (x := 200) ho0 0 (by decide) rfl (by decide), ?_⟩
    rw [show sN σ (aa 200 o0) = 100 from hR.arN (x := 200) ho0 0 (by decide) rfl (by decide)]
    refine ⟨fun c7 => ?_, fun c7 => ?_⟩
    · have h := h.1 c7
      exact hQ _ _ h hR F
    · have h := h.2 c7
      have a8 : sP σ (ad 2 o0) 0 = some (aa 200 o0) := hR.ar (x := 200) ho0 0 (by decide) rfl (by decide)
      have a9 : sP σ (ad 2 t.1) 0 = some (aa 200 t.1) := hR.ar (x := 200) hL_1 0 (by decide) rfl (by decide)
      refine ⟨_, a9, ?_⟩
      refine ⟨hR.arK (x := 200) hL_1 0 (by decide) rfl (by decide), ?_⟩
      have hz := h.1
      refine ⟨by first | exact hR.arV (x := 200) hL_1 0 (by decide) rfl (by decide) hz | exact hz, ?_⟩
      have h := h.2
      obtain ⟨q13, e14⟩ : ∃ z, z = yS Y 200 t.1 t.2.toNatClampNeg := ⟨_, rfl⟩
      have h := h q13 e14
      intro r11 e12
      have hr15 := rq_of (hR.S (x := 200) hL_1 0 (by decide) rfl (by decide) (t.2.toNatClampNeg)) e12 e14
      have hz := h.1
      refine ⟨by first | exact hR.arV (x := 200) ho0 0 (by decide) rfl (by decide) hz | exact hz, ?_⟩
      have h := h.2
      refine ⟨fun b hb => by have hb := rq_K hr15 hb; exact hb, ?_⟩
      have w16 := hR.wS (x := 200) ho0 0 (by decide) rfl (by decide) (t.2.toNatClampNeg) hr15
      have F := F.trans w16.2
      have hR := w16.1
      intro x17 e18
      have h := h x17 e18
      exact hL2 _ _ _ _ h hR F ⟨rfl, hL_1, trivial⟩
def wy_X2_copyFirst (n : Nat) (o0 : Nat) (p1 : Nat) (Y : Yc) (Qy : Yc → Prop) : Prop := LFy (fy_X2_copyFirst_2 n o0  Qy) (p1, (0 : Int32)) Y
set_option maxHeartbeats 4000000 in
set_option maxRecDepth 100000 in
theorem y_X2_copyFirst {n : Nat} {ad aa : Nat → Nat → Nat} {o0 : Nat} {p1 : Nat} {σ : Sto} {Y : Yc} {Q : Sto → Prop} {Qy : Yc → Prop} (hR : HY n ad aa σ Y) (ho0 : Ob n 2 o0) (hp1 : Ob n 2 p1) (h : wy_X2_copyFirst n o0 p1 Y Qy) (hQ : ∀ (σ' : Sto) (Y' : Yc), Qy Y' → HY n ad aa σ' Y' → Fy n ad aa σ σ' → Q σ') : wp_X2_copyFirst (ad 2 o0) (some (ad 2 p1)) σ Q := by
  have F : Fy n ad aa σ σ := Fy.rf
  unfold wy_X2_copyFirst at h
  unfold wp_X2_copyFirst
  exact lfy (fun σ t9 t => ((some (ad 2 t.1)), t.2) = t9 ∧ Ob n 2 t.1 ∧ True) h hR F ⟨rfl, hp1, trivial⟩ (fun Ly L hL t9 t σ Y hR F hT h => yf_X2_copyFirst_2 ho0 hQ  hL t9 t σ Y hR F hT h)
def wy_X2_become (n : Nat) (o0 : Nat) (p1 : Nat) (Y : Yc) (Qy : Yc → Prop) : Prop := (∀ x2 : Int32, x2 = yI Y 202 p1 → (∀ x5 : Int32, x5 = yI (uI Y 202 o0 x2) 201 p1 → (wy_X2_copyFirst n o0 p1 (uI (uI Y 202 o0 x2) 201 o0 x5) (fun (Y9 : Yc) => Qy Y9))))
set_option maxHeartbeats 4000000 in
set_option maxRecDepth 100000 in
theorem y_X2_become {n : Nat} {ad aa : Nat → Nat → Nat} {o0 : Nat} {p1 : Nat} {σ : Sto} {Y : Yc} {Q : Sto → Prop} {Qy : Yc → Prop} (hR : HY n ad aa σ Y) (ho0 : Ob n 2 o0) (hp1 : Ob n 2 p1) (h : wy_X2_become n o0 p1 Y Qy) (hQ : ∀ (σ' : Sto) (Y' : Yc), Qy Y' → HY n ad aa σ' Y' → Fy n ad aa σ σ' → Q σ') : wp_X2_become (ad 2 o0) (some (ad 2 p1)) σ Q := by
  have F : Fy n ad aa σ σ := Fy.rf
  unfold wy_X2_become at h
  unfold wp_X2_become
  refine ⟨_, rfl, ?_⟩
  refine ⟨hR.K hp1, ?_⟩
  intro x2 e3
  have e3 : x2 = yI Y 202 p1 := e3.trans (hR.I (x := 202) hp1 2 (by decide) rfl)
  have h := h x2 e3
  refine ⟨hR.K ho0, ?_⟩
  have w4 := hR.wI (x := 202) ho0 2 (by decide) rfl x2
  have F := F.trans w4.2
  have hR := w4.1
  intro x5 e6
  have e6 : x5 = yI (uI Y 202 o0 x2) 201 p1 := e6.trans (hR.I (x := 201) hp1 1 (by decide) rfl)
  have h := h x5 e6
  have w7 := hR.wI (x := 201) ho0 1 (by decide) rfl x5
  have F := F.trans w7.2
  have hR := w7.1
  refine y_X2_copyFirst hR ho0 hp1 h (fun σ8 Y9 h hR11 f10 => ?_)
  have F := F.trans f10
  have hR := hR11
  exact hQ _ _ h hR F
def wy_X9_write (n : Nat) (w0 : Rq) (p1 : Nat) (Y : Yc) (Qy : Yc → Prop) : Prop := (∀ x1 : Int32, x1 = w0.1 → (wy_X0_add n p1 x1 Y (fun (Y5 : Yc) => (∀ x11 : Int32, x11 = w0.2.1 → (wy_X0_addNumber n p1 x11 Y5 (fun (Y14 : Yc) => (∀ x20 : Int32, x20 = w0.2.2.1 → (wy_X0_add n p1 x20 Y14 (fun (Y23 : Yc) => (∀ x29 : Int32, x29 = w0.2.2.2.1 → (wy_X0_add n p1 x29 Y23 (fun (Y32 : Yc) => (∀ x38 : Int32, x38 = w0.2.2.2.2 → (wy_X0_addWord n p1 x38 Y32 (fun (Y41 : Yc) => Qy Y41)))))))))))))))
set_option maxHeartbeats 4000000 in
set_option maxRecDepth 100000 in
theorem y_X9_write {n : Nat} {ad aa : Nat → Nat → Nat} {w0 : Rq} {p1 : Nat} {σ : Sto} {Y : Yc} {Q : Sto → Prop} {Qy : Yc → Prop} (hR : HY n ad aa σ Y) {a0 : Nat} (hr0 : rq σ (some a0) (some w0)) (hp1 : Ob n 0 p1) (h : wy_X9_write n w0 p1 Y Qy) (hQ : ∀ (σ' : Sto) (Y' : Yc), Qy Y' → HY n ad aa σ' Y' → Fy n ad aa σ σ' → Q σ') : wp_X9_write a0 (some (ad 0 p1)) σ Q := by
  have F : Fy n ad aa σ σ := Fy.rf
  unfold wy_X9_write at h
  unfold wp_X9_write
  refine ⟨(rq_get hr0 rfl rfl).1, ?_⟩
  intro x1 e2
  have e2 : x1 = w0.1 := e2.trans ((rq_get hr0 rfl rfl).2.1)
  have h := h x1 e2
  refine ⟨_, rfl, ?_⟩
  refine ⟨hR.K hp1, ?_⟩
  refine y_X0_add hR hp1  h (fun σ4 Y5 h hR7 f6 => ?_)
  have hr0 := rq.mv hR f6 hr0
  have F := F.trans f6
  have hR := hR7
  refine ⟨(rq_get hr0 rfl rfl).1, ?_⟩
  intro x11 e12
  have e12 : x11 = w0.2.1 := e12.trans ((rq_get hr0 rfl rfl).2.2.1)
  have h := h x11 e12
  refine ⟨hR.K hp1, ?_⟩
  refine y_X0_addNumber hR hp1  h (fun σ13 Y14 h hR16 f15 => ?_)
  have hr0 := rq.mv hR f15 hr0
  have F := F.trans f15
  have hR := hR16
  refine ⟨(rq_get hr0 rfl rfl).1, ?_⟩
  intro x20 e21
  have e21 : x20 = w0.2.2.1 := e21.trans ((rq_get hr0 rfl rfl).2.2.2.1)
  have h := h x20 e21
  refine ⟨hR.K hp1, ?_⟩
  refine y_X0_add hR hp1  h (fun σ22 Y23 h hR25 f24 => ?_)
  have hr0 := rq.mv hR f24 hr0
  have F := F.trans f24
  have hR := hR25
  refine ⟨(rq_get hr0 rfl rfl).1, ?_⟩
  intro x29 e30
  have e30 : x29 = w0.2.2.2.1 := e30.trans ((rq_get hr0 rfl rfl).2.2.2.2.1)
  have h := h x29 e30
  refine ⟨hR.K hp1, ?_⟩
  refine y_X0_add hR hp1  h (fun σ31 Y32 h hR34 f33 => ?_)
  have hr0 := rq.mv hR f33 hr0
  have F := F.trans f33
  have hR := hR34
  refine ⟨(rq_get hr0 rfl rfl).1, ?_⟩
  intro x38 e39
  have e39 : x38 = w0.2.2.2.2 := e39.trans ((rq_get hr0 rfl rfl).2.2.2.2.2)
  have h := h x38 e39
  refine ⟨hR.K hp1, ?_⟩
  refine y_X0_addWord hR hp1  h (fun σ40 Y41 h hR43 f42 => ?_)
  have hr0 := rq.mv hR f42 hr0
  have F := F.trans f42
  have hR := hR43
  exact hQ _ _ h hR F
def by_X2_write_46 (n : Nat) (o0 : Nat)  (Ly10 : Nat × Int32 → Yc → Prop) (Qy : Yc → Prop) (p1 : Nat) (p2 : Int32) (Y : Yc) : Prop := (∀ x1 : Int32, x1 = p2 + (1 : Int32) → Ly10 (p1, x1) Y)
set_option maxHeartbeats 4000000 in
set_option maxRecDepth 100000 in
theorem yb_X2_write_46 {n : Nat} {ad aa : Nat → Nat → Nat} {σ0 : Sto} {o0 : Nat} (ho0 : Ob n 2 o0) {Ly10 : Nat × Int32 → Yc → Prop} {L10 : Option Nat × Int32 → Sto → Prop} {Q : Sto → Prop} {Qy : Yc → Prop} (hQ : ∀ (σ' : Sto) (Y' : Yc), Qy Y' → HY n ad aa σ' Y' → Fy n ad aa σ0 σ' → Q σ') (hL10 : ∀ (t9 : Option Nat × Int32) (t : Nat × Int32) (σ : Sto) (Y : Yc), Ly10 t Y → HY n ad aa σ Y → Fy n ad aa σ0 σ → (((some (ad 0 t.1)), t.2) = t9 ∧ Ob n 0 t.1 ∧ True) → L10 t9 σ) (p1 : Nat) (p2 : Int32) (σ : Sto) (Y : Yc) (hR : HY n ad aa σ Y) (F : Fy n ad aa σ0 σ) (hp1 : Ob n 0 p1) (h : by_X2_write_46 n o0 Ly10 Qy p1 p2 Y) : b_X2_write_46 (ad 2 o0) L10 Q (some (ad 0 p1)) p2 σ := by
  unfold by_X2_write_46 at h
  unfold b_X2_write_46
  intro x1 e2
  have h := h x1 e2
  exact hL10 _ _ _ _ h hR F ⟨rfl, hp1, trivial⟩
def by_X2_write_34 (n : Nat) (o0 : Nat)  (Ly10 : Nat × Int32 → Yc → Prop) (Qy : Yc → Prop) (p1 : Nat) (p2 : Int32) (p3 : Option Rq) (s0 : Int32) (s1 : Nat) (Y : Yc) : Prop := (wy_X0_add n s1 s0 Y (fun (Y3 : Yc) => ((p3 = none → by_X2_write_46 n o0 Ly10 Qy p1 p2 Y3) ∧ (∀ w11 : Rq, p3 = some w11 → (wy_X9_write n w11 p1 Y3 (fun (Y14 : Yc) => by_X2_write_46 n o0 Ly10 Qy p1 p2 Y14))))))
set_option maxHeartbeats 4000000 in
set_option maxRecDepth 100000 in
theorem yb_X2_write_34 {n : Nat} {ad aa : Nat → Nat → Nat} {σ0 : Sto} {o0 : Nat} (ho0 : Ob n 2 o0) {Ly10 : Nat × Int32 → Yc → Prop} {L10 : Option Nat × Int32 → Sto → Prop} {Q : Sto → Prop} {Qy : Yc → Prop} (hQ : ∀ (σ' : Sto) (Y' : Yc), Qy Y' → HY n ad aa σ' Y' → Fy n ad aa σ0 σ' → Q σ') (hL10 : ∀ (t9 : Option Nat × Int32) (t : Nat × Int32) (σ : Sto) (Y : Yc), Ly10 t Y → HY n ad aa σ Y → Fy n ad aa σ0 σ → (((some (ad 0 t.1)), t.2) = t9 ∧ Ob n 0 t.1 ∧ True) → L10 t9 σ) (p1 : Nat) (p2 : Int32) (p3 : Option Rq) (s0 : Int32) (s1 : Nat) (σ : Sto) (Y : Yc) (hR : HY n ad aa σ Y) (F : Fy n ad aa σ0 σ) (hp1 : Ob n 0 p1) {ap3 : Option Nat} (hp3 : rq σ ap3 p3) (hs1 : Ob n 0 s1) (h : by_X2_write_34 n o0 Ly10 Qy p1 p2 p3 s0 s1 Y) : b_X2_write_34 (ad 2 o0) L10 Q (some (ad 0 p1)) p2 ap3 s0 (some (ad 0 s1)) σ := by
  unfold by_X2_write_34 at h
  unfold b_X2_write_34
  refine ⟨_, rfl, ?_⟩
  refine ⟨hR.K hs1, ?_⟩
  refine y_X0_add hR hs1  h (fun σ2 Y3 h hR5 f4 => ?_)
  have hp3 := rq.mv hR f4 hp3
  have F := F.trans f4
  have hR := hR5
  refine ⟨fun c9 => ?_, fun b10 c9 => ?_⟩
  · have h := h.1 (rq_none hp3 c9)
    exact yb_X2_write_46 ho0 hQ hL10 p1 p2 _ _ hR F hp1 h
  · obtain ⟨w11, ew12⟩ := rq_some hp3 c9
    have h := h.2 w11 ew12
    refine ⟨(rq_get hp3 c9 ew12).1, ?_⟩
    refine y_X9_write hR (rq_is (rq_get hp3 c9 ew12)) hp1 h (fun σ13 Y14 h hR16 f15 => ?_)
    have hp3 := rq.mv hR f15 hp3
    have F := F.trans f15
    have hR := hR16
    exact yb_X2_write_46 ho0 hQ hL10 p1 p2 _ _ hR F hp1 h
def fy_X2_write_10 (n : Nat) (o0 : Nat)  (Qy : Yc → Prop) (Ly10 : Nat × Int32 → Yc → Prop) (t : Nat × Int32) (Y : Yc) : Prop := (∀ x1 : Int32, x1 = yI Y 201 o0 → ((x1 < t.2 → Qy Y) ∧ (¬ x1 < t.2 → (wy_X2_at n o0 t.2 Y (fun (q8 : Option Rq) (Y5 : Yc) => ((q8 = none → by_X2_write_34 n o0 Ly10 Qy t.1 t.2 q8 (0 : Int32) t.1 Y5) ∧ (∀ w13 : Rq, q8 = some w13 → by_X2_write_34 n o0 Ly10 Qy t.1 t.2 q8 (1 : Int32) t.1 Y5)))))))
set_option maxHeartbeats 4000000 in
set_option maxRecDepth 100000 in
theorem yf_X2_write_10 {n : Nat} {ad aa : Nat → Nat → Nat} {σ0 : Sto} {o0 : Nat} (ho0 : Ob n 2 o0) {Q : Sto → Prop} {Qy : Yc → Prop} {Ly10 : Nat × Int32 → Yc → Prop} {L10 : Option Nat × Int32 → Sto → Prop} (hQ : ∀ (σ' : Sto) (Y' : Yc), Qy Y' → HY n ad aa σ' Y' → Fy n ad aa σ0 σ' → Q σ') (hL10 : ∀ (t9 : Option Nat × Int32) (t : Nat × Int32) (σ : Sto) (Y : Yc), Ly10 t Y → HY n ad aa σ Y → Fy n ad aa σ0 σ → (((some (ad 0 t.1)), t.2) = t9 ∧ Ob n 0 t.1 ∧ True) → L10 t9 σ) : ∀ (t9 : Option Nat × Int32) (t : Nat × Int32) (σ : Sto) (Y : Yc), HY n ad aa σ Y → Fy n ad aa σ0 σ → (((some (ad 0 t.1)), t.2) = t9 ∧ Ob n 0 t.1 ∧ True) → fy_X2_write_10 n o0  Qy Ly10 t Y → f_X2_write_10 (ad 2 o0)  Q L10 t9 σ := by
  intro t9 t σ Y hR F hT h
  obtain ⟨rfl, hL_1, _⟩ := hT
  unfold fy_X2_write_10 at h
  unfold f_X2_write_10
  dsimp only
  refine ⟨hR.K ho0, ?_⟩
  intro x1 e2
  have e2 : x1 = yI Y 201 o0 := e2.trans (hR.I (x := 201) ho0 1 (by decide) rfl)
  have h := h x1 e2
  refine ⟨fun c3 => ?_, fun c3 => ?_⟩
  · have h := h.1 c3
    exact hQ _ _ h hR F
  · have h := h.2 c3
    refine y_X2_at hR ho0  h (fun r10 q8 σ4 Y5 h hr9 hR7 f6 => ?_)
    have F := F.trans f6
    have hR := hR7
    refine ⟨fun c11 => ?_, fun b12 c11 => ?_⟩
    · have h := h.1 (rq_none hr9 c11)
      exact yb_X2_write_34 ho0 hQ hL10 t.1 t.2 q8 (0 : Int32) t.1 _ _ hR F hL_1 hr9 hL_1 h
    · obtain ⟨w13, ew14⟩ := rq_some hr9 c11
      have h := h.2 w13 ew14
      exact yb_X2_write_34 ho0 hQ hL10 t.1 t.2 q8 (1 : Int32) t.1 _ _ hR F hL_1 hr9 hL_1 h
def wy_X2_write (n : Nat) (o0 : Nat) (p1 : Nat) (Y : Yc) (Qy : Yc → Prop) : Prop := (∀ x1 : Int32, x1 = yI Y 201 o0 → (wy_X0_addNumber n p1 x1 Y (fun (Y5 : Yc) => LFy (fy_X2_write_10 n o0  Qy) (p1, (1 : Int32)) Y5)))
set_option maxHeartbeats 4000000 in
set_option maxRecDepth 100000 in
theorem y_X2_write {n : Nat} {ad aa : Nat → Nat → Nat} {o0 : Nat} {p1 : Nat} {σ : Sto} {Y : Yc} {Q : Sto → Prop} {Qy : Yc → Prop} (hR : HY n ad aa σ Y) (ho0 : Ob n 2 o0) (hp1 : Ob n 0 p1) (h : wy_X2_write n o0 p1 Y Qy) (hQ : ∀ (σ' : Sto) (Y' : Yc), Qy Y' → HY n ad aa σ' Y' → Fy n ad aa σ σ' → Q σ') : wp_X2_write (ad 2 o0) (some (ad 0 p1)) σ Q := by
  have F : Fy n ad aa σ σ := Fy.rf
  unfold wy_X2_write at h
  unfold wp_X2_write
  refine ⟨hR.K ho0, ?_⟩
  intro x1 e2
  have e2 : x1 = yI Y 201 o0 := e2.trans (hR.I (x := 201) ho0 1 (by decide) rfl)
  have h := h x1 e2
  refine ⟨_, rfl, ?_⟩
  refine ⟨hR.K hp1, ?_⟩
  refine y_X0_addNumber hR hp1  h (fun σ4 Y5 h hR7 f6 => ?_)
  have F := F.trans f6
  have hR := hR7
  exact lfy (fun σ t9 t => ((some (ad 0 t.1)), t.2) = t9 ∧ Ob n 0 t.1 ∧ True) h hR F ⟨rfl, hp1, trivial⟩ (fun Ly L hL t9 t σ Y hR F hT h => yf_X2_write_10 ho0 hQ  hL t9 t σ Y hR F hT h)
def by_X2_writeEntries_88 (n : Nat) (o0 : Nat)  (Ly4 : Nat × Int32 × Int32 → Yc → Prop) (Qy : Yc → Prop) (p1 : Nat) (p2 : Int32) (p3 : Int32) (Y : Yc) : Prop := (∀ x1 : Int32, x1 = p3 + (1 : Int32) → Ly4 (p1, p2, x1) Y)
set_option maxHeartbeats 4000000 in
set_option maxRecDepth 100000 in
theorem yb_X2_writeEntries_88 {n : Nat} {ad aa : Nat → Nat → Nat} {σ0 : Sto} {o0 : Nat} (ho0 : Ob n 2 o0) {Ly4 : Nat × Int32 × Int32 → Yc → Prop} {L4 : Option Nat × Int32 × Int32 → Sto → Prop} {Q : Sto → Prop} {Qy : Yc → Prop} (hQ : ∀ (σ' : Sto) (Y' : Yc), Qy Y' → HY n ad aa σ' Y' → Fy n ad aa σ0 σ' → Q σ') (hL4 : ∀ (t9 : Option Nat × Int32 × Int32) (t : Nat × Int32 × Int32) (σ : Sto) (Y : Yc), Ly4 t Y → HY n ad aa σ Y → Fy n ad aa σ0 σ → (((some (ad 0 t.1)), t.2.1, t.2.2) = t9 ∧ Ob n 0 t.1 ∧ True) → L4 t9 σ) (p1 : Nat) (p2 : Int32) (p3 : Int32) (σ : Sto) (Y : Yc) (hR : HY n ad aa σ Y) (F : Fy n ad aa σ0 σ) (hp1 : Ob n 0 p1) (h : by_X2_writeEntries_88 n o0 Ly4 Qy p1 p2 p3 Y) : b_X2_writeEntries_88 (ad 2 o0) L4 Q (some (ad 0 p1)) p2 p3 σ := by
  unfold by_X2_writeEntries_88 at h
  unfold b_X2_writeEntries_88
  intro x1 e2
  have h := h x1 e2
  exact hL4 _ _ _ _ h hR F ⟨rfl, hp1, trivial⟩
def fy_X2_writeEntries_4 (n : Nat) (o0 : Nat)  (Qy : Yc → Prop) (Ly4 : Nat × Int32 × Int32 → Yc → Prop) (t : Nat × Int32 × Int32) (Y : Yc) : Prop := (((t.2.1 + (25 : Int32)) < t.2.2 → Qy Y) ∧ (¬ (t.2.1 + (25 : Int32)) < t.2.2 → (wy_X2_at n o0 t.2.2 Y (fun (q6 : Option Rq) (Y3 : Yc) => ((q6 = none → (wy_X0_addZeros n t.1 (16 : Int32) Y3 (fun (Y15 : Yc) => by_X2_writeEntries_88 n o0 Ly4 Qy t.1 t.2.1 t.2.2 Y15))) ∧ (∀ w11 : Rq, q6 = some w11 → (wy_X0_add n t.1 (1 : Int32) Y3 (fun (Y23 : Yc) => (∀ x29 : Int32, x29 = w11.1 → (wy_X0_add n t.1 x29 Y23 (fun (Y32 : Yc) => (∀ x38 : Int32, x38 = w11.2.2.1 → (wy_X0_add n t.1 x38 Y32 (fun (Y41 : Yc) => (∀ x47 : Int32, x47 = w11.2.2.2.1 → (wy_X0_add n t.1 x47 Y41 (fun (Y50 : Yc) => (∀ x56 : Int32, x56 = w11.2.1 → (wy_X0_addWord n t.1 x56 Y50 (fun (Y59 : Yc) => (∀ x65 : Int32, x65 = w11.2.2.2.2 → (wy_X0_addWord n t.1 x65 Y59 (fun (Y68 : Yc) => (wy_X0_addZeros n t.1 (4 : Int32) Y68 (fun (Y75 : Yc) => by_X2_writeEntries_88 n o0 Ly4 Qy t.1 t.2.1 t.2.2 Y75)))))))))))))))))))))))))
set_option maxHeartbeats 4000000 in
set_option maxRecDepth 100000 in
theorem yf_X2_writeEntries_4 {n : Nat} {ad aa : Nat → Nat → Nat} {σ0 : Sto} {o0 : Nat} (ho0 : Ob n 2 o0) {Q : Sto → Prop} {Qy : Yc → Prop} {Ly4 : Nat × Int32 × Int32 → Yc → Prop} {L4 : Option Nat × Int32 × Int32 → Sto → Prop} (hQ : ∀ (σ' : Sto) (Y' : Yc), Qy Y' → HY n ad aa σ' Y' → Fy n ad aa σ0 σ' → Q σ') (hL4 : ∀ (t9 : Option Nat × Int32 × Int32) (t : Nat × Int32 × Int32) (σ : Sto) (Y : Yc), Ly4 t Y → HY n ad aa σ Y → Fy n ad aa σ0 σ → (((some (ad 0 t.1)), t.2.1, t.2.2) = t9 ∧ Ob n 0 t.1 ∧ True) → L4 t9 σ) : ∀ (t9 : Option Nat × Int32 × Int32) (t : Nat × Int32 × Int32) (σ : Sto) (Y : Yc), HY n ad aa σ Y → Fy n ad aa σ0 σ → (((some (ad 0 t.1)), t.2.1, t.2.2) = t9 ∧ Ob n 0 t.1 ∧ True) → fy_X2_writeEntries_4 n o0  Qy Ly4 t Y → f_X2_writeEntries_4 (ad 2 o0)  Q L4 t9 σ := by
  intro t9 t σ Y hR F hT h
  obtain ⟨rfl, hL_1, _⟩ := hT
  unfold fy_X2_writeEntries_4 at h
  unfold f_X2_writeEntries_4
  dsimp only
  refine ⟨fun c1 => ?_, fun c1 => ?_⟩
  · have h := h.1 c1
    exact hQ _ _ h hR F
  · have h := h.2 c1
    refine ⟨hR.K ho0, ?_⟩
    refine y_X2_at hR ho0  h (fun r8 q6 σ2 Y3 h hr7 hR5 f4 => ?_)
    have F := F.trans f4
    have hR := hR5
    refine ⟨fun c9 => ?_, fun b10 c9 => ?_⟩
    · have h := h.1 (rq_none hr7 c9)
      refine ⟨_, rfl, ?_⟩
      refine ⟨hR.K hL_1, ?_⟩
      refine y_X0_addZeros hR hL_1  h (fun σ14 Y15 h hR17 f16 => ?_)
      have hr7 := rq.mv hR f16 hr7
      have F := F.trans f16
      have hR := hR17
      exact yb_X2_writeEntries_88 ho0 hQ hL4 t.1 t.2.1 t.2.2 _ _ hR F hL_1 h
    · obtain ⟨w11, ew12⟩ := rq_some hr7 c9
      have h := h.2 w11 ew12
      refine ⟨_, rfl, ?_⟩
      refine ⟨hR.K hL_1, ?_⟩
      refine y_X0_add hR hL_1  h (fun σ22 Y23 h hR25 f24 => ?_)
      have hr7 := rq.mv hR f24 hr7
      have F := F.trans f24
      have hR := hR25
      refine ⟨(rq_get hr7 c9 ew12).1, ?_⟩
      intro x29 e30
      have e30 : x29 = w11.1 := e30.trans ((rq_get hr7 c9 ew12).2.1)
      have h := h x29 e30
      refine ⟨hR.K hL_1, ?_⟩
      refine y_X0_add hR hL_1  h (fun σ31 Y32 h hR34 f33 => ?_)
      have hr7 := rq.mv hR f33 hr7
      have F := F.trans f33
      have hR := hR34
      refine ⟨(rq_get hr7 c9 ew12).1, ?_⟩
      intro x38 e39
      have e39 : x38 = w11.2.2.1 := e39.trans ((rq_get hr7 c9 ew12).2.2.2.1)
      have h := h x38 e39
      refine ⟨hR.K hL_1, ?_⟩
      refine y_X0_add hR hL_1  h (fun σ40 Y41 h hR43 f42 => ?_)
      have hr7 := rq.mv hR f42 hr7
      have F := F.trans f42
      have hR := hR43
      refine ⟨(rq_get hr7 c9 ew12).1, ?_⟩
      intro x47 e48
      have e48 : x47 = w11.2.2.2.1 := e48.trans ((rq_get hr7 c9 ew12).2.2.2.2.1)
      have h := h x47 e48
      refine ⟨hR.K hL_1, ?_⟩
      refine y_X0_add hR hL_1  h (fun σ49 Y50 h hR52 f51 => ?_)
      have hr7 := rq.mv hR f51 hr7
      have F := F.trans f51
      have hR := hR52
      refine ⟨(rq_get hr7 c9 ew12).1, ?_⟩
      intro x56 e57
      have e57 : x56 = w11.2.1 := e57.trans ((rq_get hr7 c9 ew12).2.2.1)
      have h := h x56 e57
      refine ⟨hR.K hL_1, ?_⟩
      refine y_X0_addWord hR hL_1  h (fun σ58 Y59 h hR61 f60 => ?_)
      have hr7 := rq.mv hR f60 hr7
      have F := F.trans f60
      have hR := hR61
      refine ⟨(rq_get hr7 c9 ew12).1, ?_⟩
      intro x65 e66
      have e66 : x65 = w11.2.2.2.2 := e66.trans ((rq_get hr7 c9 ew12).2.2.2.2.2)
      have h := h x65 e66
      refine ⟨hR.K hL_1, ?_⟩
      refine y_X0_addWord hR hL_1  h (fun σ67 Y68 h hR70 f69 => ?_)
      have hr7 := rq.mv hR f69 hr7
      have F := F.trans f69
      have hR := hR70
      refine ⟨hR.K hL_1, ?_⟩
      refine y_X0_addZeros hR hL_1  h (fun σ74 Y75 h hR77 f76 => ?_)
      have hr7 := rq.mv hR f76 hr7
      have F := F.trans f76
      have hR := hR77
      exact yb_X2_writeEntries_88 ho0 hQ hL4 t.1 t.2.1 t.2.2 _ _ hR F hL_1 h
def wy_X2_writeEntries (n : Nat) (o0 : Nat) (p1 : Nat) (p2 : Int32) (Y : Yc) (Qy : Yc → Prop) : Prop := (∀ x1 : Int32, x1 = p2 + (1 : Int32) → LFy (fy_X2_writeEntries_4 n o0  Qy) (p1, p2, x1) Y)
set_option maxHeartbeats 4000000 in
set_option maxRecDepth 100000 in
theorem y_X2_writeEntries {n : Nat} {ad aa : Nat → Nat → Nat} {o0 : Nat} {p1 : Nat} {p2 : Int32} {σ : Sto} {Y : Yc} {Q : Sto → Prop} {Qy : Yc → Prop} (hR : HY n ad aa σ Y) (ho0 : Ob n 2 o0) (hp1 : Ob n 0 p1) (h : wy_X2_writeEntries n o0 p1 p2 Y Qy) (hQ : ∀ (σ' : Sto) (Y' : Yc), Qy Y' → HY n ad aa σ' Y' → Fy n ad aa σ σ' → Q σ') : wp_X2_writeEntries (ad 2 o0) (some (ad 0 p1)) p2 σ Q := by
  have F : Fy n ad aa σ σ := Fy.rf
  unfold wy_X2_writeEntries at h
  unfold wp_X2_writeEntries
  intro x1 e2
  have h := h x1 e2
  exact lfy (fun σ t9 t => ((some (ad 0 t.1)), t.2.1, t.2.2) = t9 ∧ Ob n 0 t.1 ∧ True) h hR F ⟨rfl, hp1, trivial⟩ (fun Ly L hL t9 t σ Y hR F hT h => yf_X2_writeEntries_4 ho0 hQ  hL t9 t σ Y hR F hT h)
def by_X3_writeRest_191 (n : Nat) (o0 : Nat)  (Qy : Yc → Prop) (p1 : Nat) (Y : Yc) : Prop := (∀ q2 : Option Rq, q2 = yP Y 307 o0 → ((q2 = none → Qy Y) ∧ (∀ w10 : Rq, q2 = some w10 → (∀ q13 : Option Rq, q13 = yP Y 307 o0 → (∃ w18 : Rq, q13 = some w18 ∧ (wy_X9_write n w18 p1 Y (fun (Y21 : Yc) => Qy Y21)))))))
set_option maxHeartbeats 4000000 in
set_option maxRecDepth 100000 in
theorem yb_X3_writeRest_191 {n : Nat} {ad aa : Nat → Nat → Nat} {σ0 : Sto} {o0 : Nat} (ho0 : Ob n 3 o0) {Q : Sto → Prop} {Qy : Yc → Prop} (hQ : ∀ (σ' : Sto) (Y' : Yc), Qy Y' → HY n ad aa σ' Y' → Fy n ad aa σ0 σ' → Q σ')  (p1 : Nat) (σ : Sto) (Y : Yc) (hR : HY n ad aa σ Y) (F : Fy n ad aa σ0 σ) (hp1 : Ob n 0 p1) (h : by_X3_writeRest_191 n o0  Qy p1 Y) : b_X3_writeRest_191 (ad 3 o0)  Q (some (ad 0 p1)) σ := by
  unfold by_X3_writeRest_191 at h
  unfold b_X3_writeRest_191
  refine ⟨hR.K ho0, ?_⟩
  obtain ⟨q2, e3⟩ : ∃ z, z = yP Y 307 o0 := ⟨_, rfl⟩
  have h := h q2 e3
  have hr4 := rq_of (hR.P (x := 307) ho0 7 (by decide) rfl (by decide)) rfl e3
  intro r5 e6
  have hr7 := rq_of hr4 e6 rfl
  refine ⟨fun c8 => ?_, fun b9 c8 => ?_⟩
  · have h := h.1 (rq_none hr7 c8)
    exact hQ _ _ h hR F
  · obtain ⟨w10, ew11⟩ := rq_some hr7 c8
    have h := h.2 w10 ew11
    obtain ⟨q13, e14⟩ : ∃ z, z = yP Y 307 o0 := ⟨_, rfl⟩
    have h := h q13 e14
    have hr15 := rq_of (hR.P (x := 307) ho0 7 (by decide) rfl (by decide)) rfl e14
    obtain ⟨w18, ew19, h⟩ := h
    obtain ⟨b16, c17⟩ := rq_ex hr15 ew19
    refine ⟨b16, c17, ?_⟩
    refine ⟨(rq_get hr15 c17 ew19).1, ?_⟩
    refine y_X9_write hR (rq_is (rq_get hr15 c17 ew19)) hp1 h (fun σ20 Y21 h hR23 f22 => ?_)
    have F := F.trans f22
    have hR := hR23
    exact hQ _ _ h hR F
def by_X3_writeRest_168 (n : Nat) (o0 : Nat)  (Qy : Yc → Prop) (p1 : Nat) (Y : Yc) : Prop := (∀ x1 : Int32, x1 = yI Y 306 o0 → (wy_X0_addNumber n p1 x1 Y (fun (Y5 : Yc) => (∀ x11 : Int32, x11 = yI Y5 301 o0 → ((x11 = 0 → by_X3_writeRest_191 n o0  Qy p1 Y5) ∧ (¬ x11 = 0 → (∀ x14 : Int32, x14 = yI Y5 301 o0 → ((¬ x14 = (2 : Int32) → Qy Y5) ∧ (x14 = (2 : Int32) → by_X3_writeRest_191 n o0  Qy p1 Y5)))))))))
set_option maxHeartbeats 4000000 in
set_option maxRecDepth 100000 in
theorem yb_X3_writeRest_168 {n : Nat} {ad aa : Nat → Nat → Nat} {σ0 : Sto} {o0 : Nat} (ho0 : Ob n 3 o0) {Q : Sto → Prop} {Qy : Yc → Prop} (hQ : ∀ (σ' : Sto) (Y' : Yc), Qy Y' → HY n ad aa σ' Y' → Fy n ad aa σ0 σ' → Q σ')  (p1 : Nat) (σ : Sto) (Y : Yc) (hR : HY n ad aa σ Y) (F : Fy n ad aa σ0 σ) (hp1 : Ob n 0 p1) (h : by_X3_writeRest_168 n o0  Qy p1 Y) : b_X3_writeRest_168 (ad 3 o0)  Q (some (ad 0 p1)) σ := by
  unfold by_X3_writeRest_168 at h
  unfold b_X3_writeRest_168
  refine ⟨hR.K ho0, ?_⟩
  intro x1 e2
  have e2 : x1 = yI Y 306 o0 := e2.trans (hR.I (x := 306) ho0 6 (by decide) rfl)
  have h := h x1 e2
  refine ⟨_, rfl, ?_⟩
  refine ⟨hR.K hp1, ?_⟩
  refine y_X0_addNumber hR hp1  h (fun σ4 Y5 h hR7 f6 => ?_)
  have F := F.trans f6
  have hR := hR7
  refine ⟨hR.K ho0, ?_⟩
  intro x11 e12
  have e12 : x11 = yI Y5 301 o0 := e12.trans (hR.I (x := 301) ho0 1 (by decide) rfl)
  have h := h x11 e12
  refine ⟨fun c13 => ?_, fun c13 => ?_⟩
  · have h := h.1 c13
    exact yb_X3_writeRest_191 ho0 hQ  p1 _ _ hR F hp1 h
  · have h := h.2 c13
    intro x14 e15
    have e15 : x14 = yI Y5 301 o0 := e15.trans (hR.I (x := 301) ho0 1 (by decide) rfl)
    have h := h x14 e15
    refine ⟨fun c16 => ?_, fun c16 => ?_⟩
    · have h := h.1 c16
      exact hQ _ _ h hR F
    · have h := h.2 c16
      exact yb_X3_writeRest_191 ho0 hQ  p1 _ _ hR F hp1 h
def by_X3_writeRest_147 (n : Nat) (o0 : Nat)  (Qy : Yc → Prop) (p1 : Nat) (s0 : Int32) (s1 : Nat) (Y : Yc) : Prop := (wy_X0_add n s1 s0 Y (fun (Y3 : Yc) => (∀ x9 : Int32, x9 = yI Y3 309 o0 → ((x9 = 0 → Qy Y3) ∧ (¬ x9 = 0 → (∀ x12 : Int32, x12 = yI Y3 310 o0 → (wy_X0_addWord n p1 x12 Y3 (fun (Y16 : Yc) => Qy Y16))))))))
set_option maxHeartbeats 4000000 in
set_option maxRecDepth 100000 in
theorem yb_X3_writeRest_147 {n : Nat} {ad aa : Nat → Nat → Nat} {σ0 : Sto} {o0 : Nat} (ho0 : Ob n 3 o0) {Q : Sto → Prop} {Qy : Yc → Prop} (hQ : ∀ (σ' : Sto) (Y' : Yc), Qy Y' → HY n ad aa σ' Y' → Fy n ad aa σ0 σ' → Q σ')  (p1 : Nat) (s0 : Int32) (s1 : Nat) (σ : Sto) (Y : Yc) (hR : HY n ad aa σ Y) (F : Fy n ad aa σ0 σ) (hp1 : Ob n 0 p1) (hs1 : Ob n 0 s1) (h : by_X3_writeRest_147 n o0  Qy p1 s0 s1 Y) : b_X3_writeRest_147 (ad 3 o0)  Q (some (ad 0 p1)) s0 (some (ad 0 s1)) σ := by
  unfold by_X3_writeRest_147 at h
  unfold b_X3_writeRest_147
  refine ⟨_, rfl, ?_⟩
  refine ⟨hR.K hs1, ?_⟩
  refine y_X0_add hR hs1  h (fun σ2 Y3 h hR5 f4 => ?_)
  have F := F.trans f4
  have hR := hR5
  refine ⟨hR.K ho0, ?_⟩
  intro x9 e10
  have e10 : x9 = yI Y3 309 o0 := e10.trans (hR.I (x := 309) ho0 9 (by decide) rfl)
  have h := h x9 e10
  refine ⟨fun c11 => ?_, fun c11 => ?_⟩
  · have h := h.1 c11
    exact hQ _ _ h hR F
  · have h := h.2 c11
    intro x12 e13
    have e13 : x12 = yI Y3 310 o0 := e13.trans (hR.I (x := 310) ho0 10 (by decide) rfl)
    have h := h x12 e13
    refine ⟨_, rfl, ?_⟩
    refine ⟨hR.K hp1, ?_⟩
    refine y_X0_addWord hR hp1  h (fun σ15 Y16 h hR18 f17 => ?_)
    have F := F.trans f17
    have hR := hR18
    exact hQ _ _ h hR F
def by_X3_writeRest_52 (n : Nat) (o0 : Nat)  (Qy : Yc → Prop)  (Y : Yc) : Prop := Qy Y
set_option maxHeartbeats 4000000 in
set_option maxRecDepth 100000 in
theorem yb_X3_writeRest_52 {n : Nat} {ad aa : Nat → Nat → Nat} {σ0 : Sto} {o0 : Nat} (ho0 : Ob n 3 o0) {Q : Sto → Prop} {Qy : Yc → Prop} (hQ : ∀ (σ' : Sto) (Y' : Yc), Qy Y' → HY n ad aa σ' Y' → Fy n ad aa σ0 σ' → Q σ')   (σ : Sto) (Y : Yc) (hR : HY n ad aa σ Y) (F : Fy n ad aa σ0 σ) (h : by_X3_writeRest_52 n o0  Qy  Y) : b_X3_writeRest_52 (ad 3 o0)  Q  σ := by
  unfold by_X3_writeRest_52 at h
  unfold b_X3_writeRest_52
  exact hQ _ _ h hR F
def wy_X3_writeRest (n : Nat) (o0 : Nat) (p1 : Nat) (Y : Yc) (Qy : Yc → Prop) : Prop := (∀ x1 : Int32, x1 = yI Y 301 o0 → ((x1.toInt < 5 ∨ 12 < x1.toInt → by_X3_writeRest_168 n o0  Qy p1 Y) ∧ (x1 = (5 : Int32) → (wy_X2_write n (56 + o0) p1 Y (fun (Y7 : Yc) => Qy Y7))) ∧ (x1 = (6 : Int32) → by_X3_writeRest_168 n o0  Qy p1 Y) ∧ (x1 = (7 : Int32) → by_X3_writeRest_168 n o0  Qy p1 Y) ∧ (x1 = (8 : Int32) → by_X3_writeRest_52 n o0  Qy  Y) ∧ (x1 = (9 : Int32) → (∀ y13 : Int64, y13 = yJ Y 305 o0 → (wy_X0_addView n p1 y13 Y (fun (Y17 : Yc) => (∀ x25 : Int32, x25 = yI Y17 202 (56 + o0) → (wy_X0_addNumber n p1 x25 Y17 (fun (Y28 : Yc) => (wy_X2_write n (56 + o0) p1 Y28 (fun (Y37 : Yc) => Qy Y37))))))))) ∧ (x1 = (10 : Int32) → (∀ x45 : Int32, x45 = yI Y 202 (56 + o0) → (wy_X0_addNumber n p1 x45 Y (fun (Y49 : Yc) => (wy_X2_write n (56 + o0) p1 Y49 (fun (Y58 : Yc) => Qy Y58)))))) ∧ (x1 = (11 : Int32) → (∀ x64 : Int32, x64 = yI Y 306 o0 → (wy_X0_addNumber n p1 x64 Y (fun (Y68 : Yc) => (∀ x74 : Int32, x74 = yI Y68 308 o0 → (wy_X0_addNumber n p1 x74 Y68 (fun (Y77 : Yc) => (∀ x83 : Int32, x83 = yI Y77 309 o0 → ((x83 = 0 → by_X3_writeRest_147 n o0  Qy p1 (0 : Int32) p1 Y77) ∧ (¬ x83 = 0 → by_X3_writeRest_147 n o0  Qy p1 (1 : Int32) p1 Y77)))))))))) ∧ (x1 = (12 : Int32) → by_X3_writeRest_52 n o0  Qy  Y)))
set_option maxHeartbeats 4000000 in
set_option maxRecDepth 100000 in
theorem y_X3_writeRest {n : Nat} {ad aa : Nat → Nat → Nat} {o0 : Nat} {p1 : Nat} {σ : Sto} {Y : Yc} {Q : Sto → Prop} {Qy : Yc → Prop} (hR : HY n ad aa σ Y) (ho0 : Ob n 3 o0) (hp1 : Ob n 0 p1) (h : wy_X3_writeRest n o0 p1 Y Qy) (hQ : ∀ (σ' : Sto) (Y' : Yc), Qy Y' → HY n ad aa σ' Y' → Fy n ad aa σ σ' → Q σ') : wp_X3_writeRest (ad 3 o0) (some (ad 0 p1)) σ Q := by
  have F : Fy n ad aa σ σ := Fy.rf
  unfold wy_X3_writeRest at h
  unfold wp_X3_writeRest
  refine ⟨hR.K ho0, ?_⟩
  intro x1 e2
  have e2 : x1 = yI Y 301 o0 := e2.trans (hR.I (x := 301) ho0 1 (by decide) rfl)
  have h := h x1 e2
  refine ⟨fun c3 => ?_, fun c3 => ?_, fun c3 => ?_, fun c3 => ?_, fun c3 => ?_, fun c3 => ?_, fun c3 => ?_, fun c3 => ?_, fun c3 => ?_⟩
  · have h := h.1 c3
    exact yb_X3_writeRest_168 ho0 hQ  p1 _ _ hR F hp1 h
  · have h := h.2.1 c3
    have a4 : sP σ (ad 3 o0) 11 = some (ad 2 (56 + o0)) := hR.lk ho0 11 (by decide) rfl
    refine ⟨_, a4, ?_⟩
    refine ⟨hR.K (ob_311 ho0), ?_⟩
    refine y_X2_write hR (ob_311 ho0) hp1 h (fun σ6 Y7 h hR9 f8 => ?_)
    have F := F.trans f8
    have hR := hR9
    exact hQ _ _ h hR F
  · have h := h.2.2.1 c3
    exact yb_X3_writeRest_168 ho0 hQ  p1 _ _ hR F hp1 h
  · have h := h.2.2.2.1 c3
    exact yb_X3_writeRest_168 ho0 hQ  p1 _ _ hR F hp1 h
  · have h := h.2.2.2.2.1 c3
    exact yb_X3_writeRest_52 ho0 hQ   _ _ hR F  h
  · have h := h.2.2.2.2.2.1 c3
    intro y13 e14
    have e14 : y13 = yJ Y 305 o0 := e14.trans (hR.J (x := 305) ho0 5 (by decide) rfl)
    have h := h y13 e14
    refine ⟨_, rfl, ?_⟩
    refine ⟨hR.K hp1, ?_⟩
    refine y_X0_addView hR hp1  h (fun σ16 Y17 h hR19 f18 => ?_)
    have F := F.trans f18
    have hR := hR19
    refine ⟨hR.K ho0, ?_⟩
    have a23 : sP σ16 (ad 3 o0) 11 = some (ad 2 (56 + o0)) := hR.lk ho0 11 (by decide) rfl
    refine ⟨_, a23, ?_⟩
    refine ⟨hR.K (ob_311 ho0), ?_⟩
    intro x25 e26
    have e26 : x25 = yI Y17 202 (56 + o0) := e26.trans (hR.I (x := 202) (ob_311 ho0) 2 (by decide) rfl)
    have h := h x25 e26
    refine ⟨hR.K hp1, ?_⟩
    refine y_X0_addNumber hR hp1  h (fun σ27 Y28 h hR30 f29 => ?_)
    have F := F.trans f29
    have hR := hR30
    refine ⟨hR.K ho0, ?_⟩
    have a34 : sP σ27 (ad 3 o0) 11 = some (ad 2 (56 + o0)) := hR.lk ho0 11 (by decide) rfl
    refine ⟨_, a34, ?_⟩
    refine ⟨hR.K (ob_311 ho0), ?_⟩
    refine y_X2_write hR (ob_311 ho0) hp1 h (fun σ36 Y37 h hR39 f38 => ?_)
    have F := F.trans f38
    have hR := hR39
    exact hQ _ _ h hR F
  · have h := h.2.2.2.2.2.2.1 c3
    have a43 : sP σ (ad 3 o0) 11 = some (ad 2 (56 + o0)) := hR.lk ho0 11 (by decide) rfl
    refine ⟨_, a43, ?_⟩
    refine ⟨hR.K (ob_311 ho0), ?_⟩
    intro x45 e46
    have e46 : x45 = yI Y 202 (56 + o0) := e46.trans (hR.I (x := 202) (ob_311 ho0) 2 (by decide) rfl)
    have h := h x45 e46
    refine ⟨_, rfl, ?_⟩
    refine ⟨hR.K hp1, ?_⟩
    refine y_X0_addNumber hR hp1  h (fun σ48 Y49 h hR51 f50 => ?_)
    have F := F.trans f50
    have hR := hR51
    refine ⟨hR.K ho0, ?_⟩
    have a55 : sP σ48 (ad 3 o0) 11 = some (ad 2 (56 + o0)) := hR.lk ho0 11 (by decide) rfl
    refine ⟨_, a55, ?_⟩
    refine ⟨hR.K (ob_311 ho0), ?_⟩
    refine y_X2_write hR (ob_311 ho0) hp1 h (fun σ57 Y58 h hR60 f59 => ?_)
    have F := F.trans f59
    have hR := hR60
    exact hQ _ _ h hR F
  · have h := h.2.2.2.2.2.2.2.1 c3
    intro x64 e65
    have e65 : x64 = yI Y 306 o0 := e65.trans (hR.I (x := 306) ho0 6 (by decide) rfl)
    have h := h x64 e65
    refine ⟨_, rfl, ?_⟩
    refine ⟨hR.K hp1, ?_⟩
    refine y_X0_addNumber hR hp1  h (fun σ67 Y68 h hR70 f69 => ?_)
    have F := F.trans f69
    have hR := hR70
    refine ⟨hR.K ho0, ?_⟩
    intro x74 e75
    have e75 : x74 = yI Y68 308 o0 := e75.trans (hR.I (x := 308) ho0 8 (by decide) rfl)
    have h := h x74 e75
    refine ⟨hR.K hp1, ?_⟩
    refine y_X0_addNumber hR hp1  h (fun σ76 Y77 h hR79 f78 => ?_)
    have F := F.trans f78
    have hR := hR79
    refine ⟨hR.K ho0, ?_⟩
    intro x83 e84
    have e84 : x83 = yI Y77 309 o0 := e84.trans (hR.I (x := 309) ho0 9 (by decide) rfl)
    have h := h x83 e84
    refine ⟨fun c85 => ?_, fun c85 => ?_⟩
    · have h := h.1 c85
      exact yb_X3_writeRest_147 ho0 hQ  p1 (0 : Int32) p1 _ _ hR F hp1 hp1 h
    · have h := h.2 c85
      exact yb_X3_writeRest_147 ho0 hQ  p1 (1 : Int32) p1 _ _ hR F hp1 hp1 h
  · have h := h.2.2.2.2.2.2.2.2 c3
    exact yb_X3_writeRest_52 ho0 hQ   _ _ hR F  h
def by_X3_write_91 (n : Nat) (o0 : Nat)  (Qy : Yc → Prop) (p1 : Nat) (Y : Yc) : Prop := (wy_X3_writeRest n o0 p1 Y (fun (Y2 : Yc) => (∀ x9 : Int32, x9 = yI Y2 1 p1 → (wy_X0_sumOf n p1 (0 : Int32) x9 Y2 (fun (x15 : Int32) (Y12 : Yc) => (wy_X0_addWord n p1 x15 Y12 (fun (Y19 : Yc) => Qy Y19)))))))
set_option maxHeartbeats 4000000 in
set_option maxRecDepth 100000 in
theorem yb_X3_write_91 {n : Nat} {ad aa : Nat → Nat → Nat} {σ0 : Sto} {o0 : Nat} (ho0 : Ob n 3 o0) {Q : Sto → Prop} {Qy : Yc → Prop} (hQ : ∀ (σ' : Sto) (Y' : Yc), Qy Y' → HY n ad aa σ' Y' → Fy n ad aa σ0 σ' → Q σ')  (p1 : Nat) (σ : Sto) (Y : Yc) (hR : HY n ad aa σ Y) (F : Fy n ad aa σ0 σ) (hp1 : Ob n 0 p1) (h : by_X3_write_91 n o0  Qy p1 Y) : b_X3_write_91 (ad 3 o0)  Q (some (ad 0 p1)) σ := by
  unfold by_X3_write_91 at h
  unfold b_X3_write_91
  refine ⟨hR.K ho0, ?_⟩
  refine y_X3_writeRest hR ho0 hp1 h (fun σ1 Y2 h hR4 f3 => ?_)
  have F := F.trans f3
  have hR := hR4
  refine ⟨_, rfl, ?_⟩
  refine ⟨hR.K hp1, ?_⟩
  intro x9 e10
  have e10 : x9 = yI Y2 1 p1 := e10.trans (hR.I (x := 1) hp1 1 (by decide) rfl)
  have h := h x9 e10
  refine y_X0_sumOf hR hp1  h (fun x15 σ11 Y12 h hR14 f13 => ?_)
  have F := F.trans f13
  have hR := hR14
  refine ⟨hR.K hp1, ?_⟩
  refine y_X0_addWord hR hp1  h (fun σ18 Y19 h hR21 f20 => ?_)
  have F := F.trans f20
  have hR := hR21
  exact hQ _ _ h hR F
def by_X3_write_59 (n : Nat) (o0 : Nat)  (Qy : Yc → Prop) (p1 : Nat) (s0 : Int32) (s1 : Nat) (Y : Yc) : Prop := (wy_X0_add n s1 s0 Y (fun (Y3 : Yc) => (∀ x9 : Int32, x9 = yI Y3 301 o0 → ((¬ x9 = 0 → (∀ y12 : Int64, y12 = yJ Y3 304 o0 → (wy_X0_addView n p1 y12 Y3 (fun (Y16 : Yc) => by_X3_write_91 n o0  Qy p1 Y16)))) ∧ (x9 = 0 → (∀ y22 : Int64, y22 = yJ Y3 304 o0 → (wy_X11_sessionOf n y22 Y3 (fun (x28 : Int32) (Y25 : Yc) => (wy_X0_addNumber n p1 x28 Y25 (fun (Y33 : Yc) => by_X3_write_91 n o0  Qy p1 Y33))))))))))
set_option maxHeartbeats 4000000 in
set_option maxRecDepth 100000 in
theorem yb_X3_write_59 {n : Nat} {ad aa : Nat → Nat → Nat} {σ0 : Sto} {o0 : Nat} (ho0 : Ob n 3 o0) {Q : Sto → Prop} {Qy : Yc → Prop} (hQ : ∀ (σ' : Sto) (Y' : Yc), Qy Y' → HY n ad aa σ' Y' → Fy n ad aa σ0 σ' → Q σ')  (p1 : Nat) (s0 : Int32) (s1 : Nat) (σ : Sto) (Y : Yc) (hR : HY n ad aa σ Y) (F : Fy n ad aa σ0 σ) (hp1 : Ob n 0 p1) (hs1 : Ob n 0 s1) (h : by_X3_write_59 n o0  Qy p1 s0 s1 Y) : b_X3_write_59 (ad 3 o0)  Q (some (ad 0 p1)) s0 (some (ad 0 s1)) σ := by
  unfold by_X3_write_59 at h
  unfold b_X3_write_59
  refine ⟨_, rfl, ?_⟩
  refine ⟨hR.K hs1, ?_⟩
  refine y_X0_add hR hs1  h (fun σ2 Y3 h hR5 f4 => ?_)
  have F := F.trans f4
  have hR := hR5
  refine ⟨hR.K ho0, ?_⟩
  intro x9 e10
  have e10 : x9 = yI Y3 301 o0 := e10.trans (hR.I (x := 301) ho0 1 (by decide) rfl)
  have h := h x9 e10
  refine ⟨fun c11 => ?_, fun c11 => ?_⟩
  · have h := h.1 c11
    intro y12 e13
    have e13 : y12 = yJ Y3 304 o0 := e13.trans (hR.J (x := 304) ho0 4 (by decide) rfl)
    have h := h y12 e13
    refine ⟨_, rfl, ?_⟩
    refine ⟨hR.K hp1, ?_⟩
    refine y_X0_addView hR hp1  h (fun σ15 Y16 h hR18 f17 => ?_)
    have F := F.trans f17
    have hR := hR18
    exact yb_X3_write_91 ho0 hQ  p1 _ _ hR F hp1 h
  · have h := h.2 c11
    intro y22 e23
    have e23 : y22 = yJ Y3 304 o0 := e23.trans (hR.J (x := 304) ho0 4 (by decide) rfl)
    have h := h y22 e23
    refine y_X11_sessionOf hR  h (fun x28 σ24 Y25 h hR27 f26 => ?_)
    have F := F.trans f26
    have hR := hR27
    refine ⟨_, rfl, ?_⟩
    refine ⟨hR.K hp1, ?_⟩
    refine y_X0_addNumber hR hp1  h (fun σ32 Y33 h hR35 f34 => ?_)
    have F := F.trans f34
    have hR := hR35
    exact yb_X3_write_91 ho0 hQ  p1 _ _ hR F hp1 h
def by_X3_write_32 (n : Nat) (o0 : Nat)  (Qy : Yc → Prop) (p1 : Nat) (s0 : Int32) (s1 : Nat) (Y : Yc) : Prop := (wy_X0_add n s1 s0 Y (fun (Y3 : Yc) => (∀ x9 : Int32, x9 = yI Y3 301 o0 → ((¬ x9 = (11 : Int32) → (∀ x12 : Int32, x12 = yI Y3 303 o0 → by_X3_write_59 n o0  Qy p1 x12 p1 Y3)) ∧ (x9 = (11 : Int32) → (∀ x14 : Int32, x14 = yI Y3 303 o0 → by_X3_write_59 n o0  Qy p1 ((16 : Int32) + x14) p1 Y3))))))
set_option maxHeartbeats 4000000 in
set_option maxRecDepth 100000 in
theorem yb_X3_write_32 {n : Nat} {ad aa : Nat → Nat → Nat} {σ0 : Sto} {o0 : Nat} (ho0 : Ob n 3 o0) {Q : Sto → Prop} {Qy : Yc → Prop} (hQ : ∀ (σ' : Sto) (Y' : Yc), Qy Y' → HY n ad aa σ' Y' → Fy n ad aa σ0 σ' → Q σ')  (p1 : Nat) (s0 : Int32) (s1 : Nat) (σ : Sto) (Y : Yc) (hR : HY n ad aa σ Y) (F : Fy n ad aa σ0 σ) (hp1 : Ob n 0 p1) (hs1 : Ob n 0 s1) (h : by_X3_write_32 n o0  Qy p1 s0 s1 Y) : b_X3_write_32 (ad 3 o0)  Q (some (ad 0 p1)) s0 (some (ad 0 s1)) σ := by
  unfold by_X3_write_32 at h
  unfold b_X3_write_32
  refine ⟨_, rfl, ?_⟩
  refine ⟨hR.K hs1, ?_⟩
  refine y_X0_add hR hs1  h (fun σ2 Y3 h hR5 f4 => ?_)
  have F := F.trans f4
  have hR := hR5
  refine ⟨hR.K ho0, ?_⟩
  intro x9 e10
  have e10 : x9 = yI Y3 301 o0 := e10.trans (hR.I (x := 301) ho0 1 (by decide) rfl)
  have h := h x9 e10
  refine ⟨fun c11 => ?_, fun c11 => ?_⟩
  · have h := h.1 c11
    intro x12 e13
    have e13 : x12 = yI Y3 303 o0 := e13.trans (hR.I (x := 303) ho0 3 (by decide) rfl)
    have h := h x12 e13
    exact yb_X3_write_59 ho0 hQ  p1 x12 p1 _ _ hR F hp1 hp1 h
  · have h := h.2 c11
    intro x14 e15
    have e15 : x14 = yI Y3 303 o0 := e15.trans (hR.I (x := 303) ho0 3 (by decide) rfl)
    have h := h x14 e15
    exact yb_X3_write_59 ho0 hQ  p1 ((16 : Int32) + x14) p1 _ _ hR F hp1 hp1 h
def wy_X3_write (n : Nat) (o0 : Nat) (p1 : Nat) (Y : Yc) (Qy : Yc → Prop) : Prop := (∀ x3 : Int32, x3 = yI (uI Y 1 p1 (0 : Int32)) 301 o0 → (wy_X0_add n p1 x3 (uI Y 1 p1 (0 : Int32)) (fun (Y6 : Yc) => (∀ x12 : Int32, x12 = yI Y6 302 o0 → ((¬ x12 = (-1 : Int32) → (∀ x15 : Int32, x15 = yI Y6 302 o0 → by_X3_write_32 n o0  Qy p1 x15 p1 Y6)) ∧ (x12 = (-1 : Int32) → by_X3_write_32 n o0  Qy p1 (255 : Int32) p1 Y6))))))
set_option maxHeartbeats 4000000 in
set_option maxRecDepth 100000 in
theorem y_X3_write {n : Nat} {ad aa : Nat → Nat → Nat} {o0 : Nat} {p1 : Nat} {σ : Sto} {Y : Yc} {Q : Sto → Prop} {Qy : Yc → Prop} (hR : HY n ad aa σ Y) (ho0 : Ob n 3 o0) (hp1 : Ob n 0 p1) (h : wy_X3_write n o0 p1 Y Qy) (hQ : ∀ (σ' : Sto) (Y' : Yc), Qy Y' → HY n ad aa σ' Y' → Fy n ad aa σ σ' → Q σ') : wp_X3_write (ad 3 o0) (some (ad 0 p1)) σ Q := by
  have F : Fy n ad aa σ σ := Fy.rf
  unfold wy_X3_write at h
  unfold wp_X3_write
  refine ⟨_, rfl, ?_⟩
  refine ⟨hR.K hp1, ?_⟩
  have w2 := hR.wI (x := 1) hp1 1 (by decide) rfl (0 : Int32)
  have F := F.trans w2.2
  have hR := w2.1
  refine ⟨hR.K ho0, ?_⟩
  intro x3 e4
  have e4 : x3 = yI (uI Y 1 p1 (0 : Int32)) 301 o0 := e4.trans (hR.I (x := 301) ho0 1 (by decide) rfl)
  have h := h x3 e4
  refine y_X0_add hR hp1  h (fun σ5 Y6 h hR8 f7 => ?_)
  have F := F.trans f7
  have hR := hR8
  refine ⟨hR.K ho0, ?_⟩
  intro x12 e13
  have e13 : x12 = yI Y6 302 o0 := e13.trans (hR.I (x := 302) ho0 2 (by decide) rfl)
  have h := h x12 e13
  refine ⟨fun c14 => ?_, fun c14 => ?_⟩
  · have h := h.1 c14
    intro x15 e16
    have e16 : x15 = yI Y6 302 o0 := e16.trans (hR.I (x := 302) ho0 2 (by decide) rfl)
    have h := h x15 e16
    exact yb_X3_write_32 ho0 hQ  p1 x15 p1 _ _ hR F hp1 hp1 h
  · have h := h.2 c14
    exact yb_X3_write_32 ho0 hQ  p1 (255 : Int32) p1 _ _ hR F hp1 hp1 h
def wy_X4_at (n : Nat) (p1 : Int32) (Y : Yc) (Qy : Nat → Yc → Prop) : Prop := (∀ x2 : Int32, x2 = yI Y 404 0 → (∀ x4 : Int32, x4 = (x2 + p1) &&& (255 : Int32) → (vp_in x4 256 ∧ (∀ o9 : Nat, o9 = yR Y x4.toNatClampNeg → Qy o9 Y))))
set_option maxHeartbeats 4000000 in
set_option maxRecDepth 100000 in
theorem y_X4_at {n : Nat} {ad aa : Nat → Nat → Nat} {p1 : Int32} {σ : Sto} {Y : Yc} {Q : Option Nat → Sto → Prop} {Qy : Nat → Yc → Prop} (hR : HY n ad aa σ Y) (h : wy_X4_at n p1 Y Qy) (hQ : ∀ (o : Nat) (σ' : Sto) (Y' : Yc), Qy o Y' → Ob n 3 o → HY n ad aa σ' Y' → Fy n ad aa σ σ' → Q (some (ad 3 o)) σ') : wp_X4_at (ad 4 0) p1 σ Q := by
  have F : Fy n ad aa σ σ := Fy.rf
  unfold wy_X4_at at h
  unfold wp_X4_at
  refine ⟨hR.K ob_4, ?_⟩
  have a1 : sP σ (ad 4 0) 2 = some (aa 402 0) := hR.ar (x := 402) ob_4 2 (by decide) rfl (by decide)
  intro x2 e3
  have e3 : x2 = yI Y 404 0 := e3.trans (hR.I (x := 404) ob_4 4 (by decide) rfl)
  have h := h x2 e3
  intro x4 e5
  have h := h x4 e5
  refine ⟨_, a1, ?_⟩
  refine ⟨hR.arK (x := 402) ob_4 2 (by decide) rfl (by decide), ?_⟩
  have hz := h.1
  refine ⟨by first | exact hR.arV (x := 402) ob_4 2 (by decide) rfl (by decide) hz | exact hz, ?_⟩
  have h := h.2
  obtain ⟨o9, e10⟩ : ∃ z, z = yR Y x4.toNatClampNeg := ⟨_, rfl⟩
  have h := h o9 e10
  have hO11 : Ob n 3 o9 := by rw [e10]; exact hR.rgO (vp_lt hz)
  intro r7 e8
  have e8 : r7 = some (ad 3 o9) := by rw [e10]; exact e8.trans (hR.rg (vp_lt hz))
  subst e8
  exact hQ _ _ _ h hO11 hR F
def wy_J9_floorMod_7cf53 (n : Nat) (p0 : Int32) (p1 : Int32) (Y : Yc) (Qy : Int32 → Yc → Prop) : Prop := (¬ p1 = 0 ∧ (∀ x1 : Int32, x1 = p0 - p0 / p1 * p1 → ((0 ≤ (p0 ^^^ p1) → Qy x1 Y) ∧ (¬ 0 ≤ (p0 ^^^ p1) → ((x1 = 0 → Qy x1 Y) ∧ (¬ x1 = 0 → Qy (x1 + p1) Y))))))
set_option maxHeartbeats 4000000 in
set_option maxRecDepth 100000 in
theorem y_J9_floorMod_7cf53 {n : Nat} {ad aa : Nat → Nat → Nat} {p0 : Int32} {p1 : Int32} {σ : Sto} {Y : Yc} {Q : Int32 → Sto → Prop} {Qy : Int32 → Yc → Prop} (hR : HY n ad aa σ Y) (h : wy_J9_floorMod_7cf53 n p0 p1 Y Qy) (hQ : ∀ (r : Int32) (σ' : Sto) (Y' : Yc), Qy r Y' → HY n ad aa σ' Y' → Fy n ad aa σ σ' → Q r σ') : wp_J9_floorMod_7cf53 p0 p1 σ Q := by
  have F : Fy n ad aa σ σ := Fy.rf
  unfold wy_J9_floorMod_7cf53 at h
  unfold wp_J9_floorMod_7cf53
  refine ⟨h.1, ?_⟩
  have h := h.2
  intro x1 e2
  have h := h x1 e2
  refine ⟨fun c3 => ?_, fun c3 => ?_⟩
  · have h := h.1 c3
    exact hQ _ _ _ h hR F
  · have h := h.2 c3
    refine ⟨fun c4 => ?_, fun c4 => ?_⟩
    · have h := h.1 c4
      exact hQ _ _ _ h hR F
    · have h := h.2 c4
      exact hQ _ _ _ h hR F
def wy_X4_leaderOf (n : Nat) (p1 : Int64) (Y : Yc) (Qy : Int32 → Yc → Prop) : Prop := (∀ x1 : Int32, x1 = yI Y 400 0 → (((1 : Int32) ≤ x1 → (wy_X11_leadOf n p1 Y (fun (x8 : Int32) (Y5 : Yc) => (∀ x11 : Int32, x11 = yI Y5 400 0 → (wy_J9_floorMod_7cf53 n x8 x11 Y5 (fun (x17 : Int32) (Y14 : Yc) => Qy x17 Y14)))))) ∧ (¬ (1 : Int32) ≤ x1 → Qy (0 : Int32) Y)))
set_option maxHeartbeats 4000000 in
set_option maxRecDepth 100000 in
theorem y_X4_leaderOf {n : Nat} {ad aa : Nat → Nat → Nat} {p1 : Int64} {σ : Sto} {Y : Yc} {Q : Int32 → Sto → Prop} {Qy : Int32 → Yc → Prop} (hR : HY n ad aa σ Y) (h : wy_X4_leaderOf n p1 Y Qy) (hQ : ∀ (r : Int32) (σ' : Sto) (Y' : Yc), Qy r Y' → HY n ad aa σ' Y' → Fy n ad aa σ σ' → Q r σ') : wp_X4_leaderOf (ad 4 0) p1 σ Q := by
  have F : Fy n ad aa σ σ := Fy.rf
  unfold wy_X4_leaderOf at h
  unfold wp_X4_leaderOf
  refine ⟨hR.K ob_4, ?_⟩
  intro x1 e2
  have e2 : x1 = yI Y 400 0 := e2.trans (hR.I (x := 400) ob_4 0 (by decide) rfl)
  have h := h x1 e2
  refine ⟨fun c3 => ?_, fun c3 => ?_⟩
  · have h := h.1 c3
    refine y_X11_leadOf hR  h (fun x8 σ4 Y5 h hR7 f6 => ?_)
    have F := F.trans f6
    have hR := hR7
    refine ⟨hR.K ob_4, ?_⟩
    intro x11 e12
    have e12 : x11 = yI Y5 400 0 := e12.trans (hR.I (x := 400) ob_4 0 (by decide) rfl)
    have h := h x11 e12
    refine y_J9_floorMod_7cf53 hR  h (fun x17 σ13 Y14 h hR16 f15 => ?_)
    have F := F.trans f15
    have hR := hR16
    exact hQ _ _ _ h hR F
  · have h := h.2 c3
    exact hQ _ _ _ h hR F
def fy_X4_find_2 (n : Nat)  (Qy : Int32 → Yc → Prop) (Ly2 : Int32 × Int32 → Yc → Prop) (t : Int32 × Int32) (Y : Yc) : Prop := (∀ x1 : Int32, x1 = yI Y 405 0 → ((x1 ≤ t.2 → Qy (-1 : Int32) Y) ∧ (¬ x1 ≤ t.2 → (wy_X4_at n t.2 Y (fun (o8 : Nat) (Y5 : Yc) => (∀ x12 : Int32, x12 = yI Y5 300 o8 → ((¬ x12 = t.1 → (∀ x15 : Int32, x15 = t.2 + (1 : Int32) → Ly2 (t.1, x15) Y5)) ∧ (x12 = t.1 → Qy t.2 Y5))))))))
set_option maxHeartbeats 4000000 in
set_option maxRecDepth 100000 in
theorem yf_X4_find_2 {n : Nat} {ad aa : Nat → Nat → Nat} {σ0 : Sto} {Q : Int32 → Sto → Prop} {Qy : Int32 → Yc → Prop} {Ly2 : Int32 × Int32 → Yc → Prop} {L2 : Int32 × Int32 → Sto → Prop} (hQ : ∀ (r : Int32) (σ' : Sto) (Y' : Yc), Qy r Y' → HY n ad aa σ' Y' → Fy n ad aa σ0 σ' → Q r σ') (hL2 : ∀ (t9 : Int32 × Int32) (t : Int32 × Int32) (σ : Sto) (Y : Yc), Ly2 t Y → HY n ad aa σ Y → Fy n ad aa σ0 σ → ((t.1, t.2) = t9 ∧ True) → L2 t9 σ) : ∀ (t9 : Int32 × Int32) (t : Int32 × Int32) (σ : Sto) (Y : Yc), HY n ad aa σ Y → Fy n ad aa σ0 σ → ((t.1, t.2) = t9 ∧ True) → fy_X4_find_2 n  Qy Ly2 t Y → f_X4_find_2 (ad 4 0)  Q L2 t9 σ := by
  intro t9 t σ Y hR F hT h
  obtain ⟨rfl, _⟩ := hT
  unfold fy_X4_find_2 at h
  unfold f_X4_find_2
  dsimp only
  refine ⟨hR.K ob_4, ?_⟩
  intro x1 e2
  have e2 : x1 = yI Y 405 0 := e2.trans (hR.I (x := 405) ob_4 5 (by decide) rfl)
  have h := h x1 e2
  refine ⟨fun c3 => ?_, fun c3 => ?_⟩
  · have h := h.1 c3
    exact hQ _ _ _ h hR F
  · have h := h.2 c3
    refine y_X4_at hR  h (fun o8 σ4 Y5 h hO9 hR7 f6 => ?_)
    have F := F.trans f6
    have hR := hR7
    refine ⟨_, rfl, ?_⟩
    refine ⟨hR.K hO9, ?_⟩
    intro x12 e13
    have e13 : x12 = yI Y5 300 o8 := e13.trans (hR.I (x := 300) hO9 0 (by decide) rfl)
    have h := h x12 e13
    refine ⟨fun c14 => ?_, fun c14 => ?_⟩
    · have h := h.1 c14
      intro x15 e16
      have h := h x15 e16
      exact hL2 _ _ _ _ h hR F ⟨rfl, trivial⟩
    · have h := h.2 c14
      exact hQ _ _ _ h hR F
def wy_X4_find (n : Nat) (p1 : Int32) (Y : Yc) (Qy : Int32 → Yc → Prop) : Prop := LFy (fy_X4_find_2 n  Qy) (p1, (0 : Int32)) Y
set_option maxHeartbeats 4000000 in
set_option maxRecDepth 100000 in
theorem y_X4_find {n : Nat} {ad aa : Nat → Nat → Nat} {p1 : Int32} {σ : Sto} {Y : Yc} {Q : Int32 → Sto → Prop} {Qy : Int32 → Yc → Prop} (hR : HY n ad aa σ Y) (h : wy_X4_find n p1 Y Qy) (hQ : ∀ (r : Int32) (σ' : Sto) (Y' : Yc), Qy r Y' → HY n ad aa σ' Y' → Fy n ad aa σ σ' → Q r σ') : wp_X4_find (ad 4 0) p1 σ Q := by
  have F : Fy n ad aa σ σ := Fy.rf
  unfold wy_X4_find at h
  unfold wp_X4_find
  exact lfy (fun σ t9 t => (t.1, t.2) = t9 ∧ True) h hR F ⟨rfl, trivial⟩ (fun Ly L hL t9 t σ Y hR F hT h => yf_X4_find_2 hQ  hL t9 t σ Y hR F hT h)
def by_X4_send_59 (n : Nat)  (Qy : Nat → Yc → Prop) (p1 : Int32) (p2 : Int32) (p3 : Int32) (p4 : Int64) (p6 : Int32) (p7 : Nat) (Y : Yc) : Prop := (∀ x1 : Int32, x1 = yI Y 406 0 → (∀ x12 : Int32, x12 = yI (uI (uP (uI (uJ (uI (uI (uI (uI Y 300 p7 x1) 301 p7 p1) 302 p7 p2) 303 p7 p3) 304 p7 p4) 306 p7 p6) 307 p7 none) 309 p7 (0 : Int32)) 406 0 → (∀ x14 : Int32, x14 = x12 + (1 : Int32) → Qy p7 (uI (uI (uP (uI (uJ (uI (uI (uI (uI Y 300 p7 x1) 301 p7 p1) 302 p7 p2) 303 p7 p3) 304 p7 p4) 306 p7 p6) 307 p7 none) 309 p7 (0 : Int32)) 406 0 x14))))
set_option maxHeartbeats 4000000 in
set_option maxRecDepth 100000 in
theorem yb_X4_send_59 {n : Nat} {ad aa : Nat → Nat → Nat} {σ0 : Sto} {Q : Option Nat → Sto → Prop} {Qy : Nat → Yc → Prop} (hQ : ∀ (o : Nat) (σ' : Sto) (Y' : Yc), Qy o Y' → Ob n 3 o → HY n ad aa σ' Y' → Fy n ad aa σ0 σ' → Q (some (ad 3 o)) σ')  (p1 : Int32) (p2 : Int32) (p3 : Int32) (p4 : Int64) (p6 : Int32) (p7 : Nat) (σ : Sto) (Y : Yc) (hR : HY n ad aa σ Y) (F : Fy n ad aa σ0 σ) (hp7 : Ob n 3 p7) (h : by_X4_send_59 n  Qy p1 p2 p3 p4 p6 p7 Y) : b_X4_send_59 (ad 4 0)  Q p1 p2 p3 p4 p6 (some (ad 3 p7)) σ := by
  unfold by_X4_send_59 at h
  unfold b_X4_send_59
  refine ⟨hR.K ob_4, ?_⟩
  intro x1 e2
  have e2 : x1 = yI Y 406 0 := e2.trans (hR.I (x := 406) ob_4 6 (by decide) rfl)
  have h := h x1 e2
  refine ⟨_, rfl, ?_⟩
  refine ⟨hR.K hp7, ?_⟩
  have w4 := hR.wI (x := 300) hp7 0 (by decide) rfl x1
  have F := F.trans w4.2
  have hR := w4.1
  have w5 := hR.wI (x := 301) hp7 1 (by decide) rfl p1
  have F := F.trans w5.2
  have hR := w5.1
  have w6 := hR.wI (x := 302) hp7 2 (by decide) rfl p2
  have F := F.trans w6.2
  have hR := w6.1
  have w7 := hR.wI (x := 303) hp7 3 (by decide) rfl p3
  have F := F.trans w7.2
  have hR := w7.1
  have w8 := hR.wJ (x := 304) hp7 4 (by decide) rfl p4
  have F := F.trans w8.2
  have hR := w8.1
  have w9 := hR.wI (x := 306) hp7 6 (by decide) rfl p6
  have F := F.trans w9.2
  have hR := w9.1
  have w10 := hR.wP (x := 307) hp7 7 (by decide) rfl (by decide) rq_nn
  have F := F.trans w10.2
  have hR := w10.1
  have w11 := hR.wI (x := 309) hp7 9 (by decide) rfl (0 : Int32)
  have F := F.trans w11.2
  have hR := w11.1
  intro x12 e13
  have e13 : x12 = yI (uI (uP (uI (uJ (uI (uI (uI (uI Y 300 p7 x1) 301 p7 p1) 302 p7 p2) 303 p7 p3) 304 p7 p4) 306 p7 p6) 307 p7 none) 309 p7 (0 : Int32)) 406 0 := e13.trans (hR.I (x := 406) ob_4 6 (by decide) rfl)
  have h := h x12 e13
  intro x14 e15
  have h := h x14 e15
  have w16 := hR.wI (x := 406) ob_4 6 (by decide) rfl x14
  have F := F.trans w16.2
  have hR := w16.1
  exact hQ _ _ _ h hp7 hR F
def wy_X4_send (n : Nat) (p1 : Int32) (p2 : Int32) (p3 : Int32) (p4 : Int64) (p6 : Int32) (Y : Yc) (Qy : Nat → Yc → Prop) : Prop := (∀ x4 : Int32, x4 = yI Y 405 0 → (((200 : Int32) ≤ x4 → (∀ x7 : Int32, x7 = yI Y 407 0 → (∀ x9 : Int32, x9 = x7 + (1 : Int32) → by_X4_send_59 n  Qy p1 p2 p3 p4 p6 256 (uI Y 407 0 x9)))) ∧ (¬ (200 : Int32) ≤ x4 → (∀ x13 : Int32, x13 = yI Y 404 0 → (∀ x15 : Int32, x15 = yI Y 405 0 → (∀ x17 : Int32, x17 = (x13 + x15) &&& (255 : Int32) → (vp_in x17 256 ∧ (∀ o22 : Nat, o22 = yR Y x17.toNatClampNeg → (∀ x25 : Int32, x25 = yI Y 405 0 → (∀ x27 : Int32, x27 = x25 + (1 : Int32) → by_X4_send_59 n  Qy p1 p2 p3 p4 p6 o22 (uI Y 405 0 x27)))))))))))
set_option maxHeartbeats 4000000 in
set_option maxRecDepth 100000 in
theorem y_X4_send {n : Nat} {ad aa : Nat → Nat → Nat} {p1 : Int32} {p2 : Int32} {p3 : Int32} {p4 : Int64} {p6 : Int32} {σ : Sto} {Y : Yc} {Q : Option Nat → Sto → Prop} {Qy : Nat → Yc → Prop} (hR : HY n ad aa σ Y) (h : wy_X4_send n p1 p2 p3 p4 p6 Y Qy) (hQ : ∀ (o : Nat) (σ' : Sto) (Y' : Yc), Qy o Y' → Ob n 3 o → HY n ad aa σ' Y' → Fy n ad aa σ σ' → Q (some (ad 3 o)) σ') : wp_X4_send (ad 4 0) p1 p2 p3 p4 p6 σ Q := by
  have F : Fy n ad aa σ σ := Fy.rf
  unfold wy_X4_send at h
  unfold wp_X4_send
  refine ⟨hR.K ob_4, ?_⟩
  have a1 : sP σ (ad 4 0) 3 = some (ad 3 256) := hR.lk ob_4 3 (by decide) rfl
  intro r2 e3
  have e3 := e3.trans (a1)
  subst e3
  intro x4 e5
  have e5 : x4 = yI Y 405 0 := e5.trans (hR.I (x := 405) ob_4 5 (by decide) rfl)
  have h := h x4 e5
  refine ⟨fun c6 => ?_, fun c6 => ?_⟩
  · have h := h.1 c6
    intro x7 e8
    have e8 : x7 = yI Y 407 0 := e8.trans (hR.I (x := 407) ob_4 7 (by decide) rfl)
    have h := h x7 e8
    intro x9 e10
    have h := h x9 e10
    have w11 := hR.wI (x := 407) ob_4 7 (by decide) rfl x9
    have F := F.trans w11.2
    have hR := w11.1
    exact yb_X4_send_59 hQ  p1 p2 p3 p4 p6 256 _ _ hR F ob_m256 h
  · have h := h.2 c6
    have a12 : sP σ (ad 4 0) 2 = some (aa 402 0) := hR.ar (x := 402) ob_4 2 (by decide) rfl (by decide)
    intro x13 e14
    have e14 : x13 = yI Y 404 0 := e14.trans (hR.I (x := 404) ob_4 4 (by decide) rfl)
    have h := h x13 e14
    intro x15 e16
    have e16 : x15 = yI Y 405 0 := e16.trans (hR.I (x := 405) ob_4 5 (by decide) rfl)
    have h := h x15 e16
    intro x17 e18
    have h := h x17 e18
    refine ⟨_, a12, ?_⟩
    refine ⟨hR.arK (x := 402) ob_4 2 (by decide) rfl (by decide), ?_⟩
    have hz := h.1
    refine ⟨by first | exact hR.arV (x := 402) ob_4 2 (by decide) rfl (by decide) hz | exact hz, ?_⟩
    have h := h.2
    obtain ⟨o22, e23⟩ : ∃ z, z = yR Y x17.toNatClampNeg := ⟨_, rfl⟩
    have h := h o22 e23
    have hO24 : Ob n 3 o22 := by rw [e23]; exact hR.rgO (vp_lt hz)
    intro r20 e21
    have e21 : r20 = some (ad 3 o22) := by rw [e23]; exact e21.trans (hR.rg (vp_lt hz))
    subst e21
    intro x25 e26
    have e26 : x25 = yI Y 405 0 := e26.trans (hR.I (x := 405) ob_4 5 (by decide) rfl)
    have h := h x25 e26
    intro x27 e28
    have h := h x27 e28
    have w29 := hR.wI (x := 405) ob_4 5 (by decide) rfl x27
    have F := F.trans w29.2
    have hR := w29.1
    exact yb_X4_send_59 hQ  p1 p2 p3 p4 p6 o22 _ _ hR F hO24 h
def fy_X4_pull_8 (n : Nat)  (Qy : Nat → Yc → Prop) (Ly8 : Nat × Int32 → Yc → Prop) (t : Nat × Int32) (Y : Yc) : Prop := ((t.2 ≤ 0 → (∀ x3 : Int32, x3 = yI Y 404 0 → (vp_in (x3 &&& (255 : Int32)) 256 ∧ (∀ x7 : Int32, x7 = yI (uR Y (x3 &&& (255 : Int32)).toNatClampNeg t.1) 404 0 → (∀ x9 : Int32, x9 = (x7 + (1 : Int32)) &&& (255 : Int32) → (∀ x12 : Int32, x12 = yI (uI (uR Y (x3 &&& (255 : Int32)).toNatClampNeg t.1) 404 0 x9) 405 0 → (∀ x14 : Int32, x14 = x12 - (1 : Int32) → Qy t.1 (uI (uI (uR Y (x3 &&& (255 : Int32)).toNatClampNeg t.1) 404 0 x9) 405 0 x14)))))))) ∧ (¬ t.2 ≤ 0 → (∀ x18 : Int32, x18 = yI Y 404 0 → (∀ x21 : Int32, x21 = yI Y 404 0 → (∀ x23 : Int32, x23 = ((x21 + t.2) - (1 : Int32)) &&& (255 : Int32) → (vp_in x23 256 ∧ (∀ o28 : Nat, o28 = yR Y x23.toNatClampNeg → (vp_in ((x18 + t.2) &&& (255 : Int32)) 256 ∧ (∀ x32 : Int32, x32 = t.2 + (-1 : Int32) → Ly8 (t.1, x32) (uR Y ((x18 + t.2) &&& (255 : Int32)).toNatClampNeg o28))))))))))
set_option maxHeartbeats 4000000 in
set_option maxRecDepth 100000 in
theorem yf_X4_pull_8 {n : Nat} {ad aa : Nat → Nat → Nat} {σ0 : Sto} {Q : Option Nat → Sto → Prop} {Qy : Nat → Yc → Prop} {Ly8 : Nat × Int32 → Yc → Prop} {L8 : Option Nat × Int32 → Sto → Prop} (hQ : ∀ (o : Nat) (σ' : Sto) (Y' : Yc), Qy o Y' → Ob n 3 o → HY n ad aa σ' Y' → Fy n ad aa σ0 σ' → Q (some (ad 3 o)) σ') (hL8 : ∀ (t9 : Option Nat × Int32) (t : Nat × Int32) (σ : Sto) (Y : Yc), Ly8 t Y → HY n ad aa σ Y → Fy n ad aa σ0 σ → (((some (ad 3 t.1)), t.2) = t9 ∧ Ob n 3 t.1 ∧ True) → L8 t9 σ) : ∀ (t9 : Option Nat × Int32) (t : Nat × Int32) (σ : Sto) (Y : Yc), HY n ad aa σ Y → Fy n ad aa σ0 σ → (((some (ad 3 t.1)), t.2) = t9 ∧ Ob n 3 t.1 ∧ True) → fy_X4_pull_8 n  Qy Ly8 t Y → f_X4_pull_8 (ad 4 0)  Q L8 t9 σ := by
  intro t9 t σ Y hR F hT h
  obtain ⟨rfl, hL_2, _⟩ := hT
  unfold fy_X4_pull_8 at h
  unfold f_X4_pull_8
  dsimp only
  refine ⟨fun c1 => ?_, fun c1 => ?_⟩
  · have h := h.1 c1
    refine ⟨hR.K ob_4, ?_⟩
    have a2 : sP σ (ad 4 0) 2 = some (aa 402 0) := hR.ar (x := 402) ob_4 2 (by decide) rfl (by decide)
    intro x3 e4
    have e4 : x3 = yI Y 404 0 := e4.trans (hR.I (x := 404) ob_4 4 (by decide) rfl)
    have h := h x3 e4
    refine ⟨_, a2, ?_⟩
    refine ⟨hR.arK (x := 402) ob_4 2 (by decide) rfl (by decide), ?_⟩
    have hz := h.1
    refine ⟨by first | exact hR.arV (x := 402) ob_4 2 (by decide) rfl (by decide) hz | exact hz, ?_⟩
    have h := h.2
    refine ⟨fun b hb => by cases hb; exact hR.K hL_2, ?_⟩
    have w6 := hR.wR (i := (x3 &&& (255 : Int32)).toNatClampNeg) hL_2
    have F := F.trans w6.2
    have hR := w6.1
    intro x7 e8
    have e8 : x7 = yI (uR Y (x3 &&& (255 : Int32)).toNatClampNeg t.1) 404 0 := e8.trans (hR.I (x := 404) ob_4 4 (by decide) rfl)
    have h := h x7 e8
    intro x9 e10
    have h := h x9 e10
    have w11 := hR.wI (x := 404) ob_4 4 (by decide) rfl x9
    have F := F.trans w11.2
    have hR := w11.1
    intro x12 e13
    have e13 : x12 = yI (uI (uR Y (x3 &&& (255 : Int32)).toNatClampNeg t.1) 404 0 x9) 405 0 := e13.trans (hR.I (x := 405) ob_4 5 (by decide) rfl)
    have h := h x12 e13
    intro x14 e15
    have h := h x14 e15
    have w16 := hR.wI (x := 405) ob_4 5 (by decide) rfl x14
    have F := F.trans w16.2
    have hR := w16.1
    exact hQ _ _ _ h hL_2 hR F
  · have h := h.2 c1
    refine ⟨hR.K ob_4, ?_⟩
    have a17 : sP σ (ad 4 0) 2 = some (aa 402 0) := hR.ar (x := 402) ob_4 2 (by decide) rfl (by decide)
    intro x18 e19
    have e19 : x18 = yI Y 404 0 := e19.trans (hR.I (x := 404) ob_4 4 (by decide) rfl)
    have h := h x18 e19
    have a20 : sP σ (ad 4 0) 2 = some (aa 402 0) := hR.ar (x := 402) ob_4 2 (by decide) rfl (by decide)
    intro x21 e22
    have e22 : x21 = yI Y 404 0 := e22.trans (hR.I (x := 404) ob_4 4 (by decide) rfl)
    have h := h x21 e22
    intro x23 e24
    have h := h x23 e24
    refine ⟨_, a20, ?_⟩
    refine ⟨hR.arK (x := 402) ob_4 2 (by decide) rfl (by decide), ?_⟩
    have hz := h.1
    refine ⟨by first | exact hR.arV (x := 402) ob_4 2 (by decide) rfl (by decide) hz | exact hz, ?_⟩
    have h := h.2
    obtain ⟨o28, e29⟩ : ∃ z, z = yR Y x23.toNatClampNeg := ⟨_, rfl⟩
    have h := h o28 e29
    have hO30 : Ob n 3 o28 := by rw [e29]; exact hR.rgO (vp_lt hz)
    intro r26 e27
    have e27 : r26 = some (ad 3 o28) := by rw [e29]; exact e27.trans (hR.rg (vp_lt hz))
    subst e27
    have hz := h.1
    refine ⟨by first | exact hR.arV (x := 402) ob_4 2 (by decide) rfl (by decide) hz | exact hz, ?_⟩
    have h := h.2
    refine ⟨fun b hb => by cases hb; exact hR.K hO30, ?_⟩
    have w31 := hR.wR (i := ((x18 + t.2) &&& (255 : Int32)).toNatClampNeg) hO30
    have F := F.trans w31.2
    have hR := w31.1
    intro x32 e33
    have h := h x32 e33
    exact hL8 _ _ _ _ h hR F ⟨rfl, hL_2, trivial⟩
def wy_X4_pull (n : Nat) (p1 : Int32) (Y : Yc) (Qy : Nat → Yc → Prop) : Prop := (wy_X4_at n p1 Y (fun (o5 : Nat) (Y2 : Yc) => LFy (fy_X4_pull_8 n  Qy) (o5, p1) Y2))
set_option maxHeartbeats 4000000 in
set_option maxRecDepth 100000 in
theorem y_X4_pull {n : Nat} {ad aa : Nat → Nat → Nat} {p1 : Int32} {σ : Sto} {Y : Yc} {Q : Option Nat → Sto → Prop} {Qy : Nat → Yc → Prop} (hR : HY n ad aa σ Y) (h : wy_X4_pull n p1 Y Qy) (hQ : ∀ (o : Nat) (σ' : Sto) (Y' : Yc), Qy o Y' → Ob n 3 o → HY n ad aa σ' Y' → Fy n ad aa σ σ' → Q (some (ad 3 o)) σ') : wp_X4_pull (ad 4 0) p1 σ Q := by
  have F : Fy n ad aa σ σ := Fy.rf
  unfold wy_X4_pull at h
  unfold wp_X4_pull
  refine ⟨hR.K ob_4, ?_⟩
  refine y_X4_at hR  h (fun o5 σ1 Y2 h hO6 hR4 f3 => ?_)
  have F := F.trans f3
  have hR := hR4
  exact lfy (fun σ t9 t => ((some (ad 3 t.1)), t.2) = t9 ∧ Ob n 3 t.1 ∧ True) h hR F ⟨rfl, hO6, trivial⟩ (fun Ly L hL t9 t σ Y hR F hT h => yf_X4_pull_8 hQ  hL t9 t σ Y hR F hT h)
