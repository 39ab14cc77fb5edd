def wy_J9_max_7cf53 (n : Nat) (p0 : Int32) (p1 : Int32) (Y : Yc) (Qy : Int32 → Yc → Prop) : Prop := ((p0 < p1 → Qy p1 Y) ∧ (¬ p0 < p1 → Qy p0 Y))
set_option maxHeartbeats 4000000 in
set_option maxRecDepth 100000 in
theorem y_J9_max_7cf53 {n : Nat} {ad aa : Nat → Nat → Nat} {p0 : Int32} {p1 : Int32} {σ : Sto} {Y : Yc} {Q : Int32 → Sto → Prop} {Qy : Int32 → Yc → Prop} (hR : HY n ad aa σ Y) (h : wy_J9_max_7cf53 n p0 p1 Y Qy) (hQ : ∀ (r : Int32) (σ' : Sto) (Y' : Yc), Qy r Y' → HY n ad aa σ' Y' → Fy n ad aa σ σ' → Q r σ') : wp_J9_max_7cf53 p0 p1 σ Q := by
  have F : Fy n ad aa σ σ := Fy.rf
  unfold wy_J9_max_7cf53 at h
  unfold wp_J9_max_7cf53
  refine ⟨fun c1 => ?_, fun c1 => ?_⟩
  · have h := h.1 c1
    exact hQ _ _ _ h hR F
  · have h := h.2 c1
    exact hQ _ _ _ h hR F
def wy_X0_at (n : Nat) (o0 : Nat) (p1 : Int32) (Y : Yc) (Qy : Int32 → Yc → Prop) : Prop := ((p1 < 0 → Qy (-1 : Int32) Y) ∧ (¬ p1 < 0 → (∀ x2 : Int32, x2 = yI Y 1 o0 → ((x2 ≤ p1 → Qy (-1 : Int32) Y) ∧ (¬ x2 ≤ p1 → (((nI (bl o0)) ≤ p1 → Qy (-1 : Int32) Y) ∧ (¬ (nI (bl o0)) ≤ p1 → (vp_in p1 (bl o0) ∧ (∀ x9 : Int32, x9 = yA Y 0 o0 p1.toNatClampNeg → Qy (x9 &&& (255 : Int32)) Y)))))))))
set_option maxHeartbeats 4000000 in
set_option maxRecDepth 100000 in
theorem y_X0_at {n : Nat} {ad aa : Nat → Nat → Nat} {o0 : Nat} {p1 : Int32} {σ : Sto} {Y : Yc} {Q : Int32 → Sto → Prop} {Qy : Int32 → Yc → Prop} (hR : HY n ad aa σ Y) (ho0 : Ob n 0 o0) (h : wy_X0_at n o0 p1 Y Qy) (hQ : ∀ (r : Int32) (σ' : Sto) (Y' : Yc), Qy r Y' → HY n ad aa σ' Y' → Fy n ad aa σ σ' → Q r σ') : wp_X0_at (ad 0 o0) p1 σ Q := by
  have F : Fy n ad aa σ σ := Fy.rf
  unfold wy_X0_at at h
  unfold wp_X0_at
  refine ⟨fun c1 => ?_, fun c1 => ?_⟩
  · have h := h.1 c1
    exact hQ _ _ _ h hR F
  · have h := h.2 c1
    refine ⟨hR.K ho0, ?_⟩
    intro x2 e3
    have e3 : x2 = yI Y 1 o0 := e3.trans (hR.I (x := 1) ho0 1 (by decide) rfl)
    have h := h x2 e3
    refine ⟨fun c4 => ?_, fun c4 => ?_⟩
    · have h := h.1 c4
      exact hQ _ _ _ h hR F
    · have h := h.2 c4
      have a5 : sP σ (ad 0 o0) 0 = some (aa 0 o0) := hR.ar (x := 0) ho0 0 (by decide) rfl (by decide)
      refine ⟨_, a5, ?_⟩
      refine ⟨hR.arK (x := 0) ho0 0 (by decide) rfl (by decide), ?_⟩
      rw [show sN σ (aa 0 o0) = (bl o0) from hR.arN (x := 0) ho0 0 (by decide) rfl (by decide)]
      refine ⟨fun c7 => ?_, fun c7 => ?_⟩
      · have h := h.1 c7
        exact hQ _ _ _ h hR F
      · have h := h.2 c7
        have a8 : sP σ (ad 0 o0) 0 = some (aa 0 o0) := hR.ar (x := 0) ho0 0 (by decide) rfl (by decide)
        have hz := h.1
        refine ⟨by first | exact hR.arV (x := 0) ho0 0 (by decide) rfl (by decide) hz | exact hz, ?_⟩
        have h := h.2
        intro x9 e10
        have e10 : x9 = yA Y 0 o0 p1.toNatClampNeg := e10.trans (hR.A (x := 0) ho0 0 (by decide) rfl (by decide) _)
        have h := h x9 e10
        exact hQ _ _ _ h hR F
def wy_X0_add (n : Nat) (o0 : Nat) (p1 : Int32) (Y : Yc) (Qy : Yc → Prop) : Prop := (∀ x1 : Int32, x1 = yI Y 1 o0 → ((x1 < 0 → Qy Y) ∧ (¬ x1 < 0 → (∀ x4 : Int32, x4 = yI Y 1 o0 → (((nI (bl o0)) ≤ x4 → Qy Y) ∧ (¬ (nI (bl o0)) ≤ x4 → (∀ x10 : Int32, x10 = yI Y 1 o0 → (vp_in x10 (bl o0) ∧ (∀ x13 : Int32, x13 = yI (uA Y 0 o0 x10.toNatClampNeg (vp_nar .byte p1.toInt8.toInt32)) 1 o0 → (∀ x15 : Int32, x15 = x13 + (1 : Int32) → Qy (uI (uA Y 0 o0 x10.toNatClampNeg (vp_nar .byte p1.toInt8.toInt32)) 1 o0 x15)))))))))))
set_option maxHeartbeats 4000000 in
set_option maxRecDepth 100000 in
theorem y_X0_add {n : Nat} {ad aa : Nat → Nat → Nat} {o0 : Nat} {p1 : Int32} {σ : Sto} {Y : Yc} {Q : Sto → Prop} {Qy : Yc → Prop} (hR : HY n ad aa σ Y) (ho0 : Ob n 0 o0) (h : wy_X0_add n o0 p1 Y Qy) (hQ : ∀ (σ' : Sto) (Y' : Yc), Qy Y' → HY n ad aa σ' Y' → Fy n ad aa σ σ' → Q σ') : wp_X0_add (ad 0 o0) p1 σ Q := by
  have F : Fy n ad aa σ σ := Fy.rf
  unfold wy_X0_add at h
  unfold wp_X0_add
  refine ⟨hR.K ho0, ?_⟩
  intro x1 e2
  have e2 : x1 = yI Y 1 o0 := e2.trans (hR.I (x := 1) ho0 1 (by decide) rfl)
  have h := h x1 e2
  refine ⟨fun c3 => ?_, fun c3 => ?_⟩
  · have h := h.1 c3
    exact hQ _ _ h hR F
  · have h := h.2 c3
    intro x4 e5
    have e5 : x4 = yI Y 1 o0 := e5.trans (hR.I (x := 1) ho0 1 (by decide) rfl)
    have h := h x4 e5
    have a6 : sP σ (ad 0 o0) 0 = some (aa 0 o0) := hR.ar (x := 0) ho0 0 (by decide) rfl (by decide)
    refine ⟨_, a6, ?_⟩
    refine ⟨hR.arK (x := 0) ho0 0 (by decide) rfl (by decide), ?_⟩
    rw [show sN σ (aa 0 o0) = (bl o0) from hR.arN (x := 0) ho0 0 (by decide) rfl (by decide)]
    refine ⟨fun c8 => ?_, fun c8 => ?_⟩
    · have h := h.1 c8
      exact hQ _ _ h hR F
    · have h := h.2 c8
      have a9 : sP σ (ad 0 o0) 0 = some (aa 0 o0) := hR.ar (x := 0) ho0 0 (by decide) rfl (by decide)
      intro x10 e11
      have e11 : x10 = yI Y 1 o0 := e11.trans (hR.I (x := 1) ho0 1 (by decide) rfl)
      have h := h x10 e11
      have hz := h.1
      refine ⟨by first | exact hR.arV (x := 0) ho0 0 (by decide) rfl (by decide) hz | exact hz, ?_⟩
      have h := h.2
      have w12 := hR.wA (x := 0) ho0 0 (by decide) rfl (by decide) (x10.toNatClampNeg) (vp_nar .byte p1.toInt8.toInt32)
      have F := F.trans w12.2
      have hR := w12.1
      intro x13 e14
      have e14 : x13 = yI (uA Y 0 o0 x10.toNatClampNeg (vp_nar .byte p1.toInt8.toInt32)) 1 o0 := e14.trans (hR.I (x := 1) ho0 1 (by decide) rfl)
      have h := h x13 e14
      intro x15 e16
      have h := h x15 e16
      have w17 := hR.wI (x := 1) ho0 1 (by decide) rfl x15
      have F := F.trans w17.2
      have hR := w17.1
      exact hQ _ _ h hR F
def fy_X0_addZeros_2 (n : Nat) (o0 : Nat)  (Qy : Yc → Prop) (Ly2 : Int32 × Int32 → Yc → Prop) (t : Int32 × Int32) (Y : Yc) : Prop := ((t.1 ≤ t.2 → Qy Y) ∧ (¬ t.1 ≤ t.2 → (wy_X0_add n o0 (0 : Int32) Y (fun (Y3 : Yc) => (∀ x9 : Int32, x9 = t.2 + (1 : Int32) → Ly2 (t.1, x9) Y3)))))
set_option maxHeartbeats 4000000 in
set_option maxRecDepth 100000 in
theorem yf_X0_addZeros_2 {n : Nat} {ad aa : Nat → Nat → Nat} {σ0 : Sto} {o0 : Nat} (ho0 : Ob n 0 o0) {Q : Sto → Prop} {Qy : Yc → Prop} {Ly2 : Int32 × Int32 → Yc → Prop} {L2 : Int32 × Int32 → Sto → Prop} (hQ : ∀ (σ' : Sto) (Y' : Yc), Qy Y' → HY n ad aa σ' Y' → Fy n ad aa σ0 σ' → Q σ') (hL2 : ∀ (t9 : Int32 × Int32) (t : Int32 × Int32) (σ : Sto) (Y : Yc), Ly2 t Y → HY n ad aa σ Y → Fy n ad aa σ0 σ → ((t.1, t.2) = t9 ∧ True) → L2 t9 σ) : ∀ (t9 : Int32 × Int32) (t : Int32 × Int32) (σ : Sto) (Y : Yc), HY n ad aa σ Y → Fy n ad aa σ0 σ → ((t.1, t.2) = t9 ∧ True) → fy_X0_addZeros_2 n o0  Qy Ly2 t Y → f_X0_addZeros_2 (ad 0 o0)  Q L2 t9 σ := by
  intro t9 t σ Y hR F hT h
  obtain ⟨rfl, _⟩ := hT
  unfold fy_X0_addZeros_2 at h
  unfold f_X0_addZeros_2
  dsimp only
  refine ⟨fun c1 => ?_, fun c1 => ?_⟩
  · have h := h.1 c1
    exact hQ _ _ h hR F
  · have h := h.2 c1
    refine ⟨hR.K ho0, ?_⟩
    refine y_X0_add hR ho0  h (fun σ2 Y3 h hR5 f4 => ?_)
    have F := F.trans f4
    have hR := hR5
    intro x9 e10
    have h := h x9 e10
    exact hL2 _ _ _ _ h hR F ⟨rfl, trivial⟩
def wy_X0_addZeros (n : Nat) (o0 : Nat) (p1 : Int32) (Y : Yc) (Qy : Yc → Prop) : Prop := LFy (fy_X0_addZeros_2 n o0  Qy) (p1, (0 : Int32)) Y
set_option maxHeartbeats 4000000 in
set_option maxRecDepth 100000 in
theorem y_X0_addZeros {n : Nat} {ad aa : Nat → Nat → Nat} {o0 : Nat} {p1 : Int32} {σ : Sto} {Y : Yc} {Q : Sto → Prop} {Qy : Yc → Prop} (hR : HY n ad aa σ Y) (ho0 : Ob n 0 o0) (h : wy_X0_addZeros n o0 p1 Y Qy) (hQ : ∀ (σ' : Sto) (Y' : Yc), Qy Y' → HY n ad aa σ' Y' → Fy n ad aa σ σ' → Q σ') : wp_X0_addZeros (ad 0 o0) p1 σ Q := by
  have F : Fy n ad aa σ σ := Fy.rf
  unfold wy_X0_addZeros at h
  unfold wp_X0_addZeros
  exact lfy (fun σ t9 t => (t.1, t.2) = t9 ∧ True) h hR F ⟨rfl, trivial⟩ (fun Ly L hL t9 t σ Y hR F hT h => yf_X0_addZeros_2 ho0 hQ  hL t9 t σ Y hR F hT h)
def fy_X0_addWord_3 (n : Nat) (o0 : Nat)  (Qy : Yc → Prop) (Ly3 : Int32 × Int32 → Yc → Prop) (t : Int32 × Int32) (Y : Yc) : Prop := ((t.2 < 0 → Qy Y) ∧ (¬ t.2 < 0 → (wy_X0_add n o0 ((t.1.toUInt32 >>> (t.2.toUInt32 &&& Int32.toUInt32 31)).toInt32) Y (fun (Y3 : Yc) => (∀ x9 : Int32, x9 = t.2 + (-8 : Int32) → Ly3 (t.1, x9) Y3)))))
set_option maxHeartbeats 4000000 in
set_option maxRecDepth 100000 in
theorem yf_X0_addWord_3 {n : Nat} {ad aa : Nat → Nat → Nat} {σ0 : Sto} {o0 : Nat} (ho0 : Ob n 0 o0) {Q : Sto → Prop} {Qy : Yc → Prop} {Ly3 : Int32 × Int32 → Yc → Prop} {L3 : Int32 × Int32 → Sto → Prop} (hQ : ∀ (σ' : Sto) (Y' : Yc), Qy Y' → HY n ad aa σ' Y' → Fy n ad aa σ0 σ' → Q σ') (hL3 : ∀ (t9 : Int32 × Int32) (t : Int32 × Int32) (σ : Sto) (Y : Yc), Ly3 t Y → HY n ad aa σ Y → Fy n ad aa σ0 σ → ((t.1, t.2) = t9 ∧ True) → L3 t9 σ) : ∀ (t9 : Int32 × Int32) (t : Int32 × Int32) (σ : Sto) (Y : Yc), HY n ad aa σ Y → Fy n ad aa σ0 σ → ((t.1, t.2) = t9 ∧ True) → fy_X0_addWord_3 n o0  Qy Ly3 t Y → f_X0_addWord_3 (ad 0 o0)  Q L3 t9 σ := by
  intro t9 t σ Y hR F hT h
  obtain ⟨rfl, _⟩ := hT
  unfold fy_X0_addWord_3 at h
  unfold f_X0_addWord_3
  dsimp only
  refine ⟨fun c1 => ?_, fun c1 => ?_⟩
  · have h := h.1 c1
    exact hQ _ _ h hR F
  · have h := h.2 c1
    refine ⟨hR.K ho0, ?_⟩
    refine y_X0_add hR ho0  h (fun σ2 Y3 h hR5 f4 => ?_)
    have F := F.trans f4
    have hR := hR5
    intro x9 e10
    have h := h x9 e10
    exact hL3 _ _ _ _ h hR F ⟨rfl, trivial⟩
def wy_X0_addWord (n : Nat) (o0 : Nat) (p1 : Int32) (Y : Yc) (Qy : Yc → Prop) : Prop := LFy (fy_X0_addWord_3 n o0  Qy) (p1, (24 : Int32)) Y
set_option maxHeartbeats 4000000 in
set_option maxRecDepth 100000 in
theorem y_X0_addWord {n : Nat} {ad aa : Nat → Nat → Nat} {o0 : Nat} {p1 : Int32} {σ : Sto} {Y : Yc} {Q : Sto → Prop} {Qy : Yc → Prop} (hR : HY n ad aa σ Y) (ho0 : Ob n 0 o0) (h : wy_X0_addWord n o0 p1 Y Qy) (hQ : ∀ (σ' : Sto) (Y' : Yc), Qy Y' → HY n ad aa σ' Y' → Fy n ad aa σ σ' → Q σ') : wp_X0_addWord (ad 0 o0) p1 σ Q := by
  have F : Fy n ad aa σ σ := Fy.rf
  unfold wy_X0_addWord at h
  unfold wp_X0_addWord
  exact lfy (fun σ t9 t => (t.1, t.2) = t9 ∧ True) h hR F ⟨rfl, trivial⟩ (fun Ly L hL t9 t σ Y hR F hT h => yf_X0_addWord_3 ho0 hQ  hL t9 t σ Y hR F hT h)
def by_X0_addNumber_39 (n : Nat) (o0 : Nat)  (Qy : Yc → Prop) (p2 : Int32) (Y : Yc) : Prop := (wy_X0_add n o0 p2 Y (fun (Y2 : Yc) => Qy Y2))
set_option maxHeartbeats 4000000 in
set_option maxRecDepth 100000 in
theorem yb_X0_addNumber_39 {n : Nat} {ad aa : Nat → Nat → Nat} {σ0 : Sto} {o0 : Nat} (ho0 : Ob n 0 o0) {Q : Sto → Prop} {Qy : Yc → Prop} (hQ : ∀ (σ' : Sto) (Y' : Yc), Qy Y' → HY n ad aa σ' Y' → Fy n ad aa σ0 σ' → Q σ')  (p2 : Int32) (σ : Sto) (Y : Yc) (hR : HY n ad aa σ Y) (F : Fy n ad aa σ0 σ) (h : by_X0_addNumber_39 n o0  Qy p2 Y) : b_X0_addNumber_39 (ad 0 o0)  Q p2 σ := by
  unfold by_X0_addNumber_39 at h
  unfold b_X0_addNumber_39
  refine ⟨hR.K ho0, ?_⟩
  refine y_X0_add hR ho0  h (fun σ1 Y2 h hR4 f3 => ?_)
  have F := F.trans f3
  have hR := hR4
  exact hQ _ _ h hR F
def fy_X0_addNumber_4 (n : Nat) (o0 : Nat)  (Qy : Yc → Prop) (Ly4 : Int32 × Int32 → Yc → Prop) (t : Int32 × Int32) (Y : Yc) : Prop := (((4 : Int32) ≤ t.2 → by_X0_addNumber_39 n o0  Qy t.1 Y) ∧ (¬ (4 : Int32) ≤ t.2 → ((((t.1.toUInt32 >>> ((7 : Int32).toUInt32 &&& Int32.toUInt32 31)).toInt32) = 0 → by_X0_addNumber_39 n o0  Qy t.1 Y) ∧ (¬ ((t.1.toUInt32 >>> ((7 : Int32).toUInt32 &&& Int32.toUInt32 31)).toInt32) = 0 → (wy_X0_add n o0 ((t.1 &&& (127 : Int32)) ||| (128 : Int32)) Y (fun (Y4 : Yc) => (∀ x10 : Int32, x10 = (t.1.toUInt32 >>> ((7 : Int32).toUInt32 &&& Int32.toUInt32 31)).toInt32 → (∀ x12 : Int32, x12 = t.2 + (1 : Int32) → Ly4 (x10, x12) Y4))))))))
set_option maxHeartbeats 4000000 in
set_option maxRecDepth 100000 in
theorem yf_X0_addNumber_4 {n : Nat} {ad aa : Nat → Nat → Nat} {σ0 : Sto} {o0 : Nat} (ho0 : Ob n 0 o0) {Q : Sto → Prop} {Qy : Yc → Prop} {Ly4 : Int32 × Int32 → Yc → Prop} {L4 : Int32 × Int32 → Sto → Prop} (hQ : ∀ (σ' : Sto) (Y' : Yc), Qy Y' → HY n ad aa σ' Y' → Fy n ad aa σ0 σ' → Q σ') (hL4 : ∀ (t9 : Int32 × Int32) (t : Int32 × Int32) (σ : Sto) (Y : Yc), Ly4 t Y → HY n ad aa σ Y → Fy n ad aa σ0 σ → ((t.1, t.2) = t9 ∧ True) → L4 t9 σ) : ∀ (t9 : Int32 × Int32) (t : Int32 × Int32) (σ : Sto) (Y : Yc), HY n ad aa σ Y → Fy n ad aa σ0 σ → ((t.1, t.2) = t9 ∧ True) → fy_X0_addNumber_4 n o0  Qy Ly4 t Y → f_X0_addNumber_4 (ad 0 o0)  Q L4 t9 σ := by
  intro t9 t σ Y hR F hT h
  obtain ⟨rfl, _⟩ := hT
  unfold fy_X0_addNumber_4 at h
  unfold f_X0_addNumber_4
  dsimp only
  refine ⟨fun c1 => ?_, fun c1 => ?_⟩
  · have h := h.1 c1
    exact yb_X0_addNumber_39 ho0 hQ  t.1 _ _ hR F  h
  · have h := h.2 c1
    refine ⟨fun c2 => ?_, fun c2 => ?_⟩
    · have h := h.1 c2
      exact yb_X0_addNumber_39 ho0 hQ  t.1 _ _ hR F  h
    · have h := h.2 c2
      refine ⟨hR.K ho0, ?_⟩
      refine y_X0_add hR ho0  h (fun σ3 Y4 h hR6 f5 => ?_)
      have F := F.trans f5
      have hR := hR6
      intro x10 e11
      have h := h x10 e11
      intro x12 e13
      have h := h x12 e13
      exact hL4 _ _ _ _ h hR F ⟨rfl, trivial⟩
def wy_X0_addNumber (n : Nat) (o0 : Nat) (p1 : Int32) (Y : Yc) (Qy : Yc → Prop) : Prop := LFy (fy_X0_addNumber_4 n o0  Qy) (p1, (0 : Int32)) Y
set_option maxHeartbeats 4000000 in
set_option maxRecDepth 100000 in
theorem y_X0_addNumber {n : Nat} {ad aa : Nat → Nat → Nat} {o0 : Nat} {p1 : Int32} {σ : Sto} {Y : Yc} {Q : Sto → Prop} {Qy : Yc → Prop} (hR : HY n ad aa σ Y) (ho0 : Ob n 0 o0) (h : wy_X0_addNumber n o0 p1 Y Qy) (hQ : ∀ (σ' : Sto) (Y' : Yc), Qy Y' → HY n ad aa σ' Y' → Fy n ad aa σ σ' → Q σ') : wp_X0_addNumber (ad 0 o0) p1 σ Q := by
  have F : Fy n ad aa σ σ := Fy.rf
  unfold wy_X0_addNumber at h
  unfold wp_X0_addNumber
  exact lfy (fun σ t9 t => (t.1, t.2) = t9 ∧ True) h hR F ⟨rfl, trivial⟩ (fun Ly L hL t9 t σ Y hR F hT h => yf_X0_addNumber_4 ho0 hQ  hL t9 t σ Y hR F hT h)
def wy_X11_leadOf (n : Nat) (p0 : Int64) (Y : Yc) (Qy : Int32 → Yc → Prop) : Prop := Qy p0.toInt32 Y
set_option maxHeartbeats 4000000 in
set_option maxRecDepth 100000 in
theorem y_X11_leadOf {n : Nat} {ad aa : Nat → Nat → Nat} {p0 : Int64} {σ : Sto} {Y : Yc} {Q : Int32 → Sto → Prop} {Qy : Int32 → Yc → Prop} (hR : HY n ad aa σ Y) (h : wy_X11_leadOf n p0 Y Qy) (hQ : ∀ (r : Int32) (σ' : Sto) (Y' : Yc), Qy r Y' → HY n ad aa σ' Y' → Fy n ad aa σ σ' → Q r σ') : wp_X11_leadOf p0 σ Q := by
  have F : Fy n ad aa σ σ := Fy.rf
  unfold wy_X11_leadOf at h
  unfold wp_X11_leadOf
  exact hQ _ _ _ h hR F
def wy_X11_sessionOf (n : Nat) (p0 : Int64) (Y : Yc) (Qy : Int32 → Yc → Prop) : Prop := Qy ((p0 >>> ((32 : Int32).toInt64 &&& 63)).toInt32) Y
set_option maxHeartbeats 4000000 in
set_option maxRecDepth 100000 in
theorem y_X11_sessionOf {n : Nat} {ad aa : Nat → Nat → Nat} {p0 : Int64} {σ : Sto} {Y : Yc} {Q : Int32 → Sto → Prop} {Qy : Int32 → Yc → Prop} (hR : HY n ad aa σ Y) (h : wy_X11_sessionOf n p0 Y Qy) (hQ : ∀ (r : Int32) (σ' : Sto) (Y' : Yc), Qy r Y' → HY n ad aa σ' Y' → Fy n ad aa σ σ' → Q r σ') : wp_X11_sessionOf p0 σ Q := by
  have F : Fy n ad aa σ σ := Fy.rf
  unfold wy_X11_sessionOf at h
  unfold wp_X11_sessionOf
  exact hQ _ _ _ h hR F
def wy_X0_addView (n : Nat) (o0 : Nat) (p1 : Int64) (Y : Yc) (Qy : Yc → Prop) : Prop := (wy_X11_leadOf n p1 Y (fun (x5 : Int32) (Y2 : Yc) => (wy_X0_addNumber n o0 x5 Y2 (fun (Y9 : Yc) => (wy_X11_sessionOf n p1 Y9 (fun (x19 : Int32) (Y16 : Yc) => (wy_X0_addNumber n o0 x19 Y16 (fun (Y23 : Yc) => Qy Y23))))))))
set_option maxHeartbeats 4000000 in
set_option maxRecDepth 100000 in
theorem y_X0_addView {n : Nat} {ad aa : Nat → Nat → Nat} {o0 : Nat} {p1 : Int64} {σ : Sto} {Y : Yc} {Q : Sto → Prop} {Qy : Yc → Prop} (hR : HY n ad aa σ Y) (ho0 : Ob n 0 o0) (h : wy_X0_addView n o0 p1 Y Qy) (hQ : ∀ (σ' : Sto) (Y' : Yc), Qy Y' → HY n ad aa σ' Y' → Fy n ad aa σ σ' → Q σ') : wp_X0_addView (ad 0 o0) p1 σ Q := by
  have F : Fy n ad aa σ σ := Fy.rf
  unfold wy_X0_addView at h
  unfold wp_X0_addView
  refine y_X11_leadOf hR  h (fun x5 σ1 Y2 h hR4 f3 => ?_)
  have F := F.trans f3
  have hR := hR4
  refine ⟨hR.K ho0, ?_⟩
  refine y_X0_addNumber hR ho0  h (fun σ8 Y9 h hR11 f10 => ?_)
  have F := F.trans f10
  have hR := hR11
  refine y_X11_sessionOf hR  h (fun x19 σ15 Y16 h hR18 f17 => ?_)
  have F := F.trans f17
  have hR := hR18
  refine ⟨hR.K ho0, ?_⟩
  refine y_X0_addNumber hR ho0  h (fun σ22 Y23 h hR25 f24 => ?_)
  have F := F.trans f24
  have hR := hR25
  exact hQ _ _ h hR F
def by_X0_sumOf_68 (n : Nat) (o0 : Nat)  (Ly9 : Int32 × Int32 × Int32 → Yc → Prop) (Ly42 : Int32 × Int32 × Int32 × Int32 → Yc → Prop) (Qy : Int32 → Yc → Prop) (p2 : Int32) (p4 : Int32) (p5 : Int32) (s0 : Int32) (Y : Yc) : Prop := (∀ x1 : Int32, x1 = p5 + (1 : Int32) → Ly42 (p2, s0, p4, x1) Y)
set_option maxHeartbeats 4000000 in
set_option maxRecDepth 100000 in
theorem yb_X0_sumOf_68 {n : Nat} {ad aa : Nat → Nat → Nat} {σ0 : Sto} {o0 : Nat} (ho0 : Ob n 0 o0) {Ly9 : Int32 × Int32 × Int32 → Yc → Prop} {L9 : Int32 × Int32 × Int32 → Sto → Prop} {Ly42 : Int32 × Int32 × Int32 × Int32 → Yc → Prop} {L42 : Int32 × Int32 × Int32 × Int32 → Sto → Prop} {Q : Int32 → Sto → Prop} {Qy : Int32 → Yc → Prop} (hQ : ∀ (r : Int32) (σ' : Sto) (Y' : Yc), Qy r Y' → HY n ad aa σ' Y' → Fy n ad aa σ0 σ' → Q r σ') (hL9 : ∀ (t9 : Int32 × Int32 × Int32) (t : Int32 × Int32 × Int32) (σ : Sto) (Y : Yc), Ly9 t Y → HY n ad aa σ Y → Fy n ad aa σ0 σ → ((t.1, t.2.1, t.2.2) = t9 ∧ True) → L9 t9 σ) (hL42 : ∀ (t9 : Int32 × Int32 × Int32 × Int32) (t : Int32 × Int32 × Int32 × Int32) (σ : Sto) (Y : Yc), Ly42 t Y → HY n ad aa σ Y → Fy n ad aa σ0 σ → ((t.1, t.2.1, t.2.2.1, t.2.2.2) = t9 ∧ True) → L42 t9 σ) (p2 : Int32) (p4 : Int32) (p5 : Int32) (s0 : Int32) (σ : Sto) (Y : Yc) (hR : HY n ad aa σ Y) (F : Fy n ad aa σ0 σ) (h : by_X0_sumOf_68 n o0 Ly9 Ly42 Qy p2 p4 p5 s0 Y) : b_X0_sumOf_68 (ad 0 o0) L9 L42 Q p2 p4 p5 s0 σ := by
  unfold by_X0_sumOf_68 at h
  unfold b_X0_sumOf_68
  intro x1 e2
  have h := h x1 e2
  exact hL42 _ _ _ _ h hR F ⟨rfl, trivial⟩
def fy_X0_sumOf_42 (n : Nat) (o0 : Nat)  (Ly9 : Int32 × Int32 × Int32 → Yc → Prop) (Qy : Int32 → Yc → Prop) (Ly42 : Int32 × Int32 × Int32 × Int32 → Yc → Prop) (t : Int32 × Int32 × Int32 × Int32) (Y : Yc) : Prop := (((8 : Int32) ≤ t.2.2.2 → (∀ x2 : Int32, x2 = t.2.2.1 + (1 : Int32) → Ly9 (t.1, t.2.1, x2) Y)) ∧ (¬ (8 : Int32) ≤ t.2.2.2 → ((¬ (t.2.1 &&& (1 : Int32)) = (1 : Int32) → by_X0_sumOf_68 n o0 Ly9 Ly42 Qy t.1 t.2.2.1 t.2.2.2 ((t.2.1.toUInt32 >>> ((1 : Int32).toUInt32 &&& Int32.toUInt32 31)).toInt32) Y) ∧ ((t.2.1 &&& (1 : Int32)) = (1 : Int32) → by_X0_sumOf_68 n o0 Ly9 Ly42 Qy t.1 t.2.2.1 t.2.2.2 (((t.2.1.toUInt32 >>> ((1 : Int32).toUInt32 &&& Int32.toUInt32 31)).toInt32) ^^^ (-306674912 : Int32)) Y))))
set_option maxHeartbeats 4000000 in
set_option maxRecDepth 100000 in
theorem yf_X0_sumOf_42 {n : Nat} {ad aa : Nat → Nat → Nat} {σ0 : Sto} {o0 : Nat} (ho0 : Ob n 0 o0) {Ly9 : Int32 × Int32 × Int32 → Yc → Prop} {L9 : Int32 × Int32 × Int32 → Sto → Prop} {Q : Int32 → Sto → Prop} {Qy : Int32 → Yc → Prop} {Ly42 : Int32 × Int32 × Int32 × Int32 → Yc → Prop} {L42 : Int32 × Int32 × Int32 × Int32 → Sto → Prop} (hQ : ∀ (r : Int32) (σ' : Sto) (Y' : Yc), Qy r Y' → HY n ad aa σ' Y' → Fy n ad aa σ0 σ' → Q r σ') (hL9 : ∀ (t9 : Int32 × Int32 × Int32) (t : Int32 × Int32 × Int32) (σ : Sto) (Y : Yc), Ly9 t Y → HY n ad aa σ Y → Fy n ad aa σ0 σ → ((t.1, t.2.1, t.2.2) = t9 ∧ True) → L9 t9 σ) (hL42 : ∀ (t9 : Int32 × Int32 × Int32 × Int32) (t : Int32 × Int32 × Int32 × Int32) (σ : Sto) (Y : Yc), Ly42 t Y → HY n ad aa σ Y → Fy n ad aa σ0 σ → ((t.1, t.2.1, t.2.2.1, t.2.2.2) = t9 ∧ True) → L42 t9 σ) : ∀ (t9 : Int32 × Int32 × Int32 × Int32) (t : Int32 × Int32 × Int32 × Int32) (σ : Sto) (Y : Yc), HY n ad aa σ Y → Fy n ad aa σ0 σ → ((t.1, t.2.1, t.2.2.1, t.2.2.2) = t9 ∧ True) → fy_X0_sumOf_42 n o0 Ly9 Qy Ly42 t Y → f_X0_sumOf_42 (ad 0 o0) L9 Q L42 t9 σ := by
  intro t9 t σ Y hR F hT h
  obtain ⟨rfl, _⟩ := hT
  unfold fy_X0_sumOf_42 at h
  unfold f_X0_sumOf_42
  dsimp only
  refine ⟨fun c1 => ?_, fun c1 => ?_⟩
  · have h := h.1 c1
    intro x2 e3
    have h := h x2 e3
    exact hL9 _ _ _ _ h hR F ⟨rfl, trivial⟩
  · have h := h.2 c1
    refine ⟨fun c4 => ?_, fun c4 => ?_⟩
    · have h := h.1 c4
      exact yb_X0_sumOf_68 ho0 hQ hL9 hL42 t.1 t.2.2.1 t.2.2.2 ((t.2.1.toUInt32 >>> ((1 : Int32).toUInt32 &&& Int32.toUInt32 31)).toInt32) _ _ hR F  h
    · have h := h.2 c4
      exact yb_X0_sumOf_68 ho0 hQ hL9 hL42 t.1 t.2.2.1 t.2.2.2 (((t.2.1.toUInt32 >>> ((1 : Int32).toUInt32 &&& Int32.toUInt32 31)).toInt32) ^^^ (-306674912 : Int32)) _ _ hR F  h
def fy_X0_sumOf_9 (n : Nat) (o0 : Nat)  (Qy : Int32 → Yc → Prop) (Ly9 : Int32 × Int32 × Int32 → Yc → Prop) (t : Int32 × Int32 × Int32) (Y : Yc) : Prop := ((t.1 ≤ t.2.2 → Qy (t.2.1 ^^^ (-1 : Int32)) Y) ∧ (¬ t.1 ≤ t.2.2 → (((nI (bl o0)) ≤ t.2.2 → Qy (t.2.1 ^^^ (-1 : Int32)) Y) ∧ (¬ (nI (bl o0)) ≤ t.2.2 → (vp_in t.2.2 (bl o0) ∧ (∀ x6 : Int32, x6 = yA Y 0 o0 t.2.2.toNatClampNeg → (∀ x8 : Int32, x8 = t.2.1 ^^^ (x6 &&& (255 : Int32)) → LFy (fy_X0_sumOf_42 n o0 Ly9 Qy) (t.1, x8, t.2.2, (0 : Int32)) Y)))))))
set_option maxHeartbeats 4000000 in
set_option maxRecDepth 100000 in
theorem yf_X0_sumOf_9 {n : Nat} {ad aa : Nat → Nat → Nat} {σ0 : Sto} {o0 : Nat} (ho0 : Ob n 0 o0) {Q : Int32 → Sto → Prop} {Qy : Int32 → Yc → Prop} {Ly9 : Int32 × Int32 × Int32 → Yc → Prop} {L9 : Int32 × Int32 × Int32 → Sto → Prop} (hQ : ∀ (r : Int32) (σ' : Sto) (Y' : Yc), Qy r Y' → HY n ad aa σ' Y' → Fy n ad aa σ0 σ' → Q r σ') (hL9 : ∀ (t9 : Int32 × Int32 × Int32) (t : Int32 × Int32 × Int32) (σ : Sto) (Y : Yc), Ly9 t Y → HY n ad aa σ Y → Fy n ad aa σ0 σ → ((t.1, t.2.1, t.2.2) = t9 ∧ True) → L9 t9 σ) : ∀ (t9 : Int32 × Int32 × Int32) (t : Int32 × Int32 × Int32) (σ : Sto) (Y : Yc), HY n ad aa σ Y → Fy n ad aa σ0 σ → ((t.1, t.2.1, t.2.2) = t9 ∧ True) → fy_X0_sumOf_9 n o0  Qy Ly9 t Y → f_X0_sumOf_9 (ad 0 o0)  Q L9 t9 σ := by
  intro t9 t σ Y hR F hT h
  obtain ⟨rfl, _⟩ := hT
  unfold fy_X0_sumOf_9 at h
  unfold f_X0_sumOf_9
  dsimp only
  refine ⟨fun c1 => ?_, fun c1 => ?_⟩
  · have h := h.1 c1
    exact hQ _ _ _ h hR F
  · have h := h.2 c1
    refine ⟨hR.K ho0, ?_⟩
    have a2 : sP σ (ad 0 o0) 0 = some (aa 0 o0) := hR.ar (x := 0) ho0 0 (by decide) rfl (by decide)
    refine ⟨_, a2, ?_⟩
    refine ⟨hR.arK (x := 0) ho0 0 (by decide) rfl (by decide), ?_⟩
    rw [show sN σ (aa 0 o0) = (bl o0) from hR.arN (x := 0) ho0 0 (by decide) rfl (by decide)]
    refine ⟨fun c4 => ?_, fun c4 => ?_⟩
    · have h := h.1 c4
      exact hQ _ _ _ h hR F
    · have h := h.2 c4
      have a5 : sP σ (ad 0 o0) 0 = some (aa 0 o0) := hR.ar (x := 0) ho0 0 (by decide) rfl (by decide)
      have hz := h.1
      refine ⟨by first | exact hR.arV (x := 0) ho0 0 (by decide) rfl (by decide) hz | exact hz, ?_⟩
      have h := h.2
      intro x6 e7
      have e7 : x6 = yA Y 0 o0 t.2.2.toNatClampNeg := e7.trans (hR.A (x := 0) ho0 0 (by decide) rfl (by decide) _)
      have h := h x6 e7
      intro x8 e9
      have h := h x8 e9
      exact lfy (fun σ t9 t => (t.1, t.2.1, t.2.2.1, t.2.2.2) = t9 ∧ True) h hR F ⟨rfl, trivial⟩ (fun Ly L hL t9 t σ Y hR F hT h => yf_X0_sumOf_42 ho0 hQ hL9 hL t9 t σ Y hR F hT h)
def wy_X0_sumOf (n : Nat) (o0 : Nat) (p1 : Int32) (p2 : Int32) (Y : Yc) (Qy : Int32 → Yc → Prop) : Prop := (wy_J9_max_7cf53 n (0 : Int32) p1 Y (fun (x5 : Int32) (Y2 : Yc) => LFy (fy_X0_sumOf_9 n o0  Qy) (p2, (-1 : Int32), x5) Y2))
set_option maxHeartbeats 4000000 in
set_option maxRecDepth 100000 in
theorem y_X0_sumOf {n : Nat} {ad aa : Nat → Nat → Nat} {o0 : Nat} {p1 : Int32} {p2 : Int32} {σ : Sto} {Y : Yc} {Q : Int32 → Sto → Prop} {Qy : Int32 → Yc → Prop} (hR : HY n ad aa σ Y) (ho0 : Ob n 0 o0) (h : wy_X0_sumOf n o0 p1 p2 Y Qy) (hQ : ∀ (r : Int32) (σ' : Sto) (Y' : Yc), Qy r Y' → HY n ad aa σ' Y' → Fy n ad aa σ σ' → Q r σ') : wp_X0_sumOf (ad 0 o0) p1 p2 σ Q := by
  have F : Fy n ad aa σ σ := Fy.rf
  unfold wy_X0_sumOf at h
  unfold wp_X0_sumOf
  refine y_J9_max_7cf53 hR  h (fun x5 σ1 Y2 h hR4 f3 => ?_)
  have F := F.trans f3
  have hR := hR4
  exact lfy (fun σ t9 t => (t.1, t.2.1, t.2.2) = t9 ∧ True) h hR F ⟨rfl, trivial⟩ (fun Ly L hL t9 t σ Y hR F hT h => yf_X0_sumOf_9 ho0 hQ  hL t9 t σ Y hR F hT h)
def wy_X0_endBlock (n : Nat) (o0 : Nat) (p1 : Int32) (Y : Yc) (Qy : Yc → Prop) : Prop := (∀ x1 : Int32, x1 = yI Y 1 o0 → (wy_X0_addZeros n o0 ((p1 - (4 : Int32)) - x1) Y (fun (Y4 : Yc) => (∀ x10 : Int32, x10 = yI Y4 1 o0 → (wy_X0_sumOf n o0 (p1 - (512 : Int32)) x10 Y4 (fun (x16 : Int32) (Y13 : Yc) => (wy_X0_addWord n o0 x16 Y13 (fun (Y20 : Yc) => Qy Y20))))))))
set_option maxHeartbeats 4000000 in
set_option maxRecDepth 100000 in
theorem y_X0_endBlock {n : Nat} {ad aa : Nat → Nat → Nat} {o0 : Nat} {p1 : Int32} {σ : Sto} {Y : Yc} {Q : Sto → Prop} {Qy : Yc → Prop} (hR : HY n ad aa σ Y) (ho0 : Ob n 0 o0) (h : wy_X0_endBlock n o0 p1 Y Qy) (hQ : ∀ (σ' : Sto) (Y' : Yc), Qy Y' → HY n ad aa σ' Y' → Fy n ad aa σ σ' → Q σ') : wp_X0_endBlock (ad 0 o0) p1 σ Q := by
  have F : Fy n ad aa σ σ := Fy.rf
  unfold wy_X0_endBlock at h
  unfold wp_X0_endBlock
  refine ⟨hR.K ho0, ?_⟩
  intro x1 e2
  have e2 : x1 = yI Y 1 o0 := e2.trans (hR.I (x := 1) ho0 1 (by decide) rfl)
  have h := h x1 e2
  refine y_X0_addZeros hR ho0  h (fun σ3 Y4 h hR6 f5 => ?_)
  have F := F.trans f5
  have hR := hR6
  refine ⟨hR.K ho0, ?_⟩
  intro x10 e11
  have e11 : x10 = yI Y4 1 o0 := e11.trans (hR.I (x := 1) ho0 1 (by decide) rfl)
  have h := h x10 e11
  refine y_X0_sumOf hR ho0  h (fun x16 σ12 Y13 h hR15 f14 => ?_)
  have F := F.trans f14
  have hR := hR15
  refine ⟨hR.K ho0, ?_⟩
  refine y_X0_addWord hR ho0  h (fun σ19 Y20 h hR22 f21 => ?_)
  have F := F.trans f21
  have hR := hR22
  exact hQ _ _ h hR F
def wy_J9_min_7cf53 (n : Nat) (p0 : Int32) (p1 : Int32) (Y : Yc) (Qy : Int32 → Yc → Prop) : Prop := ((p1 < p0 → Qy p1 Y) ∧ (¬ p1 < p0 → Qy p0 Y))
set_option maxHeartbeats 4000000 in
set_option maxRecDepth 100000 in
theorem y_J9_min_7cf53 {n : Nat} {ad aa : Nat → Nat → Nat} {p0 : Int32} {p1 : Int32} {σ : Sto} {Y : Yc} {Q : Int32 → Sto → Prop} {Qy : Int32 → Yc → Prop} (hR : HY n ad aa σ Y) (h : wy_J9_min_7cf53 n p0 p1 Y Qy) (hQ : ∀ (r : Int32) (σ' : Sto) (Y' : Yc), Qy r Y' → HY n ad aa σ' Y' → Fy n ad aa σ σ' → Q r σ') : wp_J9_min_7cf53 p0 p1 σ Q := by
  have F : Fy n ad aa σ σ := Fy.rf
  unfold wy_J9_min_7cf53 at h
  unfold wp_J9_min_7cf53
  refine ⟨fun c1 => ?_, fun c1 => ?_⟩
  · have h := h.1 c1
    exact hQ _ _ _ h hR F
  · have h := h.2 c1
    exact hQ _ _ _ h hR F
def fy_X0_become_18 (n : Nat) (o0 : Nat)  (Qy : Yc → Prop) (Ly18 : Nat × Int32 → Yc → Prop) (t : Nat × Int32) (Y : Yc) : Prop := (∀ x1 : Int32, x1 = yI Y 1 o0 → ((x1 ≤ t.2 → Qy Y) ∧ (¬ x1 ≤ t.2 → (((nI (bl t.1)) ≤ t.2 → Qy Y) ∧ (¬ (nI (bl t.1)) ≤ t.2 → (vp_in t.2 (bl t.1) ∧ (∀ x10 : Int32, x10 = yA Y 0 t.1 t.2.toNatClampNeg → (vp_in t.2 (bl o0) ∧ (∀ x14 : Int32, x14 = t.2 + (1 : Int32) → Ly18 (t.1, x14) (uA Y 0 o0 t.2.toNatClampNeg (vp_nar .byte x10)))))))))))
set_option maxHeartbeats 4000000 in
set_option maxRecDepth 100000 in
theorem yf_X0_become_18 {n : Nat} {ad aa : Nat → Nat → Nat} {σ0 : Sto} {o0 : Nat} (ho0 : Ob n 0 o0) {Q : Sto → Prop} {Qy : Yc → Prop} {Ly18 : Nat × Int32 → Yc → Prop} {L18 : Option Nat × Int32 → Sto → Prop} (hQ : ∀ (σ' : Sto) (Y' : Yc), Qy Y' → HY n ad aa σ' Y' → Fy n ad aa σ0 σ' → Q σ') (hL18 : ∀ (t9 : Option Nat × Int32) (t : Nat × Int32) (σ : Sto) (Y : Yc), Ly18 t Y → HY n ad aa σ Y → Fy n ad aa σ0 σ → (((some (ad 0 t.1)), t.2) = t9 ∧ Ob n 0 t.1 ∧ True) → L18 t9 σ) : ∀ (t9 : Option Nat × Int32) (t : Nat × Int32) (σ : Sto) (Y : Yc), HY n ad aa σ Y → Fy n ad aa σ0 σ → (((some (ad 0 t.1)), t.2) = t9 ∧ Ob n 0 t.1 ∧ True) → fy_X0_become_18 n o0  Qy Ly18 t Y → f_X0_become_18 (ad 0 o0)  Q L18 t9 σ := by
  intro t9 t σ Y hR F hT h
  obtain ⟨rfl, hL_1, _⟩ := hT
  unfold fy_X0_become_18 at h
  unfold f_X0_become_18
  dsimp only
  refine ⟨hR.K ho0, ?_⟩
  intro x1 e2
  have e2 : x1 = yI Y 1 o0 := e2.trans (hR.I (x := 1) ho0 1 (by decide) rfl)
  have h := h x1 e2
  refine ⟨fun c3 => ?_, fun c3 => ?_⟩
  · have h := h.1 c3
    exact hQ _ _ h hR F
  · have h := h.2 c3
    refine ⟨_, rfl, ?_⟩
    refine ⟨hR.K hL_1, ?_⟩
    have a5 : sP σ (ad 0 t.1) 0 = some (aa 0 t.1) := hR.ar (x := 0) hL_1 0 (by decide) rfl (by decide)
    refine ⟨_, a5, ?_⟩
    refine ⟨hR.arK (x := 0) hL_1 0 (by decide) rfl (by decide), ?_⟩
    rw [show sN σ (aa 0 t.1) = (bl t.1) from hR.arN (x := 0) hL_1 0 (by decide) rfl (by decide)]
    refine ⟨fun c7 => ?_, fun c7 => ?_⟩
    · have h := h.1 c7
      exact hQ _ _ h hR F
    · have h := h.2 c7
      have a8 : sP σ (ad 0 o0) 0 = some (aa 0 o0) := hR.ar (x := 0) ho0 0 (by decide) rfl (by decide)
      have a9 : sP σ (ad 0 t.1) 0 = some (aa 0 t.1) := hR.ar (x := 0) hL_1 0 (by decide) rfl (by decide)
      have hz := h.1
      refine ⟨by first | exact hR.arV (x := 0) hL_1 0 (by decide) rfl (by decide) hz | exact hz, ?_⟩
      have h := h.2
      intro x10 e11
      have e11 : x10 = yA Y 0 t.1 t.2.toNatClampNeg := e11.trans (hR.A (x := 0) hL_1 0 (by decide) rfl (by decide) _)
      have h := h x10 e11
      refine ⟨_, a8, ?_⟩
      refine ⟨hR.arK (x := 0) ho0 0 (by decide) rfl (by decide), ?_⟩
      have hz := h.1
      refine ⟨by first | exact hR.arV (x := 0) ho0 0 (by decide) rfl (by decide) hz | exact hz, ?_⟩
      have h := h.2
      have w13 := hR.wA (x := 0) ho0 0 (by decide) rfl (by decide) (t.2.toNatClampNeg) (vp_nar .byte x10)
      have F := F.trans w13.2
      have hR := w13.1
      intro x14 e15
      have h := h x14 e15
      exact hL18 _ _ _ _ h hR F ⟨rfl, hL_1, trivial⟩
def wy_X0_become (n : Nat) (o0 : Nat) (p1 : Nat) (Y : Yc) (Qy : Yc → Prop) : Prop := (∀ x2 : Int32, x2 = yI Y 1 p1 → (wy_J9_min_7cf53 n x2 (nI (bl o0)) Y (fun (x10 : Int32) (Y7 : Yc) => LFy (fy_X0_become_18 n o0  Qy) (p1, (0 : Int32)) (uI Y7 1 o0 x10))))
set_option maxHeartbeats 4000000 in
set_option maxRecDepth 100000 in
theorem y_X0_become {n : Nat} {ad aa : Nat → Nat → Nat} {o0 : Nat} {p1 : Nat} {σ : Sto} {Y : Yc} {Q : Sto → Prop} {Qy : Yc → Prop} (hR : HY n ad aa σ Y) (ho0 : Ob n 0 o0) (hp1 : Ob n 0 p1) (h : wy_X0_become n o0 p1 Y Qy) (hQ : ∀ (σ' : Sto) (Y' : Yc), Qy Y' → HY n ad aa σ' Y' → Fy n ad aa σ σ' → Q σ') : wp_X0_become (ad 0 o0) (some (ad 0 p1)) σ Q := by
  have F : Fy n ad aa σ σ := Fy.rf
  unfold wy_X0_become at h
  unfold wp_X0_become
  refine ⟨_, rfl, ?_⟩
  refine ⟨hR.K hp1, ?_⟩
  intro x2 e3
  have e3 : x2 = yI Y 1 p1 := e3.trans (hR.I (x := 1) hp1 1 (by decide) rfl)
  have h := h x2 e3
  refine ⟨hR.K ho0, ?_⟩
  have a4 : sP σ (ad 0 o0) 0 = some (aa 0 o0) := hR.ar (x := 0) ho0 0 (by decide) rfl (by decide)
  refine ⟨_, a4, ?_⟩
  refine ⟨hR.arK (x := 0) ho0 0 (by decide) rfl (by decide), ?_⟩
  rw [show sN σ (aa 0 o0) = (bl o0) from hR.arN (x := 0) ho0 0 (by decide) rfl (by decide)]
  refine y_J9_min_7cf53 hR  h (fun x10 σ6 Y7 h hR9 f8 => ?_)
  have F := F.trans f8
  have hR := hR9
  refine ⟨hR.K ho0, ?_⟩
  have w13 := hR.wI (x := 1) ho0 1 (by decide) rfl x10
  have F := F.trans w13.2
  have hR := w13.1
  exact lfy (fun σ t9 t => ((some (ad 0 t.1)), t.2) = t9 ∧ Ob n 0 t.1 ∧ True) h hR F ⟨rfl, hp1, trivial⟩ (fun Ly L hL t9 t σ Y hR F hT h => yf_X0_become_18 ho0 hQ  hL t9 t σ Y hR F hT h)
def wy_X0_turnBit (n : Nat) (o0 : Nat) (p1 : Int32) (p2 : Int32) (Y : Yc) (Qy : Yc → Prop) : Prop := ((p1 < 0 → Qy Y) ∧ (¬ p1 < 0 → (∀ x2 : Int32, x2 = yI Y 1 o0 → ((x2 ≤ p1 → Qy Y) ∧ (¬ x2 ≤ p1 → (((nI (bl o0)) ≤ p1 → Qy Y) ∧ (¬ (nI (bl o0)) ≤ p1 → (vp_in p1 (bl o0) ∧ (∀ x10 : Int32, x10 = yA Y 0 o0 p1.toNatClampNeg → (∀ x12 : Int32, x12 = (x10 ^^^ ((1 : Int32) <<< (p2 &&& 31))).toInt8.toInt32 → (vp_in p1 (bl o0) ∧ Qy (uA Y 0 o0 p1.toNatClampNeg (vp_nar .byte x12)))))))))))))
set_option maxHeartbeats 4000000 in
set_option maxRecDepth 100000 in
theorem y_X0_turnBit {n : Nat} {ad aa : Nat → Nat → Nat} {o0 : Nat} {p1 : Int32} {p2 : Int32} {σ : Sto} {Y : Yc} {Q : Sto → Prop} {Qy : Yc → Prop} (hR : HY n ad aa σ Y) (ho0 : Ob n 0 o0) (h : wy_X0_turnBit n o0 p1 p2 Y Qy) (hQ : ∀ (σ' : Sto) (Y' : Yc), Qy Y' → HY n ad aa σ' Y' → Fy n ad aa σ σ' → Q σ') : wp_X0_turnBit (ad 0 o0) p1 p2 σ Q := by
  have F : Fy n ad aa σ σ := Fy.rf
  unfold wy_X0_turnBit at h
  unfold wp_X0_turnBit
  refine ⟨fun c1 => ?_, fun c1 => ?_⟩
  · have h := h.1 c1
    exact hQ _ _ h hR F
  · have h := h.2 c1
    refine ⟨hR.K ho0, ?_⟩
    intro x2 e3
    have e3 : x2 = yI Y 1 o0 := e3.trans (hR.I (x := 1) ho0 1 (by decide) rfl)
    have h := h x2 e3
    refine ⟨fun c4 => ?_, fun c4 => ?_⟩
    · have h := h.1 c4
      exact hQ _ _ h hR F
    · have h := h.2 c4
      have a5 : sP σ (ad 0 o0) 0 = some (aa 0 o0) := hR.ar (x := 0) ho0 0 (by decide) rfl (by decide)
      refine ⟨_, a5, ?_⟩
      refine ⟨hR.arK (x := 0) ho0 0 (by decide) rfl (by decide), ?_⟩
      rw [show sN σ (aa 0 o0) = (bl o0) from hR.arN (x := 0) ho0 0 (by decide) rfl (by decide)]
      refine ⟨fun c7 => ?_, fun c7 => ?_⟩
      · have h := h.1 c7
        exact hQ _ _ h hR F
      · have h := h.2 c7
        have a8 : sP σ (ad 0 o0) 0 = some (aa 0 o0) := hR.ar (x := 0) ho0 0 (by decide) rfl (by decide)
        have a9 : sP σ (ad 0 o0) 0 = some (aa 0 o0) := hR.ar (x := 0) ho0 0 (by decide) rfl (by decide)
        have hz := h.1
        refine ⟨by first | exact hR.arV (x := 0) ho0 0 (by decide) rfl (by decide) hz | exact hz, ?_⟩
        have h := h.2
        intro x10 e11
        have e11 : x10 = yA Y 0 o0 p1.toNatClampNeg := e11.trans (hR.A (x := 0) ho0 0 (by decide) rfl (by decide) _)
        have h := h x10 e11
        intro x12 e13
        have h := h x12 e13
        have hz := h.1
        refine ⟨by first | exact hR.arV (x := 0) ho0 0 (by decide) rfl (by decide) hz | exact hz, ?_⟩
        have h := h.2
        have w14 := hR.wA (x := 0) ho0 0 (by decide) rfl (by decide) (p1.toNatClampNeg) (vp_nar .byte x12)
        have F := F.trans w14.2
        have hR := w14.1
        exact hQ _ _ h hR F
def wy_X1_begin (n : Nat) (o0 : Nat) (p1 : Option Rq) (Y : Yc) (Qy : Yc → Prop) : Prop := (∃ w4 : Rq, p1 = some w4 ∧ (∀ x6 : Int32, x6 = w4.2.1 → Qy (uI (uI (uI (uI (uP Y 100 o0 p1) 101 o0 x6) 102 o0 (1 : Int32)) 106 o0 (0 : Int32)) 107 o0 (0 : Int32))))
set_option maxHeartbeats 4000000 in
set_option maxRecDepth 100000 in
theorem y_X1_begin {n : Nat} {ad aa : Nat → Nat → Nat} {o0 : Nat} {p1 : Option Rq} {σ : Sto} {Y : Yc} {Q : Sto → Prop} {Qy : Yc → Prop} (hR : HY n ad aa σ Y) (ho0 : Ob n 1 o0) {ap1 : Option Nat} (hp1 : rq σ ap1 p1) (h : wy_X1_begin n o0 p1 Y Qy) (hQ : ∀ (σ' : Sto) (Y' : Yc), Qy Y' → HY n ad aa σ' Y' → Fy n ad aa σ σ' → Q σ') : wp_X1_begin (ad 1 o0) ap1 σ Q := by
  have F : Fy n ad aa σ σ := Fy.rf
  unfold wy_X1_begin at h
  unfold wp_X1_begin
  refine ⟨hR.K ho0, ?_⟩
  have w1 := hR.wP (x := 100) ho0 0 (by decide) rfl (by decide) hp1
  have hp1 := rq.mv hR w1.2 hp1
  have F := F.trans w1.2
  have hR := w1.1
  obtain ⟨w4, ew5, h⟩ := h
  obtain ⟨b2, c3⟩ := rq_ex hp1 ew5
  refine ⟨b2, c3, ?_⟩
  refine ⟨(rq_get hp1 c3 ew5).1, ?_⟩
  intro x6 e7
  have e7 : x6 = w4.2.1 := e7.trans ((rq_get hp1 c3 ew5).2.2.1)
  have h := h x6 e7
  have w8 := hR.wI (x := 101) ho0 1 (by decide) rfl x6
  have hp1 := rq.mv hR w8.2 hp1
  have F := F.trans w8.2
  have hR := w8.1
  have w9 := hR.wI (x := 102) ho0 2 (by decide) rfl (1 : Int32)
  have hp1 := rq.mv hR w9.2 hp1
  have F := F.trans w9.2
  have hR := w9.1
  have w10 := hR.wI (x := 106) ho0 6 (by decide) rfl (0 : Int32)
  have hp1 := rq.mv hR w10.2 hp1
  have F := F.trans w10.2
  have hR := w10.1
  have w11 := hR.wI (x := 107) ho0 7 (by decide) rfl (0 : Int32)
  have hp1 := rq.mv hR w11.2 hp1
  have F := F.trans w11.2
  have hR := w11.1
  exact hQ _ _ h hR F
def wy_X6_begin (n : Nat) (o0 : Nat) (p1 : Option Rq) (p2 : Int64) (p4 : Int32) (Y : Yc) (Qy : Yc → Prop) : Prop := Qy (uI (uI (uI (uJ (uP Y 600 o0 p1) 601 o0 p2) 602 o0 p4) 603 o0 (0 : Int32)) 604 o0 (0 : Int32))
set_option maxHeartbeats 4000000 in
set_option maxRecDepth 100000 in
theorem y_X6_begin {n : Nat} {ad aa : Nat → Nat → Nat} {o0 : Nat} {p1 : Option Rq} {p2 : Int64} {p4 : Int32} {σ : Sto} {Y : Yc} {Q : Sto → Prop} {Qy : Yc → Prop} (hR : HY n ad aa σ Y) (ho0 : Ob n 6 o0) {ap1 : Option Nat} (hp1 : rq σ ap1 p1) (h : wy_X6_begin n o0 p1 p2 p4 Y Qy) (hQ : ∀ (σ' : Sto) (Y' : Yc), Qy Y' → HY n ad aa σ' Y' → Fy n ad aa σ σ' → Q σ') : wp_X6_begin (ad 6 o0) ap1 p2 p4 σ Q := by
  have F : Fy n ad aa σ σ := Fy.rf
  unfold wy_X6_begin at h
  unfold wp_X6_begin
  refine ⟨hR.K ho0, ?_⟩
  have w1 := hR.wP (x := 600) ho0 0 (by decide) rfl (by decide) hp1
  have hp1 := rq.mv hR w1.2 hp1
  have F := F.trans w1.2
  have hR := w1.1
  have w2 := hR.wJ (x := 601) ho0 1 (by decide) rfl p2
  have hp1 := rq.mv hR w2.2 hp1
  have F := F.trans w2.2
  have hR := w2.1
  have w3 := hR.wI (x := 602) ho0 2 (by decide) rfl p4
  have hp1 := rq.mv hR w3.2 hp1
  have F := F.trans w3.2
  have hR := w3.1
  have w4 := hR.wI (x := 603) ho0 3 (by decide) rfl (0 : Int32)
  have hp1 := rq.mv hR w4.2 hp1
  have F := F.trans w4.2
  have hR := w4.1
  have w5 := hR.wI (x := 604) ho0 4 (by decide) rfl (0 : Int32)
  have hp1 := rq.mv hR w5.2 hp1
  have F := F.trans w5.2
  have hR := w5.1
  exact hQ _ _ h hR F
def by_X1_placeOf_92 (n : Nat) (o0 : Nat)  (Qy : Nat → Yc → Prop) (p1 : Int64) (p3 : Int32) (Y : Yc) : Prop := (∀ x2 : Int32, x2 = yI Y 106 o0 → (∀ x4 : Int32, x4 = yI Y 107 o0 → (∀ x6 : Int32, x6 = ((x2 + x4) - (1 : Int32)) &&& (63 : Int32) → (vp_in x6 64 ∧ (∀ q14 : Option Rq, q14 = yP Y 100 o0 → (wy_X6_begin n (4 + 64 * o0 + x6.toNatClampNeg) q14 p1 p3 Y (fun (Y19 : Yc) => Qy (4 + 64 * o0 + x6.toNatClampNeg) Y19)))))))
set_option maxHeartbeats 4000000 in
set_option maxRecDepth 100000 in
theorem yb_X1_placeOf_92 {n : Nat} {ad aa : Nat → Nat → Nat} {σ0 : Sto} {o0 : Nat} (ho0 : Ob n 1 o0) {Q : Option Nat → Sto → Prop} {Qy : Nat → Yc → Prop} (hQ : ∀ (o : Nat) (σ' : Sto) (Y' : Yc), Qy o Y' → Ob n 6 o → HY n ad aa σ' Y' → Fy n ad aa σ0 σ' → Q (some (ad 6 o)) σ')  (p1 : Int64) (p3 : Int32) (σ : Sto) (Y : Yc) (hR : HY n ad aa σ Y) (F : Fy n ad aa σ0 σ) (h : by_X1_placeOf_92 n o0  Qy p1 p3 Y) : b_X1_placeOf_92 (ad 1 o0)  Q p1 p3 σ := by
  unfold by_X1_placeOf_92 at h
  unfold b_X1_placeOf_92
  refine ⟨hR.K ho0, ?_⟩
  have a1 : sP σ (ad 1 o0) 5 = some (aa 105 o0) := hR.ar (x := 105) ho0 5 (by decide) rfl (by decide)
  intro x2 e3
  have e3 : x2 = yI Y 106 o0 := e3.trans (hR.I (x := 106) ho0 6 (by decide) rfl)
  have h := h x2 e3
  intro x4 e5
  have e5 : x4 = yI Y 107 o0 := e5.trans (hR.I (x := 107) ho0 7 (by decide) rfl)
  have h := h x4 e5
  intro x6 e7
  have h := h x6 e7
  refine ⟨_, a1, ?_⟩
  refine ⟨hR.arK (x := 105) ho0 5 (by decide) rfl (by decide), ?_⟩
  have hz := h.1
  refine ⟨by first | exact hR.arV (x := 105) ho0 5 (by decide) rfl (by decide) hz | exact hz, ?_⟩
  have h := h.2
  have hO12 : Ob n 6 (4 + 64 * o0 + x6.toNatClampNeg) := ob_105 ho0 hz
  intro r10 e11
  have e11 := e11.trans (hR.el (x := 105) ho0 5 (by decide) rfl (by decide) (el_105 hz))
  subst e11
  obtain ⟨q14, e15⟩ : ∃ z, z = yP Y 100 o0 := ⟨_, rfl⟩
  have h := h q14 e15
  have hr16 := rq_of (hR.P (x := 100) ho0 0 (by decide) rfl (by decide)) rfl e15
  refine ⟨_, rfl, ?_⟩
  refine ⟨hR.K hO12, ?_⟩
  refine y_X6_begin hR hO12 hr16 h (fun σ18 Y19 h hR21 f20 => ?_)
  have F := F.trans f20
  have hR := hR21
  exact hQ _ _ _ h hO12 hR F
def by_X1_placeOf_51 (n : Nat) (o0 : Nat)  (Ly3 : Int64 × Int32 × Int32 → Yc → Prop) (Qy : Nat → Yc → Prop) (p1 : Int64) (p3 : Int32) (p4 : Int32) (Y : Yc) : Prop := (∀ x1 : Int32, x1 = p4 + (1 : Int32) → Ly3 (p1, p3, x1) Y)
set_option maxHeartbeats 4000000 in
set_option maxRecDepth 100000 in
theorem yb_X1_placeOf_51 {n : Nat} {ad aa : Nat → Nat → Nat} {σ0 : Sto} {o0 : Nat} (ho0 : Ob n 1 o0) {Ly3 : Int64 × Int32 × Int32 → Yc → Prop} {L3 : Int64 × Int32 × Int32 → Sto → Prop} {Q : Option Nat → Sto → Prop} {Qy : Nat → Yc → Prop} (hQ : ∀ (o : Nat) (σ' : Sto) (Y' : Yc), Qy o Y' → Ob n 6 o → HY n ad aa σ' Y' → Fy n ad aa σ0 σ' → Q (some (ad 6 o)) σ') (hL3 : ∀ (t9 : Int64 × Int32 × Int32) (t : Int64 × Int32 × Int32) (σ : Sto) (Y : Yc), Ly3 t Y → HY n ad aa σ Y → Fy n ad aa σ0 σ → ((t.1, t.2.1, t.2.2) = t9 ∧ True) → L3 t9 σ) (p1 : Int64) (p3 : Int32) (p4 : Int32) (σ : Sto) (Y : Yc) (hR : HY n ad aa σ Y) (F : Fy n ad aa σ0 σ) (h : by_X1_placeOf_51 n o0 Ly3 Qy p1 p3 p4 Y) : b_X1_placeOf_51 (ad 1 o0) L3 Q p1 p3 p4 σ := by
  unfold by_X1_placeOf_51 at h
  unfold b_X1_placeOf_51
  intro x1 e2
  have h := h x1 e2
  exact hL3 _ _ _ _ h hR F ⟨rfl, trivial⟩
def fy_X1_placeOf_3 (n : Nat) (o0 : Nat)  (Qy : Nat → Yc → Prop) (Ly3 : Int64 × Int32 × Int32 → Yc → Prop) (t : Int64 × Int32 × Int32) (Y : Yc) : Prop := (∀ x1 : Int32, x1 = yI Y 107 o0 → ((x1 ≤ t.2.2 → (∀ x4 : Int32, x4 = yI Y 107 o0 → (((64 : Int32) ≤ x4 → (∀ x7 : Int32, x7 = yI Y 106 o0 → (∀ x9 : Int32, x9 = (x7 + (1 : Int32)) &&& (63 : Int32) → by_X1_placeOf_92 n o0  Qy t.1 t.2.1 (uI Y 106 o0 x9)))) ∧ (¬ (64 : Int32) ≤ x4 → (∀ x12 : Int32, x12 = yI Y 107 o0 → (∀ x14 : Int32, x14 = x12 + (1 : Int32) → by_X1_placeOf_92 n o0  Qy t.1 t.2.1 (uI Y 107 o0 x14))))))) ∧ (¬ x1 ≤ t.2.2 → (∀ x18 : Int32, x18 = yI Y 106 o0 → (∀ x20 : Int32, x20 = (x18 + t.2.2) &&& (63 : Int32) → (vp_in x20 64 ∧ (∀ y28 : Int64, y28 = yJ Y 601 (4 + 64 * o0 + x20.toNatClampNeg) → ((¬ (lg_cmp y28 t.1) = 0 → by_X1_placeOf_51 n o0 Ly3 Qy t.1 t.2.1 t.2.2 Y) ∧ ((lg_cmp y28 t.1) = 0 → (∀ x31 : Int32, x31 = yI Y 602 (4 + 64 * o0 + x20.toNatClampNeg) → ((¬ x31 = t.2.1 → by_X1_placeOf_51 n o0 Ly3 Qy t.1 t.2.1 t.2.2 Y) ∧ (x31 = t.2.1 → Qy (4 + 64 * o0 + x20.toNatClampNeg) Y))))))))))))
set_option maxHeartbeats 4000000 in
set_option maxRecDepth 100000 in
theorem yf_X1_placeOf_3 {n : Nat} {ad aa : Nat → Nat → Nat} {σ0 : Sto} {o0 : Nat} (ho0 : Ob n 1 o0) {Q : Option Nat → Sto → Prop} {Qy : Nat → Yc → Prop} {Ly3 : Int64 × Int32 × Int32 → Yc → Prop} {L3 : Int64 × Int32 × Int32 → Sto → Prop} (hQ : ∀ (o : Nat) (σ' : Sto) (Y' : Yc), Qy o Y' → Ob n 6 o → HY n ad aa σ' Y' → Fy n ad aa σ0 σ' → Q (some (ad 6 o)) σ') (hL3 : ∀ (t9 : Int64 × Int32 × Int32) (t : Int64 × Int32 × Int32) (σ : Sto) (Y : Yc), Ly3 t Y → HY n ad aa σ Y → Fy n ad aa σ0 σ → ((t.1, t.2.1, t.2.2) = t9 ∧ True) → L3 t9 σ) : ∀ (t9 : Int64 × Int32 × Int32) (t : Int64 × Int32 × Int32) (σ : Sto) (Y : Yc), HY n ad aa σ Y → Fy n ad aa σ0 σ → ((t.1, t.2.1, t.2.2) = t9 ∧ True) → fy_X1_placeOf_3 n o0  Qy Ly3 t Y → f_X1_placeOf_3 (ad 1 o0)  Q L3 t9 σ := by
  intro t9 t σ Y hR F hT h
  obtain ⟨rfl, _⟩ := hT
  unfold fy_X1_placeOf_3 at h
  unfold f_X1_placeOf_3
  dsimp only
  refine ⟨hR.K ho0, ?_⟩
  intro x1 e2
  have e2 : x1 = yI Y 107 o0 := e2.trans (hR.I (x := 107) ho0 7 (by decide) rfl)
  have h := h x1 e2
  refine ⟨fun c3 => ?_, fun c3 => ?_⟩
  · have h := h.1 c3
    intro x4 e5
    have e5 : x4 = yI Y 107 o0 := e5.trans (hR.I (x := 107) ho0 7 (by decide) rfl)
    have h := h x4 e5
    refine ⟨fun c6 => ?_, fun c6 => ?_⟩
    · have h := h.1 c6
      intro x7 e8
      have e8 : x7 = yI Y 106 o0 := e8.trans (hR.I (x := 106) ho0 6 (by decide) rfl)
      have h := h x7 e8
      intro x9 e10
      have h := h x9 e10
      have w11 := hR.wI (x := 106) ho0 6 (by decide) rfl x9
      have F := F.trans w11.2
      have hR := w11.1
      exact yb_X1_placeOf_92 ho0 hQ  t.1 t.2.1 _ _ hR F  h
    · have h := h.2 c6
      intro x12 e13
      have e13 : x12 = yI Y 107 o0 := e13.trans (hR.I (x := 107) ho0 7 (by decide) rfl)
      have h := h x12 e13
      intro x14 e15
      have h := h x14 e15
      have w16 := hR.wI (x := 107) ho0 7 (by decide) rfl x14
      have F := F.trans w16.2
      have hR := w16.1
      exact yb_X1_placeOf_92 ho0 hQ  t.1 t.2.1 _ _ hR F  h
  · have h := h.2 c3
    have a17 : sP σ (ad 1 o0) 5 = some (aa 105 o0) := hR.ar (x := 105) ho0 5 (by decide) rfl (by decide)
    intro x18 e19
    have e19 : x18 = yI Y 106 o0 := e19.trans (hR.I (x := 106) ho0 6 (by decide) rfl)
    have h := h x18 e19
    intro x20 e21
    have h := h x20 e21
    refine ⟨_, a17, ?_⟩
    refine ⟨hR.arK (x := 105) ho0 5 (by decide) rfl (by decide), ?_⟩
    have hz := h.1
    refine ⟨by first | exact hR.arV (x := 105) ho0 5 (by decide) rfl (by decide) hz | exact hz, ?_⟩
    have h := h.2
    have hO26 : Ob n 6 (4 + 64 * o0 + x20.toNatClampNeg) := ob_105 ho0 hz
    intro r24 e25
    have e25 := e25.trans (hR.el (x := 105) ho0 5 (by decide) rfl (by decide) (el_105 hz))
    subst e25
    refine ⟨_, rfl, ?_⟩
    refine ⟨hR.K hO26, ?_⟩
    intro y28 e29
    have e29 : y28 = yJ Y 601 (4 + 64 * o0 + x20.toNatClampNeg) := e29.trans (hR.J (x := 601) hO26 1 (by decide) rfl)
    have h := h y28 e29
    refine ⟨fun c30 => ?_, fun c30 => ?_⟩
    · have h := h.1 c30
      exact yb_X1_placeOf_51 ho0 hQ hL3 t.1 t.2.1 t.2.2 _ _ hR F  h
    · have h := h.2 c30
      intro x31 e32
      have e32 : x31 = yI Y 602 (4 + 64 * o0 + x20.toNatClampNeg) := e32.trans (hR.I (x := 602) hO26 2 (by decide) rfl)
      have h := h x31 e32
      refine ⟨fun c33 => ?_, fun c33 => ?_⟩
      · have h := h.1 c33
        exact yb_X1_placeOf_51 ho0 hQ hL3 t.1 t.2.1 t.2.2 _ _ hR F  h
      · have h := h.2 c33
        exact hQ _ _ _ h hO26 hR F
def wy_X1_placeOf (n : Nat) (o0 : Nat) (p1 : Int64) (p3 : Int32) (Y : Yc) (Qy : Nat → Yc → Prop) : Prop := LFy (fy_X1_placeOf_3 n o0  Qy) (p1, p3, (0 : Int32)) Y
set_option maxHeartbeats 4000000 in
set_option maxRecDepth 100000 in
theorem y_X1_placeOf {n : Nat} {ad aa : Nat → Nat → Nat} {o0 : Nat} {p1 : Int64} {p3 : Int32} {σ : Sto} {Y : Yc} {Q : Option Nat → Sto → Prop} {Qy : Nat → Yc → Prop} (hR : HY n ad aa σ Y) (ho0 : Ob n 1 o0) (h : wy_X1_placeOf n o0 p1 p3 Y Qy) (hQ : ∀ (o : Nat) (σ' : Sto) (Y' : Yc), Qy o Y' → Ob n 6 o → HY n ad aa σ' Y' → Fy n ad aa σ σ' → Q (some (ad 6 o)) σ') : wp_X1_placeOf (ad 1 o0) p1 p3 σ Q := by
  have F : Fy n ad aa σ σ := Fy.rf
  unfold wy_X1_placeOf at h
  unfold wp_X1_placeOf
  exact lfy (fun σ t9 t => (t.1, t.2.1, t.2.2) = t9 ∧ True) h hR F ⟨rfl, trivial⟩ (fun Ly L hL t9 t σ Y hR F hT h => yf_X1_placeOf_3 ho0 hQ  hL t9 t σ Y hR F hT h)
def wy_J6_bitCount_0f7a4 (n : Nat) (p0 : Int32) (Y : Yc) (Qy : Int32 → Yc → Prop) : Prop := (∀ x1 : Int32, x1 = p0 - (((p0.toUInt32 >>> ((1 : Int32).toUInt32 &&& Int32.toUInt32 31)).toInt32) &&& (1431655765 : Int32)) → (∀ x3 : Int32, x3 = (x1 &&& (858993459 : Int32)) + (((x1.toUInt32 >>> ((2 : Int32).toUInt32 &&& Int32.toUInt32 31)).toInt32) &&& (858993459 : Int32)) → (∀ x5 : Int32, x5 = (x3 + ((x3.toUInt32 >>> ((4 : Int32).toUInt32 &&& Int32.toUInt32 31)).toInt32)) &&& (252645135 : Int32) → (∀ x7 : Int32, x7 = x5 + ((x5.toUInt32 >>> ((8 : Int32).toUInt32 &&& Int32.toUInt32 31)).toInt32) → (∀ x9 : Int32, x9 = x7 + ((x7.toUInt32 >>> ((16 : Int32).toUInt32 &&& Int32.toUInt32 31)).toInt32) → Qy (x9 &&& (63 : Int32)) Y)))))
set_option maxHeartbeats 4000000 in
set_option maxRecDepth 100000 in
theorem y_J6_bitCount_0f7a4 {n : Nat} {ad aa : Nat → Nat → Nat} {p0 : Int32} {σ : Sto} {Y : Yc} {Q : Int32 → Sto → Prop} {Qy : Int32 → Yc → Prop} (hR : HY n ad aa σ Y) (h : wy_J6_bitCount_0f7a4 n p0 Y Qy) (hQ : ∀ (r : Int32) (σ' : Sto) (Y' : Yc), Qy r Y' → HY n ad aa σ' Y' → Fy n ad aa σ σ' → Q r σ') : wp_J6_bitCount_0f7a4 p0 σ Q := by
  have F : Fy n ad aa σ σ := Fy.rf
  unfold wy_J6_bitCount_0f7a4 at h
  unfold wp_J6_bitCount_0f7a4
  intro x1 e2
  have h := h x1 e2
  intro x3 e4
  have h := h x3 e4
  intro x5 e6
  have h := h x5 e6
  intro x7 e8
  have h := h x7 e8
  intro x9 e10
  have h := h x9 e10
  exact hQ _ _ _ h hR F
def wy_X6_become (n : Nat) (o0 : Nat) (p1 : Nat) (Y : Yc) (Qy : Yc → Prop) : Prop := (∀ q3 : Option Rq, q3 = yP Y 600 p1 → (∀ y10 : Int64, y10 = yJ (uP Y 600 o0 q3) 601 p1 → (∀ x13 : Int32, x13 = yI (uJ (uP Y 600 o0 q3) 601 o0 y10) 602 p1 → (∀ x16 : Int32, x16 = yI (uI (uJ (uP Y 600 o0 q3) 601 o0 y10) 602 o0 x13) 603 p1 → (∀ x19 : Int32, x19 = yI (uI (uI (uJ (uP Y 600 o0 q3) 601 o0 y10) 602 o0 x13) 603 o0 x16) 604 p1 → Qy (uI (uI (uI (uJ (uP Y 600 o0 q3) 601 o0 y10) 602 o0 x13) 603 o0 x16) 604 o0 x19))))))
set_option maxHeartbeats 4000000 in
set_option maxRecDepth 100000 in
theorem y_X6_become {n : Nat} {ad aa : Nat → Nat → Nat} {o0 : Nat} {p1 : Nat} {σ : Sto} {Y : Yc} {Q : Sto → Prop} {Qy : Yc → Prop} (hR : HY n ad aa σ Y) (ho0 : Ob n 6 o0) (hp1 : Ob n 6 p1) (h : wy_X6_become n o0 p1 Y Qy) (hQ : ∀ (σ' : Sto) (Y' : Yc), Qy Y' → HY n ad aa σ' Y' → Fy n ad aa σ σ' → Q σ') : wp_X6_become (ad 6 o0) (some (ad 6 p1)) σ Q := by
  have F : Fy n ad aa σ σ := Fy.rf
  unfold wy_X6_become at h
  unfold wp_X6_become
  refine ⟨_, rfl, ?_⟩
  refine ⟨hR.K hp1, ?_⟩
  obtain ⟨q3, e4⟩ : ∃ z, z = yP Y 600 p1 := ⟨_, rfl⟩
  have h := h q3 e4
  have hr5 := rq_of (hR.P (x := 600) hp1 0 (by decide) rfl (by decide)) rfl e4
  intro r6 e7
  have hr8 := rq_of hr5 e7 rfl
  refine ⟨hR.K ho0, ?_⟩
  have w9 := hR.wP (x := 600) ho0 0 (by decide) rfl (by decide) hr8
  have F := F.trans w9.2
  have hR := w9.1
  intro y10 e11
  have e11 : y10 = yJ (uP Y 600 o0 q3) 601 p1 := e11.trans (hR.J (x := 601) hp1 1 (by decide) rfl)
  have h := h y10 e11
  have w12 := hR.wJ (x := 601) ho0 1 (by decide) rfl y10
  have F := F.trans w12.2
  have hR := w12.1
  intro x13 e14
  have e14 : x13 = yI (uJ (uP Y 600 o0 q3) 601 o0 y10) 602 p1 := e14.trans (hR.I (x := 602) hp1 2 (by decide) rfl)
  have h := h x13 e14
  have w15 := hR.wI (x := 602) ho0 2 (by decide) rfl x13
  have F := F.trans w15.2
  have hR := w15.1
  intro x16 e17
  have e17 : x16 = yI (uI (uJ (uP Y 600 o0 q3) 601 o0 y10) 602 o0 x13) 603 p1 := e17.trans (hR.I (x := 603) hp1 3 (by decide) rfl)
  have h := h x16 e17
  have w18 := hR.wI (x := 603) ho0 3 (by decide) rfl x16
  have F := F.trans w18.2
  have hR := w18.1
  intro x19 e20
  have e20 : x19 = yI (uI (uI (uJ (uP Y 600 o0 q3) 601 o0 y10) 602 o0 x13) 603 o0 x16) 604 p1 := e20.trans (hR.I (x := 604) hp1 4 (by decide) rfl)
  have h := h x19 e20
  have w21 := hR.wI (x := 604) ho0 4 (by decide) rfl x19
  have F := F.trans w21.2
  have hR := w21.1
  exact hQ _ _ h hR F
def by_X1_hearReply_84 (n : Nat) (o0 : Nat)  (Qy : Int32 → Yc → Prop) (p3 : Int32) (p4 : Nat) (s0 : Int32) (Y : Yc) : Prop := ((s0 = 0 → Qy (0 : Int32) Y) ∧ (¬ s0 = 0 → (∀ x3 : Int32, x3 = yI Y 603 p4 → (wy_J6_bitCount_0f7a4 n x3 Y (fun (x9 : Int32) (Y6 : Yc) => ((p3 ≤ x9 → (wy_X6_become n o0 p4 (uI Y6 102 o0 (0 : Int32)) (fun (Y17 : Yc) => Qy (1 : Int32) Y17))) ∧ (¬ p3 ≤ x9 → Qy (0 : Int32) Y6)))))))
set_option maxHeartbeats 4000000 in
set_option maxRecDepth 100000 in
theorem yb_X1_hearReply_84 {n : Nat} {ad aa : Nat → Nat → Nat} {σ0 : Sto} {o0 : Nat} (ho0 : Ob n 1 o0) {Q : Int32 → Sto → Prop} {Qy : Int32 → Yc → Prop} (hQ : ∀ (r : Int32) (σ' : Sto) (Y' : Yc), Qy r Y' → HY n ad aa σ' Y' → Fy n ad aa σ0 σ' → Q r σ')  (p3 : Int32) (p4 : Nat) (s0 : Int32) (σ : Sto) (Y : Yc) (hR : HY n ad aa σ Y) (F : Fy n ad aa σ0 σ) (hp4 : Ob n 6 p4) (h : by_X1_hearReply_84 n o0  Qy p3 p4 s0 Y) : b_X1_hearReply_84 (ad 1 o0)  Q p3 (some (ad 6 p4)) s0 σ := by
  unfold by_X1_hearReply_84 at h
  unfold b_X1_hearReply_84
  refine ⟨fun c1 => ?_, fun c1 => ?_⟩
  · have h := h.1 c1
    exact hQ _ _ _ h hR F
  · have h := h.2 c1
    refine ⟨_, rfl, ?_⟩
    refine ⟨hR.K hp4, ?_⟩
    intro x3 e4
    have e4 : x3 = yI Y 603 p4 := e4.trans (hR.I (x := 603) hp4 3 (by decide) rfl)
    have h := h x3 e4
    refine y_J6_bitCount_0f7a4 hR  h (fun x9 σ5 Y6 h hR8 f7 => ?_)
    have F := F.trans f7
    have hR := hR8
    refine ⟨fun c12 => ?_, fun c12 => ?_⟩
    · have h := h.1 c12
      refine ⟨hR.K ho0, ?_⟩
      have w13 := hR.wI (x := 102) ho0 2 (by decide) rfl (0 : Int32)
      have F := F.trans w13.2
      have hR := w13.1
      have a14 : sP σ5 (ad 1 o0) 4 = some (ad 6 o0) := hR.lk ho0 4 (by decide) rfl
      refine ⟨_, a14, ?_⟩
      refine ⟨hR.K (ob_104 ho0), ?_⟩
      refine y_X6_become hR (ob_104 ho0) hp4 h (fun σ16 Y17 h hR19 f18 => ?_)
      have F := F.trans f18
      have hR := hR19
      exact hQ _ _ _ h hR F
    · have h := h.2 c12
      exact hQ _ _ _ h hR F
def by_X1_hearReply_66 (n : Nat) (o0 : Nat)  (Qy : Int32 → Yc → Prop) (p2 : Int32) (p3 : Int32) (p4 : Nat) (Y : Yc) : Prop := (∀ x2 : Int32, x2 = yI Y 603 p4 → ((¬ ((x2 >>> (p2 &&& 31)) &&& (1 : Int32)) = (1 : Int32) → by_X1_hearReply_84 n o0  Qy p3 p4 (0 : Int32) Y) ∧ (((x2 >>> (p2 &&& 31)) &&& (1 : Int32)) = (1 : Int32) → by_X1_hearReply_84 n o0  Qy p3 p4 (1 : Int32) Y)))
set_option maxHeartbeats 4000000 in
set_option maxRecDepth 100000 in
theorem yb_X1_hearReply_66 {n : Nat} {ad aa : Nat → Nat → Nat} {σ0 : Sto} {o0 : Nat} (ho0 : Ob n 1 o0) {Q : Int32 → Sto → Prop} {Qy : Int32 → Yc → Prop} (hQ : ∀ (r : Int32) (σ' : Sto) (Y' : Yc), Qy r Y' → HY n ad aa σ' Y' → Fy n ad aa σ0 σ' → Q r σ')  (p2 : Int32) (p3 : Int32) (p4 : Nat) (σ : Sto) (Y : Yc) (hR : HY n ad aa σ Y) (F : Fy n ad aa σ0 σ) (hp4 : Ob n 6 p4) (h : by_X1_hearReply_66 n o0  Qy p2 p3 p4 Y) : b_X1_hearReply_66 (ad 1 o0)  Q p2 p3 (some (ad 6 p4)) σ := by
  unfold by_X1_hearReply_66 at h
  unfold b_X1_hearReply_66
  refine ⟨_, rfl, ?_⟩
  refine ⟨hR.K hp4, ?_⟩
  intro x2 e3
  have e3 : x2 = yI Y 603 p4 := e3.trans (hR.I (x := 603) hp4 3 (by decide) rfl)
  have h := h x2 e3
  refine ⟨fun c4 => ?_, fun c4 => ?_⟩
  · have h := h.1 c4
    exact yb_X1_hearReply_84 ho0 hQ  p3 p4 (0 : Int32) _ _ hR F hp4 h
  · have h := h.2 c4
    exact yb_X1_hearReply_84 ho0 hQ  p3 p4 (1 : Int32) _ _ hR F hp4 h
def wy_X1_hearReply (n : Nat) (o0 : Nat) (p1 : Nat) (p2 : Int32) (p3 : Int32) (Y : Yc) (Qy : Int32 → Yc → Prop) : Prop := (∀ x1 : Int32, x1 = yI Y 102 o0 → ((x1 = 0 → Qy (0 : Int32) Y) ∧ (¬ x1 = 0 → (∀ x5 : Int32, x5 = yI Y 308 p1 → (∀ x7 : Int32, x7 = yI Y 101 o0 → ((x5 = x7 → (∀ y10 : Int64, y10 = yJ Y 304 p1 → (∀ x12 : Int32, x12 = yI Y 306 p1 → (wy_X1_placeOf n o0 y10 x12 Y (fun (o18 : Nat) (Y15 : Yc) => (∀ x22 : Int32, x22 = yI Y15 603 o18 → (∀ x24 : Int32, x24 = yI Y15 302 p1 → (∀ x26 : Int32, x26 = x22 ||| ((1 : Int32) <<< (x24 &&& 31)) → (∀ x29 : Int32, x29 = yI (uI Y15 603 o18 x26) 309 p1 → ((x29 = 0 → by_X1_hearReply_66 n o0  Qy p2 p3 o18 (uI Y15 603 o18 x26)) ∧ (¬ x29 = 0 → (∀ x32 : Int32, x32 = yI (uI Y15 603 o18 x26) 310 p1 → by_X1_hearReply_66 n o0  Qy p2 p3 o18 (uI (uI Y15 603 o18 x26) 604 o18 x32))))))))))))) ∧ (¬ x5 = x7 → Qy (0 : Int32) Y)))))))
set_option maxHeartbeats 4000000 in
set_option maxRecDepth 100000 in
theorem y_X1_hearReply {n : Nat} {ad aa : Nat → Nat → Nat} {o0 : Nat} {p1 : Nat} {p2 : Int32} {p3 : Int32} {σ : Sto} {Y : Yc} {Q : Int32 → Sto → Prop} {Qy : Int32 → Yc → Prop} (hR : HY n ad aa σ Y) (ho0 : Ob n 1 o0) (hp1 : Ob n 3 p1) (h : wy_X1_hearReply n o0 p1 p2 p3 Y Qy) (hQ : ∀ (r : Int32) (σ' : Sto) (Y' : Yc), Qy r Y' → HY n ad aa σ' Y' → Fy n ad aa σ σ' → Q r σ') : wp_X1_hearReply (ad 1 o0) (some (ad 3 p1)) p2 p3 σ Q := by
  have F : Fy n ad aa σ σ := Fy.rf
  unfold wy_X1_hearReply at h
  unfold wp_X1_hearReply
  refine ⟨hR.K ho0, ?_⟩
  intro x1 e2
  have e2 : x1 = yI Y 102 o0 := e2.trans (hR.I (x := 102) ho0 2 (by decide) rfl)
  have h := h x1 e2
  refine ⟨fun c3 => ?_, fun c3 => ?_⟩
  · have h := h.1 c3
    exact hQ _ _ _ h hR F
  · have h := h.2 c3
    refine ⟨_, rfl, ?_⟩
    refine ⟨hR.K hp1, ?_⟩
    intro x5 e6
    have e6 : x5 = yI Y 308 p1 := e6.trans (hR.I (x := 308) hp1 8 (by decide) rfl)
    have h := h x5 e6
    intro x7 e8
    have e8 : x7 = yI Y 101 o0 := e8.trans (hR.I (x := 101) ho0 1 (by decide) rfl)
    have h := h x7 e8
    refine ⟨fun c9 => ?_, fun c9 => ?_⟩
    · have h := h.1 c9
      intro y10 e11
      have e11 : y10 = yJ Y 304 p1 := e11.trans (hR.J (x := 304) hp1 4 (by decide) rfl)
      have h := h y10 e11
      intro x12 e13
      have e13 : x12 = yI Y 306 p1 := e13.trans (hR.I (x := 306) hp1 6 (by decide) rfl)
      have h := h x12 e13
      refine y_X1_placeOf hR ho0  h (fun o18 σ14 Y15 h hO19 hR17 f16 => ?_)
      have F := F.trans f16
      have hR := hR17
      refine ⟨_, rfl, ?_⟩
      refine ⟨hR.K hO19, ?_⟩
      intro x22 e23
      have e23 : x22 = yI Y15 603 o18 := e23.trans (hR.I (x := 603) hO19 3 (by decide) rfl)
      have h := h x22 e23
      refine ⟨hR.K hp1, ?_⟩
      intro x24 e25
      have e25 : x24 = yI Y15 302 p1 := e25.trans (hR.I (x := 302) hp1 2 (by decide) rfl)
      have h := h x24 e25
      intro x26 e27
      have h := h x26 e27
      have w28 := hR.wI (x := 603) hO19 3 (by decide) rfl x26
      have F := F.trans w28.2
      have hR := w28.1
      intro x29 e30
      have e30 : x29 = yI (uI Y15 603 o18 x26) 309 p1 := e30.trans (hR.I (x := 309) hp1 9 (by decide) rfl)
      have h := h x29 e30
      refine ⟨fun c31 => ?_, fun c31 => ?_⟩
      · have h := h.1 c31
        exact yb_X1_hearReply_66 ho0 hQ  p2 p3 o18 _ _ hR F hO19 h
      · have h := h.2 c31
        intro x32 e33
        have e33 : x32 = yI (uI Y15 603 o18 x26) 310 p1 := e33.trans (hR.I (x := 310) hp1 10 (by decide) rfl)
        have h := h x32 e33
        have w34 := hR.wI (x := 604) hO19 4 (by decide) rfl x32
        have F := F.trans w34.2
        have hR := w34.1
        exact yb_X1_hearReply_66 ho0 hQ  p2 p3 o18 _ _ hR F hO19 h
    · have h := h.2 c9
      exact hQ _ _ _ h hR F
def wy_X2_has (n : Nat) (o0 : Nat) (p1 : Int32) (Y : Yc) (Qy : Int32 → Yc → Prop) : Prop := ((p1 < (1 : Int32) → Qy (0 : Int32) Y) ∧ (¬ p1 < (1 : Int32) → (∀ x2 : Int32, x2 = yI Y 201 o0 → ((x2 < p1 → Qy (0 : Int32) Y) ∧ (¬ x2 < p1 → (((nI 100) < p1 → Qy (0 : Int32) Y) ∧ (¬ (nI 100) < p1 → Qy (1 : Int32) Y)))))))
set_option maxHeartbeats 4000000 in
set_option maxRecDepth 100000 in
theorem y_X2_has {n : Nat} {ad aa : Nat → Nat → Nat} {o0 : Nat} {p1 : Int32} {σ : Sto} {Y : Yc} {Q : Int32 → Sto → Prop} {Qy : Int32 → Yc → Prop} (hR : HY n ad aa σ Y) (ho0 : Ob n 2 o0) (h : wy_X2_has n o0 p1 Y Qy) (hQ : ∀ (r : Int32) (σ' : Sto) (Y' : Yc), Qy r Y' → HY n ad aa σ' Y' → Fy n ad aa σ σ' → Q r σ') : wp_X2_has (ad 2 o0) p1 σ Q := by
  have F : Fy n ad aa σ σ := Fy.rf
  unfold wy_X2_has at h
  unfold wp_X2_has
  refine ⟨fun c1 => ?_, fun c1 => ?_⟩
  · have h := h.1 c1
    exact hQ _ _ _ h hR F
  · have h := h.2 c1
    refine ⟨hR.K ho0, ?_⟩
    intro x2 e3
    have e3 : x2 = yI Y 201 o0 := e3.trans (hR.I (x := 201) ho0 1 (by decide) rfl)
    have h := h x2 e3
    refine ⟨fun c4 => ?_, fun c4 => ?_⟩
    · have h := h.1 c4
      exact hQ _ _ _ h hR F
    · have h := h.2 c4
      have a5 : sP σ (ad 2 o0) 0 = some (aa 200 o0) := hR.ar (x := 200) ho0 0 (by decide) rfl (by decide)
      refine ⟨_, a5, ?_⟩
      refine ⟨hR.arK (x := 200) ho0 0 (by decide) rfl (by decide), ?_⟩
      rw [show sN σ (aa 200 o0) = 100 from hR.arN (x := 200) ho0 0 (by decide) rfl (by decide)]
      refine ⟨fun c7 => ?_, fun c7 => ?_⟩
      · have h := h.1 c7
        exact hQ _ _ _ h hR F
      · have h := h.2 c7
        exact hQ _ _ _ h hR F
