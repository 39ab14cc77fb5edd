def wy_X11_lose (n : Nat) (p1 : Int32) (Y : Yc) (Qy : Yc → Prop) (Xy : Nat → Yc → Prop) : Prop := (wy_X4_find n p1 Y (fun (x7 : Int32) (Y4 : Yc) => ((¬ x7 = (-1 : Int32) → (wy_X4_pull n x7 Y4 (fun (o17 : Nat) (Y14 : Yc) => (∀ x24 : Int32, x24 = yI Y14 407 0 → (∀ x26 : Int32, x26 = x24 + (1 : Int32) → Qy (uI Y14 407 0 x26)))))) ∧ (x7 = (-1 : Int32) → Xy 1 Y4))))
set_option maxHeartbeats 4000000 in
set_option maxRecDepth 100000 in
theorem y_X11_lose {n : Nat} {ad aa : Nat → Nat → Nat} {p1 : Int32} {σ : Sto} {Y : Yc} {Q : Sto → Prop} {Qy : Yc → Prop} {X : Nat → Sto → Prop} {Xy : Nat → Yc → Prop} (hR : HY n ad aa σ Y) (h : wy_X11_lose n p1 Y Qy Xy) (hQ : ∀ (σ' : Sto) (Y' : Yc), Qy Y' → HY n ad aa σ' Y' → Fy n ad aa σ σ' → Q σ') (hX : ∀ (n0 : Nat) (σ' : Sto) (Y' : Yc), Xy n0 Y' → HY n ad aa σ' Y' → Fy n ad aa σ σ' → X n0 σ') : wp_X11_lose (ad 11 0) p1 σ Q X := by
  have F : Fy n ad aa σ σ := Fy.rf
  unfold wy_X11_lose at h
  unfold wp_X11_lose
  refine ⟨hR.K ob_11, ?_⟩
  have a1 : sP σ (ad 11 0) 1 = some (ad 4 0) := hR.lk ob_11 1 (by decide) rfl
  refine ⟨_, a1, ?_⟩
  refine ⟨hR.K ob_4, ?_⟩
  refine y_X4_find hR  h (fun x7 σ3 Y4 h hR6 f5 => ?_)
  have F := F.trans f5
  have hR := hR6
  refine ⟨fun c10 => ?_, fun c10 => ?_⟩
  · have h := h.1 c10
    refine ⟨hR.K ob_11, ?_⟩
    have a11 : sP σ3 (ad 11 0) 1 = some (ad 4 0) := hR.lk ob_11 1 (by decide) rfl
    refine ⟨_, a11, ?_⟩
    refine ⟨hR.K ob_4, ?_⟩
    refine y_X4_pull hR  h (fun o17 σ13 Y14 h hO18 hR16 f15 => ?_)
    have F := F.trans f15
    have hR := hR16
    refine ⟨hR.K ob_11, ?_⟩
    have a20 : sP σ13 (ad 11 0) 1 = some (ad 4 0) := hR.lk ob_11 1 (by decide) rfl
    intro r21 e22
    have e22 := e22.trans (a20)
    subst e22
    refine ⟨_, rfl, ?_⟩
    refine ⟨hR.K ob_4, ?_⟩
    intro x24 e25
    have e25 : x24 = yI Y14 407 0 := e25.trans (hR.I (x := 407) ob_4 7 (by decide) rfl)
    have h := h x24 e25
    intro x26 e27
    have h := h x26 e27
    have w28 := hR.wI (x := 407) ob_4 7 (by decide) rfl x26
    have F := F.trans w28.2
    have hR := w28.1
    exact hQ _ _ h hR F
  · have h := h.2 c10
    exact hX _ _ _ h hR F
def fy_X11_flow_22 (n : Nat)  (Qy : Int32 → Yc → Prop) (Xy : Nat → Yc → Prop) (Ly22 : Int32 × Int32 → Yc → Prop) (t : Int32 × Int32) (Y : Yc) : Prop := ((t.1 ≤ t.2 → Qy t.2 Y) ∧ (¬ t.1 ≤ t.2 → (∀ x4 : Int32, x4 = yI Y 405 0 → ((x4 ≤ 0 → Qy t.2 Y) ∧ (¬ x4 ≤ 0 → (wy_X11_handOver n (0 : Int32) Y (fun (Y8 : Yc) => (∀ x14 : Int32, x14 = t.2 + (1 : Int32) → Ly22 (t.1, x14) Y8))))))))
set_option maxHeartbeats 4000000 in
set_option maxRecDepth 100000 in
theorem yf_X11_flow_22 {n : Nat} {ad aa : Nat → Nat → Nat} {σ0 : Sto} {Q : Int32 → Sto → Prop} {Qy : Int32 → Yc → Prop} {X : Nat → Sto → Prop} {Xy : Nat → Yc → Prop} {Ly22 : Int32 × Int32 → Yc → Prop} {L22 : Int32 × Int32 → Sto → Prop} (hQ : ∀ (r : Int32) (σ' : Sto) (Y' : Yc), Qy r Y' → HY n ad aa σ' Y' → Fy n ad aa σ0 σ' → Q r σ') (hX : ∀ (n0 : Nat) (σ' : Sto) (Y' : Yc), Xy n0 Y' → HY n ad aa σ' Y' → Fy n ad aa σ0 σ' → X n0 σ') (hL22 : ∀ (t9 : Int32 × Int32) (t : Int32 × Int32) (σ : Sto) (Y : Yc), Ly22 t Y → HY n ad aa σ Y → Fy n ad aa σ0 σ → ((t.1, t.2) = t9 ∧ True) → L22 t9 σ) : ∀ (t9 : Int32 × Int32) (t : Int32 × Int32) (σ : Sto) (Y : Yc), HY n ad aa σ Y → Fy n ad aa σ0 σ → ((t.1, t.2) = t9 ∧ True) → fy_X11_flow_22 n  Qy Xy Ly22 t Y → f_X11_flow_22 (ad 11 0)  Q X L22 t9 σ := by
  intro t9 t σ Y hR F hT h
  obtain ⟨rfl, _⟩ := hT
  unfold fy_X11_flow_22 at h
  unfold f_X11_flow_22
  dsimp only
  refine ⟨fun c1 => ?_, fun c1 => ?_⟩
  · have h := h.1 c1
    exact hQ _ _ _ h hR F
  · have h := h.2 c1
    refine ⟨hR.K ob_11, ?_⟩
    have a2 : sP σ (ad 11 0) 1 = some (ad 4 0) := hR.lk ob_11 1 (by decide) rfl
    refine ⟨_, a2, ?_⟩
    refine ⟨hR.K ob_4, ?_⟩
    intro x4 e5
    have e5 : x4 = yI Y 405 0 := e5.trans (hR.I (x := 405) ob_4 5 (by decide) rfl)
    have h := h x4 e5
    refine ⟨fun c6 => ?_, fun c6 => ?_⟩
    · have h := h.1 c6
      exact hQ _ _ _ h hR F
    · have h := h.2 c6
      refine y_X11_handOver hR  h (fun σ7 Y8 h hR10 f9 => ?_)
      have F := F.trans f9
      have hR := hR10
      intro x14 e15
      have h := h x14 e15
      exact hL22 _ _ _ _ h hR F ⟨rfl, trivial⟩
def wy_X11_flow (n : Nat) (p1 : Int32) (Y : Yc) (Qy : Int32 → Yc → Prop) (Xy : Nat → Yc → Prop) : Prop := ((p1 < 0 → Xy 1 Y) ∧ (¬ p1 < 0 → ((p1 ≤ (40 : Int32) → LFy (fy_X11_flow_22 n  Qy Xy) (p1, (0 : Int32)) Y) ∧ (¬ p1 ≤ (40 : Int32) → Xy 1 Y))))
set_option maxHeartbeats 4000000 in
set_option maxRecDepth 100000 in
theorem y_X11_flow {n : Nat} {ad aa : Nat → Nat → Nat} {p1 : Int32} {σ : Sto} {Y : Yc} {Q : Int32 → Sto → Prop} {Qy : Int32 → Yc → Prop} {X : Nat → Sto → Prop} {Xy : Nat → Yc → Prop} (hR : HY n ad aa σ Y) (h : wy_X11_flow n p1 Y Qy Xy) (hQ : ∀ (r : Int32) (σ' : Sto) (Y' : Yc), Qy r Y' → HY n ad aa σ' Y' → Fy n ad aa σ σ' → Q r σ') (hX : ∀ (n0 : Nat) (σ' : Sto) (Y' : Yc), Xy n0 Y' → HY n ad aa σ' Y' → Fy n ad aa σ σ' → X n0 σ') : wp_X11_flow (ad 11 0) p1 σ Q X := by
  have F : Fy n ad aa σ σ := Fy.rf
  unfold wy_X11_flow at h
  unfold wp_X11_flow
  refine ⟨fun c1 => ?_, fun c1 => ?_⟩
  · have h := h.1 c1
    exact hX _ _ _ h hR F
  · have h := h.2 c1
    refine ⟨fun c2 => ?_, fun c2 => ?_⟩
    · have h := h.1 c2
      exact lfy (fun σ t9 t => (t.1, t.2) = t9 ∧ True) h hR F ⟨rfl, trivial⟩ (fun Ly L hL t9 t σ Y hR F hT h => yf_X11_flow_22 hQ hX  hL t9 t σ Y hR F hT h)
    · have h := h.2 c2
      exact hX _ _ _ h hR F
def by_X11_downs_39 (n : Nat)  (Ly13 : Int32 × Int32 × Int32 → Yc → Prop) (Qy : Int32 → Yc → Prop) (p3 : Int32) (p4 : Int32) (s0 : Int32) (s1 : Int32) (Y : Yc) : Prop := (∀ x1 : Int32, x1 = s1 + s0 → (∀ x3 : Int32, x3 = p4 + (1 : Int32) → Ly13 (x1, p3, x3) Y))
set_option maxHeartbeats 4000000 in
set_option maxRecDepth 100000 in
theorem yb_X11_downs_39 {n : Nat} {ad aa : Nat → Nat → Nat} {σ0 : Sto} {Ly13 : Int32 × Int32 × Int32 → Yc → Prop} {L13 : Int32 × Option Nat × Int32 × Int32 → Sto → Prop} {Q : Int32 → Sto → Prop} {Qy : Int32 → Yc → Prop} (hQ : ∀ (r : Int32) (σ' : Sto) (Y' : Yc), Qy r Y' → HY n ad aa σ' Y' → Fy n ad aa σ0 σ' → Q r σ') (hL13 : ∀ (t9 : Int32 × Option Nat × Int32 × Int32) (t : Int32 × Int32 × Int32) (σ : Sto) (Y : Yc), Ly13 t Y → HY n ad aa σ Y → Fy n ad aa σ0 σ → ((t.1, (some (aa 1103 0)), t.2.1, t.2.2) = t9 ∧ True) → L13 t9 σ) (p3 : Int32) (p4 : Int32) (s0 : Int32) (s1 : Int32) (σ : Sto) (Y : Yc) (hR : HY n ad aa σ Y) (F : Fy n ad aa σ0 σ) (h : by_X11_downs_39 n Ly13 Qy p3 p4 s0 s1 Y) : b_X11_downs_39 (ad 11 0) L13 Q (some (aa 1103 0)) p3 p4 s0 s1 σ := by
  unfold by_X11_downs_39 at h
  unfold b_X11_downs_39
  intro x1 e2
  have h := h x1 e2
  intro x3 e4
  have h := h x3 e4
  exact hL13 _ _ _ _ h hR F ⟨rfl, trivial⟩
def fy_X11_downs_13 (n : Nat)  (Qy : Int32 → Yc → Prop) (Ly13 : Int32 × Int32 × Int32 → Yc → Prop) (t : Int32 × Int32 × Int32) (Y : Yc) : Prop := ((t.2.1 ≤ t.2.2 → Qy t.1 Y) ∧ (¬ t.2.1 ≤ t.2.2 → (vp_in t.2.2 n ∧ (∀ x8 : Int32, x8 = yI Y 803 (t.2.2.toNatClampNeg) → ((x8 = 0 → by_X11_downs_39 n Ly13 Qy t.2.1 t.2.2 (0 : Int32) t.1 Y) ∧ (¬ x8 = 0 → by_X11_downs_39 n Ly13 Qy t.2.1 t.2.2 (1 : Int32) t.1 Y))))))
set_option maxHeartbeats 4000000 in
set_option maxRecDepth 100000 in
theorem yf_X11_downs_13 {n : Nat} {ad aa : Nat → Nat → Nat} {σ0 : Sto} {Q : Int32 → Sto → Prop} {Qy : Int32 → Yc → Prop} {Ly13 : Int32 × Int32 × Int32 → Yc → Prop} {L13 : Int32 × Option Nat × Int32 × Int32 → Sto → Prop} (hQ : ∀ (r : Int32) (σ' : Sto) (Y' : Yc), Qy r Y' → HY n ad aa σ' Y' → Fy n ad aa σ0 σ' → Q r σ') (hL13 : ∀ (t9 : Int32 × Option Nat × Int32 × Int32) (t : Int32 × Int32 × Int32) (σ : Sto) (Y : Yc), Ly13 t Y → HY n ad aa σ Y → Fy n ad aa σ0 σ → ((t.1, (some (aa 1103 0)), t.2.1, t.2.2) = t9 ∧ True) → L13 t9 σ) : ∀ (t9 : Int32 × Option Nat × Int32 × Int32) (t : Int32 × Int32 × Int32) (σ : Sto) (Y : Yc), HY n ad aa σ Y → Fy n ad aa σ0 σ → ((t.1, (some (aa 1103 0)), t.2.1, t.2.2) = t9 ∧ True) → fy_X11_downs_13 n  Qy Ly13 t Y → f_X11_downs_13 (ad 11 0)  Q L13 t9 σ := by
  intro t9 t σ Y hR F hT h
  obtain ⟨rfl, _⟩ := hT
  unfold fy_X11_downs_13 at h
  unfold f_X11_downs_13
  dsimp only
  refine ⟨fun c1 => ?_, fun c1 => ?_⟩
  · have h := h.1 c1
    exact hQ _ _ _ h hR F
  · have h := h.2 c1
    refine ⟨_, rfl, ?_⟩
    refine ⟨hR.arK (x := 1103) ob_11 3 (by decide) rfl (by decide), ?_⟩
    have hz := h.1
    refine ⟨by first | exact hR.arV (x := 1103) ob_11 3 (by decide) rfl (by decide) hz | exact hz, ?_⟩
    have h := h.2
    have hO6 : Ob n 8 (t.2.2.toNatClampNeg) := ob_1103 hz
    intro r4 e5
    have e5 := e5.trans (hR.el (x := 1103) ob_11 3 (by decide) rfl (by decide) (el_1103 hz))
    subst e5
    refine ⟨_, rfl, ?_⟩
    refine ⟨hR.K hO6, ?_⟩
    intro x8 e9
    have e9 : x8 = yI Y 803 (t.2.2.toNatClampNeg) := e9.trans (hR.I (x := 803) hO6 3 (by decide) rfl)
    have h := h x8 e9
    refine ⟨fun c10 => ?_, fun c10 => ?_⟩
    · have h := h.1 c10
      exact yb_X11_downs_39 hQ hL13 t.2.1 t.2.2 (0 : Int32) t.1 _ _ hR F  h
    · have h := h.2 c10
      exact yb_X11_downs_39 hQ hL13 t.2.1 t.2.2 (1 : Int32) t.1 _ _ hR F  h
def wy_X11_downs (n : Nat)  (Y : Yc) (Qy : Int32 → Yc → Prop) : Prop := (∀ x5 : Int32, x5 = nI n → LFy (fy_X11_downs_13 n  Qy) ((0 : Int32), x5, (0 : Int32)) Y)
set_option maxHeartbeats 4000000 in
set_option maxRecDepth 100000 in
theorem y_X11_downs {n : Nat} {ad aa : Nat → Nat → Nat} {σ : Sto} {Y : Yc} {Q : Int32 → Sto → Prop} {Qy : Int32 → Yc → Prop} (hR : HY n ad aa σ Y) (h : wy_X11_downs n  Y Qy) (hQ : ∀ (r : Int32) (σ' : Sto) (Y' : Yc), Qy r Y' → HY n ad aa σ' Y' → Fy n ad aa σ σ' → Q r σ') : wp_X11_downs (ad 11 0)  σ Q := by
  have F : Fy n ad aa σ σ := Fy.rf
  unfold wy_X11_downs at h
  unfold wp_X11_downs
  refine ⟨hR.K ob_11, ?_⟩
  have a1 : sP σ (ad 11 0) 3 = some (aa 1103 0) := hR.ar (x := 1103) ob_11 3 (by decide) rfl (by decide)
  intro r2 e3
  have e3 := e3.trans (a1)
  subst e3
  refine ⟨_, rfl, ?_⟩
  refine ⟨hR.arK (x := 1103) ob_11 3 (by decide) rfl (by decide), ?_⟩
  rw [show sN σ (aa 1103 0) = n from hR.arN (x := 1103) ob_11 3 (by decide) rfl (by decide)]
  intro x5 e6
  have h := h x5 e6
  exact lfy (fun σ t9 t => (t.1, (some (aa 1103 0)), t.2.1, t.2.2) = t9 ∧ True) h hR F ⟨rfl, trivial⟩ (fun Ly L hL t9 t σ Y hR F hT h => yf_X11_downs_13 hQ  hL t9 t σ Y hR F hT h)
def wy_X11_down (n : Nat) (p1 : Int32) (Y : Yc) (Qy : Yc → Prop) (Xy : Nat → Yc → Prop) : Prop := (wy_X11_isReplica n p1 Y (fun (x5 : Int32) (Y2 : Yc) => ((¬ x5 = 0 → (vp_in p1 n ∧ (∀ x16 : Int32, x16 = yI Y2 803 (p1.toNatClampNeg) → ((¬ x16 = 0 → Xy 2 Y2) ∧ (x16 = 0 → (wy_X11_downs n  Y2 (fun (x23 : Int32) (Y20 : Yc) => (∀ x28 : Int32, x28 = yI Y20 401 0 → ((x23 < x28 → (vp_in p1 n ∧ (vp_in p1 n ∧ (wy_X5_clear n (p1.toNatClampNeg)  (uI Y20 803 (p1.toNatClampNeg) (1 : Int32)) (fun (Y48 : Yc) => Qy Y48))))) ∧ (¬ x23 < x28 → Xy 2 Y20)))))))))) ∧ (x5 = 0 → Xy 0 Y2))))
set_option maxHeartbeats 4000000 in
set_option maxRecDepth 100000 in
theorem y_X11_down {n : Nat} {ad aa : Nat → Nat → Nat} {p1 : Int32} {σ : Sto} {Y : Yc} {Q : Sto → Prop} {Qy : Yc → Prop} {X : Nat → Sto → Prop} {Xy : Nat → Yc → Prop} (hR : HY n ad aa σ Y) (h : wy_X11_down n p1 Y Qy Xy) (hQ : ∀ (σ' : Sto) (Y' : Yc), Qy Y' → HY n ad aa σ' Y' → Fy n ad aa σ σ' → Q σ') (hX : ∀ (n0 : Nat) (σ' : Sto) (Y' : Yc), Xy n0 Y' → HY n ad aa σ' Y' → Fy n ad aa σ σ' → X n0 σ') : wp_X11_down (ad 11 0) p1 σ Q X := by
  have F : Fy n ad aa σ σ := Fy.rf
  unfold wy_X11_down at h
  unfold wp_X11_down
  refine ⟨hR.K ob_11, ?_⟩
  refine y_X11_isReplica hR  h (fun x5 σ1 Y2 h hR4 f3 => ?_)
  have F := F.trans f3
  have hR := hR4
  refine ⟨fun c8 => ?_, fun c8 => ?_⟩
  · have h := h.1 c8
    refine ⟨hR.K ob_11, ?_⟩
    have a9 : sP σ1 (ad 11 0) 3 = some (aa 1103 0) := hR.ar (x := 1103) ob_11 3 (by decide) rfl (by decide)
    refine ⟨_, a9, ?_⟩
    refine ⟨hR.arK (x := 1103) ob_11 3 (by decide) rfl (by decide), ?_⟩
    have hz := h.1
    refine ⟨by first | exact hR.arV (x := 1103) ob_11 3 (by decide) rfl (by decide) hz | exact hz, ?_⟩
    have h := h.2
    have hO14 : Ob n 8 (p1.toNatClampNeg) := ob_1103 hz
    intro r12 e13
    have e13 := e13.trans (hR.el (x := 1103) ob_11 3 (by decide) rfl (by decide) (el_1103 hz))
    subst e13
    refine ⟨_, rfl, ?_⟩
    refine ⟨hR.K hO14, ?_⟩
    intro x16 e17
    have e17 : x16 = yI Y2 803 (p1.toNatClampNeg) := e17.trans (hR.I (x := 803) hO14 3 (by decide) rfl)
    have h := h x16 e17
    refine ⟨fun c18 => ?_, fun c18 => ?_⟩
    · have h := h.1 c18
      exact hX _ _ _ h hR F
    · have h := h.2 c18
      refine y_X11_downs hR  h (fun x23 σ19 Y20 h hR22 f21 => ?_)
      have F := F.trans f21
      have hR := hR22
      refine ⟨hR.K ob_11, ?_⟩
      have a26 : sP σ19 (ad 11 0) 1 = some (ad 4 0) := hR.lk ob_11 1 (by decide) rfl
      refine ⟨_, a26, ?_⟩
      refine ⟨hR.K ob_4, ?_⟩
      intro x28 e29
      have e29 : x28 = yI Y20 401 0 := e29.trans (hR.I (x := 401) ob_4 1 (by decide) rfl)
      have h := h x28 e29
      refine ⟨fun c30 => ?_, fun c30 => ?_⟩
      · have h := h.1 c30
        have a31 : sP σ19 (ad 11 0) 3 = some (aa 1103 0) := hR.ar (x := 1103) ob_11 3 (by decide) rfl (by decide)
        refine ⟨_, a31, ?_⟩
        refine ⟨hR.arK (x := 1103) ob_11 3 (by decide) rfl (by decide), ?_⟩
        have hz := h.1
        refine ⟨by first | exact hR.arV (x := 1103) ob_11 3 (by decide) rfl (by decide) hz | exact hz, ?_⟩
        have h := h.2
        have hO36 : Ob n 8 (p1.toNatClampNeg) := ob_1103 hz
        intro r34 e35
        have e35 := e35.trans (hR.el (x := 1103) ob_11 3 (by decide) rfl (by decide) (el_1103 hz))
        subst e35
        refine ⟨_, rfl, ?_⟩
        refine ⟨hR.K hO36, ?_⟩
        have w38 := hR.wI (x := 803) hO36 3 (by decide) rfl (1 : Int32)
        have F := F.trans w38.2
        have hR := w38.1
        have a39 : sP σ19 (ad 11 0) 3 = some (aa 1103 0) := hR.ar (x := 1103) ob_11 3 (by decide) rfl (by decide)
        have hz := h.1
        refine ⟨by first | exact hR.arV (x := 1103) ob_11 3 (by decide) rfl (by decide) hz | exact hz, ?_⟩
        have h := h.2
        have hO43 : Ob n 8 (p1.toNatClampNeg) := ob_1103 hz
        intro r41 e42
        have e42 := e42.trans (hR.el (x := 1103) ob_11 3 (by decide) rfl (by decide) (el_1103 hz))
        subst e42
        refine ⟨_, rfl, ?_⟩
        refine ⟨hR.K hO43, ?_⟩
        have a45 : sP σ19 (ad 8 (p1.toNatClampNeg)) 10 = some (ad 5 (p1.toNatClampNeg)) := hR.lk hO43 10 (by decide) rfl
        refine ⟨_, a45, ?_⟩
        refine ⟨hR.K (ob_810 hO43), ?_⟩
        refine y_X5_clear hR (ob_810 hO43)  h (fun σ47 Y48 h hR50 f49 => ?_)
        have F := F.trans f49
        have hR := hR50
        exact hQ _ _ h hR F
      · have h := h.2 c30
        exact hX _ _ _ h hR F
  · have h := h.2 c8
    exact hX _ _ _ h hR F
def wy_X11_up (n : Nat) (p1 : Int32) (Y : Yc) (Qy : Yc → Prop) (Xy : Nat → Yc → Prop) : Prop := (wy_X11_isReplica n p1 Y (fun (x5 : Int32) (Y2 : Yc) => ((¬ x5 = 0 → (vp_in p1 n ∧ (∀ x16 : Int32, x16 = yI Y2 803 (p1.toNatClampNeg) → ((¬ x16 = 0 → (vp_in p1 n ∧ (vp_in p1 n ∧ (∀ x33 : Int32, x33 = yI (uI Y2 803 (p1.toNatClampNeg) (0 : Int32)) 408 0 → Qy (uI (uI Y2 803 (p1.toNatClampNeg) (0 : Int32)) 811 (p1.toNatClampNeg) x33))))) ∧ (x16 = 0 → Xy 2 Y2))))) ∧ (x5 = 0 → Xy 0 Y2))))
set_option maxHeartbeats 4000000 in
set_option maxRecDepth 100000 in
theorem y_X11_up {n : Nat} {ad aa : Nat → Nat → Nat} {p1 : Int32} {σ : Sto} {Y : Yc} {Q : Sto → Prop} {Qy : Yc → Prop} {X : Nat → Sto → Prop} {Xy : Nat → Yc → Prop} (hR : HY n ad aa σ Y) (h : wy_X11_up n p1 Y Qy Xy) (hQ : ∀ (σ' : Sto) (Y' : Yc), Qy Y' → HY n ad aa σ' Y' → Fy n ad aa σ σ' → Q σ') (hX : ∀ (n0 : Nat) (σ' : Sto) (Y' : Yc), Xy n0 Y' → HY n ad aa σ' Y' → Fy n ad aa σ σ' → X n0 σ') : wp_X11_up (ad 11 0) p1 σ Q X := by
  have F : Fy n ad aa σ σ := Fy.rf
  unfold wy_X11_up at h
  unfold wp_X11_up
  refine ⟨hR.K ob_11, ?_⟩
  refine y_X11_isReplica hR  h (fun x5 σ1 Y2 h hR4 f3 => ?_)
  have F := F.trans f3
  have hR := hR4
  refine ⟨fun c8 => ?_, fun c8 => ?_⟩
  · have h := h.1 c8
    refine ⟨hR.K ob_11, ?_⟩
    have a9 : sP σ1 (ad 11 0) 3 = some (aa 1103 0) := hR.ar (x := 1103) ob_11 3 (by decide) rfl (by decide)
    refine ⟨_, a9, ?_⟩
    refine ⟨hR.arK (x := 1103) ob_11 3 (by decide) rfl (by decide), ?_⟩
    have hz := h.1
    refine ⟨by first | exact hR.arV (x := 1103) ob_11 3 (by decide) rfl (by decide) hz | exact hz, ?_⟩
    have h := h.2
    have hO14 : Ob n 8 (p1.toNatClampNeg) := ob_1103 hz
    intro r12 e13
    have e13 := e13.trans (hR.el (x := 1103) ob_11 3 (by decide) rfl (by decide) (el_1103 hz))
    subst e13
    refine ⟨_, rfl, ?_⟩
    refine ⟨hR.K hO14, ?_⟩
    intro x16 e17
    have e17 : x16 = yI Y2 803 (p1.toNatClampNeg) := e17.trans (hR.I (x := 803) hO14 3 (by decide) rfl)
    have h := h x16 e17
    refine ⟨fun c18 => ?_, fun c18 => ?_⟩
    · have h := h.1 c18
      have a19 : sP σ1 (ad 11 0) 3 = some (aa 1103 0) := hR.ar (x := 1103) ob_11 3 (by decide) rfl (by decide)
      have hz := h.1
      refine ⟨by first | exact hR.arV (x := 1103) ob_11 3 (by decide) rfl (by decide) hz | exact hz, ?_⟩
      have h := h.2
      have hO23 : Ob n 8 (p1.toNatClampNeg) := ob_1103 hz
      intro r21 e22
      have e22 := e22.trans (hR.el (x := 1103) ob_11 3 (by decide) rfl (by decide) (el_1103 hz))
      subst e22
      refine ⟨_, rfl, ?_⟩
      refine ⟨hR.K hO23, ?_⟩
      have w25 := hR.wI (x := 803) hO23 3 (by decide) rfl (0 : Int32)
      have F := F.trans w25.2
      have hR := w25.1
      have a26 : sP σ1 (ad 11 0) 3 = some (aa 1103 0) := hR.ar (x := 1103) ob_11 3 (by decide) rfl (by decide)
      have hz := h.1
      refine ⟨by first | exact hR.arV (x := 1103) ob_11 3 (by decide) rfl (by decide) hz | exact hz, ?_⟩
      have h := h.2
      have hO30 : Ob n 8 (p1.toNatClampNeg) := ob_1103 hz
      intro r28 e29
      have e29 := e29.trans (hR.el (x := 1103) ob_11 3 (by decide) rfl (by decide) (el_1103 hz))
      subst e29
      have a31 : sP σ1 (ad 11 0) 1 = some (ad 4 0) := hR.lk ob_11 1 (by decide) rfl
      refine ⟨_, a31, ?_⟩
      refine ⟨hR.K ob_4, ?_⟩
      intro x33 e34
      have e34 : x33 = yI (uI Y2 803 (p1.toNatClampNeg) (0 : Int32)) 408 0 := e34.trans (hR.I (x := 408) ob_4 8 (by decide) rfl)
      have h := h x33 e34
      refine ⟨_, rfl, ?_⟩
      refine ⟨hR.K hO30, ?_⟩
      have w36 := hR.wI (x := 811) hO30 11 (by decide) rfl x33
      have F := F.trans w36.2
      have hR := w36.1
      exact hQ _ _ h hR F
    · have h := h.2 c18
      exact hX _ _ _ h hR F
  · have h := h.2 c8
    exact hX _ _ _ h hR F
def wy_X11_suspect (n : Nat) (p1 : Int32) (Y : Yc) (Qy : Yc → Prop) (Xy : Nat → Yc → Prop) : Prop := (wy_X11_isReplica n p1 Y (fun (x5 : Int32) (Y2 : Yc) => ((¬ x5 = 0 → (vp_in p1 n ∧ (∀ x16 : Int32, x16 = yI Y2 803 (p1.toNatClampNeg) → ((x16 = 0 → (vp_in p1 n ∧ (wy_X8_turnToNextLead n (p1.toNatClampNeg)  Y2 (fun (Y26 : Yc) => Qy Y26)))) ∧ (¬ x16 = 0 → Xy 2 Y2))))) ∧ (x5 = 0 → Xy 0 Y2))))
set_option maxHeartbeats 4000000 in
set_option maxRecDepth 100000 in
theorem y_X11_suspect {n : Nat} {ad aa : Nat → Nat → Nat} {p1 : Int32} {σ : Sto} {Y : Yc} {Q : Sto → Prop} {Qy : Yc → Prop} {X : Nat → Sto → Prop} {Xy : Nat → Yc → Prop} (hR : HY n ad aa σ Y) (h : wy_X11_suspect n p1 Y Qy Xy) (hQ : ∀ (σ' : Sto) (Y' : Yc), Qy Y' → HY n ad aa σ' Y' → Fy n ad aa σ σ' → Q σ') (hX : ∀ (n0 : Nat) (σ' : Sto) (Y' : Yc), Xy n0 Y' → HY n ad aa σ' Y' → Fy n ad aa σ σ' → X n0 σ') : wp_X11_suspect (ad 11 0) p1 σ Q X := by
  have F : Fy n ad aa σ σ := Fy.rf
  unfold wy_X11_suspect at h
  unfold wp_X11_suspect
  refine ⟨hR.K ob_11, ?_⟩
  refine y_X11_isReplica hR  h (fun x5 σ1 Y2 h hR4 f3 => ?_)
  have F := F.trans f3
  have hR := hR4
  refine ⟨fun c8 => ?_, fun c8 => ?_⟩
  · have h := h.1 c8
    refine ⟨hR.K ob_11, ?_⟩
    have a9 : sP σ1 (ad 11 0) 3 = some (aa 1103 0) := hR.ar (x := 1103) ob_11 3 (by decide) rfl (by decide)
    refine ⟨_, a9, ?_⟩
    refine ⟨hR.arK (x := 1103) ob_11 3 (by decide) rfl (by decide), ?_⟩
    have hz := h.1
    refine ⟨by first | exact hR.arV (x := 1103) ob_11 3 (by decide) rfl (by decide) hz | exact hz, ?_⟩
    have h := h.2
    have hO14 : Ob n 8 (p1.toNatClampNeg) := ob_1103 hz
    intro r12 e13
    have e13 := e13.trans (hR.el (x := 1103) ob_11 3 (by decide) rfl (by decide) (el_1103 hz))
    subst e13
    refine ⟨_, rfl, ?_⟩
    refine ⟨hR.K hO14, ?_⟩
    intro x16 e17
    have e17 : x16 = yI Y2 803 (p1.toNatClampNeg) := e17.trans (hR.I (x := 803) hO14 3 (by decide) rfl)
    have h := h x16 e17
    refine ⟨fun c18 => ?_, fun c18 => ?_⟩
    · have h := h.1 c18
      have a19 : sP σ1 (ad 11 0) 3 = some (aa 1103 0) := hR.ar (x := 1103) ob_11 3 (by decide) rfl (by decide)
      have hz := h.1
      refine ⟨by first | exact hR.arV (x := 1103) ob_11 3 (by decide) rfl (by decide) hz | exact hz, ?_⟩
      have h := h.2
      have hO23 : Ob n 8 (p1.toNatClampNeg) := ob_1103 hz
      intro r21 e22
      have e22 := e22.trans (hR.el (x := 1103) ob_11 3 (by decide) rfl (by decide) (el_1103 hz))
      subst e22
      refine ⟨_, rfl, ?_⟩
      refine ⟨hR.K hO23, ?_⟩
      refine y_X8_turnToNextLead hR hO23  h (fun σ25 Y26 h hR28 f27 => ?_)
      have F := F.trans f27
      have hR := hR28
      exact hQ _ _ h hR F
    · have h := h.2 c18
      exact hX _ _ _ h hR F
  · have h := h.2 c8
    exact hX _ _ _ h hR F
def wy_X11_nudge (n : Nat) (p1 : Int32) (Y : Yc) (Qy : Int32 → Yc → Prop) (Xy : Nat → Yc → Prop) : Prop := (wy_X11_isReplica n p1 Y (fun (x5 : Int32) (Y2 : Yc) => ((¬ x5 = 0 → (vp_in p1 n ∧ (∀ x16 : Int32, x16 = yI Y2 803 (p1.toNatClampNeg) → ((x16 = 0 → (∀ x21 : Int32, x21 = yI Y2 406 0 → (vp_in p1 n ∧ (wy_X8_askAgain n (p1.toNatClampNeg)  Y2 (fun (Y30 : Yc) => (∀ x38 : Int32, x38 = yI Y30 406 0 → Qy (x38 - x21) Y30)))))) ∧ (¬ x16 = 0 → Xy 2 Y2))))) ∧ (x5 = 0 → Xy 0 Y2))))
set_option maxHeartbeats 4000000 in
set_option maxRecDepth 100000 in
theorem y_X11_nudge {n : Nat} {ad aa : Nat → Nat → Nat} {p1 : Int32} {σ : Sto} {Y : Yc} {Q : Int32 → Sto → Prop} {Qy : Int32 → Yc → Prop} {X : Nat → Sto → Prop} {Xy : Nat → Yc → Prop} (hR : HY n ad aa σ Y) (h : wy_X11_nudge n p1 Y Qy Xy) (hQ : ∀ (r : Int32) (σ' : Sto) (Y' : Yc), Qy r Y' → HY n ad aa σ' Y' → Fy n ad aa σ σ' → Q r σ') (hX : ∀ (n0 : Nat) (σ' : Sto) (Y' : Yc), Xy n0 Y' → HY n ad aa σ' Y' → Fy n ad aa σ σ' → X n0 σ') : wp_X11_nudge (ad 11 0) p1 σ Q X := by
  have F : Fy n ad aa σ σ := Fy.rf
  unfold wy_X11_nudge at h
  unfold wp_X11_nudge
  refine ⟨hR.K ob_11, ?_⟩
  refine y_X11_isReplica hR  h (fun x5 σ1 Y2 h hR4 f3 => ?_)
  have F := F.trans f3
  have hR := hR4
  refine ⟨fun c8 => ?_, fun c8 => ?_⟩
  · have h := h.1 c8
    refine ⟨hR.K ob_11, ?_⟩
    have a9 : sP σ1 (ad 11 0) 3 = some (aa 1103 0) := hR.ar (x := 1103) ob_11 3 (by decide) rfl (by decide)
    refine ⟨_, a9, ?_⟩
    refine ⟨hR.arK (x := 1103) ob_11 3 (by decide) rfl (by decide), ?_⟩
    have hz := h.1
    refine ⟨by first | exact hR.arV (x := 1103) ob_11 3 (by decide) rfl (by decide) hz | exact hz, ?_⟩
    have h := h.2
    have hO14 : Ob n 8 (p1.toNatClampNeg) := ob_1103 hz
    intro r12 e13
    have e13 := e13.trans (hR.el (x := 1103) ob_11 3 (by decide) rfl (by decide) (el_1103 hz))
    subst e13
    refine ⟨_, rfl, ?_⟩
    refine ⟨hR.K hO14, ?_⟩
    intro x16 e17
    have e17 : x16 = yI Y2 803 (p1.toNatClampNeg) := e17.trans (hR.I (x := 803) hO14 3 (by decide) rfl)
    have h := h x16 e17
    refine ⟨fun c18 => ?_, fun c18 => ?_⟩
    · have h := h.1 c18
      have a19 : sP σ1 (ad 11 0) 1 = some (ad 4 0) := hR.lk ob_11 1 (by decide) rfl
      refine ⟨_, a19, ?_⟩
      refine ⟨hR.K ob_4, ?_⟩
      intro x21 e22
      have e22 : x21 = yI Y2 406 0 := e22.trans (hR.I (x := 406) ob_4 6 (by decide) rfl)
      have h := h x21 e22
      have a23 : sP σ1 (ad 11 0) 3 = some (aa 1103 0) := hR.ar (x := 1103) ob_11 3 (by decide) rfl (by decide)
      have hz := h.1
      refine ⟨by first | exact hR.arV (x := 1103) ob_11 3 (by decide) rfl (by decide) hz | exact hz, ?_⟩
      have h := h.2
      have hO27 : Ob n 8 (p1.toNatClampNeg) := ob_1103 hz
      intro r25 e26
      have e26 := e26.trans (hR.el (x := 1103) ob_11 3 (by decide) rfl (by decide) (el_1103 hz))
      subst e26
      refine ⟨_, rfl, ?_⟩
      refine ⟨hR.K hO27, ?_⟩
      refine y_X8_askAgain hR hO27  h (fun σ29 Y30 h hR32 f31 => ?_)
      have F := F.trans f31
      have hR := hR32
      refine ⟨hR.K ob_11, ?_⟩
      have a36 : sP σ29 (ad 11 0) 1 = some (ad 4 0) := hR.lk ob_11 1 (by decide) rfl
      refine ⟨_, a36, ?_⟩
      refine ⟨hR.K ob_4, ?_⟩
      intro x38 e39
      have e39 : x38 = yI Y30 406 0 := e39.trans (hR.I (x := 406) ob_4 6 (by decide) rfl)
      have h := h x38 e39
      exact hQ _ _ _ h hR F
    · have h := h.2 c18
      exact hX _ _ _ h hR F
  · have h := h.2 c8
    exact hX _ _ _ h hR F
def wy_X11_sync (n : Nat) (p1 : Int32) (Y : Yc) (Qy : Yc → Prop) (Xy : Nat → Yc → Prop) : Prop := (wy_X11_isReplica n p1 Y (fun (x5 : Int32) (Y2 : Yc) => ((¬ x5 = 0 → (vp_in p1 n ∧ (∀ x16 : Int32, x16 = yI Y2 803 (p1.toNatClampNeg) → ((¬ x16 = 0 → Xy 2 Y2) ∧ (x16 = 0 → (wy_X8_leads n (p1.toNatClampNeg)  Y2 (fun (x23 : Int32) (Y20 : Yc) => ((x23 = 0 → Xy 2 Y20) ∧ (¬ x23 = 0 → (∀ x27 : Int32, x27 = yI Y20 804 (p1.toNatClampNeg) → ((x27 = 0 → (wy_X8_sendSync n (p1.toNatClampNeg)  Y20 (fun (Y31 : Yc) => Qy Y31))) ∧ (¬ x27 = 0 → Xy 2 Y20)))))))))))) ∧ (x5 = 0 → Xy 0 Y2))))
set_option maxHeartbeats 4000000 in
set_option maxRecDepth 100000 in
theorem y_X11_sync {n : Nat} {ad aa : Nat → Nat → Nat} {p1 : Int32} {σ : Sto} {Y : Yc} {Q : Sto → Prop} {Qy : Yc → Prop} {X : Nat → Sto → Prop} {Xy : Nat → Yc → Prop} (hR : HY n ad aa σ Y) (h : wy_X11_sync n p1 Y Qy Xy) (hQ : ∀ (σ' : Sto) (Y' : Yc), Qy Y' → HY n ad aa σ' Y' → Fy n ad aa σ σ' → Q σ') (hX : ∀ (n0 : Nat) (σ' : Sto) (Y' : Yc), Xy n0 Y' → HY n ad aa σ' Y' → Fy n ad aa σ σ' → X n0 σ') : wp_X11_sync (ad 11 0) p1 σ Q X := by
  have F : Fy n ad aa σ σ := Fy.rf
  unfold wy_X11_sync at h
  unfold wp_X11_sync
  refine ⟨hR.K ob_11, ?_⟩
  refine y_X11_isReplica hR  h (fun x5 σ1 Y2 h hR4 f3 => ?_)
  have F := F.trans f3
  have hR := hR4
  refine ⟨fun c8 => ?_, fun c8 => ?_⟩
  · have h := h.1 c8
    refine ⟨hR.K ob_11, ?_⟩
    have a9 : sP σ1 (ad 11 0) 3 = some (aa 1103 0) := hR.ar (x := 1103) ob_11 3 (by decide) rfl (by decide)
    refine ⟨_, a9, ?_⟩
    refine ⟨hR.arK (x := 1103) ob_11 3 (by decide) rfl (by decide), ?_⟩
    have hz := h.1
    refine ⟨by first | exact hR.arV (x := 1103) ob_11 3 (by decide) rfl (by decide) hz | exact hz, ?_⟩
    have h := h.2
    have hO14 : Ob n 8 (p1.toNatClampNeg) := ob_1103 hz
    intro r12 e13
    have e13 := e13.trans (hR.el (x := 1103) ob_11 3 (by decide) rfl (by decide) (el_1103 hz))
    subst e13
    refine ⟨_, rfl, ?_⟩
    refine ⟨hR.K hO14, ?_⟩
    intro x16 e17
    have e17 : x16 = yI Y2 803 (p1.toNatClampNeg) := e17.trans (hR.I (x := 803) hO14 3 (by decide) rfl)
    have h := h x16 e17
    refine ⟨fun c18 => ?_, fun c18 => ?_⟩
    · have h := h.1 c18
      exact hX _ _ _ h hR F
    · have h := h.2 c18
      refine y_X8_leads hR hO14  h (fun x23 σ19 Y20 h hR22 f21 => ?_)
      have F := F.trans f21
      have hR := hR22
      refine ⟨fun c26 => ?_, fun c26 => ?_⟩
      · have h := h.1 c26
        exact hX _ _ _ h hR F
      · have h := h.2 c26
        refine ⟨hR.K hO14, ?_⟩
        intro x27 e28
        have e28 : x27 = yI Y20 804 (p1.toNatClampNeg) := e28.trans (hR.I (x := 804) hO14 4 (by decide) rfl)
        have h := h x27 e28
        refine ⟨fun c29 => ?_, fun c29 => ?_⟩
        · have h := h.1 c29
          refine y_X8_sendSync hR hO14  h (fun σ30 Y31 h hR33 f32 => ?_)
          have F := F.trans f32
          have hR := hR33
          exact hQ _ _ h hR F
        · have h := h.2 c29
          exact hX _ _ _ h hR F
  · have h := h.2 c8
    exact hX _ _ _ h hR F
def wy_X11_raiseSequencer (n : Nat)  (Y : Yc) (Qy : Yc → Prop) : Prop := (∀ x2 : Int32, x2 = yI (uI Y 1105 0 (1 : Int32)) 1106 0 → (∀ x4 : Int32, x4 = x2 + (1 : Int32) → Qy (uI (uI (uI Y 1105 0 (1 : Int32)) 1106 0 x4) 1107 0 (0 : Int32))))
set_option maxHeartbeats 4000000 in
set_option maxRecDepth 100000 in
theorem y_X11_raiseSequencer {n : Nat} {ad aa : Nat → Nat → Nat} {σ : Sto} {Y : Yc} {Q : Sto → Prop} {Qy : Yc → Prop} (hR : HY n ad aa σ Y) (h : wy_X11_raiseSequencer n  Y Qy) (hQ : ∀ (σ' : Sto) (Y' : Yc), Qy Y' → HY n ad aa σ' Y' → Fy n ad aa σ σ' → Q σ') : wp_X11_raiseSequencer (ad 11 0)  σ Q := by
  have F : Fy n ad aa σ σ := Fy.rf
  unfold wy_X11_raiseSequencer at h
  unfold wp_X11_raiseSequencer
  refine ⟨hR.K ob_11, ?_⟩
  have w1 := hR.wI (x := 1105) ob_11 5 (by decide) rfl (1 : Int32)
  have F := F.trans w1.2
  have hR := w1.1
  intro x2 e3
  have e3 : x2 = yI (uI Y 1105 0 (1 : Int32)) 1106 0 := e3.trans (hR.I (x := 1106) ob_11 6 (by decide) rfl)
  have h := h x2 e3
  intro x4 e5
  have h := h x4 e5
  have w6 := hR.wI (x := 1106) ob_11 6 (by decide) rfl x4
  have F := F.trans w6.2
  have hR := w6.1
  have w7 := hR.wI (x := 1107) ob_11 7 (by decide) rfl (0 : Int32)
  have F := F.trans w7.2
  have hR := w7.1
  exact hQ _ _ h hR F
def by_X11_passTick_142 (n : Nat)  (Ly96 : Int32 × Int32 → Yc → Prop) (Qy : Yc → Prop) (p2 : Int32) (p3 : Int32) (Y : Yc) : Prop := (∀ x1 : Int32, x1 = p3 + (1 : Int32) → Ly96 (p2, x1) Y)
set_option maxHeartbeats 4000000 in
set_option maxRecDepth 100000 in
theorem yb_X11_passTick_142 {n : Nat} {ad aa : Nat → Nat → Nat} {σ0 : Sto} {Ly96 : Int32 × Int32 → Yc → Prop} {L96 : Option Nat × Int32 × Int32 → Sto → Prop} {Q : Sto → Prop} {Qy : Yc → Prop} (hQ : ∀ (σ' : Sto) (Y' : Yc), Qy Y' → HY n ad aa σ' Y' → Fy n ad aa σ0 σ' → Q σ') (hL96 : ∀ (t9 : Option Nat × Int32 × Int32) (t : Int32 × Int32) (σ : Sto) (Y : Yc), Ly96 t Y → HY n ad aa σ Y → Fy n ad aa σ0 σ → (((some (aa 1104 0)), t.1, t.2) = t9 ∧ True) → L96 t9 σ) (p2 : Int32) (p3 : Int32) (σ : Sto) (Y : Yc) (hR : HY n ad aa σ Y) (F : Fy n ad aa σ0 σ) (h : by_X11_passTick_142 n Ly96 Qy p2 p3 Y) : b_X11_passTick_142 (ad 11 0) L96 Q (some (aa 1104 0)) p2 p3 σ := by
  unfold by_X11_passTick_142 at h
  unfold b_X11_passTick_142
  intro x1 e2
  have h := h x1 e2
  exact hL96 _ _ _ _ h hR F ⟨rfl, trivial⟩
def fy_X11_passTick_96 (n : Nat)  (Qy : Yc → Prop) (Ly96 : Int32 × Int32 → Yc → Prop) (t : Int32 × Int32) (Y : Yc) : Prop := ((t.1 ≤ t.2 → Qy Y) ∧ (¬ t.1 ≤ t.2 → (vp_in t.2 4 ∧ (∀ x8 : Int32, x8 = yI Y 102 (t.2.toNatClampNeg) → ((x8 = 0 → by_X11_passTick_142 n Ly96 Qy t.1 t.2 Y) ∧ (¬ x8 = 0 → (∀ x13 : Int32, x13 = yI Y 408 0 → (∀ x15 : Int32, x15 = yI Y 103 (t.2.toNatClampNeg) → (∀ x17 : Int32, x17 = yI Y 1100 0 → (((x13 - x15) < ((2 : Int32) * x17) → by_X11_passTick_142 n Ly96 Qy t.1 t.2 Y) ∧ (¬ (x13 - x15) < ((2 : Int32) * x17) → (wy_X11_stamp n (t.2.toNatClampNeg) Y (fun (Y21 : Yc) => by_X11_passTick_142 n Ly96 Qy t.1 t.2 Y21)))))))))))))
set_option maxHeartbeats 4000000 in
set_option maxRecDepth 100000 in
theorem yf_X11_passTick_96 {n : Nat} {ad aa : Nat → Nat → Nat} {σ0 : Sto} {Q : Sto → Prop} {Qy : Yc → Prop} {Ly96 : Int32 × Int32 → Yc → Prop} {L96 : Option Nat × Int32 × Int32 → Sto → Prop} (hQ : ∀ (σ' : Sto) (Y' : Yc), Qy Y' → HY n ad aa σ' Y' → Fy n ad aa σ0 σ' → Q σ') (hL96 : ∀ (t9 : Option Nat × Int32 × Int32) (t : Int32 × Int32) (σ : Sto) (Y : Yc), Ly96 t Y → HY n ad aa σ Y → Fy n ad aa σ0 σ → (((some (aa 1104 0)), t.1, t.2) = t9 ∧ True) → L96 t9 σ) : ∀ (t9 : Option Nat × Int32 × Int32) (t : Int32 × Int32) (σ : Sto) (Y : Yc), HY n ad aa σ Y → Fy n ad aa σ0 σ → (((some (aa 1104 0)), t.1, t.2) = t9 ∧ True) → fy_X11_passTick_96 n  Qy Ly96 t Y → f_X11_passTick_96 (ad 11 0)  Q L96 t9 σ := by
  intro t9 t σ Y hR F hT h
  obtain ⟨rfl, _⟩ := hT
  unfold fy_X11_passTick_96 at h
  unfold f_X11_passTick_96
  dsimp only
  refine ⟨fun c1 => ?_, fun c1 => ?_⟩
  · have h := h.1 c1
    exact hQ _ _ h hR F
  · have h := h.2 c1
    refine ⟨_, rfl, ?_⟩
    refine ⟨hR.arK (x := 1104) ob_11 4 (by decide) rfl (by decide), ?_⟩
    have hz := h.1
    refine ⟨by first | exact hR.arV (x := 1104) ob_11 4 (by decide) rfl (by decide) hz | exact hz, ?_⟩
    have h := h.2
    have hO6 : Ob n 1 (t.2.toNatClampNeg) := ob_1104 hz
    intro r4 e5
    have e5 := e5.trans (hR.el (x := 1104) ob_11 4 (by decide) rfl (by decide) (el_1104 hz))
    subst e5
    refine ⟨_, rfl, ?_⟩
    refine ⟨hR.K hO6, ?_⟩
    intro x8 e9
    have e9 : x8 = yI Y 102 (t.2.toNatClampNeg) := e9.trans (hR.I (x := 102) hO6 2 (by decide) rfl)
    have h := h x8 e9
    refine ⟨fun c10 => ?_, fun c10 => ?_⟩
    · have h := h.1 c10
      exact yb_X11_passTick_142 hQ hL96 t.1 t.2 _ _ hR F  h
    · have h := h.2 c10
      refine ⟨hR.K ob_11, ?_⟩
      have a11 : sP σ (ad 11 0) 1 = some (ad 4 0) := hR.lk ob_11 1 (by decide) rfl
      refine ⟨_, a11, ?_⟩
      refine ⟨hR.K ob_4, ?_⟩
      intro x13 e14
      have e14 : x13 = yI Y 408 0 := e14.trans (hR.I (x := 408) ob_4 8 (by decide) rfl)
      have h := h x13 e14
      intro x15 e16
      have e16 : x15 = yI Y 103 (t.2.toNatClampNeg) := e16.trans (hR.I (x := 103) hO6 3 (by decide) rfl)
      have h := h x15 e16
      intro x17 e18
      have e18 : x17 = yI Y 1100 0 := e18.trans (hR.I (x := 1100) ob_11 0 (by decide) rfl)
      have h := h x17 e18
      refine ⟨fun c19 => ?_, fun c19 => ?_⟩
      · have h := h.1 c19
        exact yb_X11_passTick_142 hQ hL96 t.1 t.2 _ _ hR F  h
      · have h := h.2 c19
        refine y_X11_stamp hR hO6 h (fun σ20 Y21 h hR23 f22 => ?_)
        have F := F.trans f22
        have hR := hR23
        exact yb_X11_passTick_142 hQ hL96 t.1 t.2 _ _ hR F  h
def by_X11_passTick_80 (n : Nat)  (Ly53 : Int32 × Int32 → Yc → Prop) (Qy : Yc → Prop) (p2 : Int32) (p3 : Int32) (Y : Yc) : Prop := (∀ x1 : Int32, x1 = p3 + (1 : Int32) → Ly53 (p2, x1) Y)
set_option maxHeartbeats 4000000 in
set_option maxRecDepth 100000 in
theorem yb_X11_passTick_80 {n : Nat} {ad aa : Nat → Nat → Nat} {σ0 : Sto} {Ly53 : Int32 × Int32 → Yc → Prop} {L53 : Option Nat × Int32 × Int32 → Sto → Prop} {Q : Sto → Prop} {Qy : Yc → Prop} (hQ : ∀ (σ' : Sto) (Y' : Yc), Qy Y' → HY n ad aa σ' Y' → Fy n ad aa σ0 σ' → Q σ') (hL53 : ∀ (t9 : Option Nat × Int32 × Int32) (t : Int32 × Int32) (σ : Sto) (Y : Yc), Ly53 t Y → HY n ad aa σ Y → Fy n ad aa σ0 σ → (((some (aa 1103 0)), t.1, t.2) = t9 ∧ True) → L53 t9 σ) (p2 : Int32) (p3 : Int32) (σ : Sto) (Y : Yc) (hR : HY n ad aa σ Y) (F : Fy n ad aa σ0 σ) (h : by_X11_passTick_80 n Ly53 Qy p2 p3 Y) : b_X11_passTick_80 (ad 11 0) L53 Q (some (aa 1103 0)) p2 p3 σ := by
  unfold by_X11_passTick_80 at h
  unfold b_X11_passTick_80
  intro x1 e2
  have h := h x1 e2
  exact hL53 _ _ _ _ h hR F ⟨rfl, trivial⟩
def fy_X11_passTick_53 (n : Nat)  (Qy : Yc → Prop) (Ly53 : Int32 × Int32 → Yc → Prop) (t : Int32 × Int32) (Y : Yc) : Prop := ((t.1 ≤ t.2 → (∀ x6 : Int32, x6 = nI 4 → LFy (fy_X11_passTick_96 n  Qy) (x6, (0 : Int32)) Y)) ∧ (¬ t.1 ≤ t.2 → (vp_in t.2 n ∧ (∀ x14 : Int32, x14 = yI Y 803 (t.2.toNatClampNeg) → ((¬ x14 = 0 → by_X11_passTick_80 n Ly53 Qy t.1 t.2 Y) ∧ (x14 = 0 → (∀ x17 : Int32, x17 = yI Y 1100 0 → (wy_X8_passTick n (t.2.toNatClampNeg) x17 Y (fun (Y20 : Yc) => by_X11_passTick_80 n Ly53 Qy t.1 t.2 Y20)))))))))
set_option maxHeartbeats 4000000 in
set_option maxRecDepth 100000 in
theorem yf_X11_passTick_53 {n : Nat} {ad aa : Nat → Nat → Nat} {σ0 : Sto} {Q : Sto → Prop} {Qy : Yc → Prop} {Ly53 : Int32 × Int32 → Yc → Prop} {L53 : Option Nat × Int32 × Int32 → Sto → Prop} (hQ : ∀ (σ' : Sto) (Y' : Yc), Qy Y' → HY n ad aa σ' Y' → Fy n ad aa σ0 σ' → Q σ') (hL53 : ∀ (t9 : Option Nat × Int32 × Int32) (t : Int32 × Int32) (σ : Sto) (Y : Yc), Ly53 t Y → HY n ad aa σ Y → Fy n ad aa σ0 σ → (((some (aa 1103 0)), t.1, t.2) = t9 ∧ True) → L53 t9 σ) : ∀ (t9 : Option Nat × Int32 × Int32) (t : Int32 × Int32) (σ : Sto) (Y : Yc), HY n ad aa σ Y → Fy n ad aa σ0 σ → (((some (aa 1103 0)), t.1, t.2) = t9 ∧ True) → fy_X11_passTick_53 n  Qy Ly53 t Y → f_X11_passTick_53 (ad 11 0)  Q L53 t9 σ := by
  intro t9 t σ Y hR F hT h
  obtain ⟨rfl, _⟩ := hT
  unfold fy_X11_passTick_53 at h
  unfold f_X11_passTick_53
  dsimp only
  refine ⟨fun c1 => ?_, fun c1 => ?_⟩
  · have h := h.1 c1
    refine ⟨hR.K ob_11, ?_⟩
    have a2 : sP σ (ad 11 0) 4 = some (aa 1104 0) := hR.ar (x := 1104) ob_11 4 (by decide) rfl (by decide)
    intro r3 e4
    have e4 := e4.trans (a2)
    subst e4
    refine ⟨_, rfl, ?_⟩
    refine ⟨hR.arK (x := 1104) ob_11 4 (by decide) rfl (by decide), ?_⟩
    rw [show sN σ (aa 1104 0) = 4 from hR.arN (x := 1104) ob_11 4 (by decide) rfl (by decide)]
    intro x6 e7
    have h := h x6 e7
    exact lfy (fun σ t9 t => ((some (aa 1104 0)), t.1, t.2) = t9 ∧ True) h hR F ⟨rfl, trivial⟩ (fun Ly L hL t9 t σ Y hR F hT h => yf_X11_passTick_96 hQ  hL t9 t σ Y hR F hT h)
  · have h := h.2 c1
    refine ⟨_, rfl, ?_⟩
    refine ⟨hR.arK (x := 1103) ob_11 3 (by decide) rfl (by decide), ?_⟩
    have hz := h.1
    refine ⟨by first | exact hR.arV (x := 1103) ob_11 3 (by decide) rfl (by decide) hz | exact hz, ?_⟩
    have h := h.2
    have hO12 : Ob n 8 (t.2.toNatClampNeg) := ob_1103 hz
    intro r10 e11
    have e11 := e11.trans (hR.el (x := 1103) ob_11 3 (by decide) rfl (by decide) (el_1103 hz))
    subst e11
    refine ⟨_, rfl, ?_⟩
    refine ⟨hR.K hO12, ?_⟩
    intro x14 e15
    have e15 : x14 = yI Y 803 (t.2.toNatClampNeg) := e15.trans (hR.I (x := 803) hO12 3 (by decide) rfl)
    have h := h x14 e15
    refine ⟨fun c16 => ?_, fun c16 => ?_⟩
    · have h := h.1 c16
      exact yb_X11_passTick_80 hQ hL53 t.1 t.2 _ _ hR F  h
    · have h := h.2 c16
      refine ⟨hR.K ob_11, ?_⟩
      intro x17 e18
      have e18 : x17 = yI Y 1100 0 := e18.trans (hR.I (x := 1100) ob_11 0 (by decide) rfl)
      have h := h x17 e18
      refine y_X8_passTick hR hO12  h (fun σ19 Y20 h hR22 f21 => ?_)
      have F := F.trans f21
      have hR := hR22
      exact yb_X11_passTick_80 hQ hL53 t.1 t.2 _ _ hR F  h
def by_X11_passTick_43 (n : Nat)  (Qy : Yc → Prop)  (Y : Yc) : Prop := (∀ x5 : Int32, x5 = nI n → LFy (fy_X11_passTick_53 n  Qy) (x5, (0 : Int32)) Y)
set_option maxHeartbeats 4000000 in
set_option maxRecDepth 100000 in
theorem yb_X11_passTick_43 {n : Nat} {ad aa : Nat → Nat → Nat} {σ0 : Sto} {Q : Sto → Prop} {Qy : Yc → Prop} (hQ : ∀ (σ' : Sto) (Y' : Yc), Qy Y' → HY n ad aa σ' Y' → Fy n ad aa σ0 σ' → Q σ')   (σ : Sto) (Y : Yc) (hR : HY n ad aa σ Y) (F : Fy n ad aa σ0 σ) (h : by_X11_passTick_43 n  Qy  Y) : b_X11_passTick_43 (ad 11 0)  Q  σ := by
  unfold by_X11_passTick_43 at h
  unfold b_X11_passTick_43
  refine ⟨hR.K ob_11, ?_⟩
  have a1 : sP σ (ad 11 0) 3 = some (aa 1103 0) := hR.ar (x := 1103) ob_11 3 (by decide) rfl (by decide)
  intro r2 e3
  have e3 := e3.trans (a1)
  subst e3
  refine ⟨_, rfl, ?_⟩
  refine ⟨hR.arK (x := 1103) ob_11 3 (by decide) rfl (by decide), ?_⟩
  rw [show sN σ (aa 1103 0) = n from hR.arN (x := 1103) ob_11 3 (by decide) rfl (by decide)]
  intro x5 e6
  have h := h x5 e6
  exact lfy (fun σ t9 t => ((some (aa 1103 0)), t.1, t.2) = t9 ∧ True) h hR F ⟨rfl, trivial⟩ (fun Ly L hL t9 t σ Y hR F hT h => yf_X11_passTick_53 hQ  hL t9 t σ Y hR F hT h)
def wy_X11_passTick (n : Nat)  (Y : Yc) (Qy : Yc → Prop) : Prop := (∀ x5 : Int32, x5 = yI Y 408 0 → (∀ x7 : Int32, x7 = x5 + (1 : Int32) → (∀ x10 : Int32, x10 = yI (uI Y 408 0 x7) 1105 0 → ((¬ x10 = 0 → by_X11_passTick_43 n  Qy  (uI Y 408 0 x7)) ∧ (x10 = 0 → (∀ x15 : Int32, x15 = yI (uI Y 408 0 x7) 408 0 → (∀ x17 : Int32, x17 = yI (uI Y 408 0 x7) 1108 0 → (∀ x19 : Int32, x19 = yI (uI Y 408 0 x7) 1100 0 → (((x15 - x17) < x19 → by_X11_passTick_43 n  Qy  (uI Y 408 0 x7)) ∧ (¬ (x15 - x17) < x19 → (wy_X11_raiseSequencer n  (uI Y 408 0 x7) (fun (Y23 : Yc) => by_X11_passTick_43 n  Qy  Y23))))))))))))
set_option maxHeartbeats 4000000 in
set_option maxRecDepth 100000 in
theorem y_X11_passTick {n : Nat} {ad aa : Nat → Nat → Nat} {σ : Sto} {Y : Yc} {Q : Sto → Prop} {Qy : Yc → Prop} (hR : HY n ad aa σ Y) (h : wy_X11_passTick n  Y Qy) (hQ : ∀ (σ' : Sto) (Y' : Yc), Qy Y' → HY n ad aa σ' Y' → Fy n ad aa σ σ' → Q σ') : wp_X11_passTick (ad 11 0)  σ Q := by
  have F : Fy n ad aa σ σ := Fy.rf
  unfold wy_X11_passTick at h
  unfold wp_X11_passTick
  refine ⟨hR.K ob_11, ?_⟩
  have a1 : sP σ (ad 11 0) 1 = some (ad 4 0) := hR.lk ob_11 1 (by decide) rfl
  intro r2 e3
  have e3 := e3.trans (a1)
  subst e3
  refine ⟨_, rfl, ?_⟩
  refine ⟨hR.K ob_4, ?_⟩
  intro x5 e6
  have e6 : x5 = yI Y 408 0 := e6.trans (hR.I (x := 408) ob_4 8 (by decide) rfl)
  have h := h x5 e6
  intro x7 e8
  have h := h x7 e8
  have w9 := hR.wI (x := 408) ob_4 8 (by decide) rfl x7
  have F := F.trans w9.2
  have hR := w9.1
  intro x10 e11
  have e11 : x10 = yI (uI Y 408 0 x7) 1105 0 := e11.trans (hR.I (x := 1105) ob_11 5 (by decide) rfl)
  have h := h x10 e11
  refine ⟨fun c12 => ?_, fun c12 => ?_⟩
  · have h := h.1 c12
    exact yb_X11_passTick_43 hQ   _ _ hR F  h
  · have h := h.2 c12
    have a13 : sP σ (ad 11 0) 1 = some (ad 4 0) := hR.lk ob_11 1 (by decide) rfl
    refine ⟨_, a13, ?_⟩
    refine ⟨hR.K ob_4, ?_⟩
    intro x15 e16
    have e16 : x15 = yI (uI Y 408 0 x7) 408 0 := e16.trans (hR.I (x := 408) ob_4 8 (by decide) rfl)
    have h := h x15 e16
    intro x17 e18
    have e18 : x17 = yI (uI Y 408 0 x7) 1108 0 := e18.trans (hR.I (x := 1108) ob_11 8 (by decide) rfl)
    have h := h x17 e18
    intro x19 e20
    have e20 : x19 = yI (uI Y 408 0 x7) 1100 0 := e20.trans (hR.I (x := 1100) ob_11 0 (by decide) rfl)
    have h := h x19 e20
    refine ⟨fun c21 => ?_, fun c21 => ?_⟩
    · have h := h.1 c21
      exact yb_X11_passTick_43 hQ   _ _ hR F  h
    · have h := h.2 c21
      refine y_X11_raiseSequencer hR  h (fun σ22 Y23 h hR25 f24 => ?_)
      have F := F.trans f24
      have hR := hR25
      exact yb_X11_passTick_43 hQ   _ _ hR F  h
def fy_X11_tick_30 (n : Nat)  (Qy : Int32 → Yc → Prop) (Xy : Nat → Yc → Prop) (Ly30 : Int32 × Int32 × Int32 → Yc → Prop) (t : Int32 × Int32 × Int32) (Y : Yc) : Prop := ((t.1 ≤ t.2.2 → (∀ x4 : Int32, x4 = yI Y 406 0 → Qy (x4 - t.2.1) Y)) ∧ (¬ t.1 ≤ t.2.2 → (wy_X11_passTick n  Y (fun (Y7 : Yc) => (∀ x13 : Int32, x13 = t.2.2 + (1 : Int32) → Ly30 (t.1, t.2.1, x13) Y7)))))
set_option maxHeartbeats 4000000 in
set_option maxRecDepth 100000 in
theorem yf_X11_tick_30 {n : Nat} {ad aa : Nat → Nat → Nat} {σ0 : Sto} {Q : Int32 → Sto → Prop} {Qy : Int32 → Yc → Prop} {X : Nat → Sto → Prop} {Xy : Nat → Yc → Prop} {Ly30 : Int32 × Int32 × Int32 → Yc → Prop} {L30 : Int32 × Int32 × Int32 → Sto → Prop} (hQ : ∀ (r : Int32) (σ' : Sto) (Y' : Yc), Qy r Y' → HY n ad aa σ' Y' → Fy n ad aa σ0 σ' → Q r σ') (hX : ∀ (n0 : Nat) (σ' : Sto) (Y' : Yc), Xy n0 Y' → HY n ad aa σ' Y' → Fy n ad aa σ0 σ' → X n0 σ') (hL30 : ∀ (t9 : Int32 × Int32 × Int32) (t : Int32 × Int32 × Int32) (σ : Sto) (Y : Yc), Ly30 t Y → HY n ad aa σ Y → Fy n ad aa σ0 σ → ((t.1, t.2.1, t.2.2) = t9 ∧ True) → L30 t9 σ) : ∀ (t9 : Int32 × Int32 × Int32) (t : Int32 × Int32 × Int32) (σ : Sto) (Y : Yc), HY n ad aa σ Y → Fy n ad aa σ0 σ → ((t.1, t.2.1, t.2.2) = t9 ∧ True) → fy_X11_tick_30 n  Qy Xy Ly30 t Y → f_X11_tick_30 (ad 11 0)  Q X L30 t9 σ := by
  intro t9 t σ Y hR F hT h
  obtain ⟨rfl, _⟩ := hT
  unfold fy_X11_tick_30 at h
  unfold f_X11_tick_30
  dsimp only
  refine ⟨fun c1 => ?_, fun c1 => ?_⟩
  · have h := h.1 c1
    refine ⟨hR.K ob_11, ?_⟩
    have a2 : sP σ (ad 11 0) 1 = some (ad 4 0) := hR.lk ob_11 1 (by decide) rfl
    refine ⟨_, a2, ?_⟩
    refine ⟨hR.K ob_4, ?_⟩
    intro x4 e5
    have e5 : x4 = yI Y 406 0 := e5.trans (hR.I (x := 406) ob_4 6 (by decide) rfl)
    have h := h x4 e5
    exact hQ _ _ _ h hR F
  · have h := h.2 c1
    refine ⟨hR.K ob_11, ?_⟩
    refine y_X11_passTick hR  h (fun σ6 Y7 h hR9 f8 => ?_)
    have F := F.trans f8
    have hR := hR9
    intro x13 e14
    have h := h x13 e14
    exact hL30 _ _ _ _ h hR F ⟨rfl, trivial⟩
def wy_X11_tick (n : Nat) (p1 : Int32) (Y : Yc) (Qy : Int32 → Yc → Prop) (Xy : Nat → Yc → Prop) : Prop := ((p1 < 0 → Xy 1 Y) ∧ (¬ p1 < 0 → ((p1 ≤ (40 : Int32) → (∀ x5 : Int32, x5 = yI Y 406 0 → LFy (fy_X11_tick_30 n  Qy Xy) (p1, x5, (0 : Int32)) Y)) ∧ (¬ p1 ≤ (40 : Int32) → Xy 1 Y))))
set_option maxHeartbeats 4000000 in
set_option maxRecDepth 100000 in
theorem y_X11_tick {n : Nat} {ad aa : Nat → Nat → Nat} {p1 : Int32} {σ : Sto} {Y : Yc} {Q : Int32 → Sto → Prop} {Qy : Int32 → Yc → Prop} {X : Nat → Sto → Prop} {Xy : Nat → Yc → Prop} (hR : HY n ad aa σ Y) (h : wy_X11_tick n p1 Y Qy Xy) (hQ : ∀ (r : Int32) (σ' : Sto) (Y' : Yc), Qy r Y' → HY n ad aa σ' Y' → Fy n ad aa σ σ' → Q r σ') (hX : ∀ (n0 : Nat) (σ' : Sto) (Y' : Yc), Xy n0 Y' → HY n ad aa σ' Y' → Fy n ad aa σ σ' → X n0 σ') : wp_X11_tick (ad 11 0) p1 σ Q X := by
  have F : Fy n ad aa σ σ := Fy.rf
  unfold wy_X11_tick at h
  unfold wp_X11_tick
  refine ⟨fun c1 => ?_, fun c1 => ?_⟩
  · have h := h.1 c1
    exact hX _ _ _ h hR F
  · have h := h.2 c1
    refine ⟨fun c2 => ?_, fun c2 => ?_⟩
    · have h := h.1 c2
      refine ⟨hR.K ob_11, ?_⟩
      have a3 : sP σ (ad 11 0) 1 = some (ad 4 0) := hR.lk ob_11 1 (by decide) rfl
      refine ⟨_, a3, ?_⟩
      refine ⟨hR.K ob_4, ?_⟩
      intro x5 e6
      have e6 : x5 = yI Y 406 0 := e6.trans (hR.I (x := 406) ob_4 6 (by decide) rfl)
      have h := h x5 e6
      exact lfy (fun σ t9 t => (t.1, t.2.1, t.2.2) = t9 ∧ True) h hR F ⟨rfl, trivial⟩ (fun Ly L hL t9 t σ Y hR F hT h => yf_X11_tick_30 hQ hX  hL t9 t σ Y hR F hT h)
    · have h := h.2 c2
      exact hX _ _ _ h hR F
def fy_X11_calm_48 (n : Nat)  (Ly27 : Int32 × Int32 × Int32 → Yc → Prop) (Qy : Int32 → Yc → Prop) (Xy : Nat → Yc → Prop) (Ly48 : Int32 × Int32 × Int32 × Int32 × Int32 → Yc → Prop) (t : Int32 × Int32 × Int32 × Int32 × Int32) (Y : Yc) : Prop := ((t.2.2.2.1 ≤ t.2.2.2.2 → (∀ x2 : Int32, x2 = t.2.2.1 + (1 : Int32) → Ly27 (t.1, t.2.1, x2) Y)) ∧ (¬ t.2.2.2.1 ≤ t.2.2.2.2 → (wy_X11_handOver n (0 : Int32) Y (fun (Y5 : Yc) => (∀ x11 : Int32, x11 = t.2.2.2.2 + (1 : Int32) → Ly48 (t.1, t.2.1, t.2.2.1, t.2.2.2.1, x11) Y5)))))
set_option maxHeartbeats 4000000 in
set_option maxRecDepth 100000 in
theorem yf_X11_calm_48 {n : Nat} {ad aa : Nat → Nat → Nat} {σ0 : Sto} {Ly27 : Int32 × Int32 × Int32 → Yc → Prop} {L27 : Int32 × Int32 × Int32 → Sto → Prop} {Q : Int32 → Sto → Prop} {Qy : Int32 → Yc → Prop} {X : Nat → Sto → Prop} {Xy : Nat → Yc → Prop} {Ly48 : Int32 × Int32 × Int32 × Int32 × Int32 → Yc → Prop} {L48 : Int32 × Int32 × Int32 × Int32 × Int32 → Sto → Prop} (hQ : ∀ (r : Int32) (σ' : Sto) (Y' : Yc), Qy r Y' → HY n ad aa σ' Y' → Fy n ad aa σ0 σ' → Q r σ') (hX : ∀ (n0 : Nat) (σ' : Sto) (Y' : Yc), Xy n0 Y' → HY n ad aa σ' Y' → Fy n ad aa σ0 σ' → X n0 σ') (hL27 : ∀ (t9 : Int32 × Int32 × Int32) (t : Int32 × Int32 × Int32) (σ : Sto) (Y : Yc), Ly27 t Y → HY n ad aa σ Y → Fy n ad aa σ0 σ → ((t.1, t.2.1, t.2.2) = t9 ∧ True) → L27 t9 σ) (hL48 : ∀ (t9 : Int32 × Int32 × Int32 × Int32 × Int32) (t : Int32 × Int32 × Int32 × Int32 × Int32) (σ : Sto) (Y : Yc), Ly48 t Y → HY n ad aa σ Y → Fy n ad aa σ0 σ → ((t.1, t.2.1, t.2.2.1, t.2.2.2.1, t.2.2.2.2) = t9 ∧ True) → L48 t9 σ) : ∀ (t9 : Int32 × Int32 × Int32 × Int32 × Int32) (t : Int32 × Int32 × Int32 × Int32 × Int32) (σ : Sto) (Y : Yc), HY n ad aa σ Y → Fy n ad aa σ0 σ → ((t.1, t.2.1, t.2.2.1, t.2.2.2.1, t.2.2.2.2) = t9 ∧ True) → fy_X11_calm_48 n Ly27 Qy Xy Ly48 t Y → f_X11_calm_48 (ad 11 0) L27 Q X L48 t9 σ := by
  intro t9 t σ Y hR F hT h
  obtain ⟨rfl, _⟩ := hT
  unfold fy_X11_calm_48 at h
  unfold f_X11_calm_48
  dsimp only
  refine ⟨fun c1 => ?_, fun c1 => ?_⟩
  · have h := h.1 c1
    intro x2 e3
    have h := h x2 e3
    exact hL27 _ _ _ _ h hR F ⟨rfl, trivial⟩
  · have h := h.2 c1
    refine ⟨hR.K ob_11, ?_⟩
    refine y_X11_handOver hR  h (fun σ4 Y5 h hR7 f6 => ?_)
    have F := F.trans f6
    have hR := hR7
    intro x11 e12
    have h := h x11 e12
    exact hL48 _ _ _ _ h hR F ⟨rfl, trivial⟩
def fy_X11_calm_27 (n : Nat)  (Qy : Int32 → Yc → Prop) (Xy : Nat → Yc → Prop) (Ly27 : Int32 × Int32 × Int32 → Yc → Prop) (t : Int32 × Int32 × Int32) (Y : Yc) : Prop := ((t.1 ≤ t.2.2 → (∀ x2 : Int32, x2 = yI Y 1110 0 → Qy (x2 - t.2.1) Y)) ∧ (¬ t.1 ≤ t.2.2 → (wy_X11_passTick n  Y (fun (Y5 : Yc) => (∀ x13 : Int32, x13 = yI Y5 405 0 → LFy (fy_X11_calm_48 n Ly27 Qy Xy) (t.1, t.2.1, t.2.2, x13, (0 : Int32)) Y5)))))
set_option maxHeartbeats 4000000 in
set_option maxRecDepth 100000 in
theorem yf_X11_calm_27 {n : Nat} {ad aa : Nat → Nat → Nat} {σ0 : Sto} {Q : Int32 → Sto → Prop} {Qy : Int32 → Yc → Prop} {X : Nat → Sto → Prop} {Xy : Nat → Yc → Prop} {Ly27 : Int32 × Int32 × Int32 → Yc → Prop} {L27 : Int32 × Int32 × Int32 → Sto → Prop} (hQ : ∀ (r : Int32) (σ' : Sto) (Y' : Yc), Qy r Y' → HY n ad aa σ' Y' → Fy n ad aa σ0 σ' → Q r σ') (hX : ∀ (n0 : Nat) (σ' : Sto) (Y' : Yc), Xy n0 Y' → HY n ad aa σ' Y' → Fy n ad aa σ0 σ' → X n0 σ') (hL27 : ∀ (t9 : Int32 × Int32 × Int32) (t : Int32 × Int32 × Int32) (σ : Sto) (Y : Yc), Ly27 t Y → HY n ad aa σ Y → Fy n ad aa σ0 σ → ((t.1, t.2.1, t.2.2) = t9 ∧ True) → L27 t9 σ) : ∀ (t9 : Int32 × Int32 × Int32) (t : Int32 × Int32 × Int32) (σ : Sto) (Y : Yc), HY n ad aa σ Y → Fy n ad aa σ0 σ → ((t.1, t.2.1, t.2.2) = t9 ∧ True) → fy_X11_calm_27 n  Qy Xy Ly27 t Y → f_X11_calm_27 (ad 11 0)  Q X L27 t9 σ := by
  intro t9 t σ Y hR F hT h
  obtain ⟨rfl, _⟩ := hT
  unfold fy_X11_calm_27 at h
  unfold f_X11_calm_27
  dsimp only
  refine ⟨fun c1 => ?_, fun c1 => ?_⟩
  · have h := h.1 c1
    refine ⟨hR.K ob_11, ?_⟩
    intro x2 e3
    have e3 : x2 = yI Y 1110 0 := e3.trans (hR.I (x := 1110) ob_11 10 (by decide) rfl)
    have h := h x2 e3
    exact hQ _ _ _ h hR F
  · have h := h.2 c1
    refine ⟨hR.K ob_11, ?_⟩
    refine y_X11_passTick hR  h (fun σ4 Y5 h hR7 f6 => ?_)
    have F := F.trans f6
    have hR := hR7
    refine ⟨hR.K ob_11, ?_⟩
    have a11 : sP σ4 (ad 11 0) 1 = some (ad 4 0) := hR.lk ob_11 1 (by decide) rfl
    refine ⟨_, a11, ?_⟩
    refine ⟨hR.K ob_4, ?_⟩
    intro x13 e14
    have e14 : x13 = yI Y5 405 0 := e14.trans (hR.I (x := 405) ob_4 5 (by decide) rfl)
    have h := h x13 e14
    exact lfy (fun σ t9 t => (t.1, t.2.1, t.2.2.1, t.2.2.2.1, t.2.2.2.2) = t9 ∧ True) h hR F ⟨rfl, trivial⟩ (fun Ly L hL t9 t σ Y hR F hT h => yf_X11_calm_48 hQ hX hL27 hL t9 t σ Y hR F hT h)
def wy_X11_calm (n : Nat) (p1 : Int32) (Y : Yc) (Qy : Int32 → Yc → Prop) (Xy : Nat → Yc → Prop) : Prop := ((p1 < 0 → Xy 1 Y) ∧ (¬ p1 < 0 → ((p1 ≤ (20 : Int32) → (∀ x3 : Int32, x3 = yI Y 1110 0 → LFy (fy_X11_calm_27 n  Qy Xy) (p1, x3, (0 : Int32)) Y)) ∧ (¬ p1 ≤ (20 : Int32) → Xy 1 Y))))
set_option maxHeartbeats 4000000 in
set_option maxRecDepth 100000 in
theorem y_X11_calm {n : Nat} {ad aa : Nat → Nat → Nat} {p1 : Int32} {σ : Sto} {Y : Yc} {Q : Int32 → Sto → Prop} {Qy : Int32 → Yc → Prop} {X : Nat → Sto → Prop} {Xy : Nat → Yc → Prop} (hR : HY n ad aa σ Y) (h : wy_X11_calm n p1 Y Qy Xy) (hQ : ∀ (r : Int32) (σ' : Sto) (Y' : Yc), Qy r Y' → HY n ad aa σ' Y' → Fy n ad aa σ σ' → Q r σ') (hX : ∀ (n0 : Nat) (σ' : Sto) (Y' : Yc), Xy n0 Y' → HY n ad aa σ' Y' → Fy n ad aa σ σ' → X n0 σ') : wp_X11_calm (ad 11 0) p1 σ Q X := by
  have F : Fy n ad aa σ σ := Fy.rf
  unfold wy_X11_calm at h
  unfold wp_X11_calm
  refine ⟨fun c1 => ?_, fun c1 => ?_⟩
  · have h := h.1 c1
    exact hX _ _ _ h hR F
  · have h := h.2 c1
    refine ⟨fun c2 => ?_, fun c2 => ?_⟩
    · have h := h.1 c2
      refine ⟨hR.K ob_11, ?_⟩
      intro x3 e4
      have e4 : x3 = yI Y 1110 0 := e4.trans (hR.I (x := 1110) ob_11 10 (by decide) rfl)
      have h := h x3 e4
      exact lfy (fun σ t9 t => (t.1, t.2.1, t.2.2) = t9 ∧ True) h hR F ⟨rfl, trivial⟩ (fun Ly L hL t9 t σ Y hR F hT h => yf_X11_calm_27 hQ hX  hL t9 t σ Y hR F hT h)
    · have h := h.2 c2
      exact hX _ _ _ h hR F
def by_X11_fail_20 (n : Nat)  (Qy : Int32 → Yc → Prop) (p1 : Int32) (Y : Yc) : Prop := ((p1 = 0 ∨ p1 = 1) ∧ Qy p1 (uI Y 1105 0 (0 : Int32)))
set_option maxHeartbeats 4000000 in
set_option maxRecDepth 100000 in
theorem yb_X11_fail_20 {n : Nat} {ad aa : Nat → Nat → Nat} {σ0 : Sto} {Q : Int32 → Sto → Prop} {Qy : Int32 → Yc → Prop} (hQ : ∀ (r : Int32) (σ' : Sto) (Y' : Yc), Qy r Y' → HY n ad aa σ' Y' → Fy n ad aa σ0 σ' → Q r σ')  (p1 : Int32) (σ : Sto) (Y : Yc) (hR : HY n ad aa σ Y) (F : Fy n ad aa σ0 σ) (h : by_X11_fail_20 n  Qy p1 Y) : b_X11_fail_20 (ad 11 0)  Q p1 σ := by
  unfold by_X11_fail_20 at h
  unfold b_X11_fail_20
  refine ⟨hR.K ob_11, ?_⟩
  have w1 := hR.wI (x := 1105) ob_11 5 (by decide) rfl (0 : Int32)
  have F := F.trans w1.2
  have hR := w1.1
  exact ⟨h.1, hQ _ _ _ h.2 hR F⟩
def wy_X11_fail (n : Nat)  (Y : Yc) (Qy : Int32 → Yc → Prop) : Prop := (∀ x1 : Int32, x1 = yI Y 1105 0 → ((x1 = 0 → by_X11_fail_20 n  Qy x1 Y) ∧ (¬ x1 = 0 → (∀ x6 : Int32, x6 = yI Y 408 0 → by_X11_fail_20 n  Qy x1 (uI Y 1108 0 x6)))))
set_option maxHeartbeats 4000000 in
set_option maxRecDepth 100000 in
theorem y_X11_fail {n : Nat} {ad aa : Nat → Nat → Nat} {σ : Sto} {Y : Yc} {Q : Int32 → Sto → Prop} {Qy : Int32 → Yc → Prop} (hR : HY n ad aa σ Y) (h : wy_X11_fail n  Y Qy) (hQ : ∀ (r : Int32) (σ' : Sto) (Y' : Yc), Qy r Y' → HY n ad aa σ' Y' → Fy n ad aa σ σ' → Q r σ') : wp_X11_fail (ad 11 0)  σ Q := by
  have F : Fy n ad aa σ σ := Fy.rf
  unfold wy_X11_fail at h
  unfold wp_X11_fail
  refine ⟨hR.K ob_11, ?_⟩
  intro x1 e2
  have e2 : x1 = yI Y 1105 0 := e2.trans (hR.I (x := 1105) ob_11 5 (by decide) rfl)
  have h := h x1 e2
  refine ⟨fun c3 => ?_, fun c3 => ?_⟩
  · have h := h.1 c3
    exact yb_X11_fail_20 hQ  x1 _ _ hR F  h
  · have h := h.2 c3
    have a4 : sP σ (ad 11 0) 1 = some (ad 4 0) := hR.lk ob_11 1 (by decide) rfl
    refine ⟨_, a4, ?_⟩
    refine ⟨hR.K ob_4, ?_⟩
    intro x6 e7
    have e7 : x6 = yI Y 408 0 := e7.trans (hR.I (x := 408) ob_4 8 (by decide) rfl)
    have h := h x6 e7
    have w8 := hR.wI (x := 1108) ob_11 8 (by decide) rfl x6
    have F := F.trans w8.2
    have hR := w8.1
    exact yb_X11_fail_20 hQ  x1 _ _ hR F  h
def wy_X11_install (n : Nat)  (Y : Yc) (Qy : Int32 → Yc → Prop) : Prop := (wy_X11_raiseSequencer n  Y (fun (Y2 : Yc) => (∀ x8 : Int32, x8 = yI Y2 1106 0 → Qy x8 Y2)))
set_option maxHeartbeats 4000000 in
set_option maxRecDepth 100000 in
theorem y_X11_install {n : Nat} {ad aa : Nat → Nat → Nat} {σ : Sto} {Y : Yc} {Q : Int32 → Sto → Prop} {Qy : Int32 → Yc → Prop} (hR : HY n ad aa σ Y) (h : wy_X11_install n  Y Qy) (hQ : ∀ (r : Int32) (σ' : Sto) (Y' : Yc), Qy r Y' → HY n ad aa σ' Y' → Fy n ad aa σ σ' → Q r σ') : wp_X11_install (ad 11 0)  σ Q := by
  have F : Fy n ad aa σ σ := Fy.rf
  unfold wy_X11_install at h
  unfold wp_X11_install
  refine ⟨hR.K ob_11, ?_⟩
  refine y_X11_raiseSequencer hR  h (fun σ1 Y2 h hR4 f3 => ?_)
  have F := F.trans f3
  have hR := hR4
  refine ⟨hR.K ob_11, ?_⟩
  intro x8 e9
  have e9 : x8 = yI Y2 1106 0 := e9.trans (hR.I (x := 1106) ob_11 6 (by decide) rfl)
  have h := h x8 e9
  exact hQ _ _ _ h hR F
def wy_X11_replica (n : Nat) (p1 : Int32) (p2 : Int32) (Y : Yc) (Qy : Int32 → Yc → Prop) : Prop := (wy_X11_isReplica n p1 Y (fun (x5 : Int32) (Y2 : Yc) => ((¬ x5 = 0 → (vp_in p1 n ∧ ((p2.toInt < 0 ∨ 10 < p2.toInt → Qy (-1 : Int32) Y2) ∧ (p2 = (0 : Int32) → (∀ x17 : Int32, x17 = yI Y2 803 (p1.toNatClampNeg) → ((x17 = 0 → Qy (0 : Int32) Y2) ∧ (¬ x17 = 0 → Qy (1 : Int32) Y2)))) ∧ (p2 = (1 : Int32) → (∀ x21 : Int32, x21 = yI Y2 804 (p1.toNatClampNeg) → Qy x21 Y2)) ∧ (p2 = (2 : Int32) → (∀ y24 : Int64, y24 = yJ Y2 805 (p1.toNatClampNeg) → (wy_X11_leadOf n y24 Y2 (fun (x30 : Int32) (Y27 : Yc) => Qy x30 Y27)))) ∧ (p2 = (3 : Int32) → (∀ y34 : Int64, y34 = yJ Y2 805 (p1.toNatClampNeg) → (wy_X11_sessionOf n y34 Y2 (fun (x40 : Int32) (Y37 : Yc) => Qy x40 Y37)))) ∧ (p2 = (4 : Int32) → (∀ x46 : Int32, x46 = yI Y2 202 (p1.toNatClampNeg) → Qy x46 Y2)) ∧ (p2 = (5 : Int32) → (∀ x51 : Int32, x51 = yI Y2 201 (p1.toNatClampNeg) → Qy x51 Y2)) ∧ (p2 = (6 : Int32) → (∀ x54 : Int32, x54 = yI Y2 808 (p1.toNatClampNeg) → Qy x54 Y2)) ∧ (p2 = (7 : Int32) → (∀ x59 : Int32, x59 = yI Y2 502 (p1.toNatClampNeg) → Qy x59 Y2)) ∧ (p2 = (8 : Int32) → (∀ y62 : Int64, y62 = yJ Y2 806 (p1.toNatClampNeg) → (wy_X11_leadOf n y62 Y2 (fun (x68 : Int32) (Y65 : Yc) => Qy x68 Y65)))) ∧ (p2 = (9 : Int32) → (∀ y72 : Int64, y72 = yJ Y2 806 (p1.toNatClampNeg) → (wy_X11_sessionOf n y72 Y2 (fun (x78 : Int32) (Y75 : Yc) => Qy x78 Y75)))) ∧ (p2 = (10 : Int32) → (∀ x82 : Int32, x82 = yI Y2 809 (p1.toNatClampNeg) → Qy x82 Y2))))) ∧ (x5 = 0 → Qy (-1 : Int32) Y2))))
set_option maxHeartbeats 4000000 in
set_option maxRecDepth 100000 in
theorem y_X11_replica {n : Nat} {ad aa : Nat → Nat → Nat} {p1 : Int32} {p2 : Int32} {σ : Sto} {Y : Yc} {Q : Int32 → Sto → Prop} {Qy : Int32 → Yc → Prop} (hR : HY n ad aa σ Y) (h : wy_X11_replica n p1 p2 Y Qy) (hQ : ∀ (r : Int32) (σ' : Sto) (Y' : Yc), Qy r Y' → HY n ad aa σ' Y' → Fy n ad aa σ σ' → Q r σ') : wp_X11_replica (ad 11 0) p1 p2 σ Q := by
  have F : Fy n ad aa σ σ := Fy.rf
  unfold wy_X11_replica at h
  unfold wp_X11_replica
  refine ⟨hR.K ob_11, ?_⟩
  refine y_X11_isReplica hR  h (fun x5 σ1 Y2 h hR4 f3 => ?_)
  have F := F.trans f3
  have hR := hR4
  refine ⟨fun c8 => ?_, fun c8 => ?_⟩
  · have h := h.1 c8
    refine ⟨hR.K ob_11, ?_⟩
    have a9 : sP σ1 (ad 11 0) 3 = some (aa 1103 0) := hR.ar (x := 1103) ob_11 3 (by decide) rfl (by decide)
    refine ⟨_, a9, ?_⟩
    refine ⟨hR.arK (x := 1103) ob_11 3 (by decide) rfl (by decide), ?_⟩
    have hz := h.1
    refine ⟨by first | exact hR.arV (x := 1103) ob_11 3 (by decide) rfl (by decide) hz | exact hz, ?_⟩
    have h := h.2
    have hO14 : Ob n 8 (p1.toNatClampNeg) := ob_1103 hz
    intro r12 e13
    have e13 := e13.trans (hR.el (x := 1103) ob_11 3 (by decide) rfl (by decide) (el_1103 hz))
    subst e13
    refine ⟨fun c15 => ?_, fun c15 => ?_, fun c15 => ?_, fun c15 => ?_, fun c15 => ?_, fun c15 => ?_, fun c15 => ?_, fun c15 => ?_, fun c15 => ?_, fun c15 => ?_, fun c15 => ?_, fun c15 => ?_⟩
    · have h := h.1 c15
      exact hQ _ _ _ h hR F
    · have h := h.2.1 c15
      refine ⟨_, rfl, ?_⟩
      refine ⟨hR.K hO14, ?_⟩
      intro x17 e18
      have e18 : x17 = yI Y2 803 (p1.toNatClampNeg) := e18.trans (hR.I (x := 803) hO14 3 (by decide) rfl)
      have h := h x17 e18
      refine ⟨fun c19 => ?_, fun c19 => ?_⟩
      · have h := h.1 c19
        exact hQ _ _ _ h hR F
      · have h := h.2 c19
        exact hQ _ _ _ h hR F
    · have h := h.2.2.1 c15
      refine ⟨_, rfl, ?_⟩
      refine ⟨hR.K hO14, ?_⟩
      intro x21 e22
      have e22 : x21 = yI Y2 804 (p1.toNatClampNeg) := e22.trans (hR.I (x := 804) hO14 4 (by decide) rfl)
      have h := h x21 e22
      exact hQ _ _ _ h hR F
    · have h := h.2.2.2.1 c15
      refine ⟨_, rfl, ?_⟩
      refine ⟨hR.K hO14, ?_⟩
      intro y24 e25
      have e25 : y24 = yJ Y2 805 (p1.toNatClampNeg) := e25.trans (hR.J (x := 805) hO14 5 (by decide) rfl)
      have h := h y24 e25
      refine y_X11_leadOf hR  h (fun x30 σ26 Y27 h hR29 f28 => ?_)
      have F := F.trans f28
      have hR := hR29
      exact hQ _ _ _ h hR F
    · have h := h.2.2.2.2.1 c15
      refine ⟨_, rfl, ?_⟩
      refine ⟨hR.K hO14, ?_⟩
      intro y34 e35
      have e35 : y34 = yJ Y2 805 (p1.toNatClampNeg) := e35.trans (hR.J (x := 805) hO14 5 (by decide) rfl)
      have h := h y34 e35
      refine y_X11_sessionOf hR  h (fun x40 σ36 Y37 h hR39 f38 => ?_)
      have F := F.trans f38
      have hR := hR39
      exact hQ _ _ _ h hR F
    · have h := h.2.2.2.2.2.1 c15
      refine ⟨_, rfl, ?_⟩
      refine ⟨hR.K hO14, ?_⟩
      have a44 : sP σ1 (ad 8 (p1.toNatClampNeg)) 7 = some (ad 2 (p1.toNatClampNeg)) := hR.lk hO14 7 (by decide) rfl
      refine ⟨_, a44, ?_⟩
      refine ⟨hR.K (ob_807 hO14), ?_⟩
      intro x46 e47
      have e47 : x46 = yI Y2 202 (p1.toNatClampNeg) := e47.trans (hR.I (x := 202) (ob_807 hO14) 2 (by decide) rfl)
      have h := h x46 e47
      exact hQ _ _ _ h hR F
    · have h := h.2.2.2.2.2.2.1 c15
      refine ⟨_, rfl, ?_⟩
      refine ⟨hR.K hO14, ?_⟩
      have a49 : sP σ1 (ad 8 (p1.toNatClampNeg)) 7 = some (ad 2 (p1.toNatClampNeg)) := hR.lk hO14 7 (by decide) rfl
      refine ⟨_, a49, ?_⟩
      refine ⟨hR.K (ob_807 hO14), ?_⟩
      intro x51 e52
      have e52 : x51 = yI Y2 201 (p1.toNatClampNeg) := e52.trans (hR.I (x := 201) (ob_807 hO14) 1 (by decide) rfl)
      have h := h x51 e52
      exact hQ _ _ _ h hR F
    · have h := h.2.2.2.2.2.2.2.1 c15
      refine ⟨_, rfl, ?_⟩
      refine ⟨hR.K hO14, ?_⟩
      intro x54 e55
      have e55 : x54 = yI Y2 808 (p1.toNatClampNeg) := e55.trans (hR.I (x := 808) hO14 8 (by decide) rfl)
      have h := h x54 e55
      exact hQ _ _ _ h hR F
    · have h := h.2.2.2.2.2.2.2.2.1 c15
      refine ⟨_, rfl, ?_⟩
      refine ⟨hR.K hO14, ?_⟩
      have a57 : sP σ1 (ad 8 (p1.toNatClampNeg)) 10 = some (ad 5 (p1.toNatClampNeg)) := hR.lk hO14 10 (by decide) rfl
      refine ⟨_, a57, ?_⟩
      refine ⟨hR.K (ob_810 hO14), ?_⟩
      intro x59 e60
      have e60 : x59 = yI Y2 502 (p1.toNatClampNeg) := e60.trans (hR.I (x := 502) (ob_810 hO14) 2 (by decide) rfl)
      have h := h x59 e60
      exact hQ _ _ _ h hR F
    · have h := h.2.2.2.2.2.2.2.2.2.1 c15
      refine ⟨_, rfl, ?_⟩
      refine ⟨hR.K hO14, ?_⟩
      intro y62 e63
      have e63 : y62 = yJ Y2 806 (p1.toNatClampNeg) := e63.trans (hR.J (x := 806) hO14 6 (by decide) rfl)
      have h := h y62 e63
      refine y_X11_leadOf hR  h (fun x68 σ64 Y65 h hR67 f66 => ?_)
      have F := F.trans f66
      have hR := hR67
      exact hQ _ _ _ h hR F
    · have h := h.2.2.2.2.2.2.2.2.2.2.1 c15
      refine ⟨_, rfl, ?_⟩
      refine ⟨hR.K hO14, ?_⟩
      intro y72 e73
      have e73 : y72 = yJ Y2 806 (p1.toNatClampNeg) := e73.trans (hR.J (x := 806) hO14 6 (by decide) rfl)
      have h := h y72 e73
      refine y_X11_sessionOf hR  h (fun x78 σ74 Y75 h hR77 f76 => ?_)
      have F := F.trans f76
      have hR := hR77
      exact hQ _ _ _ h hR F
    · have h := h.2.2.2.2.2.2.2.2.2.2.2 c15
      refine ⟨_, rfl, ?_⟩
      refine ⟨hR.K hO14, ?_⟩
      intro x82 e83
      have e83 : x82 = yI Y2 809 (p1.toNatClampNeg) := e83.trans (hR.I (x := 809) hO14 9 (by decide) rfl)
      have h := h x82 e83
      exact hQ _ _ _ h hR F
  · have h := h.2 c8
    exact hQ _ _ _ h hR F
