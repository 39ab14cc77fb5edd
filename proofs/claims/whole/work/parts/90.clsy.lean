def by_X11_broken_114 (n : Nat)  (Ly91 : Int32 × Int32 × Int32 → Yc → Prop) (Qy : Int32 → Yc → Prop) (p1 : Int32) (p3 : Int32) (s0 : Int32) (s1 : Int32) (Y : Yc) : Prop := (∀ x1 : Int32, x1 = s1 + s0 → (∀ x3 : Int32, x3 = p3 + (1 : Int32) → Ly91 (p1, x1, x3) Y))
set_option maxHeartbeats 4000000 in
set_option maxRecDepth 100000 in
theorem yb_X11_broken_114 {n : Nat} {ad aa : Nat → Nat → Nat} {σ0 : Sto} {Ly91 : Int32 × Int32 × Int32 → Yc → Prop} {L91 : Int32 × Int32 × Int32 → Sto → Prop} {Q : Int32 → Sto → Prop} {Qy : Int32 → Yc → Prop} (hQ : ∀ (r : Int32) (σ' : Sto) (Y' : Yc), Qy r Y' → HY n ad aa σ' Y' → Fy n ad aa σ0 σ' → Q r σ') (hL91 : ∀ (t9 : Int32 × Int32 × Int32) (t : Int32 × Int32 × Int32) (σ : Sto) (Y : Yc), Ly91 t Y → HY n ad aa σ Y → Fy n ad aa σ0 σ → ((t.1, t.2.1, t.2.2) = t9 ∧ True) → L91 t9 σ) (p1 : Int32) (p3 : Int32) (s0 : Int32) (s1 : Int32) (σ : Sto) (Y : Yc) (hR : HY n ad aa σ Y) (F : Fy n ad aa σ0 σ) (h : by_X11_broken_114 n Ly91 Qy p1 p3 s0 s1 Y) : b_X11_broken_114 (ad 11 0) L91 Q p1 p3 s0 s1 σ := by
  unfold by_X11_broken_114 at h
  unfold b_X11_broken_114
  intro x1 e2
  have h := h x1 e2
  intro x3 e4
  have h := h x3 e4
  exact hL91 _ _ _ _ h hR F ⟨rfl, trivial⟩
def fy_X11_broken_91 (n : Nat)  (Qy : Int32 → Yc → Prop) (Ly91 : Int32 × Int32 × Int32 → Yc → Prop) (t : Int32 × Int32 × Int32) (Y : Yc) : Prop := ((t.1 ≤ t.2.2 → Qy t.2.1 Y) ∧ (¬ t.1 ≤ t.2.2 → (vp_in t.2.2 200 ∧ (∀ x9 : Int32, x9 = yI Y 605 (260 + t.2.2.toNatClampNeg) → ((x9 = 0 → by_X11_broken_114 n Ly91 Qy t.1 t.2.2 (0 : Int32) t.2.1 Y) ∧ (¬ x9 = 0 → by_X11_broken_114 n Ly91 Qy t.1 t.2.2 (1 : Int32) t.2.1 Y))))))
set_option maxHeartbeats 4000000 in
set_option maxRecDepth 100000 in
theorem yf_X11_broken_91 {n : Nat} {ad aa : Nat → Nat → Nat} {σ0 : Sto} {Q : Int32 → Sto → Prop} {Qy : Int32 → Yc → Prop} {Ly91 : Int32 × Int32 × Int32 → Yc → Prop} {L91 : Int32 × Int32 × Int32 → Sto → Prop} (hQ : ∀ (r : Int32) (σ' : Sto) (Y' : Yc), Qy r Y' → HY n ad aa σ' Y' → Fy n ad aa σ0 σ' → Q r σ') (hL91 : ∀ (t9 : Int32 × Int32 × Int32) (t : Int32 × Int32 × Int32) (σ : Sto) (Y : Yc), Ly91 t Y → HY n ad aa σ Y → Fy n ad aa σ0 σ → ((t.1, t.2.1, t.2.2) = t9 ∧ True) → L91 t9 σ) : ∀ (t9 : Int32 × Int32 × Int32) (t : Int32 × Int32 × Int32) (σ : Sto) (Y : Yc), HY n ad aa σ Y → Fy n ad aa σ0 σ → ((t.1, t.2.1, t.2.2) = t9 ∧ True) → fy_X11_broken_91 n  Qy Ly91 t Y → f_X11_broken_91 (ad 11 0)  Q L91 t9 σ := by
  intro t9 t σ Y hR F hT h
  obtain ⟨rfl, _⟩ := hT
  unfold fy_X11_broken_91 at h
  unfold f_X11_broken_91
  dsimp only
  refine ⟨fun c1 => ?_, fun c1 => ?_⟩
  · have h := h.1 c1
    exact hQ _ _ _ h hR F
  · have h := h.2 c1
    refine ⟨hR.K ob_11, ?_⟩
    have a2 : sP σ (ad 11 0) 9 = some (aa 1109 0) := hR.ar (x := 1109) ob_11 9 (by decide) rfl (by decide)
    refine ⟨_, a2, ?_⟩
    refine ⟨hR.arK (x := 1109) ob_11 9 (by decide) rfl (by decide), ?_⟩
    have hz := h.1
    refine ⟨by first | exact hR.arV (x := 1109) ob_11 9 (by decide) rfl (by decide) hz | exact hz, ?_⟩
    have h := h.2
    have hO7 : Ob n 6 (260 + t.2.2.toNatClampNeg) := ob_1109 hz
    intro r5 e6
    have e6 := e6.trans (hR.el (x := 1109) ob_11 9 (by decide) rfl (by decide) (el_1109 hz))
    subst e6
    refine ⟨_, rfl, ?_⟩
    refine ⟨hR.K hO7, ?_⟩
    intro x9 e10
    have e10 : x9 = yI Y 605 (260 + t.2.2.toNatClampNeg) := e10.trans (hR.I (x := 605) hO7 5 (by decide) rfl)
    have h := h x9 e10
    refine ⟨fun c11 => ?_, fun c11 => ?_⟩
    · have h := h.1 c11
      exact yb_X11_broken_114 hQ hL91 t.1 t.2.2 (0 : Int32) t.2.1 _ _ hR F  h
    · have h := h.2 c11
      exact yb_X11_broken_114 hQ hL91 t.1 t.2.2 (1 : Int32) t.2.1 _ _ hR F  h
def by_X11_broken_81 (n : Nat)  (Ly45 : Int32 × Int32 × Int32 → Yc → Prop) (Qy : Int32 → Yc → Prop) (p1 : Int32) (p3 : Int32) (p4 : Int32) (Y : Yc) : Prop := (∀ x1 : Int32, x1 = p4 + (1 : Int32) → Ly45 (p1, p3, x1) Y)
set_option maxHeartbeats 4000000 in
set_option maxRecDepth 100000 in
theorem yb_X11_broken_81 {n : Nat} {ad aa : Nat → Nat → Nat} {σ0 : Sto} {Ly45 : Int32 × Int32 × Int32 → Yc → Prop} {L45 : Int32 × Option Nat × Int32 × Int32 → Sto → Prop} {Q : Int32 → Sto → Prop} {Qy : Int32 → Yc → Prop} (hQ : ∀ (r : Int32) (σ' : Sto) (Y' : Yc), Qy r Y' → HY n ad aa σ' Y' → Fy n ad aa σ0 σ' → Q r σ') (hL45 : ∀ (t9 : Int32 × Option Nat × Int32 × Int32) (t : Int32 × Int32 × Int32) (σ : Sto) (Y : Yc), Ly45 t Y → HY n ad aa σ Y → Fy n ad aa σ0 σ → ((t.1, (some (aa 1103 0)), t.2.1, t.2.2) = t9 ∧ True) → L45 t9 σ) (p1 : Int32) (p3 : Int32) (p4 : Int32) (σ : Sto) (Y : Yc) (hR : HY n ad aa σ Y) (F : Fy n ad aa σ0 σ) (h : by_X11_broken_81 n Ly45 Qy p1 p3 p4 Y) : b_X11_broken_81 (ad 11 0) L45 Q p1 (some (aa 1103 0)) p3 p4 σ := by
  unfold by_X11_broken_81 at h
  unfold b_X11_broken_81
  intro x1 e2
  have h := h x1 e2
  exact hL45 _ _ _ _ h hR F ⟨rfl, trivial⟩
def fy_X11_broken_45 (n : Nat)  (Qy : Int32 → Yc → Prop) (Ly45 : Int32 × Int32 × Int32 → Yc → Prop) (t : Int32 × Int32 × Int32) (Y : Yc) : Prop := ((t.2.1 ≤ t.2.2 → LFy (fy_X11_broken_91 n  Qy) (t.1, (0 : Int32), (0 : Int32)) Y) ∧ (¬ t.2.1 ≤ t.2.2 → (vp_in t.2.2 n ∧ (wy_X8_leads n (t.2.2.toNatClampNeg)  Y (fun (x12 : Int32) (Y9 : Yc) => ((x12 = 0 → by_X11_broken_81 n Ly45 Qy t.1 t.2.1 t.2.2 Y9) ∧ (¬ x12 = 0 → (∀ x16 : Int32, x16 = yI Y9 804 (t.2.2.toNatClampNeg) → ((x16 = (2 : Int32) → by_X11_broken_81 n Ly45 Qy t.1 t.2.1 t.2.2 Y9) ∧ (¬ x16 = (2 : Int32) → (wy_X11_judge n (t.2.2.toNatClampNeg) t.1 Y9 (fun (Y20 : Yc) => by_X11_broken_81 n Ly45 Qy t.1 t.2.1 t.2.2 Y20))))))))))))
set_option maxHeartbeats 4000000 in
set_option maxRecDepth 100000 in
theorem yf_X11_broken_45 {n : Nat} {ad aa : Nat → Nat → Nat} {σ0 : Sto} {Q : Int32 → Sto → Prop} {Qy : Int32 → Yc → Prop} {Ly45 : Int32 × Int32 × Int32 → Yc → Prop} {L45 : Int32 × Option Nat × Int32 × Int32 → Sto → Prop} (hQ : ∀ (r : Int32) (σ' : Sto) (Y' : Yc), Qy r Y' → HY n ad aa σ' Y' → Fy n ad aa σ0 σ' → Q r σ') (hL45 : ∀ (t9 : Int32 × Option Nat × Int32 × Int32) (t : Int32 × Int32 × Int32) (σ : Sto) (Y : Yc), Ly45 t Y → HY n ad aa σ Y → Fy n ad aa σ0 σ → ((t.1, (some (aa 1103 0)), t.2.1, t.2.2) = t9 ∧ True) → L45 t9 σ) : ∀ (t9 : Int32 × Option Nat × Int32 × Int32) (t : Int32 × Int32 × Int32) (σ : Sto) (Y : Yc), HY n ad aa σ Y → Fy n ad aa σ0 σ → ((t.1, (some (aa 1103 0)), t.2.1, t.2.2) = t9 ∧ True) → fy_X11_broken_45 n  Qy Ly45 t Y → f_X11_broken_45 (ad 11 0)  Q L45 t9 σ := by
  intro t9 t σ Y hR F hT h
  obtain ⟨rfl, _⟩ := hT
  unfold fy_X11_broken_45 at h
  unfold f_X11_broken_45
  dsimp only
  refine ⟨fun c1 => ?_, fun c1 => ?_⟩
  · have h := h.1 c1
    exact lfy (fun σ t9 t => (t.1, t.2.1, t.2.2) = t9 ∧ True) h hR F ⟨rfl, trivial⟩ (fun Ly L hL t9 t σ Y hR F hT h => yf_X11_broken_91 hQ  hL t9 t σ Y hR F hT h)
  · have h := h.2 c1
    refine ⟨_, rfl, ?_⟩
    refine ⟨hR.arK (x := 1103) ob_11 3 (by decide) rfl (by decide), ?_⟩
    have hz := h.1
    refine ⟨by first | exact hR.arV (x := 1103) ob_11 3 (by decide) rfl (by decide) hz | exact hz, ?_⟩
    have h := h.2
    have hO6 : Ob n 8 (t.2.2.toNatClampNeg) := ob_1103 hz
    intro r4 e5
    have e5 := e5.trans (hR.el (x := 1103) ob_11 3 (by decide) rfl (by decide) (el_1103 hz))
    subst e5
    refine ⟨_, rfl, ?_⟩
    refine ⟨hR.K hO6, ?_⟩
    refine y_X8_leads hR hO6  h (fun x12 σ8 Y9 h hR11 f10 => ?_)
    have F := F.trans f10
    have hR := hR11
    refine ⟨fun c15 => ?_, fun c15 => ?_⟩
    · have h := h.1 c15
      exact yb_X11_broken_81 hQ hL45 t.1 t.2.1 t.2.2 _ _ hR F  h
    · have h := h.2 c15
      refine ⟨hR.K hO6, ?_⟩
      intro x16 e17
      have e17 : x16 = yI Y9 804 (t.2.2.toNatClampNeg) := e17.trans (hR.I (x := 804) hO6 4 (by decide) rfl)
      have h := h x16 e17
      refine ⟨fun c18 => ?_, fun c18 => ?_⟩
      · have h := h.1 c18
        exact yb_X11_broken_81 hQ hL45 t.1 t.2.1 t.2.2 _ _ hR F  h
      · have h := h.2 c18
        refine ⟨hR.K ob_11, ?_⟩
        refine y_X11_judge hR hO6 h (fun σ19 Y20 h hR22 f21 => ?_)
        have F := F.trans f21
        have hR := hR22
        exact yb_X11_broken_81 hQ hL45 t.1 t.2.1 t.2.2 _ _ hR F  h
def fy_X11_broken_13 (n : Nat)  (Qy : Int32 → Yc → Prop) (Ly13 : Int32 × Int32 → Yc → Prop) (t : Int32 × Int32) (Y : Yc) : Prop := ((t.1 ≤ t.2 → (∀ x6 : Int32, x6 = nI n → LFy (fy_X11_broken_45 n  Qy) (t.1, x6, (0 : Int32)) Y)) ∧ (¬ t.1 ≤ t.2 → (vp_in t.2 200 ∧ (∀ x16 : Int32, x16 = t.2 + (1 : Int32) → Ly13 (t.1, x16) (uI Y 605 (260 + t.2.toNatClampNeg) (0 : Int32))))))
set_option maxHeartbeats 4000000 in
set_option maxRecDepth 100000 in
theorem yf_X11_broken_13 {n : Nat} {ad aa : Nat → Nat → Nat} {σ0 : Sto} {Q : Int32 → Sto → Prop} {Qy : Int32 → Yc → Prop} {Ly13 : Int32 × Int32 → Yc → Prop} {L13 : Int32 × Int32 → Sto → Prop} (hQ : ∀ (r : Int32) (σ' : Sto) (Y' : Yc), Qy r Y' → HY n ad aa σ' Y' → Fy n ad aa σ0 σ' → Q r σ') (hL13 : ∀ (t9 : Int32 × Int32) (t : Int32 × Int32) (σ : Sto) (Y : Yc), Ly13 t Y → HY n ad aa σ Y → Fy n ad aa σ0 σ → ((t.1, t.2) = t9 ∧ True) → L13 t9 σ) : ∀ (t9 : Int32 × Int32) (t : Int32 × Int32) (σ : Sto) (Y : Yc), HY n ad aa σ Y → Fy n ad aa σ0 σ → ((t.1, t.2) = t9 ∧ True) → fy_X11_broken_13 n  Qy Ly13 t Y → f_X11_broken_13 (ad 11 0)  Q L13 t9 σ := by
  intro t9 t σ Y hR F hT h
  obtain ⟨rfl, _⟩ := hT
  unfold fy_X11_broken_13 at h
  unfold f_X11_broken_13
  dsimp only
  refine ⟨fun c1 => ?_, fun c1 => ?_⟩
  · have h := h.1 c1
    refine ⟨hR.K ob_11, ?_⟩
    have a2 : sP σ (ad 11 0) 3 = some (aa 1103 0) := hR.ar (x := 1103) ob_11 3 (by decide) rfl (by decide)
    intro r3 e4
    have e4 := e4.trans (a2)
    subst e4
    refine ⟨_, rfl, ?_⟩
    refine ⟨hR.arK (x := 1103) ob_11 3 (by decide) rfl (by decide), ?_⟩
    rw [show sN σ (aa 1103 0) = n from hR.arN (x := 1103) ob_11 3 (by decide) rfl (by decide)]
    intro x6 e7
    have h := h x6 e7
    exact lfy (fun σ t9 t => (t.1, (some (aa 1103 0)), t.2.1, t.2.2) = t9 ∧ True) h hR F ⟨rfl, trivial⟩ (fun Ly L hL t9 t σ Y hR F hT h => yf_X11_broken_45 hQ  hL t9 t σ Y hR F hT h)
  · have h := h.2 c1
    refine ⟨hR.K ob_11, ?_⟩
    have a8 : sP σ (ad 11 0) 9 = some (aa 1109 0) := hR.ar (x := 1109) ob_11 9 (by decide) rfl (by decide)
    refine ⟨_, a8, ?_⟩
    refine ⟨hR.arK (x := 1109) ob_11 9 (by decide) rfl (by decide), ?_⟩
    have hz := h.1
    refine ⟨by first | exact hR.arV (x := 1109) ob_11 9 (by decide) rfl (by decide) hz | exact hz, ?_⟩
    have h := h.2
    have hO13 : Ob n 6 (260 + t.2.toNatClampNeg) := ob_1109 hz
    intro r11 e12
    have e12 := e12.trans (hR.el (x := 1109) ob_11 9 (by decide) rfl (by decide) (el_1109 hz))
    subst e12
    refine ⟨_, rfl, ?_⟩
    refine ⟨hR.K hO13, ?_⟩
    have w15 := hR.wI (x := 605) hO13 5 (by decide) rfl (0 : Int32)
    have F := F.trans w15.2
    have hR := w15.1
    intro x16 e17
    have h := h x16 e17
    exact hL13 _ _ _ _ h hR F ⟨rfl, trivial⟩
def wy_X11_broken (n : Nat)  (Y : Yc) (Qy : Int32 → Yc → Prop) : Prop := (∀ x1 : Int32, x1 = yI Y 1110 0 → (wy_J9_min_7cf53 n x1 (200 : Int32) Y (fun (x7 : Int32) (Y4 : Yc) => LFy (fy_X11_broken_13 n  Qy) (x7, (0 : Int32)) Y4)))
set_option maxHeartbeats 4000000 in
set_option maxRecDepth 100000 in
theorem y_X11_broken {n : Nat} {ad aa : Nat → Nat → Nat} {σ : Sto} {Y : Yc} {Q : Int32 → Sto → Prop} {Qy : Int32 → Yc → Prop} (hR : HY n ad aa σ Y) (h : wy_X11_broken n  Y Qy) (hQ : ∀ (r : Int32) (σ' : Sto) (Y' : Yc), Qy r Y' → HY n ad aa σ' Y' → Fy n ad aa σ σ' → Q r σ') : wp_X11_broken (ad 11 0)  σ Q := by
  have F : Fy n ad aa σ σ := Fy.rf
  unfold wy_X11_broken at h
  unfold wp_X11_broken
  refine ⟨hR.K ob_11, ?_⟩
  intro x1 e2
  have e2 : x1 = yI Y 1110 0 := e2.trans (hR.I (x := 1110) ob_11 10 (by decide) rfl)
  have h := h x1 e2
  refine y_J9_min_7cf53 hR  h (fun x7 σ3 Y4 h hR6 f5 => ?_)
  have F := F.trans f5
  have hR := hR6
  exact lfy (fun σ t9 t => (t.1, t.2) = t9 ∧ True) h hR F ⟨rfl, trivial⟩ (fun Ly L hL t9 t σ Y hR F hT h => yf_X11_broken_13 hQ  hL t9 t σ Y hR F hT h)
