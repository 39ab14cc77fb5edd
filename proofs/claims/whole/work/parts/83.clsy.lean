def wy_X5_clear (n : Nat) (o0 : Nat)  (Y : Yc) (Qy : Yc → Prop) : Prop := Qy (uI (uI (uI (uI (uI Y 502 o0 (0 : Int32)) 503 o0 (0 : Int32)) 504 o0 (0 : Int32)) 505 o0 (0 : Int32)) 506 o0 (0 : Int32))
set_option maxHeartbeats 4000000 in
set_option maxRecDepth 100000 in
theorem y_X5_clear {n : Nat} {ad aa : Nat → Nat → Nat} {o0 : Nat} {σ : Sto} {Y : Yc} {Q : Sto → Prop} {Qy : Yc → Prop} (hR : HY n ad aa σ Y) (ho0 : Ob n 5 o0) (h : wy_X5_clear n o0  Y Qy) (hQ : ∀ (σ' : Sto) (Y' : Yc), Qy Y' → HY n ad aa σ' Y' → Fy n ad aa σ σ' → Q σ') : wp_X5_clear (ad 5 o0)  σ Q := by
  have F : Fy n ad aa σ σ := Fy.rf
  unfold wy_X5_clear at h
  unfold wp_X5_clear
  refine ⟨hR.K ho0, ?_⟩
  have w1 := hR.wI (x := 502) ho0 2 (by decide) rfl (0 : Int32)
  have F := F.trans w1.2
  have hR := w1.1
  have w2 := hR.wI (x := 503) ho0 3 (by decide) rfl (0 : Int32)
  have F := F.trans w2.2
  have hR := w2.1
  have w3 := hR.wI (x := 504) ho0 4 (by decide) rfl (0 : Int32)
  have F := F.trans w3.2
  have hR := w3.1
  have w4 := hR.wI (x := 505) ho0 5 (by decide) rfl (0 : Int32)
  have F := F.trans w4.2
  have hR := w4.1
  have w5 := hR.wI (x := 506) ho0 6 (by decide) rfl (0 : Int32)
  have F := F.trans w5.2
  have hR := w5.1
  exact hQ _ _ h hR F
def fy_X5_find_2 (n : Nat) (o0 : Nat)  (Qy : Int32 → Yc → Prop) (Ly2 : Int32 × Int32 → Yc → Prop) (t : Int32 × Int32) (Y : Yc) : Prop := (∀ x1 : Int32, x1 = yI Y 502 o0 → ((x1 ≤ t.2 → Qy (-1 : Int32) Y) ∧ (¬ x1 ≤ t.2 → (((9 : Int32) ≤ t.2 → Qy (-1 : Int32) Y) ∧ (¬ (9 : Int32) ≤ t.2 → (vp_in t.2 9 ∧ (∀ x7 : Int32, x7 = yA Y 500 o0 t.2.toNatClampNeg → ((¬ x7 = t.1 → (∀ x10 : Int32, x10 = t.2 + (1 : Int32) → Ly2 (t.1, x10) Y)) ∧ (x7 = t.1 → Qy t.2 Y)))))))))
set_option maxHeartbeats 4000000 in
set_option maxRecDepth 100000 in
theorem yf_X5_find_2 {n : Nat} {ad aa : Nat → Nat → Nat} {σ0 : Sto} {o0 : Nat} (ho0 : Ob n 5 o0) {Q : Int32 → Sto → Prop} {Qy : Int32 → Yc → Prop} {Ly2 : Int32 × Int32 → Yc → Prop} {L2 : Int32 × Int32 → Sto → Prop} (hQ : ∀ (r : Int32) (σ' : Sto) (Y' : Yc), Qy r Y' → HY n ad aa σ' Y' → Fy n ad aa σ0 σ' → Q r σ') (hL2 : ∀ (t9 : Int32 × Int32) (t : Int32 × Int32) (σ : Sto) (Y : Yc), Ly2 t Y → HY n ad aa σ Y → Fy n ad aa σ0 σ → ((t.1, t.2) = t9 ∧ True) → L2 t9 σ) : ∀ (t9 : Int32 × Int32) (t : Int32 × Int32) (σ : Sto) (Y : Yc), HY n ad aa σ Y → Fy n ad aa σ0 σ → ((t.1, t.2) = t9 ∧ True) → fy_X5_find_2 n o0  Qy Ly2 t Y → f_X5_find_2 (ad 5 o0)  Q L2 t9 σ := by
  intro t9 t σ Y hR F hT h
  obtain ⟨rfl, _⟩ := hT
  unfold fy_X5_find_2 at h
  unfold f_X5_find_2
  dsimp only
  refine ⟨hR.K ho0, ?_⟩
  intro x1 e2
  have e2 : x1 = yI Y 502 o0 := e2.trans (hR.I (x := 502) ho0 2 (by decide) rfl)
  have h := h x1 e2
  refine ⟨fun c3 => ?_, fun c3 => ?_⟩
  · have h := h.1 c3
    exact hQ _ _ _ h hR F
  · have h := h.2 c3
    refine ⟨fun c4 => ?_, fun c4 => ?_⟩
    · have h := h.1 c4
      exact hQ _ _ _ h hR F
    · have h := h.2 c4
      have a5 : sP σ (ad 5 o0) 0 = some (aa 500 o0) := hR.ar (x := 500) ho0 0 (by decide) rfl (by decide)
      refine ⟨_, a5, ?_⟩
      refine ⟨hR.arK (x := 500) ho0 0 (by decide) rfl (by decide), ?_⟩
      have hz := h.1
      refine ⟨by first | exact hR.arV (x := 500) ho0 0 (by decide) rfl (by decide) hz | exact hz, ?_⟩
      have h := h.2
      intro x7 e8
      have e8 : x7 = yA Y 500 o0 t.2.toNatClampNeg := e8.trans (hR.A (x := 500) ho0 0 (by decide) rfl (by decide) _)
      have h := h x7 e8
      refine ⟨fun c9 => ?_, fun c9 => ?_⟩
      · have h := h.1 c9
        intro x10 e11
        have h := h x10 e11
        exact hL2 _ _ _ _ h hR F ⟨rfl, trivial⟩
      · have h := h.2 c9
        exact hQ _ _ _ h hR F
def wy_X5_find (n : Nat) (o0 : Nat) (p1 : Int32) (Y : Yc) (Qy : Int32 → Yc → Prop) : Prop := LFy (fy_X5_find_2 n o0  Qy) (p1, (0 : Int32)) Y
set_option maxHeartbeats 4000000 in
set_option maxRecDepth 100000 in
theorem y_X5_find {n : Nat} {ad aa : Nat → Nat → Nat} {o0 : Nat} {p1 : Int32} {σ : Sto} {Y : Yc} {Q : Int32 → Sto → Prop} {Qy : Int32 → Yc → Prop} (hR : HY n ad aa σ Y) (ho0 : Ob n 5 o0) (h : wy_X5_find n o0 p1 Y Qy) (hQ : ∀ (r : Int32) (σ' : Sto) (Y' : Yc), Qy r Y' → HY n ad aa σ' Y' → Fy n ad aa σ σ' → Q r σ') : wp_X5_find (ad 5 o0) p1 σ Q := by
  have F : Fy n ad aa σ σ := Fy.rf
  unfold wy_X5_find at h
  unfold wp_X5_find
  exact lfy (fun σ t9 t => (t.1, t.2) = t9 ∧ True) h hR F ⟨rfl, trivial⟩ (fun Ly L hL t9 t σ Y hR F hT h => yf_X5_find_2 ho0 hQ  hL t9 t σ Y hR F hT h)
def by_X5_hold_16 (n : Nat) (o0 : Nat)  (Qy : Yc → Prop) (p1 : Int32) (p2 : Option Rq) (p3 : Int32) (Y : Yc) : Prop := ((p3 < 0 → Qy Y) ∧ (¬ p3 < 0 → ((p3 < (9 : Int32) → (vp_in p3 9 ∧ (vp_in p3 9 ∧ (∀ x9 : Int32, x9 = yI (uS (uA Y 500 o0 p3.toNatClampNeg p1) 501 o0 p3.toNatClampNeg p2) 502 o0 → (wy_J9_max_7cf53 n x9 (p3 + (1 : Int32)) (uS (uA Y 500 o0 p3.toNatClampNeg p1) 501 o0 p3.toNatClampNeg p2) (fun (x15 : Int32) (Y12 : Yc) => Qy (uI Y12 502 o0 x15))))))) ∧ (¬ p3 < (9 : Int32) → Qy Y))))
set_option maxHeartbeats 4000000 in
set_option maxRecDepth 100000 in
theorem yb_X5_hold_16 {n : Nat} {ad aa : Nat → Nat → Nat} {σ0 : Sto} {o0 : Nat} (ho0 : Ob n 5 o0) {Q : Sto → Prop} {Qy : Yc → Prop} (hQ : ∀ (σ' : Sto) (Y' : Yc), Qy Y' → HY n ad aa σ' Y' → Fy n ad aa σ0 σ' → Q σ')  (p1 : Int32) (p2 : Option Rq) (p3 : Int32) (σ : Sto) (Y : Yc) (hR : HY n ad aa σ Y) (F : Fy n ad aa σ0 σ) {ap2 : Option Nat} (hp2 : rq σ ap2 p2) (h : by_X5_hold_16 n o0  Qy p1 p2 p3 Y) : b_X5_hold_16 (ad 5 o0)  Q p1 ap2 p3 σ := by
  unfold by_X5_hold_16 at h
  unfold b_X5_hold_16
  refine ⟨fun c1 => ?_, fun c1 => ?_⟩
  · have h := h.1 c1
    exact hQ _ _ h hR F
  · have h := h.2 c1
    refine ⟨fun c2 => ?_, fun c2 => ?_⟩
    · have h := h.1 c2
      refine ⟨hR.K ho0, ?_⟩
      have a3 : sP σ (ad 5 o0) 0 = some (aa 500 o0) := hR.ar (x := 500) ho0 0 (by decide) rfl (by decide)
      refine ⟨_, a3, ?_⟩
      refine ⟨hR.arK (x := 500) ho0 0 (by decide) rfl (by decide), ?_⟩
      have hz := h.1
      refine ⟨by first | exact hR.arV (x := 500) ho0 0 (by decide) rfl (by decide) hz | exact hz, ?_⟩
      have h := h.2
      have w5 := hR.wA (x := 500) ho0 0 (by decide) rfl (by decide) (p3.toNatClampNeg) p1
      have hp2 := rq.mv hR w5.2 hp2
      have F := F.trans w5.2
      have hR := w5.1
      have a6 : sP σ (ad 5 o0) 1 = some (aa 501 o0) := hR.ar (x := 501) ho0 1 (by decide) rfl (by decide)
      refine ⟨_, a6, ?_⟩
      refine ⟨hR.arK (x := 501) ho0 1 (by decide) rfl (by decide), ?_⟩
      have hz := h.1
      refine ⟨by first | exact hR.arV (x := 501) ho0 1 (by decide) rfl (by decide) hz | exact hz, ?_⟩
      have h := h.2
      refine ⟨fun b hb => by have hb := rq_K hp2 hb; exact hb, ?_⟩
      have w8 := hR.wS (x := 501) ho0 1 (by decide) rfl (by decide) (p3.toNatClampNeg) hp2
      have hp2 := rq.mv hR w8.2 hp2
      have F := F.trans w8.2
      have hR := w8.1
      intro x9 e10
      have e10 : x9 = yI (uS (uA Y 500 o0 p3.toNatClampNeg p1) 501 o0 p3.toNatClampNeg p2) 502 o0 := e10.trans (hR.I (x := 502) ho0 2 (by decide) rfl)
      have h := h x9 e10
      refine y_J9_max_7cf53 hR  h (fun x15 σ11 Y12 h hR14 f13 => ?_)
      have hp2 := rq.mv hR f13 hp2
      have F := F.trans f13
      have hR := hR14
      refine ⟨hR.K ho0, ?_⟩
      have w18 := hR.wI (x := 502) ho0 2 (by decide) rfl x15
      have hp2 := rq.mv hR w18.2 hp2
      have F := F.trans w18.2
      have hR := w18.1
      exact hQ _ _ h hR F
    · have h := h.2 c2
      exact hQ _ _ h hR F
def wy_X5_hold (n : Nat) (o0 : Nat) (p1 : Int32) (p2 : Option Rq) (Y : Yc) (Qy : Yc → Prop) : Prop := (wy_X5_find n o0 p1 Y (fun (x5 : Int32) (Y2 : Yc) => ((¬ x5 = (-1 : Int32) → by_X5_hold_16 n o0  Qy p1 p2 x5 Y2) ∧ (x5 = (-1 : Int32) → (∀ x9 : Int32, x9 = yI Y2 502 o0 → by_X5_hold_16 n o0  Qy p1 p2 x9 Y2)))))
set_option maxHeartbeats 4000000 in
set_option maxRecDepth 100000 in
theorem y_X5_hold {n : Nat} {ad aa : Nat → Nat → Nat} {o0 : Nat} {p1 : Int32} {p2 : Option Rq} {σ : Sto} {Y : Yc} {Q : Sto → Prop} {Qy : Yc → Prop} (hR : HY n ad aa σ Y) (ho0 : Ob n 5 o0) {ap2 : Option Nat} (hp2 : rq σ ap2 p2) (h : wy_X5_hold n o0 p1 p2 Y Qy) (hQ : ∀ (σ' : Sto) (Y' : Yc), Qy Y' → HY n ad aa σ' Y' → Fy n ad aa σ σ' → Q σ') : wp_X5_hold (ad 5 o0) p1 ap2 σ Q := by
  have F : Fy n ad aa σ σ := Fy.rf
  unfold wy_X5_hold at h
  unfold wp_X5_hold
  refine ⟨hR.K ho0, ?_⟩
  refine y_X5_find hR ho0  h (fun x5 σ1 Y2 h hR4 f3 => ?_)
  have hp2 := rq.mv hR f3 hp2
  have F := F.trans f3
  have hR := hR4
  refine ⟨fun c8 => ?_, fun c8 => ?_⟩
  · have h := h.1 c8
    exact yb_X5_hold_16 ho0 hQ  p1 p2 x5 _ _ hR F hp2 h
  · have h := h.2 c8
    refine ⟨hR.K ho0, ?_⟩
    intro x9 e10
    have e10 : x9 = yI Y2 502 o0 := e10.trans (hR.I (x := 502) ho0 2 (by decide) rfl)
    have h := h x9 e10
    exact yb_X5_hold_16 ho0 hQ  p1 p2 x9 _ _ hR F hp2 h
def wy_X5_release (n : Nat) (o0 : Nat) (p1 : Int32) (Y : Yc) (Qy : Option Rq → Yc → Prop) : Prop := (wy_X5_find n o0 p1 Y (fun (x5 : Int32) (Y2 : Yc) => ((x5 < 0 → Qy none Y2) ∧ (¬ x5 < 0 → (((9 : Int32) ≤ x5 → Qy none Y2) ∧ (¬ (9 : Int32) ≤ x5 → (∀ x10 : Int32, x10 = yI Y2 502 o0 → ((x10 < (1 : Int32) → Qy none Y2) ∧ (¬ x10 < (1 : Int32) → (∀ x13 : Int32, x13 = yI Y2 502 o0 → ((x13 ≤ (9 : Int32) → (vp_in x5 9 ∧ (∀ q20 : Option Rq, q20 = yS Y2 501 o0 x5.toNatClampNeg → (∀ x23 : Int32, x23 = yI Y2 502 o0 → (∀ x25 : Int32, x25 = x23 - (1 : Int32) → (∀ x30 : Int32, x30 = yI (uI Y2 502 o0 x25) 502 o0 → (vp_in x30 9 ∧ (∀ x33 : Int32, x33 = yA (uI Y2 502 o0 x25) 500 o0 x30.toNatClampNeg → (vp_in x5 9 ∧ (∀ x38 : Int32, x38 = yI (uA (uI Y2 502 o0 x25) 500 o0 x5.toNatClampNeg x33) 502 o0 → (vp_in x38 9 ∧ (∀ q42 : Option Rq, q42 = yS (uA (uI Y2 502 o0 x25) 500 o0 x5.toNatClampNeg x33) 501 o0 x38.toNatClampNeg → (vp_in x5 9 ∧ Qy q20 (uS (uA (uI Y2 502 o0 x25) 500 o0 x5.toNatClampNeg x33) 501 o0 x5.toNatClampNeg q42)))))))))))))) ∧ (¬ x13 ≤ (9 : Int32) → Qy none Y2))))))))))))
set_option maxHeartbeats 4000000 in
set_option maxRecDepth 100000 in
theorem y_X5_release {n : Nat} {ad aa : Nat → Nat → Nat} {o0 : Nat} {p1 : Int32} {σ : Sto} {Y : Yc} {Q : Option Nat → Sto → Prop} {Qy : Option Rq → Yc → Prop} (hR : HY n ad aa σ Y) (ho0 : Ob n 5 o0) (h : wy_X5_release n o0 p1 Y Qy) (hQ : ∀ (p : Option Nat) (q : Option Rq) (σ' : Sto) (Y' : Yc), Qy q Y' → rq σ' p q → HY n ad aa σ' Y' → Fy n ad aa σ σ' → Q p σ') : wp_X5_release (ad 5 o0) p1 σ Q := by
  have F : Fy n ad aa σ σ := Fy.rf
  unfold wy_X5_release at h
  unfold wp_X5_release
  refine ⟨hR.K ho0, ?_⟩
  refine y_X5_find hR ho0  h (fun x5 σ1 Y2 h hR4 f3 => ?_)
  have F := F.trans f3
  have hR := hR4
  refine ⟨fun c8 => ?_, fun c8 => ?_⟩
  · have h := h.1 c8
    exact hQ _ _ _ _ h rq_nn hR F
  · have h := h.2 c8
    refine ⟨fun c9 => ?_, fun c9 => ?_⟩
    · have h := h.1 c9
      exact hQ _ _ _ _ h rq_nn hR F
    · have h := h.2 c9
      refine ⟨hR.K ho0, ?_⟩
      intro x10 e11
      have e11 : x10 = yI Y2 502 o0 := e11.trans (hR.I (x := 502) ho0 2 (by decide) rfl)
      have h := h x10 e11
      refine ⟨fun c12 => ?_, fun c12 => ?_⟩
      · have h := h.1 c12
        exact hQ _ _ _ _ h rq_nn hR F
      · have h := h.2 c12
        intro x13 e14
        have e14 : x13 = yI Y2 502 o0 := e14.trans (hR.I (x := 502) ho0 2 (by decide) rfl)
        have h := h x13 e14
        refine ⟨fun c15 => ?_, fun c15 => ?_⟩
        · have h := h.1 c15
          have a16 : sP σ1 (ad 5 o0) 1 = some (aa 501 o0) := hR.ar (x := 501) ho0 1 (by decide) rfl (by decide)
          refine ⟨_, a16, ?_⟩
          refine ⟨hR.arK (x := 501) ho0 1 (by decide) rfl (by decide), ?_⟩
          have hz := h.1
          refine ⟨by first | exact hR.arV (x := 501) ho0 1 (by decide) rfl (by decide) hz | exact hz, ?_⟩
          have h := h.2
          obtain ⟨q20, e21⟩ : ∃ z, z = yS Y2 501 o0 x5.toNatClampNeg := ⟨_, rfl⟩
          have h := h q20 e21
          intro r18 e19
          have hr22 := rq_of (hR.S (x := 501) ho0 1 (by decide) rfl (by decide) (x5.toNatClampNeg)) e19 e21
          intro x23 e24
          have e24 : x23 = yI Y2 502 o0 := e24.trans (hR.I (x := 502) ho0 2 (by decide) rfl)
          have h := h x23 e24
          intro x25 e26
          have h := h x25 e26
          have w27 := hR.wI (x := 502) ho0 2 (by decide) rfl x25
          have hr22 := rq.mv hR w27.2 hr22
          have F := F.trans w27.2
          have hR := w27.1
          have a28 : sP σ1 (ad 5 o0) 0 = some (aa 500 o0) := hR.ar (x := 500) ho0 0 (by decide) rfl (by decide)
          have a29 : sP σ1 (ad 5 o0) 0 = some (aa 500 o0) := hR.ar (x := 500) ho0 0 (by decide) rfl (by decide)
          intro x30 e31
          have e31 : x30 = yI (uI Y2 502 o0 x25) 502 o0 := e31.trans (hR.I (x := 502) ho0 2 (by decide) rfl)
          have h := h x30 e31
          refine ⟨_, a29, ?_⟩
          refine ⟨hR.arK (x := 500) ho0 0 (by decide) rfl (by decide), ?_⟩
          have hz := h.1
          refine ⟨by first | exact hR.arV (x := 500) ho0 0 (by decide) rfl (by decide) hz | exact hz, ?_⟩
          have h := h.2
          intro x33 e34
          have e34 : x33 = yA (uI Y2 502 o0 x25) 500 o0 x30.toNatClampNeg := e34.trans (hR.A (x := 500) ho0 0 (by decide) rfl (by decide) _)
          have h := h x33 e34
          have hz := h.1
          refine ⟨by first | exact hR.arV (x := 500) ho0 0 (by decide) rfl (by decide) hz | exact hz, ?_⟩
          have h := h.2
          have w35 := hR.wA (x := 500) ho0 0 (by decide) rfl (by decide) (x5.toNatClampNeg) x33
          have hr22 := rq.mv hR w35.2 hr22
          have F := F.trans w35.2
          have hR := w35.1
          have a36 : sP σ1 (ad 5 o0) 1 = some (aa 501 o0) := hR.ar (x := 501) ho0 1 (by decide) rfl (by decide)
          have a37 : sP σ1 (ad 5 o0) 1 = some (aa 501 o0) := hR.ar (x := 501) ho0 1 (by decide) rfl (by decide)
          intro x38 e39
          have e39 : x38 = yI (uA (uI Y2 502 o0 x25) 500 o0 x5.toNatClampNeg x33) 502 o0 := e39.trans (hR.I (x := 502) ho0 2 (by decide) rfl)
          have h := h x38 e39
          have hz := h.1
          refine ⟨by first | exact hR.arV (x := 501) ho0 1 (by decide) rfl (by decide) hz | exact hz, ?_⟩
          have h := h.2
          obtain ⟨q42, e43⟩ : ∃ z, z = yS (uA (uI Y2 502 o0 x25) 500 o0 x5.toNatClampNeg x33) 501 o0 x38.toNatClampNeg := ⟨_, rfl⟩
          have h := h q42 e43
          intro r40 e41
          have hr44 := rq_of (hR.S (x := 501) ho0 1 (by decide) rfl (by decide) (x38.toNatClampNeg)) e41 e43
          have hz := h.1
          refine ⟨by first | exact hR.arV (x := 501) ho0 1 (by decide) rfl (by decide) hz | exact hz, ?_⟩
          have h := h.2
          refine ⟨fun b hb => by have hb := rq_K hr44 hb; exact hb, ?_⟩
          have w45 := hR.wS (x := 501) ho0 1 (by decide) rfl (by decide) (x5.toNatClampNeg) hr44
          have hr22 := rq.mv hR w45.2 hr22
          have F := F.trans w45.2
          have hR := w45.1
          exact hQ _ _ _ _ h hr22 hR F
        · have h := h.2 c15
          exact hQ _ _ _ _ h rq_nn hR F
def wy_X5_countTurned (n : Nat) (o0 : Nat) (p1 : Nat) (Y : Yc) (Qy : Yc → Prop) : Prop := (∀ x2 : Int32, x2 = yI Y 302 p1 → ((x2 < 0 → Qy Y) ∧ (¬ x2 < 0 → (((nI n) ≤ x2 → Qy Y) ∧ (¬ (nI n) ≤ x2 → (∀ x8 : Int32, x8 = yI Y 506 o0 → (∀ x10 : Int32, x10 = x8 ||| ((1 : Int32) <<< (x2 &&& 31)) → (∀ y14 : Int64, y14 = yJ (uI Y 506 o0 x10) 305 p1 → (vp_in x2 n ∧ (vp_in x2 n ∧ (wy_X2_become n (7 + 7 * o0 + x2.toNatClampNeg) (56 + p1) (uB (uI Y 506 o0 x10) o0 x2.toNatClampNeg y14) (fun (Y26 : Yc) => Qy Y26))))))))))))
set_option maxHeartbeats 4000000 in
set_option maxRecDepth 100000 in
theorem y_X5_countTurned {n : Nat} {ad aa : Nat → Nat → Nat} {o0 : Nat} {p1 : Nat} {σ : Sto} {Y : Yc} {Q : Sto → Prop} {Qy : Yc → Prop} (hR : HY n ad aa σ Y) (ho0 : Ob n 5 o0) (hp1 : Ob n 3 p1) (h : wy_X5_countTurned n o0 p1 Y Qy) (hQ : ∀ (σ' : Sto) (Y' : Yc), Qy Y' → HY n ad aa σ' Y' → Fy n ad aa σ σ' → Q σ') : wp_X5_countTurned (ad 5 o0) (some (ad 3 p1)) σ Q := by
  have F : Fy n ad aa σ σ := Fy.rf
  unfold wy_X5_countTurned at h
  unfold wp_X5_countTurned
  refine ⟨_, rfl, ?_⟩
  refine ⟨hR.K hp1, ?_⟩
  intro x2 e3
  have e3 : x2 = yI Y 302 p1 := e3.trans (hR.I (x := 302) hp1 2 (by decide) rfl)
  have h := h x2 e3
  refine ⟨fun c4 => ?_, fun c4 => ?_⟩
  · have h := h.1 c4
    exact hQ _ _ h hR F
  · have h := h.2 c4
    refine ⟨hR.K ho0, ?_⟩
    have a5 : sP σ (ad 5 o0) 8 = some (aa 508 o0) := hR.ar (x := 508) ho0 8 (by decide) rfl (by decide)
    refine ⟨_, a5, ?_⟩
    refine ⟨hR.arK (x := 508) ho0 8 (by decide) rfl (by decide), ?_⟩
    rw [show sN σ (aa 508 o0) = n from hR.arN (x := 508) ho0 8 (by decide) rfl (by decide)]
    refine ⟨fun c7 => ?_, fun c7 => ?_⟩
    · have h := h.1 c7
      exact hQ _ _ h hR F
    · have h := h.2 c7
      intro x8 e9
      have e9 : x8 = yI Y 506 o0 := e9.trans (hR.I (x := 506) ho0 6 (by decide) rfl)
      have h := h x8 e9
      intro x10 e11
      have h := h x10 e11
      have w12 := hR.wI (x := 506) ho0 6 (by decide) rfl x10
      have F := F.trans w12.2
      have hR := w12.1
      have a13 : sP σ (ad 5 o0) 7 = some (aa 507 o0) := hR.ar (x := 507) ho0 7 (by decide) rfl (by decide)
      intro y14 e15
      have e15 : y14 = yJ (uI Y 506 o0 x10) 305 p1 := e15.trans (hR.J (x := 305) hp1 5 (by decide) rfl)
      have h := h y14 e15
      refine ⟨_, a13, ?_⟩
      refine ⟨hR.arK (x := 507) ho0 7 (by decide) rfl (by decide), ?_⟩
      have hz := h.1
      refine ⟨by first | exact hR.arV (x := 507) ho0 7 (by decide) rfl (by decide) hz | exact hz, ?_⟩
      have h := h.2
      have w17 := hR.wB ho0 (x2.toNatClampNeg) y14
      have F := F.trans w17.2
      have hR := w17.1
      have a18 : sP σ (ad 5 o0) 8 = some (aa 508 o0) := hR.ar (x := 508) ho0 8 (by decide) rfl (by decide)
      have hz := h.1
      refine ⟨by first | exact hR.arV (x := 508) ho0 8 (by decide) rfl (by decide) hz | exact hz, ?_⟩
      have h := h.2
      have hO22 : Ob n 2 (7 + 7 * o0 + x2.toNatClampNeg) := ob_508 ho0 hz
      intro r20 e21
      have e21 := e21.trans (hR.el (x := 508) ho0 8 (by decide) rfl (by decide) (el_508 hz))
      subst e21
      have a23 : sP σ (ad 3 p1) 11 = some (ad 2 (56 + p1)) := hR.lk hp1 11 (by decide) rfl
      refine ⟨_, rfl, ?_⟩
      refine ⟨hR.K hO22, ?_⟩
      rw [a23]
      refine y_X2_become hR hO22 (ob_311 hp1) h (fun σ25 Y26 h hR28 f27 => ?_)
      have F := F.trans f27
      have hR := hR28
      exact hQ _ _ h hR F
def wy_X5_looksAt (n : Nat) (o0 : Nat) (p1 : Int32) (p2 : Int64) (Y : Yc) (Qy : Int32 → Yc → Prop) : Prop := ((p1 < 0 → Qy (0 : Int32) Y) ∧ (¬ p1 < 0 → (((nI n) ≤ p1 → Qy (0 : Int32) Y) ∧ (¬ (nI n) ≤ p1 → (∀ x5 : Int32, x5 = yI Y 506 o0 → ((¬ ((x5 >>> (p1 &&& 31)) &&& (1 : Int32)) = (1 : Int32) → Qy (0 : Int32) Y) ∧ (((x5 >>> (p1 &&& 31)) &&& (1 : Int32)) = (1 : Int32) → (vp_in p1 n ∧ (∀ y9 : Int64, y9 = yB Y o0 p1.toNatClampNeg → ((¬ (lg_cmp y9 p2) = 0 → Qy (0 : Int32) Y) ∧ ((lg_cmp y9 p2) = 0 → Qy (1 : Int32) Y)))))))))))
set_option maxHeartbeats 4000000 in
set_option maxRecDepth 100000 in
theorem y_X5_looksAt {n : Nat} {ad aa : Nat → Nat → Nat} {o0 : Nat} {p1 : Int32} {p2 : Int64} {σ : Sto} {Y : Yc} {Q : Int32 → Sto → Prop} {Qy : Int32 → Yc → Prop} (hR : HY n ad aa σ Y) (ho0 : Ob n 5 o0) (h : wy_X5_looksAt n o0 p1 p2 Y Qy) (hQ : ∀ (r : Int32) (σ' : Sto) (Y' : Yc), Qy r Y' → HY n ad aa σ' Y' → Fy n ad aa σ σ' → Q r σ') : wp_X5_looksAt (ad 5 o0) p1 p2 σ Q := by
  have F : Fy n ad aa σ σ := Fy.rf
  unfold wy_X5_looksAt at h
  unfold wp_X5_looksAt
  refine ⟨fun c1 => ?_, fun c1 => ?_⟩
  · have h := h.1 c1
    exact hQ _ _ _ h hR F
  · have h := h.2 c1
    refine ⟨hR.K ho0, ?_⟩
    have a2 : sP σ (ad 5 o0) 7 = some (aa 507 o0) := hR.ar (x := 507) ho0 7 (by decide) rfl (by decide)
    refine ⟨_, a2, ?_⟩
    refine ⟨hR.arK (x := 507) ho0 7 (by decide) rfl (by decide), ?_⟩
    rw [show sN σ (aa 507 o0) = n from hR.arN (x := 507) ho0 7 (by decide) rfl (by decide)]
    refine ⟨fun c4 => ?_, fun c4 => ?_⟩
    · have h := h.1 c4
      exact hQ _ _ _ h hR F
    · have h := h.2 c4
      intro x5 e6
      have e6 : x5 = yI Y 506 o0 := e6.trans (hR.I (x := 506) ho0 6 (by decide) rfl)
      have h := h x5 e6
      refine ⟨fun c7 => ?_, fun c7 => ?_⟩
      · have h := h.1 c7
        exact hQ _ _ _ h hR F
      · have h := h.2 c7
        have a8 : sP σ (ad 5 o0) 7 = some (aa 507 o0) := hR.ar (x := 507) ho0 7 (by decide) rfl (by decide)
        have hz := h.1
        refine ⟨by first | exact hR.arV (x := 507) ho0 7 (by decide) rfl (by decide) hz | exact hz, ?_⟩
        have h := h.2
        intro y9 e10
        have e10 : y9 = yB Y o0 p1.toNatClampNeg := e10.trans (hR.B ho0 _)
        have h := h y9 e10
        refine ⟨fun c11 => ?_, fun c11 => ?_⟩
        · have h := h.1 c11
          exact hQ _ _ _ h hR F
        · have h := h.2 c11
          exact hQ _ _ _ h hR F
def wy_X7_at (n : Nat) (p1 : Int32) (Y : Yc) (Qy : Int32 → Yc → Prop) : Prop := ((p1 < 0 → Qy (0 : Int32) Y) ∧ (¬ p1 < 0 → (∀ x2 : Int32, x2 = yI Y 702 0 → ((x2 ≤ p1 → Qy (0 : Int32) Y) ∧ (¬ x2 ≤ p1 → (((nI 609) ≤ p1 → Qy (0 : Int32) Y) ∧ (¬ (nI 609) ≤ p1 → (vp_in p1 609 ∧ (∀ x9 : Int32, x9 = yA Y 701 0 p1.toNatClampNeg → Qy x9 Y)))))))))
set_option maxHeartbeats 4000000 in
set_option maxRecDepth 100000 in
theorem y_X7_at {n : Nat} {ad aa : Nat → Nat → Nat} {p1 : Int32} {σ : Sto} {Y : Yc} {Q : Int32 → Sto → Prop} {Qy : Int32 → Yc → Prop} (hR : HY n ad aa σ Y) (h : wy_X7_at n p1 Y Qy) (hQ : ∀ (r : Int32) (σ' : Sto) (Y' : Yc), Qy r Y' → HY n ad aa σ' Y' → Fy n ad aa σ σ' → Q r σ') : wp_X7_at (ad 7 0) p1 σ Q := by
  have F : Fy n ad aa σ σ := Fy.rf
  unfold wy_X7_at at h
  unfold wp_X7_at
  refine ⟨fun c1 => ?_, fun c1 => ?_⟩
  · have h := h.1 c1
    exact hQ _ _ _ h hR F
  · have h := h.2 c1
    refine ⟨hR.K ob_7, ?_⟩
    intro x2 e3
    have e3 : x2 = yI Y 702 0 := e3.trans (hR.I (x := 702) ob_7 2 (by decide) rfl)
    have h := h x2 e3
    refine ⟨fun c4 => ?_, fun c4 => ?_⟩
    · have h := h.1 c4
      exact hQ _ _ _ h hR F
    · have h := h.2 c4
      have a5 : sP σ (ad 7 0) 1 = some (aa 701 0) := hR.ar (x := 701) ob_7 1 (by decide) rfl (by decide)
      refine ⟨_, a5, ?_⟩
      refine ⟨hR.arK (x := 701) ob_7 1 (by decide) rfl (by decide), ?_⟩
      rw [show sN σ (aa 701 0) = 609 from hR.arN (x := 701) ob_7 1 (by decide) rfl (by decide)]
      refine ⟨fun c7 => ?_, fun c7 => ?_⟩
      · have h := h.1 c7
        exact hQ _ _ _ h hR F
      · have h := h.2 c7
        have a8 : sP σ (ad 7 0) 1 = some (aa 701 0) := hR.ar (x := 701) ob_7 1 (by decide) rfl (by decide)
        have hz := h.1
        refine ⟨by first | exact hR.arV (x := 701) ob_7 1 (by decide) rfl (by decide) hz | exact hz, ?_⟩
        have h := h.2
        intro x9 e10
        have e10 : x9 = yA Y 701 0 p1.toNatClampNeg := e10.trans (hR.A (x := 701) ob_7 1 (by decide) rfl (by decide) _)
        have h := h x9 e10
        exact hQ _ _ _ h hR F
def wy_X7_spoil (n : Nat) (p1 : Int32) (p2 : Int32) (Y : Yc) (Qy : Yc → Prop) : Prop := (∀ x1 : Int32, x1 = yI Y 703 0 → ((¬ x1 = 0 → Qy Y) ∧ (x1 = 0 → Qy (uI (uI Y 703 0 p1) 704 0 p2))))
set_option maxHeartbeats 4000000 in
set_option maxRecDepth 100000 in
theorem y_X7_spoil {n : Nat} {ad aa : Nat → Nat → Nat} {p1 : Int32} {p2 : Int32} {σ : Sto} {Y : Yc} {Q : Sto → Prop} {Qy : Yc → Prop} (hR : HY n ad aa σ Y) (h : wy_X7_spoil n p1 p2 Y Qy) (hQ : ∀ (σ' : Sto) (Y' : Yc), Qy Y' → HY n ad aa σ' Y' → Fy n ad aa σ σ' → Q σ') : wp_X7_spoil (ad 7 0) p1 p2 σ Q := by
  have F : Fy n ad aa σ σ := Fy.rf
  unfold wy_X7_spoil at h
  unfold wp_X7_spoil
  refine ⟨hR.K ob_7, ?_⟩
  intro x1 e2
  have e2 : x1 = yI Y 703 0 := e2.trans (hR.I (x := 703) ob_7 3 (by decide) rfl)
  have h := h x1 e2
  refine ⟨fun c3 => ?_, fun c3 => ?_⟩
  · have h := h.1 c3
    exact hQ _ _ h hR F
  · have h := h.2 c3
    have w4 := hR.wI (x := 703) ob_7 3 (by decide) rfl p1
    have F := F.trans w4.2
    have hR := w4.1
    have w5 := hR.wI (x := 704) ob_7 4 (by decide) rfl p2
    have F := F.trans w5.2
    have hR := w5.1
    exact hQ _ _ h hR F
def wy_X7_nextByte (n : Nat)  (Y : Yc) (Qy : Int32 → Yc → Prop) : Prop := (∀ x1 : Int32, x1 = yI Y 703 0 → ((x1 = 0 → (∀ x5 : Int32, x5 = yI Y 705 0 → (wy_X0_at n 1 x5 Y (fun (x12 : Int32) (Y9 : Yc) => ((¬ x12 = (-1 : Int32) → (∀ x16 : Int32, x16 = yI Y9 705 0 → (∀ x18 : Int32, x18 = x16 + (1 : Int32) → Qy x12 (uI Y9 705 0 x18)))) ∧ (x12 = (-1 : Int32) → (∀ x23 : Int32, x23 = yI Y9 1 1 → (wy_X7_spoil n (1 : Int32) x23 Y9 (fun (Y26 : Yc) => Qy (0 : Int32) Y26))))))))) ∧ (¬ x1 = 0 → Qy (0 : Int32) Y)))
set_option maxHeartbeats 4000000 in
set_option maxRecDepth 100000 in
theorem y_X7_nextByte {n : Nat} {ad aa : Nat → Nat → Nat} {σ : Sto} {Y : Yc} {Q : Int32 → Sto → Prop} {Qy : Int32 → Yc → Prop} (hR : HY n ad aa σ Y) (h : wy_X7_nextByte n  Y Qy) (hQ : ∀ (r : Int32) (σ' : Sto) (Y' : Yc), Qy r Y' → HY n ad aa σ' Y' → Fy n ad aa σ σ' → Q r σ') : wp_X7_nextByte (ad 7 0)  σ Q := by
  have F : Fy n ad aa σ σ := Fy.rf
  unfold wy_X7_nextByte at h
  unfold wp_X7_nextByte
  refine ⟨hR.K ob_7, ?_⟩
  intro x1 e2
  have e2 : x1 = yI Y 703 0 := e2.trans (hR.I (x := 703) ob_7 3 (by decide) rfl)
  have h := h x1 e2
  refine ⟨fun c3 => ?_, fun c3 => ?_⟩
  · have h := h.1 c3
    have a4 : sP σ (ad 7 0) 0 = some (ad 0 1) := hR.lk ob_7 0 (by decide) rfl
    intro x5 e6
    have e6 : x5 = yI Y 705 0 := e6.trans (hR.I (x := 705) ob_7 5 (by decide) rfl)
    have h := h x5 e6
    refine ⟨_, a4, ?_⟩
    refine ⟨hR.K ob_b1, ?_⟩
    refine y_X0_at hR ob_b1  h (fun x12 σ8 Y9 h hR11 f10 => ?_)
    have F := F.trans f10
    have hR := hR11
    refine ⟨fun c15 => ?_, fun c15 => ?_⟩
    · have h := h.1 c15
      refine ⟨hR.K ob_7, ?_⟩
      intro x16 e17
      have e17 : x16 = yI Y9 705 0 := e17.trans (hR.I (x := 705) ob_7 5 (by decide) rfl)
      have h := h x16 e17
      intro x18 e19
      have h := h x18 e19
      have w20 := hR.wI (x := 705) ob_7 5 (by decide) rfl x18
      have F := F.trans w20.2
      have hR := w20.1
      exact hQ _ _ _ h hR F
    · have h := h.2 c15
      refine ⟨hR.K ob_7, ?_⟩
      have a21 : sP σ8 (ad 7 0) 0 = some (ad 0 1) := hR.lk ob_7 0 (by decide) rfl
      refine ⟨_, a21, ?_⟩
      refine ⟨hR.K ob_b1, ?_⟩
      intro x23 e24
      have e24 : x23 = yI Y9 1 1 := e24.trans (hR.I (x := 1) ob_b1 1 (by decide) rfl)
      have h := h x23 e24
      refine y_X7_spoil hR  h (fun σ25 Y26 h hR28 f27 => ?_)
      have F := F.trans f27
      have hR := hR28
      exact hQ _ _ _ h hR F
  · have h := h.2 c3
    exact hQ _ _ _ h hR F
def wy_X7_tell (n : Nat) (p1 : Int32) (Y : Yc) (Qy : Yc → Prop) : Prop := (∀ x1 : Int32, x1 = yI Y 703 0 → ((¬ x1 = 0 → Qy Y) ∧ (x1 = 0 → (∀ x4 : Int32, x4 = yI Y 702 0 → ((x4 < 0 → Qy Y) ∧ (¬ x4 < 0 → (∀ x7 : Int32, x7 = yI Y 702 0 → (((nI 609) ≤ x7 → Qy Y) ∧ (¬ (nI 609) ≤ x7 → (∀ x13 : Int32, x13 = yI Y 702 0 → (vp_in x13 609 ∧ (∀ x16 : Int32, x16 = yI (uA Y 701 0 x13.toNatClampNeg p1) 702 0 → (∀ x18 : Int32, x18 = x16 + (1 : Int32) → Qy (uI (uA Y 701 0 x13.toNatClampNeg p1) 702 0 x18))))))))))))))
set_option maxHeartbeats 4000000 in
set_option maxRecDepth 100000 in
theorem y_X7_tell {n : Nat} {ad aa : Nat → Nat → Nat} {p1 : Int32} {σ : Sto} {Y : Yc} {Q : Sto → Prop} {Qy : Yc → Prop} (hR : HY n ad aa σ Y) (h : wy_X7_tell n p1 Y Qy) (hQ : ∀ (σ' : Sto) (Y' : Yc), Qy Y' → HY n ad aa σ' Y' → Fy n ad aa σ σ' → Q σ') : wp_X7_tell (ad 7 0) p1 σ Q := by
  have F : Fy n ad aa σ σ := Fy.rf
  unfold wy_X7_tell at h
  unfold wp_X7_tell
  refine ⟨hR.K ob_7, ?_⟩
  intro x1 e2
  have e2 : x1 = yI Y 703 0 := e2.trans (hR.I (x := 703) ob_7 3 (by decide) rfl)
  have h := h x1 e2
  refine ⟨fun c3 => ?_, fun c3 => ?_⟩
  · have h := h.1 c3
    exact hQ _ _ h hR F
  · have h := h.2 c3
    intro x4 e5
    have e5 : x4 = yI Y 702 0 := e5.trans (hR.I (x := 702) ob_7 2 (by decide) rfl)
    have h := h x4 e5
    refine ⟨fun c6 => ?_, fun c6 => ?_⟩
    · have h := h.1 c6
      exact hQ _ _ h hR F
    · have h := h.2 c6
      intro x7 e8
      have e8 : x7 = yI Y 702 0 := e8.trans (hR.I (x := 702) ob_7 2 (by decide) rfl)
      have h := h x7 e8
      have a9 : sP σ (ad 7 0) 1 = some (aa 701 0) := hR.ar (x := 701) ob_7 1 (by decide) rfl (by decide)
      refine ⟨_, a9, ?_⟩
      refine ⟨hR.arK (x := 701) ob_7 1 (by decide) rfl (by decide), ?_⟩
      rw [show sN σ (aa 701 0) = 609 from hR.arN (x := 701) ob_7 1 (by decide) rfl (by decide)]
      refine ⟨fun c11 => ?_, fun c11 => ?_⟩
      · have h := h.1 c11
        exact hQ _ _ h hR F
      · have h := h.2 c11
        have a12 : sP σ (ad 7 0) 1 = some (aa 701 0) := hR.ar (x := 701) ob_7 1 (by decide) rfl (by decide)
        intro x13 e14
        have e14 : x13 = yI Y 702 0 := e14.trans (hR.I (x := 702) ob_7 2 (by decide) rfl)
        have h := h x13 e14
        have hz := h.1
        refine ⟨by first | exact hR.arV (x := 701) ob_7 1 (by decide) rfl (by decide) hz | exact hz, ?_⟩
        have h := h.2
        have w15 := hR.wA (x := 701) ob_7 1 (by decide) rfl (by decide) (x13.toNatClampNeg) p1
        have F := F.trans w15.2
        have hR := w15.1
        intro x16 e17
        have e17 : x16 = yI (uA Y 701 0 x13.toNatClampNeg p1) 702 0 := e17.trans (hR.I (x := 702) ob_7 2 (by decide) rfl)
        have h := h x16 e17
        intro x18 e19
        have h := h x18 e19
        have w20 := hR.wI (x := 702) ob_7 2 (by decide) rfl x18
        have F := F.trans w20.2
        have hR := w20.1
        exact hQ _ _ h hR F
def by_X7_readByte_21 (n : Nat)  (Qy : Int32 → Yc → Prop) (p2 : Int32) (Y : Yc) : Prop := (wy_X7_tell n p2 Y (fun (Y2 : Yc) => Qy p2 Y2))
set_option maxHeartbeats 4000000 in
set_option maxRecDepth 100000 in
theorem yb_X7_readByte_21 {n : Nat} {ad aa : Nat → Nat → Nat} {σ0 : Sto} {Q : Int32 → Sto → Prop} {Qy : Int32 → Yc → Prop} (hQ : ∀ (r : Int32) (σ' : Sto) (Y' : Yc), Qy r Y' → HY n ad aa σ' Y' → Fy n ad aa σ0 σ' → Q r σ')  (p2 : Int32) (σ : Sto) (Y : Yc) (hR : HY n ad aa σ Y) (F : Fy n ad aa σ0 σ) (h : by_X7_readByte_21 n  Qy p2 Y) : b_X7_readByte_21 (ad 7 0)  Q p2 σ := by
  unfold by_X7_readByte_21 at h
  unfold b_X7_readByte_21
  refine ⟨hR.K ob_7, ?_⟩
  refine y_X7_tell hR  h (fun σ1 Y2 h hR4 f3 => ?_)
  have F := F.trans f3
  have hR := hR4
  exact hQ _ _ _ h hR F
def wy_X7_readByte (n : Nat) (p1 : Int32) (Y : Yc) (Qy : Int32 → Yc → Prop) : Prop := (wy_X7_nextByte n  Y (fun (x5 : Int32) (Y2 : Yc) => ((x5 ≤ p1 → by_X7_readByte_21 n  Qy x5 Y2) ∧ (¬ x5 ≤ p1 → (∀ x9 : Int32, x9 = yI Y2 705 0 → (wy_X7_spoil n (2 : Int32) (x9 - (1 : Int32)) Y2 (fun (Y12 : Yc) => by_X7_readByte_21 n  Qy x5 Y12)))))))
set_option maxHeartbeats 4000000 in
set_option maxRecDepth 100000 in
theorem y_X7_readByte {n : Nat} {ad aa : Nat → Nat → Nat} {p1 : Int32} {σ : Sto} {Y : Yc} {Q : Int32 → Sto → Prop} {Qy : Int32 → Yc → Prop} (hR : HY n ad aa σ Y) (h : wy_X7_readByte n p1 Y Qy) (hQ : ∀ (r : Int32) (σ' : Sto) (Y' : Yc), Qy r Y' → HY n ad aa σ' Y' → Fy n ad aa σ σ' → Q r σ') : wp_X7_readByte (ad 7 0) p1 σ Q := by
  have F : Fy n ad aa σ σ := Fy.rf
  unfold wy_X7_readByte at h
  unfold wp_X7_readByte
  refine ⟨hR.K ob_7, ?_⟩
  refine y_X7_nextByte hR  h (fun x5 σ1 Y2 h hR4 f3 => ?_)
  have F := F.trans f3
  have hR := hR4
  refine ⟨fun c8 => ?_, fun c8 => ?_⟩
  · have h := h.1 c8
    exact yb_X7_readByte_21 hQ  x5 _ _ hR F  h
  · have h := h.2 c8
    refine ⟨hR.K ob_7, ?_⟩
    intro x9 e10
    have e10 : x9 = yI Y2 705 0 := e10.trans (hR.I (x := 705) ob_7 5 (by decide) rfl)
    have h := h x9 e10
    refine y_X7_spoil hR  h (fun σ11 Y12 h hR14 f13 => ?_)
    have F := F.trans f13
    have hR := hR14
    exact yb_X7_readByte_21 hQ  x5 _ _ hR F  h
def wy_X7_readSender (n : Nat)  (Y : Yc) (Qy : Yc → Prop) : Prop := (wy_X7_readByte n (255 : Int32) Y (fun (x5 : Int32) (Y2 : Yc) => ((x5 ≤ (6 : Int32) → Qy Y2) ∧ (¬ x5 ≤ (6 : Int32) → ((x5 = (255 : Int32) → Qy Y2) ∧ (¬ x5 = (255 : Int32) → (∀ x10 : Int32, x10 = yI Y2 705 0 → (wy_X7_spoil n (2 : Int32) (x10 - (1 : Int32)) Y2 (fun (Y13 : Yc) => Qy Y13)))))))))
set_option maxHeartbeats 4000000 in
set_option maxRecDepth 100000 in
theorem y_X7_readSender {n : Nat} {ad aa : Nat → Nat → Nat} {σ : Sto} {Y : Yc} {Q : Sto → Prop} {Qy : Yc → Prop} (hR : HY n ad aa σ Y) (h : wy_X7_readSender n  Y Qy) (hQ : ∀ (σ' : Sto) (Y' : Yc), Qy Y' → HY n ad aa σ' Y' → Fy n ad aa σ σ' → Q σ') : wp_X7_readSender (ad 7 0)  σ Q := by
  have F : Fy n ad aa σ σ := Fy.rf
  unfold wy_X7_readSender at h
  unfold wp_X7_readSender
  refine ⟨hR.K ob_7, ?_⟩
  refine y_X7_readByte hR  h (fun x5 σ1 Y2 h hR4 f3 => ?_)
  have F := F.trans f3
  have hR := hR4
  refine ⟨fun c8 => ?_, fun c8 => ?_⟩
  · have h := h.1 c8
    exact hQ _ _ h hR F
  · have h := h.2 c8
    refine ⟨fun c9 => ?_, fun c9 => ?_⟩
    · have h := h.1 c9
      exact hQ _ _ h hR F
    · have h := h.2 c9
      refine ⟨hR.K ob_7, ?_⟩
      intro x10 e11
      have e11 : x10 = yI Y2 705 0 := e11.trans (hR.I (x := 705) ob_7 5 (by decide) rfl)
      have h := h x10 e11
      refine y_X7_spoil hR  h (fun σ12 Y13 h hR15 f14 => ?_)
      have F := F.trans f14
      have hR := hR15
      exact hQ _ _ h hR F
def by_X7_readReceiver_25 (n : Nat)  (Qy : Yc → Prop) (p1 : Int32) (s0 : Int32) (Y : Yc) : Prop := ((p1 ≤ (6 : Int32) → Qy Y) ∧ (¬ p1 ≤ (6 : Int32) → ((¬ s0 = 0 → Qy Y) ∧ (s0 = 0 → (∀ x3 : Int32, x3 = yI Y 705 0 → (wy_X7_spoil n (2 : Int32) (x3 - (1 : Int32)) Y (fun (Y6 : Yc) => Qy Y6)))))))
set_option maxHeartbeats 4000000 in
set_option maxRecDepth 100000 in
theorem yb_X7_readReceiver_25 {n : Nat} {ad aa : Nat → Nat → Nat} {σ0 : Sto} {Q : Sto → Prop} {Qy : Yc → Prop} (hQ : ∀ (σ' : Sto) (Y' : Yc), Qy Y' → HY n ad aa σ' Y' → Fy n ad aa σ0 σ' → Q σ')  (p1 : Int32) (s0 : Int32) (σ : Sto) (Y : Yc) (hR : HY n ad aa σ Y) (F : Fy n ad aa σ0 σ) (h : by_X7_readReceiver_25 n  Qy p1 s0 Y) : b_X7_readReceiver_25 (ad 7 0)  Q p1 s0 σ := by
  unfold by_X7_readReceiver_25 at h
  unfold b_X7_readReceiver_25
  refine ⟨fun c1 => ?_, fun c1 => ?_⟩
  · have h := h.1 c1
    exact hQ _ _ h hR F
  · have h := h.2 c1
    refine ⟨fun c2 => ?_, fun c2 => ?_⟩
    · have h := h.1 c2
      exact hQ _ _ h hR F
    · have h := h.2 c2
      refine ⟨hR.K ob_7, ?_⟩
      intro x3 e4
      have e4 : x3 = yI Y 705 0 := e4.trans (hR.I (x := 705) ob_7 5 (by decide) rfl)
      have h := h x3 e4
      refine y_X7_spoil hR  h (fun σ5 Y6 h hR8 f7 => ?_)
      have F := F.trans f7
      have hR := hR8
      exact hQ _ _ h hR F
def by_X7_readReceiver_24 (n : Nat)  (Qy : Yc → Prop) (p1 : Int32) (Y : Yc) : Prop := by_X7_readReceiver_25 n  Qy p1 (0 : Int32) Y
set_option maxHeartbeats 4000000 in
set_option maxRecDepth 100000 in
theorem yb_X7_readReceiver_24 {n : Nat} {ad aa : Nat → Nat → Nat} {σ0 : Sto} {Q : Sto → Prop} {Qy : Yc → Prop} (hQ : ∀ (σ' : Sto) (Y' : Yc), Qy Y' → HY n ad aa σ' Y' → Fy n ad aa σ0 σ' → Q σ')  (p1 : Int32) (σ : Sto) (Y : Yc) (hR : HY n ad aa σ Y) (F : Fy n ad aa σ0 σ) (h : by_X7_readReceiver_24 n  Qy p1 Y) : b_X7_readReceiver_24 (ad 7 0)  Q p1 σ := by
  unfold by_X7_readReceiver_24 at h
  unfold b_X7_readReceiver_24
  exact yb_X7_readReceiver_25 hQ  p1 (0 : Int32) _ _ hR F  h
def wy_X7_readReceiver (n : Nat)  (Y : Yc) (Qy : Yc → Prop) : Prop := (wy_X7_readByte n (255 : Int32) Y (fun (x5 : Int32) (Y2 : Yc) => ((x5 < (16 : Int32) → by_X7_readReceiver_24 n  Qy x5 Y2) ∧ (¬ x5 < (16 : Int32) → (((20 : Int32) ≤ x5 → by_X7_readReceiver_24 n  Qy x5 Y2) ∧ (¬ (20 : Int32) ≤ x5 → by_X7_readReceiver_25 n  Qy x5 (1 : Int32) Y2))))))
set_option maxHeartbeats 4000000 in
set_option maxRecDepth 100000 in
theorem y_X7_readReceiver {n : Nat} {ad aa : Nat → Nat → Nat} {σ : Sto} {Y : Yc} {Q : Sto → Prop} {Qy : Yc → Prop} (hR : HY n ad aa σ Y) (h : wy_X7_readReceiver n  Y Qy) (hQ : ∀ (σ' : Sto) (Y' : Yc), Qy Y' → HY n ad aa σ' Y' → Fy n ad aa σ σ' → Q σ') : wp_X7_readReceiver (ad 7 0)  σ Q := by
  have F : Fy n ad aa σ σ := Fy.rf
  unfold wy_X7_readReceiver at h
  unfold wp_X7_readReceiver
  refine ⟨hR.K ob_7, ?_⟩
  refine y_X7_readByte hR  h (fun x5 σ1 Y2 h hR4 f3 => ?_)
  have F := F.trans f3
  have hR := hR4
  refine ⟨fun c8 => ?_, fun c8 => ?_⟩
  · have h := h.1 c8
    exact yb_X7_readReceiver_24 hQ  x5 _ _ hR F  h
  · have h := h.2 c8
    refine ⟨fun c9 => ?_, fun c9 => ?_⟩
    · have h := h.1 c9
      exact yb_X7_readReceiver_24 hQ  x5 _ _ hR F  h
    · have h := h.2 c9
      exact yb_X7_readReceiver_25 hQ  x5 (1 : Int32) _ _ hR F  h
def by_X7_readNumber_83 (n : Nat)  (Qy : Int32 → Yc → Prop) (p4 : Int64) (Y : Yc) : Prop := (wy_X7_tell n p4.toInt32 Y (fun (Y2 : Yc) => Qy p4.toInt32 Y2))
set_option maxHeartbeats 4000000 in
set_option maxRecDepth 100000 in
theorem yb_X7_readNumber_83 {n : Nat} {ad aa : Nat → Nat → Nat} {σ0 : Sto} {Q : Int32 → Sto → Prop} {Qy : Int32 → Yc → Prop} (hQ : ∀ (r : Int32) (σ' : Sto) (Y' : Yc), Qy r Y' → HY n ad aa σ' Y' → Fy n ad aa σ0 σ' → Q r σ')  (p4 : Int64) (σ : Sto) (Y : Yc) (hR : HY n ad aa σ Y) (F : Fy n ad aa σ0 σ) (h : by_X7_readNumber_83 n  Qy p4 Y) : b_X7_readNumber_83 (ad 7 0)  Q p4 σ := by
  unfold by_X7_readNumber_83 at h
  unfold b_X7_readNumber_83
  refine ⟨hR.K ob_7, ?_⟩
  refine y_X7_tell hR  h (fun σ1 Y2 h hR4 f3 => ?_)
  have F := F.trans f3
  have hR := hR4
  exact hQ _ _ _ h hR F
def by_X7_readNumber_77 (n : Nat)  (Qy : Int32 → Yc → Prop) (p1 : Int32) (p4 : Int64) (Y : Yc) : Prop := (wy_X7_spoil n (3 : Int32) p1 Y (fun (Y2 : Yc) => by_X7_readNumber_83 n  Qy p4 Y2))
set_option maxHeartbeats 4000000 in
set_option maxRecDepth 100000 in
theorem yb_X7_readNumber_77 {n : Nat} {ad aa : Nat → Nat → Nat} {σ0 : Sto} {Q : Int32 → Sto → Prop} {Qy : Int32 → Yc → Prop} (hQ : ∀ (r : Int32) (σ' : Sto) (Y' : Yc), Qy r Y' → HY n ad aa σ' Y' → Fy n ad aa σ0 σ' → Q r σ')  (p1 : Int32) (p4 : Int64) (σ : Sto) (Y : Yc) (hR : HY n ad aa σ Y) (F : Fy n ad aa σ0 σ) (h : by_X7_readNumber_77 n  Qy p1 p4 Y) : b_X7_readNumber_77 (ad 7 0)  Q p1 p4 σ := by
  unfold by_X7_readNumber_77 at h
  unfold b_X7_readNumber_77
  refine ⟨hR.K ob_7, ?_⟩
  refine y_X7_spoil hR  h (fun σ1 Y2 h hR4 f3 => ?_)
  have F := F.trans f3
  have hR := hR4
  exact yb_X7_readNumber_83 hQ  p4 _ _ hR F  h
def by_X7_readNumber_52 (n : Nat)  (Qy : Int32 → Yc → Prop) (p1 : Int32) (p2 : Int32) (p3 : Int32) (p4 : Int64) (Y : Yc) : Prop := (((128 : Int32) ≤ p3 → by_X7_readNumber_77 n  Qy p1 p4 Y) ∧ (¬ (128 : Int32) ≤ p3 → ((0 < (lg_cmp p4 (2147483647 : Int64)) → by_X7_readNumber_77 n  Qy p1 p4 Y) ∧ (¬ 0 < (lg_cmp p4 (2147483647 : Int64)) → ((p2 ≤ (1 : Int32) → by_X7_readNumber_83 n  Qy p4 Y) ∧ (¬ p2 ≤ (1 : Int32) → ((¬ p3 = 0 → by_X7_readNumber_83 n  Qy p4 Y) ∧ (p3 = 0 → by_X7_readNumber_77 n  Qy p1 p4 Y))))))))
set_option maxHeartbeats 4000000 in
set_option maxRecDepth 100000 in
theorem yb_X7_readNumber_52 {n : Nat} {ad aa : Nat → Nat → Nat} {σ0 : Sto} {Q : Int32 → Sto → Prop} {Qy : Int32 → Yc → Prop} (hQ : ∀ (r : Int32) (σ' : Sto) (Y' : Yc), Qy r Y' → HY n ad aa σ' Y' → Fy n ad aa σ0 σ' → Q r σ')  (p1 : Int32) (p2 : Int32) (p3 : Int32) (p4 : Int64) (σ : Sto) (Y : Yc) (hR : HY n ad aa σ Y) (F : Fy n ad aa σ0 σ) (h : by_X7_readNumber_52 n  Qy p1 p2 p3 p4 Y) : b_X7_readNumber_52 (ad 7 0)  Q p1 p2 p3 p4 σ := by
  unfold by_X7_readNumber_52 at h
  unfold b_X7_readNumber_52
  refine ⟨fun c1 => ?_, fun c1 => ?_⟩
  · have h := h.1 c1
    exact yb_X7_readNumber_77 hQ  p1 p4 _ _ hR F  h
  · have h := h.2 c1
    refine ⟨fun c2 => ?_, fun c2 => ?_⟩
    · have h := h.1 c2
      exact yb_X7_readNumber_77 hQ  p1 p4 _ _ hR F  h
    · have h := h.2 c2
      refine ⟨fun c3 => ?_, fun c3 => ?_⟩
      · have h := h.1 c3
        exact yb_X7_readNumber_83 hQ  p4 _ _ hR F  h
      · have h := h.2 c3
        refine ⟨fun c4 => ?_, fun c4 => ?_⟩
        · have h := h.1 c4
          exact yb_X7_readNumber_83 hQ  p4 _ _ hR F  h
        · have h := h.2 c4
          exact yb_X7_readNumber_77 hQ  p1 p4 _ _ hR F  h
def fy_X7_readNumber_14 (n : Nat)  (Qy : Int32 → Yc → Prop) (Ly14 : Int32 × Int32 × Int32 × Int64 → Yc → Prop) (t : Int32 × Int32 × Int32 × Int64) (Y : Yc) : Prop := (((5 : Int32) ≤ t.2.1 → by_X7_readNumber_52 n  Qy t.1 t.2.1 t.2.2.1 t.2.2.2 Y) ∧ (¬ (5 : Int32) ≤ t.2.1 → ((t.2.2.1 < (128 : Int32) → by_X7_readNumber_52 n  Qy t.1 t.2.1 t.2.2.1 t.2.2.2 Y) ∧ (¬ t.2.2.1 < (128 : Int32) → (wy_X7_nextByte n  Y (fun (x7 : Int32) (Y4 : Yc) => (∀ y10 : Int64, y10 = t.2.2.2 ||| (((x7 &&& (127 : Int32)).toInt64) <<< (((7 : Int32) * t.2.1).toInt64 &&& 63)) → (∀ x12 : Int32, x12 = t.2.1 + (1 : Int32) → Ly14 (t.1, x12, x7, y10) Y4))))))))
set_option maxHeartbeats 4000000 in
set_option maxRecDepth 100000 in
theorem yf_X7_readNumber_14 {n : Nat} {ad aa : Nat → Nat → Nat} {σ0 : Sto} {Q : Int32 → Sto → Prop} {Qy : Int32 → Yc → Prop} {Ly14 : Int32 × Int32 × Int32 × Int64 → Yc → Prop} {L14 : Int32 × Int32 × Int32 × Int64 → Sto → Prop} (hQ : ∀ (r : Int32) (σ' : Sto) (Y' : Yc), Qy r Y' → HY n ad aa σ' Y' → Fy n ad aa σ0 σ' → Q r σ') (hL14 : ∀ (t9 : Int32 × Int32 × Int32 × Int64) (t : Int32 × Int32 × Int32 × Int64) (σ : Sto) (Y : Yc), Ly14 t Y → HY n ad aa σ Y → Fy n ad aa σ0 σ → ((t.1, t.2.1, t.2.2.1, t.2.2.2) = t9 ∧ True) → L14 t9 σ) : ∀ (t9 : Int32 × Int32 × Int32 × Int64) (t : Int32 × Int32 × Int32 × Int64) (σ : Sto) (Y : Yc), HY n ad aa σ Y → Fy n ad aa σ0 σ → ((t.1, t.2.1, t.2.2.1, t.2.2.2) = t9 ∧ True) → fy_X7_readNumber_14 n  Qy Ly14 t Y → f_X7_readNumber_14 (ad 7 0)  Q L14 t9 σ := by
  intro t9 t σ Y hR F hT h
  obtain ⟨rfl, _⟩ := hT
  unfold fy_X7_readNumber_14 at h
  unfold f_X7_readNumber_14
  dsimp only
  refine ⟨fun c1 => ?_, fun c1 => ?_⟩
  · have h := h.1 c1
    exact yb_X7_readNumber_52 hQ  t.1 t.2.1 t.2.2.1 t.2.2.2 _ _ hR F  h
  · have h := h.2 c1
    refine ⟨fun c2 => ?_, fun c2 => ?_⟩
    · have h := h.1 c2
      exact yb_X7_readNumber_52 hQ  t.1 t.2.1 t.2.2.1 t.2.2.2 _ _ hR F  h
    · have h := h.2 c2
      refine ⟨hR.K ob_7, ?_⟩
      refine y_X7_nextByte hR  h (fun x7 σ3 Y4 h hR6 f5 => ?_)
      have F := F.trans f5
      have hR := hR6
      intro y10 e11
      have h := h y10 e11
      intro x12 e13
      have h := h x12 e13
      exact hL14 _ _ _ _ h hR F ⟨rfl, trivial⟩
def wy_X7_readNumber (n : Nat)  (Y : Yc) (Qy : Int32 → Yc → Prop) : Prop := (∀ x1 : Int32, x1 = yI Y 705 0 → LFy (fy_X7_readNumber_14 n  Qy) (x1, (0 : Int32), (128 : Int32), (0 : Int64)) Y)
set_option maxHeartbeats 4000000 in
set_option maxRecDepth 100000 in
theorem y_X7_readNumber {n : Nat} {ad aa : Nat → Nat → Nat} {σ : Sto} {Y : Yc} {Q : Int32 → Sto → Prop} {Qy : Int32 → Yc → Prop} (hR : HY n ad aa σ Y) (h : wy_X7_readNumber n  Y Qy) (hQ : ∀ (r : Int32) (σ' : Sto) (Y' : Yc), Qy r Y' → HY n ad aa σ' Y' → Fy n ad aa σ σ' → Q r σ') : wp_X7_readNumber (ad 7 0)  σ Q := by
  have F : Fy n ad aa σ σ := Fy.rf
  unfold wy_X7_readNumber at h
  unfold wp_X7_readNumber
  refine ⟨hR.K ob_7, ?_⟩
  intro x1 e2
  have e2 : x1 = yI Y 705 0 := e2.trans (hR.I (x := 705) ob_7 5 (by decide) rfl)
  have h := h x1 e2
  exact lfy (fun σ t9 t => (t.1, t.2.1, t.2.2.1, t.2.2.2) = t9 ∧ True) h hR F ⟨rfl, trivial⟩ (fun Ly L hL t9 t σ Y hR F hT h => yf_X7_readNumber_14 hQ  hL t9 t σ Y hR F hT h)
def fy_X7_nextWord_4 (n : Nat)  (Qy : Int32 → Yc → Prop) (Ly4 : Int32 × Int32 → Yc → Prop) (t : Int32 × Int32) (Y : Yc) : Prop := (((4 : Int32) ≤ t.2 → Qy t.1 Y) ∧ (¬ (4 : Int32) ≤ t.2 → (wy_X7_nextByte n  Y (fun (x6 : Int32) (Y3 : Yc) => (∀ x9 : Int32, x9 = (t.1 <<< ((8 : Int32) &&& 31)) ||| x6 → (∀ x11 : Int32, x11 = t.2 + (1 : Int32) → Ly4 (x9, x11) Y3))))))
set_option maxHeartbeats 4000000 in
set_option maxRecDepth 100000 in
theorem yf_X7_nextWord_4 {n : Nat} {ad aa : Nat → Nat → Nat} {σ0 : Sto} {Q : Int32 → Sto → Prop} {Qy : Int32 → Yc → Prop} {Ly4 : Int32 × Int32 → Yc → Prop} {L4 : Int32 × Int32 → Sto → Prop} (hQ : ∀ (r : Int32) (σ' : Sto) (Y' : Yc), Qy r Y' → HY n ad aa σ' Y' → Fy n ad aa σ0 σ' → Q r σ') (hL4 : ∀ (t9 : Int32 × Int32) (t : Int32 × Int32) (σ : Sto) (Y : Yc), Ly4 t Y → HY n ad aa σ Y → Fy n ad aa σ0 σ → ((t.1, t.2) = t9 ∧ True) → L4 t9 σ) : ∀ (t9 : Int32 × Int32) (t : Int32 × Int32) (σ : Sto) (Y : Yc), HY n ad aa σ Y → Fy n ad aa σ0 σ → ((t.1, t.2) = t9 ∧ True) → fy_X7_nextWord_4 n  Qy Ly4 t Y → f_X7_nextWord_4 (ad 7 0)  Q L4 t9 σ := by
  intro t9 t σ Y hR F hT h
  obtain ⟨rfl, _⟩ := hT
  unfold fy_X7_nextWord_4 at h
  unfold f_X7_nextWord_4
  dsimp only
  refine ⟨fun c1 => ?_, fun c1 => ?_⟩
  · have h := h.1 c1
    exact hQ _ _ _ h hR F
  · have h := h.2 c1
    refine ⟨hR.K ob_7, ?_⟩
    refine y_X7_nextByte hR  h (fun x6 σ2 Y3 h hR5 f4 => ?_)
    have F := F.trans f4
    have hR := hR5
    intro x9 e10
    have h := h x9 e10
    intro x11 e12
    have h := h x11 e12
    exact hL4 _ _ _ _ h hR F ⟨rfl, trivial⟩
def wy_X7_nextWord (n : Nat)  (Y : Yc) (Qy : Int32 → Yc → Prop) : Prop := LFy (fy_X7_nextWord_4 n  Qy) ((0 : Int32), (0 : Int32)) Y
set_option maxHeartbeats 4000000 in
set_option maxRecDepth 100000 in
theorem y_X7_nextWord {n : Nat} {ad aa : Nat → Nat → Nat} {σ : Sto} {Y : Yc} {Q : Int32 → Sto → Prop} {Qy : Int32 → Yc → Prop} (hR : HY n ad aa σ Y) (h : wy_X7_nextWord n  Y Qy) (hQ : ∀ (r : Int32) (σ' : Sto) (Y' : Yc), Qy r Y' → HY n ad aa σ' Y' → Fy n ad aa σ σ' → Q r σ') : wp_X7_nextWord (ad 7 0)  σ Q := by
  have F : Fy n ad aa σ σ := Fy.rf
  unfold wy_X7_nextWord at h
  unfold wp_X7_nextWord
  exact lfy (fun σ t9 t => (t.1, t.2) = t9 ∧ True) h hR F ⟨rfl, trivial⟩ (fun Ly L hL t9 t σ Y hR F hT h => yf_X7_nextWord_4 hQ  hL t9 t σ Y hR F hT h)
def wy_X7_readRequest (n : Nat)  (Y : Yc) (Qy : Yc → Prop) : Prop := (wy_X7_readByte n (3 : Int32) Y (fun (x5 : Int32) (Y2 : Yc) => (wy_X7_readNumber n  Y2 (fun (x12 : Int32) (Y9 : Yc) => (wy_X7_readByte n (2 : Int32) Y9 (fun (x19 : Int32) (Y16 : Yc) => (wy_X7_readByte n (7 : Int32) Y16 (fun (x26 : Int32) (Y23 : Yc) => (wy_X7_nextWord n  Y23 (fun (x33 : Int32) (Y30 : Yc) => (wy_X7_tell n x33 Y30 (fun (Y37 : Yc) => Qy Y37))))))))))))
set_option maxHeartbeats 4000000 in
set_option maxRecDepth 100000 in
theorem y_X7_readRequest {n : Nat} {ad aa : Nat → Nat → Nat} {σ : Sto} {Y : Yc} {Q : Sto → Prop} {Qy : Yc → Prop} (hR : HY n ad aa σ Y) (h : wy_X7_readRequest n  Y Qy) (hQ : ∀ (σ' : Sto) (Y' : Yc), Qy Y' → HY n ad aa σ' Y' → Fy n ad aa σ σ' → Q σ') : wp_X7_readRequest (ad 7 0)  σ Q := by
  have F : Fy n ad aa σ σ := Fy.rf
  unfold wy_X7_readRequest at h
  unfold wp_X7_readRequest
  refine ⟨hR.K ob_7, ?_⟩
  refine y_X7_readByte hR  h (fun x5 σ1 Y2 h hR4 f3 => ?_)
  have F := F.trans f3
  have hR := hR4
  refine ⟨hR.K ob_7, ?_⟩
  refine y_X7_readNumber hR  h (fun x12 σ8 Y9 h hR11 f10 => ?_)
  have F := F.trans f10
  have hR := hR11
  refine ⟨hR.K ob_7, ?_⟩
  refine y_X7_readByte hR  h (fun x19 σ15 Y16 h hR18 f17 => ?_)
  have F := F.trans f17
  have hR := hR18
  refine ⟨hR.K ob_7, ?_⟩
  refine y_X7_readByte hR  h (fun x26 σ22 Y23 h hR25 f24 => ?_)
  have F := F.trans f24
  have hR := hR25
  refine ⟨hR.K ob_7, ?_⟩
  refine y_X7_nextWord hR  h (fun x33 σ29 Y30 h hR32 f31 => ?_)
  have F := F.trans f31
  have hR := hR32
  refine ⟨hR.K ob_7, ?_⟩
  refine y_X7_tell hR  h (fun σ36 Y37 h hR39 f38 => ?_)
  have F := F.trans f38
  have hR := hR39
  exact hQ _ _ h hR F
def by_X7_readLog_49 (n : Nat)  (Ly24 : Int32 × Int32 → Yc → Prop) (Qy : Yc → Prop) (p2 : Int32) (p3 : Int32) (Y : Yc) : Prop := (∀ x1 : Int32, x1 = p3 + (1 : Int32) → Ly24 (p2, x1) Y)
set_option maxHeartbeats 4000000 in
set_option maxRecDepth 100000 in
theorem yb_X7_readLog_49 {n : Nat} {ad aa : Nat → Nat → Nat} {σ0 : Sto} {Ly24 : Int32 × Int32 → Yc → Prop} {L24 : Int32 × Int32 → Sto → Prop} {Q : Sto → Prop} {Qy : Yc → Prop} (hQ : ∀ (σ' : Sto) (Y' : Yc), Qy Y' → HY n ad aa σ' Y' → Fy n ad aa σ0 σ' → Q σ') (hL24 : ∀ (t9 : Int32 × Int32) (t : Int32 × Int32) (σ : Sto) (Y : Yc), Ly24 t Y → HY n ad aa σ Y → Fy n ad aa σ0 σ → ((t.1, t.2) = t9 ∧ True) → L24 t9 σ) (p2 : Int32) (p3 : Int32) (σ : Sto) (Y : Yc) (hR : HY n ad aa σ Y) (F : Fy n ad aa σ0 σ) (h : by_X7_readLog_49 n Ly24 Qy p2 p3 Y) : b_X7_readLog_49 (ad 7 0) L24 Q p2 p3 σ := by
  unfold by_X7_readLog_49 at h
  unfold b_X7_readLog_49
  intro x1 e2
  have h := h x1 e2
  exact hL24 _ _ _ _ h hR F ⟨rfl, trivial⟩
def fy_X7_readLog_24 (n : Nat)  (Qy : Yc → Prop) (Ly24 : Int32 × Int32 → Yc → Prop) (t : Int32 × Int32) (Y : Yc) : Prop := ((t.1 ≤ t.2 → Qy Y) ∧ (¬ t.1 ≤ t.2 → (∀ x2 : Int32, x2 = yI Y 703 0 → ((¬ x2 = 0 → Qy Y) ∧ (x2 = 0 → (wy_X7_readByte n (1 : Int32) Y (fun (x9 : Int32) (Y6 : Yc) => ((¬ x9 = (1 : Int32) → by_X7_readLog_49 n Ly24 Qy t.1 t.2 Y6) ∧ (x9 = (1 : Int32) → (wy_X7_readRequest n  Y6 (fun (Y14 : Yc) => by_X7_readLog_49 n Ly24 Qy t.1 t.2 Y14)))))))))))
set_option maxHeartbeats 4000000 in
set_option maxRecDepth 100000 in
theorem yf_X7_readLog_24 {n : Nat} {ad aa : Nat → Nat → Nat} {σ0 : Sto} {Q : Sto → Prop} {Qy : Yc → Prop} {Ly24 : Int32 × Int32 → Yc → Prop} {L24 : Int32 × Int32 → Sto → Prop} (hQ : ∀ (σ' : Sto) (Y' : Yc), Qy Y' → HY n ad aa σ' Y' → Fy n ad aa σ0 σ' → Q σ') (hL24 : ∀ (t9 : Int32 × Int32) (t : Int32 × Int32) (σ : Sto) (Y : Yc), Ly24 t Y → HY n ad aa σ Y → Fy n ad aa σ0 σ → ((t.1, t.2) = t9 ∧ True) → L24 t9 σ) : ∀ (t9 : Int32 × Int32) (t : Int32 × Int32) (σ : Sto) (Y : Yc), HY n ad aa σ Y → Fy n ad aa σ0 σ → ((t.1, t.2) = t9 ∧ True) → fy_X7_readLog_24 n  Qy Ly24 t Y → f_X7_readLog_24 (ad 7 0)  Q L24 t9 σ := by
  intro t9 t σ Y hR F hT h
  obtain ⟨rfl, _⟩ := hT
  unfold fy_X7_readLog_24 at h
  unfold f_X7_readLog_24
  dsimp only
  refine ⟨fun c1 => ?_, fun c1 => ?_⟩
  · have h := h.1 c1
    exact hQ _ _ h hR F
  · have h := h.2 c1
    refine ⟨hR.K ob_7, ?_⟩
    intro x2 e3
    have e3 : x2 = yI Y 703 0 := e3.trans (hR.I (x := 703) ob_7 3 (by decide) rfl)
    have h := h x2 e3
    refine ⟨fun c4 => ?_, fun c4 => ?_⟩
    · have h := h.1 c4
      exact hQ _ _ h hR F
    · have h := h.2 c4
      refine y_X7_readByte hR  h (fun x9 σ5 Y6 h hR8 f7 => ?_)
      have F := F.trans f7
      have hR := hR8
      refine ⟨fun c12 => ?_, fun c12 => ?_⟩
      · have h := h.1 c12
        exact yb_X7_readLog_49 hQ hL24 t.1 t.2 _ _ hR F  h
      · have h := h.2 c12
        refine ⟨hR.K ob_7, ?_⟩
        refine y_X7_readRequest hR  h (fun σ13 Y14 h hR16 f15 => ?_)
        have F := F.trans f15
        have hR := hR16
        exact yb_X7_readLog_49 hQ hL24 t.1 t.2 _ _ hR F  h
def by_X7_readLog_22 (n : Nat)  (Qy : Yc → Prop) (p2 : Int32) (Y : Yc) : Prop := LFy (fy_X7_readLog_24 n  Qy) (p2, (0 : Int32)) Y
set_option maxHeartbeats 4000000 in
set_option maxRecDepth 100000 in
theorem yb_X7_readLog_22 {n : Nat} {ad aa : Nat → Nat → Nat} {σ0 : Sto} {Q : Sto → Prop} {Qy : Yc → Prop} (hQ : ∀ (σ' : Sto) (Y' : Yc), Qy Y' → HY n ad aa σ' Y' → Fy n ad aa σ0 σ' → Q σ')  (p2 : Int32) (σ : Sto) (Y : Yc) (hR : HY n ad aa σ Y) (F : Fy n ad aa σ0 σ) (h : by_X7_readLog_22 n  Qy p2 Y) : b_X7_readLog_22 (ad 7 0)  Q p2 σ := by
  unfold by_X7_readLog_22 at h
  unfold b_X7_readLog_22
  exact lfy (fun σ t9 t => (t.1, t.2) = t9 ∧ True) h hR F ⟨rfl, trivial⟩ (fun Ly L hL t9 t σ Y hR F hT h => yf_X7_readLog_24 hQ  hL t9 t σ Y hR F hT h)
def wy_X7_readLog (n : Nat)  (Y : Yc) (Qy : Yc → Prop) : Prop := (∀ x1 : Int32, x1 = yI Y 705 0 → (wy_X7_readNumber n  Y (fun (x7 : Int32) (Y4 : Yc) => ((x7 ≤ (100 : Int32) → by_X7_readLog_22 n  Qy x7 Y4) ∧ (¬ x7 ≤ (100 : Int32) → (wy_X7_spoil n (4 : Int32) x1 Y4 (fun (Y12 : Yc) => by_X7_readLog_22 n  Qy x7 Y12)))))))
set_option maxHeartbeats 4000000 in
set_option maxRecDepth 100000 in
theorem y_X7_readLog {n : Nat} {ad aa : Nat → Nat → Nat} {σ : Sto} {Y : Yc} {Q : Sto → Prop} {Qy : Yc → Prop} (hR : HY n ad aa σ Y) (h : wy_X7_readLog n  Y Qy) (hQ : ∀ (σ' : Sto) (Y' : Yc), Qy Y' → HY n ad aa σ' Y' → Fy n ad aa σ σ' → Q σ') : wp_X7_readLog (ad 7 0)  σ Q := by
  have F : Fy n ad aa σ σ := Fy.rf
  unfold wy_X7_readLog at h
  unfold wp_X7_readLog
  refine ⟨hR.K ob_7, ?_⟩
  intro x1 e2
  have e2 : x1 = yI Y 705 0 := e2.trans (hR.I (x := 705) ob_7 5 (by decide) rfl)
  have h := h x1 e2
  refine y_X7_readNumber hR  h (fun x7 σ3 Y4 h hR6 f5 => ?_)
  have F := F.trans f5
  have hR := hR6
  refine ⟨fun c10 => ?_, fun c10 => ?_⟩
  · have h := h.1 c10
    exact yb_X7_readLog_22 hQ  x7 _ _ hR F  h
  · have h := h.2 c10
    refine ⟨hR.K ob_7, ?_⟩
    refine y_X7_spoil hR  h (fun σ11 Y12 h hR14 f13 => ?_)
    have F := F.trans f13
    have hR := hR14
    exact yb_X7_readLog_22 hQ  x7 _ _ hR F  h
