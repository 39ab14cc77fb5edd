def by_X11_entry_95 (n : Nat)  (Qy : Int32 → Yc → Prop) (p3 : Int32) (p5 : Option Rq) (Y : Yc) : Prop := ((p5 = none → Qy (-1 : Int32) Y) ∧ (∀ w3 : Rq, p5 = some w3 → ((p3.toInt < 1 ∨ 4 < p3.toInt → Qy (-1 : Int32) Y) ∧ (p3 = (1 : Int32) → (∀ x6 : Int32, x6 = w3.1 → Qy x6 Y)) ∧ (p3 = (2 : Int32) → (∀ x8 : Int32, x8 = w3.2.1 → Qy x8 Y)) ∧ (p3 = (3 : Int32) → (∀ x10 : Int32, x10 = w3.2.2.1 → Qy x10 Y)) ∧ (p3 = (4 : Int32) → (∀ x12 : Int32, x12 = w3.2.2.2.1 → Qy x12 Y)))))
set_option maxHeartbeats 4000000 in
set_option maxRecDepth 100000 in
theorem yb_X11_entry_95 {n : Nat} {ad aa : Nat → Nat → Nat} {σ0 : Sto} {Q : Int32 → Sto → Prop} {Qy : Int32 → Yc → Prop} (hQ : ∀ (r : Int32) (σ' : Sto) (Y' : Yc), Qy r Y' → HY n ad aa σ' Y' → Fy n ad aa σ0 σ' → Q r σ')  (p3 : Int32) (p5 : Option Rq) (σ : Sto) (Y : Yc) (hR : HY n ad aa σ Y) (F : Fy n ad aa σ0 σ) {ap5 : Option Nat} (hp5 : rq σ ap5 p5) (h : by_X11_entry_95 n  Qy p3 p5 Y) : b_X11_entry_95 (ad 11 0)  Q p3 ap5 σ := by
  unfold by_X11_entry_95 at h
  unfold b_X11_entry_95
  refine ⟨fun c1 => ?_, fun b2 c1 => ?_⟩
  · have h := h.1 (rq_none hp5 c1)
    exact hQ _ _ _ h hR F
  · obtain ⟨w3, ew4⟩ := rq_some hp5 c1
    have h := h.2 w3 ew4
    refine ⟨fun c5 => ?_, fun c5 => ?_, fun c5 => ?_, fun c5 => ?_, fun c5 => ?_⟩
    · have h := h.1 c5
      exact hQ _ _ _ h hR F
    · have h := h.2.1 c5
      refine ⟨(rq_get hp5 c1 ew4).1, ?_⟩
      intro x6 e7
      have e7 : x6 = w3.1 := e7.trans ((rq_get hp5 c1 ew4).2.1)
      have h := h x6 e7
      exact hQ _ _ _ h hR F
    · have h := h.2.2.1 c5
      refine ⟨(rq_get hp5 c1 ew4).1, ?_⟩
      intro x8 e9
      have e9 : x8 = w3.2.1 := e9.trans ((rq_get hp5 c1 ew4).2.2.1)
      have h := h x8 e9
      exact hQ _ _ _ h hR F
    · have h := h.2.2.2.1 c5
      refine ⟨(rq_get hp5 c1 ew4).1, ?_⟩
      intro x10 e11
      have e11 : x10 = w3.2.2.1 := e11.trans ((rq_get hp5 c1 ew4).2.2.2.1)
      have h := h x10 e11
      exact hQ _ _ _ h hR F
    · have h := h.2.2.2.2 c5
      refine ⟨(rq_get hp5 c1 ew4).1, ?_⟩
      intro x12 e13
      have e13 : x12 = w3.2.2.2.1 := e13.trans ((rq_get hp5 c1 ew4).2.2.2.2.1)
      have h := h x12 e13
      exact hQ _ _ _ h hR F
def by_X11_entry_53 (n : Nat)  (Qy : Int32 → Yc → Prop) (p3 : Int32) (p4 : Int32) (s0 : Option Rq) (Y : Yc) : Prop := ((¬ p3 = (5 : Int32) → ((¬ p3 = 0 → by_X11_entry_95 n  Qy p3 s0 Y) ∧ (p3 = 0 → ((p4 = 0 → by_X11_entry_95 n  Qy p3 s0 Y) ∧ (¬ p4 = 0 → ((s0 = none → Qy (0 : Int32) Y) ∧ (∀ w6 : Rq, s0 = some w6 → Qy (1 : Int32) Y))))))) ∧ (p3 = (5 : Int32) → ((s0 = none → Qy (0 : Int32) Y) ∧ (∀ w10 : Rq, s0 = some w10 → (∀ x12 : Int32, x12 = w10.2.2.2.2 → Qy x12 Y)))))
set_option maxHeartbeats 4000000 in
set_option maxRecDepth 100000 in
theorem yb_X11_entry_53 {n : Nat} {ad aa : Nat → Nat → Nat} {σ0 : Sto} {Q : Int32 → Sto → Prop} {Qy : Int32 → Yc → Prop} (hQ : ∀ (r : Int32) (σ' : Sto) (Y' : Yc), Qy r Y' → HY n ad aa σ' Y' → Fy n ad aa σ0 σ' → Q r σ')  (p3 : Int32) (p4 : Int32) (s0 : Option Rq) (σ : Sto) (Y : Yc) (hR : HY n ad aa σ Y) (F : Fy n ad aa σ0 σ) {as0 : Option Nat} (hs0 : rq σ as0 s0) (h : by_X11_entry_53 n  Qy p3 p4 s0 Y) : b_X11_entry_53 (ad 11 0)  Q p3 p4 as0 σ := by
  unfold by_X11_entry_53 at h
  unfold b_X11_entry_53
  refine ⟨fun c1 => ?_, fun c1 => ?_⟩
  · have h := h.1 c1
    refine ⟨fun c2 => ?_, fun c2 => ?_⟩
    · have h := h.1 c2
      exact yb_X11_entry_95 hQ  p3 s0 _ _ hR F hs0 h
    · have h := h.2 c2
      refine ⟨fun c3 => ?_, fun c3 => ?_⟩
      · have h := h.1 c3
        exact yb_X11_entry_95 hQ  p3 s0 _ _ hR F hs0 h
      · have h := h.2 c3
        refine ⟨fun c4 => ?_, fun b5 c4 => ?_⟩
        · have h := h.1 (rq_none hs0 c4)
          exact hQ _ _ _ h hR F
        · obtain ⟨w6, ew7⟩ := rq_some hs0 c4
          have h := h.2 w6 ew7
          exact hQ _ _ _ h hR F
  · have h := h.2 c1
    refine ⟨fun c8 => ?_, fun b9 c8 => ?_⟩
    · have h := h.1 (rq_none hs0 c8)
      exact hQ _ _ _ h hR F
    · obtain ⟨w10, ew11⟩ := rq_some hs0 c8
      have h := h.2 w10 ew11
      refine ⟨(rq_get hs0 c8 ew11).1, ?_⟩
      intro x12 e13
      have e13 : x12 = w10.2.2.2.2 := e13.trans ((rq_get hs0 c8 ew11).2.2.2.2.2)
      have h := h x12 e13
      exact hQ _ _ _ h hR F
def by_X11_entry_29 (n : Nat)  (Qy : Int32 → Yc → Prop) (p1 : Int32) (p2 : Int32) (p3 : Int32) (s0 : Int32) (Y : Yc) : Prop := ((s0 = 0 → by_X11_entry_53 n  Qy p3 s0 none Y) ∧ (¬ s0 = 0 → (vp_in p1 n ∧ (wy_X2_at n (p1.toNatClampNeg) p2 Y (fun (q15 : Option Rq) (Y12 : Yc) => by_X11_entry_53 n  Qy p3 s0 q15 Y12)))))
set_option maxHeartbeats 4000000 in
set_option maxRecDepth 100000 in
theorem yb_X11_entry_29 {n : Nat} {ad aa : Nat → Nat → Nat} {σ0 : Sto} {Q : Int32 → Sto → Prop} {Qy : Int32 → Yc → Prop} (hQ : ∀ (r : Int32) (σ' : Sto) (Y' : Yc), Qy r Y' → HY n ad aa σ' Y' → Fy n ad aa σ0 σ' → Q r σ')  (p1 : Int32) (p2 : Int32) (p3 : Int32) (s0 : Int32) (σ : Sto) (Y : Yc) (hR : HY n ad aa σ Y) (F : Fy n ad aa σ0 σ) (h : by_X11_entry_29 n  Qy p1 p2 p3 s0 Y) : b_X11_entry_29 (ad 11 0)  Q p1 p2 p3 s0 σ := by
  unfold by_X11_entry_29 at h
  unfold b_X11_entry_29
  refine ⟨fun c1 => ?_, fun c1 => ?_⟩
  · have h := h.1 c1
    exact yb_X11_entry_53 hQ  p3 s0 none _ _ hR F rq_nn h
  · have h := h.2 c1
    refine ⟨hR.K ob_11, ?_⟩
    have a2 : sP σ (ad 11 0) 3 = some (aa 1103 0) := hR.ar (x := 1103) ob_11 3 (by decide) rfl (by decide)
    refine ⟨_, a2, ?_⟩
    refine ⟨hR.arK (x := 1103) ob_11 3 (by decide) rfl (by decide), ?_⟩
    have hz := h.1
    refine ⟨by first | exact hR.arV (x := 1103) ob_11 3 (by decide) rfl (by decide) hz | exact hz, ?_⟩
    have h := h.2
    have hO7 : Ob n 8 (p1.toNatClampNeg) := ob_1103 hz
    intro r5 e6
    have e6 := e6.trans (hR.el (x := 1103) ob_11 3 (by decide) rfl (by decide) (el_1103 hz))
    subst e6
    refine ⟨_, rfl, ?_⟩
    refine ⟨hR.K hO7, ?_⟩
    have a9 : sP σ (ad 8 (p1.toNatClampNeg)) 7 = some (ad 2 (p1.toNatClampNeg)) := hR.lk hO7 7 (by decide) rfl
    refine ⟨_, a9, ?_⟩
    refine ⟨hR.K (ob_807 hO7), ?_⟩
    refine y_X2_at hR (ob_807 hO7)  h (fun r17 q15 σ11 Y12 h hr16 hR14 f13 => ?_)
    have F := F.trans f13
    have hR := hR14
    exact yb_X11_entry_53 hQ  p3 s0 q15 _ _ hR F hr16 h
def by_X11_entry_28 (n : Nat)  (Qy : Int32 → Yc → Prop) (p1 : Int32) (p2 : Int32) (p3 : Int32) (Y : Yc) : Prop := by_X11_entry_29 n  Qy p1 p2 p3 (0 : Int32) Y
set_option maxHeartbeats 4000000 in
set_option maxRecDepth 100000 in
theorem yb_X11_entry_28 {n : Nat} {ad aa : Nat → Nat → Nat} {σ0 : Sto} {Q : Int32 → Sto → Prop} {Qy : Int32 → Yc → Prop} (hQ : ∀ (r : Int32) (σ' : Sto) (Y' : Yc), Qy r Y' → HY n ad aa σ' Y' → Fy n ad aa σ0 σ' → Q r σ')  (p1 : Int32) (p2 : Int32) (p3 : Int32) (σ : Sto) (Y : Yc) (hR : HY n ad aa σ Y) (F : Fy n ad aa σ0 σ) (h : by_X11_entry_28 n  Qy p1 p2 p3 Y) : b_X11_entry_28 (ad 11 0)  Q p1 p2 p3 σ := by
  unfold by_X11_entry_28 at h
  unfold b_X11_entry_28
  exact yb_X11_entry_29 hQ  p1 p2 p3 (0 : Int32) _ _ hR F  h
def wy_X11_entry (n : Nat) (p1 : Int32) (p2 : Int32) (p3 : Int32) (Y : Yc) (Qy : Int32 → Yc → Prop) : Prop := (wy_X11_isReplica n p1 Y (fun (x5 : Int32) (Y2 : Yc) => ((x5 = 0 → by_X11_entry_28 n  Qy p1 p2 p3 Y2) ∧ (¬ x5 = 0 → (vp_in p1 n ∧ (wy_X2_has n (p1.toNatClampNeg) p2 Y2 (fun (x22 : Int32) (Y19 : Yc) => ((x22 = 0 → by_X11_entry_28 n  Qy p1 p2 p3 Y19) ∧ (¬ x22 = 0 → by_X11_entry_29 n  Qy p1 p2 p3 (1 : Int32) Y19)))))))))
set_option maxHeartbeats 4000000 in
set_option maxRecDepth 100000 in
theorem y_X11_entry {n : Nat} {ad aa : Nat → Nat → Nat} {p1 : Int32} {p2 : Int32} {p3 : Int32} {σ : Sto} {Y : Yc} {Q : Int32 → Sto → Prop} {Qy : Int32 → Yc → Prop} (hR : HY n ad aa σ Y) (h : wy_X11_entry n p1 p2 p3 Y Qy) (hQ : ∀ (r : Int32) (σ' : Sto) (Y' : Yc), Qy r Y' → HY n ad aa σ' Y' → Fy n ad aa σ σ' → Q r σ') : wp_X11_entry (ad 11 0) p1 p2 p3 σ Q := by
  have F : Fy n ad aa σ σ := Fy.rf
  unfold wy_X11_entry at h
  unfold wp_X11_entry
  refine ⟨hR.K ob_11, ?_⟩
  refine y_X11_isReplica hR  h (fun x5 σ1 Y2 h hR4 f3 => ?_)
  have F := F.trans f3
  have hR := hR4
  refine ⟨fun c8 => ?_, fun c8 => ?_⟩
  · have h := h.1 c8
    exact yb_X11_entry_28 hQ  p1 p2 p3 _ _ hR F  h
  · have h := h.2 c8
    refine ⟨hR.K ob_11, ?_⟩
    have a9 : sP σ1 (ad 11 0) 3 = some (aa 1103 0) := hR.ar (x := 1103) ob_11 3 (by decide) rfl (by decide)
    refine ⟨_, a9, ?_⟩
    refine ⟨hR.arK (x := 1103) ob_11 3 (by decide) rfl (by decide), ?_⟩
    have hz := h.1
    refine ⟨by first | exact hR.arV (x := 1103) ob_11 3 (by decide) rfl (by decide) hz | exact hz, ?_⟩
    have h := h.2
    have hO14 : Ob n 8 (p1.toNatClampNeg) := ob_1103 hz
    intro r12 e13
    have e13 := e13.trans (hR.el (x := 1103) ob_11 3 (by decide) rfl (by decide) (el_1103 hz))
    subst e13
    refine ⟨_, rfl, ?_⟩
    refine ⟨hR.K hO14, ?_⟩
    have a16 : sP σ1 (ad 8 (p1.toNatClampNeg)) 7 = some (ad 2 (p1.toNatClampNeg)) := hR.lk hO14 7 (by decide) rfl
    refine ⟨_, a16, ?_⟩
    refine ⟨hR.K (ob_807 hO14), ?_⟩
    refine y_X2_has hR (ob_807 hO14)  h (fun x22 σ18 Y19 h hR21 f20 => ?_)
    have F := F.trans f20
    have hR := hR21
    refine ⟨fun c25 => ?_, fun c25 => ?_⟩
    · have h := h.1 c25
      exact yb_X11_entry_28 hQ  p1 p2 p3 _ _ hR F  h
    · have h := h.2 c25
      exact yb_X11_entry_29 hQ  p1 p2 p3 (1 : Int32) _ _ hR F  h
def wy_X11_word (n : Nat) (p1 : Int32) (p2 : Int32) (Y : Yc) (Qy : Int32 → Yc → Prop) : Prop := (wy_X11_isReplica n p1 Y (fun (x5 : Int32) (Y2 : Yc) => ((x5 = 0 → Qy (0 : Int32) Y2) ∧ (¬ x5 = 0 → ((p2 < 0 → Qy (0 : Int32) Y2) ∧ (¬ p2 < 0 → ((p2 < (8 : Int32) → (vp_in p1 n ∧ (vp_in p1 n ∧ (wy_X8_executedEnd n (p1.toNatClampNeg)  Y2 (fun (x30 : Int32) (Y27 : Yc) => (wy_X10_replay n (p1.toNatClampNeg) x30 Y27 (fun (Y35 : Yc) => (vp_in p2 8 ∧ (∀ x45 : Int32, x45 = yA Y35 1000 0 p2.toNatClampNeg → Qy x45 Y35))))))))) ∧ (¬ p2 < (8 : Int32) → Qy (0 : Int32) Y2))))))))
set_option maxHeartbeats 4000000 in
set_option maxRecDepth 100000 in
theorem y_X11_word {n : Nat} {ad aa : Nat → Nat → Nat} {p1 : Int32} {p2 : Int32} {σ : Sto} {Y : Yc} {Q : Int32 → Sto → Prop} {Qy : Int32 → Yc → Prop} (hR : HY n ad aa σ Y) (h : wy_X11_word n p1 p2 Y Qy) (hQ : ∀ (r : Int32) (σ' : Sto) (Y' : Yc), Qy r Y' → HY n ad aa σ' Y' → Fy n ad aa σ σ' → Q r σ') : wp_X11_word (ad 11 0) p1 p2 σ Q := by
  have F : Fy n ad aa σ σ := Fy.rf
  unfold wy_X11_word at h
  unfold wp_X11_word
  refine ⟨hR.K ob_11, ?_⟩
  refine y_X11_isReplica hR  h (fun x5 σ1 Y2 h hR4 f3 => ?_)
  have F := F.trans f3
  have hR := hR4
  refine ⟨fun c8 => ?_, fun c8 => ?_⟩
  · have h := h.1 c8
    exact hQ _ _ _ h hR F
  · have h := h.2 c8
    refine ⟨fun c9 => ?_, fun c9 => ?_⟩
    · have h := h.1 c9
      exact hQ _ _ _ h hR F
    · have h := h.2 c9
      refine ⟨fun c10 => ?_, fun c10 => ?_⟩
      · have h := h.1 c10
        refine ⟨hR.K ob_11, ?_⟩
        have a11 : sP σ1 (ad 11 0) 2 = some (ad 10 0) := hR.lk ob_11 2 (by decide) rfl
        have a12 : sP σ1 (ad 11 0) 3 = some (aa 1103 0) := hR.ar (x := 1103) ob_11 3 (by decide) rfl (by decide)
        refine ⟨_, a12, ?_⟩
        refine ⟨hR.arK (x := 1103) ob_11 3 (by decide) rfl (by decide), ?_⟩
        have hz := h.1
        refine ⟨by first | exact hR.arV (x := 1103) ob_11 3 (by decide) rfl (by decide) hz | exact hz, ?_⟩
        have h := h.2
        have hO17 : Ob n 8 (p1.toNatClampNeg) := ob_1103 hz
        intro r15 e16
        have e16 := e16.trans (hR.el (x := 1103) ob_11 3 (by decide) rfl (by decide) (el_1103 hz))
        subst e16
        refine ⟨_, rfl, ?_⟩
        refine ⟨hR.K hO17, ?_⟩
        have a19 : sP σ1 (ad 8 (p1.toNatClampNeg)) 7 = some (ad 2 (p1.toNatClampNeg)) := hR.lk hO17 7 (by decide) rfl
        have a20 : sP σ1 (ad 11 0) 3 = some (aa 1103 0) := hR.ar (x := 1103) ob_11 3 (by decide) rfl (by decide)
        have hz := h.1
        refine ⟨by first | exact hR.arV (x := 1103) ob_11 3 (by decide) rfl (by decide) hz | exact hz, ?_⟩
        have h := h.2
        have hO24 : Ob n 8 (p1.toNatClampNeg) := ob_1103 hz
        intro r22 e23
        have e23 := e23.trans (hR.el (x := 1103) ob_11 3 (by decide) rfl (by decide) (el_1103 hz))
        subst e23
        refine ⟨_, rfl, ?_⟩
        refine ⟨hR.K hO24, ?_⟩
        refine y_X8_executedEnd hR hO24  h (fun x30 σ26 Y27 h hR29 f28 => ?_)
        have F := F.trans f28
        have hR := hR29
        refine ⟨_, a11, ?_⟩
        refine ⟨hR.K ob_10, ?_⟩
        rw [a19]
        refine y_X10_replay hR (ob_807 hO17) h (fun σ34 Y35 h hR37 f36 => ?_)
        have F := F.trans f36
        have hR := hR37
        refine ⟨hR.K ob_11, ?_⟩
        have a41 : sP σ34 (ad 11 0) 2 = some (ad 10 0) := hR.lk ob_11 2 (by decide) rfl
        refine ⟨_, a41, ?_⟩
        refine ⟨hR.K ob_10, ?_⟩
        have a43 : sP σ34 (ad 10 0) 0 = some (aa 1000 0) := hR.ar (x := 1000) ob_10 0 (by decide) rfl (by decide)
        refine ⟨_, a43, ?_⟩
        refine ⟨hR.arK (x := 1000) ob_10 0 (by decide) rfl (by decide), ?_⟩
        have hz := h.1
        refine ⟨by first | exact hR.arV (x := 1000) ob_10 0 (by decide) rfl (by decide) hz | exact hz, ?_⟩
        have h := h.2
        intro x45 e46
        have e46 : x45 = yA Y35 1000 0 p2.toNatClampNeg := e46.trans (hR.A (x := 1000) ob_10 0 (by decide) rfl (by decide) _)
        have h := h x45 e46
        exact hQ _ _ _ h hR F
      · have h := h.2 c10
        exact hQ _ _ _ h hR F
def wy_X11_client (n : Nat) (p1 : Int32) (p2 : Int32) (Y : Yc) (Qy : Int32 → Yc → Prop) : Prop := (wy_X11_isClient n p1 Y (fun (x5 : Int32) (Y2 : Yc) => ((¬ x5 = 0 → (vp_in p1 4 ∧ ((¬ p2 = 0 → ((¬ p2 = (1 : Int32) → (∀ x18 : Int32, x18 = yI Y2 102 (p1.toNatClampNeg) → ((¬ x18 = 0 → Qy (-1 : Int32) Y2) ∧ (x18 = 0 → (∀ x21 : Int32, x21 = yI Y2 101 (p1.toNatClampNeg) → ((¬ x21 = 0 → ((p2.toInt < 2 ∨ 4 < p2.toInt → Qy (-1 : Int32) Y2) ∧ (p2 = (2 : Int32) → (∀ x27 : Int32, x27 = yI Y2 602 (p1.toNatClampNeg) → Qy x27 Y2)) ∧ (p2 = (3 : Int32) → (∀ y31 : Int64, y31 = yJ Y2 601 (p1.toNatClampNeg) → (wy_X11_leadOf n y31 Y2 (fun (x37 : Int32) (Y34 : Yc) => Qy x37 Y34)))) ∧ (p2 = (4 : Int32) → (∀ y42 : Int64, y42 = yJ Y2 601 (p1.toNatClampNeg) → (wy_X11_sessionOf n y42 Y2 (fun (x48 : Int32) (Y45 : Yc) => Qy x48 Y45)))))) ∧ (x21 = 0 → Qy (-1 : Int32) Y2))))))) ∧ (p2 = (1 : Int32) → (∀ x52 : Int32, x52 = yI Y2 102 (p1.toNatClampNeg) → ((x52 = 0 → (∀ x55 : Int32, x55 = yI Y2 101 (p1.toNatClampNeg) → ((x55 ≤ 0 → Qy (0 : Int32) Y2) ∧ (¬ x55 ≤ 0 → Qy (2 : Int32) Y2)))) ∧ (¬ x52 = 0 → Qy (1 : Int32) Y2)))))) ∧ (p2 = 0 → (∀ x59 : Int32, x59 = yI Y2 101 (p1.toNatClampNeg) → Qy x59 Y2))))) ∧ (x5 = 0 → Qy (-1 : Int32) Y2))))
set_option maxHeartbeats 4000000 in
set_option maxRecDepth 100000 in
theorem y_X11_client {n : Nat} {ad aa : Nat → Nat → Nat} {p1 : Int32} {p2 : Int32} {σ : Sto} {Y : Yc} {Q : Int32 → Sto → Prop} {Qy : Int32 → Yc → Prop} (hR : HY n ad aa σ Y) (h : wy_X11_client n p1 p2 Y Qy) (hQ : ∀ (r : Int32) (σ' : Sto) (Y' : Yc), Qy r Y' → HY n ad aa σ' Y' → Fy n ad aa σ σ' → Q r σ') : wp_X11_client (ad 11 0) p1 p2 σ Q := by
  have F : Fy n ad aa σ σ := Fy.rf
  unfold wy_X11_client at h
  unfold wp_X11_client
  refine ⟨hR.K ob_11, ?_⟩
  refine y_X11_isClient hR  h (fun x5 σ1 Y2 h hR4 f3 => ?_)
  have F := F.trans f3
  have hR := hR4
  refine ⟨fun c8 => ?_, fun c8 => ?_⟩
  · have h := h.1 c8
    refine ⟨hR.K ob_11, ?_⟩
    have a9 : sP σ1 (ad 11 0) 4 = some (aa 1104 0) := hR.ar (x := 1104) ob_11 4 (by decide) rfl (by decide)
    refine ⟨_, a9, ?_⟩
    refine ⟨hR.arK (x := 1104) ob_11 4 (by decide) rfl (by decide), ?_⟩
    have hz := h.1
    refine ⟨by first | exact hR.arV (x := 1104) ob_11 4 (by decide) rfl (by decide) hz | exact hz, ?_⟩
    have h := h.2
    have hO14 : Ob n 1 (p1.toNatClampNeg) := ob_1104 hz
    intro r12 e13
    have e13 := e13.trans (hR.el (x := 1104) ob_11 4 (by decide) rfl (by decide) (el_1104 hz))
    subst e13
    refine ⟨fun c15 => ?_, fun c15 => ?_⟩
    · have h := h.1 c15
      refine ⟨fun c16 => ?_, fun c16 => ?_⟩
      · have h := h.1 c16
        refine ⟨_, rfl, ?_⟩
        refine ⟨hR.K hO14, ?_⟩
        intro x18 e19
        have e19 : x18 = yI Y2 102 (p1.toNatClampNeg) := e19.trans (hR.I (x := 102) hO14 2 (by decide) rfl)
        have h := h x18 e19
        refine ⟨fun c20 => ?_, fun c20 => ?_⟩
        · have h := h.1 c20
          exact hQ _ _ _ h hR F
        · have h := h.2 c20
          intro x21 e22
          have e22 : x21 = yI Y2 101 (p1.toNatClampNeg) := e22.trans (hR.I (x := 101) hO14 1 (by decide) rfl)
          have h := h x21 e22
          refine ⟨fun c23 => ?_, fun c23 => ?_⟩
          · have h := h.1 c23
            refine ⟨fun c24 => ?_, fun c24 => ?_, fun c24 => ?_, fun c24 => ?_⟩
            · have h := h.1 c24
              exact hQ _ _ _ h hR F
            · have h := h.2.1 c24
              have a25 : sP σ1 (ad 1 (p1.toNatClampNeg)) 4 = some (ad 6 (p1.toNatClampNeg)) := hR.lk hO14 4 (by decide) rfl
              refine ⟨_, a25, ?_⟩
              refine ⟨hR.K (ob_104 hO14), ?_⟩
              intro x27 e28
              have e28 : x27 = yI Y2 602 (p1.toNatClampNeg) := e28.trans (hR.I (x := 602) (ob_104 hO14) 2 (by decide) rfl)
              have h := h x27 e28
              exact hQ _ _ _ h hR F
            · have h := h.2.2.1 c24
              have a29 : sP σ1 (ad 1 (p1.toNatClampNeg)) 4 = some (ad 6 (p1.toNatClampNeg)) := hR.lk hO14 4 (by decide) rfl
              refine ⟨_, a29, ?_⟩
              refine ⟨hR.K (ob_104 hO14), ?_⟩
              intro y31 e32
              have e32 : y31 = yJ Y2 601 (p1.toNatClampNeg) := e32.trans (hR.J (x := 601) (ob_104 hO14) 1 (by decide) rfl)
              have h := h y31 e32
              refine y_X11_leadOf hR  h (fun x37 σ33 Y34 h hR36 f35 => ?_)
              have F := F.trans f35
              have hR := hR36
              exact hQ _ _ _ h hR F
            · have h := h.2.2.2 c24
              have a40 : sP σ1 (ad 1 (p1.toNatClampNeg)) 4 = some (ad 6 (p1.toNatClampNeg)) := hR.lk hO14 4 (by decide) rfl
              refine ⟨_, a40, ?_⟩
              refine ⟨hR.K (ob_104 hO14), ?_⟩
              intro y42 e43
              have e43 : y42 = yJ Y2 601 (p1.toNatClampNeg) := e43.trans (hR.J (x := 601) (ob_104 hO14) 1 (by decide) rfl)
              have h := h y42 e43
              refine y_X11_sessionOf hR  h (fun x48 σ44 Y45 h hR47 f46 => ?_)
              have F := F.trans f46
              have hR := hR47
              exact hQ _ _ _ h hR F
          · have h := h.2 c23
            exact hQ _ _ _ h hR F
      · have h := h.2 c16
        refine ⟨_, rfl, ?_⟩
        refine ⟨hR.K hO14, ?_⟩
        intro x52 e53
        have e53 : x52 = yI Y2 102 (p1.toNatClampNeg) := e53.trans (hR.I (x := 102) hO14 2 (by decide) rfl)
        have h := h x52 e53
        refine ⟨fun c54 => ?_, fun c54 => ?_⟩
        · have h := h.1 c54
          intro x55 e56
          have e56 : x55 = yI Y2 101 (p1.toNatClampNeg) := e56.trans (hR.I (x := 101) hO14 1 (by decide) rfl)
          have h := h x55 e56
          refine ⟨fun c57 => ?_, fun c57 => ?_⟩
          · have h := h.1 c57
            exact hQ _ _ _ h hR F
          · have h := h.2 c57
            exact hQ _ _ _ h hR F
        · have h := h.2 c54
          exact hQ _ _ _ h hR F
    · have h := h.2 c15
      refine ⟨_, rfl, ?_⟩
      refine ⟨hR.K hO14, ?_⟩
      intro x59 e60
      have e60 : x59 = yI Y2 101 (p1.toNatClampNeg) := e60.trans (hR.I (x := 101) hO14 1 (by decide) rfl)
      have h := h x59 e60
      exact hQ _ _ _ h hR F
  · have h := h.2 c8
    exact hQ _ _ _ h hR F
def wy_X11_answer (n : Nat) (p1 : Int32) (Y : Yc) (Qy : Int32 → Yc → Prop) : Prop := (wy_X11_isClient n p1 Y (fun (x5 : Int32) (Y2 : Yc) => ((x5 = 0 → Qy (0 : Int32) Y2) ∧ (¬ x5 = 0 → (vp_in p1 4 ∧ (∀ x18 : Int32, x18 = yI Y2 604 (p1.toNatClampNeg) → Qy x18 Y2))))))
set_option maxHeartbeats 4000000 in
set_option maxRecDepth 100000 in
theorem y_X11_answer {n : Nat} {ad aa : Nat → Nat → Nat} {p1 : Int32} {σ : Sto} {Y : Yc} {Q : Int32 → Sto → Prop} {Qy : Int32 → Yc → Prop} (hR : HY n ad aa σ Y) (h : wy_X11_answer n p1 Y Qy) (hQ : ∀ (r : Int32) (σ' : Sto) (Y' : Yc), Qy r Y' → HY n ad aa σ' Y' → Fy n ad aa σ σ' → Q r σ') : wp_X11_answer (ad 11 0) p1 σ Q := by
  have F : Fy n ad aa σ σ := Fy.rf
  unfold wy_X11_answer at h
  unfold wp_X11_answer
  refine ⟨hR.K ob_11, ?_⟩
  refine y_X11_isClient hR  h (fun x5 σ1 Y2 h hR4 f3 => ?_)
  have F := F.trans f3
  have hR := hR4
  refine ⟨fun c8 => ?_, fun c8 => ?_⟩
  · have h := h.1 c8
    exact hQ _ _ _ h hR F
  · have h := h.2 c8
    refine ⟨hR.K ob_11, ?_⟩
    have a9 : sP σ1 (ad 11 0) 4 = some (aa 1104 0) := hR.ar (x := 1104) ob_11 4 (by decide) rfl (by decide)
    refine ⟨_, a9, ?_⟩
    refine ⟨hR.arK (x := 1104) ob_11 4 (by decide) rfl (by decide), ?_⟩
    have hz := h.1
    refine ⟨by first | exact hR.arV (x := 1104) ob_11 4 (by decide) rfl (by decide) hz | exact hz, ?_⟩
    have h := h.2
    have hO14 : Ob n 1 (p1.toNatClampNeg) := ob_1104 hz
    intro r12 e13
    have e13 := e13.trans (hR.el (x := 1104) ob_11 4 (by decide) rfl (by decide) (el_1104 hz))
    subst e13
    refine ⟨_, rfl, ?_⟩
    refine ⟨hR.K hO14, ?_⟩
    have a16 : sP σ1 (ad 1 (p1.toNatClampNeg)) 4 = some (ad 6 (p1.toNatClampNeg)) := hR.lk hO14 4 (by decide) rfl
    refine ⟨_, a16, ?_⟩
    refine ⟨hR.K (ob_104 hO14), ?_⟩
    intro x18 e19
    have e19 : x18 = yI Y2 604 (p1.toNatClampNeg) := e19.trans (hR.I (x := 604) (ob_104 hO14) 4 (by decide) rfl)
    have h := h x18 e19
    exact hQ _ _ _ h hR F
def wy_X11_about (n : Nat) (p1 : Int32) (Y : Yc) (Qy : Int32 → Yc → Prop) : Prop := ((p1.toInt < 0 ∨ 8 < p1.toInt → Qy (-1 : Int32) Y) ∧ (p1 = (0 : Int32) → (∀ x4 : Int32, x4 = yI Y 405 0 → Qy x4 Y)) ∧ (p1 = (1 : Int32) → (∀ x8 : Int32, x8 = yI Y 406 0 → Qy x8 Y)) ∧ (p1 = (2 : Int32) → (∀ x12 : Int32, x12 = yI Y 407 0 → Qy x12 Y)) ∧ (p1 = (3 : Int32) → (∀ x14 : Int32, x14 = yI Y 1105 0 → ((x14 = 0 → Qy (0 : Int32) Y) ∧ (¬ x14 = 0 → Qy (1 : Int32) Y)))) ∧ (p1 = (4 : Int32) → (∀ x17 : Int32, x17 = yI Y 1106 0 → Qy x17 Y)) ∧ (p1 = (5 : Int32) → (∀ x19 : Int32, x19 = yI Y 1107 0 → Qy x19 Y)) ∧ (p1 = (6 : Int32) → (∀ x21 : Int32, x21 = yI Y 1110 0 → Qy x21 Y)) ∧ (p1 = (7 : Int32) → (∀ x25 : Int32, x25 = yI Y 408 0 → Qy x25 Y)) ∧ (p1 = (8 : Int32) → (∀ x27 : Int32, x27 = yI Y 1100 0 → Qy x27 Y)))
set_option maxHeartbeats 4000000 in
set_option maxRecDepth 100000 in
theorem y_X11_about {n : Nat} {ad aa : Nat → Nat → Nat} {p1 : Int32} {σ : Sto} {Y : Yc} {Q : Int32 → Sto → Prop} {Qy : Int32 → Yc → Prop} (hR : HY n ad aa σ Y) (h : wy_X11_about n p1 Y Qy) (hQ : ∀ (r : Int32) (σ' : Sto) (Y' : Yc), Qy r Y' → HY n ad aa σ' Y' → Fy n ad aa σ σ' → Q r σ') : wp_X11_about (ad 11 0) p1 σ Q := by
  have F : Fy n ad aa σ σ := Fy.rf
  unfold wy_X11_about at h
  unfold wp_X11_about
  refine ⟨fun c1 => ?_, fun c1 => ?_, fun c1 => ?_, fun c1 => ?_, fun c1 => ?_, fun c1 => ?_, fun c1 => ?_, fun c1 => ?_, fun c1 => ?_, fun c1 => ?_⟩
  · have h := h.1 c1
    exact hQ _ _ _ h hR F
  · have h := h.2.1 c1
    refine ⟨hR.K ob_11, ?_⟩
    have a2 : sP σ (ad 11 0) 1 = some (ad 4 0) := hR.lk ob_11 1 (by decide) rfl
    refine ⟨_, a2, ?_⟩
    refine ⟨hR.K ob_4, ?_⟩
    intro x4 e5
    have e5 : x4 = yI Y 405 0 := e5.trans (hR.I (x := 405) ob_4 5 (by decide) rfl)
    have h := h x4 e5
    exact hQ _ _ _ h hR F
  · have h := h.2.2.1 c1
    refine ⟨hR.K ob_11, ?_⟩
    have a6 : sP σ (ad 11 0) 1 = some (ad 4 0) := hR.lk ob_11 1 (by decide) rfl
    refine ⟨_, a6, ?_⟩
    refine ⟨hR.K ob_4, ?_⟩
    intro x8 e9
    have e9 : x8 = yI Y 406 0 := e9.trans (hR.I (x := 406) ob_4 6 (by decide) rfl)
    have h := h x8 e9
    exact hQ _ _ _ h hR F
  · have h := h.2.2.2.1 c1
    refine ⟨hR.K ob_11, ?_⟩
    have a10 : sP σ (ad 11 0) 1 = some (ad 4 0) := hR.lk ob_11 1 (by decide) rfl
    refine ⟨_, a10, ?_⟩
    refine ⟨hR.K ob_4, ?_⟩
    intro x12 e13
    have e13 : x12 = yI Y 407 0 := e13.trans (hR.I (x := 407) ob_4 7 (by decide) rfl)
    have h := h x12 e13
    exact hQ _ _ _ h hR F
  · have h := h.2.2.2.2.1 c1
    refine ⟨hR.K ob_11, ?_⟩
    intro x14 e15
    have e15 : x14 = yI Y 1105 0 := e15.trans (hR.I (x := 1105) ob_11 5 (by decide) rfl)
    have h := h x14 e15
    refine ⟨fun c16 => ?_, fun c16 => ?_⟩
    · have h := h.1 c16
      exact hQ _ _ _ h hR F
    · have h := h.2 c16
      exact hQ _ _ _ h hR F
  · have h := h.2.2.2.2.2.1 c1
    refine ⟨hR.K ob_11, ?_⟩
    intro x17 e18
    have e18 : x17 = yI Y 1106 0 := e18.trans (hR.I (x := 1106) ob_11 6 (by decide) rfl)
    have h := h x17 e18
    exact hQ _ _ _ h hR F
  · have h := h.2.2.2.2.2.2.1 c1
    refine ⟨hR.K ob_11, ?_⟩
    intro x19 e20
    have e20 : x19 = yI Y 1107 0 := e20.trans (hR.I (x := 1107) ob_11 7 (by decide) rfl)
    have h := h x19 e20
    exact hQ _ _ _ h hR F
  · have h := h.2.2.2.2.2.2.2.1 c1
    refine ⟨hR.K ob_11, ?_⟩
    intro x21 e22
    have e22 : x21 = yI Y 1110 0 := e22.trans (hR.I (x := 1110) ob_11 10 (by decide) rfl)
    have h := h x21 e22
    exact hQ _ _ _ h hR F
  · have h := h.2.2.2.2.2.2.2.2.1 c1
    refine ⟨hR.K ob_11, ?_⟩
    have a23 : sP σ (ad 11 0) 1 = some (ad 4 0) := hR.lk ob_11 1 (by decide) rfl
    refine ⟨_, a23, ?_⟩
    refine ⟨hR.K ob_4, ?_⟩
    intro x25 e26
    have e26 : x25 = yI Y 408 0 := e26.trans (hR.I (x := 408) ob_4 8 (by decide) rfl)
    have h := h x25 e26
    exact hQ _ _ _ h hR F
  · have h := h.2.2.2.2.2.2.2.2.2 c1
    refine ⟨hR.K ob_11, ?_⟩
    intro x27 e28
    have e28 : x27 = yI Y 1100 0 := e28.trans (hR.I (x := 1100) ob_11 0 (by decide) rfl)
    have h := h x27 e28
    exact hQ _ _ _ h hR F
def wy_X11_message (n : Nat) (p1 : Int32) (p2 : Int32) (Y : Yc) (Qy : Int32 → Yc → Prop) : Prop := ((p1 < 0 → Qy (-1 : Int32) Y) ∧ (¬ p1 < 0 → (∀ x4 : Int32, x4 = yI Y 405 0 → ((p1 < x4 → (wy_X4_at n p1 Y (fun (o12 : Nat) (Y9 : Yc) => ((p2.toInt < 0 ∨ 3 < p2.toInt → Qy (-1 : Int32) Y9) ∧ (p2 = (0 : Int32) → (∀ x17 : Int32, x17 = yI Y9 300 o12 → Qy x17 Y9)) ∧ (p2 = (1 : Int32) → (∀ x20 : Int32, x20 = yI Y9 301 o12 → Qy x20 Y9)) ∧ (p2 = (2 : Int32) → (∀ x23 : Int32, x23 = yI Y9 302 o12 → Qy x23 Y9)) ∧ (p2 = (3 : Int32) → (∀ x26 : Int32, x26 = yI Y9 303 o12 → Qy x26 Y9)))))) ∧ (¬ p1 < x4 → Qy (-1 : Int32) Y)))))
set_option maxHeartbeats 4000000 in
set_option maxRecDepth 100000 in
theorem y_X11_message {n : Nat} {ad aa : Nat → Nat → Nat} {p1 : Int32} {p2 : Int32} {σ : Sto} {Y : Yc} {Q : Int32 → Sto → Prop} {Qy : Int32 → Yc → Prop} (hR : HY n ad aa σ Y) (h : wy_X11_message n p1 p2 Y Qy) (hQ : ∀ (r : Int32) (σ' : Sto) (Y' : Yc), Qy r Y' → HY n ad aa σ' Y' → Fy n ad aa σ σ' → Q r σ') : wp_X11_message (ad 11 0) p1 p2 σ Q := by
  have F : Fy n ad aa σ σ := Fy.rf
  unfold wy_X11_message at h
  unfold wp_X11_message
  refine ⟨fun c1 => ?_, fun c1 => ?_⟩
  · have h := h.1 c1
    exact hQ _ _ _ h hR F
  · have h := h.2 c1
    refine ⟨hR.K ob_11, ?_⟩
    have a2 : sP σ (ad 11 0) 1 = some (ad 4 0) := hR.lk ob_11 1 (by decide) rfl
    refine ⟨_, a2, ?_⟩
    refine ⟨hR.K ob_4, ?_⟩
    intro x4 e5
    have e5 : x4 = yI Y 405 0 := e5.trans (hR.I (x := 405) ob_4 5 (by decide) rfl)
    have h := h x4 e5
    refine ⟨fun c6 => ?_, fun c6 => ?_⟩
    · have h := h.1 c6
      have a7 : sP σ (ad 11 0) 1 = some (ad 4 0) := hR.lk ob_11 1 (by decide) rfl
      refine y_X4_at hR  h (fun o12 σ8 Y9 h hO13 hR11 f10 => ?_)
      have F := F.trans f10
      have hR := hR11
      refine ⟨fun c15 => ?_, fun c15 => ?_, fun c15 => ?_, fun c15 => ?_, fun c15 => ?_⟩
      · have h := h.1 c15
        exact hQ _ _ _ h hR F
      · have h := h.2.1 c15
        refine ⟨_, rfl, ?_⟩
        refine ⟨hR.K hO13, ?_⟩
        intro x17 e18
        have e18 : x17 = yI Y9 300 o12 := e18.trans (hR.I (x := 300) hO13 0 (by decide) rfl)
        have h := h x17 e18
        exact hQ _ _ _ h hR F
      · have h := h.2.2.1 c15
        refine ⟨_, rfl, ?_⟩
        refine ⟨hR.K hO13, ?_⟩
        intro x20 e21
        have e21 : x20 = yI Y9 301 o12 := e21.trans (hR.I (x := 301) hO13 1 (by decide) rfl)
        have h := h x20 e21
        exact hQ _ _ _ h hR F
      · have h := h.2.2.2.1 c15
        refine ⟨_, rfl, ?_⟩
        refine ⟨hR.K hO13, ?_⟩
        intro x23 e24
        have e24 : x23 = yI Y9 302 o12 := e24.trans (hR.I (x := 302) hO13 2 (by decide) rfl)
        have h := h x23 e24
        exact hQ _ _ _ h hR F
      · have h := h.2.2.2.2 c15
        refine ⟨_, rfl, ?_⟩
        refine ⟨hR.K hO13, ?_⟩
        intro x26 e27
        have e27 : x26 = yI Y9 303 o12 := e27.trans (hR.I (x := 303) hO13 3 (by decide) rfl)
        have h := h x26 e27
        exact hQ _ _ _ h hR F
    · have h := h.2 c6
      exact hQ _ _ _ h hR F
def wy_X11_wire (n : Nat) (p1 : Int32) (Y : Yc) (Qy : Int32 → Yc → Prop) : Prop := ((p1 < 0 → Qy (-1 : Int32) Y) ∧ (¬ p1 < 0 → (∀ x4 : Int32, x4 = yI Y 405 0 → ((p1 < x4 → (wy_X4_at n p1 Y (fun (o12 : Nat) (Y9 : Yc) => (wy_X3_write n o12 0 Y9 (fun (Y18 : Yc) => (∀ x26 : Int32, x26 = yI Y18 1 0 → Qy x26 Y18)))))) ∧ (¬ p1 < x4 → Qy (-1 : Int32) Y)))))
set_option maxHeartbeats 4000000 in
set_option maxRecDepth 100000 in
theorem y_X11_wire {n : Nat} {ad aa : Nat → Nat → Nat} {p1 : Int32} {σ : Sto} {Y : Yc} {Q : Int32 → Sto → Prop} {Qy : Int32 → Yc → Prop} (hR : HY n ad aa σ Y) (h : wy_X11_wire n p1 Y Qy) (hQ : ∀ (r : Int32) (σ' : Sto) (Y' : Yc), Qy r Y' → HY n ad aa σ' Y' → Fy n ad aa σ σ' → Q r σ') : wp_X11_wire (ad 11 0) p1 σ Q := by
  have F : Fy n ad aa σ σ := Fy.rf
  unfold wy_X11_wire at h
  unfold wp_X11_wire
  refine ⟨fun c1 => ?_, fun c1 => ?_⟩
  · have h := h.1 c1
    exact hQ _ _ _ h hR F
  · have h := h.2 c1
    refine ⟨hR.K ob_11, ?_⟩
    have a2 : sP σ (ad 11 0) 1 = some (ad 4 0) := hR.lk ob_11 1 (by decide) rfl
    refine ⟨_, a2, ?_⟩
    refine ⟨hR.K ob_4, ?_⟩
    intro x4 e5
    have e5 : x4 = yI Y 405 0 := e5.trans (hR.I (x := 405) ob_4 5 (by decide) rfl)
    have h := h x4 e5
    refine ⟨fun c6 => ?_, fun c6 => ?_⟩
    · have h := h.1 c6
      have a7 : sP σ (ad 11 0) 1 = some (ad 4 0) := hR.lk ob_11 1 (by decide) rfl
      refine y_X4_at hR  h (fun o12 σ8 Y9 h hO13 hR11 f10 => ?_)
      have F := F.trans f10
      have hR := hR11
      refine ⟨hR.K ob_11, ?_⟩
      have a15 : sP σ8 (ad 11 0) 11 = some (ad 0 0) := hR.lk ob_11 11 (by decide) rfl
      refine ⟨_, rfl, ?_⟩
      refine ⟨hR.K hO13, ?_⟩
      rw [a15]
      refine y_X3_write hR hO13 ob_b0 h (fun σ17 Y18 h hR20 f19 => ?_)
      have F := F.trans f19
      have hR := hR20
      refine ⟨hR.K ob_11, ?_⟩
      have a24 : sP σ17 (ad 11 0) 11 = some (ad 0 0) := hR.lk ob_11 11 (by decide) rfl
      refine ⟨_, a24, ?_⟩
      refine ⟨hR.K ob_b0, ?_⟩
      intro x26 e27
      have e27 : x26 = yI Y18 1 0 := e27.trans (hR.I (x := 1) ob_b0 1 (by decide) rfl)
      have h := h x26 e27
      exact hQ _ _ _ h hR F
    · have h := h.2 c6
      exact hQ _ _ _ h hR F
def fy_X11_image_51 (n : Nat)  (Qy : Int32 → Yc → Prop) (Xy : Nat → Yc → Prop) (Ly51 : Int32 × Int32 → Yc → Prop) (t : Int32 × Int32) (Y : Yc) : Prop := (((2560 : Int32) ≤ (t.2 * (512 : Int32)) → (∀ x4 : Int32, x4 = yI Y 1 0 → Qy x4 Y)) ∧ (¬ (2560 : Int32) ≤ (t.2 * (512 : Int32)) → (vp_in t.1 n ∧ (wy_X2_writeEntries n (t.1.toNatClampNeg) 0 ((t.2 - (1 : Int32)) * (25 : Int32)) Y (fun (Y17 : Yc) => (wy_X0_endBlock n 0 ((t.2 + (1 : Int32)) * (512 : Int32)) Y17 (fun (Y26 : Yc) => (∀ x32 : Int32, x32 = t.2 + (1 : Int32) → Ly51 (t.1, x32) Y26))))))))
set_option maxHeartbeats 4000000 in
set_option maxRecDepth 100000 in
theorem yf_X11_image_51 {n : Nat} {ad aa : Nat → Nat → Nat} {σ0 : Sto} {Q : Int32 → Sto → Prop} {Qy : Int32 → Yc → Prop} {X : Nat → Sto → Prop} {Xy : Nat → Yc → Prop} {Ly51 : Int32 × Int32 → Yc → Prop} {L51 : Int32 × Int32 → Sto → Prop} (hQ : ∀ (r : Int32) (σ' : Sto) (Y' : Yc), Qy r Y' → HY n ad aa σ' Y' → Fy n ad aa σ0 σ' → Q r σ') (hX : ∀ (n0 : Nat) (σ' : Sto) (Y' : Yc), Xy n0 Y' → HY n ad aa σ' Y' → Fy n ad aa σ0 σ' → X n0 σ') (hL51 : ∀ (t9 : Int32 × Int32) (t : Int32 × Int32) (σ : Sto) (Y : Yc), Ly51 t Y → HY n ad aa σ Y → Fy n ad aa σ0 σ → ((t.1, t.2) = t9 ∧ True) → L51 t9 σ) : ∀ (t9 : Int32 × Int32) (t : Int32 × Int32) (σ : Sto) (Y : Yc), HY n ad aa σ Y → Fy n ad aa σ0 σ → ((t.1, t.2) = t9 ∧ True) → fy_X11_image_51 n  Qy Xy Ly51 t Y → f_X11_image_51 (ad 11 0)  Q X L51 t9 σ := by
  intro t9 t σ Y hR F hT h
  obtain ⟨rfl, _⟩ := hT
  unfold fy_X11_image_51 at h
  unfold f_X11_image_51
  dsimp only
  refine ⟨fun c1 => ?_, fun c1 => ?_⟩
  · have h := h.1 c1
    refine ⟨hR.K ob_11, ?_⟩
    have a2 : sP σ (ad 11 0) 11 = some (ad 0 0) := hR.lk ob_11 11 (by decide) rfl
    refine ⟨_, a2, ?_⟩
    refine ⟨hR.K ob_b0, ?_⟩
    intro x4 e5
    have e5 : x4 = yI Y 1 0 := e5.trans (hR.I (x := 1) ob_b0 1 (by decide) rfl)
    have h := h x4 e5
    exact hQ _ _ _ h hR F
  · have h := h.2 c1
    refine ⟨hR.K ob_11, ?_⟩
    have a6 : sP σ (ad 11 0) 3 = some (aa 1103 0) := hR.ar (x := 1103) ob_11 3 (by decide) rfl (by decide)
    refine ⟨_, a6, ?_⟩
    refine ⟨hR.arK (x := 1103) ob_11 3 (by decide) rfl (by decide), ?_⟩
    have hz := h.1
    refine ⟨by first | exact hR.arV (x := 1103) ob_11 3 (by decide) rfl (by decide) hz | exact hz, ?_⟩
    have h := h.2
    have hO11 : Ob n 8 (t.1.toNatClampNeg) := ob_1103 hz
    intro r9 e10
    have e10 := e10.trans (hR.el (x := 1103) ob_11 3 (by decide) rfl (by decide) (el_1103 hz))
    subst e10
    refine ⟨_, rfl, ?_⟩
    refine ⟨hR.K hO11, ?_⟩
    have a13 : sP σ (ad 8 (t.1.toNatClampNeg)) 7 = some (ad 2 (t.1.toNatClampNeg)) := hR.lk hO11 7 (by decide) rfl
    have a14 : sP σ (ad 11 0) 11 = some (ad 0 0) := hR.lk ob_11 11 (by decide) rfl
    refine ⟨_, a13, ?_⟩
    refine ⟨hR.K (ob_807 hO11), ?_⟩
    rw [a14]
    refine y_X2_writeEntries hR (ob_807 hO11) ob_b0 h (fun σ16 Y17 h hR19 f18 => ?_)
    have F := F.trans f18
    have hR := hR19
    refine ⟨hR.K ob_11, ?_⟩
    have a23 : sP σ16 (ad 11 0) 11 = some (ad 0 0) := hR.lk ob_11 11 (by decide) rfl
    refine ⟨_, a23, ?_⟩
    refine ⟨hR.K ob_b0, ?_⟩
    refine y_X0_endBlock hR ob_b0  h (fun σ25 Y26 h hR28 f27 => ?_)
    have F := F.trans f27
    have hR := hR28
    intro x32 e33
    have h := h x32 e33
    exact hL51 _ _ _ _ h hR F ⟨rfl, trivial⟩
def wy_X11_image (n : Nat) (p1 : Int32) (Y : Yc) (Qy : Int32 → Yc → Prop) (Xy : Nat → Yc → Prop) : Prop := (wy_X11_isReplica n p1 Y (fun (x5 : Int32) (Y2 : Yc) => ((¬ x5 = 0 → (vp_in p1 n ∧ (wy_X8_writeHead n (p1.toNatClampNeg) 0 (uI Y2 1 0 (0 : Int32)) (fun (Y21 : Yc) => (wy_X0_endBlock n 0 (512 : Int32) Y21 (fun (Y30 : Yc) => LFy (fy_X11_image_51 n  Qy Xy) (p1, (1 : Int32)) Y30)))))) ∧ (x5 = 0 → Xy 0 Y2))))
set_option maxHeartbeats 4000000 in
set_option maxRecDepth 100000 in
theorem y_X11_image {n : Nat} {ad aa : Nat → Nat → Nat} {p1 : Int32} {σ : Sto} {Y : Yc} {Q : Int32 → Sto → Prop} {Qy : Int32 → Yc → Prop} {X : Nat → Sto → Prop} {Xy : Nat → Yc → Prop} (hR : HY n ad aa σ Y) (h : wy_X11_image n p1 Y Qy Xy) (hQ : ∀ (r : Int32) (σ' : Sto) (Y' : Yc), Qy r Y' → HY n ad aa σ' Y' → Fy n ad aa σ σ' → Q r σ') (hX : ∀ (n0 : Nat) (σ' : Sto) (Y' : Yc), Xy n0 Y' → HY n ad aa σ' Y' → Fy n ad aa σ σ' → X n0 σ') : wp_X11_image (ad 11 0) p1 σ Q X := by
  have F : Fy n ad aa σ σ := Fy.rf
  unfold wy_X11_image at h
  unfold wp_X11_image
  refine ⟨hR.K ob_11, ?_⟩
  refine y_X11_isReplica hR  h (fun x5 σ1 Y2 h hR4 f3 => ?_)
  have F := F.trans f3
  have hR := hR4
  refine ⟨fun c8 => ?_, fun c8 => ?_⟩
  · have h := h.1 c8
    refine ⟨hR.K ob_11, ?_⟩
    have a9 : sP σ1 (ad 11 0) 11 = some (ad 0 0) := hR.lk ob_11 11 (by decide) rfl
    refine ⟨_, a9, ?_⟩
    refine ⟨hR.K ob_b0, ?_⟩
    have w11 := hR.wI (x := 1) ob_b0 1 (by decide) rfl (0 : Int32)
    have F := F.trans w11.2
    have hR := w11.1
    have a12 : sP σ1 (ad 11 0) 3 = some (aa 1103 0) := hR.ar (x := 1103) ob_11 3 (by decide) rfl (by decide)
    refine ⟨_, a12, ?_⟩
    refine ⟨hR.arK (x := 1103) ob_11 3 (by decide) rfl (by decide), ?_⟩
    have hz := h.1
    refine ⟨by first | exact hR.arV (x := 1103) ob_11 3 (by decide) rfl (by decide) hz | exact hz, ?_⟩
    have h := h.2
    have hO17 : Ob n 8 (p1.toNatClampNeg) := ob_1103 hz
    intro r15 e16
    have e16 := e16.trans (hR.el (x := 1103) ob_11 3 (by decide) rfl (by decide) (el_1103 hz))
    subst e16
    have a18 : sP σ1 (ad 11 0) 11 = some (ad 0 0) := hR.lk ob_11 11 (by decide) rfl
    refine ⟨_, rfl, ?_⟩
    refine ⟨hR.K hO17, ?_⟩
    rw [a18]
    refine y_X8_writeHead hR hO17 ob_b0 h (fun σ20 Y21 h hR23 f22 => ?_)
    have F := F.trans f22
    have hR := hR23
    refine ⟨hR.K ob_11, ?_⟩
    have a27 : sP σ20 (ad 11 0) 11 = some (ad 0 0) := hR.lk ob_11 11 (by decide) rfl
    refine ⟨_, a27, ?_⟩
    refine ⟨hR.K ob_b0, ?_⟩
    refine y_X0_endBlock hR ob_b0  h (fun σ29 Y30 h hR32 f31 => ?_)
    have F := F.trans f31
    have hR := hR32
    exact lfy (fun σ t9 t => (t.1, t.2) = t9 ∧ True) h hR F ⟨rfl, trivial⟩ (fun Ly L hL t9 t σ Y hR F hT h => yf_X11_image_51 hQ hX  hL t9 t σ Y hR F hT h)
  · have h := h.2 c8
    exact hX _ _ _ h hR F
def wy_X11_output (n : Nat) (p1 : Int32) (Y : Yc) (Qy : Int32 → Yc → Prop) : Prop := (wy_X0_at n 0 p1 Y (fun (x7 : Int32) (Y4 : Yc) => Qy x7 Y4))
set_option maxHeartbeats 4000000 in
set_option maxRecDepth 100000 in
theorem y_X11_output {n : Nat} {ad aa : Nat → Nat → Nat} {p1 : Int32} {σ : Sto} {Y : Yc} {Q : Int32 → Sto → Prop} {Qy : Int32 → Yc → Prop} (hR : HY n ad aa σ Y) (h : wy_X11_output n p1 Y Qy) (hQ : ∀ (r : Int32) (σ' : Sto) (Y' : Yc), Qy r Y' → HY n ad aa σ' Y' → Fy n ad aa σ σ' → Q r σ') : wp_X11_output (ad 11 0) p1 σ Q := by
  have F : Fy n ad aa σ σ := Fy.rf
  unfold wy_X11_output at h
  unfold wp_X11_output
  refine ⟨hR.K ob_11, ?_⟩
  have a1 : sP σ (ad 11 0) 11 = some (ad 0 0) := hR.lk ob_11 11 (by decide) rfl
  refine ⟨_, a1, ?_⟩
  refine ⟨hR.K ob_b0, ?_⟩
  refine y_X0_at hR ob_b0  h (fun x7 σ3 Y4 h hR6 f5 => ?_)
  have F := F.trans f5
  have hR := hR6
  exact hQ _ _ _ h hR F
def fy_X11_put_35 (n : Nat)  (Qy : Int32 → Yc → Prop) (Ly35 : Int64 × Int32 → Yc → Prop) (t : Int64 × Int32) (Y : Yc) : Prop := ((t.2 < 0 → Qy (1 : Int32) Y) ∧ (¬ t.2 < 0 → (wy_X0_add n 1 (((t.1.toUInt64 >>> (t.2.toInt64.toUInt64 &&& Int64.toUInt64 63)).toInt64).toInt32) Y (fun (Y5 : Yc) => (∀ x11 : Int32, x11 = t.2 + (-8 : Int32) → Ly35 (t.1, x11) Y5)))))
set_option maxHeartbeats 4000000 in
set_option maxRecDepth 100000 in
theorem yf_X11_put_35 {n : Nat} {ad aa : Nat → Nat → Nat} {σ0 : Sto} {Q : Int32 → Sto → Prop} {Qy : Int32 → Yc → Prop} {Ly35 : Int64 × Int32 → Yc → Prop} {L35 : Int64 × Int32 → Sto → Prop} (hQ : ∀ (r : Int32) (σ' : Sto) (Y' : Yc), Qy r Y' → HY n ad aa σ' Y' → Fy n ad aa σ0 σ' → Q r σ') (hL35 : ∀ (t9 : Int64 × Int32) (t : Int64 × Int32) (σ : Sto) (Y : Yc), Ly35 t Y → HY n ad aa σ Y → Fy n ad aa σ0 σ → ((t.1, t.2) = t9 ∧ True) → L35 t9 σ) : ∀ (t9 : Int64 × Int32) (t : Int64 × Int32) (σ : Sto) (Y : Yc), HY n ad aa σ Y → Fy n ad aa σ0 σ → ((t.1, t.2) = t9 ∧ True) → fy_X11_put_35 n  Qy Ly35 t Y → f_X11_put_35 (ad 11 0)  Q L35 t9 σ := by
  intro t9 t σ Y hR F hT h
  obtain ⟨rfl, _⟩ := hT
  unfold fy_X11_put_35 at h
  unfold f_X11_put_35
  dsimp only
  refine ⟨fun c1 => ?_, fun c1 => ?_⟩
  · have h := h.1 c1
    exact hQ _ _ _ h hR F
  · have h := h.2 c1
    refine ⟨hR.K ob_11, ?_⟩
    have a2 : sP σ (ad 11 0) 12 = some (ad 0 1) := hR.lk ob_11 12 (by decide) rfl
    refine ⟨_, a2, ?_⟩
    refine ⟨hR.K ob_b1, ?_⟩
    refine y_X0_add hR ob_b1  h (fun σ4 Y5 h hR7 f6 => ?_)
    have F := F.trans f6
    have hR := hR7
    intro x11 e12
    have h := h x11 e12
    exact hL35 _ _ _ _ h hR F ⟨rfl, trivial⟩
def wy_X11_put (n : Nat) (p1 : Int64) (p3 : Int32) (Y : Yc) (Qy : Int32 → Yc → Prop) : Prop := ((p3 < 0 → Qy (0 : Int32) Y) ∧ (¬ p3 < 0 → (((8 : Int32) < p3 → Qy (0 : Int32) Y) ∧ (¬ (8 : Int32) < p3 → (∀ x5 : Int32, x5 = yI Y 1 1 → (((x5 + p3) ≤ (1500 : Int32) → (∀ x8 : Int32, x8 = (8 : Int32) * (p3 - (1 : Int32)) → LFy (fy_X11_put_35 n  Qy) (p1, x8) Y)) ∧ (¬ (x5 + p3) ≤ (1500 : Int32) → Qy (0 : Int32) Y)))))))
set_option maxHeartbeats 4000000 in
set_option maxRecDepth 100000 in
theorem y_X11_put {n : Nat} {ad aa : Nat → Nat → Nat} {p1 : Int64} {p3 : Int32} {σ : Sto} {Y : Yc} {Q : Int32 → Sto → Prop} {Qy : Int32 → Yc → Prop} (hR : HY n ad aa σ Y) (h : wy_X11_put n p1 p3 Y Qy) (hQ : ∀ (r : Int32) (σ' : Sto) (Y' : Yc), Qy r Y' → HY n ad aa σ' Y' → Fy n ad aa σ σ' → Q r σ') : wp_X11_put (ad 11 0) p1 p3 σ Q := by
  have F : Fy n ad aa σ σ := Fy.rf
  unfold wy_X11_put at h
  unfold wp_X11_put
  refine ⟨fun c1 => ?_, fun c1 => ?_⟩
  · have h := h.1 c1
    exact hQ _ _ _ h hR F
  · have h := h.2 c1
    refine ⟨fun c2 => ?_, fun c2 => ?_⟩
    · have h := h.1 c2
      exact hQ _ _ _ h hR F
    · have h := h.2 c2
      refine ⟨hR.K ob_11, ?_⟩
      have a3 : sP σ (ad 11 0) 12 = some (ad 0 1) := hR.lk ob_11 12 (by decide) rfl
      refine ⟨_, a3, ?_⟩
      refine ⟨hR.K ob_b1, ?_⟩
      intro x5 e6
      have e6 : x5 = yI Y 1 1 := e6.trans (hR.I (x := 1) ob_b1 1 (by decide) rfl)
      have h := h x5 e6
      refine ⟨fun c7 => ?_, fun c7 => ?_⟩
      · have h := h.1 c7
        intro x8 e9
        have h := h x8 e9
        exact lfy (fun σ t9 t => (t.1, t.2) = t9 ∧ True) h hR F ⟨rfl, trivial⟩ (fun Ly L hL t9 t σ Y hR F hT h => yf_X11_put_35 hQ  hL t9 t σ Y hR F hT h)
      · have h := h.2 c7
        exact hQ _ _ _ h hR F
def wy_X11_take (n : Nat) (p1 : Int32) (p2 : Int32) (Y : Yc) (Qy : Int32 → Yc → Prop) : Prop := (wy_X0_become n 1 0 Y (fun (Y5 : Yc) => ((p2 < 0 → (∀ x14 : Int32, x14 = yI Y5 1 1 → Qy x14 Y5)) ∧ (¬ p2 < 0 → (((7 : Int32) < p2 → (∀ x19 : Int32, x19 = yI Y5 1 1 → Qy x19 Y5)) ∧ (¬ (7 : Int32) < p2 → (wy_X0_turnBit n 1 p1 p2 Y5 (fun (Y24 : Yc) => (∀ x32 : Int32, x32 = yI Y24 1 1 → Qy x32 Y24)))))))))
set_option maxHeartbeats 4000000 in
set_option maxRecDepth 100000 in
theorem y_X11_take {n : Nat} {ad aa : Nat → Nat → Nat} {p1 : Int32} {p2 : Int32} {σ : Sto} {Y : Yc} {Q : Int32 → Sto → Prop} {Qy : Int32 → Yc → Prop} (hR : HY n ad aa σ Y) (h : wy_X11_take n p1 p2 Y Qy) (hQ : ∀ (r : Int32) (σ' : Sto) (Y' : Yc), Qy r Y' → HY n ad aa σ' Y' → Fy n ad aa σ σ' → Q r σ') : wp_X11_take (ad 11 0) p1 p2 σ Q := by
  have F : Fy n ad aa σ σ := Fy.rf
  unfold wy_X11_take at h
  unfold wp_X11_take
  refine ⟨hR.K ob_11, ?_⟩
  have a1 : sP σ (ad 11 0) 12 = some (ad 0 1) := hR.lk ob_11 12 (by decide) rfl
  have a2 : sP σ (ad 11 0) 11 = some (ad 0 0) := hR.lk ob_11 11 (by decide) rfl
  refine ⟨_, a1, ?_⟩
  refine ⟨hR.K ob_b1, ?_⟩
  rw [a2]
  refine y_X0_become hR ob_b1 ob_b0 h (fun σ4 Y5 h hR7 f6 => ?_)
  have F := F.trans f6
  have hR := hR7
  refine ⟨fun c11 => ?_, fun c11 => ?_⟩
  · have h := h.1 c11
    refine ⟨hR.K ob_11, ?_⟩
    have a12 : sP σ4 (ad 11 0) 12 = some (ad 0 1) := hR.lk ob_11 12 (by decide) rfl
    refine ⟨_, a12, ?_⟩
    refine ⟨hR.K ob_b1, ?_⟩
    intro x14 e15
    have e15 : x14 = yI Y5 1 1 := e15.trans (hR.I (x := 1) ob_b1 1 (by decide) rfl)
    have h := h x14 e15
    exact hQ _ _ _ h hR F
  · have h := h.2 c11
    refine ⟨fun c16 => ?_, fun c16 => ?_⟩
    · have h := h.1 c16
      refine ⟨hR.K ob_11, ?_⟩
      have a17 : sP σ4 (ad 11 0) 12 = some (ad 0 1) := hR.lk ob_11 12 (by decide) rfl
      refine ⟨_, a17, ?_⟩
      refine ⟨hR.K ob_b1, ?_⟩
      intro x19 e20
      have e20 : x19 = yI Y5 1 1 := e20.trans (hR.I (x := 1) ob_b1 1 (by decide) rfl)
      have h := h x19 e20
      exact hQ _ _ _ h hR F
    · have h := h.2 c16
      refine ⟨hR.K ob_11, ?_⟩
      have a21 : sP σ4 (ad 11 0) 12 = some (ad 0 1) := hR.lk ob_11 12 (by decide) rfl
      refine ⟨_, a21, ?_⟩
      refine ⟨hR.K ob_b1, ?_⟩
      refine y_X0_turnBit hR ob_b1  h (fun σ23 Y24 h hR26 f25 => ?_)
      have F := F.trans f25
      have hR := hR26
      refine ⟨hR.K ob_11, ?_⟩
      have a30 : sP σ23 (ad 11 0) 12 = some (ad 0 1) := hR.lk ob_11 12 (by decide) rfl
      refine ⟨_, a30, ?_⟩
      refine ⟨hR.K ob_b1, ?_⟩
      intro x32 e33
      have e33 : x32 = yI Y24 1 1 := e33.trans (hR.I (x := 1) ob_b1 1 (by decide) rfl)
      have h := h x32 e33
      exact hQ _ _ _ h hR F
def wy_X11_untake (n : Nat)  (Y : Yc) (Qy : Int32 → Yc → Prop) (Xy : Nat → Yc → Prop) : Prop := (wy_X7_read n  Y (fun (Y4 : Yc) => (∀ x12 : Int32, x12 = yI Y4 703 0 → ((x12 = 0 → (wy_X7_at n (0 : Int32) Y4 (fun (x20 : Int32) (Y17 : Yc) => Qy x20 Y17))) ∧ (¬ x12 = 0 → Xy 1 Y4)))))
set_option maxHeartbeats 4000000 in
set_option maxRecDepth 100000 in
theorem y_X11_untake {n : Nat} {ad aa : Nat → Nat → Nat} {σ : Sto} {Y : Yc} {Q : Int32 → Sto → Prop} {Qy : Int32 → Yc → Prop} {X : Nat → Sto → Prop} {Xy : Nat → Yc → Prop} (hR : HY n ad aa σ Y) (h : wy_X11_untake n  Y Qy Xy) (hQ : ∀ (r : Int32) (σ' : Sto) (Y' : Yc), Qy r Y' → HY n ad aa σ' Y' → Fy n ad aa σ σ' → Q r σ') (hX : ∀ (n0 : Nat) (σ' : Sto) (Y' : Yc), Xy n0 Y' → HY n ad aa σ' Y' → Fy n ad aa σ σ' → X n0 σ') : wp_X11_untake (ad 11 0)  σ Q X := by
  have F : Fy n ad aa σ σ := Fy.rf
  unfold wy_X11_untake at h
  unfold wp_X11_untake
  refine ⟨hR.K ob_11, ?_⟩
  have a1 : sP σ (ad 11 0) 13 = some (ad 7 0) := hR.lk ob_11 13 (by decide) rfl
  refine ⟨_, a1, ?_⟩
  refine ⟨hR.K ob_7, ?_⟩
  refine y_X7_read hR  h (fun σ3 Y4 h hR6 f5 => ?_)
  have F := F.trans f5
  have hR := hR6
  refine ⟨hR.K ob_11, ?_⟩
  have a10 : sP σ3 (ad 11 0) 13 = some (ad 7 0) := hR.lk ob_11 13 (by decide) rfl
  refine ⟨_, a10, ?_⟩
  refine ⟨hR.K ob_7, ?_⟩
  intro x12 e13
  have e13 : x12 = yI Y4 703 0 := e13.trans (hR.I (x := 703) ob_7 3 (by decide) rfl)
  have h := h x12 e13
  refine ⟨fun c14 => ?_, fun c14 => ?_⟩
  · have h := h.1 c14
    have a15 : sP σ3 (ad 11 0) 13 = some (ad 7 0) := hR.lk ob_11 13 (by decide) rfl
    refine y_X7_at hR  h (fun x20 σ16 Y17 h hR19 f18 => ?_)
    have F := F.trans f18
    have hR := hR19
    exact hQ _ _ _ h hR F
  · have h := h.2 c14
    exact hX _ _ _ h hR F
def wy_X11_fault (n : Nat) (p1 : Int32) (Y : Yc) (Qy : Int32 → Yc → Prop) : Prop := ((p1 = (0 : Int32) → (∀ x4 : Int32, x4 = yI Y 703 0 → Qy x4 Y)) ∧ (p1 = (1 : Int32) → (∀ x8 : Int32, x8 = yI Y 704 0 → Qy x8 Y)) ∧ (¬ p1 = (0 : Int32) ∧ ¬ p1 = (1 : Int32) → Qy (-1 : Int32) Y))
set_option maxHeartbeats 4000000 in
set_option maxRecDepth 100000 in
theorem y_X11_fault {n : Nat} {ad aa : Nat → Nat → Nat} {p1 : Int32} {σ : Sto} {Y : Yc} {Q : Int32 → Sto → Prop} {Qy : Int32 → Yc → Prop} (hR : HY n ad aa σ Y) (h : wy_X11_fault n p1 Y Qy) (hQ : ∀ (r : Int32) (σ' : Sto) (Y' : Yc), Qy r Y' → HY n ad aa σ' Y' → Fy n ad aa σ σ' → Q r σ') : wp_X11_fault (ad 11 0) p1 σ Q := by
  have F : Fy n ad aa σ σ := Fy.rf
  unfold wy_X11_fault at h
  unfold wp_X11_fault
  refine ⟨fun c1 => ?_, fun c1 => ?_, fun c1 => ?_⟩
  · have h := h.1 c1
    refine ⟨hR.K ob_11, ?_⟩
    have a2 : sP σ (ad 11 0) 13 = some (ad 7 0) := hR.lk ob_11 13 (by decide) rfl
    refine ⟨_, a2, ?_⟩
    refine ⟨hR.K ob_7, ?_⟩
    intro x4 e5
    have e5 : x4 = yI Y 703 0 := e5.trans (hR.I (x := 703) ob_7 3 (by decide) rfl)
    have h := h x4 e5
    exact hQ _ _ _ h hR F
  · have h := h.2.1 c1
    refine ⟨hR.K ob_11, ?_⟩
    have a6 : sP σ (ad 11 0) 13 = some (ad 7 0) := hR.lk ob_11 13 (by decide) rfl
    refine ⟨_, a6, ?_⟩
    refine ⟨hR.K ob_7, ?_⟩
    intro x8 e9
    have e9 : x8 = yI Y 704 0 := e9.trans (hR.I (x := 704) ob_7 4 (by decide) rfl)
    have h := h x8 e9
    exact hQ _ _ _ h hR F
  · have h := h.2.2 c1
    exact hQ _ _ _ h hR F
def wy_X11_told (n : Nat) (p1 : Int32) (Y : Yc) (Qy : Int32 → Yc → Prop) : Prop := (wy_X7_at n p1 Y (fun (x7 : Int32) (Y4 : Yc) => Qy x7 Y4))
set_option maxHeartbeats 4000000 in
set_option maxRecDepth 100000 in
theorem y_X11_told {n : Nat} {ad aa : Nat → Nat → Nat} {p1 : Int32} {σ : Sto} {Y : Yc} {Q : Int32 → Sto → Prop} {Qy : Int32 → Yc → Prop} (hR : HY n ad aa σ Y) (h : wy_X11_told n p1 Y Qy) (hQ : ∀ (r : Int32) (σ' : Sto) (Y' : Yc), Qy r Y' → HY n ad aa σ' Y' → Fy n ad aa σ σ' → Q r σ') : wp_X11_told (ad 11 0) p1 σ Q := by
  have F : Fy n ad aa σ σ := Fy.rf
  unfold wy_X11_told at h
  unfold wp_X11_told
  refine ⟨hR.K ob_11, ?_⟩
  have a1 : sP σ (ad 11 0) 13 = some (ad 7 0) := hR.lk ob_11 13 (by decide) rfl
  refine ⟨_, a1, ?_⟩
  refine ⟨hR.K ob_7, ?_⟩
  refine y_X7_at hR  h (fun x7 σ3 Y4 h hR6 f5 => ?_)
  have F := F.trans f5
  have hR := hR6
  exact hQ _ _ _ h hR F
def wy_X11_tolds (n : Nat)  (Y : Yc) (Qy : Int32 → Yc → Prop) : Prop := (∀ x3 : Int32, x3 = yI Y 702 0 → Qy x3 Y)
set_option maxHeartbeats 4000000 in
set_option maxRecDepth 100000 in
theorem y_X11_tolds {n : Nat} {ad aa : Nat → Nat → Nat} {σ : Sto} {Y : Yc} {Q : Int32 → Sto → Prop} {Qy : Int32 → Yc → Prop} (hR : HY n ad aa σ Y) (h : wy_X11_tolds n  Y Qy) (hQ : ∀ (r : Int32) (σ' : Sto) (Y' : Yc), Qy r Y' → HY n ad aa σ' Y' → Fy n ad aa σ σ' → Q r σ') : wp_X11_tolds (ad 11 0)  σ Q := by
  have F : Fy n ad aa σ σ := Fy.rf
  unfold wy_X11_tolds at h
  unfold wp_X11_tolds
  refine ⟨hR.K ob_11, ?_⟩
  have a1 : sP σ (ad 11 0) 13 = some (ad 7 0) := hR.lk ob_11 13 (by decide) rfl
  refine ⟨_, a1, ?_⟩
  refine ⟨hR.K ob_7, ?_⟩
  intro x3 e4
  have e4 : x3 = yI Y 702 0 := e4.trans (hR.I (x := 702) ob_7 2 (by decide) rfl)
  have h := h x3 e4
  exact hQ _ _ _ h hR F
def by_X11_judge_104 (n : Nat)  (Ly20 : Nat × Int32 × Int32 → Yc → Prop) (Qy : Yc → Prop) (p1 : Nat) (p2 : Int32) (p3 : Int32) (Y : Yc) : Prop := (∀ x1 : Int32, x1 = p3 + (1 : Int32) → Ly20 (p1, p2, x1) Y)
set_option maxHeartbeats 4000000 in
set_option maxRecDepth 100000 in
theorem yb_X11_judge_104 {n : Nat} {ad aa : Nat → Nat → Nat} {σ0 : Sto} {Ly20 : Nat × Int32 × Int32 → Yc → Prop} {L20 : Option Nat × Int32 × Int32 → Sto → Prop} {Q : Sto → Prop} {Qy : Yc → Prop} (hQ : ∀ (σ' : Sto) (Y' : Yc), Qy Y' → HY n ad aa σ' Y' → Fy n ad aa σ0 σ' → Q σ') (hL20 : ∀ (t9 : Option Nat × Int32 × Int32) (t : Nat × Int32 × Int32) (σ : Sto) (Y : Yc), Ly20 t Y → HY n ad aa σ Y → Fy n ad aa σ0 σ → (((some (ad 8 t.1)), t.2.1, t.2.2) = t9 ∧ Ob n 8 t.1 ∧ True) → L20 t9 σ) (p1 : Nat) (p2 : Int32) (p3 : Int32) (σ : Sto) (Y : Yc) (hR : HY n ad aa σ Y) (F : Fy n ad aa σ0 σ) (hp1 : Ob n 8 p1) (h : by_X11_judge_104 n Ly20 Qy p1 p2 p3 Y) : b_X11_judge_104 (ad 11 0) L20 Q (some (ad 8 p1)) p2 p3 σ := by
  unfold by_X11_judge_104 at h
  unfold b_X11_judge_104
  intro x1 e2
  have h := h x1 e2
  exact hL20 _ _ _ _ h hR F ⟨rfl, hp1, trivial⟩
def by_X11_judge_75 (n : Nat)  (Ly20 : Nat × Int32 × Int32 → Yc → Prop) (Qy : Yc → Prop) (p1 : Nat) (p2 : Int32) (p3 : Int32) (p4 : Nat) (s0 : Int32) (Y : Yc) : Prop := ((s0 = 0 → by_X11_judge_104 n Ly20 Qy p1 p2 p3 Y) ∧ (¬ s0 = 0 → (wy_X10_keeps n p1 p4 Y (fun (x10 : Int32) (Y7 : Yc) => ((¬ x10 = 0 → by_X11_judge_104 n Ly20 Qy p1 p2 p3 Y7) ∧ (x10 = 0 → by_X11_judge_104 n Ly20 Qy p1 p2 p3 (uI Y7 605 p4 (1 : Int32))))))))
set_option maxHeartbeats 4000000 in
set_option maxRecDepth 100000 in
theorem yb_X11_judge_75 {n : Nat} {ad aa : Nat → Nat → Nat} {σ0 : Sto} {Ly20 : Nat × Int32 × Int32 → Yc → Prop} {L20 : Option Nat × Int32 × Int32 → Sto → Prop} {Q : Sto → Prop} {Qy : Yc → Prop} (hQ : ∀ (σ' : Sto) (Y' : Yc), Qy Y' → HY n ad aa σ' Y' → Fy n ad aa σ0 σ' → Q σ') (hL20 : ∀ (t9 : Option Nat × Int32 × Int32) (t : Nat × Int32 × Int32) (σ : Sto) (Y : Yc), Ly20 t Y → HY n ad aa σ Y → Fy n ad aa σ0 σ → (((some (ad 8 t.1)), t.2.1, t.2.2) = t9 ∧ Ob n 8 t.1 ∧ True) → L20 t9 σ) (p1 : Nat) (p2 : Int32) (p3 : Int32) (p4 : Nat) (s0 : Int32) (σ : Sto) (Y : Yc) (hR : HY n ad aa σ Y) (F : Fy n ad aa σ0 σ) (hp1 : Ob n 8 p1) (hp4 : Ob n 6 p4) (h : by_X11_judge_75 n Ly20 Qy p1 p2 p3 p4 s0 Y) : b_X11_judge_75 (ad 11 0) L20 Q (some (ad 8 p1)) p2 p3 (some (ad 6 p4)) s0 σ := by
  unfold by_X11_judge_75 at h
  unfold b_X11_judge_75
  refine ⟨fun c1 => ?_, fun c1 => ?_⟩
  · have h := h.1 c1
    exact yb_X11_judge_104 hQ hL20 p1 p2 p3 _ _ hR F hp1 h
  · have h := h.2 c1
    refine ⟨hR.K ob_11, ?_⟩
    have a2 : sP σ (ad 11 0) 2 = some (ad 10 0) := hR.lk ob_11 2 (by decide) rfl
    refine ⟨_, rfl, ?_⟩
    refine ⟨hR.K hp1, ?_⟩
    have a4 : sP σ (ad 8 p1) 7 = some (ad 2 p1) := hR.lk hp1 7 (by decide) rfl
    refine ⟨_, a2, ?_⟩
    refine ⟨hR.K ob_10, ?_⟩
    rw [a4]
    refine y_X10_keeps hR (ob_807 hp1) hp4 h (fun x10 σ6 Y7 h hR9 f8 => ?_)
    have F := F.trans f8
    have hR := hR9
    refine ⟨fun c13 => ?_, fun c13 => ?_⟩
    · have h := h.1 c13
      exact yb_X11_judge_104 hQ hL20 p1 p2 p3 _ _ hR F hp1 h
    · have h := h.2 c13
      refine ⟨_, rfl, ?_⟩
      refine ⟨hR.K hp4, ?_⟩
      have w15 := hR.wI (x := 605) hp4 5 (by decide) rfl (1 : Int32)
      have F := F.trans w15.2
      have hR := w15.1
      exact yb_X11_judge_104 hQ hL20 p1 p2 p3 _ _ hR F hp1 h
def by_X11_judge_70 (n : Nat)  (Ly20 : Nat × Int32 × Int32 → Yc → Prop) (Qy : Yc → Prop) (p1 : Nat) (p2 : Int32) (p3 : Int32) (p4 : Nat) (Y : Yc) : Prop := by_X11_judge_75 n Ly20 Qy p1 p2 p3 p4 (1 : Int32) Y
set_option maxHeartbeats 4000000 in
set_option maxRecDepth 100000 in
theorem yb_X11_judge_70 {n : Nat} {ad aa : Nat → Nat → Nat} {σ0 : Sto} {Ly20 : Nat × Int32 × Int32 → Yc → Prop} {L20 : Option Nat × Int32 × Int32 → Sto → Prop} {Q : Sto → Prop} {Qy : Yc → Prop} (hQ : ∀ (σ' : Sto) (Y' : Yc), Qy Y' → HY n ad aa σ' Y' → Fy n ad aa σ0 σ' → Q σ') (hL20 : ∀ (t9 : Option Nat × Int32 × Int32) (t : Nat × Int32 × Int32) (σ : Sto) (Y : Yc), Ly20 t Y → HY n ad aa σ Y → Fy n ad aa σ0 σ → (((some (ad 8 t.1)), t.2.1, t.2.2) = t9 ∧ Ob n 8 t.1 ∧ True) → L20 t9 σ) (p1 : Nat) (p2 : Int32) (p3 : Int32) (p4 : Nat) (σ : Sto) (Y : Yc) (hR : HY n ad aa σ Y) (F : Fy n ad aa σ0 σ) (hp1 : Ob n 8 p1) (hp4 : Ob n 6 p4) (h : by_X11_judge_70 n Ly20 Qy p1 p2 p3 p4 Y) : b_X11_judge_70 (ad 11 0) L20 Q (some (ad 8 p1)) p2 p3 (some (ad 6 p4)) σ := by
  unfold by_X11_judge_70 at h
  unfold b_X11_judge_70
  exact yb_X11_judge_75 hQ hL20 p1 p2 p3 p4 (1 : Int32) _ _ hR F hp1 hp4 h
def fy_X11_judge_20 (n : Nat)  (Qy : Yc → Prop) (Ly20 : Nat × Int32 × Int32 → Yc → Prop) (t : Nat × Int32 × Int32) (Y : Yc) : Prop := ((t.2.1 ≤ t.2.2 → Qy Y) ∧ (¬ t.2.1 ≤ t.2.2 → (((nI 200) ≤ t.2.2 → Qy Y) ∧ (¬ (nI 200) ≤ t.2.2 → (vp_in t.2.2 200 ∧ (∀ y11 : Int64, y11 = yJ Y 601 (260 + t.2.2.toNatClampNeg) → (∀ y14 : Int64, y14 = yJ Y 805 t.1 → (((lg_cmp y11 y14) = 0 → by_X11_judge_70 n Ly20 Qy t.1 t.2.1 t.2.2 (260 + t.2.2.toNatClampNeg) Y) ∧ (¬ (lg_cmp y11 y14) = 0 → (∀ y17 : Int64, y17 = yJ Y 601 (260 + t.2.2.toNatClampNeg) → (∀ y19 : Int64, y19 = yJ Y 805 t.1 → (wy_X11_isBehind n y17 y19 Y (fun (x25 : Int32) (Y22 : Yc) => ((x25 = 0 → by_X11_judge_75 n Ly20 Qy t.1 t.2.1 t.2.2 (260 + t.2.2.toNatClampNeg) (0 : Int32) Y22) ∧ (¬ x25 = 0 → by_X11_judge_70 n Ly20 Qy t.1 t.2.1 t.2.2 (260 + t.2.2.toNatClampNeg) Y22)))))))))))))))
set_option maxHeartbeats 4000000 in
set_option maxRecDepth 100000 in
theorem yf_X11_judge_20 {n : Nat} {ad aa : Nat → Nat → Nat} {σ0 : Sto} {Q : Sto → Prop} {Qy : Yc → Prop} {Ly20 : Nat × Int32 × Int32 → Yc → Prop} {L20 : Option Nat × Int32 × Int32 → Sto → Prop} (hQ : ∀ (σ' : Sto) (Y' : Yc), Qy Y' → HY n ad aa σ' Y' → Fy n ad aa σ0 σ' → Q σ') (hL20 : ∀ (t9 : Option Nat × Int32 × Int32) (t : Nat × Int32 × Int32) (σ : Sto) (Y : Yc), Ly20 t Y → HY n ad aa σ Y → Fy n ad aa σ0 σ → (((some (ad 8 t.1)), t.2.1, t.2.2) = t9 ∧ Ob n 8 t.1 ∧ True) → L20 t9 σ) : ∀ (t9 : Option Nat × Int32 × Int32) (t : Nat × Int32 × Int32) (σ : Sto) (Y : Yc), HY n ad aa σ Y → Fy n ad aa σ0 σ → (((some (ad 8 t.1)), t.2.1, t.2.2) = t9 ∧ Ob n 8 t.1 ∧ True) → fy_X11_judge_20 n  Qy Ly20 t Y → f_X11_judge_20 (ad 11 0)  Q L20 t9 σ := by
  intro t9 t σ Y hR F hT h
  obtain ⟨rfl, hL_1, _⟩ := hT
  unfold fy_X11_judge_20 at h
  unfold f_X11_judge_20
  dsimp only
  refine ⟨fun c1 => ?_, fun c1 => ?_⟩
  · have h := h.1 c1
    exact hQ _ _ h hR F
  · have h := h.2 c1
    refine ⟨hR.K ob_11, ?_⟩
    have a2 : sP σ (ad 11 0) 9 = some (aa 1109 0) := hR.ar (x := 1109) ob_11 9 (by decide) rfl (by decide)
    refine ⟨_, a2, ?_⟩
    refine ⟨hR.arK (x := 1109) ob_11 9 (by decide) rfl (by decide), ?_⟩
    rw [show sN σ (aa 1109 0) = 200 from hR.arN (x := 1109) ob_11 9 (by decide) rfl (by decide)]
    refine ⟨fun c4 => ?_, fun c4 => ?_⟩
    · have h := h.1 c4
      exact hQ _ _ h hR F
    · have h := h.2 c4
      have a5 : sP σ (ad 11 0) 9 = some (aa 1109 0) := hR.ar (x := 1109) ob_11 9 (by decide) rfl (by decide)
      have hz := h.1
      refine ⟨by first | exact hR.arV (x := 1109) ob_11 9 (by decide) rfl (by decide) hz | exact hz, ?_⟩
      have h := h.2
      have hO9 : Ob n 6 (260 + t.2.2.toNatClampNeg) := ob_1109 hz
      intro r7 e8
      have e8 := e8.trans (hR.el (x := 1109) ob_11 9 (by decide) rfl (by decide) (el_1109 hz))
      subst e8
      refine ⟨_, rfl, ?_⟩
      refine ⟨hR.K hO9, ?_⟩
      intro y11 e12
      have e12 : y11 = yJ Y 601 (260 + t.2.2.toNatClampNeg) := e12.trans (hR.J (x := 601) hO9 1 (by decide) rfl)
      have h := h y11 e12
      refine ⟨_, rfl, ?_⟩
      refine ⟨hR.K hL_1, ?_⟩
      intro y14 e15
      have e15 : y14 = yJ Y 805 t.1 := e15.trans (hR.J (x := 805) hL_1 5 (by decide) rfl)
      have h := h y14 e15
      refine ⟨fun c16 => ?_, fun c16 => ?_⟩
      · have h := h.1 c16
        exact yb_X11_judge_70 hQ hL20 t.1 t.2.1 t.2.2 (260 + t.2.2.toNatClampNeg) _ _ hR F hL_1 hO9 h
      · have h := h.2 c16
        intro y17 e18
        have e18 : y17 = yJ Y 601 (260 + t.2.2.toNatClampNeg) := e18.trans (hR.J (x := 601) hO9 1 (by decide) rfl)
        have h := h y17 e18
        intro y19 e20
        have e20 : y19 = yJ Y 805 t.1 := e20.trans (hR.J (x := 805) hL_1 5 (by decide) rfl)
        have h := h y19 e20
        refine y_X11_isBehind hR  h (fun x25 σ21 Y22 h hR24 f23 => ?_)
        have F := F.trans f23
        have hR := hR24
        refine ⟨fun c28 => ?_, fun c28 => ?_⟩
        · have h := h.1 c28
          exact yb_X11_judge_75 hQ hL20 t.1 t.2.1 t.2.2 (260 + t.2.2.toNatClampNeg) (0 : Int32) _ _ hR F hL_1 hO9 h
        · have h := h.2 c28
          exact yb_X11_judge_70 hQ hL20 t.1 t.2.1 t.2.2 (260 + t.2.2.toNatClampNeg) _ _ hR F hL_1 hO9 h
def wy_X11_judge (n : Nat) (p1 : Nat) (p2 : Int32) (Y : Yc) (Qy : Yc → Prop) : Prop := (∀ x6 : Int32, x6 = yI Y 201 p1 → (wy_X10_replay n p1 x6 Y (fun (Y10 : Yc) => LFy (fy_X11_judge_20 n  Qy) (p1, p2, (0 : Int32)) Y10)))
set_option maxHeartbeats 4000000 in
set_option maxRecDepth 100000 in
theorem y_X11_judge {n : Nat} {ad aa : Nat → Nat → Nat} {p1 : Nat} {p2 : Int32} {σ : Sto} {Y : Yc} {Q : Sto → Prop} {Qy : Yc → Prop} (hR : HY n ad aa σ Y) (hp1 : Ob n 8 p1) (h : wy_X11_judge n p1 p2 Y Qy) (hQ : ∀ (σ' : Sto) (Y' : Yc), Qy Y' → HY n ad aa σ' Y' → Fy n ad aa σ σ' → Q σ') : wp_X11_judge (ad 11 0) (some (ad 8 p1)) p2 σ Q := by
  have F : Fy n ad aa σ σ := Fy.rf
  unfold wy_X11_judge at h
  unfold wp_X11_judge
  refine ⟨hR.K ob_11, ?_⟩
  have a1 : sP σ (ad 11 0) 2 = some (ad 10 0) := hR.lk ob_11 2 (by decide) rfl
  refine ⟨_, rfl, ?_⟩
  refine ⟨hR.K hp1, ?_⟩
  have a3 : sP σ (ad 8 p1) 7 = some (ad 2 p1) := hR.lk hp1 7 (by decide) rfl
  have a4 : sP σ (ad 8 p1) 7 = some (ad 2 p1) := hR.lk hp1 7 (by decide) rfl
  refine ⟨_, a4, ?_⟩
  refine ⟨hR.K (ob_807 hp1), ?_⟩
  intro x6 e7
  have e7 : x6 = yI Y 201 p1 := e7.trans (hR.I (x := 201) (ob_807 hp1) 1 (by decide) rfl)
  have h := h x6 e7
  refine ⟨_, a1, ?_⟩
  refine ⟨hR.K ob_10, ?_⟩
  rw [a3]
  refine y_X10_replay hR (ob_807 hp1) h (fun σ9 Y10 h hR12 f11 => ?_)
  have F := F.trans f11
  have hR := hR12
  exact lfy (fun σ t9 t => ((some (ad 8 t.1)), t.2.1, t.2.2) = t9 ∧ Ob n 8 t.1 ∧ True) h hR F ⟨rfl, hp1, trivial⟩ (fun Ly L hL t9 t σ Y hR F hT h => yf_X11_judge_20 hQ  hL t9 t σ Y hR F hT h)
