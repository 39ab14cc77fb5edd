def by_X7_readRest_148 (n : Nat)  (Qy : Yc → Prop)  (Y : Yc) : Prop := (wy_X7_readRequest n  Y (fun (Y2 : Yc) => Qy Y2))
set_option maxHeartbeats 4000000 in
set_option maxRecDepth 100000 in
theorem yb_X7_readRest_148 {n : Nat} {ad aa : Nat → Nat → Nat} {σ0 : Sto} {Q : Sto → Prop} {Qy : Yc → Prop} (hQ : ∀ (σ' : Sto) (Y' : Yc), Qy Y' → HY n ad aa σ' Y' → Fy n ad aa σ0 σ' → Q σ')   (σ : Sto) (Y : Yc) (hR : HY n ad aa σ Y) (F : Fy n ad aa σ0 σ) (h : by_X7_readRest_148 n  Qy  Y) : b_X7_readRest_148 (ad 7 0)  Q  σ := by
  unfold by_X7_readRest_148 at h
  unfold b_X7_readRest_148
  refine ⟨hR.K ob_7, ?_⟩
  refine y_X7_readRequest hR  h (fun σ1 Y2 h hR4 f3 => ?_)
  have F := F.trans f3
  have hR := hR4
  exact hQ _ _ h hR F
def by_X7_readRest_134 (n : Nat)  (Qy : Yc → Prop) (p1 : Int32) (Y : Yc) : Prop := (wy_X7_readNumber n  Y (fun (x5 : Int32) (Y2 : Yc) => ((p1 = 0 → by_X7_readRest_148 n  Qy  Y2) ∧ (¬ p1 = 0 → ((¬ p1 = (2 : Int32) → Qy Y2) ∧ (p1 = (2 : Int32) → by_X7_readRest_148 n  Qy  Y2))))))
set_option maxHeartbeats 4000000 in
set_option maxRecDepth 100000 in
theorem yb_X7_readRest_134 {n : Nat} {ad aa : Nat → Nat → Nat} {σ0 : Sto} {Q : Sto → Prop} {Qy : Yc → Prop} (hQ : ∀ (σ' : Sto) (Y' : Yc), Qy Y' → HY n ad aa σ' Y' → Fy n ad aa σ0 σ' → Q σ')  (p1 : Int32) (σ : Sto) (Y : Yc) (hR : HY n ad aa σ Y) (F : Fy n ad aa σ0 σ) (h : by_X7_readRest_134 n  Qy p1 Y) : b_X7_readRest_134 (ad 7 0)  Q p1 σ := by
  unfold by_X7_readRest_134 at h
  unfold b_X7_readRest_134
  refine ⟨hR.K ob_7, ?_⟩
  refine y_X7_readNumber hR  h (fun x5 σ1 Y2 h hR4 f3 => ?_)
  have F := F.trans f3
  have hR := hR4
  refine ⟨fun c8 => ?_, fun c8 => ?_⟩
  · have h := h.1 c8
    exact yb_X7_readRest_148 hQ   _ _ hR F  h
  · have h := h.2 c8
    refine ⟨fun c9 => ?_, fun c9 => ?_⟩
    · have h := h.1 c9
      exact hQ _ _ h hR F
    · have h := h.2 c9
      exact yb_X7_readRest_148 hQ   _ _ hR F  h
def by_X7_readRest_60 (n : Nat)  (Qy : Yc → Prop)  (Y : Yc) : Prop := Qy Y
set_option maxHeartbeats 4000000 in
set_option maxRecDepth 100000 in
theorem yb_X7_readRest_60 {n : Nat} {ad aa : Nat → Nat → Nat} {σ0 : Sto} {Q : Sto → Prop} {Qy : Yc → Prop} (hQ : ∀ (σ' : Sto) (Y' : Yc), Qy Y' → HY n ad aa σ' Y' → Fy n ad aa σ0 σ' → Q σ')   (σ : Sto) (Y : Yc) (hR : HY n ad aa σ Y) (F : Fy n ad aa σ0 σ) (h : by_X7_readRest_60 n  Qy  Y) : b_X7_readRest_60 (ad 7 0)  Q  σ := by
  unfold by_X7_readRest_60 at h
  unfold b_X7_readRest_60
  exact hQ _ _ h hR F
def by_X7_readRest_14 (n : Nat)  (Qy : Yc → Prop) (p1 : Int32) (Y : Yc) : Prop := ((p1.toInt < 5 ∨ 12 < p1.toInt → by_X7_readRest_134 n  Qy p1 Y) ∧ (p1 = (5 : Int32) → (wy_X7_readLog n  Y (fun (Y3 : Yc) => Qy Y3))) ∧ (p1 = (6 : Int32) → by_X7_readRest_134 n  Qy p1 Y) ∧ (p1 = (7 : Int32) → by_X7_readRest_134 n  Qy p1 Y) ∧ (p1 = (8 : Int32) → by_X7_readRest_60 n  Qy  Y) ∧ (p1 = (9 : Int32) → (wy_X7_readNumber n  Y (fun (x13 : Int32) (Y10 : Yc) => (wy_X7_readNumber n  Y10 (fun (x20 : Int32) (Y17 : Yc) => (wy_X7_readNumber n  Y17 (fun (x27 : Int32) (Y24 : Yc) => (wy_X7_readLog n  Y24 (fun (Y31 : Yc) => Qy Y31))))))))) ∧ (p1 = (10 : Int32) → (wy_X7_readNumber n  Y (fun (x41 : Int32) (Y38 : Yc) => (wy_X7_readLog n  Y38 (fun (Y45 : Yc) => Qy Y45))))) ∧ (p1 = (11 : Int32) → (wy_X7_readNumber n  Y (fun (x55 : Int32) (Y52 : Yc) => (wy_X7_readNumber n  Y52 (fun (x62 : Int32) (Y59 : Yc) => (wy_X7_readByte n (1 : Int32) Y59 (fun (x69 : Int32) (Y66 : Yc) => ((¬ x69 = (1 : Int32) → Qy Y66) ∧ (x69 = (1 : Int32) → (wy_X7_nextWord n  Y66 (fun (x77 : Int32) (Y74 : Yc) => (wy_X7_tell n x77 Y74 (fun (Y81 : Yc) => Qy Y81))))))))))))) ∧ (p1 = (12 : Int32) → by_X7_readRest_60 n  Qy  Y))
set_option maxHeartbeats 4000000 in
set_option maxRecDepth 100000 in
theorem yb_X7_readRest_14 {n : Nat} {ad aa : Nat → Nat → Nat} {σ0 : Sto} {Q : Sto → Prop} {Qy : Yc → Prop} (hQ : ∀ (σ' : Sto) (Y' : Yc), Qy Y' → HY n ad aa σ' Y' → Fy n ad aa σ0 σ' → Q σ')  (p1 : Int32) (σ : Sto) (Y : Yc) (hR : HY n ad aa σ Y) (F : Fy n ad aa σ0 σ) (h : by_X7_readRest_14 n  Qy p1 Y) : b_X7_readRest_14 (ad 7 0)  Q p1 σ := by
  unfold by_X7_readRest_14 at h
  unfold b_X7_readRest_14
  refine ⟨fun c1 => ?_, fun c1 => ?_, fun c1 => ?_, fun c1 => ?_, fun c1 => ?_, fun c1 => ?_, fun c1 => ?_, fun c1 => ?_, fun c1 => ?_⟩
  · have h := h.1 c1
    exact yb_X7_readRest_134 hQ  p1 _ _ hR F  h
  · have h := h.2.1 c1
    refine ⟨hR.K ob_7, ?_⟩
    refine y_X7_readLog hR  h (fun σ2 Y3 h hR5 f4 => ?_)
    have F := F.trans f4
    have hR := hR5
    exact hQ _ _ h hR F
  · have h := h.2.2.1 c1
    exact yb_X7_readRest_134 hQ  p1 _ _ hR F  h
  · have h := h.2.2.2.1 c1
    exact yb_X7_readRest_134 hQ  p1 _ _ hR F  h
  · have h := h.2.2.2.2.1 c1
    exact yb_X7_readRest_60 hQ   _ _ hR F  h
  · have h := h.2.2.2.2.2.1 c1
    refine ⟨hR.K ob_7, ?_⟩
    refine y_X7_readNumber hR  h (fun x13 σ9 Y10 h hR12 f11 => ?_)
    have F := F.trans f11
    have hR := hR12
    refine ⟨hR.K ob_7, ?_⟩
    refine y_X7_readNumber hR  h (fun x20 σ16 Y17 h hR19 f18 => ?_)
    have F := F.trans f18
    have hR := hR19
    refine ⟨hR.K ob_7, ?_⟩
    refine y_X7_readNumber hR  h (fun x27 σ23 Y24 h hR26 f25 => ?_)
    have F := F.trans f25
    have hR := hR26
    refine ⟨hR.K ob_7, ?_⟩
    refine y_X7_readLog hR  h (fun σ30 Y31 h hR33 f32 => ?_)
    have F := F.trans f32
    have hR := hR33
    exact hQ _ _ h hR F
  · have h := h.2.2.2.2.2.2.1 c1
    refine ⟨hR.K ob_7, ?_⟩
    refine y_X7_readNumber hR  h (fun x41 σ37 Y38 h hR40 f39 => ?_)
    have F := F.trans f39
    have hR := hR40
    refine ⟨hR.K ob_7, ?_⟩
    refine y_X7_readLog hR  h (fun σ44 Y45 h hR47 f46 => ?_)
    have F := F.trans f46
    have hR := hR47
    exact hQ _ _ h hR F
  · have h := h.2.2.2.2.2.2.2.1 c1
    refine ⟨hR.K ob_7, ?_⟩
    refine y_X7_readNumber hR  h (fun x55 σ51 Y52 h hR54 f53 => ?_)
    have F := F.trans f53
    have hR := hR54
    refine ⟨hR.K ob_7, ?_⟩
    refine y_X7_readNumber hR  h (fun x62 σ58 Y59 h hR61 f60 => ?_)
    have F := F.trans f60
    have hR := hR61
    refine ⟨hR.K ob_7, ?_⟩
    refine y_X7_readByte hR  h (fun x69 σ65 Y66 h hR68 f67 => ?_)
    have F := F.trans f67
    have hR := hR68
    refine ⟨fun c72 => ?_, fun c72 => ?_⟩
    · have h := h.1 c72
      exact hQ _ _ h hR F
    · have h := h.2 c72
      refine ⟨hR.K ob_7, ?_⟩
      refine y_X7_nextWord hR  h (fun x77 σ73 Y74 h hR76 f75 => ?_)
      have F := F.trans f75
      have hR := hR76
      refine ⟨hR.K ob_7, ?_⟩
      refine y_X7_tell hR  h (fun σ80 Y81 h hR83 f82 => ?_)
      have F := F.trans f82
      have hR := hR83
      exact hQ _ _ h hR F
  · have h := h.2.2.2.2.2.2.2.2 c1
    exact yb_X7_readRest_60 hQ   _ _ hR F  h
def wy_X7_readRest (n : Nat) (p1 : Int32) (Y : Yc) (Qy : Yc → Prop) : Prop := (wy_X7_readNumber n  Y (fun (x5 : Int32) (Y2 : Yc) => ((p1 = 0 → by_X7_readRest_14 n  Qy p1 Y2) ∧ (¬ p1 = 0 → (wy_X7_readNumber n  Y2 (fun (x13 : Int32) (Y10 : Yc) => by_X7_readRest_14 n  Qy p1 Y10))))))
set_option maxHeartbeats 4000000 in
set_option maxRecDepth 100000 in
theorem y_X7_readRest {n : Nat} {ad aa : Nat → Nat → Nat} {p1 : Int32} {σ : Sto} {Y : Yc} {Q : Sto → Prop} {Qy : Yc → Prop} (hR : HY n ad aa σ Y) (h : wy_X7_readRest n p1 Y Qy) (hQ : ∀ (σ' : Sto) (Y' : Yc), Qy Y' → HY n ad aa σ' Y' → Fy n ad aa σ σ' → Q σ') : wp_X7_readRest (ad 7 0) p1 σ Q := by
  have F : Fy n ad aa σ σ := Fy.rf
  unfold wy_X7_readRest at h
  unfold wp_X7_readRest
  refine ⟨hR.K ob_7, ?_⟩
  refine y_X7_readNumber hR  h (fun x5 σ1 Y2 h hR4 f3 => ?_)
  have F := F.trans f3
  have hR := hR4
  refine ⟨fun c8 => ?_, fun c8 => ?_⟩
  · have h := h.1 c8
    exact yb_X7_readRest_14 hQ  p1 _ _ hR F  h
  · have h := h.2 c8
    refine ⟨hR.K ob_7, ?_⟩
    refine y_X7_readNumber hR  h (fun x13 σ9 Y10 h hR12 f11 => ?_)
    have F := F.trans f11
    have hR := hR12
    exact yb_X7_readRest_14 hQ  p1 _ _ hR F  h
def wy_X7_readSum (n : Nat)  (Y : Yc) (Qy : Yc → Prop) : Prop := (∀ x1 : Int32, x1 = yI Y 705 0 → (wy_X0_sumOf n 1 (0 : Int32) x1 Y (fun (x9 : Int32) (Y6 : Yc) => (wy_X7_nextWord n  Y6 (fun (x16 : Int32) (Y13 : Yc) => ((x16 = x9 → Qy Y13) ∧ (¬ x16 = x9 → (wy_X7_spoil n (5 : Int32) x1 Y13 (fun (Y21 : Yc) => Qy Y21)))))))))
set_option maxHeartbeats 4000000 in
set_option maxRecDepth 100000 in
theorem y_X7_readSum {n : Nat} {ad aa : Nat → Nat → Nat} {σ : Sto} {Y : Yc} {Q : Sto → Prop} {Qy : Yc → Prop} (hR : HY n ad aa σ Y) (h : wy_X7_readSum n  Y Qy) (hQ : ∀ (σ' : Sto) (Y' : Yc), Qy Y' → HY n ad aa σ' Y' → Fy n ad aa σ σ' → Q σ') : wp_X7_readSum (ad 7 0)  σ Q := by
  have F : Fy n ad aa σ σ := Fy.rf
  unfold wy_X7_readSum at h
  unfold wp_X7_readSum
  refine ⟨hR.K ob_7, ?_⟩
  intro x1 e2
  have e2 : x1 = yI Y 705 0 := e2.trans (hR.I (x := 705) ob_7 5 (by decide) rfl)
  have h := h x1 e2
  have a3 : sP σ (ad 7 0) 0 = some (ad 0 1) := hR.lk ob_7 0 (by decide) rfl
  refine ⟨_, a3, ?_⟩
  refine ⟨hR.K ob_b1, ?_⟩
  refine y_X0_sumOf hR ob_b1  h (fun x9 σ5 Y6 h hR8 f7 => ?_)
  have F := F.trans f7
  have hR := hR8
  refine ⟨hR.K ob_7, ?_⟩
  refine y_X7_nextWord hR  h (fun x16 σ12 Y13 h hR15 f14 => ?_)
  have F := F.trans f14
  have hR := hR15
  refine ⟨fun c19 => ?_, fun c19 => ?_⟩
  · have h := h.1 c19
    exact hQ _ _ h hR F
  · have h := h.2 c19
    refine ⟨hR.K ob_7, ?_⟩
    refine y_X7_spoil hR  h (fun σ20 Y21 h hR23 f22 => ?_)
    have F := F.trans f22
    have hR := hR23
    exact hQ _ _ h hR F
def by_X7_read_87 (n : Nat)  (Qy : Yc → Prop)  (Y : Yc) : Prop := Qy (uI Y 1 1 (0 : Int32))
set_option maxHeartbeats 4000000 in
set_option maxRecDepth 100000 in
theorem yb_X7_read_87 {n : Nat} {ad aa : Nat → Nat → Nat} {σ0 : Sto} {Q : Sto → Prop} {Qy : Yc → Prop} (hQ : ∀ (σ' : Sto) (Y' : Yc), Qy Y' → HY n ad aa σ' Y' → Fy n ad aa σ0 σ' → Q σ')   (σ : Sto) (Y : Yc) (hR : HY n ad aa σ Y) (F : Fy n ad aa σ0 σ) (h : by_X7_read_87 n  Qy  Y) : b_X7_read_87 (ad 7 0)  Q  σ := by
  unfold by_X7_read_87 at h
  unfold b_X7_read_87
  refine ⟨hR.K ob_7, ?_⟩
  have a1 : sP σ (ad 7 0) 0 = some (ad 0 1) := hR.lk ob_7 0 (by decide) rfl
  refine ⟨_, a1, ?_⟩
  refine ⟨hR.K ob_b1, ?_⟩
  have w3 := hR.wI (x := 1) ob_b1 1 (by decide) rfl (0 : Int32)
  have F := F.trans w3.2
  have hR := w3.1
  exact hQ _ _ h hR F
def by_X7_read_75 (n : Nat)  (Qy : Yc → Prop)  (Y : Yc) : Prop := (∀ x1 : Int32, x1 = yI Y 703 0 → ((x1 = 0 → by_X7_read_87 n  Qy  Y) ∧ (¬ x1 = 0 → by_X7_read_87 n  Qy  (uI Y 702 0 (0 : Int32)))))
set_option maxHeartbeats 4000000 in
set_option maxRecDepth 100000 in
theorem yb_X7_read_75 {n : Nat} {ad aa : Nat → Nat → Nat} {σ0 : Sto} {Q : Sto → Prop} {Qy : Yc → Prop} (hQ : ∀ (σ' : Sto) (Y' : Yc), Qy Y' → HY n ad aa σ' Y' → Fy n ad aa σ0 σ' → Q σ')   (σ : Sto) (Y : Yc) (hR : HY n ad aa σ Y) (F : Fy n ad aa σ0 σ) (h : by_X7_read_75 n  Qy  Y) : b_X7_read_75 (ad 7 0)  Q  σ := by
  unfold by_X7_read_75 at h
  unfold b_X7_read_75
  refine ⟨hR.K ob_7, ?_⟩
  intro x1 e2
  have e2 : x1 = yI Y 703 0 := e2.trans (hR.I (x := 703) ob_7 3 (by decide) rfl)
  have h := h x1 e2
  refine ⟨fun c3 => ?_, fun c3 => ?_⟩
  · have h := h.1 c3
    exact yb_X7_read_87 hQ   _ _ hR F  h
  · have h := h.2 c3
    have w4 := hR.wI (x := 702) ob_7 2 (by decide) rfl (0 : Int32)
    have F := F.trans w4.2
    have hR := w4.1
    exact yb_X7_read_87 hQ   _ _ hR F  h
def wy_X7_read (n : Nat)  (Y : Yc) (Qy : Yc → Prop) : Prop := (wy_X7_readByte n (12 : Int32) (uI (uI (uI (uI Y 702 0 (0 : Int32)) 703 0 (0 : Int32)) 704 0 (-1 : Int32)) 705 0 (0 : Int32)) (fun (x9 : Int32) (Y6 : Yc) => (wy_X7_readSender n  Y6 (fun (Y13 : Yc) => (wy_X7_readReceiver n  Y13 (fun (Y20 : Yc) => (wy_X7_readRest n x9 Y20 (fun (Y27 : Yc) => (wy_X7_readSum n  Y27 (fun (Y34 : Yc) => (∀ x40 : Int32, x40 = yI Y34 703 0 → ((¬ x40 = 0 → by_X7_read_75 n  Qy  Y34) ∧ (x40 = 0 → (∀ x43 : Int32, x43 = yI Y34 705 0 → (∀ x47 : Int32, x47 = yI Y34 1 1 → ((x47 ≤ x43 → by_X7_read_75 n  Qy  Y34) ∧ (¬ x47 ≤ x43 → (∀ x50 : Int32, x50 = yI Y34 705 0 → (wy_X7_spoil n (6 : Int32) x50 Y34 (fun (Y53 : Yc) => by_X7_read_75 n  Qy  Y53))))))))))))))))))))
set_option maxHeartbeats 4000000 in
set_option maxRecDepth 100000 in
theorem y_X7_read {n : Nat} {ad aa : Nat → Nat → Nat} {σ : Sto} {Y : Yc} {Q : Sto → Prop} {Qy : Yc → Prop} (hR : HY n ad aa σ Y) (h : wy_X7_read n  Y Qy) (hQ : ∀ (σ' : Sto) (Y' : Yc), Qy Y' → HY n ad aa σ' Y' → Fy n ad aa σ σ' → Q σ') : wp_X7_read (ad 7 0)  σ Q := by
  have F : Fy n ad aa σ σ := Fy.rf
  unfold wy_X7_read at h
  unfold wp_X7_read
  refine ⟨hR.K ob_7, ?_⟩
  have w1 := hR.wI (x := 702) ob_7 2 (by decide) rfl (0 : Int32)
  have F := F.trans w1.2
  have hR := w1.1
  have w2 := hR.wI (x := 703) ob_7 3 (by decide) rfl (0 : Int32)
  have F := F.trans w2.2
  have hR := w2.1
  have w3 := hR.wI (x := 704) ob_7 4 (by decide) rfl (-1 : Int32)
  have F := F.trans w3.2
  have hR := w3.1
  have w4 := hR.wI (x := 705) ob_7 5 (by decide) rfl (0 : Int32)
  have F := F.trans w4.2
  have hR := w4.1
  refine y_X7_readByte hR  h (fun x9 σ5 Y6 h hR8 f7 => ?_)
  have F := F.trans f7
  have hR := hR8
  refine ⟨hR.K ob_7, ?_⟩
  refine y_X7_readSender hR  h (fun σ12 Y13 h hR15 f14 => ?_)
  have F := F.trans f14
  have hR := hR15
  refine ⟨hR.K ob_7, ?_⟩
  refine y_X7_readReceiver hR  h (fun σ19 Y20 h hR22 f21 => ?_)
  have F := F.trans f21
  have hR := hR22
  refine ⟨hR.K ob_7, ?_⟩
  refine y_X7_readRest hR  h (fun σ26 Y27 h hR29 f28 => ?_)
  have F := F.trans f28
  have hR := hR29
  refine ⟨hR.K ob_7, ?_⟩
  refine y_X7_readSum hR  h (fun σ33 Y34 h hR36 f35 => ?_)
  have F := F.trans f35
  have hR := hR36
  refine ⟨hR.K ob_7, ?_⟩
  intro x40 e41
  have e41 : x40 = yI Y34 703 0 := e41.trans (hR.I (x := 703) ob_7 3 (by decide) rfl)
  have h := h x40 e41
  refine ⟨fun c42 => ?_, fun c42 => ?_⟩
  · have h := h.1 c42
    exact yb_X7_read_75 hQ   _ _ hR F  h
  · have h := h.2 c42
    intro x43 e44
    have e44 : x43 = yI Y34 705 0 := e44.trans (hR.I (x := 705) ob_7 5 (by decide) rfl)
    have h := h x43 e44
    have a45 : sP σ33 (ad 7 0) 0 = some (ad 0 1) := hR.lk ob_7 0 (by decide) rfl
    refine ⟨_, a45, ?_⟩
    refine ⟨hR.K ob_b1, ?_⟩
    intro x47 e48
    have e48 : x47 = yI Y34 1 1 := e48.trans (hR.I (x := 1) ob_b1 1 (by decide) rfl)
    have h := h x47 e48
    refine ⟨fun c49 => ?_, fun c49 => ?_⟩
    · have h := h.1 c49
      exact yb_X7_read_75 hQ   _ _ hR F  h
    · have h := h.2 c49
      intro x50 e51
      have e51 : x50 = yI Y34 705 0 := e51.trans (hR.I (x := 705) ob_7 5 (by decide) rfl)
      have h := h x50 e51
      refine y_X7_spoil hR  h (fun σ52 Y53 h hR55 f54 => ?_)
      have F := F.trans f54
      have hR := hR55
      exact yb_X7_read_75 hQ   _ _ hR F  h
def wy_X11_viewOf (n : Nat) (p0 : Int32) (p1 : Int32) (Y : Yc) (Qy : Int64 → Yc → Prop) : Prop := Qy ((p1.toInt64 <<< ((32 : Int32).toInt64 &&& 63)) ||| (p0.toInt64 &&& (4294967295 : Int64))) Y
set_option maxHeartbeats 4000000 in
set_option maxRecDepth 100000 in
theorem y_X11_viewOf {n : Nat} {ad aa : Nat → Nat → Nat} {p0 : Int32} {p1 : Int32} {σ : Sto} {Y : Yc} {Q : Int64 → Sto → Prop} {Qy : Int64 → Yc → Prop} (hR : HY n ad aa σ Y) (h : wy_X11_viewOf n p0 p1 Y Qy) (hQ : ∀ (r : Int64) (σ' : Sto) (Y' : Yc), Qy r Y' → HY n ad aa σ' Y' → Fy n ad aa σ σ' → Q r σ') : wp_X11_viewOf p0 p1 σ Q := by
  have F : Fy n ad aa σ σ := Fy.rf
  unfold wy_X11_viewOf at h
  unfold wp_X11_viewOf
  exact hQ _ _ _ h hR F
def wy_X8_leads (n : Nat) (o0 : Nat)  (Y : Yc) (Qy : Int32 → Yc → Prop) : Prop := (∀ y2 : Int64, y2 = yJ Y 805 o0 → (wy_X4_leaderOf n y2 Y (fun (x9 : Int32) (Y6 : Yc) => (∀ x12 : Int32, x12 = yI Y6 800 o0 → ((¬ x9 = x12 → Qy (0 : Int32) Y6) ∧ (x9 = x12 → Qy (1 : Int32) Y6))))))
set_option maxHeartbeats 4000000 in
set_option maxRecDepth 100000 in
theorem y_X8_leads {n : Nat} {ad aa : Nat → Nat → Nat} {o0 : Nat} {σ : Sto} {Y : Yc} {Q : Int32 → Sto → Prop} {Qy : Int32 → Yc → Prop} (hR : HY n ad aa σ Y) (ho0 : Ob n 8 o0) (h : wy_X8_leads n o0  Y Qy) (hQ : ∀ (r : Int32) (σ' : Sto) (Y' : Yc), Qy r Y' → HY n ad aa σ' Y' → Fy n ad aa σ σ' → Q r σ') : wp_X8_leads (ad 8 o0)  σ Q := by
  have F : Fy n ad aa σ σ := Fy.rf
  unfold wy_X8_leads at h
  unfold wp_X8_leads
  refine ⟨hR.K ho0, ?_⟩
  have a1 : sP σ (ad 8 o0) 1 = some (ad 4 0) := hR.lk ho0 1 (by decide) rfl
  intro y2 e3
  have e3 : y2 = yJ Y 805 o0 := e3.trans (hR.J (x := 805) ho0 5 (by decide) rfl)
  have h := h y2 e3
  refine ⟨_, a1, ?_⟩
  refine ⟨hR.K ob_4, ?_⟩
  refine y_X4_leaderOf hR  h (fun x9 σ5 Y6 h hR8 f7 => ?_)
  have F := F.trans f7
  have hR := hR8
  refine ⟨hR.K ho0, ?_⟩
  intro x12 e13
  have e13 : x12 = yI Y6 800 o0 := e13.trans (hR.I (x := 800) ho0 0 (by decide) rfl)
  have h := h x12 e13
  refine ⟨fun c14 => ?_, fun c14 => ?_⟩
  · have h := h.1 c14
    exact hQ _ _ _ h hR F
  · have h := h.2 c14
    exact hQ _ _ _ h hR F
def by_X8_executedEnd_25 (n : Nat) (o0 : Nat)  (Qy : Int32 → Yc → Prop)  (Y : Yc) : Prop := (∀ x1 : Int32, x1 = yI Y 808 o0 → (∀ x5 : Int32, x5 = yI Y 201 o0 → (wy_J9_min_7cf53 n x1 x5 Y (fun (x11 : Int32) (Y8 : Yc) => Qy x11 Y8))))
set_option maxHeartbeats 4000000 in
set_option maxRecDepth 100000 in
theorem yb_X8_executedEnd_25 {n : Nat} {ad aa : Nat → Nat → Nat} {σ0 : Sto} {o0 : Nat} (ho0 : Ob n 8 o0) {Q : Int32 → Sto → Prop} {Qy : Int32 → Yc → Prop} (hQ : ∀ (r : Int32) (σ' : Sto) (Y' : Yc), Qy r Y' → HY n ad aa σ' Y' → Fy n ad aa σ0 σ' → Q r σ')   (σ : Sto) (Y : Yc) (hR : HY n ad aa σ Y) (F : Fy n ad aa σ0 σ) (h : by_X8_executedEnd_25 n o0  Qy  Y) : b_X8_executedEnd_25 (ad 8 o0)  Q  σ := by
  unfold by_X8_executedEnd_25 at h
  unfold b_X8_executedEnd_25
  refine ⟨hR.K ho0, ?_⟩
  intro x1 e2
  have e2 : x1 = yI Y 808 o0 := e2.trans (hR.I (x := 808) ho0 8 (by decide) rfl)
  have h := h x1 e2
  have a3 : sP σ (ad 8 o0) 7 = some (ad 2 o0) := hR.lk ho0 7 (by decide) rfl
  refine ⟨_, a3, ?_⟩
  refine ⟨hR.K (ob_807 ho0), ?_⟩
  intro x5 e6
  have e6 : x5 = yI Y 201 o0 := e6.trans (hR.I (x := 201) (ob_807 ho0) 1 (by decide) rfl)
  have h := h x5 e6
  refine y_J9_min_7cf53 hR  h (fun x11 σ7 Y8 h hR10 f9 => ?_)
  have F := F.trans f9
  have hR := hR10
  exact hQ _ _ _ h hR F
def wy_X8_executedEnd (n : Nat) (o0 : Nat)  (Y : Yc) (Qy : Int32 → Yc → Prop) : Prop := (wy_X8_leads n o0  Y (fun (x5 : Int32) (Y2 : Yc) => ((x5 = 0 → by_X8_executedEnd_25 n o0  Qy  Y2) ∧ (¬ x5 = 0 → (∀ x9 : Int32, x9 = yI Y2 804 o0 → ((x9 = (2 : Int32) → by_X8_executedEnd_25 n o0  Qy  Y2) ∧ (¬ x9 = (2 : Int32) → (∀ x14 : Int32, x14 = yI Y2 201 o0 → Qy x14 Y2))))))))
set_option maxHeartbeats 4000000 in
set_option maxRecDepth 100000 in
theorem y_X8_executedEnd {n : Nat} {ad aa : Nat → Nat → Nat} {o0 : Nat} {σ : Sto} {Y : Yc} {Q : Int32 → Sto → Prop} {Qy : Int32 → Yc → Prop} (hR : HY n ad aa σ Y) (ho0 : Ob n 8 o0) (h : wy_X8_executedEnd n o0  Y Qy) (hQ : ∀ (r : Int32) (σ' : Sto) (Y' : Yc), Qy r Y' → HY n ad aa σ' Y' → Fy n ad aa σ σ' → Q r σ') : wp_X8_executedEnd (ad 8 o0)  σ Q := by
  have F : Fy n ad aa σ σ := Fy.rf
  unfold wy_X8_executedEnd at h
  unfold wp_X8_executedEnd
  refine ⟨hR.K ho0, ?_⟩
  refine y_X8_leads hR ho0  h (fun x5 σ1 Y2 h hR4 f3 => ?_)
  have F := F.trans f3
  have hR := hR4
  refine ⟨fun c8 => ?_, fun c8 => ?_⟩
  · have h := h.1 c8
    exact yb_X8_executedEnd_25 ho0 hQ   _ _ hR F  h
  · have h := h.2 c8
    refine ⟨hR.K ho0, ?_⟩
    intro x9 e10
    have e10 : x9 = yI Y2 804 o0 := e10.trans (hR.I (x := 804) ho0 4 (by decide) rfl)
    have h := h x9 e10
    refine ⟨fun c11 => ?_, fun c11 => ?_⟩
    · have h := h.1 c11
      exact yb_X8_executedEnd_25 ho0 hQ   _ _ hR F  h
    · have h := h.2 c11
      have a12 : sP σ1 (ad 8 o0) 7 = some (ad 2 o0) := hR.lk ho0 7 (by decide) rfl
      refine ⟨_, a12, ?_⟩
      refine ⟨hR.K (ob_807 ho0), ?_⟩
      intro x14 e15
      have e15 : x14 = yI Y2 201 o0 := e15.trans (hR.I (x := 201) (ob_807 ho0) 1 (by decide) rfl)
      have h := h x14 e15
      exact hQ _ _ _ h hR F
def wy_X11_isBehind (n : Nat) (p0 : Int64) (p2 : Int64) (Y : Yc) (Qy : Int32 → Yc → Prop) : Prop := (((lg_cmp p0 p2) = 0 → Qy (0 : Int32) Y) ∧ (¬ (lg_cmp p0 p2) = 0 → (wy_X11_leadOf n p0 Y (fun (x6 : Int32) (Y3 : Yc) => (wy_X11_leadOf n p2 Y3 (fun (x13 : Int32) (Y10 : Yc) => ((x13 < x6 → Qy (0 : Int32) Y10) ∧ (¬ x13 < x6 → (wy_X11_sessionOf n p0 Y10 (fun (x21 : Int32) (Y18 : Yc) => (wy_X11_sessionOf n p2 Y18 (fun (x28 : Int32) (Y25 : Yc) => ((x28 < x21 → Qy (0 : Int32) Y25) ∧ (¬ x28 < x21 → Qy (1 : Int32) Y25))))))))))))))
set_option maxHeartbeats 4000000 in
set_option maxRecDepth 100000 in
theorem y_X11_isBehind {n : Nat} {ad aa : Nat → Nat → Nat} {p0 : Int64} {p2 : Int64} {σ : Sto} {Y : Yc} {Q : Int32 → Sto → Prop} {Qy : Int32 → Yc → Prop} (hR : HY n ad aa σ Y) (h : wy_X11_isBehind n p0 p2 Y Qy) (hQ : ∀ (r : Int32) (σ' : Sto) (Y' : Yc), Qy r Y' → HY n ad aa σ' Y' → Fy n ad aa σ σ' → Q r σ') : wp_X11_isBehind p0 p2 σ Q := by
  have F : Fy n ad aa σ σ := Fy.rf
  unfold wy_X11_isBehind at h
  unfold wp_X11_isBehind
  refine ⟨fun c1 => ?_, fun c1 => ?_⟩
  · have h := h.1 c1
    exact hQ _ _ _ h hR F
  · have h := h.2 c1
    refine y_X11_leadOf hR  h (fun x6 σ2 Y3 h hR5 f4 => ?_)
    have F := F.trans f4
    have hR := hR5
    refine y_X11_leadOf hR  h (fun x13 σ9 Y10 h hR12 f11 => ?_)
    have F := F.trans f11
    have hR := hR12
    refine ⟨fun c16 => ?_, fun c16 => ?_⟩
    · have h := h.1 c16
      exact hQ _ _ _ h hR F
    · have h := h.2 c16
      refine y_X11_sessionOf hR  h (fun x21 σ17 Y18 h hR20 f19 => ?_)
      have F := F.trans f19
      have hR := hR20
      refine y_X11_sessionOf hR  h (fun x28 σ24 Y25 h hR27 f26 => ?_)
      have F := F.trans f26
      have hR := hR27
      refine ⟨fun c31 => ?_, fun c31 => ?_⟩
      · have h := h.1 c31
        exact hQ _ _ _ h hR F
      · have h := h.2 c31
        exact hQ _ _ _ h hR F
def by_X8_tellTurn_52 (n : Nat) (o0 : Nat)  (Ly13 : Int32 → Yc → Prop) (Qy : Yc → Prop) (p1 : Int32) (Y : Yc) : Prop := (∀ x1 : Int32, x1 = p1 + (1 : Int32) → Ly13 (x1) Y)
set_option maxHeartbeats 4000000 in
set_option maxRecDepth 100000 in
theorem yb_X8_tellTurn_52 {n : Nat} {ad aa : Nat → Nat → Nat} {σ0 : Sto} {o0 : Nat} (ho0 : Ob n 8 o0) {Ly13 : Int32 → Yc → Prop} {L13 : Int32 → Sto → Prop} {Q : Sto → Prop} {Qy : Yc → Prop} (hQ : ∀ (σ' : Sto) (Y' : Yc), Qy Y' → HY n ad aa σ' Y' → Fy n ad aa σ0 σ' → Q σ') (hL13 : ∀ (t9 : Int32) (t : Int32) (σ : Sto) (Y : Yc), Ly13 t Y → HY n ad aa σ Y → Fy n ad aa σ0 σ → ((t) = t9 ∧ True) → L13 t9 σ) (p1 : Int32) (σ : Sto) (Y : Yc) (hR : HY n ad aa σ Y) (F : Fy n ad aa σ0 σ) (h : by_X8_tellTurn_52 n o0 Ly13 Qy p1 Y) : b_X8_tellTurn_52 (ad 8 o0) L13 Q p1 σ := by
  unfold by_X8_tellTurn_52 at h
  unfold b_X8_tellTurn_52
  intro x1 e2
  have h := h x1 e2
  exact hL13 _ _ _ _ h hR F ⟨rfl, trivial⟩
def fy_X8_tellTurn_13 (n : Nat) (o0 : Nat)  (Qy : Yc → Prop) (Ly13 : Int32 → Yc → Prop) (t : Int32) (Y : Yc) : Prop := (∀ x3 : Int32, x3 = yI Y 400 0 → ((x3 ≤ t → (∀ y7 : Int64, y7 = yJ Y 805 o0 → (wy_X4_leaderOf n y7 Y (fun (x13 : Int32) (Y10 : Yc) => (∀ x16 : Int32, x16 = yI Y10 800 o0 → ((x13 = x16 → Qy Y10) ∧ (¬ x13 = x16 → (∀ x20 : Int32, x20 = yI Y10 800 o0 → (∀ y22 : Int64, y22 = yJ Y10 805 o0 → (wy_X4_send n (9 : Int32) x20 x13 y22 (0 : Int32) Y10 (fun (o29 : Nat) (Y26 : Yc) => (∀ y32 : Int64, y32 = yJ Y26 806 o0 → (wy_X2_become n (56 + o29) o0 (uJ Y26 305 o29 y32) (fun (Y40 : Yc) => Qy Y40)))))))))))))) ∧ (¬ x3 ≤ t → (∀ x46 : Int32, x46 = yI Y 800 o0 → ((t = x46 → by_X8_tellTurn_52 n o0 Ly13 Qy t Y) ∧ (¬ t = x46 → (∀ x50 : Int32, x50 = yI Y 800 o0 → (∀ y52 : Int64, y52 = yJ Y 805 o0 → (wy_X4_send n (8 : Int32) x50 t y52 (0 : Int32) Y (fun (o58 : Nat) (Y55 : Yc) => by_X8_tellTurn_52 n o0 Ly13 Qy t Y55))))))))))
set_option maxHeartbeats 4000000 in
set_option maxRecDepth 100000 in
theorem yf_X8_tellTurn_13 {n : Nat} {ad aa : Nat → Nat → Nat} {σ0 : Sto} {o0 : Nat} (ho0 : Ob n 8 o0) {Q : Sto → Prop} {Qy : Yc → Prop} {Ly13 : Int32 → Yc → Prop} {L13 : Int32 → Sto → Prop} (hQ : ∀ (σ' : Sto) (Y' : Yc), Qy Y' → HY n ad aa σ' Y' → Fy n ad aa σ0 σ' → Q σ') (hL13 : ∀ (t9 : Int32) (t : Int32) (σ : Sto) (Y : Yc), Ly13 t Y → HY n ad aa σ Y → Fy n ad aa σ0 σ → ((t) = t9 ∧ True) → L13 t9 σ) : ∀ (t9 : Int32) (t : Int32) (σ : Sto) (Y : Yc), HY n ad aa σ Y → Fy n ad aa σ0 σ → ((t) = t9 ∧ True) → fy_X8_tellTurn_13 n o0  Qy Ly13 t Y → f_X8_tellTurn_13 (ad 8 o0)  Q L13 t9 σ := by
  intro t9 t σ Y hR F hT h
  obtain ⟨rfl, _⟩ := hT
  unfold fy_X8_tellTurn_13 at h
  unfold f_X8_tellTurn_13
  refine ⟨hR.K ho0, ?_⟩
  have a1 : sP σ (ad 8 o0) 1 = some (ad 4 0) := hR.lk ho0 1 (by decide) rfl
  refine ⟨_, a1, ?_⟩
  refine ⟨hR.K ob_4, ?_⟩
  intro x3 e4
  have e4 : x3 = yI Y 400 0 := e4.trans (hR.I (x := 400) ob_4 0 (by decide) rfl)
  have h := h x3 e4
  refine ⟨fun c5 => ?_, fun c5 => ?_⟩
  · have h := h.1 c5
    have a6 : sP σ (ad 8 o0) 1 = some (ad 4 0) := hR.lk ho0 1 (by decide) rfl
    intro y7 e8
    have e8 : y7 = yJ Y 805 o0 := e8.trans (hR.J (x := 805) ho0 5 (by decide) rfl)
    have h := h y7 e8
    refine y_X4_leaderOf hR  h (fun x13 σ9 Y10 h hR12 f11 => ?_)
    have F := F.trans f11
    have hR := hR12
    refine ⟨hR.K ho0, ?_⟩
    intro x16 e17
    have e17 : x16 = yI Y10 800 o0 := e17.trans (hR.I (x := 800) ho0 0 (by decide) rfl)
    have h := h x16 e17
    refine ⟨fun c18 => ?_, fun c18 => ?_⟩
    · have h := h.1 c18
      exact hQ _ _ h hR F
    · have h := h.2 c18
      have a19 : sP σ9 (ad 8 o0) 1 = some (ad 4 0) := hR.lk ho0 1 (by decide) rfl
      intro x20 e21
      have e21 : x20 = yI Y10 800 o0 := e21.trans (hR.I (x := 800) ho0 0 (by decide) rfl)
      have h := h x20 e21
      intro y22 e23
      have e23 : y22 = yJ Y10 805 o0 := e23.trans (hR.J (x := 805) ho0 5 (by decide) rfl)
      have h := h y22 e23
      refine ⟨_, a19, ?_⟩
      refine ⟨hR.K ob_4, ?_⟩
      refine y_X4_send hR  h (fun o29 σ25 Y26 h hO30 hR28 f27 => ?_)
      have F := F.trans f27
      have hR := hR28
      refine ⟨hR.K ho0, ?_⟩
      intro y32 e33
      have e33 : y32 = yJ Y26 806 o0 := e33.trans (hR.J (x := 806) ho0 6 (by decide) rfl)
      have h := h y32 e33
      refine ⟨_, rfl, ?_⟩
      refine ⟨hR.K hO30, ?_⟩
      have w35 := hR.wJ (x := 305) hO30 5 (by decide) rfl y32
      have F := F.trans w35.2
      have hR := w35.1
      have a36 : sP σ25 (ad 3 o29) 11 = some (ad 2 (56 + o29)) := hR.lk hO30 11 (by decide) rfl
      have a37 : sP σ25 (ad 8 o0) 7 = some (ad 2 o0) := hR.lk ho0 7 (by decide) rfl
      refine ⟨_, a36, ?_⟩
      refine ⟨hR.K (ob_311 hO30), ?_⟩
      rw [a37]
      refine y_X2_become hR (ob_311 hO30) (ob_807 ho0) h (fun σ39 Y40 h hR42 f41 => ?_)
      have F := F.trans f41
      have hR := hR42
      exact hQ _ _ h hR F
  · have h := h.2 c5
    intro x46 e47
    have e47 : x46 = yI Y 800 o0 := e47.trans (hR.I (x := 800) ho0 0 (by decide) rfl)
    have h := h x46 e47
    refine ⟨fun c48 => ?_, fun c48 => ?_⟩
    · have h := h.1 c48
      exact yb_X8_tellTurn_52 ho0 hQ hL13 t _ _ hR F  h
    · have h := h.2 c48
      have a49 : sP σ (ad 8 o0) 1 = some (ad 4 0) := hR.lk ho0 1 (by decide) rfl
      intro x50 e51
      have e51 : x50 = yI Y 800 o0 := e51.trans (hR.I (x := 800) ho0 0 (by decide) rfl)
      have h := h x50 e51
      intro y52 e53
      have e53 : y52 = yJ Y 805 o0 := e53.trans (hR.J (x := 805) ho0 5 (by decide) rfl)
      have h := h y52 e53
      refine y_X4_send hR  h (fun o58 σ54 Y55 h hO59 hR57 f56 => ?_)
      have F := F.trans f56
      have hR := hR57
      exact yb_X8_tellTurn_52 ho0 hQ hL13 t _ _ hR F  h
def wy_X8_tellTurn (n : Nat) (o0 : Nat)  (Y : Yc) (Qy : Yc → Prop) : Prop := (∀ x3 : Int32, x3 = yI Y 408 0 → LFy (fy_X8_tellTurn_13 n o0  Qy) ((0 : Int32)) (uI Y 812 o0 x3))
set_option maxHeartbeats 4000000 in
set_option maxRecDepth 100000 in
theorem y_X8_tellTurn {n : Nat} {ad aa : Nat → Nat → Nat} {o0 : Nat} {σ : Sto} {Y : Yc} {Q : Sto → Prop} {Qy : Yc → Prop} (hR : HY n ad aa σ Y) (ho0 : Ob n 8 o0) (h : wy_X8_tellTurn n o0  Y Qy) (hQ : ∀ (σ' : Sto) (Y' : Yc), Qy Y' → HY n ad aa σ' Y' → Fy n ad aa σ σ' → Q σ') : wp_X8_tellTurn (ad 8 o0)  σ Q := by
  have F : Fy n ad aa σ σ := Fy.rf
  unfold wy_X8_tellTurn at h
  unfold wp_X8_tellTurn
  refine ⟨hR.K ho0, ?_⟩
  have a1 : sP σ (ad 8 o0) 1 = some (ad 4 0) := hR.lk ho0 1 (by decide) rfl
  refine ⟨_, a1, ?_⟩
  refine ⟨hR.K ob_4, ?_⟩
  intro x3 e4
  have e4 : x3 = yI Y 408 0 := e4.trans (hR.I (x := 408) ob_4 8 (by decide) rfl)
  have h := h x3 e4
  have w5 := hR.wI (x := 812) ho0 12 (by decide) rfl x3
  have F := F.trans w5.2
  have hR := w5.1
  exact lfy (fun σ t9 t => (t) = t9 ∧ True) h hR F ⟨rfl, trivial⟩ (fun Ly L hL t9 t σ Y hR F hT h => yf_X8_tellTurn_13 ho0 hQ  hL t9 t σ Y hR F hT h)
def wy_X8_turn (n : Nat) (o0 : Nat) (p1 : Int64) (Y : Yc) (Qy : Yc → Prop) : Prop := (wy_X5_clear n o0  (uI (uJ Y 805 o0 p1) 804 o0 (2 : Int32)) (fun (Y6 : Yc) => (∀ x15 : Int32, x15 = yI (uI Y6 809 o0 (0 : Int32)) 408 0 → (wy_X8_tellTurn n o0  (uI (uI Y6 809 o0 (0 : Int32)) 813 o0 x15) (fun (Y19 : Yc) => Qy Y19)))))
set_option maxHeartbeats 4000000 in
set_option maxRecDepth 100000 in
theorem y_X8_turn {n : Nat} {ad aa : Nat → Nat → Nat} {o0 : Nat} {p1 : Int64} {σ : Sto} {Y : Yc} {Q : Sto → Prop} {Qy : Yc → Prop} (hR : HY n ad aa σ Y) (ho0 : Ob n 8 o0) (h : wy_X8_turn n o0 p1 Y Qy) (hQ : ∀ (σ' : Sto) (Y' : Yc), Qy Y' → HY n ad aa σ' Y' → Fy n ad aa σ σ' → Q σ') : wp_X8_turn (ad 8 o0) p1 σ Q := by
  have F : Fy n ad aa σ σ := Fy.rf
  unfold wy_X8_turn at h
  unfold wp_X8_turn
  refine ⟨hR.K ho0, ?_⟩
  have w1 := hR.wJ (x := 805) ho0 5 (by decide) rfl p1
  have F := F.trans w1.2
  have hR := w1.1
  have w2 := hR.wI (x := 804) ho0 4 (by decide) rfl (2 : Int32)
  have F := F.trans w2.2
  have hR := w2.1
  have a3 : sP σ (ad 8 o0) 10 = some (ad 5 o0) := hR.lk ho0 10 (by decide) rfl
  refine ⟨_, a3, ?_⟩
  refine ⟨hR.K (ob_810 ho0), ?_⟩
  refine y_X5_clear hR (ob_810 ho0)  h (fun σ5 Y6 h hR8 f7 => ?_)
  have F := F.trans f7
  have hR := hR8
  refine ⟨hR.K ho0, ?_⟩
  have w12 := hR.wI (x := 809) ho0 9 (by decide) rfl (0 : Int32)
  have F := F.trans w12.2
  have hR := w12.1
  have a13 : sP σ5 (ad 8 o0) 1 = some (ad 4 0) := hR.lk ho0 1 (by decide) rfl
  refine ⟨_, a13, ?_⟩
  refine ⟨hR.K ob_4, ?_⟩
  intro x15 e16
  have e16 : x15 = yI (uI Y6 809 o0 (0 : Int32)) 408 0 := e16.trans (hR.I (x := 408) ob_4 8 (by decide) rfl)
  have h := h x15 e16
  have w17 := hR.wI (x := 813) ho0 13 (by decide) rfl x15
  have F := F.trans w17.2
  have hR := w17.1
  refine y_X8_tellTurn hR ho0  h (fun σ18 Y19 h hR21 f20 => ?_)
  have F := F.trans f20
  have hR := hR21
  exact hQ _ _ h hR F
def wy_X8_follow (n : Nat) (o0 : Nat) (p1 : Int64) (Y : Yc) (Qy : Yc → Prop) : Prop := (∀ y1 : Int64, y1 = yJ Y 805 o0 → (((lg_cmp p1 y1) = 0 → Qy Y) ∧ (¬ (lg_cmp p1 y1) = 0 → (∀ y4 : Int64, y4 = yJ Y 805 o0 → (wy_X11_isBehind n p1 y4 Y (fun (x10 : Int32) (Y7 : Yc) => ((¬ x10 = 0 → Qy Y7) ∧ (x10 = 0 → (∀ y14 : Int64, y14 = yJ Y7 805 o0 → (wy_X11_leadOf n y14 Y7 (fun (x20 : Int32) (Y17 : Yc) => (wy_X11_leadOf n p1 Y17 (fun (x27 : Int32) (Y24 : Yc) => (wy_J9_max_7cf53 n x20 x27 Y24 (fun (x34 : Int32) (Y31 : Yc) => (∀ y37 : Int64, y37 = yJ Y31 805 o0 → (wy_X11_sessionOf n y37 Y31 (fun (x43 : Int32) (Y40 : Yc) => (wy_X11_sessionOf n p1 Y40 (fun (x50 : Int32) (Y47 : Yc) => (wy_J9_max_7cf53 n x43 x50 Y47 (fun (x57 : Int32) (Y54 : Yc) => (wy_X11_viewOf n x34 x57 Y54 (fun (y64 : Int64) (Y61 : Yc) => (wy_X8_turn n o0 y64 Y61 (fun (Y68 : Yc) => Qy Y68))))))))))))))))))))))))))
set_option maxHeartbeats 4000000 in
set_option maxRecDepth 100000 in
theorem y_X8_follow {n : Nat} {ad aa : Nat → Nat → Nat} {o0 : Nat} {p1 : Int64} {σ : Sto} {Y : Yc} {Q : Sto → Prop} {Qy : Yc → Prop} (hR : HY n ad aa σ Y) (ho0 : Ob n 8 o0) (h : wy_X8_follow n o0 p1 Y Qy) (hQ : ∀ (σ' : Sto) (Y' : Yc), Qy Y' → HY n ad aa σ' Y' → Fy n ad aa σ σ' → Q σ') : wp_X8_follow (ad 8 o0) p1 σ Q := by
  have F : Fy n ad aa σ σ := Fy.rf
  unfold wy_X8_follow at h
  unfold wp_X8_follow
  refine ⟨hR.K ho0, ?_⟩
  intro y1 e2
  have e2 : y1 = yJ Y 805 o0 := e2.trans (hR.J (x := 805) ho0 5 (by decide) rfl)
  have h := h y1 e2
  refine ⟨fun c3 => ?_, fun c3 => ?_⟩
  · have h := h.1 c3
    exact hQ _ _ h hR F
  · have h := h.2 c3
    intro y4 e5
    have e5 : y4 = yJ Y 805 o0 := e5.trans (hR.J (x := 805) ho0 5 (by decide) rfl)
    have h := h y4 e5
    refine y_X11_isBehind hR  h (fun x10 σ6 Y7 h hR9 f8 => ?_)
    have F := F.trans f8
    have hR := hR9
    refine ⟨fun c13 => ?_, fun c13 => ?_⟩
    · have h := h.1 c13
      exact hQ _ _ h hR F
    · have h := h.2 c13
      refine ⟨hR.K ho0, ?_⟩
      intro y14 e15
      have e15 : y14 = yJ Y7 805 o0 := e15.trans (hR.J (x := 805) ho0 5 (by decide) rfl)
      have h := h y14 e15
      refine y_X11_leadOf hR  h (fun x20 σ16 Y17 h hR19 f18 => ?_)
      have F := F.trans f18
      have hR := hR19
      refine y_X11_leadOf hR  h (fun x27 σ23 Y24 h hR26 f25 => ?_)
      have F := F.trans f25
      have hR := hR26
      refine y_J9_max_7cf53 hR  h (fun x34 σ30 Y31 h hR33 f32 => ?_)
      have F := F.trans f32
      have hR := hR33
      refine ⟨hR.K ho0, ?_⟩
      intro y37 e38
      have e38 : y37 = yJ Y31 805 o0 := e38.trans (hR.J (x := 805) ho0 5 (by decide) rfl)
      have h := h y37 e38
      refine y_X11_sessionOf hR  h (fun x43 σ39 Y40 h hR42 f41 => ?_)
      have F := F.trans f41
      have hR := hR42
      refine y_X11_sessionOf hR  h (fun x50 σ46 Y47 h hR49 f48 => ?_)
      have F := F.trans f48
      have hR := hR49
      refine y_J9_max_7cf53 hR  h (fun x57 σ53 Y54 h hR56 f55 => ?_)
      have F := F.trans f55
      have hR := hR56
      refine y_X11_viewOf hR  h (fun y64 σ60 Y61 h hR63 f62 => ?_)
      have F := F.trans f62
      have hR := hR63
      refine ⟨hR.K ho0, ?_⟩
      refine y_X8_turn hR ho0  h (fun σ67 Y68 h hR70 f69 => ?_)
      have F := F.trans f69
      have hR := hR70
      exact hQ _ _ h hR F
def by_X10_replay_221 (n : Nat)  (Ly50 : Nat × Int32 × Int32 → Yc → Prop) (Qy : Yc → Prop) (p1 : Nat) (p2 : Int32) (p3 : Int32) (Y : Yc) : Prop := (∀ x1 : Int32, x1 = p3 + (1 : Int32) → Ly50 (p1, p2, x1) Y)
set_option maxHeartbeats 4000000 in
set_option maxRecDepth 100000 in
theorem yb_X10_replay_221 {n : Nat} {ad aa : Nat → Nat → Nat} {σ0 : Sto} {Ly50 : Nat × Int32 × Int32 → Yc → Prop} {L50 : Option Nat × Int32 × Int32 → Sto → Prop} {Q : Sto → Prop} {Qy : Yc → Prop} (hQ : ∀ (σ' : Sto) (Y' : Yc), Qy Y' → HY n ad aa σ' Y' → Fy n ad aa σ0 σ' → Q σ') (hL50 : ∀ (t9 : Option Nat × Int32 × Int32) (t : Nat × Int32 × Int32) (σ : Sto) (Y : Yc), Ly50 t Y → HY n ad aa σ Y → Fy n ad aa σ0 σ → (((some (ad 2 t.1)), t.2.1, t.2.2) = t9 ∧ Ob n 2 t.1 ∧ True) → L50 t9 σ) (p1 : Nat) (p2 : Int32) (p3 : Int32) (σ : Sto) (Y : Yc) (hR : HY n ad aa σ Y) (F : Fy n ad aa σ0 σ) (hp1 : Ob n 2 p1) (h : by_X10_replay_221 n Ly50 Qy p1 p2 p3 Y) : b_X10_replay_221 (ad 10 0) L50 Q (some (ad 2 p1)) p2 p3 σ := by
  unfold by_X10_replay_221 at h
  unfold b_X10_replay_221
  intro x1 e2
  have h := h x1 e2
  exact hL50 _ _ _ _ h hR F ⟨rfl, hp1, trivial⟩
def by_X10_replay_110 (n : Nat)  (Ly50 : Nat × Int32 × Int32 → Yc → Prop) (Qy : Yc → Prop) (p1 : Nat) (p2 : Int32) (p3 : Int32) (p4 : Option Rq) (s0 : Int32) (s1 : Int32) (Y : Yc) : Prop := (vp_in s1 100 ∧ (vp_in p3 100 ∧ (∀ x5 : Int32, x5 = yA (uA Y 1003 0 s1.toNatClampNeg (vp_nar .boolean s0)) 1003 0 p3.toNatClampNeg → ((x5 = 0 → by_X10_replay_221 n Ly50 Qy p1 p2 p3 (uA Y 1003 0 s1.toNatClampNeg (vp_nar .boolean s0))) ∧ (¬ x5 = 0 → (∃ w11 : Rq, p4 = some w11 ∧ (∀ x13 : Int32, x13 = w11.2.2.2.1 → (vp_in x13 8 ∧ (∀ x16 : Int32, x16 = yA (uA Y 1003 0 s1.toNatClampNeg (vp_nar .boolean s0)) 1000 0 x13.toNatClampNeg → (vp_in p3 100 ∧ (∀ x22 : Int32, x22 = w11.1 → (∀ x24 : Int32, x24 = w11.2.1 → (vp_in x22 4 ∧ (∀ x29 : Int32, x29 = w11.1 → (vp_in x29 4 ∧ (∀ x33 : Int32, x33 = w11.2.2.1 → ((¬ x33 = (1 : Int32) → (∀ x36 : Int32, x36 = w11.2.2.1 → ((¬ x36 = (2 : Int32) → by_X10_replay_221 n Ly50 Qy p1 p2 p3 (uA (uA (uA (uA Y 1003 0 s1.toNatClampNeg (vp_nar .boolean s0)) 1004 0 p3.toNatClampNeg x16) 1001 0 x22.toNatClampNeg x24) 1002 0 x29.toNatClampNeg x16)) ∧ (x36 = (2 : Int32) → (∀ x40 : Int32, x40 = w11.2.2.2.1 → (∀ x42 : Int32, x42 = w11.2.2.2.2 → (∀ x44 : Int32, x44 = x16 + x42 → (vp_in x40 8 ∧ by_X10_replay_221 n Ly50 Qy p1 p2 p3 (uA (uA (uA (uA (uA Y 1003 0 s1.toNatClampNeg (vp_nar .boolean s0)) 1004 0 p3.toNatClampNeg x16) 1001 0 x22.toNatClampNeg x24) 1002 0 x29.toNatClampNeg x16) 1000 0 x40.toNatClampNeg x44))))))))) ∧ (x33 = (1 : Int32) → (∀ x48 : Int32, x48 = w11.2.2.2.1 → (∀ x50 : Int32, x50 = w11.2.2.2.2 → (vp_in x48 8 ∧ by_X10_replay_221 n Ly50 Qy p1 p2 p3 (uA (uA (uA (uA (uA Y 1003 0 s1.toNatClampNeg (vp_nar .boolean s0)) 1004 0 p3.toNatClampNeg x16) 1001 0 x22.toNatClampNeg x24) 1002 0 x29.toNatClampNeg x16) 1000 0 x48.toNatClampNeg x50))))))))))))))))))))))
set_option maxHeartbeats 4000000 in
set_option maxRecDepth 100000 in
theorem yb_X10_replay_110 {n : Nat} {ad aa : Nat → Nat → Nat} {σ0 : Sto} {Ly50 : Nat × Int32 × Int32 → Yc → Prop} {L50 : Option Nat × Int32 × Int32 → Sto → Prop} {Q : Sto → Prop} {Qy : Yc → Prop} (hQ : ∀ (σ' : Sto) (Y' : Yc), Qy Y' → HY n ad aa σ' Y' → Fy n ad aa σ0 σ' → Q σ') (hL50 : ∀ (t9 : Option Nat × Int32 × Int32) (t : Nat × Int32 × Int32) (σ : Sto) (Y : Yc), Ly50 t Y → HY n ad aa σ Y → Fy n ad aa σ0 σ → (((some (ad 2 t.1)), t.2.1, t.2.2) = t9 ∧ Ob n 2 t.1 ∧ True) → L50 t9 σ) (p1 : Nat) (p2 : Int32) (p3 : Int32) (p4 : Option Rq) (s0 : Int32) (s1 : Int32) (σ : Sto) (Y : Yc) (hR : HY n ad aa σ Y) (F : Fy n ad aa σ0 σ) (hp1 : Ob n 2 p1) {ap4 : Option Nat} (hp4 : rq σ ap4 p4) (h : by_X10_replay_110 n Ly50 Qy p1 p2 p3 p4 s0 s1 Y) : b_X10_replay_110 (ad 10 0) L50 Q (some (ad 2 p1)) p2 p3 ap4 s0 s1 (some (aa 1003 0)) σ := by
  unfold by_X10_replay_110 at h
  unfold b_X10_replay_110
  refine ⟨_, rfl, ?_⟩
  refine ⟨hR.arK (x := 1003) ob_10 3 (by decide) rfl (by decide), ?_⟩
  have hz := h.1
  refine ⟨by first | exact hR.arV (x := 1003) ob_10 3 (by decide) rfl (by decide) hz | exact hz, ?_⟩
  have h := h.2
  have w2 := hR.wA (x := 1003) ob_10 3 (by decide) rfl (by decide) (s1.toNatClampNeg) (vp_nar .boolean s0)
  have hp4 := rq.mv hR w2.2 hp4
  have F := F.trans w2.2
  have hR := w2.1
  refine ⟨hR.K ob_10, ?_⟩
  have a3 : sP σ (ad 10 0) 3 = some (aa 1003 0) := hR.ar (x := 1003) ob_10 3 (by decide) rfl (by decide)
  refine ⟨_, a3, ?_⟩
  refine ⟨hR.arK (x := 1003) ob_10 3 (by decide) rfl (by decide), ?_⟩
  have hz := h.1
  refine ⟨by first | exact hR.arV (x := 1003) ob_10 3 (by decide) rfl (by decide) hz | exact hz, ?_⟩
  have h := h.2
  intro x5 e6
  have e6 : x5 = yA (uA Y 1003 0 s1.toNatClampNeg (vp_nar .boolean s0)) 1003 0 p3.toNatClampNeg := e6.trans (hR.A (x := 1003) ob_10 3 (by decide) rfl (by decide) _)
  have h := h x5 e6
  refine ⟨fun c7 => ?_, fun c7 => ?_⟩
  · have h := h.1 c7
    exact yb_X10_replay_221 hQ hL50 p1 p2 p3 _ _ hR F hp1 h
  · have h := h.2 c7
    have a8 : sP σ (ad 10 0) 0 = some (aa 1000 0) := hR.ar (x := 1000) ob_10 0 (by decide) rfl (by decide)
    obtain ⟨w11, ew12, h⟩ := h
    obtain ⟨b9, c10⟩ := rq_ex hp4 ew12
    refine ⟨b9, c10, ?_⟩
    refine ⟨(rq_get hp4 c10 ew12).1, ?_⟩
    intro x13 e14
    have e14 : x13 = w11.2.2.2.1 := e14.trans ((rq_get hp4 c10 ew12).2.2.2.2.1)
    have h := h x13 e14
    refine ⟨_, a8, ?_⟩
    refine ⟨hR.arK (x := 1000) ob_10 0 (by decide) rfl (by decide), ?_⟩
    have hz := h.1
    refine ⟨by first | exact hR.arV (x := 1000) ob_10 0 (by decide) rfl (by decide) hz | exact hz, ?_⟩
    have h := h.2
    intro x16 e17
    have e17 : x16 = yA (uA Y 1003 0 s1.toNatClampNeg (vp_nar .boolean s0)) 1000 0 x13.toNatClampNeg := e17.trans (hR.A (x := 1000) ob_10 0 (by decide) rfl (by decide) _)
    have h := h x16 e17
    have a18 : sP σ (ad 10 0) 4 = some (aa 1004 0) := hR.ar (x := 1004) ob_10 4 (by decide) rfl (by decide)
    refine ⟨_, a18, ?_⟩
    refine ⟨hR.arK (x := 1004) ob_10 4 (by decide) rfl (by decide), ?_⟩
    have hz := h.1
    refine ⟨by first | exact hR.arV (x := 1004) ob_10 4 (by decide) rfl (by decide) hz | exact hz, ?_⟩
    have h := h.2
    have w20 := hR.wA (x := 1004) ob_10 4 (by decide) rfl (by decide) (p3.toNatClampNeg) x16
    have hp4 := rq.mv hR w20.2 hp4
    have F := F.trans w20.2
    have hR := w20.1
    have a21 : sP σ (ad 10 0) 1 = some (aa 1001 0) := hR.ar (x := 1001) ob_10 1 (by decide) rfl (by decide)
    intro x22 e23
    have e23 : x22 = w11.1 := e23.trans ((rq_get hp4 c10 ew12).2.1)
    have h := h x22 e23
    intro x24 e25
    have e25 : x24 = w11.2.1 := e25.trans ((rq_get hp4 c10 ew12).2.2.1)
    have h := h x24 e25
    refine ⟨_, a21, ?_⟩
    refine ⟨hR.arK (x := 1001) ob_10 1 (by decide) rfl (by decide), ?_⟩
    have hz := h.1
    refine ⟨by first | exact hR.arV (x := 1001) ob_10 1 (by decide) rfl (by decide) hz | exact hz, ?_⟩
    have h := h.2
    have w27 := hR.wA (x := 1001) ob_10 1 (by decide) rfl (by decide) (x22.toNatClampNeg) x24
    have hp4 := rq.mv hR w27.2 hp4
    have F := F.trans w27.2
    have hR := w27.1
    have a28 : sP σ (ad 10 0) 2 = some (aa 1002 0) := hR.ar (x := 1002) ob_10 2 (by decide) rfl (by decide)
    intro x29 e30
    have e30 : x29 = w11.1 := e30.trans ((rq_get hp4 c10 ew12).2.1)
    have h := h x29 e30
    refine ⟨_, a28, ?_⟩
    refine ⟨hR.arK (x := 1002) ob_10 2 (by decide) rfl (by decide), ?_⟩
    have hz := h.1
    refine ⟨by first | exact hR.arV (x := 1002) ob_10 2 (by decide) rfl (by decide) hz | exact hz, ?_⟩
    have h := h.2
    have w32 := hR.wA (x := 1002) ob_10 2 (by decide) rfl (by decide) (x29.toNatClampNeg) x16
    have hp4 := rq.mv hR w32.2 hp4
    have F := F.trans w32.2
    have hR := w32.1
    intro x33 e34
    have e34 : x33 = w11.2.2.1 := e34.trans ((rq_get hp4 c10 ew12).2.2.2.1)
    have h := h x33 e34
    refine ⟨fun c35 => ?_, fun c35 => ?_⟩
    · have h := h.1 c35
      intro x36 e37
      have e37 : x36 = w11.2.2.1 := e37.trans ((rq_get hp4 c10 ew12).2.2.2.1)
      have h := h x36 e37
      refine ⟨fun c38 => ?_, fun c38 => ?_⟩
      · have h := h.1 c38
        exact yb_X10_replay_221 hQ hL50 p1 p2 p3 _ _ hR F hp1 h
      · have h := h.2 c38
        have a39 : sP σ (ad 10 0) 0 = some (aa 1000 0) := hR.ar (x := 1000) ob_10 0 (by decide) rfl (by decide)
        intro x40 e41
        have e41 : x40 = w11.2.2.2.1 := e41.trans ((rq_get hp4 c10 ew12).2.2.2.2.1)
        have h := h x40 e41
        intro x42 e43
        have e43 : x42 = w11.2.2.2.2 := e43.trans ((rq_get hp4 c10 ew12).2.2.2.2.2)
        have h := h x42 e43
        intro x44 e45
        have h := h x44 e45
        have hz := h.1
        refine ⟨by first | exact hR.arV (x := 1000) ob_10 0 (by decide) rfl (by decide) hz | exact hz, ?_⟩
        have h := h.2
        have w46 := hR.wA (x := 1000) ob_10 0 (by decide) rfl (by decide) (x40.toNatClampNeg) x44
        have hp4 := rq.mv hR w46.2 hp4
        have F := F.trans w46.2
        have hR := w46.1
        exact yb_X10_replay_221 hQ hL50 p1 p2 p3 _ _ hR F hp1 h
    · have h := h.2 c35
      have a47 : sP σ (ad 10 0) 0 = some (aa 1000 0) := hR.ar (x := 1000) ob_10 0 (by decide) rfl (by decide)
      intro x48 e49
      have e49 : x48 = w11.2.2.2.1 := e49.trans ((rq_get hp4 c10 ew12).2.2.2.2.1)
      have h := h x48 e49
      intro x50 e51
      have e51 : x50 = w11.2.2.2.2 := e51.trans ((rq_get hp4 c10 ew12).2.2.2.2.2)
      have h := h x50 e51
      have hz := h.1
      refine ⟨by first | exact hR.arV (x := 1000) ob_10 0 (by decide) rfl (by decide) hz | exact hz, ?_⟩
      have h := h.2
      have w52 := hR.wA (x := 1000) ob_10 0 (by decide) rfl (by decide) (x48.toNatClampNeg) x50
      have hp4 := rq.mv hR w52.2 hp4
      have F := F.trans w52.2
      have hR := w52.1
      exact yb_X10_replay_221 hQ hL50 p1 p2 p3 _ _ hR F hp1 h
def by_X10_replay_109 (n : Nat)  (Ly50 : Nat × Int32 × Int32 → Yc → Prop) (Qy : Yc → Prop) (p1 : Nat) (p2 : Int32) (p3 : Int32) (p4 : Option Rq) (s0 : Int32) (Y : Yc) : Prop := by_X10_replay_110 n Ly50 Qy p1 p2 p3 p4 (0 : Int32) s0 Y
set_option maxHeartbeats 4000000 in
set_option maxRecDepth 100000 in
theorem yb_X10_replay_109 {n : Nat} {ad aa : Nat → Nat → Nat} {σ0 : Sto} {Ly50 : Nat × Int32 × Int32 → Yc → Prop} {L50 : Option Nat × Int32 × Int32 → Sto → Prop} {Q : Sto → Prop} {Qy : Yc → Prop} (hQ : ∀ (σ' : Sto) (Y' : Yc), Qy Y' → HY n ad aa σ' Y' → Fy n ad aa σ0 σ' → Q σ') (hL50 : ∀ (t9 : Option Nat × Int32 × Int32) (t : Nat × Int32 × Int32) (σ : Sto) (Y : Yc), Ly50 t Y → HY n ad aa σ Y → Fy n ad aa σ0 σ → (((some (ad 2 t.1)), t.2.1, t.2.2) = t9 ∧ Ob n 2 t.1 ∧ True) → L50 t9 σ) (p1 : Nat) (p2 : Int32) (p3 : Int32) (p4 : Option Rq) (s0 : Int32) (σ : Sto) (Y : Yc) (hR : HY n ad aa σ Y) (F : Fy n ad aa σ0 σ) (hp1 : Ob n 2 p1) {ap4 : Option Nat} (hp4 : rq σ ap4 p4) (h : by_X10_replay_109 n Ly50 Qy p1 p2 p3 p4 s0 Y) : b_X10_replay_109 (ad 10 0) L50 Q (some (ad 2 p1)) p2 p3 ap4 s0 (some (aa 1003 0)) σ := by
  unfold by_X10_replay_109 at h
  unfold b_X10_replay_109
  exact yb_X10_replay_110 hQ hL50 p1 p2 p3 p4 (0 : Int32) s0 _ _ hR F hp1 hp4 h
def fy_X10_replay_50 (n : Nat)  (Qy : Yc → Prop) (Ly50 : Nat × Int32 × Int32 → Yc → Prop) (t : Nat × Int32 × Int32) (Y : Yc) : Prop := ((t.2.1 ≤ t.2.2 → Qy Y) ∧ (¬ t.2.1 ≤ t.2.2 → (∀ x3 : Int32, x3 = yI Y 201 t.1 → ((x3 ≤ t.2.2 → Qy Y) ∧ (¬ x3 ≤ t.2.2 → (((100 : Int32) ≤ t.2.2 → Qy Y) ∧ (¬ (100 : Int32) ≤ t.2.2 → (vp_in t.2.2 100 ∧ (∀ q11 : Option Rq, q11 = yS Y 200 t.1 t.2.2.toNatClampNeg → ((q11 = none → by_X10_replay_109 n Ly50 Qy t.1 t.2.1 t.2.2 q11 t.2.2 Y) ∧ (∀ w17 : Rq, q11 = some w17 → (∀ x19 : Int32, x19 = w17.2.1 → (∀ x22 : Int32, x22 = w17.1 → (vp_in x22 4 ∧ (∀ x25 : Int32, x25 = yA Y 1001 0 x22.toNatClampNeg → ((x19 ≤ x25 → by_X10_replay_109 n Ly50 Qy t.1 t.2.1 t.2.2 q11 t.2.2 Y) ∧ (¬ x19 ≤ x25 → by_X10_replay_110 n Ly50 Qy t.1 t.2.1 t.2.2 q11 (1 : Int32) t.2.2 Y)))))))))))))))))
set_option maxHeartbeats 4000000 in
set_option maxRecDepth 100000 in
theorem yf_X10_replay_50 {n : Nat} {ad aa : Nat → Nat → Nat} {σ0 : Sto} {Q : Sto → Prop} {Qy : Yc → Prop} {Ly50 : Nat × Int32 × Int32 → Yc → Prop} {L50 : Option Nat × Int32 × Int32 → Sto → Prop} (hQ : ∀ (σ' : Sto) (Y' : Yc), Qy Y' → HY n ad aa σ' Y' → Fy n ad aa σ0 σ' → Q σ') (hL50 : ∀ (t9 : Option Nat × Int32 × Int32) (t : Nat × Int32 × Int32) (σ : Sto) (Y : Yc), Ly50 t Y → HY n ad aa σ Y → Fy n ad aa σ0 σ → (((some (ad 2 t.1)), t.2.1, t.2.2) = t9 ∧ Ob n 2 t.1 ∧ True) → L50 t9 σ) : ∀ (t9 : Option Nat × Int32 × Int32) (t : Nat × Int32 × Int32) (σ : Sto) (Y : Yc), HY n ad aa σ Y → Fy n ad aa σ0 σ → (((some (ad 2 t.1)), t.2.1, t.2.2) = t9 ∧ Ob n 2 t.1 ∧ True) → fy_X10_replay_50 n  Qy Ly50 t Y → f_X10_replay_50 (ad 10 0)  Q L50 t9 σ := by
  intro t9 t σ Y hR F hT h
  obtain ⟨rfl, hL_1, _⟩ := hT
  unfold fy_X10_replay_50 at h
  unfold f_X10_replay_50
  dsimp only
  refine ⟨fun c1 => ?_, fun c1 => ?_⟩
  · have h := h.1 c1
    exact hQ _ _ h hR F
  · have h := h.2 c1
    refine ⟨_, rfl, ?_⟩
    refine ⟨hR.K hL_1, ?_⟩
    intro x3 e4
    have e4 : x3 = yI Y 201 t.1 := e4.trans (hR.I (x := 201) hL_1 1 (by decide) rfl)
    have h := h x3 e4
    refine ⟨fun c5 => ?_, fun c5 => ?_⟩
    · have h := h.1 c5
      exact hQ _ _ h hR F
    · have h := h.2 c5
      refine ⟨fun c6 => ?_, fun c6 => ?_⟩
      · have h := h.1 c6
        exact hQ _ _ h hR F
      · have h := h.2 c6
        have a7 : sP σ (ad 2 t.1) 0 = some (aa 200 t.1) := hR.ar (x := 200) hL_1 0 (by decide) rfl (by decide)
        refine ⟨_, a7, ?_⟩
        refine ⟨hR.arK (x := 200) hL_1 0 (by decide) rfl (by decide), ?_⟩
        have hz := h.1
        refine ⟨by first | exact hR.arV (x := 200) hL_1 0 (by decide) rfl (by decide) hz | exact hz, ?_⟩
        have h := h.2
        obtain ⟨q11, e12⟩ : ∃ z, z = yS Y 200 t.1 t.2.2.toNatClampNeg := ⟨_, rfl⟩
        have h := h q11 e12
        intro r9 e10
        have hr13 := rq_of (hR.S (x := 200) hL_1 0 (by decide) rfl (by decide) (t.2.2.toNatClampNeg)) e10 e12
        refine ⟨hR.K ob_10, ?_⟩
        have a14 : sP σ (ad 10 0) 3 = some (aa 1003 0) := hR.ar (x := 1003) ob_10 3 (by decide) rfl (by decide)
        refine ⟨fun c15 => ?_, fun b16 c15 => ?_⟩
        · have h := h.1 (rq_none hr13 c15)
          rw [a14]
          exact yb_X10_replay_109 hQ hL50 t.1 t.2.1 t.2.2 q11 t.2.2 _ _ hR F hL_1 hr13 h
        · obtain ⟨w17, ew18⟩ := rq_some hr13 c15
          have h := h.2 w17 ew18
          refine ⟨(rq_get hr13 c15 ew18).1, ?_⟩
          intro x19 e20
          have e20 : x19 = w17.2.1 := e20.trans ((rq_get hr13 c15 ew18).2.2.1)
          have h := h x19 e20
          have a21 : sP σ (ad 10 0) 1 = some (aa 1001 0) := hR.ar (x := 1001) ob_10 1 (by decide) rfl (by decide)
          intro x22 e23
          have e23 : x22 = w17.1 := e23.trans ((rq_get hr13 c15 ew18).2.1)
          have h := h x22 e23
          refine ⟨_, a21, ?_⟩
          refine ⟨hR.arK (x := 1001) ob_10 1 (by decide) rfl (by decide), ?_⟩
          have hz := h.1
          refine ⟨by first | exact hR.arV (x := 1001) ob_10 1 (by decide) rfl (by decide) hz | exact hz, ?_⟩
          have h := h.2
          intro x25 e26
          have e26 : x25 = yA Y 1001 0 x22.toNatClampNeg := e26.trans (hR.A (x := 1001) ob_10 1 (by decide) rfl (by decide) _)
          have h := h x25 e26
          refine ⟨fun c27 => ?_, fun c27 => ?_⟩
          · have h := h.1 c27
            rw [a14]
            exact yb_X10_replay_109 hQ hL50 t.1 t.2.1 t.2.2 q11 t.2.2 _ _ hR F hL_1 hr13 h
          · have h := h.2 c27
            rw [a14]
            exact yb_X10_replay_110 hQ hL50 t.1 t.2.1 t.2.2 q11 (1 : Int32) t.2.2 _ _ hR F hL_1 hr13 h
def fy_X10_replay_23 (n : Nat)  (Qy : Yc → Prop) (Ly23 : Nat × Int32 × Int32 → Yc → Prop) (t : Nat × Int32 × Int32) (Y : Yc) : Prop := (((4 : Int32) ≤ t.2.2 → LFy (fy_X10_replay_50 n  Qy) (t.1, t.2.1, (0 : Int32)) Y) ∧ (¬ (4 : Int32) ≤ t.2.2 → (vp_in t.2.2 4 ∧ (vp_in t.2.2 4 ∧ (∀ x8 : Int32, x8 = t.2.2 + (1 : Int32) → Ly23 (t.1, t.2.1, x8) (uA (uA Y 1001 0 t.2.2.toNatClampNeg (0 : Int32)) 1002 0 t.2.2.toNatClampNeg (0 : Int32)))))))
set_option maxHeartbeats 4000000 in
set_option maxRecDepth 100000 in
theorem yf_X10_replay_23 {n : Nat} {ad aa : Nat → Nat → Nat} {σ0 : Sto} {Q : Sto → Prop} {Qy : Yc → Prop} {Ly23 : Nat × Int32 × Int32 → Yc → Prop} {L23 : Option Nat × Int32 × Int32 → Sto → Prop} (hQ : ∀ (σ' : Sto) (Y' : Yc), Qy Y' → HY n ad aa σ' Y' → Fy n ad aa σ0 σ' → Q σ') (hL23 : ∀ (t9 : Option Nat × Int32 × Int32) (t : Nat × Int32 × Int32) (σ : Sto) (Y : Yc), Ly23 t Y → HY n ad aa σ Y → Fy n ad aa σ0 σ → (((some (ad 2 t.1)), t.2.1, t.2.2) = t9 ∧ Ob n 2 t.1 ∧ True) → L23 t9 σ) : ∀ (t9 : Option Nat × Int32 × Int32) (t : Nat × Int32 × Int32) (σ : Sto) (Y : Yc), HY n ad aa σ Y → Fy n ad aa σ0 σ → (((some (ad 2 t.1)), t.2.1, t.2.2) = t9 ∧ Ob n 2 t.1 ∧ True) → fy_X10_replay_23 n  Qy Ly23 t Y → f_X10_replay_23 (ad 10 0)  Q L23 t9 σ := by
  intro t9 t σ Y hR F hT h
  obtain ⟨rfl, hL_1, _⟩ := hT
  unfold fy_X10_replay_23 at h
  unfold f_X10_replay_23
  dsimp only
  refine ⟨fun c1 => ?_, fun c1 => ?_⟩
  · have h := h.1 c1
    exact lfy (fun σ t9 t => ((some (ad 2 t.1)), t.2.1, t.2.2) = t9 ∧ Ob n 2 t.1 ∧ True) h hR F ⟨rfl, hL_1, trivial⟩ (fun Ly L hL t9 t σ Y hR F hT h => yf_X10_replay_50 hQ  hL t9 t σ Y hR F hT h)
  · have h := h.2 c1
    refine ⟨hR.K ob_10, ?_⟩
    have a2 : sP σ (ad 10 0) 1 = some (aa 1001 0) := hR.ar (x := 1001) ob_10 1 (by decide) rfl (by decide)
    refine ⟨_, a2, ?_⟩
    refine ⟨hR.arK (x := 1001) ob_10 1 (by decide) rfl (by decide), ?_⟩
    have hz := h.1
    refine ⟨by first | exact hR.arV (x := 1001) ob_10 1 (by decide) rfl (by decide) hz | exact hz, ?_⟩
    have h := h.2
    have w4 := hR.wA (x := 1001) ob_10 1 (by decide) rfl (by decide) (t.2.2.toNatClampNeg) (0 : Int32)
    have F := F.trans w4.2
    have hR := w4.1
    have a5 : sP σ (ad 10 0) 2 = some (aa 1002 0) := hR.ar (x := 1002) ob_10 2 (by decide) rfl (by decide)
    refine ⟨_, a5, ?_⟩
    refine ⟨hR.arK (x := 1002) ob_10 2 (by decide) rfl (by decide), ?_⟩
    have hz := h.1
    refine ⟨by first | exact hR.arV (x := 1002) ob_10 2 (by decide) rfl (by decide) hz | exact hz, ?_⟩
    have h := h.2
    have w7 := hR.wA (x := 1002) ob_10 2 (by decide) rfl (by decide) (t.2.2.toNatClampNeg) (0 : Int32)
    have F := F.trans w7.2
    have hR := w7.1
    intro x8 e9
    have h := h x8 e9
    exact hL23 _ _ _ _ h hR F ⟨rfl, hL_1, trivial⟩
def fy_X10_replay_2 (n : Nat)  (Qy : Yc → Prop) (Ly2 : Nat × Int32 × Int32 → Yc → Prop) (t : Nat × Int32 × Int32) (Y : Yc) : Prop := (((8 : Int32) ≤ t.2.2 → LFy (fy_X10_replay_23 n  Qy) (t.1, t.2.1, (0 : Int32)) Y) ∧ (¬ (8 : Int32) ≤ t.2.2 → (vp_in t.2.2 8 ∧ (∀ x5 : Int32, x5 = t.2.2 + (1 : Int32) → Ly2 (t.1, t.2.1, x5) (uA Y 1000 0 t.2.2.toNatClampNeg (0 : Int32))))))
set_option maxHeartbeats 4000000 in
set_option maxRecDepth 100000 in
theorem yf_X10_replay_2 {n : Nat} {ad aa : Nat → Nat → Nat} {σ0 : Sto} {Q : Sto → Prop} {Qy : Yc → Prop} {Ly2 : Nat × Int32 × Int32 → Yc → Prop} {L2 : Option Nat × Int32 × Int32 → Sto → Prop} (hQ : ∀ (σ' : Sto) (Y' : Yc), Qy Y' → HY n ad aa σ' Y' → Fy n ad aa σ0 σ' → Q σ') (hL2 : ∀ (t9 : Option Nat × Int32 × Int32) (t : Nat × Int32 × Int32) (σ : Sto) (Y : Yc), Ly2 t Y → HY n ad aa σ Y → Fy n ad aa σ0 σ → (((some (ad 2 t.1)), t.2.1, t.2.2) = t9 ∧ Ob n 2 t.1 ∧ True) → L2 t9 σ) : ∀ (t9 : Option Nat × Int32 × Int32) (t : Nat × Int32 × Int32) (σ : Sto) (Y : Yc), HY n ad aa σ Y → Fy n ad aa σ0 σ → (((some (ad 2 t.1)), t.2.1, t.2.2) = t9 ∧ Ob n 2 t.1 ∧ True) → fy_X10_replay_2 n  Qy Ly2 t Y → f_X10_replay_2 (ad 10 0)  Q L2 t9 σ := by
  intro t9 t σ Y hR F hT h
  obtain ⟨rfl, hL_1, _⟩ := hT
  unfold fy_X10_replay_2 at h
  unfold f_X10_replay_2
  dsimp only
  refine ⟨fun c1 => ?_, fun c1 => ?_⟩
  · have h := h.1 c1
    exact lfy (fun σ t9 t => ((some (ad 2 t.1)), t.2.1, t.2.2) = t9 ∧ Ob n 2 t.1 ∧ True) h hR F ⟨rfl, hL_1, trivial⟩ (fun Ly L hL t9 t σ Y hR F hT h => yf_X10_replay_23 hQ  hL t9 t σ Y hR F hT h)
  · have h := h.2 c1
    refine ⟨hR.K ob_10, ?_⟩
    have a2 : sP σ (ad 10 0) 0 = some (aa 1000 0) := hR.ar (x := 1000) ob_10 0 (by decide) rfl (by decide)
    refine ⟨_, a2, ?_⟩
    refine ⟨hR.arK (x := 1000) ob_10 0 (by decide) rfl (by decide), ?_⟩
    have hz := h.1
    refine ⟨by first | exact hR.arV (x := 1000) ob_10 0 (by decide) rfl (by decide) hz | exact hz, ?_⟩
    have h := h.2
    have w4 := hR.wA (x := 1000) ob_10 0 (by decide) rfl (by decide) (t.2.2.toNatClampNeg) (0 : Int32)
    have F := F.trans w4.2
    have hR := w4.1
    intro x5 e6
    have h := h x5 e6
    exact hL2 _ _ _ _ h hR F ⟨rfl, hL_1, trivial⟩
def wy_X10_replay (n : Nat) (p1 : Nat) (p2 : Int32) (Y : Yc) (Qy : Yc → Prop) : Prop := LFy (fy_X10_replay_2 n  Qy) (p1, p2, (0 : Int32)) Y
set_option maxHeartbeats 4000000 in
set_option maxRecDepth 100000 in
theorem y_X10_replay {n : Nat} {ad aa : Nat → Nat → Nat} {p1 : Nat} {p2 : Int32} {σ : Sto} {Y : Yc} {Q : Sto → Prop} {Qy : Yc → Prop} (hR : HY n ad aa σ Y) (hp1 : Ob n 2 p1) (h : wy_X10_replay n p1 p2 Y Qy) (hQ : ∀ (σ' : Sto) (Y' : Yc), Qy Y' → HY n ad aa σ' Y' → Fy n ad aa σ σ' → Q σ') : wp_X10_replay (ad 10 0) (some (ad 2 p1)) p2 σ Q := by
  have F : Fy n ad aa σ σ := Fy.rf
  unfold wy_X10_replay at h
  unfold wp_X10_replay
  exact lfy (fun σ t9 t => ((some (ad 2 t.1)), t.2.1, t.2.2) = t9 ∧ Ob n 2 t.1 ∧ True) h hR F ⟨rfl, hp1, trivial⟩ (fun Ly L hL t9 t σ Y hR F hT h => yf_X10_replay_2 hQ  hL t9 t σ Y hR F hT h)
def by_X8_sendReply_105 (n : Nat) (o0 : Nat)  (Qy : Yc → Prop) (s0 : Int32) (s1 : Nat) (Y : Yc) : Prop := Qy (uI Y 310 s1 s0)
set_option maxHeartbeats 4000000 in
set_option maxRecDepth 100000 in
theorem yb_X8_sendReply_105 {n : Nat} {ad aa : Nat → Nat → Nat} {σ0 : Sto} {o0 : Nat} (ho0 : Ob n 8 o0) {Q : Sto → Prop} {Qy : Yc → Prop} (hQ : ∀ (σ' : Sto) (Y' : Yc), Qy Y' → HY n ad aa σ' Y' → Fy n ad aa σ0 σ' → Q σ')  (s0 : Int32) (s1 : Nat) (σ : Sto) (Y : Yc) (hR : HY n ad aa σ Y) (F : Fy n ad aa σ0 σ) (hs1 : Ob n 3 s1) (h : by_X8_sendReply_105 n o0  Qy s0 s1 Y) : b_X8_sendReply_105 (ad 8 o0)  Q s0 (some (ad 3 s1)) σ := by
  unfold by_X8_sendReply_105 at h
  unfold b_X8_sendReply_105
  refine ⟨_, rfl, ?_⟩
  refine ⟨hR.K hs1, ?_⟩
  have w2 := hR.wI (x := 310) hs1 10 (by decide) rfl s0
  have F := F.trans w2.2
  have hR := w2.1
  exact hQ _ _ h hR F
def by_X8_sendReply_42 (n : Nat) (o0 : Nat)  (Qy : Yc → Prop) (p1 : Option Rq) (p2 : Int32) (Y : Yc) : Prop := (∀ x2 : Int32, x2 = yI Y 800 o0 → (∃ w6 : Rq, p1 = some w6 ∧ (∀ x8 : Int32, x8 = w6.1 → (∀ y10 : Int64, y10 = yJ Y 805 o0 → (∀ x14 : Int32, x14 = yI Y 201 o0 → (wy_X4_send n (11 : Int32) x2 x8 y10 x14 Y (fun (o21 : Nat) (Y18 : Yc) => (∀ x24 : Int32, x24 = w6.2.1 → ((p2 = 0 ∨ p2 = 1) ∧ ((p2 = 0 → by_X8_sendReply_105 n o0  Qy (0 : Int32) o21 (uI (uI Y18 308 o21 x24) 309 o21 p2)) ∧ (¬ p2 = 0 → (∀ x33 : Int32, x33 = w6.1 → (vp_in x33 4 ∧ (∀ x36 : Int32, x36 = yA (uI (uI Y18 308 o21 x24) 309 o21 p2) 1002 0 x33.toNatClampNeg → by_X8_sendReply_105 n o0  Qy x36 o21 (uI (uI Y18 308 o21 x24) 309 o21 p2)))))))))))))))
set_option maxHeartbeats 4000000 in
set_option maxRecDepth 100000 in
theorem yb_X8_sendReply_42 {n : Nat} {ad aa : Nat → Nat → Nat} {σ0 : Sto} {o0 : Nat} (ho0 : Ob n 8 o0) {Q : Sto → Prop} {Qy : Yc → Prop} (hQ : ∀ (σ' : Sto) (Y' : Yc), Qy Y' → HY n ad aa σ' Y' → Fy n ad aa σ0 σ' → Q σ')  (p1 : Option Rq) (p2 : Int32) (σ : Sto) (Y : Yc) (hR : HY n ad aa σ Y) (F : Fy n ad aa σ0 σ) {ap1 : Option Nat} (hp1 : rq σ ap1 p1) (h : by_X8_sendReply_42 n o0  Qy p1 p2 Y) : b_X8_sendReply_42 (ad 8 o0)  Q ap1 p2 σ := by
  unfold by_X8_sendReply_42 at h
  unfold b_X8_sendReply_42
  refine ⟨hR.K ho0, ?_⟩
  have a1 : sP σ (ad 8 o0) 1 = some (ad 4 0) := hR.lk ho0 1 (by decide) rfl
  intro x2 e3
  have e3 : x2 = yI Y 800 o0 := e3.trans (hR.I (x := 800) ho0 0 (by decide) rfl)
  have h := h x2 e3
  obtain ⟨w6, ew7, h⟩ := h
  obtain ⟨b4, c5⟩ := rq_ex hp1 ew7
  refine ⟨b4, c5, ?_⟩
  refine ⟨(rq_get hp1 c5 ew7).1, ?_⟩
  intro x8 e9
  have e9 : x8 = w6.1 := e9.trans ((rq_get hp1 c5 ew7).2.1)
  have h := h x8 e9
  intro y10 e11
  have e11 : y10 = yJ Y 805 o0 := e11.trans (hR.J (x := 805) ho0 5 (by decide) rfl)
  have h := h y10 e11
  have a12 : sP σ (ad 8 o0) 7 = some (ad 2 o0) := hR.lk ho0 7 (by decide) rfl
  refine ⟨_, a12, ?_⟩
  refine ⟨hR.K (ob_807 ho0), ?_⟩
  intro x14 e15
  have e15 : x14 = yI Y 201 o0 := e15.trans (hR.I (x := 201) (ob_807 ho0) 1 (by decide) rfl)
  have h := h x14 e15
  refine ⟨_, a1, ?_⟩
  refine ⟨hR.K ob_4, ?_⟩
  refine y_X4_send hR  h (fun o21 σ17 Y18 h hO22 hR20 f19 => ?_)
  have hp1 := rq.mv hR f19 hp1
  have F := F.trans f19
  have hR := hR20
  refine ⟨(rq_get hp1 c5 ew7).1, ?_⟩
  intro x24 e25
  have e25 : x24 = w6.2.1 := e25.trans ((rq_get hp1 c5 ew7).2.2.1)
  have h := h x24 e25
  refine ⟨_, rfl, ?_⟩
  refine ⟨hR.K hO22, ?_⟩
  have w27 := hR.wI (x := 308) hO22 8 (by decide) rfl x24
  have hp1 := rq.mv hR w27.2 hp1
  have F := F.trans w27.2
  have hR := w27.1
  refine ⟨h.1, ?_⟩
  have h := h.2
  have w28 := hR.wI (x := 309) hO22 9 (by decide) rfl p2
  have hp1 := rq.mv hR w28.2 hp1
  have F := F.trans w28.2
  have hR := w28.1
  refine ⟨fun c29 => ?_, fun c29 => ?_⟩
  · have h := h.1 c29
    exact yb_X8_sendReply_105 ho0 hQ  (0 : Int32) o21 _ _ hR F hO22 h
  · have h := h.2 c29
    refine ⟨hR.K ho0, ?_⟩
    have a30 : sP σ17 (ad 8 o0) 2 = some (ad 10 0) := hR.lk ho0 2 (by decide) rfl
    refine ⟨_, a30, ?_⟩
    refine ⟨hR.K ob_10, ?_⟩
    have a32 : sP σ17 (ad 10 0) 2 = some (aa 1002 0) := hR.ar (x := 1002) ob_10 2 (by decide) rfl (by decide)
    intro x33 e34
    have e34 : x33 = w6.1 := e34.trans ((rq_get hp1 c5 ew7).2.1)
    have h := h x33 e34
    refine ⟨_, a32, ?_⟩
    refine ⟨hR.arK (x := 1002) ob_10 2 (by decide) rfl (by decide), ?_⟩
    have hz := h.1
    refine ⟨by first | exact hR.arV (x := 1002) ob_10 2 (by decide) rfl (by decide) hz | exact hz, ?_⟩
    have h := h.2
    intro x36 e37
    have e37 : x36 = yA (uI (uI Y18 308 o21 x24) 309 o21 p2) 1002 0 x33.toNatClampNeg := e37.trans (hR.A (x := 1002) ob_10 2 (by decide) rfl (by decide) _)
    have h := h x36 e37
    exact yb_X8_sendReply_105 ho0 hQ  x36 o21 _ _ hR F hO22 h
def wy_X8_sendReply (n : Nat) (o0 : Nat) (p1 : Option Rq) (p2 : Int32) (Y : Yc) (Qy : Yc → Prop) : Prop := ((p2 = 0 → by_X8_sendReply_42 n o0  Qy p1 p2 Y) ∧ (¬ p2 = 0 → (∀ x6 : Int32, x6 = yI Y 201 o0 → (wy_X10_replay n o0 x6 Y (fun (Y10 : Yc) => (∃ w21 : Rq, p1 = some w21 ∧ (∀ x23 : Int32, x23 = w21.1 → (vp_in x23 4 ∧ (∀ x26 : Int32, x26 = yA Y10 1001 0 x23.toNatClampNeg → (∀ x28 : Int32, x28 = w21.2.1 → ((x26 = x28 → by_X8_sendReply_42 n o0  Qy p1 p2 Y10) ∧ (¬ x26 = x28 → Qy Y10))))))))))))
set_option maxHeartbeats 4000000 in
set_option maxRecDepth 100000 in
theorem y_X8_sendReply {n : Nat} {ad aa : Nat → Nat → Nat} {o0 : Nat} {p1 : Option Rq} {p2 : Int32} {σ : Sto} {Y : Yc} {Q : Sto → Prop} {Qy : Yc → Prop} (hR : HY n ad aa σ Y) (ho0 : Ob n 8 o0) {ap1 : Option Nat} (hp1 : rq σ ap1 p1) (h : wy_X8_sendReply n o0 p1 p2 Y Qy) (hQ : ∀ (σ' : Sto) (Y' : Yc), Qy Y' → HY n ad aa σ' Y' → Fy n ad aa σ σ' → Q σ') : wp_X8_sendReply (ad 8 o0) ap1 p2 σ Q := by
  have F : Fy n ad aa σ σ := Fy.rf
  unfold wy_X8_sendReply at h
  unfold wp_X8_sendReply
  refine ⟨fun c1 => ?_, fun c1 => ?_⟩
  · have h := h.1 c1
    exact yb_X8_sendReply_42 ho0 hQ  p1 p2 _ _ hR F hp1 h
  · have h := h.2 c1
    refine ⟨hR.K ho0, ?_⟩
    have a2 : sP σ (ad 8 o0) 2 = some (ad 10 0) := hR.lk ho0 2 (by decide) rfl
    have a3 : sP σ (ad 8 o0) 7 = some (ad 2 o0) := hR.lk ho0 7 (by decide) rfl
    have a4 : sP σ (ad 8 o0) 7 = some (ad 2 o0) := hR.lk ho0 7 (by decide) rfl
    refine ⟨_, a4, ?_⟩
    refine ⟨hR.K (ob_807 ho0), ?_⟩
    intro x6 e7
    have e7 : x6 = yI Y 201 o0 := e7.trans (hR.I (x := 201) (ob_807 ho0) 1 (by decide) rfl)
    have h := h x6 e7
    refine ⟨_, a2, ?_⟩
    refine ⟨hR.K ob_10, ?_⟩
    rw [a3]
    refine y_X10_replay hR (ob_807 ho0) h (fun σ9 Y10 h hR12 f11 => ?_)
    have hp1 := rq.mv hR f11 hp1
    have F := F.trans f11
    have hR := hR12
    refine ⟨hR.K ho0, ?_⟩
    have a16 : sP σ9 (ad 8 o0) 2 = some (ad 10 0) := hR.lk ho0 2 (by decide) rfl
    refine ⟨_, a16, ?_⟩
    refine ⟨hR.K ob_10, ?_⟩
    have a18 : sP σ9 (ad 10 0) 1 = some (aa 1001 0) := hR.ar (x := 1001) ob_10 1 (by decide) rfl (by decide)
    obtain ⟨w21, ew22, h⟩ := h
    obtain ⟨b19, c20⟩ := rq_ex hp1 ew22
    refine ⟨b19, c20, ?_⟩
    refine ⟨(rq_get hp1 c20 ew22).1, ?_⟩
    intro x23 e24
    have e24 : x23 = w21.1 := e24.trans ((rq_get hp1 c20 ew22).2.1)
    have h := h x23 e24
    refine ⟨_, a18, ?_⟩
    refine ⟨hR.arK (x := 1001) ob_10 1 (by decide) rfl (by decide), ?_⟩
    have hz := h.1
    refine ⟨by first | exact hR.arV (x := 1001) ob_10 1 (by decide) rfl (by decide) hz | exact hz, ?_⟩
    have h := h.2
    intro x26 e27
    have e27 : x26 = yA Y10 1001 0 x23.toNatClampNeg := e27.trans (hR.A (x := 1001) ob_10 1 (by decide) rfl (by decide) _)
    have h := h x26 e27
    intro x28 e29
    have e29 : x28 = w21.2.1 := e29.trans ((rq_get hp1 c20 ew22).2.2.1)
    have h := h x28 e29
    refine ⟨fun c30 => ?_, fun c30 => ?_⟩
    · have h := h.1 c30
      exact yb_X8_sendReply_42 ho0 hQ  p1 p2 _ _ hR F hp1 h
    · have h := h.2 c30
      exact hQ _ _ h hR F
def by_X8_sendOthers_40 (n : Nat) (o0 : Nat)  (Ly2 : Int32 × Int32 × Int32 → Yc → Prop) (Qy : Yc → Prop) (p1 : Int32) (p2 : Int32) (p3 : Int32) (Y : Yc) : Prop := (∀ x1 : Int32, x1 = p3 + (1 : Int32) → Ly2 (p1, p2, x1) Y)
set_option maxHeartbeats 4000000 in
set_option maxRecDepth 100000 in
theorem yb_X8_sendOthers_40 {n : Nat} {ad aa : Nat → Nat → Nat} {σ0 : Sto} {o0 : Nat} (ho0 : Ob n 8 o0) {Ly2 : Int32 × Int32 × Int32 → Yc → Prop} {L2 : Int32 × Int32 × Int32 → Sto → Prop} {Q : Sto → Prop} {Qy : Yc → Prop} (hQ : ∀ (σ' : Sto) (Y' : Yc), Qy Y' → HY n ad aa σ' Y' → Fy n ad aa σ0 σ' → Q σ') (hL2 : ∀ (t9 : Int32 × Int32 × Int32) (t : Int32 × Int32 × Int32) (σ : Sto) (Y : Yc), Ly2 t Y → HY n ad aa σ Y → Fy n ad aa σ0 σ → ((t.1, t.2.1, t.2.2) = t9 ∧ True) → L2 t9 σ) (p1 : Int32) (p2 : Int32) (p3 : Int32) (σ : Sto) (Y : Yc) (hR : HY n ad aa σ Y) (F : Fy n ad aa σ0 σ) (h : by_X8_sendOthers_40 n o0 Ly2 Qy p1 p2 p3 Y) : b_X8_sendOthers_40 (ad 8 o0) L2 Q p1 p2 p3 σ := by
  unfold by_X8_sendOthers_40 at h
  unfold b_X8_sendOthers_40
  intro x1 e2
  have h := h x1 e2
  exact hL2 _ _ _ _ h hR F ⟨rfl, trivial⟩
def fy_X8_sendOthers_2 (n : Nat) (o0 : Nat)  (Qy : Yc → Prop) (Ly2 : Int32 × Int32 × Int32 → Yc → Prop) (t : Int32 × Int32 × Int32) (Y : Yc) : Prop := (∀ x3 : Int32, x3 = yI Y 400 0 → ((x3 ≤ t.2.2 → Qy Y) ∧ (¬ x3 ≤ t.2.2 → (∀ x6 : Int32, x6 = yI Y 800 o0 → ((t.2.2 = x6 → by_X8_sendOthers_40 n o0 Ly2 Qy t.1 t.2.1 t.2.2 Y) ∧ (¬ t.2.2 = x6 → (∀ x10 : Int32, x10 = yI Y 800 o0 → (∀ y12 : Int64, y12 = yJ Y 805 o0 → (wy_X4_send n t.1 x10 t.2.2 y12 t.2.1 Y (fun (o18 : Nat) (Y15 : Yc) => by_X8_sendOthers_40 n o0 Ly2 Qy t.1 t.2.1 t.2.2 Y15))))))))))
set_option maxHeartbeats 4000000 in
set_option maxRecDepth 100000 in
theorem yf_X8_sendOthers_2 {n : Nat} {ad aa : Nat → Nat → Nat} {σ0 : Sto} {o0 : Nat} (ho0 : Ob n 8 o0) {Q : Sto → Prop} {Qy : Yc → Prop} {Ly2 : Int32 × Int32 × Int32 → Yc → Prop} {L2 : Int32 × Int32 × Int32 → Sto → Prop} (hQ : ∀ (σ' : Sto) (Y' : Yc), Qy Y' → HY n ad aa σ' Y' → Fy n ad aa σ0 σ' → Q σ') (hL2 : ∀ (t9 : Int32 × Int32 × Int32) (t : Int32 × Int32 × Int32) (σ : Sto) (Y : Yc), Ly2 t Y → HY n ad aa σ Y → Fy n ad aa σ0 σ → ((t.1, t.2.1, t.2.2) = t9 ∧ True) → L2 t9 σ) : ∀ (t9 : Int32 × Int32 × Int32) (t : Int32 × Int32 × Int32) (σ : Sto) (Y : Yc), HY n ad aa σ Y → Fy n ad aa σ0 σ → ((t.1, t.2.1, t.2.2) = t9 ∧ True) → fy_X8_sendOthers_2 n o0  Qy Ly2 t Y → f_X8_sendOthers_2 (ad 8 o0)  Q L2 t9 σ := by
  intro t9 t σ Y hR F hT h
  obtain ⟨rfl, _⟩ := hT
  unfold fy_X8_sendOthers_2 at h
  unfold f_X8_sendOthers_2
  dsimp only
  refine ⟨hR.K ho0, ?_⟩
  have a1 : sP σ (ad 8 o0) 1 = some (ad 4 0) := hR.lk ho0 1 (by decide) rfl
  refine ⟨_, a1, ?_⟩
  refine ⟨hR.K ob_4, ?_⟩
  intro x3 e4
  have e4 : x3 = yI Y 400 0 := e4.trans (hR.I (x := 400) ob_4 0 (by decide) rfl)
  have h := h x3 e4
  refine ⟨fun c5 => ?_, fun c5 => ?_⟩
  · have h := h.1 c5
    exact hQ _ _ h hR F
  · have h := h.2 c5
    intro x6 e7
    have e7 : x6 = yI Y 800 o0 := e7.trans (hR.I (x := 800) ho0 0 (by decide) rfl)
    have h := h x6 e7
    refine ⟨fun c8 => ?_, fun c8 => ?_⟩
    · have h := h.1 c8
      exact yb_X8_sendOthers_40 ho0 hQ hL2 t.1 t.2.1 t.2.2 _ _ hR F  h
    · have h := h.2 c8
      have a9 : sP σ (ad 8 o0) 1 = some (ad 4 0) := hR.lk ho0 1 (by decide) rfl
      intro x10 e11
      have e11 : x10 = yI Y 800 o0 := e11.trans (hR.I (x := 800) ho0 0 (by decide) rfl)
      have h := h x10 e11
      intro y12 e13
      have e13 : y12 = yJ Y 805 o0 := e13.trans (hR.J (x := 805) ho0 5 (by decide) rfl)
      have h := h y12 e13
      refine y_X4_send hR  h (fun o18 σ14 Y15 h hO19 hR17 f16 => ?_)
      have F := F.trans f16
      have hR := hR17
      exact yb_X8_sendOthers_40 ho0 hQ hL2 t.1 t.2.1 t.2.2 _ _ hR F  h
def wy_X8_sendOthers (n : Nat) (o0 : Nat) (p1 : Int32) (p2 : Int32) (Y : Yc) (Qy : Yc → Prop) : Prop := LFy (fy_X8_sendOthers_2 n o0  Qy) (p1, p2, (0 : Int32)) Y
set_option maxHeartbeats 4000000 in
set_option maxRecDepth 100000 in
theorem y_X8_sendOthers {n : Nat} {ad aa : Nat → Nat → Nat} {o0 : Nat} {p1 : Int32} {p2 : Int32} {σ : Sto} {Y : Yc} {Q : Sto → Prop} {Qy : Yc → Prop} (hR : HY n ad aa σ Y) (ho0 : Ob n 8 o0) (h : wy_X8_sendOthers n o0 p1 p2 Y Qy) (hQ : ∀ (σ' : Sto) (Y' : Yc), Qy Y' → HY n ad aa σ' Y' → Fy n ad aa σ σ' → Q σ') : wp_X8_sendOthers (ad 8 o0) p1 p2 σ Q := by
  have F : Fy n ad aa σ σ := Fy.rf
  unfold wy_X8_sendOthers at h
  unfold wp_X8_sendOthers
  exact lfy (fun σ t9 t => (t.1, t.2.1, t.2.2) = t9 ∧ True) h hR F ⟨rfl, trivial⟩ (fun Ly L hL t9 t σ Y hR F hT h => yf_X8_sendOthers_2 ho0 hQ  hL t9 t σ Y hR F hT h)
