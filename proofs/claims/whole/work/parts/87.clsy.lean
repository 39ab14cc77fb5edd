def wy_X8_askAgain (n : Nat) (o0 : Nat)  (Y : Yc) (Qy : Yc → Prop) : Prop := (∀ x1 : Int32, x1 = yI Y 804 o0 → ((¬ x1 = (2 : Int32) → (∀ x4 : Int32, x4 = yI Y 804 o0 → ((¬ x4 = (1 : Int32) → (wy_X8_leads n o0  Y (fun (x11 : Int32) (Y8 : Yc) => ((¬ x11 = 0 → Qy Y8) ∧ (x11 = 0 → (∀ x17 : Int32, x17 = yI Y8 502 o0 → ((x17 ≤ 0 → Qy Y8) ∧ (¬ x17 ≤ 0 → (∀ x22 : Int32, x22 = yI Y8 408 0 → (∀ x26 : Int32, x26 = yI (uI Y8 812 o0 x22) 800 o0 → (∀ y29 : Int64, y29 = yJ (uI Y8 812 o0 x22) 805 o0 → (wy_X4_leaderOf n y29 (uI Y8 812 o0 x22) (fun (x35 : Int32) (Y32 : Yc) => (∀ y38 : Int64, y38 = yJ Y32 805 o0 → (∀ x42 : Int32, x42 = yI Y32 201 o0 → (wy_X4_send n (1 : Int32) x26 x35 y38 (x42 + (1 : Int32)) Y32 (fun (o48 : Nat) (Y45 : Yc) => Qy Y45))))))))))))))))) ∧ (x4 = (1 : Int32) → (∀ x53 : Int32, x53 = yI Y 408 0 → (∀ x58 : Int32, x58 = yI (uI Y 812 o0 x53) 201 o0 → (wy_X8_sendOthers n o0 (3 : Int32) x58 (uI Y 812 o0 x53) (fun (Y61 : Yc) => Qy Y61)))))))) ∧ (x1 = (2 : Int32) → (wy_X8_tellTurn n o0  Y (fun (Y68 : Yc) => Qy Y68)))))
set_option maxHeartbeats 4000000 in
set_option maxRecDepth 100000 in
theorem y_X8_askAgain {n : Nat} {ad aa : Nat → Nat → Nat} {o0 : Nat} {σ : Sto} {Y : Yc} {Q : Sto → Prop} {Qy : Yc → Prop} (hR : HY n ad aa σ Y) (ho0 : Ob n 8 o0) (h : wy_X8_askAgain n o0  Y Qy) (hQ : ∀ (σ' : Sto) (Y' : Yc), Qy Y' → HY n ad aa σ' Y' → Fy n ad aa σ σ' → Q σ') : wp_X8_askAgain (ad 8 o0)  σ Q := by
  have F : Fy n ad aa σ σ := Fy.rf
  unfold wy_X8_askAgain at h
  unfold wp_X8_askAgain
  refine ⟨hR.K ho0, ?_⟩
  intro x1 e2
  have e2 : x1 = yI Y 804 o0 := e2.trans (hR.I (x := 804) ho0 4 (by decide) rfl)
  have h := h x1 e2
  refine ⟨fun c3 => ?_, fun c3 => ?_⟩
  · have h := h.1 c3
    intro x4 e5
    have e5 : x4 = yI Y 804 o0 := e5.trans (hR.I (x := 804) ho0 4 (by decide) rfl)
    have h := h x4 e5
    refine ⟨fun c6 => ?_, fun c6 => ?_⟩
    · have h := h.1 c6
      refine y_X8_leads hR ho0  h (fun x11 σ7 Y8 h hR10 f9 => ?_)
      have F := F.trans f9
      have hR := hR10
      refine ⟨fun c14 => ?_, fun c14 => ?_⟩
      · have h := h.1 c14
        exact hQ _ _ h hR F
      · have h := h.2 c14
        refine ⟨hR.K ho0, ?_⟩
        have a15 : sP σ7 (ad 8 o0) 10 = some (ad 5 o0) := hR.lk ho0 10 (by decide) rfl
        refine ⟨_, a15, ?_⟩
        refine ⟨hR.K (ob_810 ho0), ?_⟩
        intro x17 e18
        have e18 : x17 = yI Y8 502 o0 := e18.trans (hR.I (x := 502) (ob_810 ho0) 2 (by decide) rfl)
        have h := h x17 e18
        refine ⟨fun c19 => ?_, fun c19 => ?_⟩
        · have h := h.1 c19
          exact hQ _ _ h hR F
        · have h := h.2 c19
          have a20 : sP σ7 (ad 8 o0) 1 = some (ad 4 0) := hR.lk ho0 1 (by decide) rfl
          refine ⟨_, a20, ?_⟩
          refine ⟨hR.K ob_4, ?_⟩
          intro x22 e23
          have e23 : x22 = yI Y8 408 0 := e23.trans (hR.I (x := 408) ob_4 8 (by decide) rfl)
          have h := h x22 e23
          have w24 := hR.wI (x := 812) ho0 12 (by decide) rfl x22
          have F := F.trans w24.2
          have hR := w24.1
          have a25 : sP σ7 (ad 8 o0) 1 = some (ad 4 0) := hR.lk ho0 1 (by decide) rfl
          intro x26 e27
          have e27 : x26 = yI (uI Y8 812 o0 x22) 800 o0 := e27.trans (hR.I (x := 800) ho0 0 (by decide) rfl)
          have h := h x26 e27
          have a28 : sP σ7 (ad 8 o0) 1 = some (ad 4 0) := hR.lk ho0 1 (by decide) rfl
          intro y29 e30
          have e30 : y29 = yJ (uI Y8 812 o0 x22) 805 o0 := e30.trans (hR.J (x := 805) ho0 5 (by decide) rfl)
          have h := h y29 e30
          refine y_X4_leaderOf hR  h (fun x35 σ31 Y32 h hR34 f33 => ?_)
          have F := F.trans f33
          have hR := hR34
          refine ⟨hR.K ho0, ?_⟩
          intro y38 e39
          have e39 : y38 = yJ Y32 805 o0 := e39.trans (hR.J (x := 805) ho0 5 (by decide) rfl)
          have h := h y38 e39
          have a40 : sP σ31 (ad 8 o0) 7 = some (ad 2 o0) := hR.lk ho0 7 (by decide) rfl
          refine ⟨_, a40, ?_⟩
          refine ⟨hR.K (ob_807 ho0), ?_⟩
          intro x42 e43
          have e43 : x42 = yI Y32 201 o0 := e43.trans (hR.I (x := 201) (ob_807 ho0) 1 (by decide) rfl)
          have h := h x42 e43
          refine ⟨hR.K ob_4, ?_⟩
          refine y_X4_send hR  h (fun o48 σ44 Y45 h hO49 hR47 f46 => ?_)
          have F := F.trans f46
          have hR := hR47
          exact hQ _ _ h hR F
    · have h := h.2 c6
      have a51 : sP σ (ad 8 o0) 1 = some (ad 4 0) := hR.lk ho0 1 (by decide) rfl
      refine ⟨_, a51, ?_⟩
      refine ⟨hR.K ob_4, ?_⟩
      intro x53 e54
      have e54 : x53 = yI Y 408 0 := e54.trans (hR.I (x := 408) ob_4 8 (by decide) rfl)
      have h := h x53 e54
      have w55 := hR.wI (x := 812) ho0 12 (by decide) rfl x53
      have F := F.trans w55.2
      have hR := w55.1
      have a56 : sP σ (ad 8 o0) 7 = some (ad 2 o0) := hR.lk ho0 7 (by decide) rfl
      refine ⟨_, a56, ?_⟩
      refine ⟨hR.K (ob_807 ho0), ?_⟩
      intro x58 e59
      have e59 : x58 = yI (uI Y 812 o0 x53) 201 o0 := e59.trans (hR.I (x := 201) (ob_807 ho0) 1 (by decide) rfl)
      have h := h x58 e59
      refine y_X8_sendOthers hR ho0  h (fun σ60 Y61 h hR63 f62 => ?_)
      have F := F.trans f62
      have hR := hR63
      exact hQ _ _ h hR F
  · have h := h.2 c3
    refine y_X8_tellTurn hR ho0  h (fun σ67 Y68 h hR70 f69 => ?_)
    have F := F.trans f69
    have hR := hR70
    exact hQ _ _ h hR F
def by_X8_passTick_200 (n : Nat) (o0 : Nat)  (Qy : Yc → Prop) (p1 : Int32) (p2 : Int32) (p5 : Int32) (Y : Yc) : Prop := ((p5 = 0 → Qy Y) ∧ (¬ p5 = 0 → (∀ x4 : Int32, x4 = yI Y 502 o0 → ((x4 ≤ 0 → Qy Y) ∧ (¬ x4 ≤ 0 → (∀ x7 : Int32, x7 = yI Y 812 o0 → (((p2 - x7) < p1 → Qy Y) ∧ (¬ (p2 - x7) < p1 → (wy_X8_askAgain n o0  Y (fun (Y11 : Yc) => Qy Y11))))))))))
set_option maxHeartbeats 4000000 in
set_option maxRecDepth 100000 in
theorem yb_X8_passTick_200 {n : Nat} {ad aa : Nat → Nat → Nat} {σ0 : Sto} {o0 : Nat} (ho0 : Ob n 8 o0) {Q : Sto → Prop} {Qy : Yc → Prop} (hQ : ∀ (σ' : Sto) (Y' : Yc), Qy Y' → HY n ad aa σ' Y' → Fy n ad aa σ0 σ' → Q σ')  (p1 : Int32) (p2 : Int32) (p5 : Int32) (σ : Sto) (Y : Yc) (hR : HY n ad aa σ Y) (F : Fy n ad aa σ0 σ) (h : by_X8_passTick_200 n o0  Qy p1 p2 p5 Y) : b_X8_passTick_200 (ad 8 o0)  Q p1 p2 p5 σ := by
  unfold by_X8_passTick_200 at h
  unfold b_X8_passTick_200
  refine ⟨fun c1 => ?_, fun c1 => ?_⟩
  · have h := h.1 c1
    exact hQ _ _ h hR F
  · have h := h.2 c1
    refine ⟨hR.K ho0, ?_⟩
    have a2 : sP σ (ad 8 o0) 10 = some (ad 5 o0) := hR.lk ho0 10 (by decide) rfl
    refine ⟨_, a2, ?_⟩
    refine ⟨hR.K (ob_810 ho0), ?_⟩
    intro x4 e5
    have e5 : x4 = yI Y 502 o0 := e5.trans (hR.I (x := 502) (ob_810 ho0) 2 (by decide) rfl)
    have h := h x4 e5
    refine ⟨fun c6 => ?_, fun c6 => ?_⟩
    · have h := h.1 c6
      exact hQ _ _ h hR F
    · have h := h.2 c6
      intro x7 e8
      have e8 : x7 = yI Y 812 o0 := e8.trans (hR.I (x := 812) ho0 12 (by decide) rfl)
      have h := h x7 e8
      refine ⟨fun c9 => ?_, fun c9 => ?_⟩
      · have h := h.1 c9
        exact hQ _ _ h hR F
      · have h := h.2 c9
        refine y_X8_askAgain hR ho0  h (fun σ10 Y11 h hR13 f12 => ?_)
        have F := F.trans f12
        have hR := hR13
        exact hQ _ _ h hR F
def by_X8_passTick_176 (n : Nat) (o0 : Nat)  (Qy : Yc → Prop) (p1 : Int32) (p2 : Int32) (p5 : Int32) (Y : Yc) : Prop := ((p5 = 0 → by_X8_passTick_200 n o0  Qy p1 p2 p5 Y) ∧ (¬ p5 = 0 → (∀ x2 : Int32, x2 = yI Y 811 o0 → (((p2 - x2) < ((3 : Int32) * p1) → by_X8_passTick_200 n o0  Qy p1 p2 p5 Y) ∧ (¬ (p2 - x2) < ((3 : Int32) * p1) → (wy_X8_turnToNextLead n o0  Y (fun (Y6 : Yc) => Qy Y6)))))))
set_option maxHeartbeats 4000000 in
set_option maxRecDepth 100000 in
theorem yb_X8_passTick_176 {n : Nat} {ad aa : Nat → Nat → Nat} {σ0 : Sto} {o0 : Nat} (ho0 : Ob n 8 o0) {Q : Sto → Prop} {Qy : Yc → Prop} (hQ : ∀ (σ' : Sto) (Y' : Yc), Qy Y' → HY n ad aa σ' Y' → Fy n ad aa σ0 σ' → Q σ')  (p1 : Int32) (p2 : Int32) (p5 : Int32) (σ : Sto) (Y : Yc) (hR : HY n ad aa σ Y) (F : Fy n ad aa σ0 σ) (h : by_X8_passTick_176 n o0  Qy p1 p2 p5 Y) : b_X8_passTick_176 (ad 8 o0)  Q p1 p2 p5 σ := by
  unfold by_X8_passTick_176 at h
  unfold b_X8_passTick_176
  refine ⟨fun c1 => ?_, fun c1 => ?_⟩
  · have h := h.1 c1
    exact yb_X8_passTick_200 ho0 hQ  p1 p2 p5 _ _ hR F  h
  · have h := h.2 c1
    refine ⟨hR.K ho0, ?_⟩
    intro x2 e3
    have e3 : x2 = yI Y 811 o0 := e3.trans (hR.I (x := 811) ho0 11 (by decide) rfl)
    have h := h x2 e3
    refine ⟨fun c4 => ?_, fun c4 => ?_⟩
    · have h := h.1 c4
      exact yb_X8_passTick_200 ho0 hQ  p1 p2 p5 _ _ hR F  h
    · have h := h.2 c4
      refine y_X8_turnToNextLead hR ho0  h (fun σ5 Y6 h hR8 f7 => ?_)
      have F := F.trans f7
      have hR := hR8
      exact hQ _ _ h hR F
def by_X8_passTick_131 (n : Nat) (o0 : Nat)  (Qy : Yc → Prop) (p1 : Int32) (p2 : Int32) (p4 : Int32) (p5 : Int32) (Y : Yc) : Prop := ((p4 = 0 → by_X8_passTick_176 n o0  Qy p1 p2 p5 Y) ∧ (¬ p4 = 0 → (∀ x2 : Int32, x2 = yI Y 804 o0 → ((¬ x2 = 0 → by_X8_passTick_176 n o0  Qy p1 p2 p5 Y) ∧ (x2 = 0 → (∀ x7 : Int32, x7 = yI Y 201 o0 → (∀ x9 : Int32, x9 = yI Y 808 o0 → ((x7 ≤ x9 → by_X8_passTick_176 n o0  Qy p1 p2 p5 Y) ∧ (¬ x7 ≤ x9 → (∀ x12 : Int32, x12 = yI Y 815 o0 → (((p2 - x12) < ((4 : Int32) * p1) → by_X8_passTick_176 n o0  Qy p1 p2 p5 Y) ∧ (¬ (p2 - x12) < ((4 : Int32) * p1) → (wy_X8_sendSync n o0  Y (fun (Y16 : Yc) => Qy Y16))))))))))))))
set_option maxHeartbeats 4000000 in
set_option maxRecDepth 100000 in
theorem yb_X8_passTick_131 {n : Nat} {ad aa : Nat → Nat → Nat} {σ0 : Sto} {o0 : Nat} (ho0 : Ob n 8 o0) {Q : Sto → Prop} {Qy : Yc → Prop} (hQ : ∀ (σ' : Sto) (Y' : Yc), Qy Y' → HY n ad aa σ' Y' → Fy n ad aa σ0 σ' → Q σ')  (p1 : Int32) (p2 : Int32) (p4 : Int32) (p5 : Int32) (σ : Sto) (Y : Yc) (hR : HY n ad aa σ Y) (F : Fy n ad aa σ0 σ) (h : by_X8_passTick_131 n o0  Qy p1 p2 p4 p5 Y) : b_X8_passTick_131 (ad 8 o0)  Q p1 p2 p4 p5 σ := by
  unfold by_X8_passTick_131 at h
  unfold b_X8_passTick_131
  refine ⟨fun c1 => ?_, fun c1 => ?_⟩
  · have h := h.1 c1
    exact yb_X8_passTick_176 ho0 hQ  p1 p2 p5 _ _ hR F  h
  · have h := h.2 c1
    refine ⟨hR.K ho0, ?_⟩
    intro x2 e3
    have e3 : x2 = yI Y 804 o0 := e3.trans (hR.I (x := 804) ho0 4 (by decide) rfl)
    have h := h x2 e3
    refine ⟨fun c4 => ?_, fun c4 => ?_⟩
    · have h := h.1 c4
      exact yb_X8_passTick_176 ho0 hQ  p1 p2 p5 _ _ hR F  h
    · have h := h.2 c4
      have a5 : sP σ (ad 8 o0) 7 = some (ad 2 o0) := hR.lk ho0 7 (by decide) rfl
      refine ⟨_, a5, ?_⟩
      refine ⟨hR.K (ob_807 ho0), ?_⟩
      intro x7 e8
      have e8 : x7 = yI Y 201 o0 := e8.trans (hR.I (x := 201) (ob_807 ho0) 1 (by decide) rfl)
      have h := h x7 e8
      intro x9 e10
      have e10 : x9 = yI Y 808 o0 := e10.trans (hR.I (x := 808) ho0 8 (by decide) rfl)
      have h := h x9 e10
      refine ⟨fun c11 => ?_, fun c11 => ?_⟩
      · have h := h.1 c11
        exact yb_X8_passTick_176 ho0 hQ  p1 p2 p5 _ _ hR F  h
      · have h := h.2 c11
        intro x12 e13
        have e13 : x12 = yI Y 815 o0 := e13.trans (hR.I (x := 815) ho0 15 (by decide) rfl)
        have h := h x12 e13
        refine ⟨fun c14 => ?_, fun c14 => ?_⟩
        · have h := h.1 c14
          exact yb_X8_passTick_176 ho0 hQ  p1 p2 p5 _ _ hR F  h
        · have h := h.2 c14
          refine y_X8_sendSync hR ho0  h (fun σ15 Y16 h hR18 f17 => ?_)
          have F := F.trans f17
          have hR := hR18
          exact hQ _ _ h hR F
def by_X8_passTick_101 (n : Nat) (o0 : Nat)  (Qy : Yc → Prop) (p1 : Int32) (p2 : Int32) (p4 : Int32) (p5 : Int32) (Y : Yc) : Prop := ((p4 = 0 → by_X8_passTick_131 n o0  Qy p1 p2 p4 p5 Y) ∧ (¬ p4 = 0 → (∀ x2 : Int32, x2 = yI Y 814 o0 → (((p2 - x2) < p1 → by_X8_passTick_131 n o0  Qy p1 p2 p4 p5 Y) ∧ (¬ (p2 - x2) < p1 → (wy_X8_sendOthers n o0 (12 : Int32) (0 : Int32) (uI Y 814 o0 p2) (fun (Y7 : Yc) => Qy Y7)))))))
set_option maxHeartbeats 4000000 in
set_option maxRecDepth 100000 in
theorem yb_X8_passTick_101 {n : Nat} {ad aa : Nat → Nat → Nat} {σ0 : Sto} {o0 : Nat} (ho0 : Ob n 8 o0) {Q : Sto → Prop} {Qy : Yc → Prop} (hQ : ∀ (σ' : Sto) (Y' : Yc), Qy Y' → HY n ad aa σ' Y' → Fy n ad aa σ0 σ' → Q σ')  (p1 : Int32) (p2 : Int32) (p4 : Int32) (p5 : Int32) (σ : Sto) (Y : Yc) (hR : HY n ad aa σ Y) (F : Fy n ad aa σ0 σ) (h : by_X8_passTick_101 n o0  Qy p1 p2 p4 p5 Y) : b_X8_passTick_101 (ad 8 o0)  Q p1 p2 p4 p5 σ := by
  unfold by_X8_passTick_101 at h
  unfold b_X8_passTick_101
  refine ⟨fun c1 => ?_, fun c1 => ?_⟩
  · have h := h.1 c1
    exact yb_X8_passTick_131 ho0 hQ  p1 p2 p4 p5 _ _ hR F  h
  · have h := h.2 c1
    refine ⟨hR.K ho0, ?_⟩
    intro x2 e3
    have e3 : x2 = yI Y 814 o0 := e3.trans (hR.I (x := 814) ho0 14 (by decide) rfl)
    have h := h x2 e3
    refine ⟨fun c4 => ?_, fun c4 => ?_⟩
    · have h := h.1 c4
      exact yb_X8_passTick_131 ho0 hQ  p1 p2 p4 p5 _ _ hR F  h
    · have h := h.2 c4
      have w5 := hR.wI (x := 814) ho0 14 (by decide) rfl p2
      have F := F.trans w5.2
      have hR := w5.1
      refine y_X8_sendOthers hR ho0  h (fun σ6 Y7 h hR9 f8 => ?_)
      have F := F.trans f8
      have hR := hR9
      exact hQ _ _ h hR F
def by_X8_passTick_77 (n : Nat) (o0 : Nat)  (Qy : Yc → Prop) (p1 : Int32) (p2 : Int32) (p4 : Int32) (p5 : Int32) (Y : Yc) : Prop := (∀ x1 : Int32, x1 = yI Y 804 o0 → ((x1 = 0 → by_X8_passTick_101 n o0  Qy p1 p2 p4 p5 Y) ∧ (¬ x1 = 0 → (∀ x4 : Int32, x4 = yI Y 812 o0 → (((p2 - x4) < p1 → by_X8_passTick_101 n o0  Qy p1 p2 p4 p5 Y) ∧ (¬ (p2 - x4) < p1 → (wy_X8_askAgain n o0  Y (fun (Y8 : Yc) => Qy Y8))))))))
set_option maxHeartbeats 4000000 in
set_option maxRecDepth 100000 in
theorem yb_X8_passTick_77 {n : Nat} {ad aa : Nat → Nat → Nat} {σ0 : Sto} {o0 : Nat} (ho0 : Ob n 8 o0) {Q : Sto → Prop} {Qy : Yc → Prop} (hQ : ∀ (σ' : Sto) (Y' : Yc), Qy Y' → HY n ad aa σ' Y' → Fy n ad aa σ0 σ' → Q σ')  (p1 : Int32) (p2 : Int32) (p4 : Int32) (p5 : Int32) (σ : Sto) (Y : Yc) (hR : HY n ad aa σ Y) (F : Fy n ad aa σ0 σ) (h : by_X8_passTick_77 n o0  Qy p1 p2 p4 p5 Y) : b_X8_passTick_77 (ad 8 o0)  Q p1 p2 p4 p5 σ := by
  unfold by_X8_passTick_77 at h
  unfold b_X8_passTick_77
  refine ⟨hR.K ho0, ?_⟩
  intro x1 e2
  have e2 : x1 = yI Y 804 o0 := e2.trans (hR.I (x := 804) ho0 4 (by decide) rfl)
  have h := h x1 e2
  refine ⟨fun c3 => ?_, fun c3 => ?_⟩
  · have h := h.1 c3
    exact yb_X8_passTick_101 ho0 hQ  p1 p2 p4 p5 _ _ hR F  h
  · have h := h.2 c3
    intro x4 e5
    have e5 : x4 = yI Y 812 o0 := e5.trans (hR.I (x := 812) ho0 12 (by decide) rfl)
    have h := h x4 e5
    refine ⟨fun c6 => ?_, fun c6 => ?_⟩
    · have h := h.1 c6
      exact yb_X8_passTick_101 ho0 hQ  p1 p2 p4 p5 _ _ hR F  h
    · have h := h.2 c6
      refine y_X8_askAgain hR ho0  h (fun σ7 Y8 h hR10 f9 => ?_)
      have F := F.trans f9
      have hR := hR10
      exact hQ _ _ h hR F
def by_X8_passTick_48 (n : Nat) (o0 : Nat)  (Qy : Yc → Prop) (p1 : Int32) (p2 : Int32) (p4 : Int32) (s0 : Int32) (Y : Yc) : Prop := (∀ x1 : Int32, x1 = yI Y 804 o0 → ((¬ x1 = (2 : Int32) → by_X8_passTick_77 n o0  Qy p1 p2 p4 s0 Y) ∧ (x1 = (2 : Int32) → (∀ x4 : Int32, x4 = yI Y 813 o0 → (((p2 - x4) < ((4 : Int32) * p1) → by_X8_passTick_77 n o0  Qy p1 p2 p4 s0 Y) ∧ (¬ (p2 - x4) < ((4 : Int32) * p1) → (wy_X8_turnToNextLead n o0  Y (fun (Y8 : Yc) => Qy Y8))))))))
set_option maxHeartbeats 4000000 in
set_option maxRecDepth 100000 in
theorem yb_X8_passTick_48 {n : Nat} {ad aa : Nat → Nat → Nat} {σ0 : Sto} {o0 : Nat} (ho0 : Ob n 8 o0) {Q : Sto → Prop} {Qy : Yc → Prop} (hQ : ∀ (σ' : Sto) (Y' : Yc), Qy Y' → HY n ad aa σ' Y' → Fy n ad aa σ0 σ' → Q σ')  (p1 : Int32) (p2 : Int32) (p4 : Int32) (s0 : Int32) (σ : Sto) (Y : Yc) (hR : HY n ad aa σ Y) (F : Fy n ad aa σ0 σ) (h : by_X8_passTick_48 n o0  Qy p1 p2 p4 s0 Y) : b_X8_passTick_48 (ad 8 o0)  Q p1 p2 p4 s0 σ := by
  unfold by_X8_passTick_48 at h
  unfold b_X8_passTick_48
  refine ⟨hR.K ho0, ?_⟩
  intro x1 e2
  have e2 : x1 = yI Y 804 o0 := e2.trans (hR.I (x := 804) ho0 4 (by decide) rfl)
  have h := h x1 e2
  refine ⟨fun c3 => ?_, fun c3 => ?_⟩
  · have h := h.1 c3
    exact yb_X8_passTick_77 ho0 hQ  p1 p2 p4 s0 _ _ hR F  h
  · have h := h.2 c3
    intro x4 e5
    have e5 : x4 = yI Y 813 o0 := e5.trans (hR.I (x := 813) ho0 13 (by decide) rfl)
    have h := h x4 e5
    refine ⟨fun c6 => ?_, fun c6 => ?_⟩
    · have h := h.1 c6
      exact yb_X8_passTick_77 ho0 hQ  p1 p2 p4 s0 _ _ hR F  h
    · have h := h.2 c6
      refine y_X8_turnToNextLead hR ho0  h (fun σ7 Y8 h hR10 f9 => ?_)
      have F := F.trans f9
      have hR := hR10
      exact hQ _ _ h hR F
def by_X8_passTick_47 (n : Nat) (o0 : Nat)  (Qy : Yc → Prop) (p1 : Int32) (p2 : Int32) (p4 : Int32) (Y : Yc) : Prop := by_X8_passTick_48 n o0  Qy p1 p2 p4 (0 : Int32) Y
set_option maxHeartbeats 4000000 in
set_option maxRecDepth 100000 in
theorem yb_X8_passTick_47 {n : Nat} {ad aa : Nat → Nat → Nat} {σ0 : Sto} {o0 : Nat} (ho0 : Ob n 8 o0) {Q : Sto → Prop} {Qy : Yc → Prop} (hQ : ∀ (σ' : Sto) (Y' : Yc), Qy Y' → HY n ad aa σ' Y' → Fy n ad aa σ0 σ' → Q σ')  (p1 : Int32) (p2 : Int32) (p4 : Int32) (σ : Sto) (Y : Yc) (hR : HY n ad aa σ Y) (F : Fy n ad aa σ0 σ) (h : by_X8_passTick_47 n o0  Qy p1 p2 p4 Y) : b_X8_passTick_47 (ad 8 o0)  Q p1 p2 p4 σ := by
  unfold by_X8_passTick_47 at h
  unfold b_X8_passTick_47
  exact yb_X8_passTick_48 ho0 hQ  p1 p2 p4 (0 : Int32) _ _ hR F  h
def by_X8_passTick_30 (n : Nat) (o0 : Nat)  (Qy : Yc → Prop) (p1 : Int32) (p2 : Int32) (p3 : Int32) (s0 : Int32) (Y : Yc) : Prop := ((¬ p3 = 0 → by_X8_passTick_47 n o0  Qy p1 p2 s0 Y) ∧ (p3 = 0 → (∀ x2 : Int32, x2 = yI Y 804 o0 → ((¬ x2 = 0 → by_X8_passTick_47 n o0  Qy p1 p2 s0 Y) ∧ (x2 = 0 → by_X8_passTick_48 n o0  Qy p1 p2 s0 (1 : Int32) Y)))))
set_option maxHeartbeats 4000000 in
set_option maxRecDepth 100000 in
theorem yb_X8_passTick_30 {n : Nat} {ad aa : Nat → Nat → Nat} {σ0 : Sto} {o0 : Nat} (ho0 : Ob n 8 o0) {Q : Sto → Prop} {Qy : Yc → Prop} (hQ : ∀ (σ' : Sto) (Y' : Yc), Qy Y' → HY n ad aa σ' Y' → Fy n ad aa σ0 σ' → Q σ')  (p1 : Int32) (p2 : Int32) (p3 : Int32) (s0 : Int32) (σ : Sto) (Y : Yc) (hR : HY n ad aa σ Y) (F : Fy n ad aa σ0 σ) (h : by_X8_passTick_30 n o0  Qy p1 p2 p3 s0 Y) : b_X8_passTick_30 (ad 8 o0)  Q p1 p2 p3 s0 σ := by
  unfold by_X8_passTick_30 at h
  unfold b_X8_passTick_30
  refine ⟨fun c1 => ?_, fun c1 => ?_⟩
  · have h := h.1 c1
    exact yb_X8_passTick_47 ho0 hQ  p1 p2 s0 _ _ hR F  h
  · have h := h.2 c1
    refine ⟨hR.K ho0, ?_⟩
    intro x2 e3
    have e3 : x2 = yI Y 804 o0 := e3.trans (hR.I (x := 804) ho0 4 (by decide) rfl)
    have h := h x2 e3
    refine ⟨fun c4 => ?_, fun c4 => ?_⟩
    · have h := h.1 c4
      exact yb_X8_passTick_47 ho0 hQ  p1 p2 s0 _ _ hR F  h
    · have h := h.2 c4
      exact yb_X8_passTick_48 ho0 hQ  p1 p2 s0 (1 : Int32) _ _ hR F  h
def by_X8_passTick_29 (n : Nat) (o0 : Nat)  (Qy : Yc → Prop) (p1 : Int32) (p2 : Int32) (p3 : Int32) (Y : Yc) : Prop := by_X8_passTick_30 n o0  Qy p1 p2 p3 (0 : Int32) Y
set_option maxHeartbeats 4000000 in
set_option maxRecDepth 100000 in
theorem yb_X8_passTick_29 {n : Nat} {ad aa : Nat → Nat → Nat} {σ0 : Sto} {o0 : Nat} (ho0 : Ob n 8 o0) {Q : Sto → Prop} {Qy : Yc → Prop} (hQ : ∀ (σ' : Sto) (Y' : Yc), Qy Y' → HY n ad aa σ' Y' → Fy n ad aa σ0 σ' → Q σ')  (p1 : Int32) (p2 : Int32) (p3 : Int32) (σ : Sto) (Y : Yc) (hR : HY n ad aa σ Y) (F : Fy n ad aa σ0 σ) (h : by_X8_passTick_29 n o0  Qy p1 p2 p3 Y) : b_X8_passTick_29 (ad 8 o0)  Q p1 p2 p3 σ := by
  unfold by_X8_passTick_29 at h
  unfold b_X8_passTick_29
  exact yb_X8_passTick_30 ho0 hQ  p1 p2 p3 (0 : Int32) _ _ hR F  h
def wy_X8_passTick (n : Nat) (o0 : Nat) (p1 : Int32) (Y : Yc) (Qy : Yc → Prop) : Prop := (∀ x3 : Int32, x3 = yI Y 408 0 → (wy_X8_leads n o0  Y (fun (x9 : Int32) (Y6 : Yc) => ((x9 = 0 → by_X8_passTick_29 n o0  Qy p1 x3 x9 Y6) ∧ (¬ x9 = 0 → (∀ x13 : Int32, x13 = yI Y6 804 o0 → ((x13 = (2 : Int32) → by_X8_passTick_29 n o0  Qy p1 x3 x9 Y6) ∧ (¬ x13 = (2 : Int32) → by_X8_passTick_30 n o0  Qy p1 x3 x9 (1 : Int32) Y6))))))))
set_option maxHeartbeats 4000000 in
set_option maxRecDepth 100000 in
theorem y_X8_passTick {n : Nat} {ad aa : Nat → Nat → Nat} {o0 : Nat} {p1 : Int32} {σ : Sto} {Y : Yc} {Q : Sto → Prop} {Qy : Yc → Prop} (hR : HY n ad aa σ Y) (ho0 : Ob n 8 o0) (h : wy_X8_passTick n o0 p1 Y Qy) (hQ : ∀ (σ' : Sto) (Y' : Yc), Qy Y' → HY n ad aa σ' Y' → Fy n ad aa σ σ' → Q σ') : wp_X8_passTick (ad 8 o0) p1 σ Q := by
  have F : Fy n ad aa σ σ := Fy.rf
  unfold wy_X8_passTick at h
  unfold wp_X8_passTick
  refine ⟨hR.K ho0, ?_⟩
  have a1 : sP σ (ad 8 o0) 1 = some (ad 4 0) := hR.lk ho0 1 (by decide) rfl
  refine ⟨_, a1, ?_⟩
  refine ⟨hR.K ob_4, ?_⟩
  intro x3 e4
  have e4 : x3 = yI Y 408 0 := e4.trans (hR.I (x := 408) ob_4 8 (by decide) rfl)
  have h := h x3 e4
  refine y_X8_leads hR ho0  h (fun x9 σ5 Y6 h hR8 f7 => ?_)
  have F := F.trans f7
  have hR := hR8
  refine ⟨fun c12 => ?_, fun c12 => ?_⟩
  · have h := h.1 c12
    exact yb_X8_passTick_29 ho0 hQ  p1 x3 x9 _ _ hR F  h
  · have h := h.2 c12
    refine ⟨hR.K ho0, ?_⟩
    intro x13 e14
    have e14 : x13 = yI Y6 804 o0 := e14.trans (hR.I (x := 804) ho0 4 (by decide) rfl)
    have h := h x13 e14
    refine ⟨fun c15 => ?_, fun c15 => ?_⟩
    · have h := h.1 c15
      exact yb_X8_passTick_29 ho0 hQ  p1 x3 x9 _ _ hR F  h
    · have h := h.2 c15
      exact yb_X8_passTick_30 ho0 hQ  p1 x3 x9 (1 : Int32) _ _ hR F  h
def wy_X8_writeHead (n : Nat) (o0 : Nat) (p1 : Nat) (Y : Yc) (Qy : Yc → Prop) : Prop := (wy_X0_add n p1 (79 : Int32) Y (fun (Y3 : Yc) => (wy_X0_add n p1 (82 : Int32) Y3 (fun (Y10 : Yc) => (wy_X0_add n p1 (87 : Int32) Y10 (fun (Y17 : Yc) => (wy_X0_add n p1 (75 : Int32) Y17 (fun (Y24 : Yc) => (∀ x30 : Int32, x30 = yI Y24 800 o0 → (wy_X0_add n p1 x30 Y24 (fun (Y33 : Yc) => (∀ x39 : Int32, x39 = yI Y33 804 o0 → (wy_X0_add n p1 x39 Y33 (fun (Y42 : Yc) => (wy_X0_addZeros n p1 (2 : Int32) Y42 (fun (Y49 : Yc) => (∀ y55 : Int64, y55 = yJ Y49 805 o0 → (wy_X11_leadOf n y55 Y49 (fun (x61 : Int32) (Y58 : Yc) => (wy_X0_addWord n p1 x61 Y58 (fun (Y65 : Yc) => (∀ y71 : Int64, y71 = yJ Y65 805 o0 → (wy_X11_sessionOf n y71 Y65 (fun (x77 : Int32) (Y74 : Yc) => (wy_X0_addWord n p1 x77 Y74 (fun (Y81 : Yc) => (∀ y87 : Int64, y87 = yJ Y81 806 o0 → (wy_X11_leadOf n y87 Y81 (fun (x93 : Int32) (Y90 : Yc) => (wy_X0_addWord n p1 x93 Y90 (fun (Y97 : Yc) => (∀ y103 : Int64, y103 = yJ Y97 806 o0 → (wy_X11_sessionOf n y103 Y97 (fun (x109 : Int32) (Y106 : Yc) => (wy_X0_addWord n p1 x109 Y106 (fun (Y113 : Yc) => (∀ x121 : Int32, x121 = yI Y113 202 o0 → (wy_X0_addWord n p1 x121 Y113 (fun (Y124 : Yc) => (∀ x130 : Int32, x130 = yI Y124 808 o0 → (wy_X0_addWord n p1 x130 Y124 (fun (Y133 : Yc) => (∀ x139 : Int32, x139 = yI Y133 809 o0 → (wy_X0_addWord n p1 x139 Y133 (fun (Y142 : Yc) => (∀ x150 : Int32, x150 = yI Y142 201 o0 → (wy_X0_addWord n p1 x150 Y142 (fun (Y153 : Yc) => Qy Y153))))))))))))))))))))))))))))))))))))))))))))))))
set_option maxHeartbeats 4000000 in
set_option maxRecDepth 100000 in
theorem y_X8_writeHead {n : Nat} {ad aa : Nat → Nat → Nat} {o0 : Nat} {p1 : Nat} {σ : Sto} {Y : Yc} {Q : Sto → Prop} {Qy : Yc → Prop} (hR : HY n ad aa σ Y) (ho0 : Ob n 8 o0) (hp1 : Ob n 0 p1) (h : wy_X8_writeHead n o0 p1 Y Qy) (hQ : ∀ (σ' : Sto) (Y' : Yc), Qy Y' → HY n ad aa σ' Y' → Fy n ad aa σ σ' → Q σ') : wp_X8_writeHead (ad 8 o0) (some (ad 0 p1)) σ Q := by
  have F : Fy n ad aa σ σ := Fy.rf
  unfold wy_X8_writeHead at h
  unfold wp_X8_writeHead
  refine ⟨_, rfl, ?_⟩
  refine ⟨hR.K hp1, ?_⟩
  refine y_X0_add hR hp1  h (fun σ2 Y3 h hR5 f4 => ?_)
  have F := F.trans f4
  have hR := hR5
  refine ⟨hR.K hp1, ?_⟩
  refine y_X0_add hR hp1  h (fun σ9 Y10 h hR12 f11 => ?_)
  have F := F.trans f11
  have hR := hR12
  refine ⟨hR.K hp1, ?_⟩
  refine y_X0_add hR hp1  h (fun σ16 Y17 h hR19 f18 => ?_)
  have F := F.trans f18
  have hR := hR19
  refine ⟨hR.K hp1, ?_⟩
  refine y_X0_add hR hp1  h (fun σ23 Y24 h hR26 f25 => ?_)
  have F := F.trans f25
  have hR := hR26
  refine ⟨hR.K ho0, ?_⟩
  intro x30 e31
  have e31 : x30 = yI Y24 800 o0 := e31.trans (hR.I (x := 800) ho0 0 (by decide) rfl)
  have h := h x30 e31
  refine ⟨hR.K hp1, ?_⟩
  refine y_X0_add hR hp1  h (fun σ32 Y33 h hR35 f34 => ?_)
  have F := F.trans f34
  have hR := hR35
  refine ⟨hR.K ho0, ?_⟩
  intro x39 e40
  have e40 : x39 = yI Y33 804 o0 := e40.trans (hR.I (x := 804) ho0 4 (by decide) rfl)
  have h := h x39 e40
  refine ⟨hR.K hp1, ?_⟩
  refine y_X0_add hR hp1  h (fun σ41 Y42 h hR44 f43 => ?_)
  have F := F.trans f43
  have hR := hR44
  refine ⟨hR.K hp1, ?_⟩
  refine y_X0_addZeros hR hp1  h (fun σ48 Y49 h hR51 f50 => ?_)
  have F := F.trans f50
  have hR := hR51
  refine ⟨hR.K ho0, ?_⟩
  intro y55 e56
  have e56 : y55 = yJ Y49 805 o0 := e56.trans (hR.J (x := 805) ho0 5 (by decide) rfl)
  have h := h y55 e56
  refine y_X11_leadOf hR  h (fun x61 σ57 Y58 h hR60 f59 => ?_)
  have F := F.trans f59
  have hR := hR60
  refine ⟨hR.K hp1, ?_⟩
  refine y_X0_addWord hR hp1  h (fun σ64 Y65 h hR67 f66 => ?_)
  have F := F.trans f66
  have hR := hR67
  refine ⟨hR.K ho0, ?_⟩
  intro y71 e72
  have e72 : y71 = yJ Y65 805 o0 := e72.trans (hR.J (x := 805) ho0 5 (by decide) rfl)
  have h := h y71 e72
  refine y_X11_sessionOf hR  h (fun x77 σ73 Y74 h hR76 f75 => ?_)
  have F := F.trans f75
  have hR := hR76
  refine ⟨hR.K hp1, ?_⟩
  refine y_X0_addWord hR hp1  h (fun σ80 Y81 h hR83 f82 => ?_)
  have F := F.trans f82
  have hR := hR83
  refine ⟨hR.K ho0, ?_⟩
  intro y87 e88
  have e88 : y87 = yJ Y81 806 o0 := e88.trans (hR.J (x := 806) ho0 6 (by decide) rfl)
  have h := h y87 e88
  refine y_X11_leadOf hR  h (fun x93 σ89 Y90 h hR92 f91 => ?_)
  have F := F.trans f91
  have hR := hR92
  refine ⟨hR.K hp1, ?_⟩
  refine y_X0_addWord hR hp1  h (fun σ96 Y97 h hR99 f98 => ?_)
  have F := F.trans f98
  have hR := hR99
  refine ⟨hR.K ho0, ?_⟩
  intro y103 e104
  have e104 : y103 = yJ Y97 806 o0 := e104.trans (hR.J (x := 806) ho0 6 (by decide) rfl)
  have h := h y103 e104
  refine y_X11_sessionOf hR  h (fun x109 σ105 Y106 h hR108 f107 => ?_)
  have F := F.trans f107
  have hR := hR108
  refine ⟨hR.K hp1, ?_⟩
  refine y_X0_addWord hR hp1  h (fun σ112 Y113 h hR115 f114 => ?_)
  have F := F.trans f114
  have hR := hR115
  refine ⟨hR.K ho0, ?_⟩
  have a119 : sP σ112 (ad 8 o0) 7 = some (ad 2 o0) := hR.lk ho0 7 (by decide) rfl
  refine ⟨_, a119, ?_⟩
  refine ⟨hR.K (ob_807 ho0), ?_⟩
  intro x121 e122
  have e122 : x121 = yI Y113 202 o0 := e122.trans (hR.I (x := 202) (ob_807 ho0) 2 (by decide) rfl)
  have h := h x121 e122
  refine ⟨hR.K hp1, ?_⟩
  refine y_X0_addWord hR hp1  h (fun σ123 Y124 h hR126 f125 => ?_)
  have F := F.trans f125
  have hR := hR126
  refine ⟨hR.K ho0, ?_⟩
  intro x130 e131
  have e131 : x130 = yI Y124 808 o0 := e131.trans (hR.I (x := 808) ho0 8 (by decide) rfl)
  have h := h x130 e131
  refine ⟨hR.K hp1, ?_⟩
  refine y_X0_addWord hR hp1  h (fun σ132 Y133 h hR135 f134 => ?_)
  have F := F.trans f134
  have hR := hR135
  refine ⟨hR.K ho0, ?_⟩
  intro x139 e140
  have e140 : x139 = yI Y133 809 o0 := e140.trans (hR.I (x := 809) ho0 9 (by decide) rfl)
  have h := h x139 e140
  refine ⟨hR.K hp1, ?_⟩
  refine y_X0_addWord hR hp1  h (fun σ141 Y142 h hR144 f143 => ?_)
  have F := F.trans f143
  have hR := hR144
  refine ⟨hR.K ho0, ?_⟩
  have a148 : sP σ141 (ad 8 o0) 7 = some (ad 2 o0) := hR.lk ho0 7 (by decide) rfl
  refine ⟨_, a148, ?_⟩
  refine ⟨hR.K (ob_807 ho0), ?_⟩
  intro x150 e151
  have e151 : x150 = yI Y142 201 o0 := e151.trans (hR.I (x := 201) (ob_807 ho0) 1 (by decide) rfl)
  have h := h x150 e151
  refine ⟨hR.K hp1, ?_⟩
  refine y_X0_addWord hR hp1  h (fun σ152 Y153 h hR155 f154 => ?_)
  have F := F.trans f154
  have hR := hR155
  exact hQ _ _ h hR F
def wy_X11_isSameRequest (n : Nat) (p0 : Option Rq) (p1 : Option Rq) (Y : Yc) (Qy : Int32 → Yc → Prop) : Prop := ((p0 = none → Qy (0 : Int32) Y) ∧ (∀ w3 : Rq, p0 = some w3 → ((p1 = none → Qy (0 : Int32) Y) ∧ (∀ w7 : Rq, p1 = some w7 → (∀ x9 : Int32, x9 = w3.1 → (∀ x11 : Int32, x11 = w7.1 → ((¬ x9 = x11 → Qy (0 : Int32) Y) ∧ (x9 = x11 → (∀ x14 : Int32, x14 = w3.2.1 → (∀ x16 : Int32, x16 = w7.2.1 → ((¬ x14 = x16 → Qy (0 : Int32) Y) ∧ (x14 = x16 → Qy (1 : Int32) Y))))))))))))
set_option maxHeartbeats 4000000 in
set_option maxRecDepth 100000 in
theorem y_X11_isSameRequest {n : Nat} {ad aa : Nat → Nat → Nat} {p0 : Option Rq} {p1 : Option Rq} {σ : Sto} {Y : Yc} {Q : Int32 → Sto → Prop} {Qy : Int32 → Yc → Prop} (hR : HY n ad aa σ Y) {ap0 : Option Nat} (hp0 : rq σ ap0 p0) {ap1 : Option Nat} (hp1 : rq σ ap1 p1) (h : wy_X11_isSameRequest n p0 p1 Y Qy) (hQ : ∀ (r : Int32) (σ' : Sto) (Y' : Yc), Qy r Y' → HY n ad aa σ' Y' → Fy n ad aa σ σ' → Q r σ') : wp_X11_isSameRequest ap0 ap1 σ Q := by
  have F : Fy n ad aa σ σ := Fy.rf
  unfold wy_X11_isSameRequest at h
  unfold wp_X11_isSameRequest
  refine ⟨fun c1 => ?_, fun b2 c1 => ?_⟩
  · have h := h.1 (rq_none hp0 c1)
    exact hQ _ _ _ h hR F
  · obtain ⟨w3, ew4⟩ := rq_some hp0 c1
    have h := h.2 w3 ew4
    refine ⟨fun c5 => ?_, fun b6 c5 => ?_⟩
    · have h := h.1 (rq_none hp1 c5)
      exact hQ _ _ _ h hR F
    · obtain ⟨w7, ew8⟩ := rq_some hp1 c5
      have h := h.2 w7 ew8
      refine ⟨(rq_get hp0 c1 ew4).1, ?_⟩
      intro x9 e10
      have e10 : x9 = w3.1 := e10.trans ((rq_get hp0 c1 ew4).2.1)
      have h := h x9 e10
      refine ⟨(rq_get hp1 c5 ew8).1, ?_⟩
      intro x11 e12
      have e12 : x11 = w7.1 := e12.trans ((rq_get hp1 c5 ew8).2.1)
      have h := h x11 e12
      refine ⟨fun c13 => ?_, fun c13 => ?_⟩
      · have h := h.1 c13
        exact hQ _ _ _ h hR F
      · have h := h.2 c13
        intro x14 e15
        have e15 : x14 = w3.2.1 := e15.trans ((rq_get hp0 c1 ew4).2.2.1)
        have h := h x14 e15
        intro x16 e17
        have e17 : x16 = w7.2.1 := e17.trans ((rq_get hp1 c5 ew8).2.2.1)
        have h := h x16 e17
        refine ⟨fun c18 => ?_, fun c18 => ?_⟩
        · have h := h.1 c18
          exact hQ _ _ _ h hR F
        · have h := h.2 c18
          exact hQ _ _ _ h hR F
def by_X10_keeps_74 (n : Nat)  (Qy : Int32 → Yc → Prop)  (Y : Yc) : Prop := Qy (1 : Int32) Y
set_option maxHeartbeats 4000000 in
set_option maxRecDepth 100000 in
theorem yb_X10_keeps_74 {n : Nat} {ad aa : Nat → Nat → Nat} {σ0 : Sto} {Q : Int32 → Sto → Prop} {Qy : Int32 → Yc → Prop} (hQ : ∀ (r : Int32) (σ' : Sto) (Y' : Yc), Qy r Y' → HY n ad aa σ' Y' → Fy n ad aa σ0 σ' → Q r σ')   (σ : Sto) (Y : Yc) (hR : HY n ad aa σ Y) (F : Fy n ad aa σ0 σ) (h : by_X10_keeps_74 n  Qy  Y) : b_X10_keeps_74 (ad 10 0)  Q  σ := by
  unfold by_X10_keeps_74 at h
  unfold b_X10_keeps_74
  exact hQ _ _ _ h hR F
def fy_X10_keeps_22 (n : Nat)  (Qy : Int32 → Yc → Prop) (Ly22 : Nat × Nat × Int32 → Yc → Prop) (t : Nat × Nat × Int32) (Y : Yc) : Prop := (∀ x2 : Int32, x2 = yI Y 201 t.1 → ((x2 ≤ t.2.2 → Qy (0 : Int32) Y) ∧ (¬ x2 ≤ t.2.2 → (((100 : Int32) ≤ t.2.2 → Qy (0 : Int32) Y) ∧ (¬ (100 : Int32) ≤ t.2.2 → (vp_in t.2.2 100 ∧ (∀ q10 : Option Rq, q10 = yS Y 200 t.1 t.2.2.toNatClampNeg → (∀ q15 : Option Rq, q15 = yP Y 600 t.2.1 → (wy_X11_isSameRequest n q10 q15 Y (fun (x22 : Int32) (Y19 : Yc) => ((x22 = 0 → (∀ x26 : Int32, x26 = t.2.2 + (1 : Int32) → Ly22 (t.1, t.2.1, x26) Y19)) ∧ (¬ x22 = 0 → (vp_in t.2.2 100 ∧ (∀ x30 : Int32, x30 = yA Y19 1003 0 t.2.2.toNatClampNeg → ((x30 = 0 → by_X10_keeps_74 n  Qy  Y19) ∧ (¬ x30 = 0 → (vp_in t.2.2 100 ∧ (∀ x35 : Int32, x35 = yA Y19 1004 0 t.2.2.toNatClampNeg → (∀ x37 : Int32, x37 = yI Y19 604 t.2.1 → ((¬ x35 = x37 → Qy (0 : Int32) Y19) ∧ (x35 = x37 → by_X10_keeps_74 n  Qy  Y19)))))))))))))))))))))
set_option maxHeartbeats 4000000 in
set_option maxRecDepth 100000 in
theorem yf_X10_keeps_22 {n : Nat} {ad aa : Nat → Nat → Nat} {σ0 : Sto} {Q : Int32 → Sto → Prop} {Qy : Int32 → Yc → Prop} {Ly22 : Nat × Nat × Int32 → Yc → Prop} {L22 : Option Nat × Option Nat × Int32 → Sto → Prop} (hQ : ∀ (r : Int32) (σ' : Sto) (Y' : Yc), Qy r Y' → HY n ad aa σ' Y' → Fy n ad aa σ0 σ' → Q r σ') (hL22 : ∀ (t9 : Option Nat × Option Nat × Int32) (t : Nat × Nat × Int32) (σ : Sto) (Y : Yc), Ly22 t Y → HY n ad aa σ Y → Fy n ad aa σ0 σ → (((some (ad 2 t.1)), (some (ad 6 t.2.1)), t.2.2) = t9 ∧ Ob n 2 t.1 ∧ Ob n 6 t.2.1 ∧ True) → L22 t9 σ) : ∀ (t9 : Option Nat × Option Nat × Int32) (t : Nat × Nat × Int32) (σ : Sto) (Y : Yc), HY n ad aa σ Y → Fy n ad aa σ0 σ → (((some (ad 2 t.1)), (some (ad 6 t.2.1)), t.2.2) = t9 ∧ Ob n 2 t.1 ∧ Ob n 6 t.2.1 ∧ True) → fy_X10_keeps_22 n  Qy Ly22 t Y → f_X10_keeps_22 (ad 10 0)  Q L22 t9 σ := by
  intro t9 t σ Y hR F hT h
  obtain ⟨rfl, hL_1, hL_2, _⟩ := hT
  unfold fy_X10_keeps_22 at h
  unfold f_X10_keeps_22
  dsimp only
  refine ⟨_, rfl, ?_⟩
  refine ⟨hR.K hL_1, ?_⟩
  intro x2 e3
  have e3 : x2 = yI Y 201 t.1 := e3.trans (hR.I (x := 201) hL_1 1 (by decide) rfl)
  have h := h x2 e3
  refine ⟨fun c4 => ?_, fun c4 => ?_⟩
  · have h := h.1 c4
    exact hQ _ _ _ h hR F
  · have h := h.2 c4
    refine ⟨fun c5 => ?_, fun c5 => ?_⟩
    · have h := h.1 c5
      exact hQ _ _ _ h hR F
    · have h := h.2 c5
      have a6 : sP σ (ad 2 t.1) 0 = some (aa 200 t.1) := hR.ar (x := 200) hL_1 0 (by decide) rfl (by decide)
      refine ⟨_, a6, ?_⟩
      refine ⟨hR.arK (x := 200) hL_1 0 (by decide) rfl (by decide), ?_⟩
      have hz := h.1
      refine ⟨by first | exact hR.arV (x := 200) hL_1 0 (by decide) rfl (by decide) hz | exact hz, ?_⟩
      have h := h.2
      obtain ⟨q10, e11⟩ : ∃ z, z = yS Y 200 t.1 t.2.2.toNatClampNeg := ⟨_, rfl⟩
      have h := h q10 e11
      intro r8 e9
      have hr12 := rq_of (hR.S (x := 200) hL_1 0 (by decide) rfl (by decide) (t.2.2.toNatClampNeg)) e9 e11
      refine ⟨_, rfl, ?_⟩
      refine ⟨hR.K hL_2, ?_⟩
      obtain ⟨q15, e16⟩ : ∃ z, z = yP Y 600 t.2.1 := ⟨_, rfl⟩
      have h := h q15 e16
      have hr17 := rq_of (hR.P (x := 600) hL_2 0 (by decide) rfl (by decide)) rfl e16
      refine y_X11_isSameRequest hR hr12 hr17 h (fun x22 σ18 Y19 h hR21 f20 => ?_)
      have F := F.trans f20
      have hR := hR21
      refine ⟨fun c25 => ?_, fun c25 => ?_⟩
      · have h := h.1 c25
        intro x26 e27
        have h := h x26 e27
        exact hL22 _ _ _ _ h hR F ⟨rfl, hL_1, hL_2, trivial⟩
      · have h := h.2 c25
        refine ⟨hR.K ob_10, ?_⟩
        have a28 : sP σ18 (ad 10 0) 3 = some (aa 1003 0) := hR.ar (x := 1003) ob_10 3 (by decide) rfl (by decide)
        refine ⟨_, a28, ?_⟩
        refine ⟨hR.arK (x := 1003) ob_10 3 (by decide) rfl (by decide), ?_⟩
        have hz := h.1
        refine ⟨by first | exact hR.arV (x := 1003) ob_10 3 (by decide) rfl (by decide) hz | exact hz, ?_⟩
        have h := h.2
        intro x30 e31
        have e31 : x30 = yA Y19 1003 0 t.2.2.toNatClampNeg := e31.trans (hR.A (x := 1003) ob_10 3 (by decide) rfl (by decide) _)
        have h := h x30 e31
        refine ⟨fun c32 => ?_, fun c32 => ?_⟩
        · have h := h.1 c32
          exact yb_X10_keeps_74 hQ   _ _ hR F  h
        · have h := h.2 c32
          have a33 : sP σ18 (ad 10 0) 4 = some (aa 1004 0) := hR.ar (x := 1004) ob_10 4 (by decide) rfl (by decide)
          refine ⟨_, a33, ?_⟩
          refine ⟨hR.arK (x := 1004) ob_10 4 (by decide) rfl (by decide), ?_⟩
          have hz := h.1
          refine ⟨by first | exact hR.arV (x := 1004) ob_10 4 (by decide) rfl (by decide) hz | exact hz, ?_⟩
          have h := h.2
          intro x35 e36
          have e36 : x35 = yA Y19 1004 0 t.2.2.toNatClampNeg := e36.trans (hR.A (x := 1004) ob_10 4 (by decide) rfl (by decide) _)
          have h := h x35 e36
          refine ⟨hR.K hL_2, ?_⟩
          intro x37 e38
          have e38 : x37 = yI Y19 604 t.2.1 := e38.trans (hR.I (x := 604) hL_2 4 (by decide) rfl)
          have h := h x37 e38
          refine ⟨fun c39 => ?_, fun c39 => ?_⟩
          · have h := h.1 c39
            exact hQ _ _ _ h hR F
          · have h := h.2 c39
            exact yb_X10_keeps_74 hQ   _ _ hR F  h
def wy_X10_keeps (n : Nat) (p1 : Nat) (p2 : Nat) (Y : Yc) (Qy : Int32 → Yc → Prop) : Prop := (∀ x2 : Int32, x2 = yI Y 602 p2 → (wy_X2_at n p1 x2 Y (fun (q9 : Option Rq) (Y6 : Yc) => (∀ q13 : Option Rq, q13 = yP Y6 600 p2 → (wy_X11_isSameRequest n q9 q13 Y6 (fun (x20 : Int32) (Y17 : Yc) => ((¬ x20 = 0 → LFy (fy_X10_keeps_22 n  Qy) (p1, p2, (0 : Int32)) Y17) ∧ (x20 = 0 → Qy (0 : Int32) Y17))))))))
set_option maxHeartbeats 4000000 in
set_option maxRecDepth 100000 in
theorem y_X10_keeps {n : Nat} {ad aa : Nat → Nat → Nat} {p1 : Nat} {p2 : Nat} {σ : Sto} {Y : Yc} {Q : Int32 → Sto → Prop} {Qy : Int32 → Yc → Prop} (hR : HY n ad aa σ Y) (hp1 : Ob n 2 p1) (hp2 : Ob n 6 p2) (h : wy_X10_keeps n p1 p2 Y Qy) (hQ : ∀ (r : Int32) (σ' : Sto) (Y' : Yc), Qy r Y' → HY n ad aa σ' Y' → Fy n ad aa σ σ' → Q r σ') : wp_X10_keeps (ad 10 0) (some (ad 2 p1)) (some (ad 6 p2)) σ Q := by
  have F : Fy n ad aa σ σ := Fy.rf
  unfold wy_X10_keeps at h
  unfold wp_X10_keeps
  refine ⟨_, rfl, ?_⟩
  refine ⟨hR.K hp2, ?_⟩
  intro x2 e3
  have e3 : x2 = yI Y 602 p2 := e3.trans (hR.I (x := 602) hp2 2 (by decide) rfl)
  have h := h x2 e3
  refine ⟨_, rfl, ?_⟩
  refine ⟨hR.K hp1, ?_⟩
  refine y_X2_at hR hp1  h (fun r11 q9 σ5 Y6 h hr10 hR8 f7 => ?_)
  have F := F.trans f7
  have hR := hR8
  refine ⟨hR.K hp2, ?_⟩
  obtain ⟨q13, e14⟩ : ∃ z, z = yP Y6 600 p2 := ⟨_, rfl⟩
  have h := h q13 e14
  have hr15 := rq_of (hR.P (x := 600) hp2 0 (by decide) rfl (by decide)) rfl e14
  refine y_X11_isSameRequest hR hr10 hr15 h (fun x20 σ16 Y17 h hR19 f18 => ?_)
  have F := F.trans f18
  have hR := hR19
  refine ⟨fun c23 => ?_, fun c23 => ?_⟩
  · have h := h.1 c23
    exact lfy (fun σ t9 t => ((some (ad 2 t.1)), (some (ad 6 t.2.1)), t.2.2) = t9 ∧ Ob n 2 t.1 ∧ Ob n 6 t.2.1 ∧ True) h hR F ⟨rfl, hp1, hp2, trivial⟩ (fun Ly L hL t9 t σ Y hR F hT h => yf_X10_keeps_22 hQ  hL t9 t σ Y hR F hT h)
  · have h := h.2 c23
    exact hQ _ _ _ h hR F
def wy_X11_isClient (n : Nat) (p1 : Int32) (Y : Yc) (Qy : Int32 → Yc → Prop) : Prop := ((p1 < 0 → Qy (0 : Int32) Y) ∧ (¬ p1 < 0 → (((nI 4) ≤ p1 → Qy (0 : Int32) Y) ∧ (¬ (nI 4) ≤ p1 → Qy (1 : Int32) Y))))
set_option maxHeartbeats 4000000 in
set_option maxRecDepth 100000 in
theorem y_X11_isClient {n : Nat} {ad aa : Nat → Nat → Nat} {p1 : Int32} {σ : Sto} {Y : Yc} {Q : Int32 → Sto → Prop} {Qy : Int32 → Yc → Prop} (hR : HY n ad aa σ Y) (h : wy_X11_isClient n p1 Y Qy) (hQ : ∀ (r : Int32) (σ' : Sto) (Y' : Yc), Qy r Y' → HY n ad aa σ' Y' → Fy n ad aa σ σ' → Q r σ') : wp_X11_isClient (ad 11 0) p1 σ Q := by
  have F : Fy n ad aa σ σ := Fy.rf
  unfold wy_X11_isClient at h
  unfold wp_X11_isClient
  refine ⟨fun c1 => ?_, fun c1 => ?_⟩
  · have h := h.1 c1
    exact hQ _ _ _ h hR F
  · have h := h.2 c1
    refine ⟨hR.K ob_11, ?_⟩
    have a2 : sP σ (ad 11 0) 4 = some (aa 1104 0) := hR.ar (x := 1104) ob_11 4 (by decide) rfl (by decide)
    refine ⟨_, a2, ?_⟩
    refine ⟨hR.arK (x := 1104) ob_11 4 (by decide) rfl (by decide), ?_⟩
    rw [show sN σ (aa 1104 0) = 4 from hR.arN (x := 1104) ob_11 4 (by decide) rfl (by decide)]
    refine ⟨fun c4 => ?_, fun c4 => ?_⟩
    · have h := h.1 c4
      exact hQ _ _ _ h hR F
    · have h := h.2 c4
      exact hQ _ _ _ h hR F
def fy_X11_stamp_31 (n : Nat)  (Qy : Yc → Prop) (Ly31 : Nat × Int32 → Yc → Prop) (t : Nat × Int32) (Y : Yc) : Prop := (∀ x3 : Int32, x3 = yI Y 400 0 → ((x3 ≤ t.2 → Qy Y) ∧ (¬ x3 ≤ t.2 → (∀ x7 : Int32, x7 = yI Y 1106 0 → (wy_X11_viewOf n (0 : Int32) x7 Y (fun (y13 : Int64) (Y10 : Yc) => (∀ x16 : Int32, x16 = yI Y10 1107 0 → (wy_X4_send n (0 : Int32) (-1 : Int32) t.2 y13 x16 Y10 (fun (o22 : Nat) (Y19 : Yc) => (∀ q27 : Option Rq, q27 = yP Y19 100 t.1 → (∀ x35 : Int32, x35 = t.2 + (1 : Int32) → Ly31 (t.1, x35) (uP Y19 307 o22 q27))))))))))))
set_option maxHeartbeats 4000000 in
set_option maxRecDepth 100000 in
theorem yf_X11_stamp_31 {n : Nat} {ad aa : Nat → Nat → Nat} {σ0 : Sto} {Q : Sto → Prop} {Qy : Yc → Prop} {Ly31 : Nat × Int32 → Yc → Prop} {L31 : Option Nat × Int32 → Sto → Prop} (hQ : ∀ (σ' : Sto) (Y' : Yc), Qy Y' → HY n ad aa σ' Y' → Fy n ad aa σ0 σ' → Q σ') (hL31 : ∀ (t9 : Option Nat × Int32) (t : Nat × Int32) (σ : Sto) (Y : Yc), Ly31 t Y → HY n ad aa σ Y → Fy n ad aa σ0 σ → (((some (ad 1 t.1)), t.2) = t9 ∧ Ob n 1 t.1 ∧ True) → L31 t9 σ) : ∀ (t9 : Option Nat × Int32) (t : Nat × Int32) (σ : Sto) (Y : Yc), HY n ad aa σ Y → Fy n ad aa σ0 σ → (((some (ad 1 t.1)), t.2) = t9 ∧ Ob n 1 t.1 ∧ True) → fy_X11_stamp_31 n  Qy Ly31 t Y → f_X11_stamp_31 (ad 11 0)  Q L31 t9 σ := by
  intro t9 t σ Y hR F hT h
  obtain ⟨rfl, hL_1, _⟩ := hT
  unfold fy_X11_stamp_31 at h
  unfold f_X11_stamp_31
  dsimp only
  refine ⟨hR.K ob_11, ?_⟩
  have a1 : sP σ (ad 11 0) 1 = some (ad 4 0) := hR.lk ob_11 1 (by decide) rfl
  refine ⟨_, a1, ?_⟩
  refine ⟨hR.K ob_4, ?_⟩
  intro x3 e4
  have e4 : x3 = yI Y 400 0 := e4.trans (hR.I (x := 400) ob_4 0 (by decide) rfl)
  have h := h x3 e4
  refine ⟨fun c5 => ?_, fun c5 => ?_⟩
  · have h := h.1 c5
    exact hQ _ _ h hR F
  · have h := h.2 c5
    have a6 : sP σ (ad 11 0) 1 = some (ad 4 0) := hR.lk ob_11 1 (by decide) rfl
    intro x7 e8
    have e8 : x7 = yI Y 1106 0 := e8.trans (hR.I (x := 1106) ob_11 6 (by decide) rfl)
    have h := h x7 e8
    refine y_X11_viewOf hR  h (fun y13 σ9 Y10 h hR12 f11 => ?_)
    have F := F.trans f11
    have hR := hR12
    refine ⟨hR.K ob_11, ?_⟩
    intro x16 e17
    have e17 : x16 = yI Y10 1107 0 := e17.trans (hR.I (x := 1107) ob_11 7 (by decide) rfl)
    have h := h x16 e17
    refine ⟨hR.K ob_4, ?_⟩
    refine y_X4_send hR  h (fun o22 σ18 Y19 h hO23 hR21 f20 => ?_)
    have F := F.trans f20
    have hR := hR21
    refine ⟨_, rfl, ?_⟩
    refine ⟨hR.K hL_1, ?_⟩
    obtain ⟨q27, e28⟩ : ∃ z, z = yP Y19 100 t.1 := ⟨_, rfl⟩
    have h := h q27 e28
    have hr29 := rq_of (hR.P (x := 100) hL_1 0 (by decide) rfl (by decide)) rfl e28
    intro r30 e31
    have hr32 := rq_of hr29 e31 rfl
    refine ⟨_, rfl, ?_⟩
    refine ⟨hR.K hO23, ?_⟩
    have w34 := hR.wP (x := 307) hO23 7 (by decide) rfl (by decide) hr32
    have F := F.trans w34.2
    have hR := w34.1
    intro x35 e36
    have h := h x35 e36
    exact hL31 _ _ _ _ h hR F ⟨rfl, hL_1, trivial⟩
def wy_X11_stamp (n : Nat) (p1 : Nat) (Y : Yc) (Qy : Yc → Prop) : Prop := (∀ x3 : Int32, x3 = yI Y 408 0 → (∀ x7 : Int32, x7 = yI (uI Y 103 p1 x3) 1105 0 → ((¬ x7 = 0 → (∀ x10 : Int32, x10 = yI (uI Y 103 p1 x3) 1107 0 → (∀ x12 : Int32, x12 = x10 + (1 : Int32) → LFy (fy_X11_stamp_31 n  Qy) (p1, (0 : Int32)) (uI (uI Y 103 p1 x3) 1107 0 x12)))) ∧ (x7 = 0 → Qy (uI Y 103 p1 x3)))))
set_option maxHeartbeats 4000000 in
set_option maxRecDepth 100000 in
theorem y_X11_stamp {n : Nat} {ad aa : Nat → Nat → Nat} {p1 : Nat} {σ : Sto} {Y : Yc} {Q : Sto → Prop} {Qy : Yc → Prop} (hR : HY n ad aa σ Y) (hp1 : Ob n 1 p1) (h : wy_X11_stamp n p1 Y Qy) (hQ : ∀ (σ' : Sto) (Y' : Yc), Qy Y' → HY n ad aa σ' Y' → Fy n ad aa σ σ' → Q σ') : wp_X11_stamp (ad 11 0) (some (ad 1 p1)) σ Q := by
  have F : Fy n ad aa σ σ := Fy.rf
  unfold wy_X11_stamp at h
  unfold wp_X11_stamp
  refine ⟨hR.K ob_11, ?_⟩
  have a1 : sP σ (ad 11 0) 1 = some (ad 4 0) := hR.lk ob_11 1 (by decide) rfl
  refine ⟨_, a1, ?_⟩
  refine ⟨hR.K ob_4, ?_⟩
  intro x3 e4
  have e4 : x3 = yI Y 408 0 := e4.trans (hR.I (x := 408) ob_4 8 (by decide) rfl)
  have h := h x3 e4
  refine ⟨_, rfl, ?_⟩
  refine ⟨hR.K hp1, ?_⟩
  have w6 := hR.wI (x := 103) hp1 3 (by decide) rfl x3
  have F := F.trans w6.2
  have hR := w6.1
  intro x7 e8
  have e8 : x7 = yI (uI Y 103 p1 x3) 1105 0 := e8.trans (hR.I (x := 1105) ob_11 5 (by decide) rfl)
  have h := h x7 e8
  refine ⟨fun c9 => ?_, fun c9 => ?_⟩
  · have h := h.1 c9
    intro x10 e11
    have e11 : x10 = yI (uI Y 103 p1 x3) 1107 0 := e11.trans (hR.I (x := 1107) ob_11 7 (by decide) rfl)
    have h := h x10 e11
    intro x12 e13
    have h := h x12 e13
    have w14 := hR.wI (x := 1107) ob_11 7 (by decide) rfl x12
    have F := F.trans w14.2
    have hR := w14.1
    exact lfy (fun σ t9 t => ((some (ad 1 t.1)), t.2) = t9 ∧ Ob n 1 t.1 ∧ True) h hR F ⟨rfl, hp1, trivial⟩ (fun Ly L hL t9 t σ Y hR F hT h => yf_X11_stamp_31 hQ  hL t9 t σ Y hR F hT h)
  · have h := h.2 c9
    exact hQ _ _ h hR F
def wy_X11_again (n : Nat) (p1 : Int32) (Y : Yc) (Qy : Yc → Prop) (Xy : Nat → Yc → Prop) : Prop := (wy_X11_isClient n p1 Y (fun (x5 : Int32) (Y2 : Yc) => ((¬ x5 = 0 → (vp_in p1 4 ∧ (∀ x16 : Int32, x16 = yI Y2 102 (p1.toNatClampNeg) → ((¬ x16 = 0 → (wy_X11_stamp n (p1.toNatClampNeg) Y2 (fun (Y20 : Yc) => Qy Y20))) ∧ (x16 = 0 → Xy 2 Y2))))) ∧ (x5 = 0 → Xy 0 Y2))))
set_option maxHeartbeats 4000000 in
set_option maxRecDepth 100000 in
theorem y_X11_again {n : Nat} {ad aa : Nat → Nat → Nat} {p1 : Int32} {σ : Sto} {Y : Yc} {Q : Sto → Prop} {Qy : Yc → Prop} {X : Nat → Sto → Prop} {Xy : Nat → Yc → Prop} (hR : HY n ad aa σ Y) (h : wy_X11_again n p1 Y Qy Xy) (hQ : ∀ (σ' : Sto) (Y' : Yc), Qy Y' → HY n ad aa σ' Y' → Fy n ad aa σ σ' → Q σ') (hX : ∀ (n0 : Nat) (σ' : Sto) (Y' : Yc), Xy n0 Y' → HY n ad aa σ' Y' → Fy n ad aa σ σ' → X n0 σ') : wp_X11_again (ad 11 0) p1 σ Q X := by
  have F : Fy n ad aa σ σ := Fy.rf
  unfold wy_X11_again at h
  unfold wp_X11_again
  refine ⟨hR.K ob_11, ?_⟩
  refine y_X11_isClient hR  h (fun x5 σ1 Y2 h hR4 f3 => ?_)
  have F := F.trans f3
  have hR := hR4
  refine ⟨fun c8 => ?_, fun c8 => ?_⟩
  · have h := h.1 c8
    refine ⟨hR.K ob_11, ?_⟩
    have a9 : sP σ1 (ad 11 0) 4 = some (aa 1104 0) := hR.ar (x := 1104) ob_11 4 (by decide) rfl (by decide)
    refine ⟨_, a9, ?_⟩
    refine ⟨hR.arK (x := 1104) ob_11 4 (by decide) rfl (by decide), ?_⟩
    have hz := h.1
    refine ⟨by first | exact hR.arV (x := 1104) ob_11 4 (by decide) rfl (by decide) hz | exact hz, ?_⟩
    have h := h.2
    have hO14 : Ob n 1 (p1.toNatClampNeg) := ob_1104 hz
    intro r12 e13
    have e13 := e13.trans (hR.el (x := 1104) ob_11 4 (by decide) rfl (by decide) (el_1104 hz))
    subst e13
    refine ⟨_, rfl, ?_⟩
    refine ⟨hR.K hO14, ?_⟩
    intro x16 e17
    have e17 : x16 = yI Y2 102 (p1.toNatClampNeg) := e17.trans (hR.I (x := 102) hO14 2 (by decide) rfl)
    have h := h x16 e17
    refine ⟨fun c18 => ?_, fun c18 => ?_⟩
    · have h := h.1 c18
      refine y_X11_stamp hR hO14 h (fun σ19 Y20 h hR22 f21 => ?_)
      have F := F.trans f21
      have hR := hR22
      exact hQ _ _ h hR F
    · have h := h.2 c18
      exact hX _ _ _ h hR F
  · have h := h.2 c8
    exact hX _ _ _ h hR F
def by_X11_handToClient_83 (n : Nat)  (Qy : Yc → Prop)  (Y : Yc) : Prop := (∀ x1 : Int32, x1 = yI Y 1110 0 → (∀ x3 : Int32, x3 = x1 + (1 : Int32) → Qy (uI Y 1110 0 x3)))
set_option maxHeartbeats 4000000 in
set_option maxRecDepth 100000 in
theorem yb_X11_handToClient_83 {n : Nat} {ad aa : Nat → Nat → Nat} {σ0 : Sto} {Q : Sto → Prop} {Qy : Yc → Prop} (hQ : ∀ (σ' : Sto) (Y' : Yc), Qy Y' → HY n ad aa σ' Y' → Fy n ad aa σ0 σ' → Q σ')   (σ : Sto) (Y : Yc) (hR : HY n ad aa σ Y) (F : Fy n ad aa σ0 σ) (h : by_X11_handToClient_83 n  Qy  Y) : b_X11_handToClient_83 (ad 11 0)  Q  σ := by
  unfold by_X11_handToClient_83 at h
  unfold b_X11_handToClient_83
  refine ⟨hR.K ob_11, ?_⟩
  intro x1 e2
  have e2 : x1 = yI Y 1110 0 := e2.trans (hR.I (x := 1110) ob_11 10 (by decide) rfl)
  have h := h x1 e2
  intro x3 e4
  have h := h x3 e4
  have w5 := hR.wI (x := 1110) ob_11 10 (by decide) rfl x3
  have F := F.trans w5.2
  have hR := w5.1
  exact hQ _ _ h hR F
def wy_X11_handToClient (n : Nat) (p1 : Nat) (Y : Yc) (Qy : Yc → Prop) : Prop := (∀ x2 : Int32, x2 = yI Y 303 p1 → (wy_X11_isClient n x2 Y (fun (x8 : Int32) (Y5 : Yc) => ((¬ x8 = 0 → (∀ x13 : Int32, x13 = yI Y5 303 p1 → (vp_in x13 4 ∧ (∀ y21 : Int64, y21 = yJ Y5 304 p1 → (wy_X4_leaderOf n y21 Y5 (fun (x28 : Int32) (Y25 : Yc) => (∀ x33 : Int32, x33 = yI Y25 401 0 → (wy_X1_hearReply n (x13.toNatClampNeg) p1 x28 (x33 + (1 : Int32)) Y25 (fun (x40 : Int32) (Y37 : Yc) => ((x40 = 0 → Qy Y37) ∧ (¬ x40 = 0 → (∀ x44 : Int32, x44 = yI Y37 1110 0 → (wy_J9_floorMod_7cf53 n x44 (200 : Int32) Y37 (fun (x50 : Int32) (Y47 : Yc) => (((nI 200) ≤ x50 → by_X11_handToClient_83 n  Qy  Y47) ∧ (¬ (nI 200) ≤ x50 → (vp_in x50 200 ∧ (wy_X6_become n (260 + x50.toNatClampNeg) (x13.toNatClampNeg) Y47 (fun (Y64 : Yc) => by_X11_handToClient_83 n  Qy  Y64))))))))))))))))))) ∧ (x8 = 0 → Qy Y5)))))
set_option maxHeartbeats 4000000 in
set_option maxRecDepth 100000 in
theorem y_X11_handToClient {n : Nat} {ad aa : Nat → Nat → Nat} {p1 : Nat} {σ : Sto} {Y : Yc} {Q : Sto → Prop} {Qy : Yc → Prop} (hR : HY n ad aa σ Y) (hp1 : Ob n 3 p1) (h : wy_X11_handToClient n p1 Y Qy) (hQ : ∀ (σ' : Sto) (Y' : Yc), Qy Y' → HY n ad aa σ' Y' → Fy n ad aa σ σ' → Q σ') : wp_X11_handToClient (ad 11 0) (some (ad 3 p1)) σ Q := by
  have F : Fy n ad aa σ σ := Fy.rf
  unfold wy_X11_handToClient at h
  unfold wp_X11_handToClient
  refine ⟨_, rfl, ?_⟩
  refine ⟨hR.K hp1, ?_⟩
  intro x2 e3
  have e3 : x2 = yI Y 303 p1 := e3.trans (hR.I (x := 303) hp1 3 (by decide) rfl)
  have h := h x2 e3
  refine ⟨hR.K ob_11, ?_⟩
  refine y_X11_isClient hR  h (fun x8 σ4 Y5 h hR7 f6 => ?_)
  have F := F.trans f6
  have hR := hR7
  refine ⟨fun c11 => ?_, fun c11 => ?_⟩
  · have h := h.1 c11
    refine ⟨hR.K ob_11, ?_⟩
    have a12 : sP σ4 (ad 11 0) 4 = some (aa 1104 0) := hR.ar (x := 1104) ob_11 4 (by decide) rfl (by decide)
    refine ⟨hR.K hp1, ?_⟩
    intro x13 e14
    have e14 : x13 = yI Y5 303 p1 := e14.trans (hR.I (x := 303) hp1 3 (by decide) rfl)
    have h := h x13 e14
    refine ⟨_, a12, ?_⟩
    refine ⟨hR.arK (x := 1104) ob_11 4 (by decide) rfl (by decide), ?_⟩
    have hz := h.1
    refine ⟨by first | exact hR.arV (x := 1104) ob_11 4 (by decide) rfl (by decide) hz | exact hz, ?_⟩
    have h := h.2
    have hO19 : Ob n 1 (x13.toNatClampNeg) := ob_1104 hz
    intro r17 e18
    have e18 := e18.trans (hR.el (x := 1104) ob_11 4 (by decide) rfl (by decide) (el_1104 hz))
    subst e18
    have a20 : sP σ4 (ad 11 0) 1 = some (ad 4 0) := hR.lk ob_11 1 (by decide) rfl
    intro y21 e22
    have e22 : y21 = yJ Y5 304 p1 := e22.trans (hR.J (x := 304) hp1 4 (by decide) rfl)
    have h := h y21 e22
    refine ⟨_, a20, ?_⟩
    refine ⟨hR.K ob_4, ?_⟩
    refine y_X4_leaderOf hR  h (fun x28 σ24 Y25 h hR27 f26 => ?_)
    have F := F.trans f26
    have hR := hR27
    refine ⟨hR.K ob_11, ?_⟩
    have a31 : sP σ24 (ad 11 0) 1 = some (ad 4 0) := hR.lk ob_11 1 (by decide) rfl
    refine ⟨_, a31, ?_⟩
    refine ⟨hR.K ob_4, ?_⟩
    intro x33 e34
    have e34 : x33 = yI Y25 401 0 := e34.trans (hR.I (x := 401) ob_4 1 (by decide) rfl)
    have h := h x33 e34
    refine ⟨_, rfl, ?_⟩
    refine ⟨hR.K hO19, ?_⟩
    refine y_X1_hearReply hR hO19 hp1 h (fun x40 σ36 Y37 h hR39 f38 => ?_)
    have F := F.trans f38
    have hR := hR39
    refine ⟨fun c43 => ?_, fun c43 => ?_⟩
    · have h := h.1 c43
      exact hQ _ _ h hR F
    · have h := h.2 c43
      refine ⟨hR.K ob_11, ?_⟩
      intro x44 e45
      have e45 : x44 = yI Y37 1110 0 := e45.trans (hR.I (x := 1110) ob_11 10 (by decide) rfl)
      have h := h x44 e45
      refine y_J9_floorMod_7cf53 hR  h (fun x50 σ46 Y47 h hR49 f48 => ?_)
      have F := F.trans f48
      have hR := hR49
      refine ⟨hR.K ob_11, ?_⟩
      have a53 : sP σ46 (ad 11 0) 9 = some (aa 1109 0) := hR.ar (x := 1109) ob_11 9 (by decide) rfl (by decide)
      refine ⟨_, a53, ?_⟩
      refine ⟨hR.arK (x := 1109) ob_11 9 (by decide) rfl (by decide), ?_⟩
      rw [show sN σ46 (aa 1109 0) = 200 from hR.arN (x := 1109) ob_11 9 (by decide) rfl (by decide)]
      refine ⟨fun c55 => ?_, fun c55 => ?_⟩
      · have h := h.1 c55
        exact yb_X11_handToClient_83 hQ   _ _ hR F  h
      · have h := h.2 c55
        have a56 : sP σ46 (ad 11 0) 9 = some (aa 1109 0) := hR.ar (x := 1109) ob_11 9 (by decide) rfl (by decide)
        have hz := h.1
        refine ⟨by first | exact hR.arV (x := 1109) ob_11 9 (by decide) rfl (by decide) hz | exact hz, ?_⟩
        have h := h.2
        have hO60 : Ob n 6 (260 + x50.toNatClampNeg) := ob_1109 hz
        intro r58 e59
        have e59 := e59.trans (hR.el (x := 1109) ob_11 9 (by decide) rfl (by decide) (el_1109 hz))
        subst e59
        refine ⟨hR.K hO19, ?_⟩
        have a61 : sP σ46 (ad 1 (x13.toNatClampNeg)) 4 = some (ad 6 (x13.toNatClampNeg)) := hR.lk hO19 4 (by decide) rfl
        refine ⟨_, rfl, ?_⟩
        refine ⟨hR.K hO60, ?_⟩
        rw [a61]
        refine y_X6_become hR hO60 (ob_104 hO19) h (fun σ63 Y64 h hR66 f65 => ?_)
        have F := F.trans f65
        have hR := hR66
        exact yb_X11_handToClient_83 hQ   _ _ hR F  h
  · have h := h.2 c11
    exact hQ _ _ h hR F
def wy_X11_isReplica (n : Nat) (p1 : Int32) (Y : Yc) (Qy : Int32 → Yc → Prop) : Prop := ((p1 < 0 → Qy (0 : Int32) Y) ∧ (¬ p1 < 0 → (((nI n) ≤ p1 → Qy (0 : Int32) Y) ∧ (¬ (nI n) ≤ p1 → Qy (1 : Int32) Y))))
set_option maxHeartbeats 4000000 in
set_option maxRecDepth 100000 in
theorem y_X11_isReplica {n : Nat} {ad aa : Nat → Nat → Nat} {p1 : Int32} {σ : Sto} {Y : Yc} {Q : Int32 → Sto → Prop} {Qy : Int32 → Yc → Prop} (hR : HY n ad aa σ Y) (h : wy_X11_isReplica n p1 Y Qy) (hQ : ∀ (r : Int32) (σ' : Sto) (Y' : Yc), Qy r Y' → HY n ad aa σ' Y' → Fy n ad aa σ σ' → Q r σ') : wp_X11_isReplica (ad 11 0) p1 σ Q := by
  have F : Fy n ad aa σ σ := Fy.rf
  unfold wy_X11_isReplica at h
  unfold wp_X11_isReplica
  refine ⟨fun c1 => ?_, fun c1 => ?_⟩
  · have h := h.1 c1
    exact hQ _ _ _ h hR F
  · have h := h.2 c1
    refine ⟨hR.K ob_11, ?_⟩
    have a2 : sP σ (ad 11 0) 3 = some (aa 1103 0) := hR.ar (x := 1103) ob_11 3 (by decide) rfl (by decide)
    refine ⟨_, a2, ?_⟩
    refine ⟨hR.arK (x := 1103) ob_11 3 (by decide) rfl (by decide), ?_⟩
    rw [show sN σ (aa 1103 0) = n from hR.arN (x := 1103) ob_11 3 (by decide) rfl (by decide)]
    refine ⟨fun c4 => ?_, fun c4 => ?_⟩
    · have h := h.1 c4
      exact hQ _ _ _ h hR F
    · have h := h.2 c4
      exact hQ _ _ _ h hR F
def wy_X11_handOver (n : Nat) (p1 : Int32) (Y : Yc) (Qy : Yc → Prop) : Prop := (wy_X4_pull n p1 Y (fun (o7 : Nat) (Y4 : Yc) => (∀ x11 : Int32, x11 = yI Y4 301 o7 → ((¬ x11 = (11 : Int32) → (∀ x14 : Int32, x14 = yI Y4 303 o7 → (wy_X11_isReplica n x14 Y4 (fun (x20 : Int32) (Y17 : Yc) => ((x20 = 0 → Qy Y17) ∧ (¬ x20 = 0 → (∀ x25 : Int32, x25 = yI Y17 303 o7 → (vp_in x25 n ∧ (∀ x33 : Int32, x33 = yI Y17 803 (x25.toNatClampNeg) → ((x33 = 0 → (wy_X8_hear n (x25.toNatClampNeg) o7 Y17 (fun (Y37 : Yc) => Qy Y37))) ∧ (¬ x33 = 0 → (∀ x47 : Int32, x47 = yI Y17 407 0 → (∀ x49 : Int32, x49 = x47 + (1 : Int32) → Qy (uI Y17 407 0 x49)))))))))))))) ∧ (x11 = (11 : Int32) → (wy_X11_handToClient n o7 Y4 (fun (Y53 : Yc) => Qy Y53)))))))
set_option maxHeartbeats 4000000 in
set_option maxRecDepth 100000 in
theorem y_X11_handOver {n : Nat} {ad aa : Nat → Nat → Nat} {p1 : Int32} {σ : Sto} {Y : Yc} {Q : Sto → Prop} {Qy : Yc → Prop} (hR : HY n ad aa σ Y) (h : wy_X11_handOver n p1 Y Qy) (hQ : ∀ (σ' : Sto) (Y' : Yc), Qy Y' → HY n ad aa σ' Y' → Fy n ad aa σ σ' → Q σ') : wp_X11_handOver (ad 11 0) p1 σ Q := by
  have F : Fy n ad aa σ σ := Fy.rf
  unfold wy_X11_handOver at h
  unfold wp_X11_handOver
  refine ⟨hR.K ob_11, ?_⟩
  have a1 : sP σ (ad 11 0) 1 = some (ad 4 0) := hR.lk ob_11 1 (by decide) rfl
  refine ⟨_, a1, ?_⟩
  refine ⟨hR.K ob_4, ?_⟩
  refine y_X4_pull hR  h (fun o7 σ3 Y4 h hO8 hR6 f5 => ?_)
  have F := F.trans f5
  have hR := hR6
  refine ⟨_, rfl, ?_⟩
  refine ⟨hR.K hO8, ?_⟩
  intro x11 e12
  have e12 : x11 = yI Y4 301 o7 := e12.trans (hR.I (x := 301) hO8 1 (by decide) rfl)
  have h := h x11 e12
  refine ⟨fun c13 => ?_, fun c13 => ?_⟩
  · have h := h.1 c13
    intro x14 e15
    have e15 : x14 = yI Y4 303 o7 := e15.trans (hR.I (x := 303) hO8 3 (by decide) rfl)
    have h := h x14 e15
    refine ⟨hR.K ob_11, ?_⟩
    refine y_X11_isReplica hR  h (fun x20 σ16 Y17 h hR19 f18 => ?_)
    have F := F.trans f18
    have hR := hR19
    refine ⟨fun c23 => ?_, fun c23 => ?_⟩
    · have h := h.1 c23
      exact hQ _ _ h hR F
    · have h := h.2 c23
      refine ⟨hR.K ob_11, ?_⟩
      have a24 : sP σ16 (ad 11 0) 3 = some (aa 1103 0) := hR.ar (x := 1103) ob_11 3 (by decide) rfl (by decide)
      refine ⟨hR.K hO8, ?_⟩
      intro x25 e26
      have e26 : x25 = yI Y17 303 o7 := e26.trans (hR.I (x := 303) hO8 3 (by decide) rfl)
      have h := h x25 e26
      refine ⟨_, a24, ?_⟩
      refine ⟨hR.arK (x := 1103) ob_11 3 (by decide) rfl (by decide), ?_⟩
      have hz := h.1
      refine ⟨by first | exact hR.arV (x := 1103) ob_11 3 (by decide) rfl (by decide) hz | exact hz, ?_⟩
      have h := h.2
      have hO31 : Ob n 8 (x25.toNatClampNeg) := ob_1103 hz
      intro r29 e30
      have e30 := e30.trans (hR.el (x := 1103) ob_11 3 (by decide) rfl (by decide) (el_1103 hz))
      subst e30
      refine ⟨_, rfl, ?_⟩
      refine ⟨hR.K hO31, ?_⟩
      intro x33 e34
      have e34 : x33 = yI Y17 803 (x25.toNatClampNeg) := e34.trans (hR.I (x := 803) hO31 3 (by decide) rfl)
      have h := h x33 e34
      refine ⟨fun c35 => ?_, fun c35 => ?_⟩
      · have h := h.1 c35
        refine y_X8_hear hR hO31 hO8 h (fun σ36 Y37 h hR39 f38 => ?_)
        have F := F.trans f38
        have hR := hR39
        exact hQ _ _ h hR F
      · have h := h.2 c35
        have a43 : sP σ16 (ad 11 0) 1 = some (ad 4 0) := hR.lk ob_11 1 (by decide) rfl
        intro r44 e45
        have e45 := e45.trans (a43)
        subst e45
        refine ⟨_, rfl, ?_⟩
        refine ⟨hR.K ob_4, ?_⟩
        intro x47 e48
        have e48 : x47 = yI Y17 407 0 := e48.trans (hR.I (x := 407) ob_4 7 (by decide) rfl)
        have h := h x47 e48
        intro x49 e50
        have h := h x49 e50
        have w51 := hR.wI (x := 407) ob_4 7 (by decide) rfl x49
        have F := F.trans w51.2
        have hR := w51.1
        exact hQ _ _ h hR F
  · have h := h.2 c13
    refine ⟨hR.K ob_11, ?_⟩
    refine y_X11_handToClient hR hO8 h (fun σ52 Y53 h hR55 f54 => ?_)
    have F := F.trans f54
    have hR := hR55
    exact hQ _ _ h hR F
def wy_X11_deliver (n : Nat) (p1 : Int32) (Y : Yc) (Qy : Yc → Prop) (Xy : Nat → Yc → Prop) : Prop := (wy_X4_find n p1 Y (fun (x7 : Int32) (Y4 : Yc) => ((¬ x7 = (-1 : Int32) → (wy_X11_handOver n x7 Y4 (fun (Y12 : Yc) => Qy Y12))) ∧ (x7 = (-1 : Int32) → Xy 1 Y4))))
set_option maxHeartbeats 4000000 in
set_option maxRecDepth 100000 in
theorem y_X11_deliver {n : Nat} {ad aa : Nat → Nat → Nat} {p1 : Int32} {σ : Sto} {Y : Yc} {Q : Sto → Prop} {Qy : Yc → Prop} {X : Nat → Sto → Prop} {Xy : Nat → Yc → Prop} (hR : HY n ad aa σ Y) (h : wy_X11_deliver n p1 Y Qy Xy) (hQ : ∀ (σ' : Sto) (Y' : Yc), Qy Y' → HY n ad aa σ' Y' → Fy n ad aa σ σ' → Q σ') (hX : ∀ (n0 : Nat) (σ' : Sto) (Y' : Yc), Xy n0 Y' → HY n ad aa σ' Y' → Fy n ad aa σ σ' → X n0 σ') : wp_X11_deliver (ad 11 0) p1 σ Q X := by
  have F : Fy n ad aa σ σ := Fy.rf
  unfold wy_X11_deliver at h
  unfold wp_X11_deliver
  refine ⟨hR.K ob_11, ?_⟩
  have a1 : sP σ (ad 11 0) 1 = some (ad 4 0) := hR.lk ob_11 1 (by decide) rfl
  refine ⟨_, a1, ?_⟩
  refine ⟨hR.K ob_4, ?_⟩
  refine y_X4_find hR  h (fun x7 σ3 Y4 h hR6 f5 => ?_)
  have F := F.trans f5
  have hR := hR6
  refine ⟨fun c10 => ?_, fun c10 => ?_⟩
  · have h := h.1 c10
    refine ⟨hR.K ob_11, ?_⟩
    refine y_X11_handOver hR  h (fun σ11 Y12 h hR14 f13 => ?_)
    have F := F.trans f13
    have hR := hR14
    exact hQ _ _ h hR F
  · have h := h.2 c10
    exact hX _ _ _ h hR F
